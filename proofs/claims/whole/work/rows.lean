section
-- ===== PART A: goes FIRST, ahead of the names: the tables' words, and 'selects' of the private methods out of them =====
/-- a private method of a class that the tables say can be made, by its rows of tables_1 -/
def lw_okq (q : MethodName × Nat) : Prop := (q.1.cls ≠ "java/lang/invoke/MethodHandle" ∧ q.1.cls ≠ "java/lang/invoke/VarHandle") ∧ Cond.instantiable q.1.cls q.2 ∈ tables_1 ∧ Cond.privateMethod q.1 ∈ tables_1 ∧ Cond.instanceMethod q.1 ∈ tables_1
theorem lw_p0 : lw_okq (⟨"FairyDust$Child", "isPunished", "()Z"⟩, 6) := ⟨⟨by decide +kernel, by decide +kernel⟩, List.mem_of_getElem? (i := 78) (by decide +kernel), List.mem_of_getElem? (i := 177) (by decide +kernel), List.mem_of_getElem? (i := 178) (by decide +kernel)⟩
theorem lw_p1 : lw_okq (⟨"java/lang/Throwable", "fillInStackTrace", "(I)Ljava/lang/Throwable;"⟩, 6) := ⟨⟨by decide +kernel, by decide +kernel⟩, List.mem_of_getElem? (i := 249) (by decide +kernel), List.mem_of_getElem? (i := 247) (by decide +kernel), List.mem_of_getElem? (i := 248) (by decide +kernel)⟩
theorem lw_p2 : lw_okq (⟨"FairyDust$Child", "canHave", "(I)Z"⟩, 6) := ⟨⟨by decide +kernel, by decide +kernel⟩, List.mem_of_getElem? (i := 78) (by decide +kernel), List.mem_of_getElem? (i := 279) (by decide +kernel), List.mem_of_getElem? (i := 280) (by decide +kernel)⟩
theorem lw_p3 : lw_okq (⟨"FairyDust$Child", "grainsAtHand", "()I"⟩, 6) := ⟨⟨by decide +kernel, by decide +kernel⟩, List.mem_of_getElem? (i := 78) (by decide +kernel), List.mem_of_getElem? (i := 283) (by decide +kernel), List.mem_of_getElem? (i := 284) (by decide +kernel)⟩
theorem lw_p4 : lw_okq (⟨"FairyDust$Child", "dustLeftAfter", "(I)I"⟩, 6) := ⟨⟨by decide +kernel, by decide +kernel⟩, List.mem_of_getElem? (i := 78) (by decide +kernel), List.mem_of_getElem? (i := 288) (by decide +kernel), List.mem_of_getElem? (i := 289) (by decide +kernel)⟩
theorem lw_p5 : lw_okq (⟨"FairyDust", "withWand", "(JI)J"⟩, 7) := ⟨⟨by decide +kernel, by decide +kernel⟩, List.mem_of_getElem? (i := 21) (by decide +kernel), List.mem_of_getElem? (i := 295) (by decide +kernel), List.mem_of_getElem? (i := 296) (by decide +kernel)⟩
theorem lw_p6 : lw_okq (⟨"FairyDust", "wandAt", "(I)LFairyDust$Wand;"⟩, 7) := ⟨⟨by decide +kernel, by decide +kernel⟩, List.mem_of_getElem? (i := 21) (by decide +kernel), List.mem_of_getElem? (i := 303) (by decide +kernel), List.mem_of_getElem? (i := 304) (by decide +kernel)⟩
theorem lw_p7 : lw_okq (⟨"FairyDust$Wand", "isFullAfter", "(I)Z"⟩, 4) := ⟨⟨by decide +kernel, by decide +kernel⟩, List.mem_of_getElem? (i := 55) (by decide +kernel), List.mem_of_getElem? (i := 331) (by decide +kernel), List.mem_of_getElem? (i := 332) (by decide +kernel)⟩
theorem lw_p8 : lw_okq (⟨"FairyDust", "withChild", "(JI)J"⟩, 7) := ⟨⟨by decide +kernel, by decide +kernel⟩, List.mem_of_getElem? (i := 21) (by decide +kernel), List.mem_of_getElem? (i := 335) (by decide +kernel), List.mem_of_getElem? (i := 336) (by decide +kernel)⟩
theorem lw_p9 : lw_okq (⟨"FairyDust", "childAt", "(I)LFairyDust$Child;"⟩, 7) := ⟨⟨by decide +kernel, by decide +kernel⟩, List.mem_of_getElem? (i := 21) (by decide +kernel), List.mem_of_getElem? (i := 343) (by decide +kernel), List.mem_of_getElem? (i := 344) (by decide +kernel)⟩
theorem lw_p10 : lw_okq (⟨"FairyDust", "beginTrial", "(LFairyDust$Child;)V"⟩, 7) := ⟨⟨by decide +kernel, by decide +kernel⟩, List.mem_of_getElem? (i := 21) (by decide +kernel), List.mem_of_getElem? (i := 383) (by decide +kernel), List.mem_of_getElem? (i := 384) (by decide +kernel)⟩
theorem lw_p11 : lw_okq (⟨"FairyDust$Wand", "copyFrom", "(LFairyDust$Wand;)V"⟩, 4) := ⟨⟨by decide +kernel, by decide +kernel⟩, List.mem_of_getElem? (i := 55) (by decide +kernel), List.mem_of_getElem? (i := 387) (by decide +kernel), List.mem_of_getElem? (i := 388) (by decide +kernel)⟩
theorem lw_p12 : lw_okq (⟨"FairyDust$Child", "copyFrom", "(LFairyDust$Child;)V"⟩, 6) := ⟨⟨by decide +kernel, by decide +kernel⟩, List.mem_of_getElem? (i := 78) (by decide +kernel), List.mem_of_getElem? (i := 391) (by decide +kernel), List.mem_of_getElem? (i := 392) (by decide +kernel)⟩
theorem lw_p13 : lw_okq (⟨"FairyDust", "passTrialHour", "(I)V"⟩, 7) := ⟨⟨by decide +kernel, by decide +kernel⟩, List.mem_of_getElem? (i := 21) (by decide +kernel), List.mem_of_getElem? (i := 395) (by decide +kernel), List.mem_of_getElem? (i := 396) (by decide +kernel)⟩
theorem lw_p14 : lw_okq (⟨"FairyDust$Wand", "letFall", "()I"⟩, 4) := ⟨⟨by decide +kernel, by decide +kernel⟩, List.mem_of_getElem? (i := 55) (by decide +kernel), List.mem_of_getElem? (i := 399) (by decide +kernel), List.mem_of_getElem? (i := 400) (by decide +kernel)⟩
theorem lw_p15 : lw_okq (⟨"FairyDust$Child", "liveTo", "(I)V"⟩, 6) := ⟨⟨by decide +kernel, by decide +kernel⟩, List.mem_of_getElem? (i := 78) (by decide +kernel), List.mem_of_getElem? (i := 404) (by decide +kernel), List.mem_of_getElem? (i := 405) (by decide +kernel)⟩
def lw_privs_1 : List (MethodName × Nat) := [(⟨"FairyDust$Child", "isPunished", "()Z"⟩, 6), (⟨"java/lang/Throwable", "fillInStackTrace", "(I)Ljava/lang/Throwable;"⟩, 6), (⟨"FairyDust$Child", "canHave", "(I)Z"⟩, 6), (⟨"FairyDust$Child", "grainsAtHand", "()I"⟩, 6), (⟨"FairyDust$Child", "dustLeftAfter", "(I)I"⟩, 6), (⟨"FairyDust", "withWand", "(JI)J"⟩, 7), (⟨"FairyDust", "wandAt", "(I)LFairyDust$Wand;"⟩, 7), (⟨"FairyDust$Wand", "isFullAfter", "(I)Z"⟩, 4), (⟨"FairyDust", "withChild", "(JI)J"⟩, 7), (⟨"FairyDust", "childAt", "(I)LFairyDust$Child;"⟩, 7), (⟨"FairyDust", "beginTrial", "(LFairyDust$Child;)V"⟩, 7), (⟨"FairyDust$Wand", "copyFrom", "(LFairyDust$Wand;)V"⟩, 4), (⟨"FairyDust$Child", "copyFrom", "(LFairyDust$Child;)V"⟩, 6), (⟨"FairyDust", "passTrialHour", "(I)V"⟩, 7), (⟨"FairyDust$Wand", "letFall", "()I"⟩, 4), (⟨"FairyDust$Child", "liveTo", "(I)V"⟩, 6)]
theorem lw_r1 : ∀ q ∈ lw_privs_1, lw_okq q := List.forall_mem_cons.mpr ⟨lw_p0, List.forall_mem_cons.mpr ⟨lw_p1, List.forall_mem_cons.mpr ⟨lw_p2, List.forall_mem_cons.mpr ⟨lw_p3, List.forall_mem_cons.mpr ⟨lw_p4, List.forall_mem_cons.mpr ⟨lw_p5, List.forall_mem_cons.mpr ⟨lw_p6, List.forall_mem_cons.mpr ⟨lw_p7, List.forall_mem_cons.mpr ⟨lw_p8, List.forall_mem_cons.mpr ⟨lw_p9, List.forall_mem_cons.mpr ⟨lw_p10, List.forall_mem_cons.mpr ⟨lw_p11, List.forall_mem_cons.mpr ⟨lw_p12, List.forall_mem_cons.mpr ⟨lw_p13, List.forall_mem_cons.mpr ⟨lw_p14, List.forall_mem_cons.mpr ⟨lw_p15, fun _ h => absurd h List.not_mem_nil⟩⟩⟩⟩⟩⟩⟩⟩⟩⟩⟩⟩⟩⟩⟩⟩
theorem lw_p16 : lw_okq (⟨"FairyDust$Child", "beginDay", "(I)V"⟩, 6) := ⟨⟨by decide +kernel, by decide +kernel⟩, List.mem_of_getElem? (i := 78) (by decide +kernel), List.mem_of_getElem? (i := 408) (by decide +kernel), List.mem_of_getElem? (i := 409) (by decide +kernel)⟩
theorem lw_p17 : lw_okq (⟨"FairyDust", "tryWishes", "(II)I"⟩, 7) := ⟨⟨by decide +kernel, by decide +kernel⟩, List.mem_of_getElem? (i := 21) (by decide +kernel), List.mem_of_getElem? (i := 416) (by decide +kernel), List.mem_of_getElem? (i := 417) (by decide +kernel)⟩
theorem lw_p18 : lw_okq (⟨"FairyDust$Child", "makeWish", "(I)Z"⟩, 6) := ⟨⟨by decide +kernel, by decide +kernel⟩, List.mem_of_getElem? (i := 78) (by decide +kernel), List.mem_of_getElem? (i := 420) (by decide +kernel), List.mem_of_getElem? (i := 421) (by decide +kernel)⟩
theorem lw_p19 : lw_okq (⟨"FairyDust$Child", "takeGrains", "(I)V"⟩, 6) := ⟨⟨by decide +kernel, by decide +kernel⟩, List.mem_of_getElem? (i := 78) (by decide +kernel), List.mem_of_getElem? (i := 425) (by decide +kernel), List.mem_of_getElem? (i := 426) (by decide +kernel)⟩
theorem lw_p20 : lw_okq (⟨"FairyDust$Child", "takeMark", "()V"⟩, 6) := ⟨⟨by decide +kernel, by decide +kernel⟩, List.mem_of_getElem? (i := 78) (by decide +kernel), List.mem_of_getElem? (i := 431) (by decide +kernel), List.mem_of_getElem? (i := 432) (by decide +kernel)⟩
theorem lw_p21 : lw_okq (⟨"java/util/ArrayList", "add", "(Ljava/lang/Object;[Ljava/lang/Object;I)V"⟩, 3) := ⟨⟨by decide +kernel, by decide +kernel⟩, List.mem_of_getElem? (i := 29) (by decide +kernel), List.mem_of_getElem? (i := 468) (by decide +kernel), List.mem_of_getElem? (i := 469) (by decide +kernel)⟩
theorem lw_p22 : lw_okq (⟨"java/util/ArrayList", "grow", "()[Ljava/lang/Object;"⟩, 3) := ⟨⟨by decide +kernel, by decide +kernel⟩, List.mem_of_getElem? (i := 29) (by decide +kernel), List.mem_of_getElem? (i := 472) (by decide +kernel), List.mem_of_getElem? (i := 473) (by decide +kernel)⟩
theorem lw_p23 : lw_okq (⟨"java/util/ArrayList", "grow", "(I)[Ljava/lang/Object;"⟩, 3) := ⟨⟨by decide +kernel, by decide +kernel⟩, List.mem_of_getElem? (i := 29) (by decide +kernel), List.mem_of_getElem? (i := 476) (by decide +kernel), List.mem_of_getElem? (i := 477) (by decide +kernel)⟩
theorem lw_p24 : lw_okq (⟨"FairyDust$Child", "letOff", "()I"⟩, 6) := ⟨⟨by decide +kernel, by decide +kernel⟩, List.mem_of_getElem? (i := 78) (by decide +kernel), List.mem_of_getElem? (i := 553) (by decide +kernel), List.mem_of_getElem? (i := 554) (by decide +kernel)⟩
theorem lw_p25 : lw_okq (⟨"FairyDust", "passOneHour", "()I"⟩, 7) := ⟨⟨by decide +kernel, by decide +kernel⟩, List.mem_of_getElem? (i := 21) (by decide +kernel), List.mem_of_getElem? (i := 564) (by decide +kernel), List.mem_of_getElem? (i := 565) (by decide +kernel)⟩
theorem lw_p26 : lw_okq (⟨"FairyDustModel", "no", "(I)I"⟩, 15) := ⟨⟨by decide +kernel, by decide +kernel⟩, List.mem_of_getElem? (i := 624) (by decide +kernel), List.mem_of_getElem? (i := 688) (by decide +kernel), List.mem_of_getElem? (i := 689) (by decide +kernel)⟩
theorem lw_p27 : lw_okq (⟨"FairyDustModel", "isWand", "(I)Z"⟩, 15) := ⟨⟨by decide +kernel, by decide +kernel⟩, List.mem_of_getElem? (i := 624) (by decide +kernel), List.mem_of_getElem? (i := 696) (by decide +kernel), List.mem_of_getElem? (i := 697) (by decide +kernel)⟩
theorem lw_p28 : lw_okq (⟨"FairyDustModel", "isChild", "(I)Z"⟩, 15) := ⟨⟨by decide +kernel, by decide +kernel⟩, List.mem_of_getElem? (i := 624) (by decide +kernel), List.mem_of_getElem? (i := 707) (by decide +kernel), List.mem_of_getElem? (i := 708) (by decide +kernel)⟩
theorem lw_p29 : lw_okq (⟨"FairyDustModel", "isNot", "(I)Z"⟩, 15) := ⟨⟨by decide +kernel, by decide +kernel⟩, List.mem_of_getElem? (i := 624) (by decide +kernel), List.mem_of_getElem? (i := 719) (by decide +kernel), List.mem_of_getElem? (i := 720) (by decide +kernel)⟩
theorem lw_p30 : lw_okq (⟨"FairyDustModel", "isGranted", "(II)Z"⟩, 15) := ⟨⟨by decide +kernel, by decide +kernel⟩, List.mem_of_getElem? (i := 624) (by decide +kernel), List.mem_of_getElem? (i := 726) (by decide +kernel), List.mem_of_getElem? (i := 727) (by decide +kernel)⟩
theorem lw_p31 : lw_okq (⟨"FairyDustModel", "all", "(I)I"⟩, 15) := ⟨⟨by decide +kernel, by decide +kernel⟩, List.mem_of_getElem? (i := 624) (by decide +kernel), List.mem_of_getElem? (i := 730) (by decide +kernel), List.mem_of_getElem? (i := 731) (by decide +kernel)⟩
def lw_privs_2 : List (MethodName × Nat) := [(⟨"FairyDust$Child", "beginDay", "(I)V"⟩, 6), (⟨"FairyDust", "tryWishes", "(II)I"⟩, 7), (⟨"FairyDust$Child", "makeWish", "(I)Z"⟩, 6), (⟨"FairyDust$Child", "takeGrains", "(I)V"⟩, 6), (⟨"FairyDust$Child", "takeMark", "()V"⟩, 6), (⟨"java/util/ArrayList", "add", "(Ljava/lang/Object;[Ljava/lang/Object;I)V"⟩, 3), (⟨"java/util/ArrayList", "grow", "()[Ljava/lang/Object;"⟩, 3), (⟨"java/util/ArrayList", "grow", "(I)[Ljava/lang/Object;"⟩, 3), (⟨"FairyDust$Child", "letOff", "()I"⟩, 6), (⟨"FairyDust", "passOneHour", "()I"⟩, 7), (⟨"FairyDustModel", "no", "(I)I"⟩, 15), (⟨"FairyDustModel", "isWand", "(I)Z"⟩, 15), (⟨"FairyDustModel", "isChild", "(I)Z"⟩, 15), (⟨"FairyDustModel", "isNot", "(I)Z"⟩, 15), (⟨"FairyDustModel", "isGranted", "(II)Z"⟩, 15), (⟨"FairyDustModel", "all", "(I)I"⟩, 15)]
theorem lw_r2 : ∀ q ∈ lw_privs_2, lw_okq q := List.forall_mem_cons.mpr ⟨lw_p16, List.forall_mem_cons.mpr ⟨lw_p17, List.forall_mem_cons.mpr ⟨lw_p18, List.forall_mem_cons.mpr ⟨lw_p19, List.forall_mem_cons.mpr ⟨lw_p20, List.forall_mem_cons.mpr ⟨lw_p21, List.forall_mem_cons.mpr ⟨lw_p22, List.forall_mem_cons.mpr ⟨lw_p23, List.forall_mem_cons.mpr ⟨lw_p24, List.forall_mem_cons.mpr ⟨lw_p25, List.forall_mem_cons.mpr ⟨lw_p26, List.forall_mem_cons.mpr ⟨lw_p27, List.forall_mem_cons.mpr ⟨lw_p28, List.forall_mem_cons.mpr ⟨lw_p29, List.forall_mem_cons.mpr ⟨lw_p30, List.forall_mem_cons.mpr ⟨lw_p31, fun _ h => absurd h List.not_mem_nil⟩⟩⟩⟩⟩⟩⟩⟩⟩⟩⟩⟩⟩⟩⟩⟩
theorem lw_p32 : lw_okq (⟨"FairyDustModel", "deny", "(I)V"⟩, 15) := ⟨⟨by decide +kernel, by decide +kernel⟩, List.mem_of_getElem? (i := 624) (by decide +kernel), List.mem_of_getElem? (i := 734) (by decide +kernel), List.mem_of_getElem? (i := 735) (by decide +kernel)⟩
theorem lw_p33 : lw_okq (⟨"FairyDustModel", "burstIn", "(II)I"⟩, 15) := ⟨⟨by decide +kernel, by decide +kernel⟩, List.mem_of_getElem? (i := 624) (by decide +kernel), List.mem_of_getElem? (i := 748) (by decide +kernel), List.mem_of_getElem? (i := 749) (by decide +kernel)⟩
theorem lw_p34 : lw_okq (⟨"FairyDustModel", "ok", "(I)I"⟩, 15) := ⟨⟨by decide +kernel, by decide +kernel⟩, List.mem_of_getElem? (i := 624) (by decide +kernel), List.mem_of_getElem? (i := 756) (by decide +kernel), List.mem_of_getElem? (i := 757) (by decide +kernel)⟩
theorem lw_p35 : lw_okq (⟨"FairyDustModel", "manyHeld", "()I"⟩, 15) := ⟨⟨by decide +kernel, by decide +kernel⟩, List.mem_of_getElem? (i := 624) (by decide +kernel), List.mem_of_getElem? (i := 784) (by decide +kernel), List.mem_of_getElem? (i := 785) (by decide +kernel)⟩
theorem lw_p36 : lw_okq (⟨"FairyDustModel", "using", "(I)I"⟩, 15) := ⟨⟨by decide +kernel, by decide +kernel⟩, List.mem_of_getElem? (i := 624) (by decide +kernel), List.mem_of_getElem? (i := 796) (by decide +kernel), List.mem_of_getElem? (i := 797) (by decide +kernel)⟩
theorem lw_p37 : lw_okq (⟨"FairyDustModel", "of", "([II)I"⟩, 15) := ⟨⟨by decide +kernel, by decide +kernel⟩, List.mem_of_getElem? (i := 624) (by decide +kernel), List.mem_of_getElem? (i := 804) (by decide +kernel), List.mem_of_getElem? (i := 805) (by decide +kernel)⟩
theorem lw_p38 : lw_okq (⟨"FairyDustModel", "daysTo", "(I)I"⟩, 15) := ⟨⟨by decide +kernel, by decide +kernel⟩, List.mem_of_getElem? (i := 624) (by decide +kernel), List.mem_of_getElem? (i := 828) (by decide +kernel), List.mem_of_getElem? (i := 829) (by decide +kernel)⟩
theorem lw_p39 : lw_okq (⟨"FairyDustModel", "greatest", "(I)I"⟩, 15) := ⟨⟨by decide +kernel, by decide +kernel⟩, List.mem_of_getElem? (i := 624) (by decide +kernel), List.mem_of_getElem? (i := 836) (by decide +kernel), List.mem_of_getElem? (i := 837) (by decide +kernel)⟩
theorem lw_p40 : lw_okq (⟨"FairyDustModel", "until", "(II)I"⟩, 15) := ⟨⟨by decide +kernel, by decide +kernel⟩, List.mem_of_getElem? (i := 624) (by decide +kernel), List.mem_of_getElem? (i := 844) (by decide +kernel), List.mem_of_getElem? (i := 845) (by decide +kernel)⟩
theorem lw_p41 : lw_okq (⟨"FairyDustModel", "grants", "(IIII)I"⟩, 15) := ⟨⟨by decide +kernel, by decide +kernel⟩, List.mem_of_getElem? (i := 624) (by decide +kernel), List.mem_of_getElem? (i := 852) (by decide +kernel), List.mem_of_getElem? (i := 853) (by decide +kernel)⟩
theorem lw_p42 : lw_okq (⟨"FairyDustModel", "wanted", "(II)I"⟩, 15) := ⟨⟨by decide +kernel, by decide +kernel⟩, List.mem_of_getElem? (i := 624) (by decide +kernel), List.mem_of_getElem? (i := 860) (by decide +kernel), List.mem_of_getElem? (i := 861) (by decide +kernel)⟩
theorem lw_p43 : lw_okq (⟨"FairyDustModel", "untilFull", "(I)I"⟩, 15) := ⟨⟨by decide +kernel, by decide +kernel⟩, List.mem_of_getElem? (i := 624) (by decide +kernel), List.mem_of_getElem? (i := 868) (by decide +kernel), List.mem_of_getElem? (i := 869) (by decide +kernel)⟩
theorem lw_p44 : lw_okq (⟨"FairyDustModel", "best", "(I)I"⟩, 15) := ⟨⟨by decide +kernel, by decide +kernel⟩, List.mem_of_getElem? (i := 624) (by decide +kernel), List.mem_of_getElem? (i := 876) (by decide +kernel), List.mem_of_getElem? (i := 877) (by decide +kernel)⟩
theorem lw_p45 : lw_okq (⟨"FairyDustModel", "leaves", "(II)I"⟩, 15) := ⟨⟨by decide +kernel, by decide +kernel⟩, List.mem_of_getElem? (i := 624) (by decide +kernel), List.mem_of_getElem? (i := 880) (by decide +kernel), List.mem_of_getElem? (i := 881) (by decide +kernel)⟩
def lw_privs_3 : List (MethodName × Nat) := [(⟨"FairyDustModel", "deny", "(I)V"⟩, 15), (⟨"FairyDustModel", "burstIn", "(II)I"⟩, 15), (⟨"FairyDustModel", "ok", "(I)I"⟩, 15), (⟨"FairyDustModel", "manyHeld", "()I"⟩, 15), (⟨"FairyDustModel", "using", "(I)I"⟩, 15), (⟨"FairyDustModel", "of", "([II)I"⟩, 15), (⟨"FairyDustModel", "daysTo", "(I)I"⟩, 15), (⟨"FairyDustModel", "greatest", "(I)I"⟩, 15), (⟨"FairyDustModel", "until", "(II)I"⟩, 15), (⟨"FairyDustModel", "grants", "(IIII)I"⟩, 15), (⟨"FairyDustModel", "wanted", "(II)I"⟩, 15), (⟨"FairyDustModel", "untilFull", "(I)I"⟩, 15), (⟨"FairyDustModel", "best", "(I)I"⟩, 15), (⟨"FairyDustModel", "leaves", "(II)I"⟩, 15)]
theorem lw_r3 : ∀ q ∈ lw_privs_3, lw_okq q := List.forall_mem_cons.mpr ⟨lw_p32, List.forall_mem_cons.mpr ⟨lw_p33, List.forall_mem_cons.mpr ⟨lw_p34, List.forall_mem_cons.mpr ⟨lw_p35, List.forall_mem_cons.mpr ⟨lw_p36, List.forall_mem_cons.mpr ⟨lw_p37, List.forall_mem_cons.mpr ⟨lw_p38, List.forall_mem_cons.mpr ⟨lw_p39, List.forall_mem_cons.mpr ⟨lw_p40, List.forall_mem_cons.mpr ⟨lw_p41, List.forall_mem_cons.mpr ⟨lw_p42, List.forall_mem_cons.mpr ⟨lw_p43, List.forall_mem_cons.mpr ⟨lw_p44, List.forall_mem_cons.mpr ⟨lw_p45, fun _ h => absurd h List.not_mem_nil⟩⟩⟩⟩⟩⟩⟩⟩⟩⟩⟩⟩⟩⟩
def lw_privs : List (MethodName × Nat) := lw_privs_1 ++ (lw_privs_2 ++ (lw_privs_3))
def lw_tbl : List Cond := k2_sels lw_privs ++ tables_1
theorem lw_privs_ok : ∀ q ∈ lw_privs, lw_okq q := by
  show ∀ q ∈ lw_privs_1 ++ (lw_privs_2 ++ (lw_privs_3)), lw_okq q
  exact List.forall_mem_append.mpr ⟨lw_r1, List.forall_mem_append.mpr ⟨lw_r2, lw_r3⟩⟩
/-- the streams that the claim lets the run draw from -/
abbrev lw_cs : List Choice := [Jvm.Choice.named "NaN.bits"]
theorem lw_bits : nanBits ∈ lw_cs := by first | decide | exact List.mem_cons_self | simp [lw_cs, nanBits]
-- ===== end of PART A; then your names; then what follows =====
end
section
/-! ===== BEGIN words of one list among another's, by their places ===== -/
theorem goodIn_r {big : List Cond} (ws : List Cond) (ps : List Nat) (hp : ws = ps.filterMap (fun i => big[i]?)) (h : ws.all goodWord = true) : GoodIn big ws := by
  intro w hw
  have h1 := List.all_eq_true.mp h w hw
  rw [hp] at hw
  obtain ⟨i, -, hi⟩ := List.mem_filterMap.mp hw
  have hm : w ∈ big := by first | exact List.mem_of_getElem? hi | exact List.getElem?_mem hi
  exact ⟨hm, good_of_word h1⟩
theorem goodIn_app {big a b : List Cond} (ha : GoodIn big a) (hb : GoodIn big b) : GoodIn big (a ++ b) := fun w h => (List.mem_append.mp h).elim (ha w) (hb w)
theorem goodIn_ca {big a b : List Cond} {c : Cond} (ha : GoodIn big (c :: a)) (hb : GoodIn big b) : GoodIn big (c :: (a ++ b)) := fun w h => (List.mem_cons.mp h).elim (fun e => ha w (List.mem_cons.mpr (Or.inl e))) (fun h => (List.mem_append.mp h).elim (fun h => ha w (List.mem_cons.mpr (Or.inr h))) (hb w))
theorem goodIn_sub {big ws : List Cond} (hm : ∀ w ∈ ws, w ∈ big) (h : ws.all goodWord = true) : GoodIn big ws := fun w hw => ⟨hm w hw, good_of_word (List.all_eq_true.mp h w hw)⟩
/-! ===== END ===== -/

/-! ===== BEGIN exceptions that leave a method, and their catching by the caller (launches without stack traces) ===== -/
section VXA
/-! The laws vx_back, vx_callV, vx_callS, vx_callSW, vx_throw0, vx_throwS follow proofs of the library, with one case more: JvmDerived/Free/Laws.lean (Back.of_free), Shelf42/LK1.lean (callV, callS), Shelf/KitTraced.lean (throwNew0V, throwNewS). -/
/-- where a method has thrown q: the class by its name, the cell, what was written, the world -/
def vx_T (XC : String → State → State → Prop) (st : State) (q : Addr) (t : State) (mc ms : Nat) (free : Addr → Prop) : Prop :=
  ∃ (E : String) (ce : Cell) (L : List Loc), XC E st t ∧ t.heap[q]? = some ce ∧ ce.vm = .none ∧ st.vm.findClass E = some ce.cls ∧ st.WarmedH t.vm ∧ st.sameButNew ({ t with vm := st.vm } : State) L mc ms ∧ ∀ z ∈ L, free z.base
def vx_Q (Qc : Array Value → State → Outcome → State → Prop) (XC : String → State → State → Prop) (mc ms : Nat) (free : Addr → Prop) : Array Value → State → Outcome → State → Prop := fun a st o t =>
  (Qc a st o t ∧ ∃ L, FrameEnd st o t L mc ms ∧ ∀ q ∈ L, free q.base) ∨ ∃ q, o = .threw q ∧ vx_T XC st q t mc ms free
/-- a callee that returns or throws -/
def vx_Met (l : Launch) (y : MethodName) (ws : List Cond) (rm : Room) (Pc : Array Value → State → Prop) (Qc : Array Value → State → Outcome → State → Prop) (XC : String → State → State → Prop) (mc ms : Nat) (free : Addr → Prop) : Prop :=
  MetFree l y (headSpec ws rm) Pc (fun _ _ _ _ _ => True) (vx_Q Qc XC mc ms free)
def vx_Post (XC : String → State → State → Prop) (mc ms : Nat) (free : Addr → Prop) : Pt → Array Value → Addr → Pt → Prop := fun A a q B =>
  ∃ (g : JFrame) (mk : MethodId) (t : State) (L : List Loc) (E : String) (ce : Cell), B.U.heap = t.heap ∧ B.U.vm = t.vm ∧ XC E (A.U.calling g mk a) t ∧ t.heap[q]? = some ce ∧ ce.vm = .none ∧ A.U.vm.findClass E = some ce.cls ∧ B.locs = A.locs ++ L ∧ (∀ z ∈ L, free z.base) ∧ B.cells = A.cells + mc ∧ B.slots = A.slots + ms
def vx_Back (l : Launch) (R : Room) (p : Program) (e : Env) (below : List Frame) (s : State) (sargs : Array Value) (y : MethodName) (len W9 : Nat)
    (Pre : Pt → Array Value → Prop) (Post : Pt → Array Value → Option Value → Pt → Prop) (PostX : Pt → Array Value → Addr → Pt → Prop) : Prop :=
  ∀ (m : MethodId) (meth : Method) (c : Code) (A : Pt) (g : JFrame) (ig : Instr) (mk : MethodId) (a : Array Value),
    Stand p l e R s m sargs below meth c A.U A.locs A.cells A.slots → g.method = m → g.locals.size = c.maxLocals → decode c.code g.pc = .ok (ig, len) →
    2 * g.monitorRoom + (g.stack.map fun v => v.category).sum ≤ W9 → A.U.methodNamed? y = some mk → Pre A a →
    (∃ (v : Option Value) (B : Pt), Stand p l e R s m sargs below meth c B.U B.locs B.cells B.slots ∧ Post A a v B ∧
      Steps p.tables e below (doInvoke e (A.U.setTop g) [] mk a).1 (B.U.setTop { g with pc := g.pc + len, stack := v.toList ++ g.stack })) ∨
    (∃ (q : Addr) (B : Pt), Stand p l e R s m sargs below meth c B.U B.locs B.cells B.slots ∧ PostX A a q B ∧
      Steps p.tables e below (doInvoke e (A.U.setTop g) [] mk a).1 ((B.U.setTop g).pushFrame (.throwing q)))
section Payer
variable {l : Launch} {R : Room} {p : Program} {e : Env} {below : List Frame} {s : State} {sargs : Array Value} {y : MethodName} {len W9 : Nat}
theorem vx_back {ws : List Cond} {rm : Room} {Pc : Array Value → State → Prop} {Qc : Array Value → State → Outcome → State → Prop} {XC : String → State → State → Prop} {mc ms : Nat} {free : Addr → Prop} {bytes : ByteArray} {maxL : Nat} {ret : Option FieldType}
    (hM : vx_Met l y ws rm Pc Qc XC mc ms free) (hblind : FrameBlind Pc) (hrc : rm.cells = mc) (hrs : rm.slots = ms)
    (hframes : rm.frames + 1 ≤ R.frames) (hlocals : W9 + (maxL + 11) + rm.locals ≤ R.locals)
    (hws : ∀ w ∈ ws, ∀ a' U, s.WarmedH U.vm → w.before a' U = true) (hcode : Cond.code y bytes maxL ret ∈ ws) (hinit : ∀ a' U, s.WarmedH U.vm → (Cond.initialized y.cls).before a' U = true) :
    vx_Back l R p e below s sargs y len W9 (PreOf R mc ms Pc) (PostOf Qc mc ms free) (vx_Post XC mc ms free) := by
  intro m meth c A g ig mk a X hg hsize hdg hW hn hp
  have h1 : (headSpec ws rm).pre.before a A.U = true := atoms_intro fun w hw => hws w hw _ _ X.warmed
  have h2 : (Cond.code y bytes maxL ret).before a A.U = true := hws _ hcode _ _ X.warmed
  have h3 : (Cond.initialized y.cls).before a A.U = true := hinit _ _ X.warmed
  have h4 : A.cells + (headSpec ws rm).room.cells ≤ R.cells := by rw [show (headSpec ws rm).room.cells = mc from hrc]; exact hp.1
  have h5 : A.slots + (headSpec ws rm).room.slots ≤ R.slots := by rw [show (headSpec ws rm).room.slots = ms from hrs]; exact hp.2.1
  have hPc : Pc a (A.U.calling g mk a) := hblind _ _ _ _ hp.2.2
  obtain ⟨U, Ls, c0, s0⟩ := A
  dsimp only [Pt.U, Pt.locs, Pt.cells, Pt.slots] at h1 h2 h3 h4 h5 X hn hPc ⊢
  obtain ⟨methY, cY, hmY, hcY, -, hlY, -, -, -, -⟩ := Cond.code_spec hn h2
  obtain ⟨kY, hkY, -⟩ := className_of_methodNamed hn
  have hinitY : kY.init = .initialized := Cond.initialized_spec (findClass_of_methodNamed hn) hkY h3
  have h : At U g.method c below := by rw [hg]; exact X.here
  have hlocals9 : W9 + (maxL + 11) + (headSpec ws rm).room.locals ≤ R.locals := hlocals
  have happ : (headSpec ws rm).appliesLoose y e.platform (U.calling g mk a) = true :=
    Spec.appliesLoose_calling (g := g) h hdg hn hkY hinitY
      (X.room_calling (g := g) (R' := (headSpec ws rm).room) hsize hmY hcY hframes (by rw [hlY]; omega) h4 h5) h1
  obtain ⟨mid, hmid⟩ := h.above
  have hfr : (U.setTop g).frames = (.java g :: mid) ++ below := by rw [State.frames_setTop' g h.top, hmid]; rfl
  obtain ⟨o, s₂, hsteps, -, hend, hq⟩ := Steps.callFree hM p X.admits X.cas X.clock (acts := []) hfr happ hPc trivial
  have hq' : vx_Q Qc XC mc ms free a (U.calling g mk a) o s₂ := hq
  rw [State.frames_setTop' g h.top] at hend
  obtain ⟨g₀, hg0⟩ := Option.isSome_iff_exists.mp h.top
  obtain ⟨r, hr⟩ := State.topJava?_eq_some.mp hg0
  have hr' : (({ U with heap := s₂.heap, slotsUsed := s₂.slotsUsed } : State).setVm s₂.vm).frames = .java g₀ :: r := hr
  rcases hq' with ⟨hqc, L, hfe, hL⟩ | ⟨q, rfl, E, ce, L, hx, hce, hcv, hcl, hW₂, hsm, hL⟩
  · obtain ⟨⟨v, rfl⟩, hW₂, e2, q2, q3, q4, q5, q6⟩ := id hfe
    have e3 : s₂ = ({ (U.calling g mk a).setFrames s₂.frames with heap := s₂.heap, slotsUsed := s₂.slotsUsed } : State).setVm s₂.vm := by
      have : s₂ = ({ s₂ with vm := (U.calling g mk a).vm } : State).setVm s₂.vm := rfl
      rw [e2] at this
      exact this
    obtain ⟨c₂, i₂, len₂, hc₂, hd₂, hf₂⟩ := hend
    have hW' : U.WarmedH s₂.vm := hW₂
    have hcc : c₂ = c := by
      have h1 : s₂.code? g.method = U.code? g.method := by
        rw [State.code?_eq, State.code?_eq, hW'.alike.method?]
      exact Option.some.inj (hc₂.symm.trans (h1.trans h.code))
    subst hcc
    have hlen : len₂ = len := by rw [hdg] at hd₂; cases hd₂; rfl
    subst hlen
    have hs₂ : s₂ = (({ U with heap := s₂.heap, slotsUsed := s₂.slotsUsed } : State).setVm s₂.vm).setTop { g with pc := g.pc + len₂, stack := v.toList ++ g.stack } := by
      refine e3.trans ?_
      rw [hf₂, State.calling_eq h.top, State.setFrames_setFrames, State.setTop_of_frames _ hr', hr]
      rfl
    have hsame : U.sameButNew ({ U with heap := s₂.heap, slotsUsed := s₂.slotsUsed } : State) L mc ms := by
      refine ⟨?_, q2, q3, q4, q5, q6⟩
      obtain ⟨t, ht, -⟩ := State.frames_cons hr
      show ({ U with heap := s₂.heap, slotsUsed := s₂.slotsUsed } : State) = { U.setFrames U.frames with heap := s₂.heap, slotsUsed := s₂.slotsUsed }
      rw [State.setFrames_self ht]
    subst hg
    refine Or.inl ⟨v, ⟨(({ U with heap := s₂.heap, slotsUsed := s₂.slotsUsed } : State).setVm s₂.vm), Ls ++ L, c0 + mc, s0 + ms⟩,
      ⟨X.admits, X.cas, X.clock, X.frames, X.room, X.hears, X.method, X.code, (X.here.setHeapUsed s₂.heap s₂.slotsUsed).setVm hW'.alike, X.tail, State.WarmedH.trans X.warmed hW', X.limits, X.bytes, X.same.trans (hsame.setVm s.vm)⟩,
      ⟨g, mk, s₂, L, rfl, rfl, hqc, rfl, hL, rfl, rfl⟩, ?_⟩
    show Steps p.tables e below _ ((({ U with heap := s₂.heap, slotsUsed := s₂.slotsUsed } : State).setVm s₂.vm).setTop { g with pc := g.pc + len₂, stack := v.toList ++ g.stack })
    rw [← hs₂]
    exact hsteps
  · obtain ⟨e2, q2, q3, q4, q5, q6⟩ := id hsm
    have e3 : s₂ = ({ (U.calling g mk a).setFrames s₂.frames with heap := s₂.heap, slotsUsed := s₂.slotsUsed } : State).setVm s₂.vm := by
      have : s₂ = ({ s₂ with vm := (U.calling g mk a).vm } : State).setVm s₂.vm := rfl
      rw [e2] at this
      exact this
    have hf₂ : s₂.frames = .throwing q :: .java g :: U.frames.tail := hend
    have hW' : U.WarmedH s₂.vm := hW₂
    have hs₂ : s₂ = ((({ U with heap := s₂.heap, slotsUsed := s₂.slotsUsed } : State).setVm s₂.vm).setTop g).pushFrame (.throwing q) := by
      refine e3.trans ?_
      rw [hf₂, State.calling_eq h.top, State.setFrames_setFrames, State.pushFrame, State.frames_setTop _ hr', State.setTop_of_frames _ hr', State.setFrames_setFrames, hr]
      rfl
    have hsame : U.sameButNew ({ U with heap := s₂.heap, slotsUsed := s₂.slotsUsed } : State) L mc ms := by
      refine ⟨?_, q2, q3, q4, q5, q6⟩
      obtain ⟨t, ht, -⟩ := State.frames_cons hr
      show ({ U with heap := s₂.heap, slotsUsed := s₂.slotsUsed } : State) = { U.setFrames U.frames with heap := s₂.heap, slotsUsed := s₂.slotsUsed }
      rw [State.setFrames_self ht]
    subst hg
    refine Or.inr ⟨q, ⟨(({ U with heap := s₂.heap, slotsUsed := s₂.slotsUsed } : State).setVm s₂.vm), Ls ++ L, c0 + mc, s0 + ms⟩,
      ⟨X.admits, X.cas, X.clock, X.frames, X.room, X.hears, X.method, X.code, (X.here.setHeapUsed s₂.heap s₂.slotsUsed).setVm hW'.alike, X.tail, State.WarmedH.trans X.warmed hW', X.limits, X.bytes, X.same.trans (hsame.setVm s.vm)⟩,
      ⟨g, mk, s₂, L, E, ce, rfl, rfl, hx, hce, hcv, hcl, rfl, hL, rfl, rfl⟩, ?_⟩
    show Steps p.tables e below _ (((({ U with heap := s₂.heap, slotsUsed := s₂.slotsUsed } : State).setVm s₂.vm).setTop g).pushFrame (.throwing q))
    rw [← hs₂]
    exact hsteps
end Payer
section Calls
variable {p : Program} {l : Launch} {e : Env} {R : Room} {s : State} {m : MethodId} {args : Array Value} {below : List Frame} {meth : Method} {c : Code} {T : State} {locs : List Loc} {cells slots : Nat}
theorem vx_callV (X : Stand p l e R s m args below meth c T locs cells slots) (hexec : p.tables.exec = Jvm.exec) {own C : String} {index : Nat} {y : MethodName} {bytes : ByteArray} {maxL : Nat} {ret : Option FieldType}
    (hown : s.vm.findClass own = some m.cls) (hlink : (Cond.methodLink own index y).before args s = true) (hinst : (Cond.instanceMethod y).before args s = true) (hsel : (Cond.selects C y y).before args s = true)
    (hcode : (Cond.code y bytes maxL ret).before args s = true) (hy : y.cls ≠ "java/lang/invoke/MethodHandle" ∧ y.cls ≠ "java/lang/invoke/VarHandle")
    {W9 : Nat} {Pre : Pt → Array Value → Prop} {Post : Pt → Array Value → Option Value → Pt → Prop} {PostX : Pt → Array Value → Addr → Pt → Prop} (hK : vx_Back l R p e below s args y 3 W9 Pre Post PostX)
    {b : Addr} {cellB : Cell} (hcell : T.heap[b]? = some cellB) (hobj : cellB.vm.isStatics = false) (hcls : s.vm.findClass C = some cellB.cls)
    {g : JFrame} (hg : g.method = m) (hsize : g.locals.size = c.maxLocals) {argsL rest : List Value} (hlen : ∀ sig, parseMethodDescriptor y.desc = some sig → argsL.length = sig.parameters.length)
    (hstack : g.stack = argsL.reverse ++ .ref b :: rest) (hW : 2 * g.monitorRoom + (rest.map fun v => v.category).sum ≤ W9) (hdg : decode c.code g.pc = .ok (.invokevirtual index, 3))
    (hpre : ∀ vm₁, s.WarmedH vm₁ → Pre ⟨T.setVm vm₁, locs, cells, slots⟩ (Value.ref b :: argsL).toArray) :
    (∃ (v : Option Value) (vm₁ : Vm) (B : Pt), s.WarmedH vm₁ ∧ Stand p l e R s m args below meth c B.U B.locs B.cells B.slots ∧ Post ⟨T.setVm vm₁, locs, cells, slots⟩ (Value.ref b :: argsL).toArray v B ∧
      ∀ target, Steps p.tables e below (B.U.setTop { g with pc := g.pc + 3, stack := v.toList ++ rest }) target → Steps p.tables e below (T.setTop g) target) ∨
    (∃ (q : Addr) (vm₁ : Vm) (B : Pt), s.WarmedH vm₁ ∧ Stand p l e R s m args below meth c B.U B.locs B.cells B.slots ∧ PostX ⟨T.setVm vm₁, locs, cells, slots⟩ (Value.ref b :: argsL).toArray q B ∧
      Steps p.tables e below (T.setTop g) ((B.U.setTop { g with stack := rest }).pushFrame (.throwing q))) := by
  obtain ⟨mk, methM, hnamed, hmethM, hstM, habM⟩ := Cond.instanceMethod_spec hinst
  obtain ⟨methM', cM, hmethM', -, -, -, -, -, -, hsigM⟩ := Cond.code_spec hnamed hcode
  cases hmethM.symm.trans hmethM'
  obtain ⟨c2, r2, m2, q1, q2, q3, q4, kP, hkP, hkPi⟩ := Cond.selects_spec hsel
  cases hcls.symm.trans q1
  cases (State.methodFound?_of_named hnamed hy).symm.trans q2
  cases hnamed.symm.trans q3
  have hselP : selectMethod e.platform s.vm cellB.cls mk = .method mk := by rw [Launch.admits_selectMethod X.admits]; exact q4
  obtain ⟨vm₁, X₁, hstep₁⟩ := X.invokevirtual hexec hown hlink hnamed hmethM hstM hkP hkPi hy (a := b) (cell := cellB) hcell
    (fun z h => by rw [h] at hobj; cases hobj) hselP hmethM habM hkP hkPi (g := g) hg (argsL := argsL) (rest := rest) (hlen _ hsigM) hstack hdg
  rcases hK m meth c ⟨T.setVm vm₁, locs, cells, slots⟩ { g with stack := rest } (.invokevirtual index) mk (Value.ref b :: argsL).toArray X₁ hg hsize hdg hW (X₁.named hnamed) (hpre vm₁ X₁.warmed) with ⟨v, B, X', hpost, hsteps⟩ | ⟨q, B, X', hpost, hsteps⟩
  · exact Or.inl ⟨v, vm₁, B, X₁.warmed, X', hpost, fun target h => hstep₁ _ fun acts => by rw [doInvoke_state]; exact hsteps.trans h⟩
  · exact Or.inr ⟨q, vm₁, B, X₁.warmed, X', hpost, hstep₁ _ fun acts => by rw [doInvoke_state]; exact hsteps⟩
theorem vx_callS (X : Stand p l e R s m args below meth c T locs cells slots) (hexec : p.tables.exec = Jvm.exec) {own : String} {index : Nat} {y : MethodName} {bytes : ByteArray} {maxL : Nat} {ret : Option FieldType}
    (hown : s.vm.findClass own = some m.cls) (hlink : (Cond.methodLink own index y).before args s = true) (hstat : (Cond.static y).before args s = true) (hinit : (Cond.initialized y.cls).before args s = true)
    (hcode : (Cond.code y bytes maxL ret).before args s = true) (hy : y.cls ≠ "java/lang/invoke/MethodHandle" ∧ y.cls ≠ "java/lang/invoke/VarHandle")
    {W9 : Nat} {Pre : Pt → Array Value → Prop} {Post : Pt → Array Value → Option Value → Pt → Prop} {PostX : Pt → Array Value → Addr → Pt → Prop} (hK : vx_Back l R p e below s args y 3 W9 Pre Post PostX)
    {g : JFrame} (hg : g.method = m) (hsize : g.locals.size = c.maxLocals) {argsL rest : List Value} (hlen : ∀ sig, parseMethodDescriptor y.desc = some sig → argsL.length = sig.parameters.length)
    (hstack : g.stack = argsL.reverse ++ rest) (hW : 2 * g.monitorRoom + (rest.map fun v => v.category).sum ≤ W9) (hdg : decode c.code g.pc = .ok (.invokestatic index, 3))
    (hpre : ∀ vm₁, s.WarmedH vm₁ → Pre ⟨T.setVm vm₁, locs, cells, slots⟩ argsL.toArray) :
    (∃ (v : Option Value) (vm₁ : Vm) (B : Pt), s.WarmedH vm₁ ∧ Stand p l e R s m args below meth c B.U B.locs B.cells B.slots ∧ Post ⟨T.setVm vm₁, locs, cells, slots⟩ argsL.toArray v B ∧
      ∀ target, Steps p.tables e below (B.U.setTop { g with pc := g.pc + 3, stack := v.toList ++ rest }) target → Steps p.tables e below (T.setTop g) target) ∨
    (∃ (q : Addr) (vm₁ : Vm) (B : Pt), s.WarmedH vm₁ ∧ Stand p l e R s m args below meth c B.U B.locs B.cells B.slots ∧ PostX ⟨T.setVm vm₁, locs, cells, slots⟩ argsL.toArray q B ∧
      Steps p.tables e below (T.setTop g) ((B.U.setTop { g with stack := rest }).pushFrame (.throwing q))) := by
  obtain ⟨mk, hnamed⟩ := Cond.code_named hcode
  obtain ⟨methM, cM, hmethM, -, -, -, -, -, -, hsigM⟩ := Cond.code_spec hnamed hcode
  have hstatic : methM.isStatic = true := Cond.static_spec hnamed hmethM hstat
  obtain ⟨kP, hkP, -⟩ := className_of_methodNamed hnamed
  have hinitP : kP.init = .initialized := Cond.initialized_spec (findClass_of_methodNamed hnamed) hkP hinit
  obtain ⟨vm₁, X₁, hstep₁⟩ := X.invokestatic hexec hown hlink hnamed hmethM hstatic hkP hinitP hy (g := g) hg (argsL := argsL) (rest := rest) (hlen _ hsigM) hstack hdg
  rcases hK m meth c ⟨T.setVm vm₁, locs, cells, slots⟩ { g with stack := rest } (.invokestatic index) mk argsL.toArray X₁ hg hsize hdg hW (X₁.named hnamed) (hpre vm₁ X₁.warmed) with ⟨v, B, X', hpost, hsteps⟩ | ⟨q, B, X', hpost, hsteps⟩
  · exact Or.inl ⟨v, vm₁, B, X₁.warmed, X', hpost, fun target h => hstep₁ _ fun acts => by rw [doInvoke_state]; exact hsteps.trans h⟩
  · exact Or.inr ⟨q, vm₁, B, X₁.warmed, X', hpost, hstep₁ _ fun acts => by rw [doInvoke_state]; exact hsteps⟩
end Calls
theorem vx_cls {s : State} {T : State} {vm₁ : Vm} {E : String} {k : ClassId} (hW : s.WarmedH vm₁) (h : (T.setVm vm₁).vm.findClass E = some k) : s.vm.findClass E = some k := by
  have h1 : vm₁.findClass E = some k := h
  rw [hW.alike.findClass] at h1
  exact h1
/-- the method's frame g, with q thrown over it -/
def vx_W (p : Program) (l : Launch) (e : Env) (R : Room) (s : State) (m : MethodId) (args : Array Value) (below : List Frame) (meth : Method) (c : Code) (H : Heap) (locs : List Loc) (cells slots : Nat) (Q : State → Prop) (g : JFrame) (q : Addr) : Prop :=
  ∀ T : State, T.heap = H → Stand p l e R s m args below meth c T locs cells slots → ∃ t, Steps p.tables e below ((T.setTop g).pushFrame (.throwing q)) t ∧ Q t
def vx_Run (p : Program) (l : Launch) (e : Env) (R : Room) (s : State) (m : MethodId) (args : Array Value) (below : List Frame) (meth : Method) (c : Code) (H : Heap) (locs : List Loc) (cells slots mc ms : Nat) (g : JFrame) (rest : List Value) (Qa : State → Outcome → State → Prop) (XC : String → State → State → Prop) (free : Addr → Prop) : Prop :=
  ∀ T : State, T.heap = H → Stand p l e R s m args below meth c T locs cells slots →
    (∃ (v : Option Value) (st₀ t T' : State) (L : List Loc), st₀.heap = H ∧ Stand p l e R s m args below meth c T' (locs ++ L) (cells + mc) (slots + ms) ∧ (∀ q ∈ L, free q.base) ∧ T'.heap = t.heap ∧ T'.vm = t.vm ∧ Qa st₀ (.returned v) t ∧
      Goes p e below T g T' { g with pc := g.pc + 3, stack := v.toList ++ rest }) ∨
    (∃ (q : Addr) (st₀ t T' : State) (L : List Loc) (E : String) (ce : Cell), st₀.heap = H ∧ Stand p l e R s m args below meth c T' (locs ++ L) (cells + mc) (slots + ms) ∧ (∀ z ∈ L, free z.base) ∧ T'.heap = t.heap ∧ T'.vm = t.vm ∧ XC E st₀ t ∧ t.heap[q]? = some ce ∧ ce.vm = .none ∧ s.vm.findClass E = some ce.cls ∧
      Steps p.tables e below (T.setTop g) ((T'.setTop { g with stack := rest }).pushFrame (.throwing q)))
def vx_X {S : Type} (px : S → Prop) (B : String → S → State → Prop) (A : Nat → Prop) : String → State → State → Prop := fun E st t => ∃ u : S, px u ∧ B E u t ∧ va_F A st t
section Runs
variable {p : Program} {l : Launch} {e : Env} {R : Room} {s : State} {m : MethodId} {args : Array Value} {below : List Frame} {meth : Method} {c : Code} {H : Heap} {locs : List Loc} {cells slots : Nat}
variable {y : MethodName} {bytes cc : ByteArray} {maxL nL mc ms n index : Nat} {ret : Option FieldType} {ws : List Cond} {rm : Room} {Pc : Array Value → State → Prop} {Qc : Array Value → State → Outcome → State → Prop} {XC : String → State → State → Prop} {free : Addr → Prop} {Ts : List Cond} {own C : String} {b : Addr} {As rest : List Value} {g : JFrame}
theorem vx_callBack (cb : CallB R s args own index y bytes maxL ret ws rm mc ms n) (hM : vx_Met l y ws rm Pc Qc XC mc ms free) (hbl : FrameBlind Pc) : vx_Back l R p e below s args y 3 8 (PreOf R mc ms Pc) (PostOf Qc mc ms free) (vx_Post XC mc ms free) := by
  obtain ⟨hrc, hrs, hfr, hlo, hws, hcw, -, hini, -⟩ := cb
  exact vx_back (bytes := bytes) (maxL := maxL) (ret := ret) hM hbl hrc hrs hfr hlo hws hcw (fun a' U hW => word_at hW (Or.inl (by first | rfl | simp [Cond.onTables, Cond.keeps, Cond.steady])) hini)
theorem vx_runV (S : CallFix p m c cc nL s args Ts own) (hM : vx_Met l y ws rm Pc Qc XC mc ms free) (cw : CallW R s args own C index y bytes maxL ret ws rm mc ms n) (hp : PreV s H C b Pc As)
    (hg : g.method = m) (hn : As.length = n) (hsize : g.locals.size = nL) (hstack : g.stack = As.reverse ++ .ref b :: rest) (hW : 2 * g.monitorRoom + (rest.map fun v => v.category).sum ≤ 8) (hdg : decode cc g.pc = .ok (.invokevirtual index, 3)) (hf : cells + mc ≤ R.cells ∧ slots + ms ≤ R.slots) :
    vx_Run p l e R s m args below meth c H locs cells slots mc ms g rest (Qc (Value.ref b :: As).toArray) XC free := by
  have hK : vx_Back l R p e below s args y 3 8 (PreOf R mc ms Pc) (PostOf Qc mc ms free) (vx_Post XC mc ms free) := vx_callBack cw.1 hM hp.1
  obtain ⟨⟨-, -, -, -, -, -, hcode, -, hy, hlen, hl⟩, hin, hse⟩ := cw
  obtain ⟨hx, hb, hml, ho, -⟩ := S
  obtain ⟨-, ⟨cellB, hcB, hoB, hclB⟩, hPc⟩ := hp
  intro T hT X
  rcases vx_callV X hx (C := C) (bytes := bytes) (maxL := maxL) (ret := ret) ho hl hin hse hcode hy hK (by rw [hT]; exact hcB) hoB hclB hg (hsize.trans hml.symm) (argsL := As) (rest := rest) (fun sig h => hn.trans (hlen sig h)) hstack hW (by rw [hb]; exact hdg)
    (fun vm₁ hW₁ => ⟨hf.1, hf.2, hPc (T.setVm vm₁) hT hW₁⟩) with ⟨v, vm₁, ⟨U', l2, c2, s2⟩, hW₁, X', ⟨g', mk, t, L, e1, e2, hq, h1, hL, h2, h3⟩, st⟩ | ⟨q, vm₁, ⟨U', l2, c2, s2⟩, hW₁, X', ⟨g', mk, t, L, E, ce, e1, e2, hq, hce, hcv, hcl, h1, hL, h2, h3⟩, st⟩
  · dsimp only [Pt.U, Pt.locs, Pt.cells, Pt.slots] at X' e1 e2 h1 h2 h3 st
    subst h1; subst h2; subst h3
    exact Or.inl ⟨v, (T.setVm vm₁).calling g' mk (Value.ref b :: As).toArray, t, U', L, hT, X', hL, e1, e2, hq, st⟩
  · dsimp only [Pt.U, Pt.locs, Pt.cells, Pt.slots] at X' e1 e2 h1 h2 h3 st hcl
    subst h1; subst h2; subst h3
    exact Or.inr ⟨q, (T.setVm vm₁).calling g' mk (Value.ref b :: As).toArray, t, U', L, E, ce, hT, X', hL, e1, e2, hq, hce, hcv, vx_cls hW₁ hcl, st⟩
theorem vx_runS (S : CallFix p m c cc nL s args Ts own) (hM : vx_Met l y ws rm Pc Qc XC mc ms free) (cw : CallB R s args own index y bytes maxL ret ws rm mc ms n ∧ (Cond.static y).before args s = true) (hp : PreS s H Pc As)
    (hg : g.method = m) (hn : As.length = n) (hsize : g.locals.size = nL) (hstack : g.stack = As.reverse ++ rest) (hW : 2 * g.monitorRoom + (rest.map fun v => v.category).sum ≤ 8) (hdg : decode cc g.pc = .ok (.invokestatic index, 3)) (hf : cells + mc ≤ R.cells ∧ slots + ms ≤ R.slots) :
    vx_Run p l e R s m args below meth c H locs cells slots mc ms g rest (Qc As.toArray) XC free := by
  have hK : vx_Back l R p e below s args y 3 8 (PreOf R mc ms Pc) (PostOf Qc mc ms free) (vx_Post XC mc ms free) := vx_callBack cw.1 hM hp.1
  obtain ⟨⟨-, -, -, -, -, -, hcode, hini, hy, hlen, hl⟩, hstt⟩ := cw
  obtain ⟨hx, hb, hml, ho, -⟩ := S
  intro T hT X
  rcases vx_callS X hx (bytes := bytes) (maxL := maxL) (ret := ret) ho hl hstt hini hcode hy hK hg (hsize.trans hml.symm) (argsL := As) (rest := rest) (fun sig h => hn.trans (hlen sig h)) hstack hW (by rw [hb]; exact hdg)
    (fun vm₁ hW₁ => ⟨hf.1, hf.2, hp.2 (T.setVm vm₁) hT hW₁⟩) with ⟨v, vm₁, ⟨U', l2, c2, s2⟩, hW₁, X', ⟨g', mk, t, L, e1, e2, hq, h1, hL, h2, h3⟩, st⟩ | ⟨q, vm₁, ⟨U', l2, c2, s2⟩, hW₁, X', ⟨g', mk, t, L, E, ce, e1, e2, hq, hce, hcv, hcl, h1, hL, h2, h3⟩, st⟩
  · dsimp only [Pt.U, Pt.locs, Pt.cells, Pt.slots] at X' e1 e2 h1 h2 h3 st
    subst h1; subst h2; subst h3
    exact Or.inl ⟨v, (T.setVm vm₁).calling g' mk As.toArray, t, U', L, hT, X', hL, e1, e2, hq, st⟩
  · dsimp only [Pt.U, Pt.locs, Pt.cells, Pt.slots] at X' e1 e2 h1 h2 h3 st hcl
    subst h1; subst h2; subst h3
    exact Or.inr ⟨q, (T.setVm vm₁).calling g' mk As.toArray, t, U', L, E, ce, hT, X', hL, e1, e2, hq, hce, hcv, vx_cls hW₁ hcl, st⟩
end Runs
section Rows
variable {p : Program} {l : Launch} {e : Env} {R : Room} {s : State} {m : MethodId} {args : Array Value} {below : List Frame} {meth : Method} {c : Code} {H : Heap} {locs : List Loc} {cells slots : Nat} {Q : State → Prop}
variable {mc ms : Nat} {free : Addr → Prop} {A0 A1 : Nat → Prop} {H0 : Heap} {a : Array Value} {pc : Nat} {ls : Array Slot} {st0 rest : List Value}
theorem vx_keep {st₀ t T' : State} {L : List Loc} (h0 : st₀.heap = H) (e1 : T'.heap = t.heap) (hS : va_S A0 H0 H locs) (hA : ∀ q, q < H.size → A1 q → A0 q) (hf : ∀ q, free q → A0 q) (hL : ∀ q ∈ L, free q.base) (hF : va_F A1 st₀ t) :
    H.size ≤ T'.heap.size ∧ (∀ q : Nat, q < H.size → ¬ A1 q → T'.heap[q]? = H[q]?) ∧ va_S A0 H0 T'.heap (locs ++ L) := by
  obtain ⟨hz, hk⟩ := hF
  rw [h0] at hz hk
  exact ⟨by rw [e1]; exact hz, fun q h1 h2 => by rw [e1]; exact hk q h1 h2,
    ⟨Nat.le_trans hS.1 (by rw [e1]; exact hz), fun q h1 h2 => by rw [e1, hk q (Nat.lt_of_lt_of_le h1 hS.1) (fun z => h2 (hA q (Nat.lt_of_lt_of_le h1 hS.1) z))]; exact hS.2.1 q h1 h2, fun q hq => by
      rcases List.mem_append.mp hq with h | h
      · exact hS.2.2 q h
      · exact hf _ (hL q h)⟩⟩
theorem vx_calli {S SX : Type} {post : Int32 → S → Prop} {px : SX → Prop} {B : S → State → Prop} {BX : String → SX → State → Prop} {AX : Nat → Prop} (hr : vx_Run p l e R s m args below meth c H locs cells slots mc ms (F0 m pc ls st0) rest (va_Qi post B A1 a) (vx_X px BX AX) free) (hS : va_S A0 H0 H locs) (hA : ∀ q, q < H.size → A1 q → A0 q) (hf : ∀ q, free q → A0 q) (hAX : ∀ q, q < H.size → AX q → A0 q)
    (kx : ∀ (E : String) (ce : Cell) (q9 : Addr) (u : SX) (t : State) (H1 : Heap) (locs1 : List Loc), t.heap = H1 → s.vm.Alike t.vm → px u → BX E u t → H.size ≤ H1.size → (∀ q : Nat, q < H.size → ¬ AX q → H1[q]? = H[q]?) → va_S A0 H0 H1 locs1 → H1[q9]? = some ce → ce.vm = .none → s.vm.findClass E = some ce.cls → vx_W p l e R s m args below meth c H1 locs1 (cells + mc) (slots + ms) Q (F0 m pc ls rest) q9)
    (kk : ∀ (r : Int32) (u : S) (t : State) (H1 : Heap) (locs1 : List Loc), t.heap = H1 → s.vm.Alike t.vm → post r u → B u t → H.size ≤ H1.size → (∀ q : Nat, q < H.size → ¬ A1 q → H1[q]? = H[q]?) → va_S A0 H0 H1 locs1 → W p l e R s m args below meth c H1 locs1 (cells + mc) (slots + ms) Q (F0 m (pc + 3) ls (.int r :: rest))) : W p l e R s m args below meth c H locs cells slots Q (F0 m pc ls st0) := by
  intro T hT X
  rcases hr T hT X with ⟨v, st₀, t, T', L, h0, X', hL, e1, e2, ⟨⟨r, u, hv, hp, hb⟩, hF⟩, st⟩ | ⟨q, st₀, t, T', L, E, ce, h0, X', hL, e1, e2, ⟨u, hp, hb, hF⟩, hce, hcv, hcl, st⟩
  · cases hv
    obtain ⟨k1, k2, k3⟩ := vx_keep h0 e1 hS hA hf hL hF
    obtain ⟨t2, a1, b1⟩ := kk r u t T'.heap (locs ++ L) e1.symm (by rw [← e2]; exact X'.warmed.alike) hp hb k1 k2 k3 T' rfl X'
    exact ⟨t2, st t2 a1, b1⟩
  · obtain ⟨k1, k2, k3⟩ := vx_keep h0 e1 hS hAX hf hL hF
    obtain ⟨t2, a1, b1⟩ := kx E ce q u t T'.heap (locs ++ L) e1.symm (by rw [← e2]; exact X'.warmed.alike) hp hb k1 k2 k3 (by rw [e1]; exact hce) hcv hcl T' rfl X'
    exact ⟨t2, st.trans a1, b1⟩
theorem vx_calll {S SX : Type} {post : Int64 → S → Prop} {px : SX → Prop} {B : S → State → Prop} {BX : String → SX → State → Prop} {AX : Nat → Prop} (hr : vx_Run p l e R s m args below meth c H locs cells slots mc ms (F0 m pc ls st0) rest (va_Ql post B A1 a) (vx_X px BX AX) free) (hS : va_S A0 H0 H locs) (hA : ∀ q, q < H.size → A1 q → A0 q) (hf : ∀ q, free q → A0 q) (hAX : ∀ q, q < H.size → AX q → A0 q)
    (kx : ∀ (E : String) (ce : Cell) (q9 : Addr) (u : SX) (t : State) (H1 : Heap) (locs1 : List Loc), t.heap = H1 → s.vm.Alike t.vm → px u → BX E u t → H.size ≤ H1.size → (∀ q : Nat, q < H.size → ¬ AX q → H1[q]? = H[q]?) → va_S A0 H0 H1 locs1 → H1[q9]? = some ce → ce.vm = .none → s.vm.findClass E = some ce.cls → vx_W p l e R s m args below meth c H1 locs1 (cells + mc) (slots + ms) Q (F0 m pc ls rest) q9)
    (kk : ∀ (r : Int64) (u : S) (t : State) (H1 : Heap) (locs1 : List Loc), t.heap = H1 → s.vm.Alike t.vm → post r u → B u t → H.size ≤ H1.size → (∀ q : Nat, q < H.size → ¬ A1 q → H1[q]? = H[q]?) → va_S A0 H0 H1 locs1 → W p l e R s m args below meth c H1 locs1 (cells + mc) (slots + ms) Q (F0 m (pc + 3) ls (.long r :: rest))) : W p l e R s m args below meth c H locs cells slots Q (F0 m pc ls st0) := by
  intro T hT X
  rcases hr T hT X with ⟨v, st₀, t, T', L, h0, X', hL, e1, e2, ⟨⟨r, u, hv, hp, hb⟩, hF⟩, st⟩ | ⟨q, st₀, t, T', L, E, ce, h0, X', hL, e1, e2, ⟨u, hp, hb, hF⟩, hce, hcv, hcl, st⟩
  · cases hv
    obtain ⟨k1, k2, k3⟩ := vx_keep h0 e1 hS hA hf hL hF
    obtain ⟨t2, a1, b1⟩ := kk r u t T'.heap (locs ++ L) e1.symm (by rw [← e2]; exact X'.warmed.alike) hp hb k1 k2 k3 T' rfl X'
    exact ⟨t2, st t2 a1, b1⟩
  · obtain ⟨k1, k2, k3⟩ := vx_keep h0 e1 hS hAX hf hL hF
    obtain ⟨t2, a1, b1⟩ := kx E ce q u t T'.heap (locs ++ L) e1.symm (by rw [← e2]; exact X'.warmed.alike) hp hb k1 k2 k3 (by rw [e1]; exact hce) hcv hcl T' rfl X'
    exact ⟨t2, st.trans a1, b1⟩
theorem vx_callf {S SX : Type} {post : UInt32 → S → Prop} {px : SX → Prop} {B : S → State → Prop} {BX : String → SX → State → Prop} {AX : Nat → Prop} (hr : vx_Run p l e R s m args below meth c H locs cells slots mc ms (F0 m pc ls st0) rest (va_Qf post B A1 a) (vx_X px BX AX) free) (hS : va_S A0 H0 H locs) (hA : ∀ q, q < H.size → A1 q → A0 q) (hf : ∀ q, free q → A0 q) (hAX : ∀ q, q < H.size → AX q → A0 q)
    (kx : ∀ (E : String) (ce : Cell) (q9 : Addr) (u : SX) (t : State) (H1 : Heap) (locs1 : List Loc), t.heap = H1 → s.vm.Alike t.vm → px u → BX E u t → H.size ≤ H1.size → (∀ q : Nat, q < H.size → ¬ AX q → H1[q]? = H[q]?) → va_S A0 H0 H1 locs1 → H1[q9]? = some ce → ce.vm = .none → s.vm.findClass E = some ce.cls → vx_W p l e R s m args below meth c H1 locs1 (cells + mc) (slots + ms) Q (F0 m pc ls rest) q9)
    (kk : ∀ (r : UInt32) (u : S) (t : State) (H1 : Heap) (locs1 : List Loc), t.heap = H1 → s.vm.Alike t.vm → post r u → B u t → H.size ≤ H1.size → (∀ q : Nat, q < H.size → ¬ A1 q → H1[q]? = H[q]?) → va_S A0 H0 H1 locs1 → W p l e R s m args below meth c H1 locs1 (cells + mc) (slots + ms) Q (F0 m (pc + 3) ls (.float r :: rest))) : W p l e R s m args below meth c H locs cells slots Q (F0 m pc ls st0) := by
  intro T hT X
  rcases hr T hT X with ⟨v, st₀, t, T', L, h0, X', hL, e1, e2, ⟨⟨r, u, hv, hp, hb⟩, hF⟩, st⟩ | ⟨q, st₀, t, T', L, E, ce, h0, X', hL, e1, e2, ⟨u, hp, hb, hF⟩, hce, hcv, hcl, st⟩
  · cases hv
    obtain ⟨k1, k2, k3⟩ := vx_keep h0 e1 hS hA hf hL hF
    obtain ⟨t2, a1, b1⟩ := kk r u t T'.heap (locs ++ L) e1.symm (by rw [← e2]; exact X'.warmed.alike) hp hb k1 k2 k3 T' rfl X'
    exact ⟨t2, st t2 a1, b1⟩
  · obtain ⟨k1, k2, k3⟩ := vx_keep h0 e1 hS hAX hf hL hF
    obtain ⟨t2, a1, b1⟩ := kx E ce q u t T'.heap (locs ++ L) e1.symm (by rw [← e2]; exact X'.warmed.alike) hp hb k1 k2 k3 (by rw [e1]; exact hce) hcv hcl T' rfl X'
    exact ⟨t2, st.trans a1, b1⟩
theorem vx_calld {S SX : Type} {post : UInt64 → S → Prop} {px : SX → Prop} {B : S → State → Prop} {BX : String → SX → State → Prop} {AX : Nat → Prop} (hr : vx_Run p l e R s m args below meth c H locs cells slots mc ms (F0 m pc ls st0) rest (va_Qd post B A1 a) (vx_X px BX AX) free) (hS : va_S A0 H0 H locs) (hA : ∀ q, q < H.size → A1 q → A0 q) (hf : ∀ q, free q → A0 q) (hAX : ∀ q, q < H.size → AX q → A0 q)
    (kx : ∀ (E : String) (ce : Cell) (q9 : Addr) (u : SX) (t : State) (H1 : Heap) (locs1 : List Loc), t.heap = H1 → s.vm.Alike t.vm → px u → BX E u t → H.size ≤ H1.size → (∀ q : Nat, q < H.size → ¬ AX q → H1[q]? = H[q]?) → va_S A0 H0 H1 locs1 → H1[q9]? = some ce → ce.vm = .none → s.vm.findClass E = some ce.cls → vx_W p l e R s m args below meth c H1 locs1 (cells + mc) (slots + ms) Q (F0 m pc ls rest) q9)
    (kk : ∀ (r : UInt64) (u : S) (t : State) (H1 : Heap) (locs1 : List Loc), t.heap = H1 → s.vm.Alike t.vm → post r u → B u t → H.size ≤ H1.size → (∀ q : Nat, q < H.size → ¬ A1 q → H1[q]? = H[q]?) → va_S A0 H0 H1 locs1 → W p l e R s m args below meth c H1 locs1 (cells + mc) (slots + ms) Q (F0 m (pc + 3) ls (.double r :: rest))) : W p l e R s m args below meth c H locs cells slots Q (F0 m pc ls st0) := by
  intro T hT X
  rcases hr T hT X with ⟨v, st₀, t, T', L, h0, X', hL, e1, e2, ⟨⟨r, u, hv, hp, hb⟩, hF⟩, st⟩ | ⟨q, st₀, t, T', L, E, ce, h0, X', hL, e1, e2, ⟨u, hp, hb, hF⟩, hce, hcv, hcl, st⟩
  · cases hv
    obtain ⟨k1, k2, k3⟩ := vx_keep h0 e1 hS hA hf hL hF
    obtain ⟨t2, a1, b1⟩ := kk r u t T'.heap (locs ++ L) e1.symm (by rw [← e2]; exact X'.warmed.alike) hp hb k1 k2 k3 T' rfl X'
    exact ⟨t2, st t2 a1, b1⟩
  · obtain ⟨k1, k2, k3⟩ := vx_keep h0 e1 hS hAX hf hL hF
    obtain ⟨t2, a1, b1⟩ := kx E ce q u t T'.heap (locs ++ L) e1.symm (by rw [← e2]; exact X'.warmed.alike) hp hb k1 k2 k3 (by rw [e1]; exact hce) hcv hcl T' rfl X'
    exact ⟨t2, st.trans a1, b1⟩
theorem vx_callv {S SX : Type} {post : S → Prop} {px : SX → Prop} {B : S → State → Prop} {BX : String → SX → State → Prop} {AX : Nat → Prop} (hr : vx_Run p l e R s m args below meth c H locs cells slots mc ms (F0 m pc ls st0) rest (va_Qv post B A1 a) (vx_X px BX AX) free) (hS : va_S A0 H0 H locs) (hA : ∀ q, q < H.size → A1 q → A0 q) (hf : ∀ q, free q → A0 q) (hAX : ∀ q, q < H.size → AX q → A0 q)
    (kx : ∀ (E : String) (ce : Cell) (q9 : Addr) (u : SX) (t : State) (H1 : Heap) (locs1 : List Loc), t.heap = H1 → s.vm.Alike t.vm → px u → BX E u t → H.size ≤ H1.size → (∀ q : Nat, q < H.size → ¬ AX q → H1[q]? = H[q]?) → va_S A0 H0 H1 locs1 → H1[q9]? = some ce → ce.vm = .none → s.vm.findClass E = some ce.cls → vx_W p l e R s m args below meth c H1 locs1 (cells + mc) (slots + ms) Q (F0 m pc ls rest) q9)
    (kk : ∀ (u : S) (t : State) (H1 : Heap) (locs1 : List Loc), t.heap = H1 → s.vm.Alike t.vm → post u → B u t → H.size ≤ H1.size → (∀ q : Nat, q < H.size → ¬ A1 q → H1[q]? = H[q]?) → va_S A0 H0 H1 locs1 → W p l e R s m args below meth c H1 locs1 (cells + mc) (slots + ms) Q (F0 m (pc + 3) ls (rest))) : W p l e R s m args below meth c H locs cells slots Q (F0 m pc ls st0) := by
  intro T hT X
  rcases hr T hT X with ⟨v, st₀, t, T', L, h0, X', hL, e1, e2, ⟨⟨u, hv, hp, hb⟩, hF⟩, st⟩ | ⟨q, st₀, t, T', L, E, ce, h0, X', hL, e1, e2, ⟨u, hp, hb, hF⟩, hce, hcv, hcl, st⟩
  · cases hv
    obtain ⟨k1, k2, k3⟩ := vx_keep h0 e1 hS hA hf hL hF
    obtain ⟨t2, a1, b1⟩ := kk u t T'.heap (locs ++ L) e1.symm (by rw [← e2]; exact X'.warmed.alike) hp hb k1 k2 k3 T' rfl X'
    exact ⟨t2, st t2 a1, b1⟩
  · obtain ⟨k1, k2, k3⟩ := vx_keep h0 e1 hS hAX hf hL hF
    obtain ⟨t2, a1, b1⟩ := kx E ce q u t T'.heap (locs ++ L) e1.symm (by rw [← e2]; exact X'.warmed.alike) hp hb k1 k2 k3 (by rw [e1]; exact hce) hcv hcl T' rfl X'
    exact ⟨t2, st.trans a1, b1⟩
/-- caught by the row x of this method's table; the rows ahead don't take it -/
theorem vx_catch {own name : String} {E : String} {ce : Cell} {q : Addr} (hown : s.vm.findClass own = some m.cls) (pre : List ExceptionTableEntry) (x : ExceptionTableEntry) (suf : List ExceptionTableEntry) (hsplit : c.exceptionTable.toList = pre ++ x :: suf)
    (hpass : ∀ z ∈ pre, covers z pc = false ∨ (z.catchType ≠ 0 ∧ ∃ nm : String, (Cond.classLink own z.catchType nm).before args s = true ∧ va_Nc E nm s)) (hx : covers x pc = true) (h0 : x.catchType ≠ 0)
    (hlink : (Cond.classLink own x.catchType name).before args s = true) (hcast : (Cond.castable E name).before args s = true) (hcell : H[q]? = some ce) (hv : ce.vm = .none) (hcl : s.vm.findClass E = some ce.cls)
    (kk : W p l e R s m args below meth c H locs cells slots Q (F0 m x.handlerPc ls [.ref q])) : vx_W p l e R s m args below meth c H locs cells slots Q (F0 m pc ls rest) q := by
  intro T hT X
  have hpl : e.platform.magicAccessors = ({} : Platform).magicAccessors := by rw [X.admits.platform]
  obtain ⟨c3, c4, hc3, hc4, hasg⟩ := Cond.castable_spec hcast
  cases Option.some.inj (hc3.symm.trans hcl)
  obtain ⟨c5, hc5, hcl5⟩ := Cond.classLink_spec hown hlink e.platform hpl
  cases Option.some.inj (hc4.symm.trans hc5)
  obtain ⟨vm', X', st⟩ := X.thenCaughtThrough q (g := F0 m pc ls rest) rfl (Steps.refl _) (by rw [hT]; exact hcell) (by rw [hv]; rfl) (by obtain ⟨k9, h9, -⟩ := Vm.findClass_spec hcl; exact ⟨k9, h9⟩) pre x suf hsplit
    (fun z hz => by
      rcases hpass z hz with h | ⟨hz0, nm, hl1, hn1⟩
      · exact Or.inl h
      · obtain ⟨c6, hc6, hcl6⟩ := Cond.classLink_spec hown hl1 e.platform hpl
        obtain ⟨a8, b8, h1, h2, h3⟩ := hn1
        cases Option.some.inj (h1.symm.trans hcl)
        cases Option.some.inj (h2.symm.trans hc6)
        exact Or.inr ⟨hz0, _, hcl6, h3⟩) hx (Or.inr ⟨h0, c4, hcl5, hasg⟩)
  obtain ⟨t, a1, b1⟩ := kk (T.setVm vm') hT X'
  exact ⟨t, st.trans a1, b1⟩
end Rows
section Ends
variable {p : Program} {l : Launch} {e : Env} {R : Room} {s : State} {m : MethodId} {args : Array Value} {below : List Frame} {meth : Method} {c : Code} {H : Heap} {locs : List Loc} {cells slots : Nat} {Q : State → Prop}
variable {mc ms : Nat} {free : Addr → Prop} {A0 A1 : Nat → Prop} {H0 : Heap} {a : Array Value} {ls : Array Slot} {st0 rest : List Value}
variable {Qc : Array Value → State → Outcome → State → Prop} {XC : String → State → State → Prop}
/-- what a body that may throw owes at its end -/
def vx_MQ (below : List Frame) (Qc : Array Value → State → Outcome → State → Prop) (XC : String → State → State → Prop) (a : Array Value) (s : State) (mc ms : Nat) (free : Addr → Prop) : State → Prop := fun t =>
  ∃ o, t.status = .running ∧ Ended t below o ∧ vx_Q Qc XC mc ms free a s o t
theorem vx_ret {g : JFrame} {mc ms : Nat} (k : W p l e R s m args below meth c H locs cells slots (MQ below Qc args s mc ms free) g) : W p l e R s m args below meth c H locs cells slots (vx_MQ below Qc XC args s mc ms free) g := by
  intro T hT X
  obtain ⟨t, a1, o, b1, b2, b3, b4⟩ := k T hT X
  exact ⟨t, a1, o, b1, b2, Or.inl ⟨b3, b4⟩⟩
/-- not caught here: it goes on to the caller -/
theorem vx_widen {g : JFrame} {q : Addr} {k n : Nat} (h1 : cells ≤ k) (h2 : slots ≤ n) (kk : vx_W p l e R s m args below meth c H locs k n Q g q) : vx_W p l e R s m args below meth c H locs cells slots Q g q := fun T hT X => kk T hT (stand_widen X h1 h2)
theorem vx_out {pc : Nat} {E : String} {ce : Cell} {q : Addr} {mc ms : Nat} (hout : ∀ x ∈ c.exceptionTable.toList, covers x pc = false) (hlocks : meth.locks = false) (hcell : H[q]? = some ce) (hv : ce.vm = .none) (hcl : s.vm.findClass E = some ce.cls)
    (hx : ∀ t : State, t.heap = H → s.vm.Alike t.vm → XC E s t) (hf : ∀ z ∈ locs, free z.base) (hc : cells ≤ mc) (hs : slots ≤ ms) :
    vx_W p l e R s m args below meth c H locs cells slots (vx_MQ below Qc XC args s mc ms free) (F0 m pc ls rest) q := by
  intro T hT X
  obtain ⟨st1, hrun, hend, hW, hsm⟩ := X.leaveThrown q (g := F0 m pc ls rest) rfl rfl rfl hout hlocks
  have hcell9 : (T.setFrames (.throwing q :: below)).heap[q]? = some ce := by
    show T.heap[q]? = some ce
    rw [hT]; exact hcell
  exact ⟨_, st1, .threw q, hrun, hend, Or.inr ⟨q, rfl, E, ce, locs, hx _ hT hW.alike, hcell9, hv, hcl, hW, hsm.mono hc hs, hf⟩⟩
theorem vx_frame {U : State} {k n : Nat} (h : s.sameButNew ({ U with vm := s.vm } : State) locs k n) : s.heap.size ≤ U.heap.size ∧ ∀ q : Nat, q < s.heap.size → (∀ z ∈ locs, z.base ≠ q) → U.heap[q]? = s.heap[q]? := by
  obtain ⟨-, h2, -, -, -, h6⟩ := h
  refine ⟨h2, fun q hq hz => ?_⟩
  obtain ⟨c9, e1, e2, e3, e4⟩ := h6 q _ (Array.getElem?_eq_getElem hq)
  have hs : c9.slots = (s.heap[q]).slots := Array.ext_getElem? fun i => e4 i fun hm => hz _ hm rfl
  have h9 : c9 = s.heap[q] := by
    rw [hs] at e2
    exact e2
  have e5 : U.heap[q]? = some c9 := e1
  rw [e5, h9, Array.getElem?_eq_getElem hq]
/-- the words of a throw but the four that speak of the heap -/
def vx_no (w : Cond) : Bool := decide (w ≠ .isRef (.static Bundle.tN "UNASSIGNED_STACK" Bundle.steD)) && decide (w ≠ .isRef (.static Bundle.tN "SUPPRESSED_SENTINEL" Bundle.listD)) && decide (w ≠ .laysStatic Bundle.tN "UNASSIGNED_STACK" Bundle.steD) && decide (w ≠ .laysStatic Bundle.tN "SUPPRESSED_SENTINEL" Bundle.listD)
def vx_at0 (own : String) (ic : Nat) (X : String) (names : List String) : List Cond := (Bundle.ownAtoms0 own ic X names).filter vx_no
def vx_atS (own : String) (ic : Nat) (X : String) (names : List String) : List Cond := (Bundle.ownAtoms own ic X names).filter vx_no
/-- a word that the tables alone decide, or a good one -/
def vx_ot (w : Cond) : Bool := w.onTables || goodWord w
theorem vx_ot_at {args a' : Array Value} {s U : State} {w : Cond} (hW : s.WarmedH U.vm) (hvm : s.vm = U.vm) (hg : vx_ot w = true) (h : w.before args s = true) : w.before a' U = true := by
  simp only [vx_ot, Bool.or_eq_true] at hg
  rcases hg with hg | hg
  · exact va_tabs hg hvm h
  · exact word_at hW (good_of_word hg) h
/-- a list's words: the good ones out of the method's own list, the others by premises of their own -/
theorem vx_hat {args : Array Value} {s : State} {L B : List Cond} (h1 : ∀ w ∈ L.filter goodWord, w.before args s = true) (h2 : ∀ w ∈ L.filter (fun w => !goodWord w), w ∈ B) (h3 : ∀ w ∈ B, w.before args s = true) : ∀ w ∈ L, w.before args s = true := by
  intro w hw
  by_cases g : goodWord w = true
  · exact h1 w (List.mem_filter.mpr ⟨hw, g⟩)
  · refine h3 w (h2 w (List.mem_filter.mpr ⟨hw, ?_⟩))
    show (!goodWord w) = true
    cases hgw : goodWord w
    · rfl
    · exact absurd hgw g
theorem vx_c {args : Array Value} {s : State} {w : Cond} {B : List Cond} (h : w.before args s = true) (t : ∀ w ∈ B, w.before args s = true) : ∀ w' ∈ w :: B, w'.before args s = true := fun w' h' => (List.mem_cons.mp h').elim (fun e => by rw [e]; exact h) (t w')
theorem vx_n {args : Array Value} {s : State} : ∀ w ∈ ([] : List Cond), w.before args s = true := fun _ h => nomatch h
theorem vx_own {args : Array Value} {s : State} {L : List Cond} (h1 : ∀ w ∈ L.filter vx_no, w.before args s = true)
    (hU : (Cond.isRef (.static Bundle.tN "UNASSIGNED_STACK" Bundle.steD)).before args s = true) (hN : (Cond.isRef (.static Bundle.tN "SUPPRESSED_SENTINEL" Bundle.listD)).before args s = true)
    (lU : (Cond.laysStatic Bundle.tN "UNASSIGNED_STACK" Bundle.steD).before args s = true) (lN : (Cond.laysStatic Bundle.tN "SUPPRESSED_SENTINEL" Bundle.listD).before args s = true) : ∀ w ∈ L, w.before args s = true := by
  intro w hw
  by_cases e1 : w = .isRef (.static Bundle.tN "UNASSIGNED_STACK" Bundle.steD)
  · rw [e1]; exact hU
  · by_cases e2 : w = .isRef (.static Bundle.tN "SUPPRESSED_SENTINEL" Bundle.listD)
    · rw [e2]; exact hN
    · by_cases e3 : w = .laysStatic Bundle.tN "UNASSIGNED_STACK" Bundle.steD
      · rw [e3]; exact lU
      · by_cases e4 : w = .laysStatic Bundle.tN "SUPPRESSED_SENTINEL" Bundle.listD
        · rw [e4]; exact lN
        · exact h1 w (List.mem_filter.mpr ⟨hw, by unfold vx_no; rw [decide_eq_true e1, decide_eq_true e2, decide_eq_true e3, decide_eq_true e4]; rfl⟩)
/-- where a static field lies, its class's statics cell in H -/
def vx_L (C n d : String) (A : Nat → Prop) (U : State) (H : Heap) : Prop := ∃ (c : ClassId) (k : Class) (i : Nat) (f : Field) (a : Nat) (cell : Cell), U.vm.findClass C = some c ∧ U.fieldFound? C n d = some (c, k, i, f) ∧ f.isStatic = true ∧ k.statics = some a ∧ H[a]? = some cell ∧ cell.vm.isStatics = true ∧ cell.cls = c ∧ f.slot < cell.slots.size ∧ k.staticTypes[f.slot]? = some f.type ∧ ¬ A a
theorem vx_L.moved {C n d : String} {A : Nat → Prop} {u U : State} {H : Heap} (hvm : u.vm.Alike U.vm) (h : vx_L C n d A u H) : vx_L C n d A U H := by
  obtain ⟨c, k, i, f, a, cell, h1, h2, h3, h4, h5, h6, h7, h8, h9, h10⟩ := h
  obtain ⟨k', hi', he⟩ := State.fieldFound?_setVm hvm h2
  exact ⟨c, k', i, f, a, cell, by rw [hvm.findClass]; exact h1, hi', h3, by rw [he]; exact h4, h5, h6, h7, h8, by rw [he]; exact h9, h10⟩
theorem vx_L.kept {C n d : String} {A : Nat → Prop} {U : State} {H H1 : Heap} (h : vx_L C n d A U H) (hq : ∀ a : Nat, a < H.size → ¬ A a → H1[a]? = H[a]?) : vx_L C n d A U H1 := by
  obtain ⟨c, k, i, f, a, cell, h1, h2, h3, h4, h5, h6, h7, h8, h9, h10⟩ := h
  exact ⟨c, k, i, f, a, cell, h1, h2, h3, h4, by rw [hq a (Array.getElem?_eq_some_iff.mp h5).1 h10]; exact h5, h6, h7, h8, h9, h10⟩
theorem vx_L.narrow {C n d : String} {A B : Nat → Prop} {U : State} {H : Heap} (h : vx_L C n d A U H) (hAB : ∀ q, B q → A q) : vx_L C n d B U H := by
  obtain ⟨c, k, i, f, a, cell, h1, h2, h3, h4, h5, h6, h7, h8, h9, h10⟩ := h
  exact ⟨c, k, i, f, a, cell, h1, h2, h3, h4, h5, h6, h7, h8, h9, fun z => h10 (hAB _ z)⟩
theorem vx_L.word {C n d : String} {A : Nat → Prop} {s : State} {args : Array Value} (h : vx_L C n d A s s.heap) : (Cond.laysStatic C n d).before args s = true := by
  obtain ⟨c, k, i, f, a, cell, h1, h2, h3, h4, h5, h6, h7, h8, h9, -⟩ := h
  show (Cond.laysStatic C n d).holds args s none s [] = true
  exact Cond.laysStatic_of h1 h2 h3 h4 h5 h6 h7 h8 h9
/-- .. and what it holds: null or some reference -/
def vx_Zq (C n d : String) (A : Nat → Prop) (U : State) (H : Heap) : Prop := va_Zq C n d A U H ∧ vx_L C n d A U H
theorem vx_Zq.moved {C n d : String} {A : Nat → Prop} {u U : State} {H : Heap} (hvm : u.vm.Alike U.vm) (h : vx_Zq C n d A u H) : vx_Zq C n d A U H := ⟨va_Zq.moved hvm h.1, vx_L.moved hvm h.2⟩
theorem vx_Zq.kept {C n d : String} {A : Nat → Prop} {U : State} {H H1 : Heap} (h : vx_Zq C n d A U H) (hq : ∀ a : Nat, a < H.size → ¬ A a → H1[a]? = H[a]?) : vx_Zq C n d A U H1 := ⟨va_Zq.kept h.1 hq, vx_L.kept h.2 hq⟩
theorem vx_Zq.narrow {C n d : String} {A B : Nat → Prop} {U : State} {H : Heap} (h : vx_Zq C n d A U H) (hAB : ∀ q, B q → A q) : vx_Zq C n d B U H := ⟨va_Zq.narrow h.1 hAB, vx_L.narrow h.2 hAB⟩
theorem vx_Zqof {args : Array Value} {s : State} {C n d : String} {A : Nat → Prop} (hl : (Cond.laysStatic C n d).before args s = true) (hini : (Cond.initialized C).before args s = true) (h : (Cond.isRef (.static C n d)).before args s = true) (hA : ∀ a : Nat, a < s.heap.size → ¬ A a) : vx_Zq C n d A s s.heap := by
  refine ⟨va_Zqof hl hini h hA, ?_⟩
  obtain ⟨c, k, i, f, a, cell, h1, h2, h3, h4, h5, h6, h7, h8, h9⟩ := Cond.laysStatic_spec hl
  exact ⟨c, k, i, f, a, cell, h1, h2, h3, h4, h5, h6, h7, h8, h9, hA a (Array.getElem?_eq_some_iff.mp h5).1⟩
theorem vx_isRef {C n d : String} {v : Value} {A : Nat → Prop} {s : State} {args : Array Value} (h : va_Z C n d v A s s.heap) (hv : v.isRef = true) : (Cond.isRef (.static C n d)).before args s = true := by
  obtain ⟨cf, kf, fi, f, a, cell, h1, h2, h3, h4, h5, h6, h7, -⟩ := h
  have he : (Term.static C n d).eval args s none [] s = some v := by
    simp [Term.eval, State.fieldNamed?, h1, h2, h4, h5, h6, h7]
  simp only [Cond.before, Cond.holds, Cond.value, he]
  cases v <;> simp_all [Value.isRef]
theorem vx_isRefq {C n d : String} {A : Nat → Prop} {s : State} {args : Array Value} (h : va_Zq C n d A s s.heap) : (Cond.isRef (.static C n d)).before args s = true := by
  rcases h with h | ⟨t, h⟩
  · exact vx_isRef h rfl
  · exact vx_isRef h rfl
/-- the same frame, seen from here: as if the method were called anew in this heap -/
theorem vx_rebase {T : State} (X : Stand p l e R s m args below meth c T locs cells slots) {R' : Room} (hf : R'.frames ≤ R.frames) (hl : R'.locals ≤ R.locals) (hc : cells + R'.cells ≤ R.cells) (hs : slots + R'.slots ≤ R.slots) :
    Stand p l e R' ((T.setVm s.vm).setFrames (.invoking m args :: below)) m args below meth c T [] 0 0 := by
  have htop : (T.setVm s.vm).topJava?.isSome := X.here.top
  have hF : ((T.setVm s.vm).setFrames (.invoking m args :: below)).frames = .invoking m args :: below := State.frames_setFrames _ (State.cur_lt_of_top htop)
  obtain ⟨g₀, hg0⟩ := Option.isSome_iff_exists.mp htop
  obtain ⟨r, hr⟩ := State.topJava?_eq_some.mp hg0
  have hl9 : e.platform.stackLimits (T.setVm s.vm).me = e.platform.stackLimits s.me := X.limits
  have hb9 : (T.setVm s.vm).me.stackBytes = s.me.stackBytes := X.bytes
  refine ⟨X.admits, X.cas, X.clock, hF, ?_, X.hears, X.method, X.code, X.here, X.tail, X.warmed, ?_, ?_, ?_⟩
  · have h := X.room
    have hU : ((T.setVm s.vm).setFrames (.invoking m args :: below)).localsInUse = s.localsInUse := by
      rw [State.localsInUse_invoking hF (meth := meth) (c := c) X.method X.code, State.localsInUse_invoking X.frames X.method X.code]
    simp only [State.hasRoom, Bool.and_eq_true, decide_eq_true_eq] at h ⊢
    obtain ⟨⟨⟨⟨h1, h2, h3, h4, h5, h6⟩, h7⟩, h8⟩, h9⟩ := h
    rw [X.frames, List.length_cons] at h2 h3
    have q1 := X.heapSize
    have q2 := X.used
    simp only [hF, hU, List.length_cons, State.stackLimits_setFrames, State.stackBytes_setFrames, hl9, hb9]
    refine ⟨⟨⟨⟨by omega, by omega, by omega, by omega, by omega, h6⟩, ?_⟩, ?_⟩, X.book⟩
    · show T.heap.size + R'.cells ≤ e.platform.maxCells
      omega
    · show T.slotsUsed + R'.slots ≤ e.platform.maxSlots
      omega
  · rw [State.stackLimits_setFrames]; rfl
  · rw [State.stackBytes_setFrames]; rfl
  · refine ⟨?_, Nat.le_refl _, Nat.le_refl _, ?_, ?_, fun a c9 h9 => ⟨c9, h9, rfl, rfl, fun _ _ => rfl⟩⟩
    · obtain ⟨t, ht, -⟩ := State.frames_cons hr
      show T.setVm s.vm = { ((T.setVm s.vm).setFrames (.invoking m args :: below)).setFrames (T.setVm s.vm).frames with heap := T.heap, slotsUsed := T.slotsUsed }
      rw [State.setFrames_setFrames, State.setFrames_self ht]
      rfl
    · show T.slotsUsed = T.slotsUsed + ((T.heap.toList.drop T.heap.size).map (·.slots.size)).sum
      rw [List.drop_eq_nil_of_le (Nat.le_of_eq Array.length_toList)]
      rfl
    · show ((T.heap.toList.drop T.heap.size).map (·.slots.size)).sum ≤ 0
      rw [List.drop_eq_nil_of_le (Nat.le_of_eq Array.length_toList)]
      exact Nat.le_refl _
/-- 'throw new E()': new; dup; invokespecial; athrow -/
theorem vx_throw0 {cc : ByteArray} {pc : Nat} (hexec : p.tables.exec = Jvm.exec) (hb : c.code = cc) (hl : l.stackTraces = false) {own cls : String} {names : List String} {ik ic mc ms : Nat} {A : Nat → Prop}
    (hown : s.vm.findClass own = some m.cls) (hcls : Bundle.fit cls = true) (hnames : ∀ n ∈ names, Bundle.fit n = true)
    (hk : (Cond.classLink own ik cls).before args s = true) (hini : (Cond.initialized cls).before args s = true) (hat : ∀ w ∈ vx_at0 own ic cls names, w.before args s = true)
    (hgood : ∀ w ∈ Cond.classLink own ik cls :: Cond.initialized cls :: vx_at0 own ic cls names, vx_ot w = true)
    (hU : vx_Zq Bundle.tN "UNASSIGNED_STACK" Bundle.steD A s s.heap) (hN : vx_Zq Bundle.tN "SUPPRESSED_SENTINEL" Bundle.listD A s s.heap) (hS : va_S A s.heap H locs) (hsize : ls.size = c.maxLocals)
    (d0 : decode cc pc = .ok (.new ik, 3)) (d3 : decode cc (pc + 3) = .ok (.dup, 1)) (d4 : decode cc (pc + 4) = .ok (.invokespecial ic, 3)) (d7 : decode cc (pc + 7) = .ok (.athrow, 1))
    (hout : ∀ x ∈ c.exceptionTable.toList, covers x (pc + 7) = false)
    (hRframes : names.length + 3 < R.frames) (hRlocals : (rest.map fun v => v.category).sum + (13 * (names.length + 1) + 42) ≤ R.locals) (hRcells : cells + 1 ≤ R.cells) (hRslots : slots + 6 ≤ R.slots) (hlocks : meth.locks = false)
    (hx : ∀ t : State, s.vm.Alike t.vm → H.size ≤ t.heap.size → (∀ q : Nat, q < H.size → t.heap[q]? = H[q]?) → XC cls s t)
    (hf : ∀ z ∈ locs, free z.base) (hc : cells + 1 ≤ mc) (hs : slots + 6 ≤ ms) :
    W p l e R s m args below meth c H locs cells slots (vx_MQ below Qc XC args s mc ms free) (F0 m pc ls rest) := by
  intro T hT X
  have htr : e.platform.stackTraces = false := (show e.platform.stackTraces = l.stackTraces by rw [X.admits.platform]).trans hl
  have Y := vx_rebase X (R' := { frames := R.frames, locals := R.locals, cells := 1, slots := 6 }) (Nat.le_refl _) (Nat.le_refl _) hRcells hRslots
  obtain ⟨s', hA⟩ : ∃ z, z = (T.setVm s.vm).setFrames (.invoking m args :: below) := ⟨_, rfl⟩
  rw [← hA] at Y
  have hvm : s'.vm = s.vm := by rw [hA]; rfl
  have hhp : s'.heap = H := by rw [hA]; exact hT
  have hW0 : s.WarmedH s'.vm := by rw [hvm]; exact State.WarmedH.refl s
  have hat' : ∀ w ∈ vx_at0 own ic cls names, w.before args s' = true := fun w hw => vx_ot_at hW0 hvm.symm (hgood w (List.mem_cons_of_mem _ (List.mem_cons_of_mem _ hw))) (hat w hw)
  have hk' : (Cond.classLink own ik cls).before args s' = true := vx_ot_at hW0 hvm.symm (hgood _ List.mem_cons_self) hk
  have hini' : (Cond.initialized cls).before args s' = true := vx_ot_at hW0 hvm.symm (hgood _ (List.mem_cons_of_mem _ List.mem_cons_self)) hini
  have hU' : vx_Zq Bundle.tN "UNASSIGNED_STACK" Bundle.steD A s' s'.heap := by rw [hhp]; exact vx_Zq.moved hW0.alike (hU.kept hS.2.1)
  have hN' : vx_Zq Bundle.tN "SUPPRESSED_SENTINEL" Bundle.listD A s' s'.heap := by rw [hhp]; exact vx_Zq.moved hW0.alike (hN.kept hS.2.1)
  have h : ∀ w ∈ Bundle.ownAtoms0 own ic cls names, w.before args s' = true := vx_own hat' (vx_isRefq hU'.1) (vx_isRefq hN'.1) hU'.2.word hN'.2.word
  have hown' : s'.vm.findClass own = some m.cls := by rw [hvm]; exact hown
  have hins : (Cond.instantiable cls 6).before args s' = true := h _ (by simp [Bundle.ownAtoms0])
  obtain ⟨vm₁, cX, kX, hfX, hkX, -, -, X₁, st1⟩ := Y.newCold hexec (own := own) (C := cls) (index := ik) (n := 6) hown' hk' hins hini'
    (g := F0 m pc ls rest) rfl (by rw [hb]; exact d0) (Nat.le_refl _) (Nat.le_refl _)
  generalize hT1 : (T.setVm vm₁).pushCell { cls := cX, slots := kX.instanceTypes.map defaultValue, vm := .none } = T1 at X₁ st1
  have hcat : (Value.ref T.heap.size).category = 1 := rfl
  have hcellA : T1.heap[T.heap.size]? = some (freshCell cX kX) := by rw [← hT1]; exact State.heap_pushCell_size _ _
  have d3' : decode c.code (pc + 3) = .ok (.dup, 1) := by rw [hb]; exact d3
  obtain ⟨U, hsteps, hrun, hend, hW, hsame, ce, hce, hO⟩ := X₁.ctorThrow0 hexec htr (own := own) (cls := cls) (names := names) (ic := ic) hown' hcls hnames h (fun x hx => nomatch hx) hfX hkX hcellA (by rw [hhp, hT]; exact Nat.le_refl _)
    (g := { method := m, pc := pc + 4, locals := ls, stack := .ref T.heap.size :: .ref T.heap.size :: rest, locked := none }) rfl hsize rfl rfl (rest := rest) rfl
    (by rw [hb]; exact d4) (by rw [hb]; exact d7) hout hRframes (by simp only [List.map_cons, List.sum_cons, hcat]; omega) hlocks
  obtain ⟨f1, f2⟩ := vx_frame hsame
  rw [hhp] at f1 f2
  have hWs : s.WarmedH U.vm := State.WarmedH.trans hW0 hW
  have hcl : s.vm.findClass cls = some ce.cls := by
    have h9 := hO.cls
    rw [hvm] at h9
    exact h9
  have hall : s.sameButNew ({ U with vm := s.vm } : State) locs mc ms := by
    subst hA
    obtain ⟨e1, e2⟩ := hsame
    rw [State.setFrames_setFrames] at e1
    have h2 : (T.setVm s.vm).sameButNew ({ U with vm := s.vm } : State) [] (0 + 1) (0 + 6) := ⟨e1, e2⟩
    have h3 := X.same.trans h2
    rw [List.append_nil] at h3
    exact h3.mono hc hs
  refine ⟨U, ?_, .threw T.heap.size, hrun, hend, Or.inr ⟨T.heap.size, rfl, cls, ce, locs, hx U hWs.alike f1 (fun q hq => f2 q hq (fun z hz => nomatch hz)), hce, hO.vm, hcl, hWs, hall, hf⟩⟩
  refine st1 _ ?_
  show Steps p.tables e below (T1.setTop { method := m, pc := pc + 3, locals := ls, stack := .ref T.heap.size :: rest, locked := none }) _
  jvm_step X₁.here [X₁.here.top, hexec, d3', Value.category]
  exact hsteps
/-- 'throw new E("text")': new; dup; ldc; invokespecial; athrow -/
theorem vx_throwS {cc : ByteArray} {pc : Nat} (hexec : p.tables.exec = Jvm.exec) (hb : c.code = cc) (hl : l.stackTraces = false) {own cls text : String} {names : List String} {ik is ic mc ms sa : Nat} {A : Nat → Prop}
    (hown : s.vm.findClass own = some m.cls) (hcls : Bundle.fit cls = true) (hnames : ∀ n ∈ names, Bundle.fit n = true)
    (hk : (Cond.classLink own ik cls).before args s = true) (hini : (Cond.initialized cls).before args s = true) (hstr : vk_R own is text sa s) (hat : ∀ w ∈ vx_atS own ic cls names, w.before args s = true)
    (hgood : ∀ w ∈ Cond.classLink own ik cls :: Cond.initialized cls :: vx_atS own ic cls names, vx_ot w = true)
    (hU : vx_Zq Bundle.tN "UNASSIGNED_STACK" Bundle.steD A s s.heap) (hN : vx_Zq Bundle.tN "SUPPRESSED_SENTINEL" Bundle.listD A s s.heap) (hS : va_S A s.heap H locs) (hsize : ls.size = c.maxLocals)
    (d0 : decode cc pc = .ok (.new ik, 3)) (d3 : decode cc (pc + 3) = .ok (.dup, 1)) (d4 : decode cc (pc + 4) = .ok (.ldc is, 2)) (d6 : decode cc (pc + 6) = .ok (.invokespecial ic, 3)) (d9 : decode cc (pc + 9) = .ok (.athrow, 1))
    (hout : ∀ x ∈ c.exceptionTable.toList, covers x (pc + 9) = false)
    (hRframes : names.length + 3 < R.frames) (hRlocals : (rest.map fun v => v.category).sum + (13 * (names.length + 1) + 43) ≤ R.locals) (hRcells : cells + 1 ≤ R.cells) (hRslots : slots + 6 ≤ R.slots) (hlocks : meth.locks = false)
    (hx : ∀ t : State, s.vm.Alike t.vm → H.size ≤ t.heap.size → (∀ q : Nat, q < H.size → t.heap[q]? = H[q]?) → XC cls s t)
    (hf : ∀ z ∈ locs, free z.base) (hc : cells + 1 ≤ mc) (hs : slots + 6 ≤ ms) :
    W p l e R s m args below meth c H locs cells slots (vx_MQ below Qc XC args s mc ms free) (F0 m pc ls rest) := by
  intro T hT X
  have htr : e.platform.stackTraces = false := (show e.platform.stackTraces = l.stackTraces by rw [X.admits.platform]).trans hl
  have Y := vx_rebase X (R' := { frames := R.frames, locals := R.locals, cells := 1, slots := 6 }) (Nat.le_refl _) (Nat.le_refl _) hRcells hRslots
  obtain ⟨s', hA⟩ : ∃ z, z = (T.setVm s.vm).setFrames (.invoking m args :: below) := ⟨_, rfl⟩
  rw [← hA] at Y
  have hvm : s'.vm = s.vm := by rw [hA]; rfl
  have hhp : s'.heap = H := by rw [hA]; exact hT
  have hW0 : s.WarmedH s'.vm := by rw [hvm]; exact State.WarmedH.refl s
  have hat' : ∀ w ∈ vx_atS own ic cls names, w.before args s' = true := fun w hw => vx_ot_at hW0 hvm.symm (hgood w (List.mem_cons_of_mem _ (List.mem_cons_of_mem _ hw))) (hat w hw)
  have hk' : (Cond.classLink own ik cls).before args s' = true := vx_ot_at hW0 hvm.symm (hgood _ List.mem_cons_self) hk
  have hini' : (Cond.initialized cls).before args s' = true := vx_ot_at hW0 hvm.symm (hgood _ (List.mem_cons_of_mem _ List.mem_cons_self)) hini
  have hU' : vx_Zq Bundle.tN "UNASSIGNED_STACK" Bundle.steD A s' s'.heap := by rw [hhp]; exact vx_Zq.moved hW0.alike (hU.kept hS.2.1)
  have hN' : vx_Zq Bundle.tN "SUPPRESSED_SENTINEL" Bundle.listD A s' s'.heap := by rw [hhp]; exact vx_Zq.moved hW0.alike (hN.kept hS.2.1)
  have h : ∀ w ∈ Bundle.ownAtoms own ic cls names, w.before args s' = true := vx_own hat' (vx_isRefq hU'.1) (vx_isRefq hN'.1) hU'.2.word hN'.2.word
  have hown' : s'.vm.findClass own = some m.cls := by rw [hvm]; exact hown
  have hins : (Cond.instantiable cls 6).before args s' = true := h _ (by simp [Bundle.ownAtoms])
  obtain ⟨vm₁, cX, kX, hfX, hkX, -, -, X₁, st1⟩ := Y.newCold hexec (own := own) (C := cls) (index := ik) (n := 6) hown' hk' hins hini'
    (g := F0 m pc ls rest) rfl (by rw [hb]; exact d0) (Nat.le_refl _) (Nat.le_refl _)
  generalize hT1 : (T.setVm vm₁).pushCell { cls := cX, slots := kX.instanceTypes.map defaultValue, vm := .none } = T1 at X₁ st1
  have hcat : (Value.ref T.heap.size).category = 1 := rfl
  have hcellA : T1.heap[T.heap.size]? = some (freshCell cX kX) := by rw [← hT1]; exact State.heap_pushCell_size _ _
  have d3' : decode c.code (pc + 3) = .ok (.dup, 1) := by rw [hb]; exact d3
  have d4' : decode c.code (pc + 4) = .ok (.ldc is, 2) := by rw [hb]; exact d4
  have hstr' : vk_R own is text sa s' := vk_R.warm hW0 hstr
  obtain ⟨U, hsteps, hrun, hend, hW, hsame, ce, hce, hO⟩ := X₁.ctorThrowS hexec htr (own := own) (cls := cls) (names := names) (ic := ic) hown' hcls hnames h (fun x hx => nomatch hx) hfX hkX hcellA (by rw [hhp, hT]; exact Nat.le_refl _) (msg := .ref sa) rfl
    (g := { method := m, pc := pc + 6, locals := ls, stack := .ref sa :: .ref T.heap.size :: .ref T.heap.size :: rest, locked := none }) rfl hsize rfl rfl (rest := rest) rfl
    (by rw [hb]; exact d6) (by rw [hb]; exact d9) hout hRframes (by simp only [List.map_cons, List.sum_cons, hcat]; omega) hlocks
  obtain ⟨f1, f2⟩ := vx_frame hsame
  rw [hhp] at f1 f2
  have hWs : s.WarmedH U.vm := State.WarmedH.trans hW0 hW
  have hcl : s.vm.findClass cls = some ce.cls := by
    have h9 := hO.cls
    rw [hvm] at h9
    exact h9
  have hall : s.sameButNew ({ U with vm := s.vm } : State) locs mc ms := by
    subst hA
    obtain ⟨e1, e2⟩ := hsame
    rw [State.setFrames_setFrames] at e1
    have h2 : (T.setVm s.vm).sameButNew ({ U with vm := s.vm } : State) [] (0 + 1) (0 + 6) := ⟨e1, e2⟩
    have h3 := X.same.trans h2
    rw [List.append_nil] at h3
    exact h3.mono hc hs
  refine ⟨U, ?_, .threw T.heap.size, hrun, hend, Or.inr ⟨T.heap.size, rfl, cls, ce, locs, hx U hWs.alike f1 (fun q hq => f2 q hq (fun z hz => nomatch hz)), hce, hO.vm, hcl, hWs, hall, hf⟩⟩
  refine st1 _ ?_
  show Steps p.tables e below (T1.setTop { method := m, pc := pc + 3, locals := ls, stack := .ref T.heap.size :: rest, locked := none }) _
  jvm_step X₁.here [X₁.here.top, hexec, d3', Value.category]
  exact X₁.ldcString hexec (own := own) (text := text) (index := is) (a := sa) hown' hstr'.1 hstr'.2
    (g := { method := m, pc := pc + 4, locals := ls, stack := .ref T.heap.size :: .ref T.heap.size :: rest, locked := none }) rfl d4' _ hsteps
/-- 'throw new E("text")', the text by a wide index -/
theorem vx_throwSW {cc : ByteArray} {pc : Nat} (hexec : p.tables.exec = Jvm.exec) (hb : c.code = cc) (hl : l.stackTraces = false) {own cls text : String} {names : List String} {ik is ic mc ms sa : Nat} {A : Nat → Prop}
    (hown : s.vm.findClass own = some m.cls) (hcls : Bundle.fit cls = true) (hnames : ∀ n ∈ names, Bundle.fit n = true)
    (hk : (Cond.classLink own ik cls).before args s = true) (hini : (Cond.initialized cls).before args s = true) (hstr : vk_R own is text sa s) (hat : ∀ w ∈ vx_atS own ic cls names, w.before args s = true)
    (hgood : ∀ w ∈ Cond.classLink own ik cls :: Cond.initialized cls :: vx_atS own ic cls names, vx_ot w = true)
    (hU : vx_Zq Bundle.tN "UNASSIGNED_STACK" Bundle.steD A s s.heap) (hN : vx_Zq Bundle.tN "SUPPRESSED_SENTINEL" Bundle.listD A s s.heap) (hS : va_S A s.heap H locs) (hsize : ls.size = c.maxLocals)
    (d0 : decode cc pc = .ok (.new ik, 3)) (d3 : decode cc (pc + 3) = .ok (.dup, 1)) (d4 : decode cc (pc + 4) = .ok (.ldc_w is, 3)) (d7 : decode cc (pc + 7) = .ok (.invokespecial ic, 3)) (d10 : decode cc (pc + 10) = .ok (.athrow, 1))
    (hout : ∀ x ∈ c.exceptionTable.toList, covers x (pc + 10) = false)
    (hRframes : names.length + 3 < R.frames) (hRlocals : (rest.map fun v => v.category).sum + (13 * (names.length + 1) + 43) ≤ R.locals) (hRcells : cells + 1 ≤ R.cells) (hRslots : slots + 6 ≤ R.slots) (hlocks : meth.locks = false)
    (hx : ∀ t : State, s.vm.Alike t.vm → H.size ≤ t.heap.size → (∀ q : Nat, q < H.size → t.heap[q]? = H[q]?) → XC cls s t)
    (hf : ∀ z ∈ locs, free z.base) (hc : cells + 1 ≤ mc) (hs : slots + 6 ≤ ms) :
    W p l e R s m args below meth c H locs cells slots (vx_MQ below Qc XC args s mc ms free) (F0 m pc ls rest) := by
  intro T hT X
  have htr : e.platform.stackTraces = false := (show e.platform.stackTraces = l.stackTraces by rw [X.admits.platform]).trans hl
  have Y := vx_rebase X (R' := { frames := R.frames, locals := R.locals, cells := 1, slots := 6 }) (Nat.le_refl _) (Nat.le_refl _) hRcells hRslots
  obtain ⟨s', hA⟩ : ∃ z, z = (T.setVm s.vm).setFrames (.invoking m args :: below) := ⟨_, rfl⟩
  rw [← hA] at Y
  have hvm : s'.vm = s.vm := by rw [hA]; rfl
  have hhp : s'.heap = H := by rw [hA]; exact hT
  have hW0 : s.WarmedH s'.vm := by rw [hvm]; exact State.WarmedH.refl s
  have hat' : ∀ w ∈ vx_atS own ic cls names, w.before args s' = true := fun w hw => vx_ot_at hW0 hvm.symm (hgood w (List.mem_cons_of_mem _ (List.mem_cons_of_mem _ hw))) (hat w hw)
  have hk' : (Cond.classLink own ik cls).before args s' = true := vx_ot_at hW0 hvm.symm (hgood _ List.mem_cons_self) hk
  have hini' : (Cond.initialized cls).before args s' = true := vx_ot_at hW0 hvm.symm (hgood _ (List.mem_cons_of_mem _ List.mem_cons_self)) hini
  have hU' : vx_Zq Bundle.tN "UNASSIGNED_STACK" Bundle.steD A s' s'.heap := by rw [hhp]; exact vx_Zq.moved hW0.alike (hU.kept hS.2.1)
  have hN' : vx_Zq Bundle.tN "SUPPRESSED_SENTINEL" Bundle.listD A s' s'.heap := by rw [hhp]; exact vx_Zq.moved hW0.alike (hN.kept hS.2.1)
  have h : ∀ w ∈ Bundle.ownAtoms own ic cls names, w.before args s' = true := vx_own hat' (vx_isRefq hU'.1) (vx_isRefq hN'.1) hU'.2.word hN'.2.word
  have hown' : s'.vm.findClass own = some m.cls := by rw [hvm]; exact hown
  have hins : (Cond.instantiable cls 6).before args s' = true := h _ (by simp [Bundle.ownAtoms])
  obtain ⟨vm₁, cX, kX, hfX, hkX, -, -, X₁, st1⟩ := Y.newCold hexec (own := own) (C := cls) (index := ik) (n := 6) hown' hk' hins hini'
    (g := F0 m pc ls rest) rfl (by rw [hb]; exact d0) (Nat.le_refl _) (Nat.le_refl _)
  generalize hT1 : (T.setVm vm₁).pushCell { cls := cX, slots := kX.instanceTypes.map defaultValue, vm := .none } = T1 at X₁ st1
  have hcat : (Value.ref T.heap.size).category = 1 := rfl
  have hcellA : T1.heap[T.heap.size]? = some (freshCell cX kX) := by rw [← hT1]; exact State.heap_pushCell_size _ _
  have d3' : decode c.code (pc + 3) = .ok (.dup, 1) := by rw [hb]; exact d3
  have d4' : decode c.code (pc + 4) = .ok (.ldc_w is, 3) := by rw [hb]; exact d4
  have hstr' : vk_R own is text sa s' := vk_R.warm hW0 hstr
  obtain ⟨U, hsteps, hrun, hend, hW, hsame, ce, hce, hO⟩ := X₁.ctorThrowS hexec htr (own := own) (cls := cls) (names := names) (ic := ic) hown' hcls hnames h (fun x hx => nomatch hx) hfX hkX hcellA (by rw [hhp, hT]; exact Nat.le_refl _) (msg := .ref sa) rfl
    (g := { method := m, pc := pc + 7, locals := ls, stack := .ref sa :: .ref T.heap.size :: .ref T.heap.size :: rest, locked := none }) rfl hsize rfl rfl (rest := rest) rfl
    (by rw [hb]; exact d7) (by rw [hb]; exact d10) hout hRframes (by simp only [List.map_cons, List.sum_cons, hcat]; omega) hlocks
  obtain ⟨f1, f2⟩ := vx_frame hsame
  rw [hhp] at f1 f2
  have hWs : s.WarmedH U.vm := State.WarmedH.trans hW0 hW
  have hcl : s.vm.findClass cls = some ce.cls := by
    have h9 := hO.cls
    rw [hvm] at h9
    exact h9
  have hall : s.sameButNew ({ U with vm := s.vm } : State) locs mc ms := by
    subst hA
    obtain ⟨e1, e2⟩ := hsame
    rw [State.setFrames_setFrames] at e1
    have h2 : (T.setVm s.vm).sameButNew ({ U with vm := s.vm } : State) [] (0 + 1) (0 + 6) := ⟨e1, e2⟩
    have h3 := X.same.trans h2
    rw [List.append_nil] at h3
    exact h3.mono hc hs
  refine ⟨U, ?_, .threw T.heap.size, hrun, hend, Or.inr ⟨T.heap.size, rfl, cls, ce, locs, hx U hWs.alike f1 (fun q hq => f2 q hq (fun z hz => nomatch hz)), hce, hO.vm, hcl, hWs, hall, hf⟩⟩
  refine st1 _ ?_
  show Steps p.tables e below (T1.setTop { method := m, pc := pc + 3, locals := ls, stack := .ref T.heap.size :: rest, locked := none }) _
  jvm_step X₁.here [X₁.here.top, hexec, d3', Value.category]
  exact X₁.ldcStringW hexec (own := own) (text := text) (index := is) (a := sa) hown' hstr'.1 hstr'.2
    (g := { method := m, pc := pc + 4, locals := ls, stack := .ref T.heap.size :: .ref T.heap.size :: rest, locked := none }) rfl d4' _ hsteps
end Ends
section Bodies
variable {l : Launch}
theorem vx_ofW {y : MethodName} {ws ws' : List Cond} {rm : Room} {Pc : Array Value → State → Prop} {Qc : Array Value → State → Outcome → State → Prop} {XC : String → State → State → Prop} {mc ms : Nat} {free : Addr → Prop} {cc : ByteArray} {maxL : Nat} {ret : Option FieldType}
    (hy : plainName y.cls = true) (hw : ws = Cond.code y cc maxL ret :: ws')
    (body : ∀ p e s m args below meth c s₁, BodyLoose p l y (headSpec ws rm) cc maxL ret e s m args below meth c s₁ → c.maxLocals = maxL → (∀ x ∈ c.exceptionTable.toList, False) → Pc args s →
      W p l e (headSpec ws rm).room s m args below meth c s.heap [] 0 0 (vx_MQ below Qc XC args s mc ms free) (entryFrame m args maxL)) : vx_Met l y ws rm Pc Qc XC mc ms free := by
  refine MetFree.of_bodyS (code := cc) (maxLocals := maxL) (ret := ret) hy ?_ ?_
  · intro args s m h hn
    obtain ⟨meth, c, h1, h2, h3, h4, h5, h6, -, -⟩ := Cond.code_spec hn (atoms_spec (ws := ws) h _ (by rw [hw]; exact List.mem_cons_self))
    exact ⟨meth, c, h1, h2, h3, h4, h5, h6⟩
  · intro p e s m args below meth c s₁ B hml hP _
    have hh0 : s₁.heap = s.heap := by rw [B.state]; rfl
    have ht : ∀ x ∈ c.exceptionTable.toList, False := by
      obtain ⟨meth9, c9, h1, h2, -, -, -, -, h7, -⟩ := Cond.code_spec B.named (atoms_spec (ws := ws) B.pre _ (by rw [hw]; exact List.mem_cons_self))
      cases Option.some.inj (h1.symm.trans B.method)
      cases Option.some.inj (h2.symm.trans (Stand.of_body B).code)
      intro x hx
      rw [Array.isEmpty_iff.mp h7] at hx
      cases hx
    obtain ⟨t, a1, o, b1, b2, b3⟩ := body p e s m args below meth c s₁ B hml ht hP s₁ hh0 (Stand.of_body B)
    exact ⟨t, o, a1, b1, b2, b3⟩
/-- the table of a body with handlers -/
theorem vx_table {p : Program} {x y : MethodName} {S : Spec} {cc bytes : ByteArray} {maxL maxL' : Nat} {ret ret' : Option FieldType} {e : Env} {s s₁ : State} {m : MethodId} {args : Array Value} {below : List Frame} {meth : Method} {c : Code} {hh : List (Nat × Nat × Nat × Nat)}
    (B : BodyLoose p l y S cc maxL ret e s m args below meth c s₁) (h : (Cond.codeWith y bytes maxL' ret' hh).before args s = true) : c.exceptionTable.toList = tableOf hh := by
  obtain ⟨m9, meth9, c9, hn9, h1, h2, -, -, h6, -⟩ := Cond.codeWith_spec h
  cases Option.some.inj (hn9.symm.trans B.named)
  cases Option.some.inj (h1.symm.trans B.method)
  cases Option.some.inj (h2.symm.trans (Stand.of_body B).code)
  rw [← h6, table_eq]
end Bodies
end VXA
/-! ===== END ===== -/
/-! ===== BEGIN a static call of a method with an exception table ===== -/
section VXS
variable {p : Program} {l : Launch} {e : Env} {R : Room} {s : State} {m : MethodId} {args : Array Value} {below : List Frame} {meth : Method} {c : Code} {T : State} {H : Heap} {locs : List Loc} {cells slots : Nat}
abbrev vx_CSW (R : Room) (s : State) (args : Array Value) (own : String) (index : Nat) (y : MethodName) (bytes : ByteArray) (maxL : Nat) (ret : Option FieldType) (hh : List (Nat × Nat × Nat × Nat)) (ws : List Cond) (rm : Room) (mc ms n : Nat) : Prop :=
  (rm.cells = mc ∧ rm.slots = ms ∧ rm.frames + 1 ≤ R.frames ∧ 8 + (maxL + 11) + rm.locals ≤ R.locals ∧ (∀ w ∈ ws, ∀ (a' : Array Value) (U : State), s.WarmedH U.vm → w.before a' U = true) ∧ Cond.codeWith y bytes maxL ret hh ∈ ws) ∧
  (Cond.codeWith y bytes maxL ret hh).before args s = true ∧ (Cond.initialized y.cls).before args s = true ∧ (y.cls ≠ "java/lang/invoke/MethodHandle" ∧ y.cls ≠ "java/lang/invoke/VarHandle") ∧
  (∀ sig, parseMethodDescriptor y.desc = some sig → n = sig.parameters.length) ∧ (Cond.methodLink own index y).before args s = true ∧ (Cond.static y).before args s = true
theorem vx_cwSW {own : String} {index maxL mc ms : Nat} {y : MethodName} {bytes : ByteArray} {ret : Option FieldType} {hh : List (Nat × Nat × Nat × Nat)} {Ts ws ws' : List Cond} {rm : Room} (n : Nat) (ht : ∀ w ∈ Ts, w.before args s = true) (hT : GoodIn Ts (va_wsS own index y ws)) (hw : ws = Cond.codeWith y bytes maxL ret hh :: ws') (hrc : rm.cells = mc) (hrs : rm.slots = ms)
    (hd : y.cls ≠ "java/lang/invoke/MethodHandle" ∧ y.cls ≠ "java/lang/invoke/VarHandle" ∧ (parseMethodDescriptor y.desc).map (fun d => d.parameters.length) = some n) (hR : rm.frames + 1 ≤ R.frames ∧ 8 + (maxL + 11) + rm.locals ≤ R.locals) :
    vx_CSW R s args own index y bytes maxL ret hh ws rm mc ms n := by
  have ok : ∀ w ∈ va_wsS own index y ws, w.before args s = true := fun w h => ht w (hT w h).1
  have hG : GoodIn Ts ws := fun w h => hT w (by unfold va_wsS; exact List.mem_append_right _ h)
  have hc : Cond.codeWith y bytes maxL ret hh ∈ ws := by rw [hw]; exact List.mem_cons_self
  refine ⟨⟨hrc, hrs, hR.1, hR.2, pay_in ht hG, hc⟩, ht _ (hG _ hc).1, ok _ (by simp [va_wsS]), ⟨hd.1, hd.2.1⟩, fun sig h => ?_, ok _ (by simp [va_wsS]), ok _ (by simp [va_wsS])⟩
  have h2 := hd.2.2
  rw [h] at h2
  exact (Option.some.inj h2).symm
theorem vx_callSW (X : Stand p l e R s m args below meth c T locs cells slots) (hexec : p.tables.exec = Jvm.exec) {own : String} {index : Nat} {y : MethodName} {bytes : ByteArray} {maxL : Nat} {ret : Option FieldType} {hh : List (Nat × Nat × Nat × Nat)}
    (hown : s.vm.findClass own = some m.cls) (hlink : (Cond.methodLink own index y).before args s = true) (hstat : (Cond.static y).before args s = true) (hinit : (Cond.initialized y.cls).before args s = true)
    (hcode : (Cond.codeWith y bytes maxL ret hh).before args s = true) (hy : y.cls ≠ "java/lang/invoke/MethodHandle" ∧ y.cls ≠ "java/lang/invoke/VarHandle")
    {W9 : Nat} {Pre : Pt → Array Value → Prop} {Post : Pt → Array Value → Option Value → Pt → Prop} (hK : Back l R p e below s args y 3 W9 Pre Post)
    {g : JFrame} (hg : g.method = m) (hsize : g.locals.size = c.maxLocals) {argsL rest : List Value} (hlen : ∀ sig, parseMethodDescriptor y.desc = some sig → argsL.length = sig.parameters.length)
    (hstack : g.stack = argsL.reverse ++ rest) (hW : 2 * g.monitorRoom + (rest.map fun v => v.category).sum ≤ W9) (hdg : decode c.code g.pc = .ok (.invokestatic index, 3))
    (hpre : ∀ vm₁, s.WarmedH vm₁ → Pre ⟨T.setVm vm₁, locs, cells, slots⟩ argsL.toArray) :
    ∃ (v : Option Value) (vm₁ : Vm) (B : Pt), s.WarmedH vm₁ ∧ Stand p l e R s m args below meth c B.U B.locs B.cells B.slots ∧ Post ⟨T.setVm vm₁, locs, cells, slots⟩ argsL.toArray v B ∧
      ∀ target, Steps p.tables e below (B.U.setTop { g with pc := g.pc + 3, stack := v.toList ++ rest }) target → Steps p.tables e below (T.setTop g) target := by
  obtain ⟨mk, methM, cM, hnamed, hmethM, -, -, -, -, -, -, hsigM⟩ := Cond.codeWith_spec hcode
  have hstatic : methM.isStatic = true := Cond.static_spec hnamed hmethM hstat
  obtain ⟨kP, hkP, -⟩ := className_of_methodNamed hnamed
  have hinitP : kP.init = .initialized := Cond.initialized_spec (findClass_of_methodNamed hnamed) hkP hinit
  obtain ⟨vm₁, X₁, hstep₁⟩ := X.invokestatic hexec hown hlink hnamed hmethM hstatic hkP hinitP hy (g := g) hg (argsL := argsL) (rest := rest) (hlen _ hsigM) hstack hdg
  obtain ⟨v, B, X', hpost, hsteps⟩ := hK m meth c ⟨T.setVm vm₁, locs, cells, slots⟩ { g with stack := rest } (.invokestatic index) mk argsL.toArray X₁ hg hsize hdg hW (X₁.named hnamed) (hpre vm₁ X₁.warmed)
  exact ⟨v, vm₁, B, X₁.warmed, X', hpost, fun target h => hstep₁ _ fun acts => by rw [doInvoke_state]; exact hsteps.trans h⟩
theorem vx_runSW {y : MethodName} {bytes cc : ByteArray} {maxL nL mc ms n index : Nat} {ret : Option FieldType} {hh : List (Nat × Nat × Nat × Nat)} {ws : List Cond} {rm : Room} {Pc : Array Value → State → Prop} {Qc : Array Value → State → Outcome → State → Prop} {free : Addr → Prop} {Ts : List Cond} {own : String} {As rest : List Value} {g : JFrame}
    (S : CallFix p m c cc nL s args Ts own) (hM : Met l y ws rm Pc Qc mc ms free) (cw : vx_CSW R s args own index y bytes maxL ret hh ws rm mc ms n) (hp : PreS s H Pc As)
    (hg : g.method = m) (hn : As.length = n) (hsize : g.locals.size = nL) (hstack : g.stack = As.reverse ++ rest) (hW : 2 * g.monitorRoom + (rest.map fun v => v.category).sum ≤ 8) (hdg : decode cc g.pc = .ok (.invokestatic index, 3)) (hf : cells + mc ≤ R.cells ∧ slots + ms ≤ R.slots) :
    va_Run p l e R s m args below meth c H locs cells slots mc ms g rest (Qc As.toArray) (free) := by
  obtain ⟨⟨hrc, hrs, hfr, hlo, hws, hcw⟩, hcode, hini, hy, hlen, hl, hstt⟩ := cw
  have hK : Back l R p e below s args y 3 8 (PreOf R mc ms Pc) (PostOf Qc mc ms free) := va_backW (hh := hh) (bytes := bytes) (maxL := maxL) (ret := ret) hM hp.1 hrc hrs hfr hlo hws hcw (fun a' U hW => word_at hW (Or.inl (by first | rfl | simp [Cond.onTables, Cond.keeps, Cond.steady])) hini)
  obtain ⟨hx, hb, hml, ho, -⟩ := S
  intro T hT X
  obtain ⟨v, vm₁, ⟨U', l2, c2, s2⟩, hW₁, X', ⟨g', mk, t, L, e1, e2, hq, h1, hL, h2, h3⟩, st⟩ := vx_callSW X hx (hh := hh) (bytes := bytes) (maxL := maxL) (ret := ret) ho hl hstt hini hcode hy hK hg (hsize.trans hml.symm) (argsL := As) (rest := rest) (fun sig h => hn.trans (hlen sig h)) hstack hW (by rw [hb]; exact hdg)
    (fun vm₁ hW₁ => ⟨hf.1, hf.2, hp.2 (T.setVm vm₁) hT hW₁⟩)
  dsimp only [Pt.U, Pt.locs, Pt.cells, Pt.slots] at X' e1 e2 h1 h2 h3 st
  subst h1; subst h2; subst h3
  exact ⟨v, (T.setVm vm₁).calling g' mk As.toArray, t, U', L, hT, X', hL, e1, e2, hq, st⟩
/-- not caught here, past rows that name other classes: it goes on to the caller -/
theorem vx_outP {p : Program} {l : Launch} {e : Env} {R : Room} {s : State} {m : MethodId} {args : Array Value} {below : List Frame} {meth : Method} {c : Code} {H : Heap} {locs : List Loc} {cells slots : Nat} {free : Addr → Prop} {ls : Array Slot} {rest : List Value} {Qc : Array Value → State → Outcome → State → Prop} {XC : String → State → State → Prop}
    {pc : Nat} {own E : String} {ce : Cell} {q : Addr} {mc ms : Nat} (hown : s.vm.findClass own = some m.cls) (hlocks : meth.locks = false)
    (hpass : ∀ z ∈ c.exceptionTable.toList, covers z pc = false ∨ (z.catchType ≠ 0 ∧ ∃ nm : String, (Cond.classLink own z.catchType nm).before args s = true ∧ va_Nc E nm s)) (hcell : H[q]? = some ce) (hv : ce.vm = .none) (hcl : s.vm.findClass E = some ce.cls)
    (hx : ∀ t : State, t.heap = H → s.vm.Alike t.vm → XC E s t) (hf : ∀ z ∈ locs, free z.base) (hc : cells ≤ mc) (hs : slots ≤ ms) :
    vx_W p l e R s m args below meth c H locs cells slots (vx_MQ below Qc XC args s mc ms free) (F0 m pc ls rest) q := by
  intro T hT X
  have hpl : e.platform.magicAccessors = ({} : Platform).magicAccessors := by rw [X.admits.platform]
  obtain ⟨vm', hW', X', st⟩ := X.outThrough hlocks q (g := F0 m pc ls rest) rfl rfl rfl (cell := ce) (by rw [hT]; exact hcell) (by rw [hv]; rfl)
    (by obtain ⟨k9, h9, -⟩ := Vm.findClass_spec hcl; exact ⟨k9, h9⟩) (fun z hz => by
      rcases hpass z hz with h | ⟨hz0, nm, hl1, hn1⟩
      · exact Or.inl h
      · obtain ⟨c6, hc6, hcl6⟩ := Cond.classLink_spec hown hl1 e.platform hpl
        obtain ⟨a8, b8, h1, h2, h3⟩ := hn1
        cases Option.some.inj (h1.symm.trans hcl)
        cases Option.some.inj (h2.symm.trans hc6)
        exact Or.inr ⟨hz0, _, hcl6, h3⟩)
  obtain ⟨g₀, hfr⟩ := X'.frames_eq
  have hcell9 : ((T.setVm vm').setFrames (.throwing q :: below)).heap[q]? = some ce := by
    show T.heap[q]? = some ce
    rw [hT]; exact hcell
  have hend : Ended ((T.setVm vm').setFrames (.throwing q :: below)) below (.threw q) := State.frames_setFrames _ (State.cur_lt_of_frames hfr)
  refine ⟨(T.setVm vm').setFrames (.throwing q :: below), ?_, .threw q, X'.here.running, hend, Or.inr ⟨q, rfl, E, ce, locs, hx _ hT (X'.ends _).1.alike, hcell9, hv, hcl, (X'.ends _).1, (X'.ends _).2.mono hc hs, hf⟩⟩
  rw [X.pushThrowing_eq]
  exact st
/-- a thing of a world lies in the heap -/
theorem vx_lt {D : va_G} {cl : List vw_C} {ws : va_W} {H1 : Heap} (h : va_P D cl ws H1) {k : Nat} {q : Nat × va_E} (hk : ws[k]? = some q) : q.1 < H1.size := (h k q hk).lt
end VXS
/-! ===== END ===== -/
/-! ===== BEGIN methods with a table of their own: called by a name, returning or throwing ===== -/
section VXH
/-! vx_backW, vx_callVX, vx_callSX, vx_callVW, vx_runVW, vx_runVX, vx_runSX, vx_ofWH follow the same proofs as their sisters above (Free/Laws.lean, Shelf42/LK1.lean); vx_outP calls Shelf42/NT130.lean (outThrough). -/
section
variable {l : Launch} {R : Room} {p : Program} {e : Env} {below : List Frame} {s : State} {sargs : Array Value} {y : MethodName} {len W9 : Nat}
theorem vx_backW {ws : List Cond} {rm : Room} {Pc : Array Value → State → Prop} {Qc : Array Value → State → Outcome → State → Prop} {XC : String → State → State → Prop} {mc ms : Nat} {free : Addr → Prop} {bytes : ByteArray} {maxL : Nat} {ret : Option FieldType} {hh : List (Nat × Nat × Nat × Nat)}
    (hM : vx_Met l y ws rm Pc Qc XC mc ms free) (hblind : FrameBlind Pc) (hrc : rm.cells = mc) (hrs : rm.slots = ms)
    (hframes : rm.frames + 1 ≤ R.frames) (hlocals : W9 + (maxL + 11) + rm.locals ≤ R.locals)
    (hws : ∀ w ∈ ws, ∀ a' U, s.WarmedH U.vm → w.before a' U = true) (hcode : Cond.codeWith y bytes maxL ret hh ∈ ws) (hinit : ∀ a' U, s.WarmedH U.vm → (Cond.initialized y.cls).before a' U = true) :
    vx_Back l R p e below s sargs y len W9 (PreOf R mc ms Pc) (PostOf Qc mc ms free) (vx_Post XC mc ms free) := by
  intro m meth c A g ig mk a X hg hsize hdg hW hn hp
  have h1 : (headSpec ws rm).pre.before a A.U = true := atoms_intro fun w hw => hws w hw _ _ X.warmed
  have h2 : (Cond.codeWith y bytes maxL ret hh).before a A.U = true := hws _ hcode _ _ X.warmed
  have h3 : (Cond.initialized y.cls).before a A.U = true := hinit _ _ X.warmed
  have h4 : A.cells + (headSpec ws rm).room.cells ≤ R.cells := by rw [show (headSpec ws rm).room.cells = mc from hrc]; exact hp.1
  have h5 : A.slots + (headSpec ws rm).room.slots ≤ R.slots := by rw [show (headSpec ws rm).room.slots = ms from hrs]; exact hp.2.1
  have hPc : Pc a (A.U.calling g mk a) := hblind _ _ _ _ hp.2.2
  obtain ⟨U, Ls, c0, s0⟩ := A
  dsimp only [Pt.U, Pt.locs, Pt.cells, Pt.slots] at h1 h2 h3 h4 h5 X hn hPc ⊢
  obtain ⟨m9, methY, cY, hn9, hmY, hcY, -, hlY, -⟩ := Cond.codeWith_spec h2
  cases Option.some.inj (hn9.symm.trans hn)
  obtain ⟨kY, hkY, -⟩ := className_of_methodNamed hn
  have hinitY : kY.init = .initialized := Cond.initialized_spec (findClass_of_methodNamed hn) hkY h3
  have h : At U g.method c below := by rw [hg]; exact X.here
  have hlocals9 : W9 + (maxL + 11) + (headSpec ws rm).room.locals ≤ R.locals := hlocals
  have happ : (headSpec ws rm).appliesLoose y e.platform (U.calling g mk a) = true :=
    Spec.appliesLoose_calling (g := g) h hdg hn hkY hinitY
      (X.room_calling (g := g) (R' := (headSpec ws rm).room) hsize hmY hcY hframes (by rw [hlY]; omega) h4 h5) h1
  obtain ⟨mid, hmid⟩ := h.above
  have hfr : (U.setTop g).frames = (.java g :: mid) ++ below := by rw [State.frames_setTop' g h.top, hmid]; rfl
  obtain ⟨o, s₂, hsteps, -, hend, hq⟩ := Steps.callFree hM p X.admits X.cas X.clock (acts := []) hfr happ hPc trivial
  have hq' : vx_Q Qc XC mc ms free a (U.calling g mk a) o s₂ := hq
  rw [State.frames_setTop' g h.top] at hend
  obtain ⟨g₀, hg0⟩ := Option.isSome_iff_exists.mp h.top
  obtain ⟨r, hr⟩ := State.topJava?_eq_some.mp hg0
  have hr' : (({ U with heap := s₂.heap, slotsUsed := s₂.slotsUsed } : State).setVm s₂.vm).frames = .java g₀ :: r := hr
  rcases hq' with ⟨hqc, L, hfe, hL⟩ | ⟨q, rfl, E, ce, L, hx, hce, hcv, hcl, hW₂, hsm, hL⟩
  · obtain ⟨⟨v, rfl⟩, hW₂, e2, q2, q3, q4, q5, q6⟩ := id hfe
    have e3 : s₂ = ({ (U.calling g mk a).setFrames s₂.frames with heap := s₂.heap, slotsUsed := s₂.slotsUsed } : State).setVm s₂.vm := by
      have : s₂ = ({ s₂ with vm := (U.calling g mk a).vm } : State).setVm s₂.vm := rfl
      rw [e2] at this
      exact this
    obtain ⟨c₂, i₂, len₂, hc₂, hd₂, hf₂⟩ := hend
    have hW' : U.WarmedH s₂.vm := hW₂
    have hcc : c₂ = c := by
      have h1 : s₂.code? g.method = U.code? g.method := by
        rw [State.code?_eq, State.code?_eq, hW'.alike.method?]
      exact Option.some.inj (hc₂.symm.trans (h1.trans h.code))
    subst hcc
    have hlen : len₂ = len := by rw [hdg] at hd₂; cases hd₂; rfl
    subst hlen
    have hs₂ : s₂ = (({ U with heap := s₂.heap, slotsUsed := s₂.slotsUsed } : State).setVm s₂.vm).setTop { g with pc := g.pc + len₂, stack := v.toList ++ g.stack } := by
      refine e3.trans ?_
      rw [hf₂, State.calling_eq h.top, State.setFrames_setFrames, State.setTop_of_frames _ hr', hr]
      rfl
    have hsame : U.sameButNew ({ U with heap := s₂.heap, slotsUsed := s₂.slotsUsed } : State) L mc ms := by
      refine ⟨?_, q2, q3, q4, q5, q6⟩
      obtain ⟨t, ht, -⟩ := State.frames_cons hr
      show ({ U with heap := s₂.heap, slotsUsed := s₂.slotsUsed } : State) = { U.setFrames U.frames with heap := s₂.heap, slotsUsed := s₂.slotsUsed }
      rw [State.setFrames_self ht]
    subst hg
    refine Or.inl ⟨v, ⟨(({ U with heap := s₂.heap, slotsUsed := s₂.slotsUsed } : State).setVm s₂.vm), Ls ++ L, c0 + mc, s0 + ms⟩,
      ⟨X.admits, X.cas, X.clock, X.frames, X.room, X.hears, X.method, X.code, (X.here.setHeapUsed s₂.heap s₂.slotsUsed).setVm hW'.alike, X.tail, State.WarmedH.trans X.warmed hW', X.limits, X.bytes, X.same.trans (hsame.setVm s.vm)⟩,
      ⟨g, mk, s₂, L, rfl, rfl, hqc, rfl, hL, rfl, rfl⟩, ?_⟩
    show Steps p.tables e below _ ((({ U with heap := s₂.heap, slotsUsed := s₂.slotsUsed } : State).setVm s₂.vm).setTop { g with pc := g.pc + len₂, stack := v.toList ++ g.stack })
    rw [← hs₂]
    exact hsteps
  · obtain ⟨e2, q2, q3, q4, q5, q6⟩ := id hsm
    have e3 : s₂ = ({ (U.calling g mk a).setFrames s₂.frames with heap := s₂.heap, slotsUsed := s₂.slotsUsed } : State).setVm s₂.vm := by
      have : s₂ = ({ s₂ with vm := (U.calling g mk a).vm } : State).setVm s₂.vm := rfl
      rw [e2] at this
      exact this
    have hf₂ : s₂.frames = .throwing q :: .java g :: U.frames.tail := hend
    have hW' : U.WarmedH s₂.vm := hW₂
    have hs₂ : s₂ = ((({ U with heap := s₂.heap, slotsUsed := s₂.slotsUsed } : State).setVm s₂.vm).setTop g).pushFrame (.throwing q) := by
      refine e3.trans ?_
      rw [hf₂, State.calling_eq h.top, State.setFrames_setFrames, State.pushFrame, State.frames_setTop _ hr', State.setTop_of_frames _ hr', State.setFrames_setFrames, hr]
      rfl
    have hsame : U.sameButNew ({ U with heap := s₂.heap, slotsUsed := s₂.slotsUsed } : State) L mc ms := by
      refine ⟨?_, q2, q3, q4, q5, q6⟩
      obtain ⟨t, ht, -⟩ := State.frames_cons hr
      show ({ U with heap := s₂.heap, slotsUsed := s₂.slotsUsed } : State) = { U.setFrames U.frames with heap := s₂.heap, slotsUsed := s₂.slotsUsed }
      rw [State.setFrames_self ht]
    subst hg
    refine Or.inr ⟨q, ⟨(({ U with heap := s₂.heap, slotsUsed := s₂.slotsUsed } : State).setVm s₂.vm), Ls ++ L, c0 + mc, s0 + ms⟩,
      ⟨X.admits, X.cas, X.clock, X.frames, X.room, X.hears, X.method, X.code, (X.here.setHeapUsed s₂.heap s₂.slotsUsed).setVm hW'.alike, X.tail, State.WarmedH.trans X.warmed hW', X.limits, X.bytes, X.same.trans (hsame.setVm s.vm)⟩,
      ⟨g, mk, s₂, L, E, ce, rfl, rfl, hx, hce, hcv, hcl, rfl, hL, rfl, rfl⟩, ?_⟩
    show Steps p.tables e below _ (((({ U with heap := s₂.heap, slotsUsed := s₂.slotsUsed } : State).setVm s₂.vm).setTop g).pushFrame (.throwing q))
    rw [← hs₂]
    exact hsteps
end
variable {p : Program} {l : Launch} {e : Env} {R : Room} {s : State} {m : MethodId} {args : Array Value} {below : List Frame} {meth : Method} {c : Code} {T : State} {H : Heap} {locs : List Loc} {cells slots : Nat}
theorem vx_callVX (X : Stand p l e R s m args below meth c T locs cells slots) (hexec : p.tables.exec = Jvm.exec) {own C : String} {index : Nat} {y : MethodName} {bytes : ByteArray} {maxL : Nat} {ret : Option FieldType} {hh : List (Nat × Nat × Nat × Nat)}
    (hown : s.vm.findClass own = some m.cls) (hlink : (Cond.methodLink own index y).before args s = true) (hinst : (Cond.instanceMethod y).before args s = true) (hsel : (Cond.selects C y y).before args s = true)
    (hcode : (Cond.codeWith y bytes maxL ret hh).before args s = true) (hy : y.cls ≠ "java/lang/invoke/MethodHandle" ∧ y.cls ≠ "java/lang/invoke/VarHandle")
    {W9 : Nat} {Pre : Pt → Array Value → Prop} {Post : Pt → Array Value → Option Value → Pt → Prop} {PostX : Pt → Array Value → Addr → Pt → Prop} (hK : vx_Back l R p e below s args y 3 W9 Pre Post PostX)
    {b : Addr} {cellB : Cell} (hcell : T.heap[b]? = some cellB) (hobj : cellB.vm.isStatics = false) (hcls : s.vm.findClass C = some cellB.cls)
    {g : JFrame} (hg : g.method = m) (hsize : g.locals.size = c.maxLocals) {argsL rest : List Value} (hlen : ∀ sig, parseMethodDescriptor y.desc = some sig → argsL.length = sig.parameters.length)
    (hstack : g.stack = argsL.reverse ++ .ref b :: rest) (hW : 2 * g.monitorRoom + (rest.map fun v => v.category).sum ≤ W9) (hdg : decode c.code g.pc = .ok (.invokevirtual index, 3))
    (hpre : ∀ vm₁, s.WarmedH vm₁ → Pre ⟨T.setVm vm₁, locs, cells, slots⟩ (Value.ref b :: argsL).toArray) :
    (∃ (v : Option Value) (vm₁ : Vm) (B : Pt), s.WarmedH vm₁ ∧ Stand p l e R s m args below meth c B.U B.locs B.cells B.slots ∧ Post ⟨T.setVm vm₁, locs, cells, slots⟩ (Value.ref b :: argsL).toArray v B ∧
      ∀ target, Steps p.tables e below (B.U.setTop { g with pc := g.pc + 3, stack := v.toList ++ rest }) target → Steps p.tables e below (T.setTop g) target) ∨
    (∃ (q : Addr) (vm₁ : Vm) (B : Pt), s.WarmedH vm₁ ∧ Stand p l e R s m args below meth c B.U B.locs B.cells B.slots ∧ PostX ⟨T.setVm vm₁, locs, cells, slots⟩ (Value.ref b :: argsL).toArray q B ∧
      Steps p.tables e below (T.setTop g) ((B.U.setTop { g with stack := rest }).pushFrame (.throwing q))) := by
  obtain ⟨mk, methM, hnamed, hmethM, hstM, habM⟩ := Cond.instanceMethod_spec hinst
  obtain ⟨m8, methM', cM, hn8, hmethM', -, -, -, -, -, -, hsigM⟩ := Cond.codeWith_spec hcode
  cases Option.some.inj (hn8.symm.trans hnamed)
  cases hmethM.symm.trans hmethM'
  obtain ⟨c2, r2, m2, q1, q2, q3, q4, kP, hkP, hkPi⟩ := Cond.selects_spec hsel
  cases hcls.symm.trans q1
  cases (State.methodFound?_of_named hnamed hy).symm.trans q2
  cases hnamed.symm.trans q3
  have hselP : selectMethod e.platform s.vm cellB.cls mk = .method mk := by rw [Launch.admits_selectMethod X.admits]; exact q4
  obtain ⟨vm₁, X₁, hstep₁⟩ := X.invokevirtual hexec hown hlink hnamed hmethM hstM hkP hkPi hy (a := b) (cell := cellB) hcell
    (fun z h => by rw [h] at hobj; cases hobj) hselP hmethM habM hkP hkPi (g := g) hg (argsL := argsL) (rest := rest) (hlen _ hsigM) hstack hdg
  rcases hK m meth c ⟨T.setVm vm₁, locs, cells, slots⟩ { g with stack := rest } (.invokevirtual index) mk (Value.ref b :: argsL).toArray X₁ hg hsize hdg hW (X₁.named hnamed) (hpre vm₁ X₁.warmed) with ⟨v, B, X', hpost, hsteps⟩ | ⟨q, B, X', hpost, hsteps⟩
  · exact Or.inl ⟨v, vm₁, B, X₁.warmed, X', hpost, fun target h => hstep₁ _ fun acts => by rw [doInvoke_state]; exact hsteps.trans h⟩
  · exact Or.inr ⟨q, vm₁, B, X₁.warmed, X', hpost, hstep₁ _ fun acts => by rw [doInvoke_state]; exact hsteps⟩
theorem vx_callSX (X : Stand p l e R s m args below meth c T locs cells slots) (hexec : p.tables.exec = Jvm.exec) {own : String} {index : Nat} {y : MethodName} {bytes : ByteArray} {maxL : Nat} {ret : Option FieldType} {hh : List (Nat × Nat × Nat × Nat)}
    (hown : s.vm.findClass own = some m.cls) (hlink : (Cond.methodLink own index y).before args s = true) (hstat : (Cond.static y).before args s = true) (hinit : (Cond.initialized y.cls).before args s = true)
    (hcode : (Cond.codeWith y bytes maxL ret hh).before args s = true) (hy : y.cls ≠ "java/lang/invoke/MethodHandle" ∧ y.cls ≠ "java/lang/invoke/VarHandle")
    {W9 : Nat} {Pre : Pt → Array Value → Prop} {Post : Pt → Array Value → Option Value → Pt → Prop} {PostX : Pt → Array Value → Addr → Pt → Prop} (hK : vx_Back l R p e below s args y 3 W9 Pre Post PostX)
    {g : JFrame} (hg : g.method = m) (hsize : g.locals.size = c.maxLocals) {argsL rest : List Value} (hlen : ∀ sig, parseMethodDescriptor y.desc = some sig → argsL.length = sig.parameters.length)
    (hstack : g.stack = argsL.reverse ++ rest) (hW : 2 * g.monitorRoom + (rest.map fun v => v.category).sum ≤ W9) (hdg : decode c.code g.pc = .ok (.invokestatic index, 3))
    (hpre : ∀ vm₁, s.WarmedH vm₁ → Pre ⟨T.setVm vm₁, locs, cells, slots⟩ argsL.toArray) :
    (∃ (v : Option Value) (vm₁ : Vm) (B : Pt), s.WarmedH vm₁ ∧ Stand p l e R s m args below meth c B.U B.locs B.cells B.slots ∧ Post ⟨T.setVm vm₁, locs, cells, slots⟩ argsL.toArray v B ∧
      ∀ target, Steps p.tables e below (B.U.setTop { g with pc := g.pc + 3, stack := v.toList ++ rest }) target → Steps p.tables e below (T.setTop g) target) ∨
    (∃ (q : Addr) (vm₁ : Vm) (B : Pt), s.WarmedH vm₁ ∧ Stand p l e R s m args below meth c B.U B.locs B.cells B.slots ∧ PostX ⟨T.setVm vm₁, locs, cells, slots⟩ argsL.toArray q B ∧
      Steps p.tables e below (T.setTop g) ((B.U.setTop { g with stack := rest }).pushFrame (.throwing q))) := by
  obtain ⟨mk, methM, cM, hnamed, hmethM, -, -, -, -, -, -, hsigM⟩ := Cond.codeWith_spec hcode
  have hstatic : methM.isStatic = true := Cond.static_spec hnamed hmethM hstat
  obtain ⟨kP, hkP, -⟩ := className_of_methodNamed hnamed
  have hinitP : kP.init = .initialized := Cond.initialized_spec (findClass_of_methodNamed hnamed) hkP hinit
  obtain ⟨vm₁, X₁, hstep₁⟩ := X.invokestatic hexec hown hlink hnamed hmethM hstatic hkP hinitP hy (g := g) hg (argsL := argsL) (rest := rest) (hlen _ hsigM) hstack hdg
  rcases hK m meth c ⟨T.setVm vm₁, locs, cells, slots⟩ { g with stack := rest } (.invokestatic index) mk argsL.toArray X₁ hg hsize hdg hW (X₁.named hnamed) (hpre vm₁ X₁.warmed) with ⟨v, B, X', hpost, hsteps⟩ | ⟨q, B, X', hpost, hsteps⟩
  · exact Or.inl ⟨v, vm₁, B, X₁.warmed, X', hpost, fun target h => hstep₁ _ fun acts => by rw [doInvoke_state]; exact hsteps.trans h⟩
  · exact Or.inr ⟨q, vm₁, B, X₁.warmed, X', hpost, hstep₁ _ fun acts => by rw [doInvoke_state]; exact hsteps⟩
theorem vx_callVW (X : Stand p l e R s m args below meth c T locs cells slots) (hexec : p.tables.exec = Jvm.exec) {own C : String} {index : Nat} {y : MethodName} {bytes : ByteArray} {maxL : Nat} {ret : Option FieldType} {hh : List (Nat × Nat × Nat × Nat)}
    (hown : s.vm.findClass own = some m.cls) (hlink : (Cond.methodLink own index y).before args s = true) (hinst : (Cond.instanceMethod y).before args s = true) (hsel : (Cond.selects C y y).before args s = true)
    (hcode : (Cond.codeWith y bytes maxL ret hh).before args s = true) (hy : y.cls ≠ "java/lang/invoke/MethodHandle" ∧ y.cls ≠ "java/lang/invoke/VarHandle")
    {W9 : Nat} {Pre : Pt → Array Value → Prop} {Post : Pt → Array Value → Option Value → Pt → Prop} (hK : Back l R p e below s args y 3 W9 Pre Post)
    {b : Addr} {cellB : Cell} (hcell : T.heap[b]? = some cellB) (hobj : cellB.vm.isStatics = false) (hcls : s.vm.findClass C = some cellB.cls)
    {g : JFrame} (hg : g.method = m) (hsize : g.locals.size = c.maxLocals) {argsL rest : List Value} (hlen : ∀ sig, parseMethodDescriptor y.desc = some sig → argsL.length = sig.parameters.length)
    (hstack : g.stack = argsL.reverse ++ .ref b :: rest) (hW : 2 * g.monitorRoom + (rest.map fun v => v.category).sum ≤ W9) (hdg : decode c.code g.pc = .ok (.invokevirtual index, 3))
    (hpre : ∀ vm₁, s.WarmedH vm₁ → Pre ⟨T.setVm vm₁, locs, cells, slots⟩ (Value.ref b :: argsL).toArray) :
    ∃ (v : Option Value) (vm₁ : Vm) (B : Pt), s.WarmedH vm₁ ∧ Stand p l e R s m args below meth c B.U B.locs B.cells B.slots ∧ Post ⟨T.setVm vm₁, locs, cells, slots⟩ (Value.ref b :: argsL).toArray v B ∧
      ∀ target, Steps p.tables e below (B.U.setTop { g with pc := g.pc + 3, stack := v.toList ++ rest }) target → Steps p.tables e below (T.setTop g) target := by
  obtain ⟨mk, methM, hnamed, hmethM, hstM, habM⟩ := Cond.instanceMethod_spec hinst
  obtain ⟨m8, methM', cM, hn8, hmethM', -, -, -, -, -, -, hsigM⟩ := Cond.codeWith_spec hcode
  cases Option.some.inj (hn8.symm.trans hnamed)
  cases hmethM.symm.trans hmethM'
  obtain ⟨c2, r2, m2, q1, q2, q3, q4, kP, hkP, hkPi⟩ := Cond.selects_spec hsel
  cases hcls.symm.trans q1
  cases (State.methodFound?_of_named hnamed hy).symm.trans q2
  cases hnamed.symm.trans q3
  have hselP : selectMethod e.platform s.vm cellB.cls mk = .method mk := by rw [Launch.admits_selectMethod X.admits]; exact q4
  obtain ⟨vm₁, X₁, hstep₁⟩ := X.invokevirtual hexec hown hlink hnamed hmethM hstM hkP hkPi hy (a := b) (cell := cellB) hcell
    (fun z h => by rw [h] at hobj; cases hobj) hselP hmethM habM hkP hkPi (g := g) hg (argsL := argsL) (rest := rest) (hlen _ hsigM) hstack hdg
  obtain ⟨v, B, X', hpost, hsteps⟩ := hK m meth c ⟨T.setVm vm₁, locs, cells, slots⟩ { g with stack := rest } (.invokevirtual index) mk (Value.ref b :: argsL).toArray X₁ hg hsize hdg hW (X₁.named hnamed) (hpre vm₁ X₁.warmed)
  exact ⟨v, vm₁, B, X₁.warmed, X', hpost, fun target h => hstep₁ _ fun acts => by rw [doInvoke_state]; exact hsteps.trans h⟩
abbrev vx_CVW (R : Room) (s : State) (args : Array Value) (own C : String) (index : Nat) (y : MethodName) (bytes : ByteArray) (maxL : Nat) (ret : Option FieldType) (hh : List (Nat × Nat × Nat × Nat)) (ws : List Cond) (rm : Room) (mc ms n : Nat) : Prop :=
  (rm.cells = mc ∧ rm.slots = ms ∧ rm.frames + 1 ≤ R.frames ∧ 8 + (maxL + 11) + rm.locals ≤ R.locals ∧ (∀ w ∈ ws, ∀ (a' : Array Value) (U : State), s.WarmedH U.vm → w.before a' U = true) ∧ Cond.codeWith y bytes maxL ret hh ∈ ws) ∧
  (Cond.codeWith y bytes maxL ret hh).before args s = true ∧ (Cond.initialized y.cls).before args s = true ∧ (y.cls ≠ "java/lang/invoke/MethodHandle" ∧ y.cls ≠ "java/lang/invoke/VarHandle") ∧
  (∀ sig, parseMethodDescriptor y.desc = some sig → n = sig.parameters.length) ∧ (Cond.methodLink own index y).before args s = true ∧ (Cond.instanceMethod y).before args s = true ∧ (Cond.selects C y y).before args s = true
theorem vx_cwVW {own C : String} {index maxL mc ms : Nat} {y : MethodName} {bytes : ByteArray} {ret : Option FieldType} {hh : List (Nat × Nat × Nat × Nat)} {Ts ws ws' : List Cond} {rm : Room} (n : Nat) (ht : ∀ w ∈ Ts, w.before args s = true) (hT : GoodIn Ts (wsV own index C y ws)) (hw : ws = Cond.codeWith y bytes maxL ret hh :: ws') (hrc : rm.cells = mc) (hrs : rm.slots = ms)
    (hd : y.cls = C ∧ y.cls ≠ "java/lang/invoke/MethodHandle" ∧ y.cls ≠ "java/lang/invoke/VarHandle" ∧ (parseMethodDescriptor y.desc).map (fun d => d.parameters.length) = some n) (hR : rm.frames + 1 ≤ R.frames ∧ 8 + (maxL + 11) + rm.locals ≤ R.locals) :
    vx_CVW R s args own C index y bytes maxL ret hh ws rm mc ms n := by
  obtain ⟨hC, hd⟩ := hd
  subst hC
  have ok : ∀ w ∈ wsV own index y.cls y ws, w.before args s = true := fun w h => ht w (hT w h).1
  have hG : GoodIn Ts ws := fun w h => hT w (by unfold wsV; exact List.mem_append_right _ h)
  have hc : Cond.codeWith y bytes maxL ret hh ∈ ws := by rw [hw]; exact List.mem_cons_self
  refine ⟨⟨hrc, hrs, hR.1, hR.2, pay_in ht hG, hc⟩, ht _ (hG _ hc).1, ok _ (by simp [wsV]), ⟨hd.1, hd.2.1⟩, fun sig h => ?_, ok _ (by simp [wsV]), ok _ (by simp [wsV]), ok _ (by simp [wsV])⟩
  have h2 := hd.2.2
  rw [h] at h2
  exact (Option.some.inj h2).symm
theorem vx_runVW {y : MethodName} {bytes cc : ByteArray} {maxL nL mc ms n index : Nat} {ret : Option FieldType} {hh : List (Nat × Nat × Nat × Nat)} {ws : List Cond} {rm : Room} {Pc : Array Value → State → Prop} {Qc : Array Value → State → Outcome → State → Prop} {free : Addr → Prop} {Ts : List Cond} {own C : String} {b : Addr} {As rest : List Value} {g : JFrame}
    (S : CallFix p m c cc nL s args Ts own) (hM : Met l y ws rm Pc Qc mc ms free) (cw : vx_CVW R s args own C index y bytes maxL ret hh ws rm mc ms n) (hp : PreV s H C b Pc As)
    (hg : g.method = m) (hn : As.length = n) (hsize : g.locals.size = nL) (hstack : g.stack = As.reverse ++ .ref b :: rest) (hW : 2 * g.monitorRoom + (rest.map fun v => v.category).sum ≤ 8) (hdg : decode cc g.pc = .ok (.invokevirtual index, 3)) (hf : cells + mc ≤ R.cells ∧ slots + ms ≤ R.slots) :
    va_Run p l e R s m args below meth c H locs cells slots mc ms g rest (Qc (Value.ref b :: As).toArray) free := by
  obtain ⟨⟨hrc, hrs, hfr, hlo, hws, hcw⟩, hcode, hini, hy, hlen, hl, hin, hse⟩ := cw
  have hK : Back l R p e below s args y 3 8 (PreOf R mc ms Pc) (PostOf Qc mc ms free) := va_backW (hh := hh) (bytes := bytes) (maxL := maxL) (ret := ret) hM hp.1 hrc hrs hfr hlo hws hcw (fun a' U hW => word_at hW (Or.inl (by first | rfl | simp [Cond.onTables, Cond.keeps, Cond.steady])) hini)
  obtain ⟨hx, hb, hml, ho, -⟩ := S
  obtain ⟨-, ⟨cellB, hcB, hoB, hclB⟩, hPc⟩ := hp
  intro T hT X
  obtain ⟨v, vm₁, ⟨U', l2, c2, s2⟩, hW₁, X', ⟨g', mk, t, L, e1, e2, hq, h1, hL, h2, h3⟩, st⟩ := vx_callVW X hx (C := C) (hh := hh) (bytes := bytes) (maxL := maxL) (ret := ret) ho hl hin hse hcode hy hK (by rw [hT]; exact hcB) hoB hclB hg (hsize.trans hml.symm) (argsL := As) (rest := rest) (fun sig h => hn.trans (hlen sig h)) hstack hW (by rw [hb]; exact hdg)
    (fun vm₁ hW₁ => ⟨hf.1, hf.2, hPc (T.setVm vm₁) hT hW₁⟩)
  dsimp only [Pt.U, Pt.locs, Pt.cells, Pt.slots] at X' e1 e2 h1 h2 h3 st
  subst h1; subst h2; subst h3
  exact ⟨v, (T.setVm vm₁).calling g' mk (Value.ref b :: As).toArray, t, U', L, hT, X', hL, e1, e2, hq, st⟩
section
variable {y : MethodName} {bytes cc : ByteArray} {maxL nL mc ms n index : Nat} {ret : Option FieldType} {ws : List Cond} {rm : Room} {Pc : Array Value → State → Prop} {Qc : Array Value → State → Outcome → State → Prop} {XC : String → State → State → Prop} {free : Addr → Prop} {Ts : List Cond} {own C : String} {b : Addr} {As rest : List Value} {g : JFrame}
theorem vx_runVX {hh : List (Nat × Nat × Nat × Nat)} (S : CallFix p m c cc nL s args Ts own) (hM : vx_Met l y ws rm Pc Qc XC mc ms free) (cw : vx_CVW R s args own C index y bytes maxL ret hh ws rm mc ms n) (hp : PreV s H C b Pc As)
    (hg : g.method = m) (hn : As.length = n) (hsize : g.locals.size = nL) (hstack : g.stack = As.reverse ++ .ref b :: rest) (hW : 2 * g.monitorRoom + (rest.map fun v => v.category).sum ≤ 8) (hdg : decode cc g.pc = .ok (.invokevirtual index, 3)) (hf : cells + mc ≤ R.cells ∧ slots + ms ≤ R.slots) :
    vx_Run p l e R s m args below meth c H locs cells slots mc ms g rest (Qc (Value.ref b :: As).toArray) XC free := by
  obtain ⟨⟨hrc, hrs, hfr, hlo, hws, hcw⟩, hcode, hini, hy, hlen, hl, hin, hse⟩ := cw
  have hK : vx_Back l R p e below s args y 3 8 (PreOf R mc ms Pc) (PostOf Qc mc ms free) (vx_Post XC mc ms free) := vx_backW (hh := hh) (bytes := bytes) (maxL := maxL) (ret := ret) hM hp.1 hrc hrs hfr hlo hws hcw (fun a' U hW => word_at hW (Or.inl (by first | rfl | simp [Cond.onTables, Cond.keeps, Cond.steady])) hini)
  obtain ⟨hx, hb, hml, ho, -⟩ := S
  obtain ⟨-, ⟨cellB, hcB, hoB, hclB⟩, hPc⟩ := hp
  intro T hT X
  rcases vx_callVX X hx (C := C) (hh := hh) (bytes := bytes) (maxL := maxL) (ret := ret) ho hl hin hse hcode hy hK (by rw [hT]; exact hcB) hoB hclB hg (hsize.trans hml.symm) (argsL := As) (rest := rest) (fun sig h => hn.trans (hlen sig h)) hstack hW (by rw [hb]; exact hdg)
    (fun vm₁ hW₁ => ⟨hf.1, hf.2, hPc (T.setVm vm₁) hT hW₁⟩) with ⟨v, vm₁, ⟨U', l2, c2, s2⟩, hW₁, X', ⟨g', mk, t, L, e1, e2, hq, h1, hL, h2, h3⟩, st⟩ | ⟨q, vm₁, ⟨U', l2, c2, s2⟩, hW₁, X', ⟨g', mk, t, L, E, ce, e1, e2, hq, hce, hcv, hcl, h1, hL, h2, h3⟩, st⟩
  · dsimp only [Pt.U, Pt.locs, Pt.cells, Pt.slots] at X' e1 e2 h1 h2 h3 st
    subst h1; subst h2; subst h3
    exact Or.inl ⟨v, (T.setVm vm₁).calling g' mk (Value.ref b :: As).toArray, t, U', L, hT, X', hL, e1, e2, hq, st⟩
  · dsimp only [Pt.U, Pt.locs, Pt.cells, Pt.slots] at X' e1 e2 h1 h2 h3 st hcl
    subst h1; subst h2; subst h3
    exact Or.inr ⟨q, (T.setVm vm₁).calling g' mk (Value.ref b :: As).toArray, t, U', L, E, ce, hT, X', hL, e1, e2, hq, hce, hcv, vx_cls hW₁ hcl, st⟩
theorem vx_runSX {hh : List (Nat × Nat × Nat × Nat)} (S : CallFix p m c cc nL s args Ts own) (hM : vx_Met l y ws rm Pc Qc XC mc ms free) (cw : vx_CSW R s args own index y bytes maxL ret hh ws rm mc ms n) (hp : PreS s H Pc As)
    (hg : g.method = m) (hn : As.length = n) (hsize : g.locals.size = nL) (hstack : g.stack = As.reverse ++ rest) (hW : 2 * g.monitorRoom + (rest.map fun v => v.category).sum ≤ 8) (hdg : decode cc g.pc = .ok (.invokestatic index, 3)) (hf : cells + mc ≤ R.cells ∧ slots + ms ≤ R.slots) :
    vx_Run p l e R s m args below meth c H locs cells slots mc ms g rest (Qc As.toArray) XC free := by
  obtain ⟨⟨hrc, hrs, hfr, hlo, hws, hcw⟩, hcode, hini, hy, hlen, hl, hstt⟩ := cw
  have hK : vx_Back l R p e below s args y 3 8 (PreOf R mc ms Pc) (PostOf Qc mc ms free) (vx_Post XC mc ms free) := vx_backW (hh := hh) (bytes := bytes) (maxL := maxL) (ret := ret) hM hp.1 hrc hrs hfr hlo hws hcw (fun a' U hW => word_at hW (Or.inl (by first | rfl | simp [Cond.onTables, Cond.keeps, Cond.steady])) hini)
  obtain ⟨hx, hb, hml, ho, -⟩ := S
  intro T hT X
  rcases vx_callSX X hx (hh := hh) (bytes := bytes) (maxL := maxL) (ret := ret) ho hl hstt hini hcode hy hK hg (hsize.trans hml.symm) (argsL := As) (rest := rest) (fun sig h => hn.trans (hlen sig h)) hstack hW (by rw [hb]; exact hdg)
    (fun vm₁ hW₁ => ⟨hf.1, hf.2, hp.2 (T.setVm vm₁) hT hW₁⟩) with ⟨v, vm₁, ⟨U', l2, c2, s2⟩, hW₁, X', ⟨g', mk, t, L, e1, e2, hq, h1, hL, h2, h3⟩, st⟩ | ⟨q, vm₁, ⟨U', l2, c2, s2⟩, hW₁, X', ⟨g', mk, t, L, E, ce, e1, e2, hq, hce, hcv, hcl, h1, hL, h2, h3⟩, st⟩
  · dsimp only [Pt.U, Pt.locs, Pt.cells, Pt.slots] at X' e1 e2 h1 h2 h3 st
    subst h1; subst h2; subst h3
    exact Or.inl ⟨v, (T.setVm vm₁).calling g' mk As.toArray, t, U', L, hT, X', hL, e1, e2, hq, st⟩
  · dsimp only [Pt.U, Pt.locs, Pt.cells, Pt.slots] at X' e1 e2 h1 h2 h3 st hcl
    subst h1; subst h2; subst h3
    exact Or.inr ⟨q, (T.setVm vm₁).calling g' mk As.toArray, t, U', L, E, ce, hT, X', hL, e1, e2, hq, hce, hcv, vx_cls hW₁ hcl, st⟩
end
end VXH
theorem vx_ofWH {l : Launch} {y : MethodName} {ws ws' : List Cond} {rm : Room} {Pc : Array Value → State → Prop} {Qc : Array Value → State → Outcome → State → Prop} {XC : String → State → State → Prop} {mc ms : Nat} {free : Addr → Prop} {cc : ByteArray} {maxL : Nat} {ret : Option FieldType} {hh : List (Nat × Nat × Nat × Nat)}
    (hy : plainName y.cls = true) (hw : ws = Cond.codeWith y cc maxL ret hh :: ws')
    (body : ∀ p e s m args below meth c s₁, BodyLoose p l y (headSpec ws rm) cc maxL ret e s m args below meth c s₁ → c.maxLocals = maxL → Pc args s →
      W p l e (headSpec ws rm).room s m args below meth c s.heap [] 0 0 (vx_MQ below Qc XC args s mc ms free) (entryFrame m args maxL)) : vx_Met l y ws rm Pc Qc XC mc ms free := by
  refine MetFree.of_bodyS (code := cc) (maxLocals := maxL) (ret := ret) hy ?_ ?_
  · intro args s m h hn
    obtain ⟨m9, meth, c, hn9, h1, h2, h3, h4, -, h5, h6, -⟩ := Cond.codeWith_spec (atoms_spec (ws := ws) h _ (by rw [hw]; exact List.mem_cons_self))
    cases hn.symm.trans hn9
    exact ⟨meth, c, h1, h2, h3, h4, h5, h6⟩
  · intro p e s m args below meth c s₁ B hml hP _
    have hh0 : s₁.heap = s.heap := by rw [B.state]; rfl
    obtain ⟨t, a1, o, b1, b2, b3⟩ := body p e s m args below meth c s₁ B hml hP s₁ hh0 (Stand.of_body B)
    exact ⟨t, o, a1, b1, b2, b3⟩
/-! ===== END ===== -/
end
section
/-! names, fields, decode rows: out of the printed names -/
def RX0 : String := "FairyDust$Child"
def TX0 : u_T := fun k => match k with
  | 0 => ("FairyDust$Child", "wand", "LFairyDust$Wand;", false)
  | 1 => ("FairyDust$Child", "birthday", "I", false)
  | 2 => ("FairyDust$Child", "burst", "I", false)
  | 3 => ("FairyDust$Child", "punishedHours", "I", false)
  | 4 => ("FairyDust$Child", "marks", "I", false)
  | _ => ("FairyDust$Child", "punishment", "I", false)
def tyX0 : Nat → FieldType := fun k => match k with
  | 0 => .object "FairyDust$Wand"
  | 1 => .int
  | 2 => .int
  | 3 => .int
  | 4 => .int
  | _ => .int
theorem nmX0 : ∀ a, a < 6 → ∀ b, b < 6 → a ≠ b → (TX0 a).2.1 ≠ (TX0 b).2.1 := by decide +kernel
theorem tyX0_ok : ∀ k, k < 6 → parseFieldDescriptor (TX0 k).2.2.1 = some (tyX0 k) := by decide +kernel
abbrev cX0_init : ByteArray := prog_2_method_1_code
def yX0_init : MethodName := ⟨RX0, "<init>", "(LFairyDust$Wand;I)V"⟩
abbrev cX0_copyFrom : ByteArray := prog_2_method_2_code
def yX0_copyFrom : MethodName := ⟨RX0, "copyFrom", "(LFairyDust$Child;)V"⟩
abbrev cX0_isPunished : ByteArray := prog_2_method_3_code
def yX0_isPunished : MethodName := ⟨RX0, "isPunished", "()Z"⟩
abbrev cX0_grainsAtHand : ByteArray := prog_2_method_4_code
def yX0_grainsAtHand : MethodName := ⟨RX0, "grainsAtHand", "()I"⟩
abbrev cX0_canHave : ByteArray := prog_2_method_5_code
def yX0_canHave : MethodName := ⟨RX0, "canHave", "(I)Z"⟩
abbrev cX0_dustLeftAfter : ByteArray := prog_2_method_6_code
def yX0_dustLeftAfter : MethodName := ⟨RX0, "dustLeftAfter", "(I)I"⟩
abbrev cX0_makeWish : ByteArray := prog_2_method_7_code
def yX0_makeWish : MethodName := ⟨RX0, "makeWish", "(I)Z"⟩
abbrev cX0_takeGrains : ByteArray := prog_2_method_8_code
def yX0_takeGrains : MethodName := ⟨RX0, "takeGrains", "(I)V"⟩
abbrev cX0_takeMark : ByteArray := prog_2_method_9_code
def yX0_takeMark : MethodName := ⟨RX0, "takeMark", "()V"⟩
abbrev cX0_letOff : ByteArray := prog_2_method_10_code
def yX0_letOff : MethodName := ⟨RX0, "letOff", "()I"⟩
abbrev cX0_liveTo : ByteArray := prog_2_method_11_code
def yX0_liveTo : MethodName := ⟨RX0, "liveTo", "(I)V"⟩
abbrev cX0_beginDay : ByteArray := prog_2_method_12_code
def yX0_beginDay : MethodName := ⟨RX0, "beginDay", "(I)V"⟩
def RX1 : String := "FairyDust$Wand"
def TX1 : u_T := fun k => match k with
  | 0 => ("FairyDust$Wand", "number", "I", false)
  | 1 => ("FairyDust$Wand", "room", "I", false)
  | 2 => ("FairyDust$Wand", "falls", "I", false)
  | _ => ("FairyDust$Wand", "dust", "I", false)
def tyX1 : Nat → FieldType := fun k => match k with
  | 0 => .int
  | 1 => .int
  | 2 => .int
  | _ => .int
theorem nmX1 : ∀ a, a < 4 → ∀ b, b < 4 → a ≠ b → (TX1 a).2.1 ≠ (TX1 b).2.1 := by decide +kernel
theorem tyX1_ok : ∀ k, k < 4 → parseFieldDescriptor (TX1 k).2.2.1 = some (tyX1 k) := by decide +kernel
abbrev cX1_init : ByteArray := prog_3_method_1_code
def yX1_init : MethodName := ⟨RX1, "<init>", "(III)V"⟩
abbrev cX1_copyFrom : ByteArray := prog_3_method_2_code
def yX1_copyFrom : MethodName := ⟨RX1, "copyFrom", "(LFairyDust$Wand;)V"⟩
abbrev cX1_letFall : ByteArray := prog_3_method_3_code
def yX1_letFall : MethodName := ⟨RX1, "letFall", "()I"⟩
abbrev cX1_isFullAfter : ByteArray := prog_3_method_4_code
def yX1_isFullAfter : MethodName := ⟨RX1, "isFullAfter", "(I)Z"⟩
def RX2 : String := "FairyDust"
def TX2 : u_T := fun k => match k with
  | 0 => ("FairyDust", "wands", "Ljava/util/ArrayList;", true)
  | 1 => ("FairyDust", "children", "Ljava/util/ArrayList;", true)
  | 2 => ("FairyDust", "trialWand", "LFairyDust$Wand;", true)
  | 3 => ("FairyDust", "trialChild", "LFairyDust$Child;", true)
  | 4 => ("FairyDust", "hour", "I", false)
  | 5 => ("FairyDust", "granted", "I", false)
  | _ => ("FairyDust", "denied", "I", false)
def tyX2 : Nat → FieldType := fun k => match k with
  | 0 => .object "java/util/ArrayList"
  | 1 => .object "java/util/ArrayList"
  | 2 => .object "FairyDust$Wand"
  | 3 => .object "FairyDust$Child"
  | 4 => .int
  | 5 => .int
  | _ => .int
theorem nmX2 : ∀ a, a < 7 → ∀ b, b < 7 → a ≠ b → (TX2 a).2.1 ≠ (TX2 b).2.1 := by decide +kernel
theorem tyX2_ok : ∀ k, k < 7 → parseFieldDescriptor (TX2 k).2.2.1 = some (tyX2 k) := by decide +kernel
abbrev cX2_init : ByteArray := prog_1_method_1_code
def yX2_init : MethodName := ⟨RX2, "<init>", "()V"⟩
abbrev cX2_addWand : ByteArray := prog_1_method_2_code
def yX2_addWand : MethodName := ⟨RX2, "addWand", "(II)I"⟩
abbrev cX2_addChild : ByteArray := prog_1_method_3_code
def yX2_addChild : MethodName := ⟨RX2, "addChild", "(II)I"⟩
abbrev cX2_give : ByteArray := prog_1_method_4_code
def yX2_give : MethodName := ⟨RX2, "give", "(II)I"⟩
abbrev cX2_setFall : ByteArray := prog_1_method_5_code
def yX2_setFall : MethodName := ⟨RX2, "setFall", "(II)I"⟩
abbrev cX2_wish : ByteArray := prog_1_method_6_code
def yX2_wish : MethodName := ⟨RX2, "wish", "(II)Z"⟩
abbrev cX2_forgive : ByteArray := prog_1_method_7_code
def yX2_forgive : MethodName := ⟨RX2, "forgive", "(I)I"⟩
abbrev cX2_pass : ByteArray := prog_1_method_8_code
def yX2_pass : MethodName := ⟨RX2, "pass", "(I)I"⟩
abbrev cX2_hour : ByteArray := prog_1_method_9_code
def yX2_hour : MethodName := ⟨RX2, "hour", "()I"⟩
abbrev cX2_day : ByteArray := prog_1_method_10_code
def yX2_day : MethodName := ⟨RX2, "day", "()I"⟩
abbrev cX2_wands : ByteArray := prog_1_method_11_code
def yX2_wands : MethodName := ⟨RX2, "wands", "()I"⟩
abbrev cX2_children : ByteArray := prog_1_method_12_code
def yX2_children : MethodName := ⟨RX2, "children", "()I"⟩
abbrev cX2_granted : ByteArray := prog_1_method_13_code
def yX2_granted : MethodName := ⟨RX2, "granted", "()I"⟩
abbrev cX2_denied : ByteArray := prog_1_method_14_code
def yX2_denied : MethodName := ⟨RX2, "denied", "()I"⟩
abbrev cX2_punished : ByteArray := prog_1_method_15_code
def yX2_punished : MethodName := ⟨RX2, "punished", "()I"⟩
abbrev cX2_dustIn : ByteArray := prog_1_method_16_code
def yX2_dustIn : MethodName := ⟨RX2, "dustIn", "(I)I"⟩
abbrev cX2_users : ByteArray := prog_1_method_17_code
def yX2_users : MethodName := ⟨RX2, "users", "(I)I"⟩
abbrev cX2_wandOf : ByteArray := prog_1_method_18_code
def yX2_wandOf : MethodName := ⟨RX2, "wandOf", "(I)I"⟩
abbrev cX2_burstOf : ByteArray := prog_1_method_19_code
def yX2_burstOf : MethodName := ⟨RX2, "burstOf", "(I)I"⟩
abbrev cX2_punishedFor : ByteArray := prog_1_method_20_code
def yX2_punishedFor : MethodName := ⟨RX2, "punishedFor", "(I)I"⟩
abbrev cX2_marksOf : ByteArray := prog_1_method_21_code
def yX2_marksOf : MethodName := ⟨RX2, "marksOf", "(I)I"⟩
abbrev cX2_nextPunishment : ByteArray := prog_1_method_22_code
def yX2_nextPunishment : MethodName := ⟨RX2, "nextPunishment", "(I)I"⟩
abbrev cX2_daysToBirthday : ByteArray := prog_1_method_23_code
def yX2_daysToBirthday : MethodName := ⟨RX2, "daysToBirthday", "(I)I"⟩
abbrev cX2_greatestWish : ByteArray := prog_1_method_24_code
def yX2_greatestWish : MethodName := ⟨RX2, "greatestWish", "(I)I"⟩
abbrev cX2_hoursUntil : ByteArray := prog_1_method_25_code
def yX2_hoursUntil : MethodName := ⟨RX2, "hoursUntil", "(II)I"⟩
abbrev cX2_grantedIn : ByteArray := prog_1_method_26_code
def yX2_grantedIn : MethodName := ⟨RX2, "grantedIn", "(III)I"⟩
abbrev cX2_fallWanted : ByteArray := prog_1_method_27_code
def yX2_fallWanted : MethodName := ⟨RX2, "fallWanted", "(II)I"⟩
abbrev cX2_hoursUntilFull : ByteArray := prog_1_method_28_code
def yX2_hoursUntilFull : MethodName := ⟨RX2, "hoursUntilFull", "(I)I"⟩
abbrev cX2_bestChild : ByteArray := prog_1_method_29_code
def yX2_bestChild : MethodName := ⟨RX2, "bestChild", "(I)I"⟩
abbrev cX2_share : ByteArray := prog_1_method_30_code
def yX2_share : MethodName := ⟨RX2, "share", "()D"⟩
abbrev cX2_digest : ByteArray := prog_1_method_31_code
def yX2_digest : MethodName := ⟨RX2, "digest", "()J"⟩
abbrev cX2_withWand : ByteArray := prog_1_method_32_code
def yX2_withWand : MethodName := ⟨RX2, "withWand", "(JI)J"⟩
abbrev cX2_withChild : ByteArray := prog_1_method_33_code
def yX2_withChild : MethodName := ⟨RX2, "withChild", "(JI)J"⟩
abbrev cX2_mixed : ByteArray := prog_1_method_34_code
def yX2_mixed : MethodName := ⟨RX2, "mixed", "(JI)J"⟩
abbrev cX2_passOneHour : ByteArray := prog_1_method_35_code
def yX2_passOneHour : MethodName := ⟨RX2, "passOneHour", "()I"⟩
abbrev cX2_beginTrial : ByteArray := prog_1_method_36_code
def yX2_beginTrial : MethodName := ⟨RX2, "beginTrial", "(LFairyDust$Child;)V"⟩
abbrev cX2_passTrialHour : ByteArray := prog_1_method_37_code
def yX2_passTrialHour : MethodName := ⟨RX2, "passTrialHour", "(I)V"⟩
abbrev cX2_tryWishes : ByteArray := prog_1_method_38_code
def yX2_tryWishes : MethodName := ⟨RX2, "tryWishes", "(II)I"⟩
abbrev cX2_wandAt : ByteArray := prog_1_method_39_code
def yX2_wandAt : MethodName := ⟨RX2, "wandAt", "(I)LFairyDust$Wand;"⟩
abbrev cX2_childAt : ByteArray := prog_1_method_40_code
def yX2_childAt : MethodName := ⟨RX2, "childAt", "(I)LFairyDust$Child;"⟩
abbrev cX2_needSize : ByteArray := prog_1_method_41_code
def yX2_needSize : MethodName := ⟨RX2, "needSize", "(I)V"⟩
abbrev cX2_needWithin : ByteArray := prog_1_method_42_code
def yX2_needWithin : MethodName := ⟨RX2, "needWithin", "(III)V"⟩
def RX3 : String := "FairyDustModel"
def TX3 : u_T := fun k => match k with
  | 0 => ("FairyDustModel", "thrown", "I", false)
  | 1 => ("FairyDustModel", "wands", "I", false)
  | 2 => ("FairyDustModel", "children", "I", false)
  | 3 => ("FairyDustModel", "hour", "I", false)
  | 4 => ("FairyDustModel", "granted", "I", false)
  | 5 => ("FairyDustModel", "denied", "I", false)
  | 6 => ("FairyDustModel", "room", "[I", true)
  | 7 => ("FairyDustModel", "fall", "[I", true)
  | 8 => ("FairyDustModel", "dust", "[I", true)
  | 9 => ("FairyDustModel", "wand", "[I", true)
  | 10 => ("FairyDustModel", "birthday", "[I", true)
  | 11 => ("FairyDustModel", "burst", "[I", true)
  | 12 => ("FairyDustModel", "held", "[I", true)
  | 13 => ("FairyDustModel", "marks", "[I", true)
  | _ => ("FairyDustModel", "next", "[I", true)
def tyX3 : Nat → FieldType := fun k => match k with
  | 0 => .int
  | 1 => .int
  | 2 => .int
  | 3 => .int
  | 4 => .int
  | 5 => .int
  | 6 => .array .int
  | 7 => .array .int
  | 8 => .array .int
  | 9 => .array .int
  | 10 => .array .int
  | 11 => .array .int
  | 12 => .array .int
  | 13 => .array .int
  | _ => .array .int
theorem nmX3 : ∀ a, a < 15 → ∀ b, b < 15 → a ≠ b → (TX3 a).2.1 ≠ (TX3 b).2.1 := by decide +kernel
theorem tyX3_ok : ∀ k, k < 15 → parseFieldDescriptor (TX3 k).2.2.1 = some (tyX3 k) := by decide +kernel
abbrev cX3_init : ByteArray := prog_5_method_1_code
def yX3_init : MethodName := ⟨RX3, "<init>", "()V"⟩
abbrev cX3_thrown : ByteArray := prog_5_method_2_code
def yX3_thrown : MethodName := ⟨RX3, "thrown", "()I"⟩
abbrev cX3_no : ByteArray := prog_5_method_3_code
def yX3_no : MethodName := ⟨RX3, "no", "(I)I"⟩
abbrev cX3_isNot : ByteArray := prog_5_method_4_code
def yX3_isNot : MethodName := ⟨RX3, "isNot", "(I)Z"⟩
abbrev cX3_ok : ByteArray := prog_5_method_5_code
def yX3_ok : MethodName := ⟨RX3, "ok", "(I)I"⟩
abbrev cX3_isIn : ByteArray := prog_5_method_6_code
def yX3_isIn : MethodName := ⟨RX3, "isIn", "(III)Z"⟩
abbrev cX3_isWand : ByteArray := prog_5_method_7_code
def yX3_isWand : MethodName := ⟨RX3, "isWand", "(I)Z"⟩
abbrev cX3_isChild : ByteArray := prog_5_method_8_code
def yX3_isChild : MethodName := ⟨RX3, "isChild", "(I)Z"⟩
abbrev cX3_isSize : ByteArray := prog_5_method_9_code
def yX3_isSize : MethodName := ⟨RX3, "isSize", "(I)Z"⟩
abbrev cX3_dayOf : ByteArray := prog_5_method_10_code
def yX3_dayOf : MethodName := ⟨RX3, "dayOf", "(I)I"⟩
abbrev cX3_burstIn : ByteArray := prog_5_method_11_code
def yX3_burstIn : MethodName := ⟨RX3, "burstIn", "(II)I"⟩
abbrev cX3_addWand : ByteArray := prog_5_method_12_code
def yX3_addWand : MethodName := ⟨RX3, "addWand", "(II)I"⟩
abbrev cX3_addChild : ByteArray := prog_5_method_13_code
def yX3_addChild : MethodName := ⟨RX3, "addChild", "(II)I"⟩
abbrev cX3_give : ByteArray := prog_5_method_14_code
def yX3_give : MethodName := ⟨RX3, "give", "(II)I"⟩
abbrev cX3_setFall : ByteArray := prog_5_method_15_code
def yX3_setFall : MethodName := ⟨RX3, "setFall", "(II)I"⟩
abbrev cX3_all : ByteArray := prog_5_method_16_code
def yX3_all : MethodName := ⟨RX3, "all", "(I)I"⟩
abbrev cX3_isGranted : ByteArray := prog_5_method_17_code
def yX3_isGranted : MethodName := ⟨RX3, "isGranted", "(II)Z"⟩
abbrev cX3_deny : ByteArray := prog_5_method_18_code
def yX3_deny : MethodName := ⟨RX3, "deny", "(I)V"⟩
abbrev cX3_wish : ByteArray := prog_5_method_19_code
def yX3_wish : MethodName := ⟨RX3, "wish", "(II)Z"⟩
abbrev cX3_forgive : ByteArray := prog_5_method_20_code
def yX3_forgive : MethodName := ⟨RX3, "forgive", "(I)I"⟩
abbrev cX3_pass : ByteArray := prog_5_method_21_code
def yX3_pass : MethodName := ⟨RX3, "pass", "(I)I"⟩
abbrev cX3_hour : ByteArray := prog_5_method_22_code
def yX3_hour : MethodName := ⟨RX3, "hour", "()I"⟩
abbrev cX3_day : ByteArray := prog_5_method_23_code
def yX3_day : MethodName := ⟨RX3, "day", "()I"⟩
abbrev cX3_wands : ByteArray := prog_5_method_24_code
def yX3_wands : MethodName := ⟨RX3, "wands", "()I"⟩
abbrev cX3_children : ByteArray := prog_5_method_25_code
def yX3_children : MethodName := ⟨RX3, "children", "()I"⟩
abbrev cX3_granted : ByteArray := prog_5_method_26_code
def yX3_granted : MethodName := ⟨RX3, "granted", "()I"⟩
abbrev cX3_denied : ByteArray := prog_5_method_27_code
def yX3_denied : MethodName := ⟨RX3, "denied", "()I"⟩
abbrev cX3_manyHeld : ByteArray := prog_5_method_28_code
def yX3_manyHeld : MethodName := ⟨RX3, "manyHeld", "()I"⟩
abbrev cX3_punished : ByteArray := prog_5_method_29_code
def yX3_punished : MethodName := ⟨RX3, "punished", "()I"⟩
abbrev cX3_dustIn : ByteArray := prog_5_method_30_code
def yX3_dustIn : MethodName := ⟨RX3, "dustIn", "(I)I"⟩
abbrev cX3_using : ByteArray := prog_5_method_31_code
def yX3_using : MethodName := ⟨RX3, "using", "(I)I"⟩
abbrev cX3_users : ByteArray := prog_5_method_32_code
def yX3_users : MethodName := ⟨RX3, "users", "(I)I"⟩
abbrev cX3_of : ByteArray := prog_5_method_33_code
def yX3_of : MethodName := ⟨RX3, "of", "([II)I"⟩
abbrev cX3_wandOf : ByteArray := prog_5_method_34_code
def yX3_wandOf : MethodName := ⟨RX3, "wandOf", "(I)I"⟩
abbrev cX3_burstOf : ByteArray := prog_5_method_35_code
def yX3_burstOf : MethodName := ⟨RX3, "burstOf", "(I)I"⟩
abbrev cX3_punishedFor : ByteArray := prog_5_method_36_code
def yX3_punishedFor : MethodName := ⟨RX3, "punishedFor", "(I)I"⟩
abbrev cX3_marksOf : ByteArray := prog_5_method_37_code
def yX3_marksOf : MethodName := ⟨RX3, "marksOf", "(I)I"⟩
abbrev cX3_nextPunishment : ByteArray := prog_5_method_38_code
def yX3_nextPunishment : MethodName := ⟨RX3, "nextPunishment", "(I)I"⟩
abbrev cX3_daysTo : ByteArray := prog_5_method_39_code
def yX3_daysTo : MethodName := ⟨RX3, "daysTo", "(I)I"⟩
abbrev cX3_daysToBirthday : ByteArray := prog_5_method_40_code
def yX3_daysToBirthday : MethodName := ⟨RX3, "daysToBirthday", "(I)I"⟩
abbrev cX3_greatest : ByteArray := prog_5_method_41_code
def yX3_greatest : MethodName := ⟨RX3, "greatest", "(I)I"⟩
abbrev cX3_greatestWish : ByteArray := prog_5_method_42_code
def yX3_greatestWish : MethodName := ⟨RX3, "greatestWish", "(I)I"⟩
abbrev cX3_until : ByteArray := prog_5_method_43_code
def yX3_until : MethodName := ⟨RX3, "until", "(II)I"⟩
abbrev cX3_hoursUntil : ByteArray := prog_5_method_44_code
def yX3_hoursUntil : MethodName := ⟨RX3, "hoursUntil", "(II)I"⟩
abbrev cX3_grants : ByteArray := prog_5_method_45_code
def yX3_grants : MethodName := ⟨RX3, "grants", "(IIII)I"⟩
abbrev cX3_grantedIn : ByteArray := prog_5_method_46_code
def yX3_grantedIn : MethodName := ⟨RX3, "grantedIn", "(III)I"⟩
abbrev cX3_wanted : ByteArray := prog_5_method_47_code
def yX3_wanted : MethodName := ⟨RX3, "wanted", "(II)I"⟩
abbrev cX3_fallWanted : ByteArray := prog_5_method_48_code
def yX3_fallWanted : MethodName := ⟨RX3, "fallWanted", "(II)I"⟩
abbrev cX3_untilFull : ByteArray := prog_5_method_49_code
def yX3_untilFull : MethodName := ⟨RX3, "untilFull", "(I)I"⟩
abbrev cX3_hoursUntilFull : ByteArray := prog_5_method_50_code
def yX3_hoursUntilFull : MethodName := ⟨RX3, "hoursUntilFull", "(I)I"⟩
abbrev cX3_leaves : ByteArray := prog_5_method_51_code
def yX3_leaves : MethodName := ⟨RX3, "leaves", "(II)I"⟩
abbrev cX3_best : ByteArray := prog_5_method_52_code
def yX3_best : MethodName := ⟨RX3, "best", "(I)I"⟩
abbrev cX3_bestChild : ByteArray := prog_5_method_53_code
def yX3_bestChild : MethodName := ⟨RX3, "bestChild", "(I)I"⟩
abbrev cX3_share : ByteArray := prog_5_method_54_code
def yX3_share : MethodName := ⟨RX3, "share", "()D"⟩
abbrev cX3_digest : ByteArray := prog_5_method_55_code
def yX3_digest : MethodName := ⟨RX3, "digest", "()J"⟩
def RJx145de : String := "java/io/Serializable"
def TJx145de : u_T := fun k => match k with
  | _ => ("", "", "", false)
def tyJx145de : Nat → FieldType := fun k => match k with
  | _ => .int
theorem nmJx145de : ∀ a, a < 0 → ∀ b, b < 0 → a ≠ b → (TJx145de a).2.1 ≠ (TJx145de b).2.1 := by decide +kernel
theorem tyJx145de_ok : ∀ k, k < 0 → parseFieldDescriptor (TJx145de k).2.2.1 = some (tyJx145de k) := by decide +kernel
def RJx8e188 : String := "java/lang/Cloneable"
def TJx8e188 : u_T := fun k => match k with
  | _ => ("", "", "", false)
def tyJx8e188 : Nat → FieldType := fun k => match k with
  | _ => .int
theorem nmJx8e188 : ∀ a, a < 0 → ∀ b, b < 0 → a ≠ b → (TJx8e188 a).2.1 ≠ (TJx8e188 b).2.1 := by decide +kernel
theorem tyJx8e188_ok : ∀ k, k < 0 → parseFieldDescriptor (TJx8e188 k).2.2.1 = some (tyJx8e188 k) := by decide +kernel
def RJxab1ab : String := "java/lang/Iterable"
def TJxab1ab : u_T := fun k => match k with
  | _ => ("", "", "", false)
def tyJxab1ab : Nat → FieldType := fun k => match k with
  | _ => .int
theorem nmJxab1ab : ∀ a, a < 0 → ∀ b, b < 0 → a ≠ b → (TJxab1ab a).2.1 ≠ (TJxab1ab b).2.1 := by decide +kernel
theorem tyJxab1ab_ok : ∀ k, k < 0 → parseFieldDescriptor (TJxab1ab k).2.2.1 = some (tyJxab1ab k) := by decide +kernel
def RJ9 : String := "java/lang/Math"
def TJ9 : u_T := fun k => match k with
  | _ => ("", "", "", false)
def tyJ9 : Nat → FieldType := fun k => match k with
  | _ => .int
theorem nmJ9 : ∀ a, a < 0 → ∀ b, b < 0 → a ≠ b → (TJ9 a).2.1 ≠ (TJ9 b).2.1 := by decide +kernel
theorem tyJ9_ok : ∀ k, k < 0 → parseFieldDescriptor (TJ9 k).2.2.1 = some (tyJ9 k) := by decide +kernel
abbrev cJ9_floorMod_7cf53 : ByteArray := prog_13_method_50_code
def yJ9_floorMod_7cf53 : MethodName := ⟨RJ9, "floorMod", "(II)I"⟩
abbrev cJ9_max_7cf53 : ByteArray := prog_13_method_65_code
def yJ9_max_7cf53 : MethodName := ⟨RJ9, "max", "(II)I"⟩
abbrev cJ9_min_7cf53 : ByteArray := prog_13_method_69_code
def yJ9_min_7cf53 : MethodName := ⟨RJ9, "min", "(II)I"⟩
def RJ0 : String := "java/lang/String"
def TJ0 : u_T := fun k => match k with
  | _ => ("", "", "", false)
def tyJ0 : Nat → FieldType := fun k => match k with
  | _ => .int
theorem nmJ0 : ∀ a, a < 0 → ∀ b, b < 0 → a ≠ b → (TJ0 a).2.1 ≠ (TJ0 b).2.1 := by decide +kernel
theorem tyJ0_ok : ∀ k, k < 0 → parseFieldDescriptor (TJ0 k).2.2.1 = some (tyJ0 k) := by decide +kernel
def RJ10 : String := "java/lang/System"
def TJ10 : u_T := fun k => match k with
  | _ => ("", "", "", false)
def tyJ10 : Nat → FieldType := fun k => match k with
  | _ => .int
theorem nmJ10 : ∀ a, a < 0 → ∀ b, b < 0 → a ≠ b → (TJ10 a).2.1 ≠ (TJ10 b).2.1 := by decide +kernel
theorem tyJ10_ok : ∀ k, k < 0 → parseFieldDescriptor (TJ10 k).2.2.1 = some (tyJ10 k) := by decide +kernel
def RJxa1e45 : String := "java/util/AbstractCollection"
def TJxa1e45 : u_T := fun k => match k with
  | _ => ("", "", "", false)
def tyJxa1e45 : Nat → FieldType := fun k => match k with
  | _ => .int
theorem nmJxa1e45 : ∀ a, a < 0 → ∀ b, b < 0 → a ≠ b → (TJxa1e45 a).2.1 ≠ (TJxa1e45 b).2.1 := by decide +kernel
theorem tyJxa1e45_ok : ∀ k, k < 0 → parseFieldDescriptor (TJxa1e45 k).2.2.1 = some (tyJxa1e45 k) := by decide +kernel
abbrev cJxa1e45_init_da8c8 : ByteArray := prog_18_method_1_code
def yJxa1e45_init_da8c8 : MethodName := ⟨RJxa1e45, "<init>", "()V"⟩
def RJxc12de : String := "java/util/AbstractList"
def TJxc12de : u_T := fun k => match k with
  | _ => ("", "", "", false)
def tyJxc12de : Nat → FieldType := fun k => match k with
  | _ => .int
theorem nmJxc12de : ∀ a, a < 0 → ∀ b, b < 0 → a ≠ b → (TJxc12de a).2.1 ≠ (TJxc12de b).2.1 := by decide +kernel
theorem tyJxc12de_ok : ∀ k, k < 0 → parseFieldDescriptor (TJxc12de k).2.2.1 = some (tyJxc12de k) := by decide +kernel
abbrev cJxc12de_init_da8c8 : ByteArray := prog_19_method_1_code
def yJxc12de_init_da8c8 : MethodName := ⟨RJxc12de, "<init>", "()V"⟩
def RJx4a65c : String := "java/util/ArrayList"
def TJx4a65c : u_T := fun k => match k with
  | 0 => ("java/util/AbstractList", "modCount", "I", false)
  | 1 => ("java/util/ArrayList", "elementData", "[Ljava/lang/Object;", false)
  | _ => ("java/util/ArrayList", "size", "I", false)
def tyJx4a65c : Nat → FieldType := fun k => match k with
  | 0 => .int
  | 1 => .array (.object "java/lang/Object")
  | _ => .int
theorem nmJx4a65c : ∀ a, a < 3 → ∀ b, b < 3 → a ≠ b → (TJx4a65c a).2.1 ≠ (TJx4a65c b).2.1 := by decide +kernel
theorem tyJx4a65c_ok : ∀ k, k < 3 → parseFieldDescriptor (TJx4a65c k).2.2.1 = some (tyJx4a65c k) := by decide +kernel
abbrev cJx4a65c_init_da8c8 : ByteArray := prog_20_method_2_code
def yJx4a65c_init_da8c8 : MethodName := ⟨RJx4a65c, "<init>", "()V"⟩
abbrev cJx4a65c_grow_92f84 : ByteArray := prog_20_method_6_code
def yJx4a65c_grow_92f84 : MethodName := ⟨RJx4a65c, "grow", "(I)[Ljava/lang/Object;"⟩
abbrev cJx4a65c_grow_d5877 : ByteArray := prog_20_method_7_code
def yJx4a65c_grow_d5877 : MethodName := ⟨RJx4a65c, "grow", "()[Ljava/lang/Object;"⟩
abbrev cJx4a65c_size_8abf5 : ByteArray := prog_20_method_8_code
def yJx4a65c_size_8abf5 : MethodName := ⟨RJx4a65c, "size", "()I"⟩
abbrev cJx4a65c_elementData_915e3 : ByteArray := prog_20_method_18_code
def yJx4a65c_elementData_915e3 : MethodName := ⟨RJx4a65c, "elementData", "(I)Ljava/lang/Object;"⟩
abbrev cJx4a65c_get_915e3 : ByteArray := prog_20_method_20_code
def yJx4a65c_get_915e3 : MethodName := ⟨RJx4a65c, "get", "(I)Ljava/lang/Object;"⟩
abbrev cJx4a65c_add_72be8 : ByteArray := prog_20_method_24_code
def yJx4a65c_add_72be8 : MethodName := ⟨RJx4a65c, "add", "(Ljava/lang/Object;[Ljava/lang/Object;I)V"⟩
abbrev cJx4a65c_add_9ea2d : ByteArray := prog_20_method_25_code
def yJx4a65c_add_9ea2d : MethodName := ⟨RJx4a65c, "add", "(Ljava/lang/Object;)Z"⟩
def RJ7 : String := "java/util/Arrays"
def TJ7 : u_T := fun k => match k with
  | _ => ("", "", "", false)
def tyJ7 : Nat → FieldType := fun k => match k with
  | _ => .int
theorem nmJ7 : ∀ a, a < 0 → ∀ b, b < 0 → a ≠ b → (TJ7 a).2.1 ≠ (TJ7 b).2.1 := by decide +kernel
theorem tyJ7_ok : ∀ k, k < 0 → parseFieldDescriptor (TJ7 k).2.2.1 = some (tyJ7 k) := by decide +kernel
abbrev cJ7_copyOf_1904c : ByteArray := prog_21_method_119_code
def yJ7_copyOf_1904c : MethodName := ⟨RJ7, "copyOf", "([Ljava/lang/Object;I)[Ljava/lang/Object;"⟩
abbrev cJ7_copyOf_6403c : ByteArray := prog_21_method_120_code
def yJ7_copyOf_6403c : MethodName := ⟨RJ7, "copyOf", "([Ljava/lang/Object;ILjava/lang/Class;)[Ljava/lang/Object;"⟩
def RJx5ef63 : String := "java/util/Collection"
def TJx5ef63 : u_T := fun k => match k with
  | _ => ("", "", "", false)
def tyJx5ef63 : Nat → FieldType := fun k => match k with
  | _ => .int
theorem nmJx5ef63 : ∀ a, a < 0 → ∀ b, b < 0 → a ≠ b → (TJx5ef63 a).2.1 ≠ (TJx5ef63 b).2.1 := by decide +kernel
theorem tyJx5ef63_ok : ∀ k, k < 0 → parseFieldDescriptor (TJx5ef63 k).2.2.1 = some (tyJx5ef63 k) := by decide +kernel
def RJxbd725 : String := "java/util/List"
def TJxbd725 : u_T := fun k => match k with
  | _ => ("", "", "", false)
def tyJxbd725 : Nat → FieldType := fun k => match k with
  | _ => .int
theorem nmJxbd725 : ∀ a, a < 0 → ∀ b, b < 0 → a ≠ b → (TJxbd725 a).2.1 ≠ (TJxbd725 b).2.1 := by decide +kernel
theorem tyJxbd725_ok : ∀ k, k < 0 → parseFieldDescriptor (TJxbd725 k).2.2.1 = some (tyJxbd725 k) := by decide +kernel
def RJ15 : String := "java/util/Objects"
def TJ15 : u_T := fun k => match k with
  | _ => ("", "", "", false)
def tyJ15 : Nat → FieldType := fun k => match k with
  | _ => .int
theorem nmJ15 : ∀ a, a < 0 → ∀ b, b < 0 → a ≠ b → (TJ15 a).2.1 ≠ (TJ15 b).2.1 := by decide +kernel
theorem tyJ15_ok : ∀ k, k < 0 → parseFieldDescriptor (TJ15 k).2.2.1 = some (tyJ15 k) := by decide +kernel
abbrev cJ15_checkIndex_7cf53 : ByteArray := prog_24_method_17_code
def yJ15_checkIndex_7cf53 : MethodName := ⟨RJ15, "checkIndex", "(II)I"⟩
def RJxf0a74 : String := "java/util/RandomAccess"
def TJxf0a74 : u_T := fun k => match k with
  | _ => ("", "", "", false)
def tyJxf0a74 : Nat → FieldType := fun k => match k with
  | _ => .int
theorem nmJxf0a74 : ∀ a, a < 0 → ∀ b, b < 0 → a ≠ b → (TJxf0a74 a).2.1 ≠ (TJxf0a74 b).2.1 := by decide +kernel
theorem tyJxf0a74_ok : ∀ k, k < 0 → parseFieldDescriptor (TJxf0a74 k).2.2.1 = some (tyJxf0a74 k) := by decide +kernel
def RJxa66e6 : String := "java/util/SequencedCollection"
def TJxa66e6 : u_T := fun k => match k with
  | _ => ("", "", "", false)
def tyJxa66e6 : Nat → FieldType := fun k => match k with
  | _ => .int
theorem nmJxa66e6 : ∀ a, a < 0 → ∀ b, b < 0 → a ≠ b → (TJxa66e6 a).2.1 ≠ (TJxa66e6 b).2.1 := by decide +kernel
theorem tyJxa66e6_ok : ∀ k, k < 0 → parseFieldDescriptor (TJxa66e6 k).2.2.1 = some (tyJxa66e6 k) := by decide +kernel
def RJ8 : String := "jdk/internal/util/ArraysSupport"
def TJ8 : u_T := fun k => match k with
  | _ => ("", "", "", false)
def tyJ8 : Nat → FieldType := fun k => match k with
  | _ => .int
theorem nmJ8 : ∀ a, a < 0 → ∀ b, b < 0 → a ≠ b → (TJ8 a).2.1 ≠ (TJ8 b).2.1 := by decide +kernel
theorem tyJ8_ok : ∀ k, k < 0 → parseFieldDescriptor (TJ8 k).2.2.1 = some (tyJ8 k) := by decide +kernel
abbrev cJ8_newLength_cabcc : ByteArray := prog_27_method_27_code
def yJ8_newLength_cabcc : MethodName := ⟨RJ8, "newLength", "(III)I"⟩
abbrev cJ8_hugeLength_7cf53 : ByteArray := prog_27_method_28_code
def yJ8_hugeLength_7cf53 : MethodName := ⟨RJ8, "hugeLength", "(II)I"⟩
def RJ3 : String := "jdk/internal/util/Preconditions"
def TJ3 : u_T := fun k => match k with
  | _ => ("", "", "", false)
def tyJ3 : Nat → FieldType := fun k => match k with
  | _ => .int
theorem nmJ3 : ∀ a, a < 0 → ∀ b, b < 0 → a ≠ b → (TJ3 a).2.1 ≠ (TJ3 b).2.1 := by decide +kernel
theorem tyJ3_ok : ∀ k, k < 0 → parseFieldDescriptor (TJ3 k).2.2.1 = some (tyJ3 k) := by decide +kernel
abbrev cJ3_checkIndex_8e157 : ByteArray := prog_28_method_11_code
def yJ3_checkIndex_8e157 : MethodName := ⟨RJ3, "checkIndex", "(IILjava/util/function/BiFunction;)I"⟩
def RL : String := "FairyDustLaw"
abbrev cL_addWand : ByteArray := method_3_code
def yL_addWand : MethodName := ⟨RL, "addWand", "(LFairyDust;II[J)I"⟩
abbrev cL_addChild : ByteArray := method_4_code
def yL_addChild : MethodName := ⟨RL, "addChild", "(LFairyDust;II[J)I"⟩
abbrev cL_give : ByteArray := method_5_code
def yL_give : MethodName := ⟨RL, "give", "(LFairyDust;II[J)I"⟩
abbrev cL_setFall : ByteArray := method_6_code
def yL_setFall : MethodName := ⟨RL, "setFall", "(LFairyDust;II[J)I"⟩
abbrev cL_wish : ByteArray := method_7_code
def yL_wish : MethodName := ⟨RL, "wish", "(LFairyDust;II[J)I"⟩
abbrev cL_forgive : ByteArray := method_8_code
def yL_forgive : MethodName := ⟨RL, "forgive", "(LFairyDust;I[J)I"⟩
abbrev cL_pass : ByteArray := method_9_code
def yL_pass : MethodName := ⟨RL, "pass", "(LFairyDust;I[J)I"⟩
abbrev cL_dustIn : ByteArray := method_10_code
def yL_dustIn : MethodName := ⟨RL, "dustIn", "(LFairyDust;I[J)I"⟩
abbrev cL_users : ByteArray := method_11_code
def yL_users : MethodName := ⟨RL, "users", "(LFairyDust;I[J)I"⟩
abbrev cL_wandOf : ByteArray := method_12_code
def yL_wandOf : MethodName := ⟨RL, "wandOf", "(LFairyDust;I[J)I"⟩
abbrev cL_burstOf : ByteArray := method_13_code
def yL_burstOf : MethodName := ⟨RL, "burstOf", "(LFairyDust;I[J)I"⟩
abbrev cL_punishedFor : ByteArray := method_14_code
def yL_punishedFor : MethodName := ⟨RL, "punishedFor", "(LFairyDust;I[J)I"⟩
abbrev cL_marksOf : ByteArray := method_15_code
def yL_marksOf : MethodName := ⟨RL, "marksOf", "(LFairyDust;I[J)I"⟩
abbrev cL_nextPunishment : ByteArray := method_16_code
def yL_nextPunishment : MethodName := ⟨RL, "nextPunishment", "(LFairyDust;I[J)I"⟩
abbrev cL_daysToBirthday : ByteArray := method_17_code
def yL_daysToBirthday : MethodName := ⟨RL, "daysToBirthday", "(LFairyDust;I[J)I"⟩
abbrev cL_greatestWish : ByteArray := method_18_code
def yL_greatestWish : MethodName := ⟨RL, "greatestWish", "(LFairyDust;I[J)I"⟩
abbrev cL_hoursUntil : ByteArray := method_19_code
def yL_hoursUntil : MethodName := ⟨RL, "hoursUntil", "(LFairyDust;II[J)I"⟩
abbrev cL_grantedIn : ByteArray := method_20_code
def yL_grantedIn : MethodName := ⟨RL, "grantedIn", "(LFairyDust;III[J)I"⟩
abbrev cL_fallWanted : ByteArray := method_21_code
def yL_fallWanted : MethodName := ⟨RL, "fallWanted", "(LFairyDust;II[J)I"⟩
abbrev cL_hoursUntilFull : ByteArray := method_22_code
def yL_hoursUntilFull : MethodName := ⟨RL, "hoursUntilFull", "(LFairyDust;I[J)I"⟩
abbrev cL_bestChild : ByteArray := method_23_code
def yL_bestChild : MethodName := ⟨RL, "bestChild", "(LFairyDust;I[J)I"⟩
abbrev cL_law : ByteArray := code
def yL_law : MethodName := ⟨RL, "law", "([I)Z"⟩
abbrev vwCl : List vw_C := [(RJx4a65c, TJx4a65c, 3), (RX0, TX0, 6), (RX1, TX1, 4), (RX2, TX2, 7), (RX3, TX3, 15)]
theorem dX0_init_0 : decode cX0_init 0 = .ok (.aload_n 0, 1) := by decide +kernel
theorem dX0_init_1 : decode cX0_init 1 = .ok (.invokespecial 3, 3) := by decide +kernel
theorem dX0_init_4 : decode cX0_init 4 = .ok (.aload_n 0, 1) := by decide +kernel
theorem dX0_init_5 : decode cX0_init 5 = .ok (.aload_n 1, 1) := by decide +kernel
theorem dX0_init_6 : decode cX0_init 6 = .ok (.putfield 9, 3) := by decide +kernel
theorem dX0_init_9 : decode cX0_init 9 = .ok (.aload_n 0, 1) := by decide +kernel
theorem dX0_init_10 : decode cX0_init 10 = .ok (.iload_n 2, 1) := by decide +kernel
theorem dX0_init_11 : decode cX0_init 11 = .ok (.putfield 15, 3) := by decide +kernel
theorem dX0_init_14 : decode cX0_init 14 = .ok (.aload_n 0, 1) := by decide +kernel
theorem dX0_init_15 : decode cX0_init 15 = .ok (.iconst 4, 1) := by decide +kernel
theorem dX0_init_16 : decode cX0_init 16 = .ok (.putfield 19, 3) := by decide +kernel
theorem dX0_init_19 : decode cX0_init 19 = .ok (.return_, 1) := by decide +kernel
theorem dX0_copyFrom_0 : decode cX0_copyFrom 0 = .ok (.aload_n 0, 1) := by decide +kernel
theorem dX0_copyFrom_1 : decode cX0_copyFrom 1 = .ok (.aload_n 1, 1) := by decide +kernel
theorem dX0_copyFrom_2 : decode cX0_copyFrom 2 = .ok (.getfield 15, 3) := by decide +kernel
theorem dX0_copyFrom_5 : decode cX0_copyFrom 5 = .ok (.putfield 15, 3) := by decide +kernel
theorem dX0_copyFrom_8 : decode cX0_copyFrom 8 = .ok (.aload_n 0, 1) := by decide +kernel
theorem dX0_copyFrom_9 : decode cX0_copyFrom 9 = .ok (.aload_n 1, 1) := by decide +kernel
theorem dX0_copyFrom_10 : decode cX0_copyFrom 10 = .ok (.getfield 22, 3) := by decide +kernel
theorem dX0_copyFrom_13 : decode cX0_copyFrom 13 = .ok (.putfield 22, 3) := by decide +kernel
theorem dX0_copyFrom_16 : decode cX0_copyFrom 16 = .ok (.aload_n 0, 1) := by decide +kernel
theorem dX0_copyFrom_17 : decode cX0_copyFrom 17 = .ok (.aload_n 1, 1) := by decide +kernel
theorem dX0_copyFrom_18 : decode cX0_copyFrom 18 = .ok (.getfield 25, 3) := by decide +kernel
theorem dX0_copyFrom_21 : decode cX0_copyFrom 21 = .ok (.putfield 25, 3) := by decide +kernel
theorem dX0_copyFrom_24 : decode cX0_copyFrom 24 = .ok (.aload_n 0, 1) := by decide +kernel
theorem dX0_copyFrom_25 : decode cX0_copyFrom 25 = .ok (.aload_n 1, 1) := by decide +kernel
theorem dX0_copyFrom_26 : decode cX0_copyFrom 26 = .ok (.getfield 28, 3) := by decide +kernel
theorem dX0_copyFrom_29 : decode cX0_copyFrom 29 = .ok (.putfield 28, 3) := by decide +kernel
theorem dX0_copyFrom_32 : decode cX0_copyFrom 32 = .ok (.aload_n 0, 1) := by decide +kernel
theorem dX0_copyFrom_33 : decode cX0_copyFrom 33 = .ok (.aload_n 1, 1) := by decide +kernel
theorem dX0_copyFrom_34 : decode cX0_copyFrom 34 = .ok (.getfield 19, 3) := by decide +kernel
theorem dX0_copyFrom_37 : decode cX0_copyFrom 37 = .ok (.putfield 19, 3) := by decide +kernel
theorem dX0_copyFrom_40 : decode cX0_copyFrom 40 = .ok (.return_, 1) := by decide +kernel
theorem dX0_isPunished_0 : decode cX0_isPunished 0 = .ok (.aload_n 0, 1) := by decide +kernel
theorem dX0_isPunished_1 : decode cX0_isPunished 1 = .ok (.getfield 25, 3) := by decide +kernel
theorem dX0_isPunished_4 : decode cX0_isPunished 4 = .ok (.ifCond .le 7, 3) := by decide +kernel
theorem dX0_isPunished_7 : decode cX0_isPunished 7 = .ok (.iconst 1, 1) := by decide +kernel
theorem dX0_isPunished_8 : decode cX0_isPunished 8 = .ok (.goto 4, 3) := by decide +kernel
theorem dX0_isPunished_11 : decode cX0_isPunished 11 = .ok (.iconst 0, 1) := by decide +kernel
theorem dX0_isPunished_12 : decode cX0_isPunished 12 = .ok (.ireturn, 1) := by decide +kernel
theorem dX0_grainsAtHand_0 : decode cX0_grainsAtHand 0 = .ok (.aload_n 0, 1) := by decide +kernel
theorem dX0_grainsAtHand_1 : decode cX0_grainsAtHand 1 = .ok (.invokevirtual 31, 3) := by decide +kernel
theorem dX0_grainsAtHand_4 : decode cX0_grainsAtHand 4 = .ok (.ifCond .eq 7, 3) := by decide +kernel
theorem dX0_grainsAtHand_7 : decode cX0_grainsAtHand 7 = .ok (.iconst 0, 1) := by decide +kernel
theorem dX0_grainsAtHand_8 : decode cX0_grainsAtHand 8 = .ok (.goto 15, 3) := by decide +kernel
theorem dX0_grainsAtHand_11 : decode cX0_grainsAtHand 11 = .ok (.aload_n 0, 1) := by decide +kernel
theorem dX0_grainsAtHand_12 : decode cX0_grainsAtHand 12 = .ok (.getfield 22, 3) := by decide +kernel
theorem dX0_grainsAtHand_15 : decode cX0_grainsAtHand 15 = .ok (.aload_n 0, 1) := by decide +kernel
theorem dX0_grainsAtHand_16 : decode cX0_grainsAtHand 16 = .ok (.getfield 9, 3) := by decide +kernel
theorem dX0_grainsAtHand_19 : decode cX0_grainsAtHand 19 = .ok (.getfield 35, 3) := by decide +kernel
theorem dX0_grainsAtHand_22 : decode cX0_grainsAtHand 22 = .ok (.iadd, 1) := by decide +kernel
theorem dX0_grainsAtHand_23 : decode cX0_grainsAtHand 23 = .ok (.ireturn, 1) := by decide +kernel
theorem dX0_canHave_0 : decode cX0_canHave 0 = .ok (.aload_n 0, 1) := by decide +kernel
theorem dX0_canHave_1 : decode cX0_canHave 1 = .ok (.invokevirtual 40, 3) := by decide +kernel
theorem dX0_canHave_4 : decode cX0_canHave 4 = .ok (.iload_n 1, 1) := by decide +kernel
theorem dX0_canHave_5 : decode cX0_canHave 5 = .ok (.if_icmp .lt 7, 3) := by decide +kernel
theorem dX0_canHave_8 : decode cX0_canHave 8 = .ok (.iconst 1, 1) := by decide +kernel
theorem dX0_canHave_9 : decode cX0_canHave 9 = .ok (.goto 4, 3) := by decide +kernel
theorem dX0_canHave_12 : decode cX0_canHave 12 = .ok (.iconst 0, 1) := by decide +kernel
theorem dX0_canHave_13 : decode cX0_canHave 13 = .ok (.ireturn, 1) := by decide +kernel
theorem dX0_dustLeftAfter_0 : decode cX0_dustLeftAfter 0 = .ok (.aload_n 0, 1) := by decide +kernel
theorem dX0_dustLeftAfter_1 : decode cX0_dustLeftAfter 1 = .ok (.getfield 9, 3) := by decide +kernel
theorem dX0_dustLeftAfter_4 : decode cX0_dustLeftAfter 4 = .ok (.getfield 35, 3) := by decide +kernel
theorem dX0_dustLeftAfter_7 : decode cX0_dustLeftAfter 7 = .ok (.iconst 0, 1) := by decide +kernel
theorem dX0_dustLeftAfter_8 : decode cX0_dustLeftAfter 8 = .ok (.iload_n 1, 1) := by decide +kernel
theorem dX0_dustLeftAfter_9 : decode cX0_dustLeftAfter 9 = .ok (.aload_n 0, 1) := by decide +kernel
theorem dX0_dustLeftAfter_10 : decode cX0_dustLeftAfter 10 = .ok (.getfield 22, 3) := by decide +kernel
theorem dX0_dustLeftAfter_13 : decode cX0_dustLeftAfter 13 = .ok (.isub, 1) := by decide +kernel
theorem dX0_dustLeftAfter_14 : decode cX0_dustLeftAfter 14 = .ok (.invokestatic 44, 3) := by decide +kernel
theorem dX0_dustLeftAfter_17 : decode cX0_dustLeftAfter 17 = .ok (.isub, 1) := by decide +kernel
theorem dX0_dustLeftAfter_18 : decode cX0_dustLeftAfter 18 = .ok (.ireturn, 1) := by decide +kernel
theorem dX0_makeWish_0 : decode cX0_makeWish 0 = .ok (.aload_n 0, 1) := by decide +kernel
theorem dX0_makeWish_1 : decode cX0_makeWish 1 = .ok (.iload_n 1, 1) := by decide +kernel
theorem dX0_makeWish_2 : decode cX0_makeWish 2 = .ok (.invokevirtual 50, 3) := by decide +kernel
theorem dX0_makeWish_5 : decode cX0_makeWish 5 = .ok (.ifCond .eq 24, 3) := by decide +kernel
theorem dX0_makeWish_8 : decode cX0_makeWish 8 = .ok (.aload_n 0, 1) := by decide +kernel
theorem dX0_makeWish_9 : decode cX0_makeWish 9 = .ok (.iload_n 1, 1) := by decide +kernel
theorem dX0_makeWish_10 : decode cX0_makeWish 10 = .ok (.invokevirtual 54, 3) := by decide +kernel
theorem dX0_makeWish_13 : decode cX0_makeWish 13 = .ok (.aload_n 0, 1) := by decide +kernel
theorem dX0_makeWish_14 : decode cX0_makeWish 14 = .ok (.iconst 0, 1) := by decide +kernel
theorem dX0_makeWish_15 : decode cX0_makeWish 15 = .ok (.aload_n 0, 1) := by decide +kernel
theorem dX0_makeWish_16 : decode cX0_makeWish 16 = .ok (.getfield 28, 3) := by decide +kernel
theorem dX0_makeWish_19 : decode cX0_makeWish 19 = .ok (.iconst 1, 1) := by decide +kernel
theorem dX0_makeWish_20 : decode cX0_makeWish 20 = .ok (.isub, 1) := by decide +kernel
theorem dX0_makeWish_21 : decode cX0_makeWish 21 = .ok (.invokestatic 44, 3) := by decide +kernel
theorem dX0_makeWish_24 : decode cX0_makeWish 24 = .ok (.putfield 28, 3) := by decide +kernel
theorem dX0_makeWish_27 : decode cX0_makeWish 27 = .ok (.iconst 1, 1) := by decide +kernel
theorem dX0_makeWish_28 : decode cX0_makeWish 28 = .ok (.ireturn, 1) := by decide +kernel
theorem dX0_makeWish_29 : decode cX0_makeWish 29 = .ok (.aload_n 0, 1) := by decide +kernel
theorem dX0_makeWish_30 : decode cX0_makeWish 30 = .ok (.invokevirtual 31, 3) := by decide +kernel
theorem dX0_makeWish_33 : decode cX0_makeWish 33 = .ok (.ifCond .eq 21, 3) := by decide +kernel
theorem dX0_makeWish_36 : decode cX0_makeWish 36 = .ok (.aload_n 0, 1) := by decide +kernel
theorem dX0_makeWish_37 : decode cX0_makeWish 37 = .ok (.bipush 48, 2) := by decide +kernel
theorem dX0_makeWish_39 : decode cX0_makeWish 39 = .ok (.aload_n 0, 1) := by decide +kernel
theorem dX0_makeWish_40 : decode cX0_makeWish 40 = .ok (.getfield 25, 3) := by decide +kernel
theorem dX0_makeWish_43 : decode cX0_makeWish 43 = .ok (.iconst 1, 1) := by decide +kernel
theorem dX0_makeWish_44 : decode cX0_makeWish 44 = .ok (.iadd, 1) := by decide +kernel
theorem dX0_makeWish_45 : decode cX0_makeWish 45 = .ok (.invokestatic 58, 3) := by decide +kernel
theorem dX0_makeWish_48 : decode cX0_makeWish 48 = .ok (.putfield 25, 3) := by decide +kernel
theorem dX0_makeWish_51 : decode cX0_makeWish 51 = .ok (.goto 7, 3) := by decide +kernel
theorem dX0_makeWish_54 : decode cX0_makeWish 54 = .ok (.aload_n 0, 1) := by decide +kernel
theorem dX0_makeWish_55 : decode cX0_makeWish 55 = .ok (.invokevirtual 61, 3) := by decide +kernel
theorem dX0_makeWish_58 : decode cX0_makeWish 58 = .ok (.iconst 0, 1) := by decide +kernel
theorem dX0_makeWish_59 : decode cX0_makeWish 59 = .ok (.ireturn, 1) := by decide +kernel
theorem dX0_takeGrains_0 : decode cX0_takeGrains 0 = .ok (.aload_n 0, 1) := by decide +kernel
theorem dX0_takeGrains_1 : decode cX0_takeGrains 1 = .ok (.iload_n 1, 1) := by decide +kernel
theorem dX0_takeGrains_2 : decode cX0_takeGrains 2 = .ok (.invokevirtual 64, 3) := by decide +kernel
theorem dX0_takeGrains_5 : decode cX0_takeGrains 5 = .ok (.istore_n 2, 1) := by decide +kernel
theorem dX0_takeGrains_6 : decode cX0_takeGrains 6 = .ok (.aload_n 0, 1) := by decide +kernel
theorem dX0_takeGrains_7 : decode cX0_takeGrains 7 = .ok (.iconst 0, 1) := by decide +kernel
theorem dX0_takeGrains_8 : decode cX0_takeGrains 8 = .ok (.aload_n 0, 1) := by decide +kernel
theorem dX0_takeGrains_9 : decode cX0_takeGrains 9 = .ok (.getfield 22, 3) := by decide +kernel
theorem dX0_takeGrains_12 : decode cX0_takeGrains 12 = .ok (.iload_n 1, 1) := by decide +kernel
theorem dX0_takeGrains_13 : decode cX0_takeGrains 13 = .ok (.isub, 1) := by decide +kernel
theorem dX0_takeGrains_14 : decode cX0_takeGrains 14 = .ok (.invokestatic 44, 3) := by decide +kernel
theorem dX0_takeGrains_17 : decode cX0_takeGrains 17 = .ok (.putfield 22, 3) := by decide +kernel
theorem dX0_takeGrains_20 : decode cX0_takeGrains 20 = .ok (.aload_n 0, 1) := by decide +kernel
theorem dX0_takeGrains_21 : decode cX0_takeGrains 21 = .ok (.getfield 9, 3) := by decide +kernel
theorem dX0_takeGrains_24 : decode cX0_takeGrains 24 = .ok (.iload_n 2, 1) := by decide +kernel
theorem dX0_takeGrains_25 : decode cX0_takeGrains 25 = .ok (.putfield 35, 3) := by decide +kernel
theorem dX0_takeGrains_28 : decode cX0_takeGrains 28 = .ok (.return_, 1) := by decide +kernel
theorem dX0_takeMark_0 : decode cX0_takeMark 0 = .ok (.aload_n 0, 1) := by decide +kernel
theorem dX0_takeMark_1 : decode cX0_takeMark 1 = .ok (.dup, 1) := by decide +kernel
theorem dX0_takeMark_2 : decode cX0_takeMark 2 = .ok (.getfield 28, 3) := by decide +kernel
theorem dX0_takeMark_5 : decode cX0_takeMark 5 = .ok (.iconst 1, 1) := by decide +kernel
theorem dX0_takeMark_6 : decode cX0_takeMark 6 = .ok (.iadd, 1) := by decide +kernel
theorem dX0_takeMark_7 : decode cX0_takeMark 7 = .ok (.putfield 28, 3) := by decide +kernel
theorem dX0_takeMark_10 : decode cX0_takeMark 10 = .ok (.aload_n 0, 1) := by decide +kernel
theorem dX0_takeMark_11 : decode cX0_takeMark 11 = .ok (.getfield 28, 3) := by decide +kernel
theorem dX0_takeMark_14 : decode cX0_takeMark 14 = .ok (.iconst 3, 1) := by decide +kernel
theorem dX0_takeMark_15 : decode cX0_takeMark 15 = .ok (.if_icmp .lt 31, 3) := by decide +kernel
theorem dX0_takeMark_18 : decode cX0_takeMark 18 = .ok (.aload_n 0, 1) := by decide +kernel
theorem dX0_takeMark_19 : decode cX0_takeMark 19 = .ok (.aload_n 0, 1) := by decide +kernel
theorem dX0_takeMark_20 : decode cX0_takeMark 20 = .ok (.getfield 19, 3) := by decide +kernel
theorem dX0_takeMark_23 : decode cX0_takeMark 23 = .ok (.putfield 25, 3) := by decide +kernel
theorem dX0_takeMark_26 : decode cX0_takeMark 26 = .ok (.aload_n 0, 1) := by decide +kernel
theorem dX0_takeMark_27 : decode cX0_takeMark 27 = .ok (.bipush 32, 2) := by decide +kernel
theorem dX0_takeMark_29 : decode cX0_takeMark 29 = .ok (.aload_n 0, 1) := by decide +kernel
theorem dX0_takeMark_30 : decode cX0_takeMark 30 = .ok (.getfield 19, 3) := by decide +kernel
theorem dX0_takeMark_33 : decode cX0_takeMark 33 = .ok (.iconst 2, 1) := by decide +kernel
theorem dX0_takeMark_34 : decode cX0_takeMark 34 = .ok (.imul, 1) := by decide +kernel
theorem dX0_takeMark_35 : decode cX0_takeMark 35 = .ok (.invokestatic 58, 3) := by decide +kernel
theorem dX0_takeMark_38 : decode cX0_takeMark 38 = .ok (.putfield 19, 3) := by decide +kernel
theorem dX0_takeMark_41 : decode cX0_takeMark 41 = .ok (.aload_n 0, 1) := by decide +kernel
theorem dX0_takeMark_42 : decode cX0_takeMark 42 = .ok (.iconst 0, 1) := by decide +kernel
theorem dX0_takeMark_43 : decode cX0_takeMark 43 = .ok (.putfield 28, 3) := by decide +kernel
theorem dX0_takeMark_46 : decode cX0_takeMark 46 = .ok (.return_, 1) := by decide +kernel
theorem dX0_letOff_0 : decode cX0_letOff 0 = .ok (.aload_n 0, 1) := by decide +kernel
theorem dX0_letOff_1 : decode cX0_letOff 1 = .ok (.getfield 25, 3) := by decide +kernel
theorem dX0_letOff_4 : decode cX0_letOff 4 = .ok (.istore_n 1, 1) := by decide +kernel
theorem dX0_letOff_5 : decode cX0_letOff 5 = .ok (.aload_n 0, 1) := by decide +kernel
theorem dX0_letOff_6 : decode cX0_letOff 6 = .ok (.iconst 0, 1) := by decide +kernel
theorem dX0_letOff_7 : decode cX0_letOff 7 = .ok (.putfield 25, 3) := by decide +kernel
theorem dX0_letOff_10 : decode cX0_letOff 10 = .ok (.aload_n 0, 1) := by decide +kernel
theorem dX0_letOff_11 : decode cX0_letOff 11 = .ok (.iconst 0, 1) := by decide +kernel
theorem dX0_letOff_12 : decode cX0_letOff 12 = .ok (.putfield 28, 3) := by decide +kernel
theorem dX0_letOff_15 : decode cX0_letOff 15 = .ok (.iload_n 1, 1) := by decide +kernel
theorem dX0_letOff_16 : decode cX0_letOff 16 = .ok (.ireturn, 1) := by decide +kernel
theorem dX0_liveTo_0 : decode cX0_liveTo 0 = .ok (.aload_n 0, 1) := by decide +kernel
theorem dX0_liveTo_1 : decode cX0_liveTo 1 = .ok (.iconst 0, 1) := by decide +kernel
theorem dX0_liveTo_2 : decode cX0_liveTo 2 = .ok (.aload_n 0, 1) := by decide +kernel
theorem dX0_liveTo_3 : decode cX0_liveTo 3 = .ok (.getfield 25, 3) := by decide +kernel
theorem dX0_liveTo_6 : decode cX0_liveTo 6 = .ok (.iconst 1, 1) := by decide +kernel
theorem dX0_liveTo_7 : decode cX0_liveTo 7 = .ok (.isub, 1) := by decide +kernel
theorem dX0_liveTo_8 : decode cX0_liveTo 8 = .ok (.invokestatic 44, 3) := by decide +kernel
theorem dX0_liveTo_11 : decode cX0_liveTo 11 = .ok (.putfield 25, 3) := by decide +kernel
theorem dX0_liveTo_14 : decode cX0_liveTo 14 = .ok (.iload_n 1, 1) := by decide +kernel
theorem dX0_liveTo_15 : decode cX0_liveTo 15 = .ok (.bipush 24, 2) := by decide +kernel
theorem dX0_liveTo_17 : decode cX0_liveTo 17 = .ok (.irem, 1) := by decide +kernel
theorem dX0_liveTo_18 : decode cX0_liveTo 18 = .ok (.ifCond .ne 11, 3) := by decide +kernel
theorem dX0_liveTo_21 : decode cX0_liveTo 21 = .ok (.aload_n 0, 1) := by decide +kernel
theorem dX0_liveTo_22 : decode cX0_liveTo 22 = .ok (.iload_n 1, 1) := by decide +kernel
theorem dX0_liveTo_23 : decode cX0_liveTo 23 = .ok (.bipush 24, 2) := by decide +kernel
theorem dX0_liveTo_25 : decode cX0_liveTo 25 = .ok (.idiv, 1) := by decide +kernel
theorem dX0_liveTo_26 : decode cX0_liveTo 26 = .ok (.invokevirtual 68, 3) := by decide +kernel
theorem dX0_liveTo_29 : decode cX0_liveTo 29 = .ok (.return_, 1) := by decide +kernel
theorem dX0_beginDay_0 : decode cX0_beginDay 0 = .ok (.aload_n 0, 1) := by decide +kernel
theorem dX0_beginDay_1 : decode cX0_beginDay 1 = .ok (.iload_n 1, 1) := by decide +kernel
theorem dX0_beginDay_2 : decode cX0_beginDay 2 = .ok (.bipush 30, 2) := by decide +kernel
theorem dX0_beginDay_4 : decode cX0_beginDay 4 = .ok (.irem, 1) := by decide +kernel
theorem dX0_beginDay_5 : decode cX0_beginDay 5 = .ok (.aload_n 0, 1) := by decide +kernel
theorem dX0_beginDay_6 : decode cX0_beginDay 6 = .ok (.getfield 15, 3) := by decide +kernel
theorem dX0_beginDay_9 : decode cX0_beginDay 9 = .ok (.if_icmp .ne 8, 3) := by decide +kernel
theorem dX0_beginDay_12 : decode cX0_beginDay 12 = .ok (.bipush 12, 2) := by decide +kernel
theorem dX0_beginDay_14 : decode cX0_beginDay 14 = .ok (.goto 4, 3) := by decide +kernel
theorem dX0_beginDay_17 : decode cX0_beginDay 17 = .ok (.iconst 0, 1) := by decide +kernel
theorem dX0_beginDay_18 : decode cX0_beginDay 18 = .ok (.putfield 22, 3) := by decide +kernel
theorem dX0_beginDay_21 : decode cX0_beginDay 21 = .ok (.return_, 1) := by decide +kernel
theorem dX1_init_0 : decode cX1_init 0 = .ok (.aload_n 0, 1) := by decide +kernel
theorem dX1_init_1 : decode cX1_init 1 = .ok (.invokespecial 1, 3) := by decide +kernel
theorem dX1_init_4 : decode cX1_init 4 = .ok (.aload_n 0, 1) := by decide +kernel
theorem dX1_init_5 : decode cX1_init 5 = .ok (.iload_n 1, 1) := by decide +kernel
theorem dX1_init_6 : decode cX1_init 6 = .ok (.putfield 7, 3) := by decide +kernel
theorem dX1_init_9 : decode cX1_init 9 = .ok (.aload_n 0, 1) := by decide +kernel
theorem dX1_init_10 : decode cX1_init 10 = .ok (.iload_n 2, 1) := by decide +kernel
theorem dX1_init_11 : decode cX1_init 11 = .ok (.putfield 13, 3) := by decide +kernel
theorem dX1_init_14 : decode cX1_init 14 = .ok (.aload_n 0, 1) := by decide +kernel
theorem dX1_init_15 : decode cX1_init 15 = .ok (.iload_n 3, 1) := by decide +kernel
theorem dX1_init_16 : decode cX1_init 16 = .ok (.putfield 16, 3) := by decide +kernel
theorem dX1_init_19 : decode cX1_init 19 = .ok (.aload_n 0, 1) := by decide +kernel
theorem dX1_init_20 : decode cX1_init 20 = .ok (.iload_n 2, 1) := by decide +kernel
theorem dX1_init_21 : decode cX1_init 21 = .ok (.putfield 19, 3) := by decide +kernel
theorem dX1_init_24 : decode cX1_init 24 = .ok (.return_, 1) := by decide +kernel
theorem dX1_copyFrom_0 : decode cX1_copyFrom 0 = .ok (.aload_n 0, 1) := by decide +kernel
theorem dX1_copyFrom_1 : decode cX1_copyFrom 1 = .ok (.aload_n 1, 1) := by decide +kernel
theorem dX1_copyFrom_2 : decode cX1_copyFrom 2 = .ok (.getfield 7, 3) := by decide +kernel
theorem dX1_copyFrom_5 : decode cX1_copyFrom 5 = .ok (.putfield 7, 3) := by decide +kernel
theorem dX1_copyFrom_8 : decode cX1_copyFrom 8 = .ok (.aload_n 0, 1) := by decide +kernel
theorem dX1_copyFrom_9 : decode cX1_copyFrom 9 = .ok (.aload_n 1, 1) := by decide +kernel
theorem dX1_copyFrom_10 : decode cX1_copyFrom 10 = .ok (.getfield 13, 3) := by decide +kernel
theorem dX1_copyFrom_13 : decode cX1_copyFrom 13 = .ok (.putfield 13, 3) := by decide +kernel
theorem dX1_copyFrom_16 : decode cX1_copyFrom 16 = .ok (.aload_n 0, 1) := by decide +kernel
theorem dX1_copyFrom_17 : decode cX1_copyFrom 17 = .ok (.aload_n 1, 1) := by decide +kernel
theorem dX1_copyFrom_18 : decode cX1_copyFrom 18 = .ok (.getfield 16, 3) := by decide +kernel
theorem dX1_copyFrom_21 : decode cX1_copyFrom 21 = .ok (.putfield 16, 3) := by decide +kernel
theorem dX1_copyFrom_24 : decode cX1_copyFrom 24 = .ok (.aload_n 0, 1) := by decide +kernel
theorem dX1_copyFrom_25 : decode cX1_copyFrom 25 = .ok (.aload_n 1, 1) := by decide +kernel
theorem dX1_copyFrom_26 : decode cX1_copyFrom 26 = .ok (.getfield 19, 3) := by decide +kernel
theorem dX1_copyFrom_29 : decode cX1_copyFrom 29 = .ok (.putfield 19, 3) := by decide +kernel
theorem dX1_copyFrom_32 : decode cX1_copyFrom 32 = .ok (.return_, 1) := by decide +kernel
theorem dX1_letFall_0 : decode cX1_letFall 0 = .ok (.aload_n 0, 1) := by decide +kernel
theorem dX1_letFall_1 : decode cX1_letFall 1 = .ok (.getfield 16, 3) := by decide +kernel
theorem dX1_letFall_4 : decode cX1_letFall 4 = .ok (.aload_n 0, 1) := by decide +kernel
theorem dX1_letFall_5 : decode cX1_letFall 5 = .ok (.getfield 13, 3) := by decide +kernel
theorem dX1_letFall_8 : decode cX1_letFall 8 = .ok (.aload_n 0, 1) := by decide +kernel
theorem dX1_letFall_9 : decode cX1_letFall 9 = .ok (.getfield 19, 3) := by decide +kernel
theorem dX1_letFall_12 : decode cX1_letFall 12 = .ok (.isub, 1) := by decide +kernel
theorem dX1_letFall_13 : decode cX1_letFall 13 = .ok (.invokestatic 22, 3) := by decide +kernel
theorem dX1_letFall_16 : decode cX1_letFall 16 = .ok (.istore_n 1, 1) := by decide +kernel
theorem dX1_letFall_17 : decode cX1_letFall 17 = .ok (.aload_n 0, 1) := by decide +kernel
theorem dX1_letFall_18 : decode cX1_letFall 18 = .ok (.dup, 1) := by decide +kernel
theorem dX1_letFall_19 : decode cX1_letFall 19 = .ok (.getfield 19, 3) := by decide +kernel
theorem dX1_letFall_22 : decode cX1_letFall 22 = .ok (.iload_n 1, 1) := by decide +kernel
theorem dX1_letFall_23 : decode cX1_letFall 23 = .ok (.iadd, 1) := by decide +kernel
theorem dX1_letFall_24 : decode cX1_letFall 24 = .ok (.putfield 19, 3) := by decide +kernel
theorem dX1_letFall_27 : decode cX1_letFall 27 = .ok (.iload_n 1, 1) := by decide +kernel
theorem dX1_letFall_28 : decode cX1_letFall 28 = .ok (.ireturn, 1) := by decide +kernel
theorem dX1_isFullAfter_0 : decode cX1_isFullAfter 0 = .ok (.aload_n 0, 1) := by decide +kernel
theorem dX1_isFullAfter_1 : decode cX1_isFullAfter 1 = .ok (.getfield 19, 3) := by decide +kernel
theorem dX1_isFullAfter_4 : decode cX1_isFullAfter 4 = .ok (.aload_n 0, 1) := by decide +kernel
theorem dX1_isFullAfter_5 : decode cX1_isFullAfter 5 = .ok (.getfield 16, 3) := by decide +kernel
theorem dX1_isFullAfter_8 : decode cX1_isFullAfter 8 = .ok (.iload_n 1, 1) := by decide +kernel
theorem dX1_isFullAfter_9 : decode cX1_isFullAfter 9 = .ok (.imul, 1) := by decide +kernel
theorem dX1_isFullAfter_10 : decode cX1_isFullAfter 10 = .ok (.iadd, 1) := by decide +kernel
theorem dX1_isFullAfter_11 : decode cX1_isFullAfter 11 = .ok (.aload_n 0, 1) := by decide +kernel
theorem dX1_isFullAfter_12 : decode cX1_isFullAfter 12 = .ok (.getfield 13, 3) := by decide +kernel
theorem dX1_isFullAfter_15 : decode cX1_isFullAfter 15 = .ok (.if_icmp .lt 7, 3) := by decide +kernel
theorem dX1_isFullAfter_18 : decode cX1_isFullAfter 18 = .ok (.iconst 1, 1) := by decide +kernel
theorem dX1_isFullAfter_19 : decode cX1_isFullAfter 19 = .ok (.goto 4, 3) := by decide +kernel
theorem dX1_isFullAfter_22 : decode cX1_isFullAfter 22 = .ok (.iconst 0, 1) := by decide +kernel
theorem dX1_isFullAfter_23 : decode cX1_isFullAfter 23 = .ok (.ireturn, 1) := by decide +kernel
theorem dX2_init_0 : decode cX2_init 0 = .ok (.aload_n 0, 1) := by decide +kernel
theorem dX2_init_1 : decode cX2_init 1 = .ok (.invokespecial 1, 3) := by decide +kernel
theorem dX2_init_4 : decode cX2_init 4 = .ok (.aload_n 0, 1) := by decide +kernel
theorem dX2_init_5 : decode cX2_init 5 = .ok (.new 7, 3) := by decide +kernel
theorem dX2_init_8 : decode cX2_init 8 = .ok (.dup, 1) := by decide +kernel
theorem dX2_init_9 : decode cX2_init 9 = .ok (.invokespecial 9, 3) := by decide +kernel
theorem dX2_init_12 : decode cX2_init 12 = .ok (.putfield 10, 3) := by decide +kernel
theorem dX2_init_15 : decode cX2_init 15 = .ok (.aload_n 0, 1) := by decide +kernel
theorem dX2_init_16 : decode cX2_init 16 = .ok (.new 7, 3) := by decide +kernel
theorem dX2_init_19 : decode cX2_init 19 = .ok (.dup, 1) := by decide +kernel
theorem dX2_init_20 : decode cX2_init 20 = .ok (.invokespecial 9, 3) := by decide +kernel
theorem dX2_init_23 : decode cX2_init 23 = .ok (.putfield 16, 3) := by decide +kernel
theorem dX2_init_26 : decode cX2_init 26 = .ok (.aload_n 0, 1) := by decide +kernel
theorem dX2_init_27 : decode cX2_init 27 = .ok (.new 19, 3) := by decide +kernel
theorem dX2_init_30 : decode cX2_init 30 = .ok (.dup, 1) := by decide +kernel
theorem dX2_init_31 : decode cX2_init 31 = .ok (.iconst 0, 1) := by decide +kernel
theorem dX2_init_32 : decode cX2_init 32 = .ok (.iconst 0, 1) := by decide +kernel
theorem dX2_init_33 : decode cX2_init 33 = .ok (.iconst 0, 1) := by decide +kernel
theorem dX2_init_34 : decode cX2_init 34 = .ok (.invokespecial 21, 3) := by decide +kernel
theorem dX2_init_37 : decode cX2_init 37 = .ok (.putfield 24, 3) := by decide +kernel
theorem dX2_init_40 : decode cX2_init 40 = .ok (.aload_n 0, 1) := by decide +kernel
theorem dX2_init_41 : decode cX2_init 41 = .ok (.new 28, 3) := by decide +kernel
theorem dX2_init_44 : decode cX2_init 44 = .ok (.dup, 1) := by decide +kernel
theorem dX2_init_45 : decode cX2_init 45 = .ok (.aload_n 0, 1) := by decide +kernel
theorem dX2_init_46 : decode cX2_init 46 = .ok (.getfield 24, 3) := by decide +kernel
theorem dX2_init_49 : decode cX2_init 49 = .ok (.iconst 0, 1) := by decide +kernel
theorem dX2_init_50 : decode cX2_init 50 = .ok (.invokespecial 30, 3) := by decide +kernel
theorem dX2_init_53 : decode cX2_init 53 = .ok (.putfield 33, 3) := by decide +kernel
theorem dX2_init_56 : decode cX2_init 56 = .ok (.return_, 1) := by decide +kernel
theorem dX2_addWand_0 : decode cX2_addWand 0 = .ok (.iload_n 1, 1) := by decide +kernel
theorem dX2_addWand_1 : decode cX2_addWand 1 = .ok (.iconst 1, 1) := by decide +kernel
theorem dX2_addWand_2 : decode cX2_addWand 2 = .ok (.bipush 60, 2) := by decide +kernel
theorem dX2_addWand_4 : decode cX2_addWand 4 = .ok (.invokestatic 37, 3) := by decide +kernel
theorem dX2_addWand_7 : decode cX2_addWand 7 = .ok (.iload_n 2, 1) := by decide +kernel
theorem dX2_addWand_8 : decode cX2_addWand 8 = .ok (.iconst 0, 1) := by decide +kernel
theorem dX2_addWand_9 : decode cX2_addWand 9 = .ok (.bipush 9, 2) := by decide +kernel
theorem dX2_addWand_11 : decode cX2_addWand 11 = .ok (.invokestatic 37, 3) := by decide +kernel
theorem dX2_addWand_14 : decode cX2_addWand 14 = .ok (.aload_n 0, 1) := by decide +kernel
theorem dX2_addWand_15 : decode cX2_addWand 15 = .ok (.getfield 10, 3) := by decide +kernel
theorem dX2_addWand_18 : decode cX2_addWand 18 = .ok (.invokevirtual 40, 3) := by decide +kernel
theorem dX2_addWand_21 : decode cX2_addWand 21 = .ok (.istore_n 3, 1) := by decide +kernel
theorem dX2_addWand_22 : decode cX2_addWand 22 = .ok (.iload_n 3, 1) := by decide +kernel
theorem dX2_addWand_23 : decode cX2_addWand 23 = .ok (.iconst 4, 1) := by decide +kernel
theorem dX2_addWand_24 : decode cX2_addWand 24 = .ok (.if_icmp .lt 13, 3) := by decide +kernel
theorem dX2_addWand_27 : decode cX2_addWand 27 = .ok (.new 44, 3) := by decide +kernel
theorem dX2_addWand_30 : decode cX2_addWand 30 = .ok (.dup, 1) := by decide +kernel
theorem dX2_addWand_31 : decode cX2_addWand 31 = .ok (.ldc 46, 2) := by decide +kernel
theorem dX2_addWand_33 : decode cX2_addWand 33 = .ok (.invokespecial 48, 3) := by decide +kernel
theorem dX2_addWand_36 : decode cX2_addWand 36 = .ok (.athrow, 1) := by decide +kernel
theorem dX2_addWand_37 : decode cX2_addWand 37 = .ok (.aload_n 0, 1) := by decide +kernel
theorem dX2_addWand_38 : decode cX2_addWand 38 = .ok (.getfield 10, 3) := by decide +kernel
theorem dX2_addWand_41 : decode cX2_addWand 41 = .ok (.new 19, 3) := by decide +kernel
theorem dX2_addWand_44 : decode cX2_addWand 44 = .ok (.dup, 1) := by decide +kernel
theorem dX2_addWand_45 : decode cX2_addWand 45 = .ok (.iload_n 3, 1) := by decide +kernel
theorem dX2_addWand_46 : decode cX2_addWand 46 = .ok (.iload_n 1, 1) := by decide +kernel
theorem dX2_addWand_47 : decode cX2_addWand 47 = .ok (.iload_n 2, 1) := by decide +kernel
theorem dX2_addWand_48 : decode cX2_addWand 48 = .ok (.invokespecial 21, 3) := by decide +kernel
theorem dX2_addWand_51 : decode cX2_addWand 51 = .ok (.invokevirtual 51, 3) := by decide +kernel
theorem dX2_addWand_54 : decode cX2_addWand 54 = .ok (.pop, 1) := by decide +kernel
theorem dX2_addWand_55 : decode cX2_addWand 55 = .ok (.iload_n 3, 1) := by decide +kernel
theorem dX2_addWand_56 : decode cX2_addWand 56 = .ok (.ireturn, 1) := by decide +kernel
theorem dX2_addChild_0 : decode cX2_addChild 0 = .ok (.aload_n 0, 1) := by decide +kernel
theorem dX2_addChild_1 : decode cX2_addChild 1 = .ok (.iload_n 1, 1) := by decide +kernel
theorem dX2_addChild_2 : decode cX2_addChild 2 = .ok (.invokevirtual 55, 3) := by decide +kernel
theorem dX2_addChild_5 : decode cX2_addChild 5 = .ok (.astore_n 3, 1) := by decide +kernel
theorem dX2_addChild_6 : decode cX2_addChild 6 = .ok (.iload_n 2, 1) := by decide +kernel
theorem dX2_addChild_7 : decode cX2_addChild 7 = .ok (.iconst 0, 1) := by decide +kernel
theorem dX2_addChild_8 : decode cX2_addChild 8 = .ok (.bipush 29, 2) := by decide +kernel
theorem dX2_addChild_10 : decode cX2_addChild 10 = .ok (.invokestatic 37, 3) := by decide +kernel
theorem dX2_addChild_13 : decode cX2_addChild 13 = .ok (.aload_n 0, 1) := by decide +kernel
theorem dX2_addChild_14 : decode cX2_addChild 14 = .ok (.getfield 16, 3) := by decide +kernel
theorem dX2_addChild_17 : decode cX2_addChild 17 = .ok (.invokevirtual 40, 3) := by decide +kernel
theorem dX2_addChild_20 : decode cX2_addChild 20 = .ok (.istore 4, 2) := by decide +kernel
theorem dX2_addChild_22 : decode cX2_addChild 22 = .ok (.iload 4, 2) := by decide +kernel
theorem dX2_addChild_24 : decode cX2_addChild 24 = .ok (.bipush 10, 2) := by decide +kernel
theorem dX2_addChild_26 : decode cX2_addChild 26 = .ok (.if_icmp .lt 13, 3) := by decide +kernel
theorem dX2_addChild_29 : decode cX2_addChild 29 = .ok (.new 44, 3) := by decide +kernel
theorem dX2_addChild_32 : decode cX2_addChild 32 = .ok (.dup, 1) := by decide +kernel
theorem dX2_addChild_33 : decode cX2_addChild 33 = .ok (.ldc 59, 2) := by decide +kernel
theorem dX2_addChild_35 : decode cX2_addChild 35 = .ok (.invokespecial 48, 3) := by decide +kernel
theorem dX2_addChild_38 : decode cX2_addChild 38 = .ok (.athrow, 1) := by decide +kernel
theorem dX2_addChild_39 : decode cX2_addChild 39 = .ok (.new 28, 3) := by decide +kernel
theorem dX2_addChild_42 : decode cX2_addChild 42 = .ok (.dup, 1) := by decide +kernel
theorem dX2_addChild_43 : decode cX2_addChild 43 = .ok (.aload_n 3, 1) := by decide +kernel
theorem dX2_addChild_44 : decode cX2_addChild 44 = .ok (.iload_n 2, 1) := by decide +kernel
theorem dX2_addChild_45 : decode cX2_addChild 45 = .ok (.invokespecial 30, 3) := by decide +kernel
theorem dX2_addChild_48 : decode cX2_addChild 48 = .ok (.astore 5, 2) := by decide +kernel
theorem dX2_addChild_50 : decode cX2_addChild 50 = .ok (.aload 5, 2) := by decide +kernel
theorem dX2_addChild_52 : decode cX2_addChild 52 = .ok (.aload_n 0, 1) := by decide +kernel
theorem dX2_addChild_53 : decode cX2_addChild 53 = .ok (.invokevirtual 61, 3) := by decide +kernel
theorem dX2_addChild_56 : decode cX2_addChild 56 = .ok (.invokevirtual 64, 3) := by decide +kernel
theorem dX2_addChild_59 : decode cX2_addChild 59 = .ok (.aload_n 0, 1) := by decide +kernel
theorem dX2_addChild_60 : decode cX2_addChild 60 = .ok (.getfield 16, 3) := by decide +kernel
theorem dX2_addChild_63 : decode cX2_addChild 63 = .ok (.aload 5, 2) := by decide +kernel
theorem dX2_addChild_65 : decode cX2_addChild 65 = .ok (.invokevirtual 51, 3) := by decide +kernel
theorem dX2_addChild_68 : decode cX2_addChild 68 = .ok (.pop, 1) := by decide +kernel
theorem dX2_addChild_69 : decode cX2_addChild 69 = .ok (.iload 4, 2) := by decide +kernel
theorem dX2_addChild_71 : decode cX2_addChild 71 = .ok (.ireturn, 1) := by decide +kernel
theorem dX2_give_0 : decode cX2_give 0 = .ok (.aload_n 0, 1) := by decide +kernel
theorem dX2_give_1 : decode cX2_give 1 = .ok (.iload_n 1, 1) := by decide +kernel
theorem dX2_give_2 : decode cX2_give 2 = .ok (.invokevirtual 68, 3) := by decide +kernel
theorem dX2_give_5 : decode cX2_give 5 = .ok (.astore_n 3, 1) := by decide +kernel
theorem dX2_give_6 : decode cX2_give 6 = .ok (.aload_n 0, 1) := by decide +kernel
theorem dX2_give_7 : decode cX2_give 7 = .ok (.iload_n 2, 1) := by decide +kernel
theorem dX2_give_8 : decode cX2_give 8 = .ok (.invokevirtual 55, 3) := by decide +kernel
theorem dX2_give_11 : decode cX2_give 11 = .ok (.astore 4, 2) := by decide +kernel
theorem dX2_give_13 : decode cX2_give 13 = .ok (.aload_n 3, 1) := by decide +kernel
theorem dX2_give_14 : decode cX2_give 14 = .ok (.getfield 72, 3) := by decide +kernel
theorem dX2_give_17 : decode cX2_give 17 = .ok (.getfield 75, 3) := by decide +kernel
theorem dX2_give_20 : decode cX2_give 20 = .ok (.istore 5, 2) := by decide +kernel
theorem dX2_give_22 : decode cX2_give 22 = .ok (.aload_n 3, 1) := by decide +kernel
theorem dX2_give_23 : decode cX2_give 23 = .ok (.aload 4, 2) := by decide +kernel
theorem dX2_give_25 : decode cX2_give 25 = .ok (.putfield 72, 3) := by decide +kernel
theorem dX2_give_28 : decode cX2_give 28 = .ok (.iload 5, 2) := by decide +kernel
theorem dX2_give_30 : decode cX2_give 30 = .ok (.ireturn, 1) := by decide +kernel
theorem dX2_setFall_0 : decode cX2_setFall 0 = .ok (.aload_n 0, 1) := by decide +kernel
theorem dX2_setFall_1 : decode cX2_setFall 1 = .ok (.iload_n 1, 1) := by decide +kernel
theorem dX2_setFall_2 : decode cX2_setFall 2 = .ok (.invokevirtual 55, 3) := by decide +kernel
theorem dX2_setFall_5 : decode cX2_setFall 5 = .ok (.astore_n 3, 1) := by decide +kernel
theorem dX2_setFall_6 : decode cX2_setFall 6 = .ok (.iload_n 2, 1) := by decide +kernel
theorem dX2_setFall_7 : decode cX2_setFall 7 = .ok (.iconst 0, 1) := by decide +kernel
theorem dX2_setFall_8 : decode cX2_setFall 8 = .ok (.bipush 9, 2) := by decide +kernel
theorem dX2_setFall_10 : decode cX2_setFall 10 = .ok (.invokestatic 37, 3) := by decide +kernel
theorem dX2_setFall_13 : decode cX2_setFall 13 = .ok (.aload_n 3, 1) := by decide +kernel
theorem dX2_setFall_14 : decode cX2_setFall 14 = .ok (.getfield 79, 3) := by decide +kernel
theorem dX2_setFall_17 : decode cX2_setFall 17 = .ok (.istore 4, 2) := by decide +kernel
theorem dX2_setFall_19 : decode cX2_setFall 19 = .ok (.aload_n 3, 1) := by decide +kernel
theorem dX2_setFall_20 : decode cX2_setFall 20 = .ok (.iload_n 2, 1) := by decide +kernel
theorem dX2_setFall_21 : decode cX2_setFall 21 = .ok (.putfield 79, 3) := by decide +kernel
theorem dX2_setFall_24 : decode cX2_setFall 24 = .ok (.iload 4, 2) := by decide +kernel
theorem dX2_setFall_26 : decode cX2_setFall 26 = .ok (.ireturn, 1) := by decide +kernel
theorem dX2_wish_0 : decode cX2_wish 0 = .ok (.aload_n 0, 1) := by decide +kernel
theorem dX2_wish_1 : decode cX2_wish 1 = .ok (.iload_n 1, 1) := by decide +kernel
theorem dX2_wish_2 : decode cX2_wish 2 = .ok (.invokevirtual 68, 3) := by decide +kernel
theorem dX2_wish_5 : decode cX2_wish 5 = .ok (.astore_n 3, 1) := by decide +kernel
theorem dX2_wish_6 : decode cX2_wish 6 = .ok (.iload_n 2, 1) := by decide +kernel
theorem dX2_wish_7 : decode cX2_wish 7 = .ok (.invokestatic 82, 3) := by decide +kernel
theorem dX2_wish_10 : decode cX2_wish 10 = .ok (.aload_n 3, 1) := by decide +kernel
theorem dX2_wish_11 : decode cX2_wish 11 = .ok (.iload_n 2, 1) := by decide +kernel
theorem dX2_wish_12 : decode cX2_wish 12 = .ok (.invokevirtual 85, 3) := by decide +kernel
theorem dX2_wish_15 : decode cX2_wish 15 = .ok (.istore 4, 2) := by decide +kernel
theorem dX2_wish_17 : decode cX2_wish 17 = .ok (.iload 4, 2) := by decide +kernel
theorem dX2_wish_19 : decode cX2_wish 19 = .ok (.ifCond .eq 16, 3) := by decide +kernel
theorem dX2_wish_22 : decode cX2_wish 22 = .ok (.aload_n 0, 1) := by decide +kernel
theorem dX2_wish_23 : decode cX2_wish 23 = .ok (.dup, 1) := by decide +kernel
theorem dX2_wish_24 : decode cX2_wish 24 = .ok (.getfield 89, 3) := by decide +kernel
theorem dX2_wish_27 : decode cX2_wish 27 = .ok (.iconst 1, 1) := by decide +kernel
theorem dX2_wish_28 : decode cX2_wish 28 = .ok (.iadd, 1) := by decide +kernel
theorem dX2_wish_29 : decode cX2_wish 29 = .ok (.putfield 89, 3) := by decide +kernel
theorem dX2_wish_32 : decode cX2_wish 32 = .ok (.goto 13, 3) := by decide +kernel
theorem dX2_wish_35 : decode cX2_wish 35 = .ok (.aload_n 0, 1) := by decide +kernel
theorem dX2_wish_36 : decode cX2_wish 36 = .ok (.dup, 1) := by decide +kernel
theorem dX2_wish_37 : decode cX2_wish 37 = .ok (.getfield 92, 3) := by decide +kernel
theorem dX2_wish_40 : decode cX2_wish 40 = .ok (.iconst 1, 1) := by decide +kernel
theorem dX2_wish_41 : decode cX2_wish 41 = .ok (.iadd, 1) := by decide +kernel
theorem dX2_wish_42 : decode cX2_wish 42 = .ok (.putfield 92, 3) := by decide +kernel
theorem dX2_wish_45 : decode cX2_wish 45 = .ok (.iload 4, 2) := by decide +kernel
theorem dX2_wish_47 : decode cX2_wish 47 = .ok (.ireturn, 1) := by decide +kernel
theorem dX2_forgive_0 : decode cX2_forgive 0 = .ok (.aload_n 0, 1) := by decide +kernel
theorem dX2_forgive_1 : decode cX2_forgive 1 = .ok (.iload_n 1, 1) := by decide +kernel
theorem dX2_forgive_2 : decode cX2_forgive 2 = .ok (.invokevirtual 68, 3) := by decide +kernel
theorem dX2_forgive_5 : decode cX2_forgive 5 = .ok (.invokevirtual 95, 3) := by decide +kernel
theorem dX2_forgive_8 : decode cX2_forgive 8 = .ok (.ireturn, 1) := by decide +kernel
theorem dX2_pass_0 : decode cX2_pass 0 = .ok (.iload_n 1, 1) := by decide +kernel
theorem dX2_pass_1 : decode cX2_pass 1 = .ok (.iconst 1, 1) := by decide +kernel
theorem dX2_pass_2 : decode cX2_pass 2 = .ok (.bipush 100, 2) := by decide +kernel
theorem dX2_pass_4 : decode cX2_pass 4 = .ok (.invokestatic 37, 3) := by decide +kernel
theorem dX2_pass_7 : decode cX2_pass 7 = .ok (.iconst 0, 1) := by decide +kernel
theorem dX2_pass_8 : decode cX2_pass 8 = .ok (.istore_n 2, 1) := by decide +kernel
theorem dX2_pass_9 : decode cX2_pass 9 = .ok (.iconst 0, 1) := by decide +kernel
theorem dX2_pass_10 : decode cX2_pass 10 = .ok (.istore_n 3, 1) := by decide +kernel
theorem dX2_pass_11 : decode cX2_pass 11 = .ok (.iload_n 3, 1) := by decide +kernel
theorem dX2_pass_12 : decode cX2_pass 12 = .ok (.iload_n 1, 1) := by decide +kernel
theorem dX2_pass_13 : decode cX2_pass 13 = .ok (.if_icmp .ge 16, 3) := by decide +kernel
theorem dX2_pass_16 : decode cX2_pass 16 = .ok (.iload_n 2, 1) := by decide +kernel
theorem dX2_pass_17 : decode cX2_pass 17 = .ok (.aload_n 0, 1) := by decide +kernel
theorem dX2_pass_18 : decode cX2_pass 18 = .ok (.invokevirtual 98, 3) := by decide +kernel
theorem dX2_pass_21 : decode cX2_pass 21 = .ok (.iadd, 1) := by decide +kernel
theorem dX2_pass_22 : decode cX2_pass 22 = .ok (.istore_n 2, 1) := by decide +kernel
theorem dX2_pass_23 : decode cX2_pass 23 = .ok (.iinc 3 1, 3) := by decide +kernel
theorem dX2_pass_26 : decode cX2_pass 26 = .ok (.goto (-15), 3) := by decide +kernel
theorem dX2_pass_29 : decode cX2_pass 29 = .ok (.iload_n 2, 1) := by decide +kernel
theorem dX2_pass_30 : decode cX2_pass 30 = .ok (.ireturn, 1) := by decide +kernel
theorem dX2_hour_0 : decode cX2_hour 0 = .ok (.aload_n 0, 1) := by decide +kernel
theorem dX2_hour_1 : decode cX2_hour 1 = .ok (.getfield 101, 3) := by decide +kernel
theorem dX2_hour_4 : decode cX2_hour 4 = .ok (.ireturn, 1) := by decide +kernel
theorem dX2_day_0 : decode cX2_day 0 = .ok (.aload_n 0, 1) := by decide +kernel
theorem dX2_day_1 : decode cX2_day 1 = .ok (.getfield 101, 3) := by decide +kernel
theorem dX2_day_4 : decode cX2_day 4 = .ok (.bipush 24, 2) := by decide +kernel
theorem dX2_day_6 : decode cX2_day 6 = .ok (.idiv, 1) := by decide +kernel
theorem dX2_day_7 : decode cX2_day 7 = .ok (.ireturn, 1) := by decide +kernel
theorem dX2_wands_0 : decode cX2_wands 0 = .ok (.aload_n 0, 1) := by decide +kernel
theorem dX2_wands_1 : decode cX2_wands 1 = .ok (.getfield 10, 3) := by decide +kernel
theorem dX2_wands_4 : decode cX2_wands 4 = .ok (.invokevirtual 40, 3) := by decide +kernel
theorem dX2_wands_7 : decode cX2_wands 7 = .ok (.ireturn, 1) := by decide +kernel
theorem dX2_children_0 : decode cX2_children 0 = .ok (.aload_n 0, 1) := by decide +kernel
theorem dX2_children_1 : decode cX2_children 1 = .ok (.getfield 16, 3) := by decide +kernel
theorem dX2_children_4 : decode cX2_children 4 = .ok (.invokevirtual 40, 3) := by decide +kernel
theorem dX2_children_7 : decode cX2_children 7 = .ok (.ireturn, 1) := by decide +kernel
theorem dX2_granted_0 : decode cX2_granted 0 = .ok (.aload_n 0, 1) := by decide +kernel
theorem dX2_granted_1 : decode cX2_granted 1 = .ok (.getfield 89, 3) := by decide +kernel
theorem dX2_granted_4 : decode cX2_granted 4 = .ok (.ireturn, 1) := by decide +kernel
theorem dX2_denied_0 : decode cX2_denied 0 = .ok (.aload_n 0, 1) := by decide +kernel
theorem dX2_denied_1 : decode cX2_denied 1 = .ok (.getfield 92, 3) := by decide +kernel
theorem dX2_denied_4 : decode cX2_denied 4 = .ok (.ireturn, 1) := by decide +kernel
theorem dX2_punished_0 : decode cX2_punished 0 = .ok (.iconst 0, 1) := by decide +kernel
theorem dX2_punished_1 : decode cX2_punished 1 = .ok (.istore_n 1, 1) := by decide +kernel
theorem dX2_punished_2 : decode cX2_punished 2 = .ok (.iconst 0, 1) := by decide +kernel
theorem dX2_punished_3 : decode cX2_punished 3 = .ok (.istore_n 2, 1) := by decide +kernel
theorem dX2_punished_4 : decode cX2_punished 4 = .ok (.iload_n 2, 1) := by decide +kernel
theorem dX2_punished_5 : decode cX2_punished 5 = .ok (.aload_n 0, 1) := by decide +kernel
theorem dX2_punished_6 : decode cX2_punished 6 = .ok (.getfield 16, 3) := by decide +kernel
theorem dX2_punished_9 : decode cX2_punished 9 = .ok (.invokevirtual 40, 3) := by decide +kernel
theorem dX2_punished_12 : decode cX2_punished 12 = .ok (.if_icmp .ge 29, 3) := by decide +kernel
theorem dX2_punished_15 : decode cX2_punished 15 = .ok (.aload_n 0, 1) := by decide +kernel
theorem dX2_punished_16 : decode cX2_punished 16 = .ok (.getfield 16, 3) := by decide +kernel
theorem dX2_punished_19 : decode cX2_punished 19 = .ok (.iload_n 2, 1) := by decide +kernel
theorem dX2_punished_20 : decode cX2_punished 20 = .ok (.invokevirtual 104, 3) := by decide +kernel
theorem dX2_punished_23 : decode cX2_punished 23 = .ok (.checkcast 28, 3) := by decide +kernel
theorem dX2_punished_26 : decode cX2_punished 26 = .ok (.invokevirtual 108, 3) := by decide +kernel
theorem dX2_punished_29 : decode cX2_punished 29 = .ok (.ifCond .eq 6, 3) := by decide +kernel
theorem dX2_punished_32 : decode cX2_punished 32 = .ok (.iinc 1 1, 3) := by decide +kernel
theorem dX2_punished_35 : decode cX2_punished 35 = .ok (.iinc 2 1, 3) := by decide +kernel
theorem dX2_punished_38 : decode cX2_punished 38 = .ok (.goto (-34), 3) := by decide +kernel
theorem dX2_punished_41 : decode cX2_punished 41 = .ok (.iload_n 1, 1) := by decide +kernel
theorem dX2_punished_42 : decode cX2_punished 42 = .ok (.ireturn, 1) := by decide +kernel
theorem dX2_dustIn_0 : decode cX2_dustIn 0 = .ok (.aload_n 0, 1) := by decide +kernel
theorem dX2_dustIn_1 : decode cX2_dustIn 1 = .ok (.iload_n 1, 1) := by decide +kernel
theorem dX2_dustIn_2 : decode cX2_dustIn 2 = .ok (.invokevirtual 55, 3) := by decide +kernel
theorem dX2_dustIn_5 : decode cX2_dustIn 5 = .ok (.getfield 112, 3) := by decide +kernel
theorem dX2_dustIn_8 : decode cX2_dustIn 8 = .ok (.ireturn, 1) := by decide +kernel
theorem dX2_users_0 : decode cX2_users 0 = .ok (.aload_n 0, 1) := by decide +kernel
theorem dX2_users_1 : decode cX2_users 1 = .ok (.iload_n 1, 1) := by decide +kernel
theorem dX2_users_2 : decode cX2_users 2 = .ok (.invokevirtual 55, 3) := by decide +kernel
theorem dX2_users_5 : decode cX2_users 5 = .ok (.getfield 75, 3) := by decide +kernel
theorem dX2_users_8 : decode cX2_users 8 = .ok (.istore_n 2, 1) := by decide +kernel
theorem dX2_users_9 : decode cX2_users 9 = .ok (.iconst 0, 1) := by decide +kernel
theorem dX2_users_10 : decode cX2_users 10 = .ok (.istore_n 3, 1) := by decide +kernel
theorem dX2_users_11 : decode cX2_users 11 = .ok (.iconst 0, 1) := by decide +kernel
theorem dX2_users_12 : decode cX2_users 12 = .ok (.istore 4, 2) := by decide +kernel
theorem dX2_users_14 : decode cX2_users 14 = .ok (.iload 4, 2) := by decide +kernel
theorem dX2_users_16 : decode cX2_users 16 = .ok (.aload_n 0, 1) := by decide +kernel
theorem dX2_users_17 : decode cX2_users 17 = .ok (.getfield 16, 3) := by decide +kernel
theorem dX2_users_20 : decode cX2_users 20 = .ok (.invokevirtual 40, 3) := by decide +kernel
theorem dX2_users_23 : decode cX2_users 23 = .ok (.if_icmp .ge 34, 3) := by decide +kernel
theorem dX2_users_26 : decode cX2_users 26 = .ok (.aload_n 0, 1) := by decide +kernel
theorem dX2_users_27 : decode cX2_users 27 = .ok (.getfield 16, 3) := by decide +kernel
theorem dX2_users_30 : decode cX2_users 30 = .ok (.iload 4, 2) := by decide +kernel
theorem dX2_users_32 : decode cX2_users 32 = .ok (.invokevirtual 104, 3) := by decide +kernel
theorem dX2_users_35 : decode cX2_users 35 = .ok (.checkcast 28, 3) := by decide +kernel
theorem dX2_users_38 : decode cX2_users 38 = .ok (.getfield 72, 3) := by decide +kernel
theorem dX2_users_41 : decode cX2_users 41 = .ok (.getfield 75, 3) := by decide +kernel
theorem dX2_users_44 : decode cX2_users 44 = .ok (.iload_n 2, 1) := by decide +kernel
theorem dX2_users_45 : decode cX2_users 45 = .ok (.if_icmp .ne 6, 3) := by decide +kernel
theorem dX2_users_48 : decode cX2_users 48 = .ok (.iinc 3 1, 3) := by decide +kernel
theorem dX2_users_51 : decode cX2_users 51 = .ok (.iinc 4 1, 3) := by decide +kernel
theorem dX2_users_54 : decode cX2_users 54 = .ok (.goto (-40), 3) := by decide +kernel
theorem dX2_users_57 : decode cX2_users 57 = .ok (.iload_n 3, 1) := by decide +kernel
theorem dX2_users_58 : decode cX2_users 58 = .ok (.ireturn, 1) := by decide +kernel
theorem dX2_wandOf_0 : decode cX2_wandOf 0 = .ok (.aload_n 0, 1) := by decide +kernel
theorem dX2_wandOf_1 : decode cX2_wandOf 1 = .ok (.iload_n 1, 1) := by decide +kernel
theorem dX2_wandOf_2 : decode cX2_wandOf 2 = .ok (.invokevirtual 68, 3) := by decide +kernel
theorem dX2_wandOf_5 : decode cX2_wandOf 5 = .ok (.getfield 72, 3) := by decide +kernel
theorem dX2_wandOf_8 : decode cX2_wandOf 8 = .ok (.getfield 75, 3) := by decide +kernel
theorem dX2_wandOf_11 : decode cX2_wandOf 11 = .ok (.ireturn, 1) := by decide +kernel
theorem dX2_burstOf_0 : decode cX2_burstOf 0 = .ok (.aload_n 0, 1) := by decide +kernel
theorem dX2_burstOf_1 : decode cX2_burstOf 1 = .ok (.iload_n 1, 1) := by decide +kernel
theorem dX2_burstOf_2 : decode cX2_burstOf 2 = .ok (.invokevirtual 68, 3) := by decide +kernel
theorem dX2_burstOf_5 : decode cX2_burstOf 5 = .ok (.getfield 115, 3) := by decide +kernel
theorem dX2_burstOf_8 : decode cX2_burstOf 8 = .ok (.ireturn, 1) := by decide +kernel
theorem dX2_punishedFor_0 : decode cX2_punishedFor 0 = .ok (.aload_n 0, 1) := by decide +kernel
theorem dX2_punishedFor_1 : decode cX2_punishedFor 1 = .ok (.iload_n 1, 1) := by decide +kernel
theorem dX2_punishedFor_2 : decode cX2_punishedFor 2 = .ok (.invokevirtual 68, 3) := by decide +kernel
theorem dX2_punishedFor_5 : decode cX2_punishedFor 5 = .ok (.getfield 118, 3) := by decide +kernel
theorem dX2_punishedFor_8 : decode cX2_punishedFor 8 = .ok (.ireturn, 1) := by decide +kernel
theorem dX2_marksOf_0 : decode cX2_marksOf 0 = .ok (.aload_n 0, 1) := by decide +kernel
theorem dX2_marksOf_1 : decode cX2_marksOf 1 = .ok (.iload_n 1, 1) := by decide +kernel
theorem dX2_marksOf_2 : decode cX2_marksOf 2 = .ok (.invokevirtual 68, 3) := by decide +kernel
theorem dX2_marksOf_5 : decode cX2_marksOf 5 = .ok (.getfield 121, 3) := by decide +kernel
theorem dX2_marksOf_8 : decode cX2_marksOf 8 = .ok (.ireturn, 1) := by decide +kernel
theorem dX2_nextPunishment_0 : decode cX2_nextPunishment 0 = .ok (.aload_n 0, 1) := by decide +kernel
theorem dX2_nextPunishment_1 : decode cX2_nextPunishment 1 = .ok (.iload_n 1, 1) := by decide +kernel
theorem dX2_nextPunishment_2 : decode cX2_nextPunishment 2 = .ok (.invokevirtual 68, 3) := by decide +kernel
theorem dX2_nextPunishment_5 : decode cX2_nextPunishment 5 = .ok (.getfield 124, 3) := by decide +kernel
theorem dX2_nextPunishment_8 : decode cX2_nextPunishment 8 = .ok (.ireturn, 1) := by decide +kernel
theorem dX2_daysToBirthday_0 : decode cX2_daysToBirthday 0 = .ok (.aload_n 0, 1) := by decide +kernel
theorem dX2_daysToBirthday_1 : decode cX2_daysToBirthday 1 = .ok (.iload_n 1, 1) := by decide +kernel
theorem dX2_daysToBirthday_2 : decode cX2_daysToBirthday 2 = .ok (.invokevirtual 68, 3) := by decide +kernel
theorem dX2_daysToBirthday_5 : decode cX2_daysToBirthday 5 = .ok (.getfield 127, 3) := by decide +kernel
theorem dX2_daysToBirthday_8 : decode cX2_daysToBirthday 8 = .ok (.aload_n 0, 1) := by decide +kernel
theorem dX2_daysToBirthday_9 : decode cX2_daysToBirthday 9 = .ok (.invokevirtual 61, 3) := by decide +kernel
theorem dX2_daysToBirthday_12 : decode cX2_daysToBirthday 12 = .ok (.isub, 1) := by decide +kernel
theorem dX2_daysToBirthday_13 : decode cX2_daysToBirthday 13 = .ok (.bipush 30, 2) := by decide +kernel
theorem dX2_daysToBirthday_15 : decode cX2_daysToBirthday 15 = .ok (.invokestatic 130, 3) := by decide +kernel
theorem dX2_daysToBirthday_18 : decode cX2_daysToBirthday 18 = .ok (.ireturn, 1) := by decide +kernel
theorem dX2_greatestWish_0 : decode cX2_greatestWish 0 = .ok (.bipush 20, 2) := by decide +kernel
theorem dX2_greatestWish_2 : decode cX2_greatestWish 2 = .ok (.aload_n 0, 1) := by decide +kernel
theorem dX2_greatestWish_3 : decode cX2_greatestWish 3 = .ok (.iload_n 1, 1) := by decide +kernel
theorem dX2_greatestWish_4 : decode cX2_greatestWish 4 = .ok (.invokevirtual 68, 3) := by decide +kernel
theorem dX2_greatestWish_7 : decode cX2_greatestWish 7 = .ok (.invokevirtual 136, 3) := by decide +kernel
theorem dX2_greatestWish_10 : decode cX2_greatestWish 10 = .ok (.invokestatic 139, 3) := by decide +kernel
theorem dX2_greatestWish_13 : decode cX2_greatestWish 13 = .ok (.ireturn, 1) := by decide +kernel
theorem dX2_hoursUntil_0 : decode cX2_hoursUntil 0 = .ok (.aload_n 0, 1) := by decide +kernel
theorem dX2_hoursUntil_1 : decode cX2_hoursUntil 1 = .ok (.iload_n 1, 1) := by decide +kernel
theorem dX2_hoursUntil_2 : decode cX2_hoursUntil 2 = .ok (.invokevirtual 68, 3) := by decide +kernel
theorem dX2_hoursUntil_5 : decode cX2_hoursUntil 5 = .ok (.astore_n 3, 1) := by decide +kernel
theorem dX2_hoursUntil_6 : decode cX2_hoursUntil 6 = .ok (.iload_n 2, 1) := by decide +kernel
theorem dX2_hoursUntil_7 : decode cX2_hoursUntil 7 = .ok (.invokestatic 82, 3) := by decide +kernel
theorem dX2_hoursUntil_10 : decode cX2_hoursUntil 10 = .ok (.aload_n 0, 1) := by decide +kernel
theorem dX2_hoursUntil_11 : decode cX2_hoursUntil 11 = .ok (.aload_n 3, 1) := by decide +kernel
theorem dX2_hoursUntil_12 : decode cX2_hoursUntil 12 = .ok (.invokevirtual 142, 3) := by decide +kernel
theorem dX2_hoursUntil_15 : decode cX2_hoursUntil 15 = .ok (.iconst 0, 1) := by decide +kernel
theorem dX2_hoursUntil_16 : decode cX2_hoursUntil 16 = .ok (.istore 4, 2) := by decide +kernel
theorem dX2_hoursUntil_18 : decode cX2_hoursUntil 18 = .ok (.iload 4, 2) := by decide +kernel
theorem dX2_hoursUntil_20 : decode cX2_hoursUntil 20 = .ok (.bipush 100, 2) := by decide +kernel
theorem dX2_hoursUntil_22 : decode cX2_hoursUntil 22 = .ok (.if_icmp .gt 29, 3) := by decide +kernel
theorem dX2_hoursUntil_25 : decode cX2_hoursUntil 25 = .ok (.aload_n 0, 1) := by decide +kernel
theorem dX2_hoursUntil_26 : decode cX2_hoursUntil 26 = .ok (.getfield 33, 3) := by decide +kernel
theorem dX2_hoursUntil_29 : decode cX2_hoursUntil 29 = .ok (.iload_n 2, 1) := by decide +kernel
theorem dX2_hoursUntil_30 : decode cX2_hoursUntil 30 = .ok (.invokevirtual 146, 3) := by decide +kernel
theorem dX2_hoursUntil_33 : decode cX2_hoursUntil 33 = .ok (.ifCond .eq 6, 3) := by decide +kernel
theorem dX2_hoursUntil_36 : decode cX2_hoursUntil 36 = .ok (.iload 4, 2) := by decide +kernel
theorem dX2_hoursUntil_38 : decode cX2_hoursUntil 38 = .ok (.ireturn, 1) := by decide +kernel
theorem dX2_hoursUntil_39 : decode cX2_hoursUntil 39 = .ok (.aload_n 0, 1) := by decide +kernel
theorem dX2_hoursUntil_40 : decode cX2_hoursUntil 40 = .ok (.iload 4, 2) := by decide +kernel
theorem dX2_hoursUntil_42 : decode cX2_hoursUntil 42 = .ok (.invokevirtual 149, 3) := by decide +kernel
theorem dX2_hoursUntil_45 : decode cX2_hoursUntil 45 = .ok (.iinc 4 1, 3) := by decide +kernel
theorem dX2_hoursUntil_48 : decode cX2_hoursUntil 48 = .ok (.goto (-30), 3) := by decide +kernel
theorem dX2_hoursUntil_51 : decode cX2_hoursUntil 51 = .ok (.iconst (-1), 1) := by decide +kernel
theorem dX2_hoursUntil_52 : decode cX2_hoursUntil 52 = .ok (.ireturn, 1) := by decide +kernel
theorem dX2_grantedIn_0 : decode cX2_grantedIn 0 = .ok (.aload_n 0, 1) := by decide +kernel
theorem dX2_grantedIn_1 : decode cX2_grantedIn 1 = .ok (.iload_n 1, 1) := by decide +kernel
theorem dX2_grantedIn_2 : decode cX2_grantedIn 2 = .ok (.invokevirtual 68, 3) := by decide +kernel
theorem dX2_grantedIn_5 : decode cX2_grantedIn 5 = .ok (.astore 4, 2) := by decide +kernel
theorem dX2_grantedIn_7 : decode cX2_grantedIn 7 = .ok (.iload_n 2, 1) := by decide +kernel
theorem dX2_grantedIn_8 : decode cX2_grantedIn 8 = .ok (.invokestatic 82, 3) := by decide +kernel
theorem dX2_grantedIn_11 : decode cX2_grantedIn 11 = .ok (.iload_n 3, 1) := by decide +kernel
theorem dX2_grantedIn_12 : decode cX2_grantedIn 12 = .ok (.iconst 1, 1) := by decide +kernel
theorem dX2_grantedIn_13 : decode cX2_grantedIn 13 = .ok (.bipush 60, 2) := by decide +kernel
theorem dX2_grantedIn_15 : decode cX2_grantedIn 15 = .ok (.invokestatic 37, 3) := by decide +kernel
theorem dX2_grantedIn_18 : decode cX2_grantedIn 18 = .ok (.aload_n 0, 1) := by decide +kernel
theorem dX2_grantedIn_19 : decode cX2_grantedIn 19 = .ok (.aload 4, 2) := by decide +kernel
theorem dX2_grantedIn_21 : decode cX2_grantedIn 21 = .ok (.invokevirtual 142, 3) := by decide +kernel
theorem dX2_grantedIn_24 : decode cX2_grantedIn 24 = .ok (.aload_n 0, 1) := by decide +kernel
theorem dX2_grantedIn_25 : decode cX2_grantedIn 25 = .ok (.iload_n 2, 1) := by decide +kernel
theorem dX2_grantedIn_26 : decode cX2_grantedIn 26 = .ok (.iload_n 3, 1) := by decide +kernel
theorem dX2_grantedIn_27 : decode cX2_grantedIn 27 = .ok (.invokevirtual 152, 3) := by decide +kernel
theorem dX2_grantedIn_30 : decode cX2_grantedIn 30 = .ok (.ireturn, 1) := by decide +kernel
theorem dX2_fallWanted_0 : decode cX2_fallWanted 0 = .ok (.aload_n 0, 1) := by decide +kernel
theorem dX2_fallWanted_1 : decode cX2_fallWanted 1 = .ok (.iload_n 1, 1) := by decide +kernel
theorem dX2_fallWanted_2 : decode cX2_fallWanted 2 = .ok (.invokevirtual 68, 3) := by decide +kernel
theorem dX2_fallWanted_5 : decode cX2_fallWanted 5 = .ok (.astore_n 3, 1) := by decide +kernel
theorem dX2_fallWanted_6 : decode cX2_fallWanted 6 = .ok (.iload_n 2, 1) := by decide +kernel
theorem dX2_fallWanted_7 : decode cX2_fallWanted 7 = .ok (.invokestatic 82, 3) := by decide +kernel
theorem dX2_fallWanted_10 : decode cX2_fallWanted 10 = .ok (.iconst 0, 1) := by decide +kernel
theorem dX2_fallWanted_11 : decode cX2_fallWanted 11 = .ok (.istore 4, 2) := by decide +kernel
theorem dX2_fallWanted_13 : decode cX2_fallWanted 13 = .ok (.iload 4, 2) := by decide +kernel
theorem dX2_fallWanted_15 : decode cX2_fallWanted 15 = .ok (.bipush 20, 2) := by decide +kernel
theorem dX2_fallWanted_17 : decode cX2_fallWanted 17 = .ok (.if_icmp .gt 38, 3) := by decide +kernel
theorem dX2_fallWanted_20 : decode cX2_fallWanted 20 = .ok (.aload_n 0, 1) := by decide +kernel
theorem dX2_fallWanted_21 : decode cX2_fallWanted 21 = .ok (.aload_n 3, 1) := by decide +kernel
theorem dX2_fallWanted_22 : decode cX2_fallWanted 22 = .ok (.invokevirtual 142, 3) := by decide +kernel
theorem dX2_fallWanted_25 : decode cX2_fallWanted 25 = .ok (.aload_n 0, 1) := by decide +kernel
theorem dX2_fallWanted_26 : decode cX2_fallWanted 26 = .ok (.getfield 24, 3) := by decide +kernel
theorem dX2_fallWanted_29 : decode cX2_fallWanted 29 = .ok (.iload 4, 2) := by decide +kernel
theorem dX2_fallWanted_31 : decode cX2_fallWanted 31 = .ok (.putfield 79, 3) := by decide +kernel
theorem dX2_fallWanted_34 : decode cX2_fallWanted 34 = .ok (.aload_n 0, 1) := by decide +kernel
theorem dX2_fallWanted_35 : decode cX2_fallWanted 35 = .ok (.iload_n 2, 1) := by decide +kernel
theorem dX2_fallWanted_36 : decode cX2_fallWanted 36 = .ok (.bipush 24, 2) := by decide +kernel
theorem dX2_fallWanted_38 : decode cX2_fallWanted 38 = .ok (.invokevirtual 152, 3) := by decide +kernel
theorem dX2_fallWanted_41 : decode cX2_fallWanted 41 = .ok (.bipush 24, 2) := by decide +kernel
theorem dX2_fallWanted_43 : decode cX2_fallWanted 43 = .ok (.if_icmp .ne 6, 3) := by decide +kernel
theorem dX2_fallWanted_46 : decode cX2_fallWanted 46 = .ok (.iload 4, 2) := by decide +kernel
theorem dX2_fallWanted_48 : decode cX2_fallWanted 48 = .ok (.ireturn, 1) := by decide +kernel
theorem dX2_fallWanted_49 : decode cX2_fallWanted 49 = .ok (.iinc 4 1, 3) := by decide +kernel
theorem dX2_fallWanted_52 : decode cX2_fallWanted 52 = .ok (.goto (-39), 3) := by decide +kernel
theorem dX2_fallWanted_55 : decode cX2_fallWanted 55 = .ok (.iconst (-1), 1) := by decide +kernel
theorem dX2_fallWanted_56 : decode cX2_fallWanted 56 = .ok (.ireturn, 1) := by decide +kernel
theorem dX2_hoursUntilFull_0 : decode cX2_hoursUntilFull 0 = .ok (.aload_n 0, 1) := by decide +kernel
theorem dX2_hoursUntilFull_1 : decode cX2_hoursUntilFull 1 = .ok (.iload_n 1, 1) := by decide +kernel
theorem dX2_hoursUntilFull_2 : decode cX2_hoursUntilFull 2 = .ok (.invokevirtual 55, 3) := by decide +kernel
theorem dX2_hoursUntilFull_5 : decode cX2_hoursUntilFull 5 = .ok (.astore_n 2, 1) := by decide +kernel
theorem dX2_hoursUntilFull_6 : decode cX2_hoursUntilFull 6 = .ok (.iconst 0, 1) := by decide +kernel
theorem dX2_hoursUntilFull_7 : decode cX2_hoursUntilFull 7 = .ok (.istore_n 3, 1) := by decide +kernel
theorem dX2_hoursUntilFull_8 : decode cX2_hoursUntilFull 8 = .ok (.iload_n 3, 1) := by decide +kernel
theorem dX2_hoursUntilFull_9 : decode cX2_hoursUntilFull 9 = .ok (.bipush 100, 2) := by decide +kernel
theorem dX2_hoursUntilFull_11 : decode cX2_hoursUntilFull 11 = .ok (.if_icmp .gt 19, 3) := by decide +kernel
theorem dX2_hoursUntilFull_14 : decode cX2_hoursUntilFull 14 = .ok (.aload_n 2, 1) := by decide +kernel
theorem dX2_hoursUntilFull_15 : decode cX2_hoursUntilFull 15 = .ok (.iload_n 3, 1) := by decide +kernel
theorem dX2_hoursUntilFull_16 : decode cX2_hoursUntilFull 16 = .ok (.invokevirtual 155, 3) := by decide +kernel
theorem dX2_hoursUntilFull_19 : decode cX2_hoursUntilFull 19 = .ok (.ifCond .eq 5, 3) := by decide +kernel
theorem dX2_hoursUntilFull_22 : decode cX2_hoursUntilFull 22 = .ok (.iload_n 3, 1) := by decide +kernel
theorem dX2_hoursUntilFull_23 : decode cX2_hoursUntilFull 23 = .ok (.ireturn, 1) := by decide +kernel
theorem dX2_hoursUntilFull_24 : decode cX2_hoursUntilFull 24 = .ok (.iinc 3 1, 3) := by decide +kernel
theorem dX2_hoursUntilFull_27 : decode cX2_hoursUntilFull 27 = .ok (.goto (-19), 3) := by decide +kernel
theorem dX2_hoursUntilFull_30 : decode cX2_hoursUntilFull 30 = .ok (.iconst (-1), 1) := by decide +kernel
theorem dX2_hoursUntilFull_31 : decode cX2_hoursUntilFull 31 = .ok (.ireturn, 1) := by decide +kernel
theorem dX2_bestChild_0 : decode cX2_bestChild 0 = .ok (.iload_n 1, 1) := by decide +kernel
theorem dX2_bestChild_1 : decode cX2_bestChild 1 = .ok (.invokestatic 82, 3) := by decide +kernel
theorem dX2_bestChild_4 : decode cX2_bestChild 4 = .ok (.iconst (-1), 1) := by decide +kernel
theorem dX2_bestChild_5 : decode cX2_bestChild 5 = .ok (.istore_n 2, 1) := by decide +kernel
theorem dX2_bestChild_6 : decode cX2_bestChild 6 = .ok (.iconst (-1), 1) := by decide +kernel
theorem dX2_bestChild_7 : decode cX2_bestChild 7 = .ok (.istore_n 3, 1) := by decide +kernel
theorem dX2_bestChild_8 : decode cX2_bestChild 8 = .ok (.iconst 0, 1) := by decide +kernel
theorem dX2_bestChild_9 : decode cX2_bestChild 9 = .ok (.istore 4, 2) := by decide +kernel
theorem dX2_bestChild_11 : decode cX2_bestChild 11 = .ok (.iload 4, 2) := by decide +kernel
theorem dX2_bestChild_13 : decode cX2_bestChild 13 = .ok (.aload_n 0, 1) := by decide +kernel
theorem dX2_bestChild_14 : decode cX2_bestChild 14 = .ok (.getfield 16, 3) := by decide +kernel
theorem dX2_bestChild_17 : decode cX2_bestChild 17 = .ok (.invokevirtual 40, 3) := by decide +kernel
theorem dX2_bestChild_20 : decode cX2_bestChild 20 = .ok (.if_icmp .ge 52, 3) := by decide +kernel
theorem dX2_bestChild_23 : decode cX2_bestChild 23 = .ok (.aload_n 0, 1) := by decide +kernel
theorem dX2_bestChild_24 : decode cX2_bestChild 24 = .ok (.getfield 16, 3) := by decide +kernel
theorem dX2_bestChild_27 : decode cX2_bestChild 27 = .ok (.iload 4, 2) := by decide +kernel
theorem dX2_bestChild_29 : decode cX2_bestChild 29 = .ok (.invokevirtual 104, 3) := by decide +kernel
theorem dX2_bestChild_32 : decode cX2_bestChild 32 = .ok (.checkcast 28, 3) := by decide +kernel
theorem dX2_bestChild_35 : decode cX2_bestChild 35 = .ok (.astore 5, 2) := by decide +kernel
theorem dX2_bestChild_37 : decode cX2_bestChild 37 = .ok (.aload 5, 2) := by decide +kernel
theorem dX2_bestChild_39 : decode cX2_bestChild 39 = .ok (.iload_n 1, 1) := by decide +kernel
theorem dX2_bestChild_40 : decode cX2_bestChild 40 = .ok (.invokevirtual 146, 3) := by decide +kernel
theorem dX2_bestChild_43 : decode cX2_bestChild 43 = .ok (.ifCond .eq 23, 3) := by decide +kernel
theorem dX2_bestChild_46 : decode cX2_bestChild 46 = .ok (.aload 5, 2) := by decide +kernel
theorem dX2_bestChild_48 : decode cX2_bestChild 48 = .ok (.iload_n 1, 1) := by decide +kernel
theorem dX2_bestChild_49 : decode cX2_bestChild 49 = .ok (.invokevirtual 158, 3) := by decide +kernel
theorem dX2_bestChild_52 : decode cX2_bestChild 52 = .ok (.iload_n 3, 1) := by decide +kernel
theorem dX2_bestChild_53 : decode cX2_bestChild 53 = .ok (.if_icmp .le 13, 3) := by decide +kernel
theorem dX2_bestChild_56 : decode cX2_bestChild 56 = .ok (.iload 4, 2) := by decide +kernel
theorem dX2_bestChild_58 : decode cX2_bestChild 58 = .ok (.istore_n 2, 1) := by decide +kernel
theorem dX2_bestChild_59 : decode cX2_bestChild 59 = .ok (.aload 5, 2) := by decide +kernel
theorem dX2_bestChild_61 : decode cX2_bestChild 61 = .ok (.iload_n 1, 1) := by decide +kernel
theorem dX2_bestChild_62 : decode cX2_bestChild 62 = .ok (.invokevirtual 158, 3) := by decide +kernel
theorem dX2_bestChild_65 : decode cX2_bestChild 65 = .ok (.istore_n 3, 1) := by decide +kernel
theorem dX2_bestChild_66 : decode cX2_bestChild 66 = .ok (.iinc 4 1, 3) := by decide +kernel
theorem dX2_bestChild_69 : decode cX2_bestChild 69 = .ok (.goto (-58), 3) := by decide +kernel
theorem dX2_bestChild_72 : decode cX2_bestChild 72 = .ok (.iload_n 2, 1) := by decide +kernel
theorem dX2_bestChild_73 : decode cX2_bestChild 73 = .ok (.ireturn, 1) := by decide +kernel
theorem dX2_share_0 : decode cX2_share 0 = .ok (.aload_n 0, 1) := by decide +kernel
theorem dX2_share_1 : decode cX2_share 1 = .ok (.getfield 89, 3) := by decide +kernel
theorem dX2_share_4 : decode cX2_share 4 = .ok (.aload_n 0, 1) := by decide +kernel
theorem dX2_share_5 : decode cX2_share 5 = .ok (.getfield 92, 3) := by decide +kernel
theorem dX2_share_8 : decode cX2_share 8 = .ok (.iadd, 1) := by decide +kernel
theorem dX2_share_9 : decode cX2_share 9 = .ok (.istore_n 1, 1) := by decide +kernel
theorem dX2_share_10 : decode cX2_share 10 = .ok (.iload_n 1, 1) := by decide +kernel
theorem dX2_share_11 : decode cX2_share 11 = .ok (.ifCond .ne 5, 3) := by decide +kernel
theorem dX2_share_14 : decode cX2_share 14 = .ok (.dconst 0, 1) := by decide +kernel
theorem dX2_share_15 : decode cX2_share 15 = .ok (.dreturn, 1) := by decide +kernel
theorem dX2_share_16 : decode cX2_share 16 = .ok (.aload_n 0, 1) := by decide +kernel
theorem dX2_share_17 : decode cX2_share 17 = .ok (.getfield 89, 3) := by decide +kernel
theorem dX2_share_20 : decode cX2_share 20 = .ok (.i2d, 1) := by decide +kernel
theorem dX2_share_21 : decode cX2_share 21 = .ok (.iload_n 1, 1) := by decide +kernel
theorem dX2_share_22 : decode cX2_share 22 = .ok (.i2d, 1) := by decide +kernel
theorem dX2_share_23 : decode cX2_share 23 = .ok (.ddiv, 1) := by decide +kernel
theorem dX2_share_24 : decode cX2_share 24 = .ok (.dreturn, 1) := by decide +kernel
theorem dX2_digest_0 : decode cX2_digest 0 = .ok (.ldc2_w 162, 3) := by decide +kernel
theorem dX2_digest_3 : decode cX2_digest 3 = .ok (.lstore_n 1, 1) := by decide +kernel
theorem dX2_digest_4 : decode cX2_digest 4 = .ok (.lload_n 1, 1) := by decide +kernel
theorem dX2_digest_5 : decode cX2_digest 5 = .ok (.aload_n 0, 1) := by decide +kernel
theorem dX2_digest_6 : decode cX2_digest 6 = .ok (.invokevirtual 164, 3) := by decide +kernel
theorem dX2_digest_9 : decode cX2_digest 9 = .ok (.invokestatic 166, 3) := by decide +kernel
theorem dX2_digest_12 : decode cX2_digest 12 = .ok (.lstore_n 1, 1) := by decide +kernel
theorem dX2_digest_13 : decode cX2_digest 13 = .ok (.lload_n 1, 1) := by decide +kernel
theorem dX2_digest_14 : decode cX2_digest 14 = .ok (.aload_n 0, 1) := by decide +kernel
theorem dX2_digest_15 : decode cX2_digest 15 = .ok (.invokevirtual 61, 3) := by decide +kernel
theorem dX2_digest_18 : decode cX2_digest 18 = .ok (.invokestatic 166, 3) := by decide +kernel
theorem dX2_digest_21 : decode cX2_digest 21 = .ok (.lstore_n 1, 1) := by decide +kernel
theorem dX2_digest_22 : decode cX2_digest 22 = .ok (.lload_n 1, 1) := by decide +kernel
theorem dX2_digest_23 : decode cX2_digest 23 = .ok (.aload_n 0, 1) := by decide +kernel
theorem dX2_digest_24 : decode cX2_digest 24 = .ok (.invokevirtual 170, 3) := by decide +kernel
theorem dX2_digest_27 : decode cX2_digest 27 = .ok (.invokestatic 166, 3) := by decide +kernel
theorem dX2_digest_30 : decode cX2_digest 30 = .ok (.lstore_n 1, 1) := by decide +kernel
theorem dX2_digest_31 : decode cX2_digest 31 = .ok (.lload_n 1, 1) := by decide +kernel
theorem dX2_digest_32 : decode cX2_digest 32 = .ok (.aload_n 0, 1) := by decide +kernel
theorem dX2_digest_33 : decode cX2_digest 33 = .ok (.invokevirtual 172, 3) := by decide +kernel
theorem dX2_digest_36 : decode cX2_digest 36 = .ok (.invokestatic 166, 3) := by decide +kernel
theorem dX2_digest_39 : decode cX2_digest 39 = .ok (.lstore_n 1, 1) := by decide +kernel
theorem dX2_digest_40 : decode cX2_digest 40 = .ok (.lload_n 1, 1) := by decide +kernel
theorem dX2_digest_41 : decode cX2_digest 41 = .ok (.aload_n 0, 1) := by decide +kernel
theorem dX2_digest_42 : decode cX2_digest 42 = .ok (.invokevirtual 174, 3) := by decide +kernel
theorem dX2_digest_45 : decode cX2_digest 45 = .ok (.invokestatic 166, 3) := by decide +kernel
theorem dX2_digest_48 : decode cX2_digest 48 = .ok (.lstore_n 1, 1) := by decide +kernel
theorem dX2_digest_49 : decode cX2_digest 49 = .ok (.lload_n 1, 1) := by decide +kernel
theorem dX2_digest_50 : decode cX2_digest 50 = .ok (.aload_n 0, 1) := by decide +kernel
theorem dX2_digest_51 : decode cX2_digest 51 = .ok (.invokevirtual 176, 3) := by decide +kernel
theorem dX2_digest_54 : decode cX2_digest 54 = .ok (.invokestatic 166, 3) := by decide +kernel
theorem dX2_digest_57 : decode cX2_digest 57 = .ok (.lstore_n 1, 1) := by decide +kernel
theorem dX2_digest_58 : decode cX2_digest 58 = .ok (.lload_n 1, 1) := by decide +kernel
theorem dX2_digest_59 : decode cX2_digest 59 = .ok (.aload_n 0, 1) := by decide +kernel
theorem dX2_digest_60 : decode cX2_digest 60 = .ok (.invokevirtual 178, 3) := by decide +kernel
theorem dX2_digest_63 : decode cX2_digest 63 = .ok (.invokestatic 166, 3) := by decide +kernel
theorem dX2_digest_66 : decode cX2_digest 66 = .ok (.lstore_n 1, 1) := by decide +kernel
theorem dX2_digest_67 : decode cX2_digest 67 = .ok (.lload_n 1, 1) := by decide +kernel
theorem dX2_digest_68 : decode cX2_digest 68 = .ok (.aload_n 0, 1) := by decide +kernel
theorem dX2_digest_69 : decode cX2_digest 69 = .ok (.iconst 5, 1) := by decide +kernel
theorem dX2_digest_70 : decode cX2_digest 70 = .ok (.invokevirtual 181, 3) := by decide +kernel
theorem dX2_digest_73 : decode cX2_digest 73 = .ok (.invokestatic 166, 3) := by decide +kernel
theorem dX2_digest_76 : decode cX2_digest 76 = .ok (.lstore_n 1, 1) := by decide +kernel
theorem dX2_digest_77 : decode cX2_digest 77 = .ok (.iconst 0, 1) := by decide +kernel
theorem dX2_digest_78 : decode cX2_digest 78 = .ok (.istore_n 3, 1) := by decide +kernel
theorem dX2_digest_79 : decode cX2_digest 79 = .ok (.iload_n 3, 1) := by decide +kernel
theorem dX2_digest_80 : decode cX2_digest 80 = .ok (.aload_n 0, 1) := by decide +kernel
theorem dX2_digest_81 : decode cX2_digest 81 = .ok (.getfield 10, 3) := by decide +kernel
theorem dX2_digest_84 : decode cX2_digest 84 = .ok (.invokevirtual 40, 3) := by decide +kernel
theorem dX2_digest_87 : decode cX2_digest 87 = .ok (.if_icmp .ge 16, 3) := by decide +kernel
theorem dX2_digest_90 : decode cX2_digest 90 = .ok (.aload_n 0, 1) := by decide +kernel
theorem dX2_digest_91 : decode cX2_digest 91 = .ok (.lload_n 1, 1) := by decide +kernel
theorem dX2_digest_92 : decode cX2_digest 92 = .ok (.iload_n 3, 1) := by decide +kernel
theorem dX2_digest_93 : decode cX2_digest 93 = .ok (.invokevirtual 184, 3) := by decide +kernel
theorem dX2_digest_96 : decode cX2_digest 96 = .ok (.lstore_n 1, 1) := by decide +kernel
theorem dX2_digest_97 : decode cX2_digest 97 = .ok (.iinc 3 1, 3) := by decide +kernel
theorem dX2_digest_100 : decode cX2_digest 100 = .ok (.goto (-21), 3) := by decide +kernel
theorem dX2_digest_103 : decode cX2_digest 103 = .ok (.iconst 0, 1) := by decide +kernel
theorem dX2_digest_104 : decode cX2_digest 104 = .ok (.istore_n 3, 1) := by decide +kernel
theorem dX2_digest_105 : decode cX2_digest 105 = .ok (.iload_n 3, 1) := by decide +kernel
theorem dX2_digest_106 : decode cX2_digest 106 = .ok (.aload_n 0, 1) := by decide +kernel
theorem dX2_digest_107 : decode cX2_digest 107 = .ok (.getfield 16, 3) := by decide +kernel
theorem dX2_digest_110 : decode cX2_digest 110 = .ok (.invokevirtual 40, 3) := by decide +kernel
theorem dX2_digest_113 : decode cX2_digest 113 = .ok (.if_icmp .ge 16, 3) := by decide +kernel
theorem dX2_digest_116 : decode cX2_digest 116 = .ok (.aload_n 0, 1) := by decide +kernel
theorem dX2_digest_117 : decode cX2_digest 117 = .ok (.lload_n 1, 1) := by decide +kernel
theorem dX2_digest_118 : decode cX2_digest 118 = .ok (.iload_n 3, 1) := by decide +kernel
theorem dX2_digest_119 : decode cX2_digest 119 = .ok (.invokevirtual 187, 3) := by decide +kernel
theorem dX2_digest_122 : decode cX2_digest 122 = .ok (.lstore_n 1, 1) := by decide +kernel
theorem dX2_digest_123 : decode cX2_digest 123 = .ok (.iinc 3 1, 3) := by decide +kernel
theorem dX2_digest_126 : decode cX2_digest 126 = .ok (.goto (-21), 3) := by decide +kernel
theorem dX2_digest_129 : decode cX2_digest 129 = .ok (.lload_n 1, 1) := by decide +kernel
theorem dX2_digest_130 : decode cX2_digest 130 = .ok (.lreturn, 1) := by decide +kernel
theorem dX2_withWand_0 : decode cX2_withWand 0 = .ok (.lload_n 1, 1) := by decide +kernel
theorem dX2_withWand_1 : decode cX2_withWand 1 = .ok (.lstore 4, 2) := by decide +kernel
theorem dX2_withWand_3 : decode cX2_withWand 3 = .ok (.lload 4, 2) := by decide +kernel
theorem dX2_withWand_5 : decode cX2_withWand 5 = .ok (.aload_n 0, 1) := by decide +kernel
theorem dX2_withWand_6 : decode cX2_withWand 6 = .ok (.iload_n 3, 1) := by decide +kernel
theorem dX2_withWand_7 : decode cX2_withWand 7 = .ok (.invokevirtual 190, 3) := by decide +kernel
theorem dX2_withWand_10 : decode cX2_withWand 10 = .ok (.invokestatic 166, 3) := by decide +kernel
theorem dX2_withWand_13 : decode cX2_withWand 13 = .ok (.lstore 4, 2) := by decide +kernel
theorem dX2_withWand_15 : decode cX2_withWand 15 = .ok (.lload 4, 2) := by decide +kernel
theorem dX2_withWand_17 : decode cX2_withWand 17 = .ok (.aload_n 0, 1) := by decide +kernel
theorem dX2_withWand_18 : decode cX2_withWand 18 = .ok (.iload_n 3, 1) := by decide +kernel
theorem dX2_withWand_19 : decode cX2_withWand 19 = .ok (.invokevirtual 193, 3) := by decide +kernel
theorem dX2_withWand_22 : decode cX2_withWand 22 = .ok (.invokestatic 166, 3) := by decide +kernel
theorem dX2_withWand_25 : decode cX2_withWand 25 = .ok (.lstore 4, 2) := by decide +kernel
theorem dX2_withWand_27 : decode cX2_withWand 27 = .ok (.lload 4, 2) := by decide +kernel
theorem dX2_withWand_29 : decode cX2_withWand 29 = .ok (.aload_n 0, 1) := by decide +kernel
theorem dX2_withWand_30 : decode cX2_withWand 30 = .ok (.iload_n 3, 1) := by decide +kernel
theorem dX2_withWand_31 : decode cX2_withWand 31 = .ok (.invokevirtual 196, 3) := by decide +kernel
theorem dX2_withWand_34 : decode cX2_withWand 34 = .ok (.invokestatic 166, 3) := by decide +kernel
theorem dX2_withWand_37 : decode cX2_withWand 37 = .ok (.lstore 4, 2) := by decide +kernel
theorem dX2_withWand_39 : decode cX2_withWand 39 = .ok (.lload 4, 2) := by decide +kernel
theorem dX2_withWand_41 : decode cX2_withWand 41 = .ok (.lreturn, 1) := by decide +kernel
theorem dX2_withChild_0 : decode cX2_withChild 0 = .ok (.lload_n 1, 1) := by decide +kernel
theorem dX2_withChild_1 : decode cX2_withChild 1 = .ok (.lstore 4, 2) := by decide +kernel
theorem dX2_withChild_3 : decode cX2_withChild 3 = .ok (.lload 4, 2) := by decide +kernel
theorem dX2_withChild_5 : decode cX2_withChild 5 = .ok (.aload_n 0, 1) := by decide +kernel
theorem dX2_withChild_6 : decode cX2_withChild 6 = .ok (.iload_n 3, 1) := by decide +kernel
theorem dX2_withChild_7 : decode cX2_withChild 7 = .ok (.invokevirtual 199, 3) := by decide +kernel
theorem dX2_withChild_10 : decode cX2_withChild 10 = .ok (.invokestatic 166, 3) := by decide +kernel
theorem dX2_withChild_13 : decode cX2_withChild 13 = .ok (.lstore 4, 2) := by decide +kernel
theorem dX2_withChild_15 : decode cX2_withChild 15 = .ok (.lload 4, 2) := by decide +kernel
theorem dX2_withChild_17 : decode cX2_withChild 17 = .ok (.aload_n 0, 1) := by decide +kernel
theorem dX2_withChild_18 : decode cX2_withChild 18 = .ok (.iload_n 3, 1) := by decide +kernel
theorem dX2_withChild_19 : decode cX2_withChild 19 = .ok (.invokevirtual 202, 3) := by decide +kernel
theorem dX2_withChild_22 : decode cX2_withChild 22 = .ok (.invokestatic 166, 3) := by decide +kernel
theorem dX2_withChild_25 : decode cX2_withChild 25 = .ok (.lstore 4, 2) := by decide +kernel
theorem dX2_withChild_27 : decode cX2_withChild 27 = .ok (.lload 4, 2) := by decide +kernel
theorem dX2_withChild_29 : decode cX2_withChild 29 = .ok (.aload_n 0, 1) := by decide +kernel
theorem dX2_withChild_30 : decode cX2_withChild 30 = .ok (.iload_n 3, 1) := by decide +kernel
theorem dX2_withChild_31 : decode cX2_withChild 31 = .ok (.invokevirtual 205, 3) := by decide +kernel
theorem dX2_withChild_34 : decode cX2_withChild 34 = .ok (.invokestatic 166, 3) := by decide +kernel
theorem dX2_withChild_37 : decode cX2_withChild 37 = .ok (.lstore 4, 2) := by decide +kernel
theorem dX2_withChild_39 : decode cX2_withChild 39 = .ok (.lload 4, 2) := by decide +kernel
theorem dX2_withChild_41 : decode cX2_withChild 41 = .ok (.aload_n 0, 1) := by decide +kernel
theorem dX2_withChild_42 : decode cX2_withChild 42 = .ok (.iload_n 3, 1) := by decide +kernel
theorem dX2_withChild_43 : decode cX2_withChild 43 = .ok (.invokevirtual 208, 3) := by decide +kernel
theorem dX2_withChild_46 : decode cX2_withChild 46 = .ok (.invokestatic 166, 3) := by decide +kernel
theorem dX2_withChild_49 : decode cX2_withChild 49 = .ok (.lstore 4, 2) := by decide +kernel
theorem dX2_withChild_51 : decode cX2_withChild 51 = .ok (.lload 4, 2) := by decide +kernel
theorem dX2_withChild_53 : decode cX2_withChild 53 = .ok (.aload_n 0, 1) := by decide +kernel
theorem dX2_withChild_54 : decode cX2_withChild 54 = .ok (.iload_n 3, 1) := by decide +kernel
theorem dX2_withChild_55 : decode cX2_withChild 55 = .ok (.invokevirtual 211, 3) := by decide +kernel
theorem dX2_withChild_58 : decode cX2_withChild 58 = .ok (.invokestatic 166, 3) := by decide +kernel
theorem dX2_withChild_61 : decode cX2_withChild 61 = .ok (.lstore 4, 2) := by decide +kernel
theorem dX2_withChild_63 : decode cX2_withChild 63 = .ok (.lload 4, 2) := by decide +kernel
theorem dX2_withChild_65 : decode cX2_withChild 65 = .ok (.aload_n 0, 1) := by decide +kernel
theorem dX2_withChild_66 : decode cX2_withChild 66 = .ok (.iload_n 3, 1) := by decide +kernel
theorem dX2_withChild_67 : decode cX2_withChild 67 = .ok (.invokevirtual 214, 3) := by decide +kernel
theorem dX2_withChild_70 : decode cX2_withChild 70 = .ok (.invokestatic 166, 3) := by decide +kernel
theorem dX2_withChild_73 : decode cX2_withChild 73 = .ok (.lstore 4, 2) := by decide +kernel
theorem dX2_withChild_75 : decode cX2_withChild 75 = .ok (.lload 4, 2) := by decide +kernel
theorem dX2_withChild_77 : decode cX2_withChild 77 = .ok (.aload_n 0, 1) := by decide +kernel
theorem dX2_withChild_78 : decode cX2_withChild 78 = .ok (.iload_n 3, 1) := by decide +kernel
theorem dX2_withChild_79 : decode cX2_withChild 79 = .ok (.invokevirtual 217, 3) := by decide +kernel
theorem dX2_withChild_82 : decode cX2_withChild 82 = .ok (.invokestatic 166, 3) := by decide +kernel
theorem dX2_withChild_85 : decode cX2_withChild 85 = .ok (.lstore 4, 2) := by decide +kernel
theorem dX2_withChild_87 : decode cX2_withChild 87 = .ok (.lload 4, 2) := by decide +kernel
theorem dX2_withChild_89 : decode cX2_withChild 89 = .ok (.aload_n 0, 1) := by decide +kernel
theorem dX2_withChild_90 : decode cX2_withChild 90 = .ok (.iload_n 3, 1) := by decide +kernel
theorem dX2_withChild_91 : decode cX2_withChild 91 = .ok (.bipush 10, 2) := by decide +kernel
theorem dX2_withChild_93 : decode cX2_withChild 93 = .ok (.invokevirtual 220, 3) := by decide +kernel
theorem dX2_withChild_96 : decode cX2_withChild 96 = .ok (.invokestatic 166, 3) := by decide +kernel
theorem dX2_withChild_99 : decode cX2_withChild 99 = .ok (.lstore 4, 2) := by decide +kernel
theorem dX2_withChild_101 : decode cX2_withChild 101 = .ok (.lload 4, 2) := by decide +kernel
theorem dX2_withChild_103 : decode cX2_withChild 103 = .ok (.aload_n 0, 1) := by decide +kernel
theorem dX2_withChild_104 : decode cX2_withChild 104 = .ok (.iload_n 3, 1) := by decide +kernel
theorem dX2_withChild_105 : decode cX2_withChild 105 = .ok (.iconst 4, 1) := by decide +kernel
theorem dX2_withChild_106 : decode cX2_withChild 106 = .ok (.bipush 12, 2) := by decide +kernel
theorem dX2_withChild_108 : decode cX2_withChild 108 = .ok (.invokevirtual 223, 3) := by decide +kernel
theorem dX2_withChild_111 : decode cX2_withChild 111 = .ok (.invokestatic 166, 3) := by decide +kernel
theorem dX2_withChild_114 : decode cX2_withChild 114 = .ok (.lstore 4, 2) := by decide +kernel
theorem dX2_withChild_116 : decode cX2_withChild 116 = .ok (.lload 4, 2) := by decide +kernel
theorem dX2_withChild_118 : decode cX2_withChild 118 = .ok (.aload_n 0, 1) := by decide +kernel
theorem dX2_withChild_119 : decode cX2_withChild 119 = .ok (.iload_n 3, 1) := by decide +kernel
theorem dX2_withChild_120 : decode cX2_withChild 120 = .ok (.iconst 3, 1) := by decide +kernel
theorem dX2_withChild_121 : decode cX2_withChild 121 = .ok (.invokevirtual 227, 3) := by decide +kernel
theorem dX2_withChild_124 : decode cX2_withChild 124 = .ok (.invokestatic 166, 3) := by decide +kernel
theorem dX2_withChild_127 : decode cX2_withChild 127 = .ok (.lstore 4, 2) := by decide +kernel
theorem dX2_withChild_129 : decode cX2_withChild 129 = .ok (.lload 4, 2) := by decide +kernel
theorem dX2_withChild_131 : decode cX2_withChild 131 = .ok (.lreturn, 1) := by decide +kernel
theorem dX2_mixed_0 : decode cX2_mixed 0 = .ok (.lload_n 0, 1) := by decide +kernel
theorem dX2_mixed_1 : decode cX2_mixed 1 = .ok (.ldc2_w 230, 3) := by decide +kernel
theorem dX2_mixed_4 : decode cX2_mixed 4 = .ok (.lmul, 1) := by decide +kernel
theorem dX2_mixed_5 : decode cX2_mixed 5 = .ok (.iload_n 2, 1) := by decide +kernel
theorem dX2_mixed_6 : decode cX2_mixed 6 = .ok (.i2l, 1) := by decide +kernel
theorem dX2_mixed_7 : decode cX2_mixed 7 = .ok (.ladd, 1) := by decide +kernel
theorem dX2_mixed_8 : decode cX2_mixed 8 = .ok (.lreturn, 1) := by decide +kernel
theorem dX2_passOneHour_0 : decode cX2_passOneHour 0 = .ok (.iconst 0, 1) := by decide +kernel
theorem dX2_passOneHour_1 : decode cX2_passOneHour 1 = .ok (.istore_n 1, 1) := by decide +kernel
theorem dX2_passOneHour_2 : decode cX2_passOneHour 2 = .ok (.iconst 0, 1) := by decide +kernel
theorem dX2_passOneHour_3 : decode cX2_passOneHour 3 = .ok (.istore_n 2, 1) := by decide +kernel
theorem dX2_passOneHour_4 : decode cX2_passOneHour 4 = .ok (.iload_n 2, 1) := by decide +kernel
theorem dX2_passOneHour_5 : decode cX2_passOneHour 5 = .ok (.aload_n 0, 1) := by decide +kernel
theorem dX2_passOneHour_6 : decode cX2_passOneHour 6 = .ok (.getfield 10, 3) := by decide +kernel
theorem dX2_passOneHour_9 : decode cX2_passOneHour 9 = .ok (.invokevirtual 40, 3) := by decide +kernel
theorem dX2_passOneHour_12 : decode cX2_passOneHour 12 = .ok (.if_icmp .ge 26, 3) := by decide +kernel
theorem dX2_passOneHour_15 : decode cX2_passOneHour 15 = .ok (.iload_n 1, 1) := by decide +kernel
theorem dX2_passOneHour_16 : decode cX2_passOneHour 16 = .ok (.aload_n 0, 1) := by decide +kernel
theorem dX2_passOneHour_17 : decode cX2_passOneHour 17 = .ok (.getfield 10, 3) := by decide +kernel
theorem dX2_passOneHour_20 : decode cX2_passOneHour 20 = .ok (.iload_n 2, 1) := by decide +kernel
theorem dX2_passOneHour_21 : decode cX2_passOneHour 21 = .ok (.invokevirtual 104, 3) := by decide +kernel
theorem dX2_passOneHour_24 : decode cX2_passOneHour 24 = .ok (.checkcast 19, 3) := by decide +kernel
theorem dX2_passOneHour_27 : decode cX2_passOneHour 27 = .ok (.invokevirtual 232, 3) := by decide +kernel
theorem dX2_passOneHour_30 : decode cX2_passOneHour 30 = .ok (.iadd, 1) := by decide +kernel
theorem dX2_passOneHour_31 : decode cX2_passOneHour 31 = .ok (.istore_n 1, 1) := by decide +kernel
theorem dX2_passOneHour_32 : decode cX2_passOneHour 32 = .ok (.iinc 2 1, 3) := by decide +kernel
theorem dX2_passOneHour_35 : decode cX2_passOneHour 35 = .ok (.goto (-31), 3) := by decide +kernel
theorem dX2_passOneHour_38 : decode cX2_passOneHour 38 = .ok (.aload_n 0, 1) := by decide +kernel
theorem dX2_passOneHour_39 : decode cX2_passOneHour 39 = .ok (.dup, 1) := by decide +kernel
theorem dX2_passOneHour_40 : decode cX2_passOneHour 40 = .ok (.getfield 101, 3) := by decide +kernel
theorem dX2_passOneHour_43 : decode cX2_passOneHour 43 = .ok (.iconst 1, 1) := by decide +kernel
theorem dX2_passOneHour_44 : decode cX2_passOneHour 44 = .ok (.iadd, 1) := by decide +kernel
theorem dX2_passOneHour_45 : decode cX2_passOneHour 45 = .ok (.putfield 101, 3) := by decide +kernel
theorem dX2_passOneHour_48 : decode cX2_passOneHour 48 = .ok (.iconst 0, 1) := by decide +kernel
theorem dX2_passOneHour_49 : decode cX2_passOneHour 49 = .ok (.istore_n 2, 1) := by decide +kernel
theorem dX2_passOneHour_50 : decode cX2_passOneHour 50 = .ok (.iload_n 2, 1) := by decide +kernel
theorem dX2_passOneHour_51 : decode cX2_passOneHour 51 = .ok (.aload_n 0, 1) := by decide +kernel
theorem dX2_passOneHour_52 : decode cX2_passOneHour 52 = .ok (.getfield 16, 3) := by decide +kernel
theorem dX2_passOneHour_55 : decode cX2_passOneHour 55 = .ok (.invokevirtual 40, 3) := by decide +kernel
theorem dX2_passOneHour_58 : decode cX2_passOneHour 58 = .ok (.if_icmp .ge 27, 3) := by decide +kernel
theorem dX2_passOneHour_61 : decode cX2_passOneHour 61 = .ok (.aload_n 0, 1) := by decide +kernel
theorem dX2_passOneHour_62 : decode cX2_passOneHour 62 = .ok (.getfield 16, 3) := by decide +kernel
theorem dX2_passOneHour_65 : decode cX2_passOneHour 65 = .ok (.iload_n 2, 1) := by decide +kernel
theorem dX2_passOneHour_66 : decode cX2_passOneHour 66 = .ok (.invokevirtual 104, 3) := by decide +kernel
theorem dX2_passOneHour_69 : decode cX2_passOneHour 69 = .ok (.checkcast 28, 3) := by decide +kernel
theorem dX2_passOneHour_72 : decode cX2_passOneHour 72 = .ok (.aload_n 0, 1) := by decide +kernel
theorem dX2_passOneHour_73 : decode cX2_passOneHour 73 = .ok (.getfield 101, 3) := by decide +kernel
theorem dX2_passOneHour_76 : decode cX2_passOneHour 76 = .ok (.invokevirtual 235, 3) := by decide +kernel
theorem dX2_passOneHour_79 : decode cX2_passOneHour 79 = .ok (.iinc 2 1, 3) := by decide +kernel
theorem dX2_passOneHour_82 : decode cX2_passOneHour 82 = .ok (.goto (-32), 3) := by decide +kernel
theorem dX2_passOneHour_85 : decode cX2_passOneHour 85 = .ok (.iload_n 1, 1) := by decide +kernel
theorem dX2_passOneHour_86 : decode cX2_passOneHour 86 = .ok (.ireturn, 1) := by decide +kernel
theorem dX2_beginTrial_0 : decode cX2_beginTrial 0 = .ok (.aload_n 0, 1) := by decide +kernel
theorem dX2_beginTrial_1 : decode cX2_beginTrial 1 = .ok (.getfield 24, 3) := by decide +kernel
theorem dX2_beginTrial_4 : decode cX2_beginTrial 4 = .ok (.aload_n 1, 1) := by decide +kernel
theorem dX2_beginTrial_5 : decode cX2_beginTrial 5 = .ok (.getfield 72, 3) := by decide +kernel
theorem dX2_beginTrial_8 : decode cX2_beginTrial 8 = .ok (.invokevirtual 238, 3) := by decide +kernel
theorem dX2_beginTrial_11 : decode cX2_beginTrial 11 = .ok (.aload_n 0, 1) := by decide +kernel
theorem dX2_beginTrial_12 : decode cX2_beginTrial 12 = .ok (.getfield 33, 3) := by decide +kernel
theorem dX2_beginTrial_15 : decode cX2_beginTrial 15 = .ok (.aload_n 1, 1) := by decide +kernel
theorem dX2_beginTrial_16 : decode cX2_beginTrial 16 = .ok (.invokevirtual 242, 3) := by decide +kernel
theorem dX2_beginTrial_19 : decode cX2_beginTrial 19 = .ok (.return_, 1) := by decide +kernel
theorem dX2_passTrialHour_0 : decode cX2_passTrialHour 0 = .ok (.aload_n 0, 1) := by decide +kernel
theorem dX2_passTrialHour_1 : decode cX2_passTrialHour 1 = .ok (.getfield 24, 3) := by decide +kernel
theorem dX2_passTrialHour_4 : decode cX2_passTrialHour 4 = .ok (.invokevirtual 232, 3) := by decide +kernel
theorem dX2_passTrialHour_7 : decode cX2_passTrialHour 7 = .ok (.pop, 1) := by decide +kernel
theorem dX2_passTrialHour_8 : decode cX2_passTrialHour 8 = .ok (.aload_n 0, 1) := by decide +kernel
theorem dX2_passTrialHour_9 : decode cX2_passTrialHour 9 = .ok (.getfield 33, 3) := by decide +kernel
theorem dX2_passTrialHour_12 : decode cX2_passTrialHour 12 = .ok (.aload_n 0, 1) := by decide +kernel
theorem dX2_passTrialHour_13 : decode cX2_passTrialHour 13 = .ok (.getfield 101, 3) := by decide +kernel
theorem dX2_passTrialHour_16 : decode cX2_passTrialHour 16 = .ok (.iload_n 1, 1) := by decide +kernel
theorem dX2_passTrialHour_17 : decode cX2_passTrialHour 17 = .ok (.iadd, 1) := by decide +kernel
theorem dX2_passTrialHour_18 : decode cX2_passTrialHour 18 = .ok (.iconst 1, 1) := by decide +kernel
theorem dX2_passTrialHour_19 : decode cX2_passTrialHour 19 = .ok (.iadd, 1) := by decide +kernel
theorem dX2_passTrialHour_20 : decode cX2_passTrialHour 20 = .ok (.invokevirtual 235, 3) := by decide +kernel
theorem dX2_passTrialHour_23 : decode cX2_passTrialHour 23 = .ok (.return_, 1) := by decide +kernel
theorem dX2_tryWishes_0 : decode cX2_tryWishes 0 = .ok (.iconst 0, 1) := by decide +kernel
theorem dX2_tryWishes_1 : decode cX2_tryWishes 1 = .ok (.istore_n 3, 1) := by decide +kernel
theorem dX2_tryWishes_2 : decode cX2_tryWishes 2 = .ok (.iconst 0, 1) := by decide +kernel
theorem dX2_tryWishes_3 : decode cX2_tryWishes 3 = .ok (.istore 4, 2) := by decide +kernel
theorem dX2_tryWishes_5 : decode cX2_tryWishes 5 = .ok (.iload 4, 2) := by decide +kernel
theorem dX2_tryWishes_7 : decode cX2_tryWishes 7 = .ok (.iload_n 2, 1) := by decide +kernel
theorem dX2_tryWishes_8 : decode cX2_tryWishes 8 = .ok (.if_icmp .ge 29, 3) := by decide +kernel
theorem dX2_tryWishes_11 : decode cX2_tryWishes 11 = .ok (.aload_n 0, 1) := by decide +kernel
theorem dX2_tryWishes_12 : decode cX2_tryWishes 12 = .ok (.getfield 33, 3) := by decide +kernel
theorem dX2_tryWishes_15 : decode cX2_tryWishes 15 = .ok (.iload_n 1, 1) := by decide +kernel
theorem dX2_tryWishes_16 : decode cX2_tryWishes 16 = .ok (.invokevirtual 85, 3) := by decide +kernel
theorem dX2_tryWishes_19 : decode cX2_tryWishes 19 = .ok (.ifCond .eq 6, 3) := by decide +kernel
theorem dX2_tryWishes_22 : decode cX2_tryWishes 22 = .ok (.iinc 3 1, 3) := by decide +kernel
theorem dX2_tryWishes_25 : decode cX2_tryWishes 25 = .ok (.aload_n 0, 1) := by decide +kernel
theorem dX2_tryWishes_26 : decode cX2_tryWishes 26 = .ok (.iload 4, 2) := by decide +kernel
theorem dX2_tryWishes_28 : decode cX2_tryWishes 28 = .ok (.invokevirtual 149, 3) := by decide +kernel
theorem dX2_tryWishes_31 : decode cX2_tryWishes 31 = .ok (.iinc 4 1, 3) := by decide +kernel
theorem dX2_tryWishes_34 : decode cX2_tryWishes 34 = .ok (.goto (-29), 3) := by decide +kernel
theorem dX2_tryWishes_37 : decode cX2_tryWishes 37 = .ok (.iload_n 3, 1) := by decide +kernel
theorem dX2_tryWishes_38 : decode cX2_tryWishes 38 = .ok (.ireturn, 1) := by decide +kernel
theorem dX2_wandAt_0 : decode cX2_wandAt 0 = .ok (.iload_n 1, 1) := by decide +kernel
theorem dX2_wandAt_1 : decode cX2_wandAt 1 = .ok (.ifCond .lt 14, 3) := by decide +kernel
theorem dX2_wandAt_4 : decode cX2_wandAt 4 = .ok (.iload_n 1, 1) := by decide +kernel
theorem dX2_wandAt_5 : decode cX2_wandAt 5 = .ok (.aload_n 0, 1) := by decide +kernel
theorem dX2_wandAt_6 : decode cX2_wandAt 6 = .ok (.getfield 10, 3) := by decide +kernel
theorem dX2_wandAt_9 : decode cX2_wandAt 9 = .ok (.invokevirtual 40, 3) := by decide +kernel
theorem dX2_wandAt_12 : decode cX2_wandAt 12 = .ok (.if_icmp .lt 13, 3) := by decide +kernel
theorem dX2_wandAt_15 : decode cX2_wandAt 15 = .ok (.new 244, 3) := by decide +kernel
theorem dX2_wandAt_18 : decode cX2_wandAt 18 = .ok (.dup, 1) := by decide +kernel
theorem dX2_wandAt_19 : decode cX2_wandAt 19 = .ok (.ldc 246, 2) := by decide +kernel
theorem dX2_wandAt_21 : decode cX2_wandAt 21 = .ok (.invokespecial 248, 3) := by decide +kernel
theorem dX2_wandAt_24 : decode cX2_wandAt 24 = .ok (.athrow, 1) := by decide +kernel
theorem dX2_wandAt_25 : decode cX2_wandAt 25 = .ok (.aload_n 0, 1) := by decide +kernel
theorem dX2_wandAt_26 : decode cX2_wandAt 26 = .ok (.getfield 10, 3) := by decide +kernel
theorem dX2_wandAt_29 : decode cX2_wandAt 29 = .ok (.iload_n 1, 1) := by decide +kernel
theorem dX2_wandAt_30 : decode cX2_wandAt 30 = .ok (.invokevirtual 104, 3) := by decide +kernel
theorem dX2_wandAt_33 : decode cX2_wandAt 33 = .ok (.checkcast 19, 3) := by decide +kernel
theorem dX2_wandAt_36 : decode cX2_wandAt 36 = .ok (.areturn, 1) := by decide +kernel
theorem dX2_childAt_0 : decode cX2_childAt 0 = .ok (.iload_n 1, 1) := by decide +kernel
theorem dX2_childAt_1 : decode cX2_childAt 1 = .ok (.ifCond .lt 14, 3) := by decide +kernel
theorem dX2_childAt_4 : decode cX2_childAt 4 = .ok (.iload_n 1, 1) := by decide +kernel
theorem dX2_childAt_5 : decode cX2_childAt 5 = .ok (.aload_n 0, 1) := by decide +kernel
theorem dX2_childAt_6 : decode cX2_childAt 6 = .ok (.getfield 16, 3) := by decide +kernel
theorem dX2_childAt_9 : decode cX2_childAt 9 = .ok (.invokevirtual 40, 3) := by decide +kernel
theorem dX2_childAt_12 : decode cX2_childAt 12 = .ok (.if_icmp .lt 13, 3) := by decide +kernel
theorem dX2_childAt_15 : decode cX2_childAt 15 = .ok (.new 244, 3) := by decide +kernel
theorem dX2_childAt_18 : decode cX2_childAt 18 = .ok (.dup, 1) := by decide +kernel
theorem dX2_childAt_19 : decode cX2_childAt 19 = .ok (.ldc 249, 2) := by decide +kernel
theorem dX2_childAt_21 : decode cX2_childAt 21 = .ok (.invokespecial 248, 3) := by decide +kernel
theorem dX2_childAt_24 : decode cX2_childAt 24 = .ok (.athrow, 1) := by decide +kernel
theorem dX2_childAt_25 : decode cX2_childAt 25 = .ok (.aload_n 0, 1) := by decide +kernel
theorem dX2_childAt_26 : decode cX2_childAt 26 = .ok (.getfield 16, 3) := by decide +kernel
theorem dX2_childAt_29 : decode cX2_childAt 29 = .ok (.iload_n 1, 1) := by decide +kernel
theorem dX2_childAt_30 : decode cX2_childAt 30 = .ok (.invokevirtual 104, 3) := by decide +kernel
theorem dX2_childAt_33 : decode cX2_childAt 33 = .ok (.checkcast 28, 3) := by decide +kernel
theorem dX2_childAt_36 : decode cX2_childAt 36 = .ok (.areturn, 1) := by decide +kernel
theorem dX2_needSize_0 : decode cX2_needSize 0 = .ok (.iload_n 0, 1) := by decide +kernel
theorem dX2_needSize_1 : decode cX2_needSize 1 = .ok (.iconst 1, 1) := by decide +kernel
theorem dX2_needSize_2 : decode cX2_needSize 2 = .ok (.bipush 20, 2) := by decide +kernel
theorem dX2_needSize_4 : decode cX2_needSize 4 = .ok (.invokestatic 37, 3) := by decide +kernel
theorem dX2_needSize_7 : decode cX2_needSize 7 = .ok (.return_, 1) := by decide +kernel
theorem dX2_needWithin_0 : decode cX2_needWithin 0 = .ok (.iload_n 0, 1) := by decide +kernel
theorem dX2_needWithin_1 : decode cX2_needWithin 1 = .ok (.iload_n 1, 1) := by decide +kernel
theorem dX2_needWithin_2 : decode cX2_needWithin 2 = .ok (.if_icmp .lt 8, 3) := by decide +kernel
theorem dX2_needWithin_5 : decode cX2_needWithin 5 = .ok (.iload_n 0, 1) := by decide +kernel
theorem dX2_needWithin_6 : decode cX2_needWithin 6 = .ok (.iload_n 2, 1) := by decide +kernel
theorem dX2_needWithin_7 : decode cX2_needWithin 7 = .ok (.if_icmp .le 13, 3) := by decide +kernel
theorem dX2_needWithin_10 : decode cX2_needWithin 10 = .ok (.new 251, 3) := by decide +kernel
theorem dX2_needWithin_13 : decode cX2_needWithin 13 = .ok (.dup, 1) := by decide +kernel
theorem dX2_needWithin_14 : decode cX2_needWithin 14 = .ok (.ldc 253, 2) := by decide +kernel
theorem dX2_needWithin_16 : decode cX2_needWithin 16 = .ok (.invokespecial 255, 3) := by decide +kernel
theorem dX2_needWithin_19 : decode cX2_needWithin 19 = .ok (.athrow, 1) := by decide +kernel
theorem dX2_needWithin_20 : decode cX2_needWithin 20 = .ok (.return_, 1) := by decide +kernel
theorem dJ9_floorMod_7cf53_0 : decode cJ9_floorMod_7cf53 0 = .ok (.iload_n 0, 1) := by decide +kernel
theorem dJ9_floorMod_7cf53_1 : decode cJ9_floorMod_7cf53 1 = .ok (.iload_n 1, 1) := by decide +kernel
theorem dJ9_floorMod_7cf53_2 : decode cJ9_floorMod_7cf53 2 = .ok (.irem, 1) := by decide +kernel
theorem dJ9_floorMod_7cf53_3 : decode cJ9_floorMod_7cf53 3 = .ok (.istore_n 2, 1) := by decide +kernel
theorem dJ9_floorMod_7cf53_4 : decode cJ9_floorMod_7cf53 4 = .ok (.iload_n 0, 1) := by decide +kernel
theorem dJ9_floorMod_7cf53_5 : decode cJ9_floorMod_7cf53 5 = .ok (.iload_n 1, 1) := by decide +kernel
theorem dJ9_floorMod_7cf53_6 : decode cJ9_floorMod_7cf53 6 = .ok (.ixor, 1) := by decide +kernel
theorem dJ9_floorMod_7cf53_7 : decode cJ9_floorMod_7cf53 7 = .ok (.ifCond .ge 11, 3) := by decide +kernel
theorem dJ9_floorMod_7cf53_10 : decode cJ9_floorMod_7cf53 10 = .ok (.iload_n 2, 1) := by decide +kernel
theorem dJ9_floorMod_7cf53_11 : decode cJ9_floorMod_7cf53 11 = .ok (.ifCond .eq 7, 3) := by decide +kernel
theorem dJ9_floorMod_7cf53_14 : decode cJ9_floorMod_7cf53 14 = .ok (.iload_n 2, 1) := by decide +kernel
theorem dJ9_floorMod_7cf53_15 : decode cJ9_floorMod_7cf53 15 = .ok (.iload_n 1, 1) := by decide +kernel
theorem dJ9_floorMod_7cf53_16 : decode cJ9_floorMod_7cf53 16 = .ok (.iadd, 1) := by decide +kernel
theorem dJ9_floorMod_7cf53_17 : decode cJ9_floorMod_7cf53 17 = .ok (.ireturn, 1) := by decide +kernel
theorem dJ9_floorMod_7cf53_18 : decode cJ9_floorMod_7cf53 18 = .ok (.iload_n 2, 1) := by decide +kernel
theorem dJ9_floorMod_7cf53_19 : decode cJ9_floorMod_7cf53 19 = .ok (.ireturn, 1) := by decide +kernel
theorem dJ9_max_7cf53_0 : decode cJ9_max_7cf53 0 = .ok (.iload_n 0, 1) := by decide +kernel
theorem dJ9_max_7cf53_1 : decode cJ9_max_7cf53 1 = .ok (.iload_n 1, 1) := by decide +kernel
theorem dJ9_max_7cf53_2 : decode cJ9_max_7cf53 2 = .ok (.if_icmp .lt 7, 3) := by decide +kernel
theorem dJ9_max_7cf53_5 : decode cJ9_max_7cf53 5 = .ok (.iload_n 0, 1) := by decide +kernel
theorem dJ9_max_7cf53_6 : decode cJ9_max_7cf53 6 = .ok (.goto 4, 3) := by decide +kernel
theorem dJ9_max_7cf53_9 : decode cJ9_max_7cf53 9 = .ok (.iload_n 1, 1) := by decide +kernel
theorem dJ9_max_7cf53_10 : decode cJ9_max_7cf53 10 = .ok (.ireturn, 1) := by decide +kernel
theorem dJ9_min_7cf53_0 : decode cJ9_min_7cf53 0 = .ok (.iload_n 0, 1) := by decide +kernel
theorem dJ9_min_7cf53_1 : decode cJ9_min_7cf53 1 = .ok (.iload_n 1, 1) := by decide +kernel
theorem dJ9_min_7cf53_2 : decode cJ9_min_7cf53 2 = .ok (.if_icmp .gt 7, 3) := by decide +kernel
theorem dJ9_min_7cf53_5 : decode cJ9_min_7cf53 5 = .ok (.iload_n 0, 1) := by decide +kernel
theorem dJ9_min_7cf53_6 : decode cJ9_min_7cf53 6 = .ok (.goto 4, 3) := by decide +kernel
theorem dJ9_min_7cf53_9 : decode cJ9_min_7cf53 9 = .ok (.iload_n 1, 1) := by decide +kernel
theorem dJ9_min_7cf53_10 : decode cJ9_min_7cf53 10 = .ok (.ireturn, 1) := by decide +kernel
theorem dJxa1e45_init_da8c8_0 : decode cJxa1e45_init_da8c8 0 = .ok (.aload_n 0, 1) := by decide +kernel
theorem dJxa1e45_init_da8c8_1 : decode cJxa1e45_init_da8c8 1 = .ok (.invokespecial 1, 3) := by decide +kernel
theorem dJxa1e45_init_da8c8_4 : decode cJxa1e45_init_da8c8 4 = .ok (.return_, 1) := by decide +kernel
theorem dJxc12de_init_da8c8_0 : decode cJxc12de_init_da8c8 0 = .ok (.aload_n 0, 1) := by decide +kernel
theorem dJxc12de_init_da8c8_1 : decode cJxc12de_init_da8c8 1 = .ok (.invokespecial 1, 3) := by decide +kernel
theorem dJxc12de_init_da8c8_4 : decode cJxc12de_init_da8c8 4 = .ok (.aload_n 0, 1) := by decide +kernel
theorem dJxc12de_init_da8c8_5 : decode cJxc12de_init_da8c8 5 = .ok (.iconst 0, 1) := by decide +kernel
theorem dJxc12de_init_da8c8_6 : decode cJxc12de_init_da8c8 6 = .ok (.putfield 7, 3) := by decide +kernel
theorem dJxc12de_init_da8c8_9 : decode cJxc12de_init_da8c8 9 = .ok (.return_, 1) := by decide +kernel
theorem dJx4a65c_init_da8c8_0 : decode cJx4a65c_init_da8c8 0 = .ok (.aload_n 0, 1) := by decide +kernel
theorem dJx4a65c_init_da8c8_1 : decode cJx4a65c_init_da8c8 1 = .ok (.invokespecial 1, 3) := by decide +kernel
theorem dJx4a65c_init_da8c8_4 : decode cJx4a65c_init_da8c8 4 = .ok (.aload_n 0, 1) := by decide +kernel
theorem dJx4a65c_init_da8c8_5 : decode cJx4a65c_init_da8c8 5 = .ok (.getstatic 39, 3) := by decide +kernel
theorem dJx4a65c_init_da8c8_8 : decode cJx4a65c_init_da8c8 8 = .ok (.putfield 9, 3) := by decide +kernel
theorem dJx4a65c_init_da8c8_11 : decode cJx4a65c_init_da8c8 11 = .ok (.return_, 1) := by decide +kernel
theorem dJx4a65c_grow_92f84_0 : decode cJx4a65c_grow_92f84 0 = .ok (.aload_n 0, 1) := by decide +kernel
theorem dJx4a65c_grow_92f84_1 : decode cJx4a65c_grow_92f84 1 = .ok (.getfield 9, 3) := by decide +kernel
theorem dJx4a65c_grow_92f84_4 : decode cJx4a65c_grow_92f84 4 = .ok (.arraylength, 1) := by decide +kernel
theorem dJx4a65c_grow_92f84_5 : decode cJx4a65c_grow_92f84 5 = .ok (.istore_n 2, 1) := by decide +kernel
theorem dJx4a65c_grow_92f84_6 : decode cJx4a65c_grow_92f84 6 = .ok (.iload_n 2, 1) := by decide +kernel
theorem dJx4a65c_grow_92f84_7 : decode cJx4a65c_grow_92f84 7 = .ok (.ifCond .gt 13, 3) := by decide +kernel
theorem dJx4a65c_grow_92f84_10 : decode cJx4a65c_grow_92f84 10 = .ok (.aload_n 0, 1) := by decide +kernel
theorem dJx4a65c_grow_92f84_11 : decode cJx4a65c_grow_92f84 11 = .ok (.getfield 9, 3) := by decide +kernel
theorem dJx4a65c_grow_92f84_14 : decode cJx4a65c_grow_92f84 14 = .ok (.getstatic 39, 3) := by decide +kernel
theorem dJx4a65c_grow_92f84_17 : decode cJx4a65c_grow_92f84 17 = .ok (.if_acmp .eq 28, 3) := by decide +kernel
theorem dJx4a65c_grow_92f84_20 : decode cJx4a65c_grow_92f84 20 = .ok (.iload_n 2, 1) := by decide +kernel
theorem dJx4a65c_grow_92f84_21 : decode cJx4a65c_grow_92f84 21 = .ok (.iload_n 1, 1) := by decide +kernel
theorem dJx4a65c_grow_92f84_22 : decode cJx4a65c_grow_92f84 22 = .ok (.iload_n 2, 1) := by decide +kernel
theorem dJx4a65c_grow_92f84_23 : decode cJx4a65c_grow_92f84 23 = .ok (.isub, 1) := by decide +kernel
theorem dJx4a65c_grow_92f84_24 : decode cJx4a65c_grow_92f84 24 = .ok (.iload_n 2, 1) := by decide +kernel
theorem dJx4a65c_grow_92f84_25 : decode cJx4a65c_grow_92f84 25 = .ok (.iconst 1, 1) := by decide +kernel
theorem dJx4a65c_grow_92f84_26 : decode cJx4a65c_grow_92f84 26 = .ok (.ishr, 1) := by decide +kernel
theorem dJx4a65c_grow_92f84_27 : decode cJx4a65c_grow_92f84 27 = .ok (.invokestatic 73, 3) := by decide +kernel
theorem dJx4a65c_grow_92f84_30 : decode cJx4a65c_grow_92f84 30 = .ok (.istore_n 3, 1) := by decide +kernel
theorem dJx4a65c_grow_92f84_31 : decode cJx4a65c_grow_92f84 31 = .ok (.aload_n 0, 1) := by decide +kernel
theorem dJx4a65c_grow_92f84_32 : decode cJx4a65c_grow_92f84 32 = .ok (.aload_n 0, 1) := by decide +kernel
theorem dJx4a65c_grow_92f84_33 : decode cJx4a65c_grow_92f84 33 = .ok (.getfield 9, 3) := by decide +kernel
theorem dJx4a65c_grow_92f84_36 : decode cJx4a65c_grow_92f84 36 = .ok (.iload_n 3, 1) := by decide +kernel
theorem dJx4a65c_grow_92f84_37 : decode cJx4a65c_grow_92f84 37 = .ok (.invokestatic 66, 3) := by decide +kernel
theorem dJx4a65c_grow_92f84_40 : decode cJx4a65c_grow_92f84 40 = .ok (.dup_x1, 1) := by decide +kernel
theorem dJx4a65c_grow_92f84_41 : decode cJx4a65c_grow_92f84 41 = .ok (.putfield 9, 3) := by decide +kernel
theorem dJx4a65c_grow_92f84_44 : decode cJx4a65c_grow_92f84 44 = .ok (.areturn, 1) := by decide +kernel
theorem dJx4a65c_grow_92f84_45 : decode cJx4a65c_grow_92f84 45 = .ok (.aload_n 0, 1) := by decide +kernel
theorem dJx4a65c_grow_92f84_46 : decode cJx4a65c_grow_92f84 46 = .ok (.bipush 10, 2) := by decide +kernel
theorem dJx4a65c_grow_92f84_48 : decode cJx4a65c_grow_92f84 48 = .ok (.iload_n 1, 1) := by decide +kernel
theorem dJx4a65c_grow_92f84_49 : decode cJx4a65c_grow_92f84 49 = .ok (.invokestatic 79, 3) := by decide +kernel
theorem dJx4a65c_grow_92f84_52 : decode cJx4a65c_grow_92f84 52 = .ok (.anewarray 7, 3) := by decide +kernel
theorem dJx4a65c_grow_92f84_55 : decode cJx4a65c_grow_92f84 55 = .ok (.dup_x1, 1) := by decide +kernel
theorem dJx4a65c_grow_92f84_56 : decode cJx4a65c_grow_92f84 56 = .ok (.putfield 9, 3) := by decide +kernel
theorem dJx4a65c_grow_92f84_59 : decode cJx4a65c_grow_92f84 59 = .ok (.areturn, 1) := by decide +kernel
theorem dJx4a65c_grow_d5877_0 : decode cJx4a65c_grow_d5877 0 = .ok (.aload_n 0, 1) := by decide +kernel
theorem dJx4a65c_grow_d5877_1 : decode cJx4a65c_grow_d5877 1 = .ok (.aload_n 0, 1) := by decide +kernel
theorem dJx4a65c_grow_d5877_2 : decode cJx4a65c_grow_d5877 2 = .ok (.getfield 48, 3) := by decide +kernel
theorem dJx4a65c_grow_d5877_5 : decode cJx4a65c_grow_d5877 5 = .ok (.iconst 1, 1) := by decide +kernel
theorem dJx4a65c_grow_d5877_6 : decode cJx4a65c_grow_d5877 6 = .ok (.iadd, 1) := by decide +kernel
theorem dJx4a65c_grow_d5877_7 : decode cJx4a65c_grow_d5877 7 = .ok (.invokevirtual 69, 3) := by decide +kernel
theorem dJx4a65c_grow_d5877_10 : decode cJx4a65c_grow_d5877 10 = .ok (.areturn, 1) := by decide +kernel
theorem dJx4a65c_size_8abf5_0 : decode cJx4a65c_size_8abf5 0 = .ok (.aload_n 0, 1) := by decide +kernel
theorem dJx4a65c_size_8abf5_1 : decode cJx4a65c_size_8abf5 1 = .ok (.getfield 48, 3) := by decide +kernel
theorem dJx4a65c_size_8abf5_4 : decode cJx4a65c_size_8abf5 4 = .ok (.ireturn, 1) := by decide +kernel
theorem dJx4a65c_elementData_915e3_0 : decode cJx4a65c_elementData_915e3 0 = .ok (.aload_n 0, 1) := by decide +kernel
theorem dJx4a65c_elementData_915e3_1 : decode cJx4a65c_elementData_915e3 1 = .ok (.getfield 9, 3) := by decide +kernel
theorem dJx4a65c_elementData_915e3_4 : decode cJx4a65c_elementData_915e3 4 = .ok (.iload_n 1, 1) := by decide +kernel
theorem dJx4a65c_elementData_915e3_5 : decode cJx4a65c_elementData_915e3 5 = .ok (.aaload, 1) := by decide +kernel
theorem dJx4a65c_elementData_915e3_6 : decode cJx4a65c_elementData_915e3 6 = .ok (.areturn, 1) := by decide +kernel
theorem dJx4a65c_get_915e3_0 : decode cJx4a65c_get_915e3 0 = .ok (.iload_n 1, 1) := by decide +kernel
theorem dJx4a65c_get_915e3_1 : decode cJx4a65c_get_915e3 1 = .ok (.aload_n 0, 1) := by decide +kernel
theorem dJx4a65c_get_915e3_2 : decode cJx4a65c_get_915e3 2 = .ok (.getfield 48, 3) := by decide +kernel
theorem dJx4a65c_get_915e3_5 : decode cJx4a65c_get_915e3 5 = .ok (.invokestatic 118, 3) := by decide +kernel
theorem dJx4a65c_get_915e3_8 : decode cJx4a65c_get_915e3 8 = .ok (.pop, 1) := by decide +kernel
theorem dJx4a65c_get_915e3_9 : decode cJx4a65c_get_915e3 9 = .ok (.aload_n 0, 1) := by decide +kernel
theorem dJx4a65c_get_915e3_10 : decode cJx4a65c_get_915e3 10 = .ok (.iload_n 1, 1) := by decide +kernel
theorem dJx4a65c_get_915e3_11 : decode cJx4a65c_get_915e3 11 = .ok (.invokevirtual 123, 3) := by decide +kernel
theorem dJx4a65c_get_915e3_14 : decode cJx4a65c_get_915e3 14 = .ok (.areturn, 1) := by decide +kernel
theorem dJx4a65c_add_72be8_0 : decode cJx4a65c_add_72be8 0 = .ok (.iload_n 3, 1) := by decide +kernel
theorem dJx4a65c_add_72be8_1 : decode cJx4a65c_add_72be8 1 = .ok (.aload_n 2, 1) := by decide +kernel
theorem dJx4a65c_add_72be8_2 : decode cJx4a65c_add_72be8 2 = .ok (.arraylength, 1) := by decide +kernel
theorem dJx4a65c_add_72be8_3 : decode cJx4a65c_add_72be8 3 = .ok (.if_icmp .ne 8, 3) := by decide +kernel
theorem dJx4a65c_add_72be8_6 : decode cJx4a65c_add_72be8 6 = .ok (.aload_n 0, 1) := by decide +kernel
theorem dJx4a65c_add_72be8_7 : decode cJx4a65c_add_72be8 7 = .ok (.invokevirtual 129, 3) := by decide +kernel
theorem dJx4a65c_add_72be8_10 : decode cJx4a65c_add_72be8 10 = .ok (.astore_n 2, 1) := by decide +kernel
theorem dJx4a65c_add_72be8_11 : decode cJx4a65c_add_72be8 11 = .ok (.aload_n 2, 1) := by decide +kernel
theorem dJx4a65c_add_72be8_12 : decode cJx4a65c_add_72be8 12 = .ok (.iload_n 3, 1) := by decide +kernel
theorem dJx4a65c_add_72be8_13 : decode cJx4a65c_add_72be8 13 = .ok (.aload_n 1, 1) := by decide +kernel
theorem dJx4a65c_add_72be8_14 : decode cJx4a65c_add_72be8 14 = .ok (.aastore, 1) := by decide +kernel
theorem dJx4a65c_add_72be8_15 : decode cJx4a65c_add_72be8 15 = .ok (.aload_n 0, 1) := by decide +kernel
theorem dJx4a65c_add_72be8_16 : decode cJx4a65c_add_72be8 16 = .ok (.iload_n 3, 1) := by decide +kernel
theorem dJx4a65c_add_72be8_17 : decode cJx4a65c_add_72be8 17 = .ok (.iconst 1, 1) := by decide +kernel
theorem dJx4a65c_add_72be8_18 : decode cJx4a65c_add_72be8 18 = .ok (.iadd, 1) := by decide +kernel
theorem dJx4a65c_add_72be8_19 : decode cJx4a65c_add_72be8 19 = .ok (.putfield 48, 3) := by decide +kernel
theorem dJx4a65c_add_72be8_22 : decode cJx4a65c_add_72be8 22 = .ok (.return_, 1) := by decide +kernel
theorem dJx4a65c_add_9ea2d_0 : decode cJx4a65c_add_9ea2d 0 = .ok (.aload_n 0, 1) := by decide +kernel
theorem dJx4a65c_add_9ea2d_1 : decode cJx4a65c_add_9ea2d 1 = .ok (.dup, 1) := by decide +kernel
theorem dJx4a65c_add_9ea2d_2 : decode cJx4a65c_add_9ea2d 2 = .ok (.getfield 63, 3) := by decide +kernel
theorem dJx4a65c_add_9ea2d_5 : decode cJx4a65c_add_9ea2d 5 = .ok (.iconst 1, 1) := by decide +kernel
theorem dJx4a65c_add_9ea2d_6 : decode cJx4a65c_add_9ea2d 6 = .ok (.iadd, 1) := by decide +kernel
theorem dJx4a65c_add_9ea2d_7 : decode cJx4a65c_add_9ea2d 7 = .ok (.putfield 63, 3) := by decide +kernel
theorem dJx4a65c_add_9ea2d_10 : decode cJx4a65c_add_9ea2d 10 = .ok (.aload_n 0, 1) := by decide +kernel
theorem dJx4a65c_add_9ea2d_11 : decode cJx4a65c_add_9ea2d 11 = .ok (.aload_n 1, 1) := by decide +kernel
theorem dJx4a65c_add_9ea2d_12 : decode cJx4a65c_add_9ea2d 12 = .ok (.aload_n 0, 1) := by decide +kernel
theorem dJx4a65c_add_9ea2d_13 : decode cJx4a65c_add_9ea2d 13 = .ok (.getfield 9, 3) := by decide +kernel
theorem dJx4a65c_add_9ea2d_16 : decode cJx4a65c_add_9ea2d 16 = .ok (.aload_n 0, 1) := by decide +kernel
theorem dJx4a65c_add_9ea2d_17 : decode cJx4a65c_add_9ea2d 17 = .ok (.getfield 48, 3) := by decide +kernel
theorem dJx4a65c_add_9ea2d_20 : decode cJx4a65c_add_9ea2d 20 = .ok (.invokevirtual 131, 3) := by decide +kernel
theorem dJx4a65c_add_9ea2d_23 : decode cJx4a65c_add_9ea2d 23 = .ok (.iconst 1, 1) := by decide +kernel
theorem dJx4a65c_add_9ea2d_24 : decode cJx4a65c_add_9ea2d 24 = .ok (.ireturn, 1) := by decide +kernel
theorem dJ7_copyOf_1904c_0 : decode cJ7_copyOf_1904c 0 = .ok (.aload_n 0, 1) := by decide +kernel
theorem dJ7_copyOf_1904c_1 : decode cJ7_copyOf_1904c 1 = .ok (.iload_n 1, 1) := by decide +kernel
theorem dJ7_copyOf_1904c_2 : decode cJ7_copyOf_1904c 2 = .ok (.aload_n 0, 1) := by decide +kernel
theorem dJ7_copyOf_1904c_3 : decode cJ7_copyOf_1904c 3 = .ok (.invokevirtual 86, 3) := by decide +kernel
theorem dJ7_copyOf_1904c_6 : decode cJ7_copyOf_1904c 6 = .ok (.invokestatic 300, 3) := by decide +kernel
theorem dJ7_copyOf_1904c_9 : decode cJ7_copyOf_1904c 9 = .ok (.areturn, 1) := by decide +kernel
theorem dJ7_copyOf_6403c_0 : decode cJ7_copyOf_6403c 0 = .ok (.aload_n 2, 1) := by decide +kernel
theorem dJ7_copyOf_6403c_1 : decode cJ7_copyOf_6403c 1 = .ok (.ldc 110, 2) := by decide +kernel
theorem dJ7_copyOf_6403c_3 : decode cJ7_copyOf_6403c 3 = .ok (.if_acmp .ne 10, 3) := by decide +kernel
theorem dJ7_copyOf_6403c_6 : decode cJ7_copyOf_6403c 6 = .ok (.iload_n 1, 1) := by decide +kernel
theorem dJ7_copyOf_6403c_7 : decode cJ7_copyOf_6403c 7 = .ok (.anewarray 2, 3) := by decide +kernel
theorem dJ7_copyOf_6403c_10 : decode cJ7_copyOf_6403c 10 = .ok (.goto 14, 3) := by decide +kernel
theorem dJ7_copyOf_6403c_13 : decode cJ7_copyOf_6403c 13 = .ok (.aload_n 2, 1) := by decide +kernel
theorem dJ7_copyOf_6403c_14 : decode cJ7_copyOf_6403c 14 = .ok (.invokevirtual 90, 3) := by decide +kernel
theorem dJ7_copyOf_6403c_17 : decode cJ7_copyOf_6403c 17 = .ok (.iload_n 1, 1) := by decide +kernel
theorem dJ7_copyOf_6403c_18 : decode cJ7_copyOf_6403c 18 = .ok (.invokestatic 95, 3) := by decide +kernel
theorem dJ7_copyOf_6403c_21 : decode cJ7_copyOf_6403c 21 = .ok (.checkcast 110, 3) := by decide +kernel
theorem dJ7_copyOf_6403c_24 : decode cJ7_copyOf_6403c 24 = .ok (.astore_n 3, 1) := by decide +kernel
theorem dJ7_copyOf_6403c_25 : decode cJ7_copyOf_6403c 25 = .ok (.aload_n 0, 1) := by decide +kernel
theorem dJ7_copyOf_6403c_26 : decode cJ7_copyOf_6403c 26 = .ok (.iconst 0, 1) := by decide +kernel
theorem dJ7_copyOf_6403c_27 : decode cJ7_copyOf_6403c 27 = .ok (.aload_n 3, 1) := by decide +kernel
theorem dJ7_copyOf_6403c_28 : decode cJ7_copyOf_6403c 28 = .ok (.iconst 0, 1) := by decide +kernel
theorem dJ7_copyOf_6403c_29 : decode cJ7_copyOf_6403c 29 = .ok (.aload_n 0, 1) := by decide +kernel
theorem dJ7_copyOf_6403c_30 : decode cJ7_copyOf_6403c 30 = .ok (.arraylength, 1) := by decide +kernel
theorem dJ7_copyOf_6403c_31 : decode cJ7_copyOf_6403c 31 = .ok (.iload_n 1, 1) := by decide +kernel
theorem dJ7_copyOf_6403c_32 : decode cJ7_copyOf_6403c 32 = .ok (.invokestatic 304, 3) := by decide +kernel
theorem dJ7_copyOf_6403c_35 : decode cJ7_copyOf_6403c 35 = .ok (.invokestatic 150, 3) := by decide +kernel
theorem dJ7_copyOf_6403c_38 : decode cJ7_copyOf_6403c 38 = .ok (.aload_n 3, 1) := by decide +kernel
theorem dJ7_copyOf_6403c_39 : decode cJ7_copyOf_6403c 39 = .ok (.areturn, 1) := by decide +kernel
theorem dJ15_checkIndex_7cf53_0 : decode cJ15_checkIndex_7cf53 0 = .ok (.iload_n 0, 1) := by decide +kernel
theorem dJ15_checkIndex_7cf53_1 : decode cJ15_checkIndex_7cf53 1 = .ok (.iload_n 1, 1) := by decide +kernel
theorem dJ15_checkIndex_7cf53_2 : decode cJ15_checkIndex_7cf53 2 = .ok (.aconst_null, 1) := by decide +kernel
theorem dJ15_checkIndex_7cf53_3 : decode cJ15_checkIndex_7cf53 3 = .ok (.invokestatic 105, 3) := by decide +kernel
theorem dJ15_checkIndex_7cf53_6 : decode cJ15_checkIndex_7cf53 6 = .ok (.ireturn, 1) := by decide +kernel
theorem dJ8_newLength_cabcc_0 : decode cJ8_newLength_cabcc 0 = .ok (.iload_n 0, 1) := by decide +kernel
theorem dJ8_newLength_cabcc_1 : decode cJ8_newLength_cabcc 1 = .ok (.iload_n 1, 1) := by decide +kernel
theorem dJ8_newLength_cabcc_2 : decode cJ8_newLength_cabcc 2 = .ok (.iload_n 2, 1) := by decide +kernel
theorem dJ8_newLength_cabcc_3 : decode cJ8_newLength_cabcc 3 = .ok (.invokestatic 194, 3) := by decide +kernel
theorem dJ8_newLength_cabcc_6 : decode cJ8_newLength_cabcc 6 = .ok (.iadd, 1) := by decide +kernel
theorem dJ8_newLength_cabcc_7 : decode cJ8_newLength_cabcc 7 = .ok (.istore_n 3, 1) := by decide +kernel
theorem dJ8_newLength_cabcc_8 : decode cJ8_newLength_cabcc 8 = .ok (.iconst 0, 1) := by decide +kernel
theorem dJ8_newLength_cabcc_9 : decode cJ8_newLength_cabcc 9 = .ok (.iload_n 3, 1) := by decide +kernel
theorem dJ8_newLength_cabcc_10 : decode cJ8_newLength_cabcc 10 = .ok (.if_icmp .ge 11, 3) := by decide +kernel
theorem dJ8_newLength_cabcc_13 : decode cJ8_newLength_cabcc 13 = .ok (.iload_n 3, 1) := by decide +kernel
theorem dJ8_newLength_cabcc_14 : decode cJ8_newLength_cabcc 14 = .ok (.ldc 200, 2) := by decide +kernel
theorem dJ8_newLength_cabcc_16 : decode cJ8_newLength_cabcc 16 = .ok (.if_icmp .gt 5, 3) := by decide +kernel
theorem dJ8_newLength_cabcc_19 : decode cJ8_newLength_cabcc 19 = .ok (.iload_n 3, 1) := by decide +kernel
theorem dJ8_newLength_cabcc_20 : decode cJ8_newLength_cabcc 20 = .ok (.ireturn, 1) := by decide +kernel
theorem dJ8_newLength_cabcc_21 : decode cJ8_newLength_cabcc 21 = .ok (.iload_n 0, 1) := by decide +kernel
theorem dJ8_newLength_cabcc_22 : decode cJ8_newLength_cabcc 22 = .ok (.iload_n 1, 1) := by decide +kernel
theorem dJ8_newLength_cabcc_23 : decode cJ8_newLength_cabcc 23 = .ok (.invokestatic 201, 3) := by decide +kernel
theorem dJ8_newLength_cabcc_26 : decode cJ8_newLength_cabcc 26 = .ok (.ireturn, 1) := by decide +kernel
theorem dJ8_hugeLength_7cf53_0 : decode cJ8_hugeLength_7cf53 0 = .ok (.iload_n 0, 1) := by decide +kernel
theorem dJ8_hugeLength_7cf53_1 : decode cJ8_hugeLength_7cf53 1 = .ok (.iload_n 1, 1) := by decide +kernel
theorem dJ8_hugeLength_7cf53_2 : decode cJ8_hugeLength_7cf53 2 = .ok (.iadd, 1) := by decide +kernel
theorem dJ8_hugeLength_7cf53_3 : decode cJ8_hugeLength_7cf53 3 = .ok (.istore_n 2, 1) := by decide +kernel
theorem dJ8_hugeLength_7cf53_4 : decode cJ8_hugeLength_7cf53 4 = .ok (.iload_n 2, 1) := by decide +kernel
theorem dJ8_hugeLength_7cf53_5 : decode cJ8_hugeLength_7cf53 5 = .ok (.ifCond .ge 44, 3) := by decide +kernel
theorem dJ8_hugeLength_7cf53_8 : decode cJ8_hugeLength_7cf53 8 = .ok (.new 204, 3) := by decide +kernel
theorem dJ8_hugeLength_7cf53_11 : decode cJ8_hugeLength_7cf53 11 = .ok (.dup, 1) := by decide +kernel
theorem dJ8_hugeLength_7cf53_12 : decode cJ8_hugeLength_7cf53 12 = .ok (.new 89, 3) := by decide +kernel
theorem dJ8_hugeLength_7cf53_15 : decode cJ8_hugeLength_7cf53 15 = .ok (.dup, 1) := by decide +kernel
theorem dJ8_hugeLength_7cf53_16 : decode cJ8_hugeLength_7cf53 16 = .ok (.invokespecial 91, 3) := by decide +kernel
theorem dJ8_hugeLength_7cf53_19 : decode cJ8_hugeLength_7cf53 19 = .ok (.ldc 206, 2) := by decide +kernel
theorem dJ8_hugeLength_7cf53_21 : decode cJ8_hugeLength_7cf53 21 = .ok (.invokevirtual 94, 3) := by decide +kernel
theorem dJ8_hugeLength_7cf53_24 : decode cJ8_hugeLength_7cf53 24 = .ok (.iload_n 0, 1) := by decide +kernel
theorem dJ8_hugeLength_7cf53_25 : decode cJ8_hugeLength_7cf53 25 = .ok (.invokevirtual 98, 3) := by decide +kernel
theorem dJ8_hugeLength_7cf53_28 : decode cJ8_hugeLength_7cf53 28 = .ok (.ldc 208, 2) := by decide +kernel
theorem dJ8_hugeLength_7cf53_30 : decode cJ8_hugeLength_7cf53 30 = .ok (.invokevirtual 94, 3) := by decide +kernel
theorem dJ8_hugeLength_7cf53_33 : decode cJ8_hugeLength_7cf53 33 = .ok (.iload_n 1, 1) := by decide +kernel
theorem dJ8_hugeLength_7cf53_34 : decode cJ8_hugeLength_7cf53 34 = .ok (.invokevirtual 98, 3) := by decide +kernel
theorem dJ8_hugeLength_7cf53_37 : decode cJ8_hugeLength_7cf53 37 = .ok (.ldc 210, 2) := by decide +kernel
theorem dJ8_hugeLength_7cf53_39 : decode cJ8_hugeLength_7cf53 39 = .ok (.invokevirtual 94, 3) := by decide +kernel
theorem dJ8_hugeLength_7cf53_42 : decode cJ8_hugeLength_7cf53 42 = .ok (.invokevirtual 101, 3) := by decide +kernel
theorem dJ8_hugeLength_7cf53_45 : decode cJ8_hugeLength_7cf53 45 = .ok (.invokespecial 212, 3) := by decide +kernel
theorem dJ8_hugeLength_7cf53_48 : decode cJ8_hugeLength_7cf53 48 = .ok (.athrow, 1) := by decide +kernel
theorem dJ8_hugeLength_7cf53_49 : decode cJ8_hugeLength_7cf53 49 = .ok (.iload_n 2, 1) := by decide +kernel
theorem dJ8_hugeLength_7cf53_50 : decode cJ8_hugeLength_7cf53 50 = .ok (.ldc 200, 2) := by decide +kernel
theorem dJ8_hugeLength_7cf53_52 : decode cJ8_hugeLength_7cf53 52 = .ok (.if_icmp .gt 6, 3) := by decide +kernel
theorem dJ8_hugeLength_7cf53_55 : decode cJ8_hugeLength_7cf53 55 = .ok (.ldc 200, 2) := by decide +kernel
theorem dJ8_hugeLength_7cf53_57 : decode cJ8_hugeLength_7cf53 57 = .ok (.ireturn, 1) := by decide +kernel
theorem dJ8_hugeLength_7cf53_58 : decode cJ8_hugeLength_7cf53 58 = .ok (.iload_n 2, 1) := by decide +kernel
theorem dJ8_hugeLength_7cf53_59 : decode cJ8_hugeLength_7cf53 59 = .ok (.ireturn, 1) := by decide +kernel
theorem dJ3_checkIndex_8e157_0 : decode cJ3_checkIndex_8e157 0 = .ok (.iload_n 0, 1) := by decide +kernel
theorem dJ3_checkIndex_8e157_1 : decode cJ3_checkIndex_8e157 1 = .ok (.ifCond .lt 8, 3) := by decide +kernel
theorem dJ3_checkIndex_8e157_4 : decode cJ3_checkIndex_8e157 4 = .ok (.iload_n 0, 1) := by decide +kernel
theorem dJ3_checkIndex_8e157_5 : decode cJ3_checkIndex_8e157 5 = .ok (.iload_n 1, 1) := by decide +kernel
theorem dJ3_checkIndex_8e157_6 : decode cJ3_checkIndex_8e157 6 = .ok (.if_icmp .lt 10, 3) := by decide +kernel
theorem dJ3_checkIndex_8e157_9 : decode cJ3_checkIndex_8e157 9 = .ok (.aload_n 2, 1) := by decide +kernel
theorem dJ3_checkIndex_8e157_10 : decode cJ3_checkIndex_8e157 10 = .ok (.iload_n 0, 1) := by decide +kernel
theorem dJ3_checkIndex_8e157_11 : decode cJ3_checkIndex_8e157 11 = .ok (.iload_n 1, 1) := by decide +kernel
theorem dJ3_checkIndex_8e157_12 : decode cJ3_checkIndex_8e157 12 = .ok (.invokestatic 95, 3) := by decide +kernel
theorem dJ3_checkIndex_8e157_15 : decode cJ3_checkIndex_8e157 15 = .ok (.athrow, 1) := by decide +kernel
theorem dJ3_checkIndex_8e157_16 : decode cJ3_checkIndex_8e157 16 = .ok (.iload_n 0, 1) := by decide +kernel
theorem dJ3_checkIndex_8e157_17 : decode cJ3_checkIndex_8e157 17 = .ok (.ireturn, 1) := by decide +kernel
end
section
theorem dX3_init_0 : decode cX3_init 0 = .ok (.aload_n 0, 1) := by decide +kernel
theorem dX3_init_1 : decode cX3_init 1 = .ok (.invokespecial 1, 3) := by decide +kernel
theorem dX3_init_4 : decode cX3_init 4 = .ok (.aload_n 0, 1) := by decide +kernel
theorem dX3_init_5 : decode cX3_init 5 = .ok (.iconst 4, 1) := by decide +kernel
theorem dX3_init_6 : decode cX3_init 6 = .ok (.newarray .int, 2) := by decide +kernel
theorem dX3_init_8 : decode cX3_init 8 = .ok (.putfield 9, 3) := by decide +kernel
theorem dX3_init_11 : decode cX3_init 11 = .ok (.aload_n 0, 1) := by decide +kernel
theorem dX3_init_12 : decode cX3_init 12 = .ok (.iconst 4, 1) := by decide +kernel
theorem dX3_init_13 : decode cX3_init 13 = .ok (.newarray .int, 2) := by decide +kernel
theorem dX3_init_15 : decode cX3_init 15 = .ok (.putfield 13, 3) := by decide +kernel
theorem dX3_init_18 : decode cX3_init 18 = .ok (.aload_n 0, 1) := by decide +kernel
theorem dX3_init_19 : decode cX3_init 19 = .ok (.iconst 4, 1) := by decide +kernel
theorem dX3_init_20 : decode cX3_init 20 = .ok (.newarray .int, 2) := by decide +kernel
theorem dX3_init_22 : decode cX3_init 22 = .ok (.putfield 16, 3) := by decide +kernel
theorem dX3_init_25 : decode cX3_init 25 = .ok (.aload_n 0, 1) := by decide +kernel
theorem dX3_init_26 : decode cX3_init 26 = .ok (.bipush 10, 2) := by decide +kernel
theorem dX3_init_28 : decode cX3_init 28 = .ok (.newarray .int, 2) := by decide +kernel
theorem dX3_init_30 : decode cX3_init 30 = .ok (.putfield 19, 3) := by decide +kernel
theorem dX3_init_33 : decode cX3_init 33 = .ok (.aload_n 0, 1) := by decide +kernel
theorem dX3_init_34 : decode cX3_init 34 = .ok (.bipush 10, 2) := by decide +kernel
theorem dX3_init_36 : decode cX3_init 36 = .ok (.newarray .int, 2) := by decide +kernel
theorem dX3_init_38 : decode cX3_init 38 = .ok (.putfield 22, 3) := by decide +kernel
theorem dX3_init_41 : decode cX3_init 41 = .ok (.aload_n 0, 1) := by decide +kernel
theorem dX3_init_42 : decode cX3_init 42 = .ok (.bipush 10, 2) := by decide +kernel
theorem dX3_init_44 : decode cX3_init 44 = .ok (.newarray .int, 2) := by decide +kernel
theorem dX3_init_46 : decode cX3_init 46 = .ok (.putfield 25, 3) := by decide +kernel
theorem dX3_init_49 : decode cX3_init 49 = .ok (.aload_n 0, 1) := by decide +kernel
theorem dX3_init_50 : decode cX3_init 50 = .ok (.bipush 10, 2) := by decide +kernel
theorem dX3_init_52 : decode cX3_init 52 = .ok (.newarray .int, 2) := by decide +kernel
theorem dX3_init_54 : decode cX3_init 54 = .ok (.putfield 28, 3) := by decide +kernel
theorem dX3_init_57 : decode cX3_init 57 = .ok (.aload_n 0, 1) := by decide +kernel
theorem dX3_init_58 : decode cX3_init 58 = .ok (.bipush 10, 2) := by decide +kernel
theorem dX3_init_60 : decode cX3_init 60 = .ok (.newarray .int, 2) := by decide +kernel
theorem dX3_init_62 : decode cX3_init 62 = .ok (.putfield 31, 3) := by decide +kernel
theorem dX3_init_65 : decode cX3_init 65 = .ok (.aload_n 0, 1) := by decide +kernel
theorem dX3_init_66 : decode cX3_init 66 = .ok (.bipush 10, 2) := by decide +kernel
theorem dX3_init_68 : decode cX3_init 68 = .ok (.newarray .int, 2) := by decide +kernel
theorem dX3_init_70 : decode cX3_init 70 = .ok (.putfield 34, 3) := by decide +kernel
theorem dX3_init_73 : decode cX3_init 73 = .ok (.return_, 1) := by decide +kernel
theorem dX3_thrown_0 : decode cX3_thrown 0 = .ok (.aload_n 0, 1) := by decide +kernel
theorem dX3_thrown_1 : decode cX3_thrown 1 = .ok (.getfield 37, 3) := by decide +kernel
theorem dX3_thrown_4 : decode cX3_thrown 4 = .ok (.ireturn, 1) := by decide +kernel
theorem dX3_no_0 : decode cX3_no 0 = .ok (.aload_n 0, 1) := by decide +kernel
theorem dX3_no_1 : decode cX3_no 1 = .ok (.iload_n 1, 1) := by decide +kernel
theorem dX3_no_2 : decode cX3_no 2 = .ok (.putfield 37, 3) := by decide +kernel
theorem dX3_no_5 : decode cX3_no 5 = .ok (.iconst 0, 1) := by decide +kernel
theorem dX3_no_6 : decode cX3_no 6 = .ok (.ireturn, 1) := by decide +kernel
theorem dX3_isNot_0 : decode cX3_isNot 0 = .ok (.aload_n 0, 1) := by decide +kernel
theorem dX3_isNot_1 : decode cX3_isNot 1 = .ok (.iload_n 1, 1) := by decide +kernel
theorem dX3_isNot_2 : decode cX3_isNot 2 = .ok (.putfield 37, 3) := by decide +kernel
theorem dX3_isNot_5 : decode cX3_isNot 5 = .ok (.iconst 0, 1) := by decide +kernel
theorem dX3_isNot_6 : decode cX3_isNot 6 = .ok (.ireturn, 1) := by decide +kernel
theorem dX3_ok_0 : decode cX3_ok 0 = .ok (.aload_n 0, 1) := by decide +kernel
theorem dX3_ok_1 : decode cX3_ok 1 = .ok (.iconst 0, 1) := by decide +kernel
theorem dX3_ok_2 : decode cX3_ok 2 = .ok (.putfield 37, 3) := by decide +kernel
theorem dX3_ok_5 : decode cX3_ok 5 = .ok (.iload_n 1, 1) := by decide +kernel
theorem dX3_ok_6 : decode cX3_ok 6 = .ok (.ireturn, 1) := by decide +kernel
theorem dX3_isIn_0 : decode cX3_isIn 0 = .ok (.iload_n 0, 1) := by decide +kernel
theorem dX3_isIn_1 : decode cX3_isIn 1 = .ok (.iload_n 1, 1) := by decide +kernel
theorem dX3_isIn_2 : decode cX3_isIn 2 = .ok (.if_icmp .lt 12, 3) := by decide +kernel
theorem dX3_isIn_5 : decode cX3_isIn 5 = .ok (.iload_n 0, 1) := by decide +kernel
theorem dX3_isIn_6 : decode cX3_isIn 6 = .ok (.iload_n 2, 1) := by decide +kernel
theorem dX3_isIn_7 : decode cX3_isIn 7 = .ok (.if_icmp .gt 7, 3) := by decide +kernel
theorem dX3_isIn_10 : decode cX3_isIn 10 = .ok (.iconst 1, 1) := by decide +kernel
theorem dX3_isIn_11 : decode cX3_isIn 11 = .ok (.goto 4, 3) := by decide +kernel
theorem dX3_isIn_14 : decode cX3_isIn 14 = .ok (.iconst 0, 1) := by decide +kernel
theorem dX3_isIn_15 : decode cX3_isIn 15 = .ok (.ireturn, 1) := by decide +kernel
theorem dX3_isWand_0 : decode cX3_isWand 0 = .ok (.iload_n 1, 1) := by decide +kernel
theorem dX3_isWand_1 : decode cX3_isWand 1 = .ok (.iconst 0, 1) := by decide +kernel
theorem dX3_isWand_2 : decode cX3_isWand 2 = .ok (.aload_n 0, 1) := by decide +kernel
theorem dX3_isWand_3 : decode cX3_isWand 3 = .ok (.getfield 41, 3) := by decide +kernel
theorem dX3_isWand_6 : decode cX3_isWand 6 = .ok (.iconst 1, 1) := by decide +kernel
theorem dX3_isWand_7 : decode cX3_isWand 7 = .ok (.isub, 1) := by decide +kernel
theorem dX3_isWand_8 : decode cX3_isWand 8 = .ok (.invokestatic 44, 3) := by decide +kernel
theorem dX3_isWand_11 : decode cX3_isWand 11 = .ok (.ireturn, 1) := by decide +kernel
theorem dX3_isChild_0 : decode cX3_isChild 0 = .ok (.iload_n 1, 1) := by decide +kernel
theorem dX3_isChild_1 : decode cX3_isChild 1 = .ok (.iconst 0, 1) := by decide +kernel
theorem dX3_isChild_2 : decode cX3_isChild 2 = .ok (.aload_n 0, 1) := by decide +kernel
theorem dX3_isChild_3 : decode cX3_isChild 3 = .ok (.getfield 48, 3) := by decide +kernel
theorem dX3_isChild_6 : decode cX3_isChild 6 = .ok (.iconst 1, 1) := by decide +kernel
theorem dX3_isChild_7 : decode cX3_isChild 7 = .ok (.isub, 1) := by decide +kernel
theorem dX3_isChild_8 : decode cX3_isChild 8 = .ok (.invokestatic 44, 3) := by decide +kernel
theorem dX3_isChild_11 : decode cX3_isChild 11 = .ok (.ireturn, 1) := by decide +kernel
theorem dX3_isSize_0 : decode cX3_isSize 0 = .ok (.iload_n 0, 1) := by decide +kernel
theorem dX3_isSize_1 : decode cX3_isSize 1 = .ok (.iconst 1, 1) := by decide +kernel
theorem dX3_isSize_2 : decode cX3_isSize 2 = .ok (.bipush 20, 2) := by decide +kernel
theorem dX3_isSize_4 : decode cX3_isSize 4 = .ok (.invokestatic 44, 3) := by decide +kernel
theorem dX3_isSize_7 : decode cX3_isSize 7 = .ok (.ireturn, 1) := by decide +kernel
theorem dX3_dayOf_0 : decode cX3_dayOf 0 = .ok (.iload_n 0, 1) := by decide +kernel
theorem dX3_dayOf_1 : decode cX3_dayOf 1 = .ok (.bipush 24, 2) := by decide +kernel
theorem dX3_dayOf_3 : decode cX3_dayOf 3 = .ok (.idiv, 1) := by decide +kernel
theorem dX3_dayOf_4 : decode cX3_dayOf 4 = .ok (.ireturn, 1) := by decide +kernel
theorem dX3_burstIn_0 : decode cX3_burstIn 0 = .ok (.aload_n 0, 1) := by decide +kernel
theorem dX3_burstIn_1 : decode cX3_burstIn 1 = .ok (.getfield 51, 3) := by decide +kernel
theorem dX3_burstIn_4 : decode cX3_burstIn 4 = .ok (.iload_n 2, 1) := by decide +kernel
theorem dX3_burstIn_5 : decode cX3_burstIn 5 = .ok (.iadd, 1) := by decide +kernel
theorem dX3_burstIn_6 : decode cX3_burstIn 6 = .ok (.invokestatic 54, 3) := by decide +kernel
theorem dX3_burstIn_9 : decode cX3_burstIn 9 = .ok (.istore_n 3, 1) := by decide +kernel
theorem dX3_burstIn_10 : decode cX3_burstIn 10 = .ok (.iload_n 3, 1) := by decide +kernel
theorem dX3_burstIn_11 : decode cX3_burstIn 11 = .ok (.aload_n 0, 1) := by decide +kernel
theorem dX3_burstIn_12 : decode cX3_burstIn 12 = .ok (.getfield 51, 3) := by decide +kernel
theorem dX3_burstIn_15 : decode cX3_burstIn 15 = .ok (.invokestatic 54, 3) := by decide +kernel
theorem dX3_burstIn_18 : decode cX3_burstIn 18 = .ok (.if_icmp .ne 10, 3) := by decide +kernel
theorem dX3_burstIn_21 : decode cX3_burstIn 21 = .ok (.aload_n 0, 1) := by decide +kernel
theorem dX3_burstIn_22 : decode cX3_burstIn 22 = .ok (.getfield 25, 3) := by decide +kernel
theorem dX3_burstIn_25 : decode cX3_burstIn 25 = .ok (.iload_n 1, 1) := by decide +kernel
theorem dX3_burstIn_26 : decode cX3_burstIn 26 = .ok (.iaload, 1) := by decide +kernel
theorem dX3_burstIn_27 : decode cX3_burstIn 27 = .ok (.ireturn, 1) := by decide +kernel
theorem dX3_burstIn_28 : decode cX3_burstIn 28 = .ok (.iload_n 3, 1) := by decide +kernel
theorem dX3_burstIn_29 : decode cX3_burstIn 29 = .ok (.bipush 30, 2) := by decide +kernel
theorem dX3_burstIn_31 : decode cX3_burstIn 31 = .ok (.irem, 1) := by decide +kernel
theorem dX3_burstIn_32 : decode cX3_burstIn 32 = .ok (.aload_n 0, 1) := by decide +kernel
theorem dX3_burstIn_33 : decode cX3_burstIn 33 = .ok (.getfield 22, 3) := by decide +kernel
theorem dX3_burstIn_36 : decode cX3_burstIn 36 = .ok (.iload_n 1, 1) := by decide +kernel
theorem dX3_burstIn_37 : decode cX3_burstIn 37 = .ok (.iaload, 1) := by decide +kernel
theorem dX3_burstIn_38 : decode cX3_burstIn 38 = .ok (.if_icmp .ne 8, 3) := by decide +kernel
theorem dX3_burstIn_41 : decode cX3_burstIn 41 = .ok (.bipush 12, 2) := by decide +kernel
theorem dX3_burstIn_43 : decode cX3_burstIn 43 = .ok (.goto 4, 3) := by decide +kernel
theorem dX3_burstIn_46 : decode cX3_burstIn 46 = .ok (.iconst 0, 1) := by decide +kernel
theorem dX3_burstIn_47 : decode cX3_burstIn 47 = .ok (.ireturn, 1) := by decide +kernel
theorem dX3_addWand_0 : decode cX3_addWand 0 = .ok (.aload_n 0, 1) := by decide +kernel
theorem dX3_addWand_1 : decode cX3_addWand 1 = .ok (.iconst 0, 1) := by decide +kernel
theorem dX3_addWand_2 : decode cX3_addWand 2 = .ok (.putfield 37, 3) := by decide +kernel
theorem dX3_addWand_5 : decode cX3_addWand 5 = .ok (.iload_n 1, 1) := by decide +kernel
theorem dX3_addWand_6 : decode cX3_addWand 6 = .ok (.iconst 1, 1) := by decide +kernel
theorem dX3_addWand_7 : decode cX3_addWand 7 = .ok (.bipush 60, 2) := by decide +kernel
theorem dX3_addWand_9 : decode cX3_addWand 9 = .ok (.invokestatic 44, 3) := by decide +kernel
theorem dX3_addWand_12 : decode cX3_addWand 12 = .ok (.ifCond .eq 13, 3) := by decide +kernel
theorem dX3_addWand_15 : decode cX3_addWand 15 = .ok (.iload_n 2, 1) := by decide +kernel
theorem dX3_addWand_16 : decode cX3_addWand 16 = .ok (.iconst 0, 1) := by decide +kernel
theorem dX3_addWand_17 : decode cX3_addWand 17 = .ok (.bipush 9, 2) := by decide +kernel
theorem dX3_addWand_19 : decode cX3_addWand 19 = .ok (.invokestatic 44, 3) := by decide +kernel
theorem dX3_addWand_22 : decode cX3_addWand 22 = .ok (.ifCond .ne 9, 3) := by decide +kernel
theorem dX3_addWand_25 : decode cX3_addWand 25 = .ok (.aload_n 0, 1) := by decide +kernel
theorem dX3_addWand_26 : decode cX3_addWand 26 = .ok (.iconst 1, 1) := by decide +kernel
theorem dX3_addWand_27 : decode cX3_addWand 27 = .ok (.invokevirtual 58, 3) := by decide +kernel
theorem dX3_addWand_30 : decode cX3_addWand 30 = .ok (.ireturn, 1) := by decide +kernel
theorem dX3_addWand_31 : decode cX3_addWand 31 = .ok (.aload_n 0, 1) := by decide +kernel
theorem dX3_addWand_32 : decode cX3_addWand 32 = .ok (.getfield 41, 3) := by decide +kernel
theorem dX3_addWand_35 : decode cX3_addWand 35 = .ok (.iconst 4, 1) := by decide +kernel
theorem dX3_addWand_36 : decode cX3_addWand 36 = .ok (.if_icmp .ne 9, 3) := by decide +kernel
theorem dX3_addWand_39 : decode cX3_addWand 39 = .ok (.aload_n 0, 1) := by decide +kernel
theorem dX3_addWand_40 : decode cX3_addWand 40 = .ok (.iconst 2, 1) := by decide +kernel
theorem dX3_addWand_41 : decode cX3_addWand 41 = .ok (.invokevirtual 58, 3) := by decide +kernel
theorem dX3_addWand_44 : decode cX3_addWand 44 = .ok (.ireturn, 1) := by decide +kernel
theorem dX3_addWand_45 : decode cX3_addWand 45 = .ok (.aload_n 0, 1) := by decide +kernel
theorem dX3_addWand_46 : decode cX3_addWand 46 = .ok (.getfield 9, 3) := by decide +kernel
theorem dX3_addWand_49 : decode cX3_addWand 49 = .ok (.aload_n 0, 1) := by decide +kernel
theorem dX3_addWand_50 : decode cX3_addWand 50 = .ok (.getfield 41, 3) := by decide +kernel
theorem dX3_addWand_53 : decode cX3_addWand 53 = .ok (.iload_n 1, 1) := by decide +kernel
theorem dX3_addWand_54 : decode cX3_addWand 54 = .ok (.iastore, 1) := by decide +kernel
theorem dX3_addWand_55 : decode cX3_addWand 55 = .ok (.aload_n 0, 1) := by decide +kernel
theorem dX3_addWand_56 : decode cX3_addWand 56 = .ok (.getfield 16, 3) := by decide +kernel
theorem dX3_addWand_59 : decode cX3_addWand 59 = .ok (.aload_n 0, 1) := by decide +kernel
theorem dX3_addWand_60 : decode cX3_addWand 60 = .ok (.getfield 41, 3) := by decide +kernel
theorem dX3_addWand_63 : decode cX3_addWand 63 = .ok (.iload_n 1, 1) := by decide +kernel
theorem dX3_addWand_64 : decode cX3_addWand 64 = .ok (.iastore, 1) := by decide +kernel
theorem dX3_addWand_65 : decode cX3_addWand 65 = .ok (.aload_n 0, 1) := by decide +kernel
theorem dX3_addWand_66 : decode cX3_addWand 66 = .ok (.getfield 13, 3) := by decide +kernel
theorem dX3_addWand_69 : decode cX3_addWand 69 = .ok (.aload_n 0, 1) := by decide +kernel
theorem dX3_addWand_70 : decode cX3_addWand 70 = .ok (.getfield 41, 3) := by decide +kernel
theorem dX3_addWand_73 : decode cX3_addWand 73 = .ok (.iload_n 2, 1) := by decide +kernel
theorem dX3_addWand_74 : decode cX3_addWand 74 = .ok (.iastore, 1) := by decide +kernel
theorem dX3_addWand_75 : decode cX3_addWand 75 = .ok (.aload_n 0, 1) := by decide +kernel
theorem dX3_addWand_76 : decode cX3_addWand 76 = .ok (.dup, 1) := by decide +kernel
theorem dX3_addWand_77 : decode cX3_addWand 77 = .ok (.getfield 41, 3) := by decide +kernel
theorem dX3_addWand_80 : decode cX3_addWand 80 = .ok (.iconst 1, 1) := by decide +kernel
theorem dX3_addWand_81 : decode cX3_addWand 81 = .ok (.iadd, 1) := by decide +kernel
theorem dX3_addWand_82 : decode cX3_addWand 82 = .ok (.putfield 41, 3) := by decide +kernel
theorem dX3_addWand_85 : decode cX3_addWand 85 = .ok (.aload_n 0, 1) := by decide +kernel
theorem dX3_addWand_86 : decode cX3_addWand 86 = .ok (.getfield 41, 3) := by decide +kernel
theorem dX3_addWand_89 : decode cX3_addWand 89 = .ok (.iconst 1, 1) := by decide +kernel
theorem dX3_addWand_90 : decode cX3_addWand 90 = .ok (.isub, 1) := by decide +kernel
theorem dX3_addWand_91 : decode cX3_addWand 91 = .ok (.ireturn, 1) := by decide +kernel
theorem dX3_addChild_0 : decode cX3_addChild 0 = .ok (.aload_n 0, 1) := by decide +kernel
theorem dX3_addChild_1 : decode cX3_addChild 1 = .ok (.iconst 0, 1) := by decide +kernel
theorem dX3_addChild_2 : decode cX3_addChild 2 = .ok (.putfield 37, 3) := by decide +kernel
theorem dX3_addChild_5 : decode cX3_addChild 5 = .ok (.aload_n 0, 1) := by decide +kernel
theorem dX3_addChild_6 : decode cX3_addChild 6 = .ok (.iload_n 1, 1) := by decide +kernel
theorem dX3_addChild_7 : decode cX3_addChild 7 = .ok (.invokevirtual 61, 3) := by decide +kernel
theorem dX3_addChild_10 : decode cX3_addChild 10 = .ok (.ifCond .ne 9, 3) := by decide +kernel
theorem dX3_addChild_13 : decode cX3_addChild 13 = .ok (.aload_n 0, 1) := by decide +kernel
theorem dX3_addChild_14 : decode cX3_addChild 14 = .ok (.iconst 1, 1) := by decide +kernel
theorem dX3_addChild_15 : decode cX3_addChild 15 = .ok (.invokevirtual 58, 3) := by decide +kernel
theorem dX3_addChild_18 : decode cX3_addChild 18 = .ok (.ireturn, 1) := by decide +kernel
theorem dX3_addChild_19 : decode cX3_addChild 19 = .ok (.iload_n 2, 1) := by decide +kernel
theorem dX3_addChild_20 : decode cX3_addChild 20 = .ok (.iconst 0, 1) := by decide +kernel
theorem dX3_addChild_21 : decode cX3_addChild 21 = .ok (.bipush 29, 2) := by decide +kernel
theorem dX3_addChild_23 : decode cX3_addChild 23 = .ok (.invokestatic 44, 3) := by decide +kernel
theorem dX3_addChild_26 : decode cX3_addChild 26 = .ok (.ifCond .ne 9, 3) := by decide +kernel
theorem dX3_addChild_29 : decode cX3_addChild 29 = .ok (.aload_n 0, 1) := by decide +kernel
theorem dX3_addChild_30 : decode cX3_addChild 30 = .ok (.iconst 2, 1) := by decide +kernel
theorem dX3_addChild_31 : decode cX3_addChild 31 = .ok (.invokevirtual 58, 3) := by decide +kernel
theorem dX3_addChild_34 : decode cX3_addChild 34 = .ok (.ireturn, 1) := by decide +kernel
theorem dX3_addChild_35 : decode cX3_addChild 35 = .ok (.aload_n 0, 1) := by decide +kernel
theorem dX3_addChild_36 : decode cX3_addChild 36 = .ok (.getfield 48, 3) := by decide +kernel
theorem dX3_addChild_39 : decode cX3_addChild 39 = .ok (.bipush 10, 2) := by decide +kernel
theorem dX3_addChild_41 : decode cX3_addChild 41 = .ok (.if_icmp .ne 9, 3) := by decide +kernel
theorem dX3_addChild_44 : decode cX3_addChild 44 = .ok (.aload_n 0, 1) := by decide +kernel
theorem dX3_addChild_45 : decode cX3_addChild 45 = .ok (.iconst 3, 1) := by decide +kernel
theorem dX3_addChild_46 : decode cX3_addChild 46 = .ok (.invokevirtual 58, 3) := by decide +kernel
theorem dX3_addChild_49 : decode cX3_addChild 49 = .ok (.ireturn, 1) := by decide +kernel
theorem dX3_addChild_50 : decode cX3_addChild 50 = .ok (.aload_n 0, 1) := by decide +kernel
theorem dX3_addChild_51 : decode cX3_addChild 51 = .ok (.getfield 19, 3) := by decide +kernel
theorem dX3_addChild_54 : decode cX3_addChild 54 = .ok (.aload_n 0, 1) := by decide +kernel
theorem dX3_addChild_55 : decode cX3_addChild 55 = .ok (.getfield 48, 3) := by decide +kernel
theorem dX3_addChild_58 : decode cX3_addChild 58 = .ok (.iload_n 1, 1) := by decide +kernel
theorem dX3_addChild_59 : decode cX3_addChild 59 = .ok (.iastore, 1) := by decide +kernel
theorem dX3_addChild_60 : decode cX3_addChild 60 = .ok (.aload_n 0, 1) := by decide +kernel
theorem dX3_addChild_61 : decode cX3_addChild 61 = .ok (.getfield 22, 3) := by decide +kernel
theorem dX3_addChild_64 : decode cX3_addChild 64 = .ok (.aload_n 0, 1) := by decide +kernel
theorem dX3_addChild_65 : decode cX3_addChild 65 = .ok (.getfield 48, 3) := by decide +kernel
theorem dX3_addChild_68 : decode cX3_addChild 68 = .ok (.iload_n 2, 1) := by decide +kernel
theorem dX3_addChild_69 : decode cX3_addChild 69 = .ok (.iastore, 1) := by decide +kernel
theorem dX3_addChild_70 : decode cX3_addChild 70 = .ok (.aload_n 0, 1) := by decide +kernel
theorem dX3_addChild_71 : decode cX3_addChild 71 = .ok (.getfield 25, 3) := by decide +kernel
theorem dX3_addChild_74 : decode cX3_addChild 74 = .ok (.aload_n 0, 1) := by decide +kernel
theorem dX3_addChild_75 : decode cX3_addChild 75 = .ok (.getfield 48, 3) := by decide +kernel
theorem dX3_addChild_78 : decode cX3_addChild 78 = .ok (.aload_n 0, 1) := by decide +kernel
theorem dX3_addChild_79 : decode cX3_addChild 79 = .ok (.getfield 51, 3) := by decide +kernel
theorem dX3_addChild_82 : decode cX3_addChild 82 = .ok (.invokestatic 54, 3) := by decide +kernel
theorem dX3_addChild_85 : decode cX3_addChild 85 = .ok (.bipush 30, 2) := by decide +kernel
theorem dX3_addChild_87 : decode cX3_addChild 87 = .ok (.irem, 1) := by decide +kernel
theorem dX3_addChild_88 : decode cX3_addChild 88 = .ok (.iload_n 2, 1) := by decide +kernel
theorem dX3_addChild_89 : decode cX3_addChild 89 = .ok (.if_icmp .ne 8, 3) := by decide +kernel
theorem dX3_addChild_92 : decode cX3_addChild 92 = .ok (.bipush 12, 2) := by decide +kernel
theorem dX3_addChild_94 : decode cX3_addChild 94 = .ok (.goto 4, 3) := by decide +kernel
theorem dX3_addChild_97 : decode cX3_addChild 97 = .ok (.iconst 0, 1) := by decide +kernel
theorem dX3_addChild_98 : decode cX3_addChild 98 = .ok (.iastore, 1) := by decide +kernel
theorem dX3_addChild_99 : decode cX3_addChild 99 = .ok (.aload_n 0, 1) := by decide +kernel
theorem dX3_addChild_100 : decode cX3_addChild 100 = .ok (.getfield 34, 3) := by decide +kernel
theorem dX3_addChild_103 : decode cX3_addChild 103 = .ok (.aload_n 0, 1) := by decide +kernel
theorem dX3_addChild_104 : decode cX3_addChild 104 = .ok (.getfield 48, 3) := by decide +kernel
theorem dX3_addChild_107 : decode cX3_addChild 107 = .ok (.iconst 4, 1) := by decide +kernel
theorem dX3_addChild_108 : decode cX3_addChild 108 = .ok (.iastore, 1) := by decide +kernel
theorem dX3_addChild_109 : decode cX3_addChild 109 = .ok (.aload_n 0, 1) := by decide +kernel
theorem dX3_addChild_110 : decode cX3_addChild 110 = .ok (.dup, 1) := by decide +kernel
theorem dX3_addChild_111 : decode cX3_addChild 111 = .ok (.getfield 48, 3) := by decide +kernel
theorem dX3_addChild_114 : decode cX3_addChild 114 = .ok (.iconst 1, 1) := by decide +kernel
theorem dX3_addChild_115 : decode cX3_addChild 115 = .ok (.iadd, 1) := by decide +kernel
theorem dX3_addChild_116 : decode cX3_addChild 116 = .ok (.putfield 48, 3) := by decide +kernel
theorem dX3_addChild_119 : decode cX3_addChild 119 = .ok (.aload_n 0, 1) := by decide +kernel
theorem dX3_addChild_120 : decode cX3_addChild 120 = .ok (.getfield 48, 3) := by decide +kernel
theorem dX3_addChild_123 : decode cX3_addChild 123 = .ok (.iconst 1, 1) := by decide +kernel
theorem dX3_addChild_124 : decode cX3_addChild 124 = .ok (.isub, 1) := by decide +kernel
theorem dX3_addChild_125 : decode cX3_addChild 125 = .ok (.ireturn, 1) := by decide +kernel
theorem dX3_give_0 : decode cX3_give 0 = .ok (.aload_n 0, 1) := by decide +kernel
theorem dX3_give_1 : decode cX3_give 1 = .ok (.iconst 0, 1) := by decide +kernel
theorem dX3_give_2 : decode cX3_give 2 = .ok (.putfield 37, 3) := by decide +kernel
theorem dX3_give_5 : decode cX3_give 5 = .ok (.aload_n 0, 1) := by decide +kernel
theorem dX3_give_6 : decode cX3_give 6 = .ok (.iload_n 1, 1) := by decide +kernel
theorem dX3_give_7 : decode cX3_give 7 = .ok (.invokevirtual 65, 3) := by decide +kernel
theorem dX3_give_10 : decode cX3_give 10 = .ok (.ifCond .eq 11, 3) := by decide +kernel
theorem dX3_give_13 : decode cX3_give 13 = .ok (.aload_n 0, 1) := by decide +kernel
theorem dX3_give_14 : decode cX3_give 14 = .ok (.iload_n 2, 1) := by decide +kernel
theorem dX3_give_15 : decode cX3_give 15 = .ok (.invokevirtual 61, 3) := by decide +kernel
theorem dX3_give_18 : decode cX3_give 18 = .ok (.ifCond .ne 9, 3) := by decide +kernel
theorem dX3_give_21 : decode cX3_give 21 = .ok (.aload_n 0, 1) := by decide +kernel
theorem dX3_give_22 : decode cX3_give 22 = .ok (.iconst 1, 1) := by decide +kernel
theorem dX3_give_23 : decode cX3_give 23 = .ok (.invokevirtual 58, 3) := by decide +kernel
theorem dX3_give_26 : decode cX3_give 26 = .ok (.ireturn, 1) := by decide +kernel
theorem dX3_give_27 : decode cX3_give 27 = .ok (.aload_n 0, 1) := by decide +kernel
theorem dX3_give_28 : decode cX3_give 28 = .ok (.getfield 19, 3) := by decide +kernel
theorem dX3_give_31 : decode cX3_give 31 = .ok (.iload_n 1, 1) := by decide +kernel
theorem dX3_give_32 : decode cX3_give 32 = .ok (.iaload, 1) := by decide +kernel
theorem dX3_give_33 : decode cX3_give 33 = .ok (.istore_n 3, 1) := by decide +kernel
theorem dX3_give_34 : decode cX3_give 34 = .ok (.aload_n 0, 1) := by decide +kernel
theorem dX3_give_35 : decode cX3_give 35 = .ok (.getfield 19, 3) := by decide +kernel
theorem dX3_give_38 : decode cX3_give 38 = .ok (.iload_n 1, 1) := by decide +kernel
theorem dX3_give_39 : decode cX3_give 39 = .ok (.iload_n 2, 1) := by decide +kernel
theorem dX3_give_40 : decode cX3_give 40 = .ok (.iastore, 1) := by decide +kernel
theorem dX3_give_41 : decode cX3_give 41 = .ok (.iload_n 3, 1) := by decide +kernel
theorem dX3_give_42 : decode cX3_give 42 = .ok (.ireturn, 1) := by decide +kernel
theorem dX3_setFall_0 : decode cX3_setFall 0 = .ok (.aload_n 0, 1) := by decide +kernel
theorem dX3_setFall_1 : decode cX3_setFall 1 = .ok (.iconst 0, 1) := by decide +kernel
theorem dX3_setFall_2 : decode cX3_setFall 2 = .ok (.putfield 37, 3) := by decide +kernel
theorem dX3_setFall_5 : decode cX3_setFall 5 = .ok (.aload_n 0, 1) := by decide +kernel
theorem dX3_setFall_6 : decode cX3_setFall 6 = .ok (.iload_n 1, 1) := by decide +kernel
theorem dX3_setFall_7 : decode cX3_setFall 7 = .ok (.invokevirtual 61, 3) := by decide +kernel
theorem dX3_setFall_10 : decode cX3_setFall 10 = .ok (.ifCond .ne 9, 3) := by decide +kernel
theorem dX3_setFall_13 : decode cX3_setFall 13 = .ok (.aload_n 0, 1) := by decide +kernel
theorem dX3_setFall_14 : decode cX3_setFall 14 = .ok (.iconst 1, 1) := by decide +kernel
theorem dX3_setFall_15 : decode cX3_setFall 15 = .ok (.invokevirtual 58, 3) := by decide +kernel
theorem dX3_setFall_18 : decode cX3_setFall 18 = .ok (.ireturn, 1) := by decide +kernel
theorem dX3_setFall_19 : decode cX3_setFall 19 = .ok (.iload_n 2, 1) := by decide +kernel
theorem dX3_setFall_20 : decode cX3_setFall 20 = .ok (.iconst 0, 1) := by decide +kernel
theorem dX3_setFall_21 : decode cX3_setFall 21 = .ok (.bipush 9, 2) := by decide +kernel
theorem dX3_setFall_23 : decode cX3_setFall 23 = .ok (.invokestatic 44, 3) := by decide +kernel
theorem dX3_setFall_26 : decode cX3_setFall 26 = .ok (.ifCond .ne 9, 3) := by decide +kernel
theorem dX3_setFall_29 : decode cX3_setFall 29 = .ok (.aload_n 0, 1) := by decide +kernel
theorem dX3_setFall_30 : decode cX3_setFall 30 = .ok (.iconst 2, 1) := by decide +kernel
theorem dX3_setFall_31 : decode cX3_setFall 31 = .ok (.invokevirtual 58, 3) := by decide +kernel
theorem dX3_setFall_34 : decode cX3_setFall 34 = .ok (.ireturn, 1) := by decide +kernel
theorem dX3_setFall_35 : decode cX3_setFall 35 = .ok (.aload_n 0, 1) := by decide +kernel
theorem dX3_setFall_36 : decode cX3_setFall 36 = .ok (.getfield 13, 3) := by decide +kernel
theorem dX3_setFall_39 : decode cX3_setFall 39 = .ok (.iload_n 1, 1) := by decide +kernel
theorem dX3_setFall_40 : decode cX3_setFall 40 = .ok (.iaload, 1) := by decide +kernel
theorem dX3_setFall_41 : decode cX3_setFall 41 = .ok (.istore_n 3, 1) := by decide +kernel
theorem dX3_setFall_42 : decode cX3_setFall 42 = .ok (.aload_n 0, 1) := by decide +kernel
theorem dX3_setFall_43 : decode cX3_setFall 43 = .ok (.getfield 13, 3) := by decide +kernel
theorem dX3_setFall_46 : decode cX3_setFall 46 = .ok (.iload_n 1, 1) := by decide +kernel
theorem dX3_setFall_47 : decode cX3_setFall 47 = .ok (.iload_n 2, 1) := by decide +kernel
theorem dX3_setFall_48 : decode cX3_setFall 48 = .ok (.iastore, 1) := by decide +kernel
theorem dX3_setFall_49 : decode cX3_setFall 49 = .ok (.iload_n 3, 1) := by decide +kernel
theorem dX3_setFall_50 : decode cX3_setFall 50 = .ok (.ireturn, 1) := by decide +kernel
theorem dX3_all_0 : decode cX3_all 0 = .ok (.aload_n 0, 1) := by decide +kernel
theorem dX3_all_1 : decode cX3_all 1 = .ok (.getfield 25, 3) := by decide +kernel
theorem dX3_all_4 : decode cX3_all 4 = .ok (.iload_n 1, 1) := by decide +kernel
theorem dX3_all_5 : decode cX3_all 5 = .ok (.iaload, 1) := by decide +kernel
theorem dX3_all_6 : decode cX3_all 6 = .ok (.aload_n 0, 1) := by decide +kernel
theorem dX3_all_7 : decode cX3_all 7 = .ok (.getfield 16, 3) := by decide +kernel
theorem dX3_all_10 : decode cX3_all 10 = .ok (.aload_n 0, 1) := by decide +kernel
theorem dX3_all_11 : decode cX3_all 11 = .ok (.getfield 19, 3) := by decide +kernel
theorem dX3_all_14 : decode cX3_all 14 = .ok (.iload_n 1, 1) := by decide +kernel
theorem dX3_all_15 : decode cX3_all 15 = .ok (.iaload, 1) := by decide +kernel
theorem dX3_all_16 : decode cX3_all 16 = .ok (.iaload, 1) := by decide +kernel
theorem dX3_all_17 : decode cX3_all 17 = .ok (.iadd, 1) := by decide +kernel
theorem dX3_all_18 : decode cX3_all 18 = .ok (.ireturn, 1) := by decide +kernel
theorem dX3_isGranted_0 : decode cX3_isGranted 0 = .ok (.aload_n 0, 1) := by decide +kernel
theorem dX3_isGranted_1 : decode cX3_isGranted 1 = .ok (.getfield 28, 3) := by decide +kernel
theorem dX3_isGranted_4 : decode cX3_isGranted 4 = .ok (.iload_n 1, 1) := by decide +kernel
theorem dX3_isGranted_5 : decode cX3_isGranted 5 = .ok (.iaload, 1) := by decide +kernel
theorem dX3_isGranted_6 : decode cX3_isGranted 6 = .ok (.ifCond .ne 16, 3) := by decide +kernel
theorem dX3_isGranted_9 : decode cX3_isGranted 9 = .ok (.aload_n 0, 1) := by decide +kernel
theorem dX3_isGranted_10 : decode cX3_isGranted 10 = .ok (.iload_n 1, 1) := by decide +kernel
theorem dX3_isGranted_11 : decode cX3_isGranted 11 = .ok (.invokevirtual 68, 3) := by decide +kernel
theorem dX3_isGranted_14 : decode cX3_isGranted 14 = .ok (.iload_n 2, 1) := by decide +kernel
theorem dX3_isGranted_15 : decode cX3_isGranted 15 = .ok (.if_icmp .lt 7, 3) := by decide +kernel
theorem dX3_isGranted_18 : decode cX3_isGranted 18 = .ok (.iconst 1, 1) := by decide +kernel
theorem dX3_isGranted_19 : decode cX3_isGranted 19 = .ok (.goto 4, 3) := by decide +kernel
theorem dX3_isGranted_22 : decode cX3_isGranted 22 = .ok (.iconst 0, 1) := by decide +kernel
theorem dX3_isGranted_23 : decode cX3_isGranted 23 = .ok (.ireturn, 1) := by decide +kernel
theorem dX3_deny_0 : decode cX3_deny 0 = .ok (.aload_n 0, 1) := by decide +kernel
theorem dX3_deny_1 : decode cX3_deny 1 = .ok (.dup, 1) := by decide +kernel
theorem dX3_deny_2 : decode cX3_deny 2 = .ok (.getfield 71, 3) := by decide +kernel
theorem dX3_deny_5 : decode cX3_deny 5 = .ok (.iconst 1, 1) := by decide +kernel
theorem dX3_deny_6 : decode cX3_deny 6 = .ok (.iadd, 1) := by decide +kernel
theorem dX3_deny_7 : decode cX3_deny 7 = .ok (.putfield 71, 3) := by decide +kernel
theorem dX3_deny_10 : decode cX3_deny 10 = .ok (.aload_n 0, 1) := by decide +kernel
theorem dX3_deny_11 : decode cX3_deny 11 = .ok (.getfield 28, 3) := by decide +kernel
theorem dX3_deny_14 : decode cX3_deny 14 = .ok (.iload_n 1, 1) := by decide +kernel
theorem dX3_deny_15 : decode cX3_deny 15 = .ok (.iaload, 1) := by decide +kernel
theorem dX3_deny_16 : decode cX3_deny 16 = .ok (.ifCond .le 23, 3) := by decide +kernel
theorem dX3_deny_19 : decode cX3_deny 19 = .ok (.aload_n 0, 1) := by decide +kernel
theorem dX3_deny_20 : decode cX3_deny 20 = .ok (.getfield 28, 3) := by decide +kernel
theorem dX3_deny_23 : decode cX3_deny 23 = .ok (.iload_n 1, 1) := by decide +kernel
theorem dX3_deny_24 : decode cX3_deny 24 = .ok (.bipush 48, 2) := by decide +kernel
theorem dX3_deny_26 : decode cX3_deny 26 = .ok (.aload_n 0, 1) := by decide +kernel
theorem dX3_deny_27 : decode cX3_deny 27 = .ok (.getfield 28, 3) := by decide +kernel
theorem dX3_deny_30 : decode cX3_deny 30 = .ok (.iload_n 1, 1) := by decide +kernel
theorem dX3_deny_31 : decode cX3_deny 31 = .ok (.iaload, 1) := by decide +kernel
theorem dX3_deny_32 : decode cX3_deny 32 = .ok (.iconst 1, 1) := by decide +kernel
theorem dX3_deny_33 : decode cX3_deny 33 = .ok (.iadd, 1) := by decide +kernel
theorem dX3_deny_34 : decode cX3_deny 34 = .ok (.invokestatic 74, 3) := by decide +kernel
theorem dX3_deny_37 : decode cX3_deny 37 = .ok (.iastore, 1) := by decide +kernel
theorem dX3_deny_38 : decode cX3_deny 38 = .ok (.return_, 1) := by decide +kernel
theorem dX3_deny_39 : decode cX3_deny 39 = .ok (.aload_n 0, 1) := by decide +kernel
theorem dX3_deny_40 : decode cX3_deny 40 = .ok (.getfield 31, 3) := by decide +kernel
theorem dX3_deny_43 : decode cX3_deny 43 = .ok (.iload_n 1, 1) := by decide +kernel
theorem dX3_deny_44 : decode cX3_deny 44 = .ok (.dup2, 1) := by decide +kernel
theorem dX3_deny_45 : decode cX3_deny 45 = .ok (.iaload, 1) := by decide +kernel
theorem dX3_deny_46 : decode cX3_deny 46 = .ok (.iconst 1, 1) := by decide +kernel
theorem dX3_deny_47 : decode cX3_deny 47 = .ok (.iadd, 1) := by decide +kernel
theorem dX3_deny_48 : decode cX3_deny 48 = .ok (.iastore, 1) := by decide +kernel
theorem dX3_deny_49 : decode cX3_deny 49 = .ok (.aload_n 0, 1) := by decide +kernel
theorem dX3_deny_50 : decode cX3_deny 50 = .ok (.getfield 31, 3) := by decide +kernel
theorem dX3_deny_53 : decode cX3_deny 53 = .ok (.iload_n 1, 1) := by decide +kernel
theorem dX3_deny_54 : decode cX3_deny 54 = .ok (.iaload, 1) := by decide +kernel
theorem dX3_deny_55 : decode cX3_deny 55 = .ok (.iconst 3, 1) := by decide +kernel
theorem dX3_deny_56 : decode cX3_deny 56 = .ok (.if_icmp .ge 4, 3) := by decide +kernel
theorem dX3_deny_59 : decode cX3_deny 59 = .ok (.return_, 1) := by decide +kernel
theorem dX3_deny_60 : decode cX3_deny 60 = .ok (.aload_n 0, 1) := by decide +kernel
theorem dX3_deny_61 : decode cX3_deny 61 = .ok (.getfield 31, 3) := by decide +kernel
theorem dX3_deny_64 : decode cX3_deny 64 = .ok (.iload_n 1, 1) := by decide +kernel
theorem dX3_deny_65 : decode cX3_deny 65 = .ok (.iconst 0, 1) := by decide +kernel
theorem dX3_deny_66 : decode cX3_deny 66 = .ok (.iastore, 1) := by decide +kernel
theorem dX3_deny_67 : decode cX3_deny 67 = .ok (.aload_n 0, 1) := by decide +kernel
theorem dX3_deny_68 : decode cX3_deny 68 = .ok (.getfield 28, 3) := by decide +kernel
theorem dX3_deny_71 : decode cX3_deny 71 = .ok (.iload_n 1, 1) := by decide +kernel
theorem dX3_deny_72 : decode cX3_deny 72 = .ok (.aload_n 0, 1) := by decide +kernel
theorem dX3_deny_73 : decode cX3_deny 73 = .ok (.getfield 34, 3) := by decide +kernel
theorem dX3_deny_76 : decode cX3_deny 76 = .ok (.iload_n 1, 1) := by decide +kernel
theorem dX3_deny_77 : decode cX3_deny 77 = .ok (.iaload, 1) := by decide +kernel
theorem dX3_deny_78 : decode cX3_deny 78 = .ok (.iastore, 1) := by decide +kernel
theorem dX3_deny_79 : decode cX3_deny 79 = .ok (.aload_n 0, 1) := by decide +kernel
theorem dX3_deny_80 : decode cX3_deny 80 = .ok (.getfield 34, 3) := by decide +kernel
theorem dX3_deny_83 : decode cX3_deny 83 = .ok (.iload_n 1, 1) := by decide +kernel
theorem dX3_deny_84 : decode cX3_deny 84 = .ok (.bipush 32, 2) := by decide +kernel
theorem dX3_deny_86 : decode cX3_deny 86 = .ok (.iconst 2, 1) := by decide +kernel
theorem dX3_deny_87 : decode cX3_deny 87 = .ok (.aload_n 0, 1) := by decide +kernel
theorem dX3_deny_88 : decode cX3_deny 88 = .ok (.getfield 34, 3) := by decide +kernel
theorem dX3_deny_91 : decode cX3_deny 91 = .ok (.iload_n 1, 1) := by decide +kernel
theorem dX3_deny_92 : decode cX3_deny 92 = .ok (.iaload, 1) := by decide +kernel
theorem dX3_deny_93 : decode cX3_deny 93 = .ok (.imul, 1) := by decide +kernel
theorem dX3_deny_94 : decode cX3_deny 94 = .ok (.invokestatic 74, 3) := by decide +kernel
theorem dX3_deny_97 : decode cX3_deny 97 = .ok (.iastore, 1) := by decide +kernel
theorem dX3_deny_98 : decode cX3_deny 98 = .ok (.return_, 1) := by decide +kernel
theorem dX3_wish_0 : decode cX3_wish 0 = .ok (.aload_n 0, 1) := by decide +kernel
theorem dX3_wish_1 : decode cX3_wish 1 = .ok (.iconst 0, 1) := by decide +kernel
theorem dX3_wish_2 : decode cX3_wish 2 = .ok (.putfield 37, 3) := by decide +kernel
theorem dX3_wish_5 : decode cX3_wish 5 = .ok (.aload_n 0, 1) := by decide +kernel
theorem dX3_wish_6 : decode cX3_wish 6 = .ok (.iload_n 1, 1) := by decide +kernel
theorem dX3_wish_7 : decode cX3_wish 7 = .ok (.invokevirtual 65, 3) := by decide +kernel
theorem dX3_wish_10 : decode cX3_wish 10 = .ok (.ifCond .ne 9, 3) := by decide +kernel
theorem dX3_wish_13 : decode cX3_wish 13 = .ok (.aload_n 0, 1) := by decide +kernel
theorem dX3_wish_14 : decode cX3_wish 14 = .ok (.iconst 1, 1) := by decide +kernel
theorem dX3_wish_15 : decode cX3_wish 15 = .ok (.invokevirtual 80, 3) := by decide +kernel
theorem dX3_wish_18 : decode cX3_wish 18 = .ok (.ireturn, 1) := by decide +kernel
theorem dX3_wish_19 : decode cX3_wish 19 = .ok (.iload_n 2, 1) := by decide +kernel
theorem dX3_wish_20 : decode cX3_wish 20 = .ok (.invokestatic 83, 3) := by decide +kernel
theorem dX3_wish_23 : decode cX3_wish 23 = .ok (.ifCond .ne 9, 3) := by decide +kernel
theorem dX3_wish_26 : decode cX3_wish 26 = .ok (.aload_n 0, 1) := by decide +kernel
theorem dX3_wish_27 : decode cX3_wish 27 = .ok (.iconst 2, 1) := by decide +kernel
theorem dX3_wish_28 : decode cX3_wish 28 = .ok (.invokevirtual 80, 3) := by decide +kernel
theorem dX3_wish_31 : decode cX3_wish 31 = .ok (.ireturn, 1) := by decide +kernel
theorem dX3_wish_32 : decode cX3_wish 32 = .ok (.aload_n 0, 1) := by decide +kernel
theorem dX3_wish_33 : decode cX3_wish 33 = .ok (.iload_n 1, 1) := by decide +kernel
theorem dX3_wish_34 : decode cX3_wish 34 = .ok (.iload_n 2, 1) := by decide +kernel
theorem dX3_wish_35 : decode cX3_wish 35 = .ok (.invokevirtual 86, 3) := by decide +kernel
theorem dX3_wish_38 : decode cX3_wish 38 = .ok (.ifCond .ne 10, 3) := by decide +kernel
theorem dX3_wish_41 : decode cX3_wish 41 = .ok (.aload_n 0, 1) := by decide +kernel
theorem dX3_wish_42 : decode cX3_wish 42 = .ok (.iload_n 1, 1) := by decide +kernel
theorem dX3_wish_43 : decode cX3_wish 43 = .ok (.invokevirtual 90, 3) := by decide +kernel
theorem dX3_wish_46 : decode cX3_wish 46 = .ok (.iconst 0, 1) := by decide +kernel
theorem dX3_wish_47 : decode cX3_wish 47 = .ok (.ireturn, 1) := by decide +kernel
theorem dX3_wish_48 : decode cX3_wish 48 = .ok (.aload_n 0, 1) := by decide +kernel
theorem dX3_wish_49 : decode cX3_wish 49 = .ok (.getfield 25, 3) := by decide +kernel
theorem dX3_wish_52 : decode cX3_wish 52 = .ok (.iload_n 1, 1) := by decide +kernel
theorem dX3_wish_53 : decode cX3_wish 53 = .ok (.iaload, 1) := by decide +kernel
theorem dX3_wish_54 : decode cX3_wish 54 = .ok (.iload_n 2, 1) := by decide +kernel
theorem dX3_wish_55 : decode cX3_wish 55 = .ok (.invokestatic 74, 3) := by decide +kernel
theorem dX3_wish_58 : decode cX3_wish 58 = .ok (.istore_n 3, 1) := by decide +kernel
theorem dX3_wish_59 : decode cX3_wish 59 = .ok (.aload_n 0, 1) := by decide +kernel
theorem dX3_wish_60 : decode cX3_wish 60 = .ok (.getfield 25, 3) := by decide +kernel
theorem dX3_wish_63 : decode cX3_wish 63 = .ok (.iload_n 1, 1) := by decide +kernel
theorem dX3_wish_64 : decode cX3_wish 64 = .ok (.dup2, 1) := by decide +kernel
theorem dX3_wish_65 : decode cX3_wish 65 = .ok (.iaload, 1) := by decide +kernel
theorem dX3_wish_66 : decode cX3_wish 66 = .ok (.iload_n 3, 1) := by decide +kernel
theorem dX3_wish_67 : decode cX3_wish 67 = .ok (.isub, 1) := by decide +kernel
theorem dX3_wish_68 : decode cX3_wish 68 = .ok (.iastore, 1) := by decide +kernel
theorem dX3_wish_69 : decode cX3_wish 69 = .ok (.aload_n 0, 1) := by decide +kernel
theorem dX3_wish_70 : decode cX3_wish 70 = .ok (.getfield 16, 3) := by decide +kernel
theorem dX3_wish_73 : decode cX3_wish 73 = .ok (.aload_n 0, 1) := by decide +kernel
theorem dX3_wish_74 : decode cX3_wish 74 = .ok (.getfield 19, 3) := by decide +kernel
theorem dX3_wish_77 : decode cX3_wish 77 = .ok (.iload_n 1, 1) := by decide +kernel
theorem dX3_wish_78 : decode cX3_wish 78 = .ok (.iaload, 1) := by decide +kernel
theorem dX3_wish_79 : decode cX3_wish 79 = .ok (.dup2, 1) := by decide +kernel
theorem dX3_wish_80 : decode cX3_wish 80 = .ok (.iaload, 1) := by decide +kernel
theorem dX3_wish_81 : decode cX3_wish 81 = .ok (.iload_n 2, 1) := by decide +kernel
theorem dX3_wish_82 : decode cX3_wish 82 = .ok (.iload_n 3, 1) := by decide +kernel
theorem dX3_wish_83 : decode cX3_wish 83 = .ok (.isub, 1) := by decide +kernel
theorem dX3_wish_84 : decode cX3_wish 84 = .ok (.isub, 1) := by decide +kernel
theorem dX3_wish_85 : decode cX3_wish 85 = .ok (.iastore, 1) := by decide +kernel
theorem dX3_wish_86 : decode cX3_wish 86 = .ok (.aload_n 0, 1) := by decide +kernel
theorem dX3_wish_87 : decode cX3_wish 87 = .ok (.getfield 31, 3) := by decide +kernel
theorem dX3_wish_90 : decode cX3_wish 90 = .ok (.iload_n 1, 1) := by decide +kernel
theorem dX3_wish_91 : decode cX3_wish 91 = .ok (.iconst 0, 1) := by decide +kernel
theorem dX3_wish_92 : decode cX3_wish 92 = .ok (.aload_n 0, 1) := by decide +kernel
theorem dX3_wish_93 : decode cX3_wish 93 = .ok (.getfield 31, 3) := by decide +kernel
theorem dX3_wish_96 : decode cX3_wish 96 = .ok (.iload_n 1, 1) := by decide +kernel
theorem dX3_wish_97 : decode cX3_wish 97 = .ok (.iaload, 1) := by decide +kernel
theorem dX3_wish_98 : decode cX3_wish 98 = .ok (.iconst 1, 1) := by decide +kernel
theorem dX3_wish_99 : decode cX3_wish 99 = .ok (.isub, 1) := by decide +kernel
theorem dX3_wish_100 : decode cX3_wish 100 = .ok (.invokestatic 94, 3) := by decide +kernel
theorem dX3_wish_103 : decode cX3_wish 103 = .ok (.iastore, 1) := by decide +kernel
theorem dX3_wish_104 : decode cX3_wish 104 = .ok (.aload_n 0, 1) := by decide +kernel
theorem dX3_wish_105 : decode cX3_wish 105 = .ok (.dup, 1) := by decide +kernel
theorem dX3_wish_106 : decode cX3_wish 106 = .ok (.getfield 97, 3) := by decide +kernel
theorem dX3_wish_109 : decode cX3_wish 109 = .ok (.iconst 1, 1) := by decide +kernel
theorem dX3_wish_110 : decode cX3_wish 110 = .ok (.iadd, 1) := by decide +kernel
theorem dX3_wish_111 : decode cX3_wish 111 = .ok (.putfield 97, 3) := by decide +kernel
theorem dX3_wish_114 : decode cX3_wish 114 = .ok (.iconst 1, 1) := by decide +kernel
theorem dX3_wish_115 : decode cX3_wish 115 = .ok (.ireturn, 1) := by decide +kernel
theorem dX3_forgive_0 : decode cX3_forgive 0 = .ok (.aload_n 0, 1) := by decide +kernel
theorem dX3_forgive_1 : decode cX3_forgive 1 = .ok (.iconst 0, 1) := by decide +kernel
theorem dX3_forgive_2 : decode cX3_forgive 2 = .ok (.putfield 37, 3) := by decide +kernel
theorem dX3_forgive_5 : decode cX3_forgive 5 = .ok (.aload_n 0, 1) := by decide +kernel
theorem dX3_forgive_6 : decode cX3_forgive 6 = .ok (.iload_n 1, 1) := by decide +kernel
theorem dX3_forgive_7 : decode cX3_forgive 7 = .ok (.invokevirtual 65, 3) := by decide +kernel
theorem dX3_forgive_10 : decode cX3_forgive 10 = .ok (.ifCond .ne 9, 3) := by decide +kernel
theorem dX3_forgive_13 : decode cX3_forgive 13 = .ok (.aload_n 0, 1) := by decide +kernel
theorem dX3_forgive_14 : decode cX3_forgive 14 = .ok (.iconst 1, 1) := by decide +kernel
theorem dX3_forgive_15 : decode cX3_forgive 15 = .ok (.invokevirtual 58, 3) := by decide +kernel
theorem dX3_forgive_18 : decode cX3_forgive 18 = .ok (.ireturn, 1) := by decide +kernel
theorem dX3_forgive_19 : decode cX3_forgive 19 = .ok (.aload_n 0, 1) := by decide +kernel
theorem dX3_forgive_20 : decode cX3_forgive 20 = .ok (.getfield 28, 3) := by decide +kernel
theorem dX3_forgive_23 : decode cX3_forgive 23 = .ok (.iload_n 1, 1) := by decide +kernel
theorem dX3_forgive_24 : decode cX3_forgive 24 = .ok (.iaload, 1) := by decide +kernel
theorem dX3_forgive_25 : decode cX3_forgive 25 = .ok (.istore_n 2, 1) := by decide +kernel
theorem dX3_forgive_26 : decode cX3_forgive 26 = .ok (.aload_n 0, 1) := by decide +kernel
theorem dX3_forgive_27 : decode cX3_forgive 27 = .ok (.getfield 28, 3) := by decide +kernel
theorem dX3_forgive_30 : decode cX3_forgive 30 = .ok (.iload_n 1, 1) := by decide +kernel
theorem dX3_forgive_31 : decode cX3_forgive 31 = .ok (.iconst 0, 1) := by decide +kernel
theorem dX3_forgive_32 : decode cX3_forgive 32 = .ok (.iastore, 1) := by decide +kernel
theorem dX3_forgive_33 : decode cX3_forgive 33 = .ok (.aload_n 0, 1) := by decide +kernel
theorem dX3_forgive_34 : decode cX3_forgive 34 = .ok (.getfield 31, 3) := by decide +kernel
theorem dX3_forgive_37 : decode cX3_forgive 37 = .ok (.iload_n 1, 1) := by decide +kernel
theorem dX3_forgive_38 : decode cX3_forgive 38 = .ok (.iconst 0, 1) := by decide +kernel
theorem dX3_forgive_39 : decode cX3_forgive 39 = .ok (.iastore, 1) := by decide +kernel
theorem dX3_forgive_40 : decode cX3_forgive 40 = .ok (.iload_n 2, 1) := by decide +kernel
theorem dX3_forgive_41 : decode cX3_forgive 41 = .ok (.ireturn, 1) := by decide +kernel
theorem dX3_pass_0 : decode cX3_pass 0 = .ok (.aload_n 0, 1) := by decide +kernel
theorem dX3_pass_1 : decode cX3_pass 1 = .ok (.iconst 0, 1) := by decide +kernel
theorem dX3_pass_2 : decode cX3_pass 2 = .ok (.putfield 37, 3) := by decide +kernel
theorem dX3_pass_5 : decode cX3_pass 5 = .ok (.iload_n 1, 1) := by decide +kernel
theorem dX3_pass_6 : decode cX3_pass 6 = .ok (.iconst 1, 1) := by decide +kernel
theorem dX3_pass_7 : decode cX3_pass 7 = .ok (.bipush 100, 2) := by decide +kernel
theorem dX3_pass_9 : decode cX3_pass 9 = .ok (.invokestatic 44, 3) := by decide +kernel
theorem dX3_pass_12 : decode cX3_pass 12 = .ok (.ifCond .ne 9, 3) := by decide +kernel
theorem dX3_pass_15 : decode cX3_pass 15 = .ok (.aload_n 0, 1) := by decide +kernel
theorem dX3_pass_16 : decode cX3_pass 16 = .ok (.iconst 1, 1) := by decide +kernel
theorem dX3_pass_17 : decode cX3_pass 17 = .ok (.invokevirtual 58, 3) := by decide +kernel
theorem dX3_pass_20 : decode cX3_pass 20 = .ok (.ireturn, 1) := by decide +kernel
theorem dX3_pass_21 : decode cX3_pass 21 = .ok (.iconst 0, 1) := by decide +kernel
theorem dX3_pass_22 : decode cX3_pass 22 = .ok (.istore_n 2, 1) := by decide +kernel
theorem dX3_pass_23 : decode cX3_pass 23 = .ok (.iconst 0, 1) := by decide +kernel
theorem dX3_pass_24 : decode cX3_pass 24 = .ok (.istore_n 3, 1) := by decide +kernel
theorem dX3_pass_25 : decode cX3_pass 25 = .ok (.iload_n 3, 1) := by decide +kernel
theorem dX3_pass_26 : decode cX3_pass 26 = .ok (.aload_n 0, 1) := by decide +kernel
theorem dX3_pass_27 : decode cX3_pass 27 = .ok (.getfield 41, 3) := by decide +kernel
theorem dX3_pass_30 : decode cX3_pass 30 = .ok (.if_icmp .ge 55, 3) := by decide +kernel
theorem dX3_pass_33 : decode cX3_pass 33 = .ok (.aload_n 0, 1) := by decide +kernel
theorem dX3_pass_34 : decode cX3_pass 34 = .ok (.getfield 9, 3) := by decide +kernel
theorem dX3_pass_37 : decode cX3_pass 37 = .ok (.iload_n 3, 1) := by decide +kernel
theorem dX3_pass_38 : decode cX3_pass 38 = .ok (.iaload, 1) := by decide +kernel
theorem dX3_pass_39 : decode cX3_pass 39 = .ok (.aload_n 0, 1) := by decide +kernel
theorem dX3_pass_40 : decode cX3_pass 40 = .ok (.getfield 16, 3) := by decide +kernel
theorem dX3_pass_43 : decode cX3_pass 43 = .ok (.iload_n 3, 1) := by decide +kernel
theorem dX3_pass_44 : decode cX3_pass 44 = .ok (.iaload, 1) := by decide +kernel
theorem dX3_pass_45 : decode cX3_pass 45 = .ok (.iload_n 1, 1) := by decide +kernel
theorem dX3_pass_46 : decode cX3_pass 46 = .ok (.aload_n 0, 1) := by decide +kernel
theorem dX3_pass_47 : decode cX3_pass 47 = .ok (.getfield 13, 3) := by decide +kernel
theorem dX3_pass_50 : decode cX3_pass 50 = .ok (.iload_n 3, 1) := by decide +kernel
theorem dX3_pass_51 : decode cX3_pass 51 = .ok (.iaload, 1) := by decide +kernel
theorem dX3_pass_52 : decode cX3_pass 52 = .ok (.imul, 1) := by decide +kernel
theorem dX3_pass_53 : decode cX3_pass 53 = .ok (.iadd, 1) := by decide +kernel
theorem dX3_pass_54 : decode cX3_pass 54 = .ok (.invokestatic 74, 3) := by decide +kernel
theorem dX3_pass_57 : decode cX3_pass 57 = .ok (.istore 4, 2) := by decide +kernel
theorem dX3_pass_59 : decode cX3_pass 59 = .ok (.iload_n 2, 1) := by decide +kernel
theorem dX3_pass_60 : decode cX3_pass 60 = .ok (.iload 4, 2) := by decide +kernel
theorem dX3_pass_62 : decode cX3_pass 62 = .ok (.aload_n 0, 1) := by decide +kernel
theorem dX3_pass_63 : decode cX3_pass 63 = .ok (.getfield 16, 3) := by decide +kernel
theorem dX3_pass_66 : decode cX3_pass 66 = .ok (.iload_n 3, 1) := by decide +kernel
theorem dX3_pass_67 : decode cX3_pass 67 = .ok (.iaload, 1) := by decide +kernel
theorem dX3_pass_68 : decode cX3_pass 68 = .ok (.isub, 1) := by decide +kernel
theorem dX3_pass_69 : decode cX3_pass 69 = .ok (.iadd, 1) := by decide +kernel
theorem dX3_pass_70 : decode cX3_pass 70 = .ok (.istore_n 2, 1) := by decide +kernel
theorem dX3_pass_71 : decode cX3_pass 71 = .ok (.aload_n 0, 1) := by decide +kernel
theorem dX3_pass_72 : decode cX3_pass 72 = .ok (.getfield 16, 3) := by decide +kernel
theorem dX3_pass_75 : decode cX3_pass 75 = .ok (.iload_n 3, 1) := by decide +kernel
theorem dX3_pass_76 : decode cX3_pass 76 = .ok (.iload 4, 2) := by decide +kernel
theorem dX3_pass_78 : decode cX3_pass 78 = .ok (.iastore, 1) := by decide +kernel
theorem dX3_pass_79 : decode cX3_pass 79 = .ok (.iinc 3 1, 3) := by decide +kernel
theorem dX3_pass_82 : decode cX3_pass 82 = .ok (.goto (-57), 3) := by decide +kernel
theorem dX3_pass_85 : decode cX3_pass 85 = .ok (.iconst 0, 1) := by decide +kernel
theorem dX3_pass_86 : decode cX3_pass 86 = .ok (.istore_n 3, 1) := by decide +kernel
theorem dX3_pass_87 : decode cX3_pass 87 = .ok (.iload_n 3, 1) := by decide +kernel
theorem dX3_pass_88 : decode cX3_pass 88 = .ok (.aload_n 0, 1) := by decide +kernel
theorem dX3_pass_89 : decode cX3_pass 89 = .ok (.getfield 48, 3) := by decide +kernel
theorem dX3_pass_92 : decode cX3_pass 92 = .ok (.if_icmp .ge 39, 3) := by decide +kernel
theorem dX3_pass_95 : decode cX3_pass 95 = .ok (.aload_n 0, 1) := by decide +kernel
theorem dX3_pass_96 : decode cX3_pass 96 = .ok (.getfield 28, 3) := by decide +kernel
theorem dX3_pass_99 : decode cX3_pass 99 = .ok (.iload_n 3, 1) := by decide +kernel
theorem dX3_pass_100 : decode cX3_pass 100 = .ok (.iconst 0, 1) := by decide +kernel
theorem dX3_pass_101 : decode cX3_pass 101 = .ok (.aload_n 0, 1) := by decide +kernel
theorem dX3_pass_102 : decode cX3_pass 102 = .ok (.getfield 28, 3) := by decide +kernel
theorem dX3_pass_105 : decode cX3_pass 105 = .ok (.iload_n 3, 1) := by decide +kernel
theorem dX3_pass_106 : decode cX3_pass 106 = .ok (.iaload, 1) := by decide +kernel
theorem dX3_pass_107 : decode cX3_pass 107 = .ok (.iload_n 1, 1) := by decide +kernel
theorem dX3_pass_108 : decode cX3_pass 108 = .ok (.isub, 1) := by decide +kernel
theorem dX3_pass_109 : decode cX3_pass 109 = .ok (.invokestatic 94, 3) := by decide +kernel
theorem dX3_pass_112 : decode cX3_pass 112 = .ok (.iastore, 1) := by decide +kernel
theorem dX3_pass_113 : decode cX3_pass 113 = .ok (.aload_n 0, 1) := by decide +kernel
theorem dX3_pass_114 : decode cX3_pass 114 = .ok (.getfield 25, 3) := by decide +kernel
theorem dX3_pass_117 : decode cX3_pass 117 = .ok (.iload_n 3, 1) := by decide +kernel
theorem dX3_pass_118 : decode cX3_pass 118 = .ok (.aload_n 0, 1) := by decide +kernel
theorem dX3_pass_119 : decode cX3_pass 119 = .ok (.iload_n 3, 1) := by decide +kernel
theorem dX3_pass_120 : decode cX3_pass 120 = .ok (.iload_n 1, 1) := by decide +kernel
theorem dX3_pass_121 : decode cX3_pass 121 = .ok (.invokevirtual 100, 3) := by decide +kernel
theorem dX3_pass_124 : decode cX3_pass 124 = .ok (.iastore, 1) := by decide +kernel
theorem dX3_pass_125 : decode cX3_pass 125 = .ok (.iinc 3 1, 3) := by decide +kernel
theorem dX3_pass_128 : decode cX3_pass 128 = .ok (.goto (-41), 3) := by decide +kernel
theorem dX3_pass_131 : decode cX3_pass 131 = .ok (.aload_n 0, 1) := by decide +kernel
theorem dX3_pass_132 : decode cX3_pass 132 = .ok (.dup, 1) := by decide +kernel
theorem dX3_pass_133 : decode cX3_pass 133 = .ok (.getfield 51, 3) := by decide +kernel
theorem dX3_pass_136 : decode cX3_pass 136 = .ok (.iload_n 1, 1) := by decide +kernel
theorem dX3_pass_137 : decode cX3_pass 137 = .ok (.iadd, 1) := by decide +kernel
theorem dX3_pass_138 : decode cX3_pass 138 = .ok (.putfield 51, 3) := by decide +kernel
theorem dX3_pass_141 : decode cX3_pass 141 = .ok (.iload_n 2, 1) := by decide +kernel
theorem dX3_pass_142 : decode cX3_pass 142 = .ok (.ireturn, 1) := by decide +kernel
theorem dX3_hour_0 : decode cX3_hour 0 = .ok (.aload_n 0, 1) := by decide +kernel
theorem dX3_hour_1 : decode cX3_hour 1 = .ok (.aload_n 0, 1) := by decide +kernel
theorem dX3_hour_2 : decode cX3_hour 2 = .ok (.getfield 51, 3) := by decide +kernel
theorem dX3_hour_5 : decode cX3_hour 5 = .ok (.invokevirtual 103, 3) := by decide +kernel
theorem dX3_hour_8 : decode cX3_hour 8 = .ok (.ireturn, 1) := by decide +kernel
theorem dX3_day_0 : decode cX3_day 0 = .ok (.aload_n 0, 1) := by decide +kernel
theorem dX3_day_1 : decode cX3_day 1 = .ok (.aload_n 0, 1) := by decide +kernel
theorem dX3_day_2 : decode cX3_day 2 = .ok (.getfield 51, 3) := by decide +kernel
theorem dX3_day_5 : decode cX3_day 5 = .ok (.invokestatic 54, 3) := by decide +kernel
theorem dX3_day_8 : decode cX3_day 8 = .ok (.invokevirtual 103, 3) := by decide +kernel
theorem dX3_day_11 : decode cX3_day 11 = .ok (.ireturn, 1) := by decide +kernel
theorem dX3_wands_0 : decode cX3_wands 0 = .ok (.aload_n 0, 1) := by decide +kernel
theorem dX3_wands_1 : decode cX3_wands 1 = .ok (.aload_n 0, 1) := by decide +kernel
theorem dX3_wands_2 : decode cX3_wands 2 = .ok (.getfield 41, 3) := by decide +kernel
theorem dX3_wands_5 : decode cX3_wands 5 = .ok (.invokevirtual 103, 3) := by decide +kernel
theorem dX3_wands_8 : decode cX3_wands 8 = .ok (.ireturn, 1) := by decide +kernel
theorem dX3_children_0 : decode cX3_children 0 = .ok (.aload_n 0, 1) := by decide +kernel
theorem dX3_children_1 : decode cX3_children 1 = .ok (.aload_n 0, 1) := by decide +kernel
theorem dX3_children_2 : decode cX3_children 2 = .ok (.getfield 48, 3) := by decide +kernel
theorem dX3_children_5 : decode cX3_children 5 = .ok (.invokevirtual 103, 3) := by decide +kernel
theorem dX3_children_8 : decode cX3_children 8 = .ok (.ireturn, 1) := by decide +kernel
theorem dX3_granted_0 : decode cX3_granted 0 = .ok (.aload_n 0, 1) := by decide +kernel
theorem dX3_granted_1 : decode cX3_granted 1 = .ok (.aload_n 0, 1) := by decide +kernel
theorem dX3_granted_2 : decode cX3_granted 2 = .ok (.getfield 97, 3) := by decide +kernel
theorem dX3_granted_5 : decode cX3_granted 5 = .ok (.invokevirtual 103, 3) := by decide +kernel
theorem dX3_granted_8 : decode cX3_granted 8 = .ok (.ireturn, 1) := by decide +kernel
theorem dX3_denied_0 : decode cX3_denied 0 = .ok (.aload_n 0, 1) := by decide +kernel
theorem dX3_denied_1 : decode cX3_denied 1 = .ok (.aload_n 0, 1) := by decide +kernel
theorem dX3_denied_2 : decode cX3_denied 2 = .ok (.getfield 71, 3) := by decide +kernel
theorem dX3_denied_5 : decode cX3_denied 5 = .ok (.invokevirtual 103, 3) := by decide +kernel
theorem dX3_denied_8 : decode cX3_denied 8 = .ok (.ireturn, 1) := by decide +kernel
theorem dX3_manyHeld_0 : decode cX3_manyHeld 0 = .ok (.iconst 0, 1) := by decide +kernel
theorem dX3_manyHeld_1 : decode cX3_manyHeld 1 = .ok (.istore_n 1, 1) := by decide +kernel
theorem dX3_manyHeld_2 : decode cX3_manyHeld 2 = .ok (.iconst 0, 1) := by decide +kernel
theorem dX3_manyHeld_3 : decode cX3_manyHeld 3 = .ok (.istore_n 2, 1) := by decide +kernel
theorem dX3_manyHeld_4 : decode cX3_manyHeld 4 = .ok (.iload_n 2, 1) := by decide +kernel
theorem dX3_manyHeld_5 : decode cX3_manyHeld 5 = .ok (.aload_n 0, 1) := by decide +kernel
theorem dX3_manyHeld_6 : decode cX3_manyHeld 6 = .ok (.getfield 48, 3) := by decide +kernel
theorem dX3_manyHeld_9 : decode cX3_manyHeld 9 = .ok (.if_icmp .ge 26, 3) := by decide +kernel
theorem dX3_manyHeld_12 : decode cX3_manyHeld 12 = .ok (.iload_n 1, 1) := by decide +kernel
theorem dX3_manyHeld_13 : decode cX3_manyHeld 13 = .ok (.aload_n 0, 1) := by decide +kernel
theorem dX3_manyHeld_14 : decode cX3_manyHeld 14 = .ok (.getfield 28, 3) := by decide +kernel
theorem dX3_manyHeld_17 : decode cX3_manyHeld 17 = .ok (.iload_n 2, 1) := by decide +kernel
theorem dX3_manyHeld_18 : decode cX3_manyHeld 18 = .ok (.iaload, 1) := by decide +kernel
theorem dX3_manyHeld_19 : decode cX3_manyHeld 19 = .ok (.ifCond .le 7, 3) := by decide +kernel
theorem dX3_manyHeld_22 : decode cX3_manyHeld 22 = .ok (.iconst 1, 1) := by decide +kernel
theorem dX3_manyHeld_23 : decode cX3_manyHeld 23 = .ok (.goto 4, 3) := by decide +kernel
theorem dX3_manyHeld_26 : decode cX3_manyHeld 26 = .ok (.iconst 0, 1) := by decide +kernel
theorem dX3_manyHeld_27 : decode cX3_manyHeld 27 = .ok (.iadd, 1) := by decide +kernel
theorem dX3_manyHeld_28 : decode cX3_manyHeld 28 = .ok (.istore_n 1, 1) := by decide +kernel
theorem dX3_manyHeld_29 : decode cX3_manyHeld 29 = .ok (.iinc 2 1, 3) := by decide +kernel
theorem dX3_manyHeld_32 : decode cX3_manyHeld 32 = .ok (.goto (-28), 3) := by decide +kernel
theorem dX3_manyHeld_35 : decode cX3_manyHeld 35 = .ok (.iload_n 1, 1) := by decide +kernel
theorem dX3_manyHeld_36 : decode cX3_manyHeld 36 = .ok (.ireturn, 1) := by decide +kernel
theorem dX3_punished_0 : decode cX3_punished 0 = .ok (.aload_n 0, 1) := by decide +kernel
theorem dX3_punished_1 : decode cX3_punished 1 = .ok (.aload_n 0, 1) := by decide +kernel
theorem dX3_punished_2 : decode cX3_punished 2 = .ok (.invokevirtual 106, 3) := by decide +kernel
theorem dX3_punished_5 : decode cX3_punished 5 = .ok (.invokevirtual 103, 3) := by decide +kernel
theorem dX3_punished_8 : decode cX3_punished 8 = .ok (.ireturn, 1) := by decide +kernel
theorem dX3_dustIn_0 : decode cX3_dustIn 0 = .ok (.aload_n 0, 1) := by decide +kernel
theorem dX3_dustIn_1 : decode cX3_dustIn 1 = .ok (.iconst 0, 1) := by decide +kernel
theorem dX3_dustIn_2 : decode cX3_dustIn 2 = .ok (.putfield 37, 3) := by decide +kernel
theorem dX3_dustIn_5 : decode cX3_dustIn 5 = .ok (.aload_n 0, 1) := by decide +kernel
theorem dX3_dustIn_6 : decode cX3_dustIn 6 = .ok (.iload_n 1, 1) := by decide +kernel
theorem dX3_dustIn_7 : decode cX3_dustIn 7 = .ok (.invokevirtual 61, 3) := by decide +kernel
theorem dX3_dustIn_10 : decode cX3_dustIn 10 = .ok (.ifCond .eq 12, 3) := by decide +kernel
theorem dX3_dustIn_13 : decode cX3_dustIn 13 = .ok (.aload_n 0, 1) := by decide +kernel
theorem dX3_dustIn_14 : decode cX3_dustIn 14 = .ok (.getfield 16, 3) := by decide +kernel
theorem dX3_dustIn_17 : decode cX3_dustIn 17 = .ok (.iload_n 1, 1) := by decide +kernel
theorem dX3_dustIn_18 : decode cX3_dustIn 18 = .ok (.iaload, 1) := by decide +kernel
theorem dX3_dustIn_19 : decode cX3_dustIn 19 = .ok (.goto 8, 3) := by decide +kernel
theorem dX3_dustIn_22 : decode cX3_dustIn 22 = .ok (.aload_n 0, 1) := by decide +kernel
theorem dX3_dustIn_23 : decode cX3_dustIn 23 = .ok (.iconst 1, 1) := by decide +kernel
theorem dX3_dustIn_24 : decode cX3_dustIn 24 = .ok (.invokevirtual 58, 3) := by decide +kernel
theorem dX3_dustIn_27 : decode cX3_dustIn 27 = .ok (.ireturn, 1) := by decide +kernel
theorem dX3_using_0 : decode cX3_using 0 = .ok (.iconst 0, 1) := by decide +kernel
theorem dX3_using_1 : decode cX3_using 1 = .ok (.istore_n 2, 1) := by decide +kernel
theorem dX3_using_2 : decode cX3_using 2 = .ok (.iconst 0, 1) := by decide +kernel
theorem dX3_using_3 : decode cX3_using 3 = .ok (.istore_n 3, 1) := by decide +kernel
theorem dX3_using_4 : decode cX3_using 4 = .ok (.iload_n 3, 1) := by decide +kernel
theorem dX3_using_5 : decode cX3_using 5 = .ok (.aload_n 0, 1) := by decide +kernel
theorem dX3_using_6 : decode cX3_using 6 = .ok (.getfield 48, 3) := by decide +kernel
theorem dX3_using_9 : decode cX3_using 9 = .ok (.if_icmp .ge 27, 3) := by decide +kernel
theorem dX3_using_12 : decode cX3_using 12 = .ok (.iload_n 2, 1) := by decide +kernel
theorem dX3_using_13 : decode cX3_using 13 = .ok (.aload_n 0, 1) := by decide +kernel
theorem dX3_using_14 : decode cX3_using 14 = .ok (.getfield 19, 3) := by decide +kernel
theorem dX3_using_17 : decode cX3_using 17 = .ok (.iload_n 3, 1) := by decide +kernel
theorem dX3_using_18 : decode cX3_using 18 = .ok (.iaload, 1) := by decide +kernel
theorem dX3_using_19 : decode cX3_using 19 = .ok (.iload_n 1, 1) := by decide +kernel
theorem dX3_using_20 : decode cX3_using 20 = .ok (.if_icmp .ne 7, 3) := by decide +kernel
theorem dX3_using_23 : decode cX3_using 23 = .ok (.iconst 1, 1) := by decide +kernel
theorem dX3_using_24 : decode cX3_using 24 = .ok (.goto 4, 3) := by decide +kernel
theorem dX3_using_27 : decode cX3_using 27 = .ok (.iconst 0, 1) := by decide +kernel
theorem dX3_using_28 : decode cX3_using 28 = .ok (.iadd, 1) := by decide +kernel
theorem dX3_using_29 : decode cX3_using 29 = .ok (.istore_n 2, 1) := by decide +kernel
theorem dX3_using_30 : decode cX3_using 30 = .ok (.iinc 3 1, 3) := by decide +kernel
theorem dX3_using_33 : decode cX3_using 33 = .ok (.goto (-29), 3) := by decide +kernel
theorem dX3_using_36 : decode cX3_using 36 = .ok (.iload_n 2, 1) := by decide +kernel
theorem dX3_using_37 : decode cX3_using 37 = .ok (.ireturn, 1) := by decide +kernel
theorem dX3_users_0 : decode cX3_users 0 = .ok (.aload_n 0, 1) := by decide +kernel
theorem dX3_users_1 : decode cX3_users 1 = .ok (.iconst 0, 1) := by decide +kernel
theorem dX3_users_2 : decode cX3_users 2 = .ok (.putfield 37, 3) := by decide +kernel
theorem dX3_users_5 : decode cX3_users 5 = .ok (.aload_n 0, 1) := by decide +kernel
theorem dX3_users_6 : decode cX3_users 6 = .ok (.iload_n 1, 1) := by decide +kernel
theorem dX3_users_7 : decode cX3_users 7 = .ok (.invokevirtual 61, 3) := by decide +kernel
theorem dX3_users_10 : decode cX3_users 10 = .ok (.ifCond .eq 11, 3) := by decide +kernel
theorem dX3_users_13 : decode cX3_users 13 = .ok (.aload_n 0, 1) := by decide +kernel
theorem dX3_users_14 : decode cX3_users 14 = .ok (.iload_n 1, 1) := by decide +kernel
theorem dX3_users_15 : decode cX3_users 15 = .ok (.invokevirtual 110, 3) := by decide +kernel
theorem dX3_users_18 : decode cX3_users 18 = .ok (.goto 8, 3) := by decide +kernel
theorem dX3_users_21 : decode cX3_users 21 = .ok (.aload_n 0, 1) := by decide +kernel
theorem dX3_users_22 : decode cX3_users 22 = .ok (.iconst 1, 1) := by decide +kernel
theorem dX3_users_23 : decode cX3_users 23 = .ok (.invokevirtual 58, 3) := by decide +kernel
theorem dX3_users_26 : decode cX3_users 26 = .ok (.ireturn, 1) := by decide +kernel
theorem dX3_of_0 : decode cX3_of 0 = .ok (.aload_n 0, 1) := by decide +kernel
theorem dX3_of_1 : decode cX3_of 1 = .ok (.iconst 0, 1) := by decide +kernel
theorem dX3_of_2 : decode cX3_of 2 = .ok (.putfield 37, 3) := by decide +kernel
theorem dX3_of_5 : decode cX3_of 5 = .ok (.aload_n 0, 1) := by decide +kernel
theorem dX3_of_6 : decode cX3_of 6 = .ok (.iload_n 2, 1) := by decide +kernel
theorem dX3_of_7 : decode cX3_of 7 = .ok (.invokevirtual 65, 3) := by decide +kernel
theorem dX3_of_10 : decode cX3_of 10 = .ok (.ifCond .eq 9, 3) := by decide +kernel
theorem dX3_of_13 : decode cX3_of 13 = .ok (.aload_n 1, 1) := by decide +kernel
theorem dX3_of_14 : decode cX3_of 14 = .ok (.iload_n 2, 1) := by decide +kernel
theorem dX3_of_15 : decode cX3_of 15 = .ok (.iaload, 1) := by decide +kernel
theorem dX3_of_16 : decode cX3_of 16 = .ok (.goto 8, 3) := by decide +kernel
theorem dX3_of_19 : decode cX3_of 19 = .ok (.aload_n 0, 1) := by decide +kernel
theorem dX3_of_20 : decode cX3_of 20 = .ok (.iconst 1, 1) := by decide +kernel
theorem dX3_of_21 : decode cX3_of 21 = .ok (.invokevirtual 58, 3) := by decide +kernel
theorem dX3_of_24 : decode cX3_of 24 = .ok (.ireturn, 1) := by decide +kernel
theorem dX3_wandOf_0 : decode cX3_wandOf 0 = .ok (.aload_n 0, 1) := by decide +kernel
theorem dX3_wandOf_1 : decode cX3_wandOf 1 = .ok (.aload_n 0, 1) := by decide +kernel
theorem dX3_wandOf_2 : decode cX3_wandOf 2 = .ok (.getfield 19, 3) := by decide +kernel
theorem dX3_wandOf_5 : decode cX3_wandOf 5 = .ok (.iload_n 1, 1) := by decide +kernel
theorem dX3_wandOf_6 : decode cX3_wandOf 6 = .ok (.invokevirtual 113, 3) := by decide +kernel
theorem dX3_wandOf_9 : decode cX3_wandOf 9 = .ok (.ireturn, 1) := by decide +kernel
theorem dX3_burstOf_0 : decode cX3_burstOf 0 = .ok (.aload_n 0, 1) := by decide +kernel
theorem dX3_burstOf_1 : decode cX3_burstOf 1 = .ok (.aload_n 0, 1) := by decide +kernel
theorem dX3_burstOf_2 : decode cX3_burstOf 2 = .ok (.getfield 25, 3) := by decide +kernel
theorem dX3_burstOf_5 : decode cX3_burstOf 5 = .ok (.iload_n 1, 1) := by decide +kernel
theorem dX3_burstOf_6 : decode cX3_burstOf 6 = .ok (.invokevirtual 113, 3) := by decide +kernel
theorem dX3_burstOf_9 : decode cX3_burstOf 9 = .ok (.ireturn, 1) := by decide +kernel
theorem dX3_punishedFor_0 : decode cX3_punishedFor 0 = .ok (.aload_n 0, 1) := by decide +kernel
theorem dX3_punishedFor_1 : decode cX3_punishedFor 1 = .ok (.aload_n 0, 1) := by decide +kernel
theorem dX3_punishedFor_2 : decode cX3_punishedFor 2 = .ok (.getfield 28, 3) := by decide +kernel
theorem dX3_punishedFor_5 : decode cX3_punishedFor 5 = .ok (.iload_n 1, 1) := by decide +kernel
theorem dX3_punishedFor_6 : decode cX3_punishedFor 6 = .ok (.invokevirtual 113, 3) := by decide +kernel
theorem dX3_punishedFor_9 : decode cX3_punishedFor 9 = .ok (.ireturn, 1) := by decide +kernel
theorem dX3_marksOf_0 : decode cX3_marksOf 0 = .ok (.aload_n 0, 1) := by decide +kernel
theorem dX3_marksOf_1 : decode cX3_marksOf 1 = .ok (.aload_n 0, 1) := by decide +kernel
theorem dX3_marksOf_2 : decode cX3_marksOf 2 = .ok (.getfield 31, 3) := by decide +kernel
theorem dX3_marksOf_5 : decode cX3_marksOf 5 = .ok (.iload_n 1, 1) := by decide +kernel
theorem dX3_marksOf_6 : decode cX3_marksOf 6 = .ok (.invokevirtual 113, 3) := by decide +kernel
theorem dX3_marksOf_9 : decode cX3_marksOf 9 = .ok (.ireturn, 1) := by decide +kernel
theorem dX3_nextPunishment_0 : decode cX3_nextPunishment 0 = .ok (.aload_n 0, 1) := by decide +kernel
theorem dX3_nextPunishment_1 : decode cX3_nextPunishment 1 = .ok (.aload_n 0, 1) := by decide +kernel
theorem dX3_nextPunishment_2 : decode cX3_nextPunishment 2 = .ok (.getfield 34, 3) := by decide +kernel
theorem dX3_nextPunishment_5 : decode cX3_nextPunishment 5 = .ok (.iload_n 1, 1) := by decide +kernel
theorem dX3_nextPunishment_6 : decode cX3_nextPunishment 6 = .ok (.invokevirtual 113, 3) := by decide +kernel
theorem dX3_nextPunishment_9 : decode cX3_nextPunishment 9 = .ok (.ireturn, 1) := by decide +kernel
theorem dX3_daysTo_0 : decode cX3_daysTo 0 = .ok (.aload_n 0, 1) := by decide +kernel
theorem dX3_daysTo_1 : decode cX3_daysTo 1 = .ok (.getfield 22, 3) := by decide +kernel
theorem dX3_daysTo_4 : decode cX3_daysTo 4 = .ok (.iload_n 1, 1) := by decide +kernel
theorem dX3_daysTo_5 : decode cX3_daysTo 5 = .ok (.iaload, 1) := by decide +kernel
theorem dX3_daysTo_6 : decode cX3_daysTo 6 = .ok (.bipush 30, 2) := by decide +kernel
theorem dX3_daysTo_8 : decode cX3_daysTo 8 = .ok (.iadd, 1) := by decide +kernel
theorem dX3_daysTo_9 : decode cX3_daysTo 9 = .ok (.aload_n 0, 1) := by decide +kernel
theorem dX3_daysTo_10 : decode cX3_daysTo 10 = .ok (.getfield 51, 3) := by decide +kernel
theorem dX3_daysTo_13 : decode cX3_daysTo 13 = .ok (.invokestatic 54, 3) := by decide +kernel
theorem dX3_daysTo_16 : decode cX3_daysTo 16 = .ok (.bipush 30, 2) := by decide +kernel
theorem dX3_daysTo_18 : decode cX3_daysTo 18 = .ok (.irem, 1) := by decide +kernel
theorem dX3_daysTo_19 : decode cX3_daysTo 19 = .ok (.isub, 1) := by decide +kernel
theorem dX3_daysTo_20 : decode cX3_daysTo 20 = .ok (.bipush 30, 2) := by decide +kernel
theorem dX3_daysTo_22 : decode cX3_daysTo 22 = .ok (.irem, 1) := by decide +kernel
theorem dX3_daysTo_23 : decode cX3_daysTo 23 = .ok (.ireturn, 1) := by decide +kernel
theorem dX3_daysToBirthday_0 : decode cX3_daysToBirthday 0 = .ok (.aload_n 0, 1) := by decide +kernel
theorem dX3_daysToBirthday_1 : decode cX3_daysToBirthday 1 = .ok (.iconst 0, 1) := by decide +kernel
theorem dX3_daysToBirthday_2 : decode cX3_daysToBirthday 2 = .ok (.putfield 37, 3) := by decide +kernel
theorem dX3_daysToBirthday_5 : decode cX3_daysToBirthday 5 = .ok (.aload_n 0, 1) := by decide +kernel
theorem dX3_daysToBirthday_6 : decode cX3_daysToBirthday 6 = .ok (.iload_n 1, 1) := by decide +kernel
theorem dX3_daysToBirthday_7 : decode cX3_daysToBirthday 7 = .ok (.invokevirtual 65, 3) := by decide +kernel
theorem dX3_daysToBirthday_10 : decode cX3_daysToBirthday 10 = .ok (.ifCond .eq 11, 3) := by decide +kernel
theorem dX3_daysToBirthday_13 : decode cX3_daysToBirthday 13 = .ok (.aload_n 0, 1) := by decide +kernel
theorem dX3_daysToBirthday_14 : decode cX3_daysToBirthday 14 = .ok (.iload_n 1, 1) := by decide +kernel
theorem dX3_daysToBirthday_15 : decode cX3_daysToBirthday 15 = .ok (.invokevirtual 117, 3) := by decide +kernel
theorem dX3_daysToBirthday_18 : decode cX3_daysToBirthday 18 = .ok (.goto 8, 3) := by decide +kernel
theorem dX3_daysToBirthday_21 : decode cX3_daysToBirthday 21 = .ok (.aload_n 0, 1) := by decide +kernel
theorem dX3_daysToBirthday_22 : decode cX3_daysToBirthday 22 = .ok (.iconst 1, 1) := by decide +kernel
theorem dX3_daysToBirthday_23 : decode cX3_daysToBirthday 23 = .ok (.invokevirtual 58, 3) := by decide +kernel
theorem dX3_daysToBirthday_26 : decode cX3_daysToBirthday 26 = .ok (.ireturn, 1) := by decide +kernel
theorem dX3_greatest_0 : decode cX3_greatest 0 = .ok (.aload_n 0, 1) := by decide +kernel
theorem dX3_greatest_1 : decode cX3_greatest 1 = .ok (.getfield 28, 3) := by decide +kernel
theorem dX3_greatest_4 : decode cX3_greatest 4 = .ok (.iload_n 1, 1) := by decide +kernel
theorem dX3_greatest_5 : decode cX3_greatest 5 = .ok (.iaload, 1) := by decide +kernel
theorem dX3_greatest_6 : decode cX3_greatest 6 = .ok (.ifCond .le 7, 3) := by decide +kernel
theorem dX3_greatest_9 : decode cX3_greatest 9 = .ok (.iconst 0, 1) := by decide +kernel
theorem dX3_greatest_10 : decode cX3_greatest 10 = .ok (.goto 13, 3) := by decide +kernel
theorem dX3_greatest_13 : decode cX3_greatest 13 = .ok (.bipush 20, 2) := by decide +kernel
theorem dX3_greatest_15 : decode cX3_greatest 15 = .ok (.aload_n 0, 1) := by decide +kernel
theorem dX3_greatest_16 : decode cX3_greatest 16 = .ok (.iload_n 1, 1) := by decide +kernel
theorem dX3_greatest_17 : decode cX3_greatest 17 = .ok (.invokevirtual 68, 3) := by decide +kernel
theorem dX3_greatest_20 : decode cX3_greatest 20 = .ok (.invokestatic 74, 3) := by decide +kernel
theorem dX3_greatest_23 : decode cX3_greatest 23 = .ok (.ireturn, 1) := by decide +kernel
theorem dX3_greatestWish_0 : decode cX3_greatestWish 0 = .ok (.aload_n 0, 1) := by decide +kernel
theorem dX3_greatestWish_1 : decode cX3_greatestWish 1 = .ok (.iconst 0, 1) := by decide +kernel
theorem dX3_greatestWish_2 : decode cX3_greatestWish 2 = .ok (.putfield 37, 3) := by decide +kernel
theorem dX3_greatestWish_5 : decode cX3_greatestWish 5 = .ok (.aload_n 0, 1) := by decide +kernel
theorem dX3_greatestWish_6 : decode cX3_greatestWish 6 = .ok (.iload_n 1, 1) := by decide +kernel
theorem dX3_greatestWish_7 : decode cX3_greatestWish 7 = .ok (.invokevirtual 65, 3) := by decide +kernel
theorem dX3_greatestWish_10 : decode cX3_greatestWish 10 = .ok (.ifCond .eq 11, 3) := by decide +kernel
theorem dX3_greatestWish_13 : decode cX3_greatestWish 13 = .ok (.aload_n 0, 1) := by decide +kernel
theorem dX3_greatestWish_14 : decode cX3_greatestWish 14 = .ok (.iload_n 1, 1) := by decide +kernel
theorem dX3_greatestWish_15 : decode cX3_greatestWish 15 = .ok (.invokevirtual 120, 3) := by decide +kernel
theorem dX3_greatestWish_18 : decode cX3_greatestWish 18 = .ok (.goto 8, 3) := by decide +kernel
theorem dX3_greatestWish_21 : decode cX3_greatestWish 21 = .ok (.aload_n 0, 1) := by decide +kernel
theorem dX3_greatestWish_22 : decode cX3_greatestWish 22 = .ok (.iconst 1, 1) := by decide +kernel
theorem dX3_greatestWish_23 : decode cX3_greatestWish 23 = .ok (.invokevirtual 58, 3) := by decide +kernel
theorem dX3_greatestWish_26 : decode cX3_greatestWish 26 = .ok (.ireturn, 1) := by decide +kernel
theorem dX3_until_0 : decode cX3_until 0 = .ok (.aload_n 0, 1) := by decide +kernel
theorem dX3_until_1 : decode cX3_until 1 = .ok (.getfield 19, 3) := by decide +kernel
theorem dX3_until_4 : decode cX3_until 4 = .ok (.iload_n 1, 1) := by decide +kernel
theorem dX3_until_5 : decode cX3_until 5 = .ok (.iaload, 1) := by decide +kernel
theorem dX3_until_6 : decode cX3_until 6 = .ok (.istore_n 3, 1) := by decide +kernel
theorem dX3_until_7 : decode cX3_until 7 = .ok (.aload_n 0, 1) := by decide +kernel
theorem dX3_until_8 : decode cX3_until 8 = .ok (.getfield 28, 3) := by decide +kernel
theorem dX3_until_11 : decode cX3_until 11 = .ok (.iload_n 1, 1) := by decide +kernel
theorem dX3_until_12 : decode cX3_until 12 = .ok (.iaload, 1) := by decide +kernel
theorem dX3_until_13 : decode cX3_until 13 = .ok (.istore 4, 2) := by decide +kernel
theorem dX3_until_15 : decode cX3_until 15 = .ok (.iload 4, 2) := by decide +kernel
theorem dX3_until_17 : decode cX3_until 17 = .ok (.bipush 100, 2) := by decide +kernel
theorem dX3_until_19 : decode cX3_until 19 = .ok (.if_icmp .gt 49, 3) := by decide +kernel
theorem dX3_until_22 : decode cX3_until 22 = .ok (.aload_n 0, 1) := by decide +kernel
theorem dX3_until_23 : decode cX3_until 23 = .ok (.iload_n 1, 1) := by decide +kernel
theorem dX3_until_24 : decode cX3_until 24 = .ok (.iload 4, 2) := by decide +kernel
theorem dX3_until_26 : decode cX3_until 26 = .ok (.invokevirtual 100, 3) := by decide +kernel
theorem dX3_until_29 : decode cX3_until 29 = .ok (.aload_n 0, 1) := by decide +kernel
theorem dX3_until_30 : decode cX3_until 30 = .ok (.getfield 9, 3) := by decide +kernel
theorem dX3_until_33 : decode cX3_until 33 = .ok (.iload_n 3, 1) := by decide +kernel
theorem dX3_until_34 : decode cX3_until 34 = .ok (.iaload, 1) := by decide +kernel
theorem dX3_until_35 : decode cX3_until 35 = .ok (.aload_n 0, 1) := by decide +kernel
theorem dX3_until_36 : decode cX3_until 36 = .ok (.getfield 16, 3) := by decide +kernel
theorem dX3_until_39 : decode cX3_until 39 = .ok (.iload_n 3, 1) := by decide +kernel
theorem dX3_until_40 : decode cX3_until 40 = .ok (.iaload, 1) := by decide +kernel
theorem dX3_until_41 : decode cX3_until 41 = .ok (.iload 4, 2) := by decide +kernel
theorem dX3_until_43 : decode cX3_until 43 = .ok (.aload_n 0, 1) := by decide +kernel
theorem dX3_until_44 : decode cX3_until 44 = .ok (.getfield 13, 3) := by decide +kernel
theorem dX3_until_47 : decode cX3_until 47 = .ok (.iload_n 3, 1) := by decide +kernel
theorem dX3_until_48 : decode cX3_until 48 = .ok (.iaload, 1) := by decide +kernel
theorem dX3_until_49 : decode cX3_until 49 = .ok (.imul, 1) := by decide +kernel
theorem dX3_until_50 : decode cX3_until 50 = .ok (.iadd, 1) := by decide +kernel
theorem dX3_until_51 : decode cX3_until 51 = .ok (.invokestatic 74, 3) := by decide +kernel
theorem dX3_until_54 : decode cX3_until 54 = .ok (.iadd, 1) := by decide +kernel
theorem dX3_until_55 : decode cX3_until 55 = .ok (.iload_n 2, 1) := by decide +kernel
theorem dX3_until_56 : decode cX3_until 56 = .ok (.if_icmp .lt 6, 3) := by decide +kernel
theorem dX3_until_59 : decode cX3_until 59 = .ok (.iload 4, 2) := by decide +kernel
theorem dX3_until_61 : decode cX3_until 61 = .ok (.ireturn, 1) := by decide +kernel
theorem dX3_until_62 : decode cX3_until 62 = .ok (.iinc 4 1, 3) := by decide +kernel
theorem dX3_until_65 : decode cX3_until 65 = .ok (.goto (-50), 3) := by decide +kernel
theorem dX3_until_68 : decode cX3_until 68 = .ok (.iconst (-1), 1) := by decide +kernel
theorem dX3_until_69 : decode cX3_until 69 = .ok (.ireturn, 1) := by decide +kernel
theorem dX3_hoursUntil_0 : decode cX3_hoursUntil 0 = .ok (.aload_n 0, 1) := by decide +kernel
theorem dX3_hoursUntil_1 : decode cX3_hoursUntil 1 = .ok (.iconst 0, 1) := by decide +kernel
theorem dX3_hoursUntil_2 : decode cX3_hoursUntil 2 = .ok (.putfield 37, 3) := by decide +kernel
theorem dX3_hoursUntil_5 : decode cX3_hoursUntil 5 = .ok (.aload_n 0, 1) := by decide +kernel
theorem dX3_hoursUntil_6 : decode cX3_hoursUntil 6 = .ok (.iload_n 1, 1) := by decide +kernel
theorem dX3_hoursUntil_7 : decode cX3_hoursUntil 7 = .ok (.invokevirtual 65, 3) := by decide +kernel
theorem dX3_hoursUntil_10 : decode cX3_hoursUntil 10 = .ok (.ifCond .ne 9, 3) := by decide +kernel
theorem dX3_hoursUntil_13 : decode cX3_hoursUntil 13 = .ok (.aload_n 0, 1) := by decide +kernel
theorem dX3_hoursUntil_14 : decode cX3_hoursUntil 14 = .ok (.iconst 1, 1) := by decide +kernel
theorem dX3_hoursUntil_15 : decode cX3_hoursUntil 15 = .ok (.invokevirtual 58, 3) := by decide +kernel
theorem dX3_hoursUntil_18 : decode cX3_hoursUntil 18 = .ok (.ireturn, 1) := by decide +kernel
theorem dX3_hoursUntil_19 : decode cX3_hoursUntil 19 = .ok (.iload_n 2, 1) := by decide +kernel
theorem dX3_hoursUntil_20 : decode cX3_hoursUntil 20 = .ok (.invokestatic 83, 3) := by decide +kernel
theorem dX3_hoursUntil_23 : decode cX3_hoursUntil 23 = .ok (.ifCond .eq 12, 3) := by decide +kernel
theorem dX3_hoursUntil_26 : decode cX3_hoursUntil 26 = .ok (.aload_n 0, 1) := by decide +kernel
theorem dX3_hoursUntil_27 : decode cX3_hoursUntil 27 = .ok (.iload_n 1, 1) := by decide +kernel
theorem dX3_hoursUntil_28 : decode cX3_hoursUntil 28 = .ok (.iload_n 2, 1) := by decide +kernel
theorem dX3_hoursUntil_29 : decode cX3_hoursUntil 29 = .ok (.invokevirtual 123, 3) := by decide +kernel
theorem dX3_hoursUntil_32 : decode cX3_hoursUntil 32 = .ok (.goto 8, 3) := by decide +kernel
theorem dX3_hoursUntil_35 : decode cX3_hoursUntil 35 = .ok (.aload_n 0, 1) := by decide +kernel
theorem dX3_hoursUntil_36 : decode cX3_hoursUntil 36 = .ok (.iconst 2, 1) := by decide +kernel
theorem dX3_hoursUntil_37 : decode cX3_hoursUntil 37 = .ok (.invokevirtual 58, 3) := by decide +kernel
theorem dX3_hoursUntil_40 : decode cX3_hoursUntil 40 = .ok (.ireturn, 1) := by decide +kernel
theorem dX3_grants_0 : decode cX3_grants 0 = .ok (.aload_n 0, 1) := by decide +kernel
theorem dX3_grants_1 : decode cX3_grants 1 = .ok (.getfield 19, 3) := by decide +kernel
theorem dX3_grants_4 : decode cX3_grants 4 = .ok (.iload_n 1, 1) := by decide +kernel
theorem dX3_grants_5 : decode cX3_grants 5 = .ok (.iaload, 1) := by decide +kernel
theorem dX3_grants_6 : decode cX3_grants 6 = .ok (.istore 5, 2) := by decide +kernel
theorem dX3_grants_8 : decode cX3_grants 8 = .ok (.aload_n 0, 1) := by decide +kernel
theorem dX3_grants_9 : decode cX3_grants 9 = .ok (.getfield 16, 3) := by decide +kernel
theorem dX3_grants_12 : decode cX3_grants 12 = .ok (.iload 5, 2) := by decide +kernel
theorem dX3_grants_14 : decode cX3_grants 14 = .ok (.iaload, 1) := by decide +kernel
theorem dX3_grants_15 : decode cX3_grants 15 = .ok (.istore 6, 2) := by decide +kernel
theorem dX3_grants_17 : decode cX3_grants 17 = .ok (.aload_n 0, 1) := by decide +kernel
theorem dX3_grants_18 : decode cX3_grants 18 = .ok (.getfield 25, 3) := by decide +kernel
theorem dX3_grants_21 : decode cX3_grants 21 = .ok (.iload_n 1, 1) := by decide +kernel
theorem dX3_grants_22 : decode cX3_grants 22 = .ok (.iaload, 1) := by decide +kernel
theorem dX3_grants_23 : decode cX3_grants 23 = .ok (.istore 7, 2) := by decide +kernel
theorem dX3_grants_25 : decode cX3_grants 25 = .ok (.aload_n 0, 1) := by decide +kernel
theorem dX3_grants_26 : decode cX3_grants 26 = .ok (.getfield 28, 3) := by decide +kernel
theorem dX3_grants_29 : decode cX3_grants 29 = .ok (.iload_n 1, 1) := by decide +kernel
theorem dX3_grants_30 : decode cX3_grants 30 = .ok (.iaload, 1) := by decide +kernel
theorem dX3_grants_31 : decode cX3_grants 31 = .ok (.istore 8, 2) := by decide +kernel
theorem dX3_grants_33 : decode cX3_grants 33 = .ok (.aload_n 0, 1) := by decide +kernel
theorem dX3_grants_34 : decode cX3_grants 34 = .ok (.getfield 31, 3) := by decide +kernel
theorem dX3_grants_37 : decode cX3_grants 37 = .ok (.iload_n 1, 1) := by decide +kernel
theorem dX3_grants_38 : decode cX3_grants 38 = .ok (.iaload, 1) := by decide +kernel
theorem dX3_grants_39 : decode cX3_grants 39 = .ok (.istore 9, 2) := by decide +kernel
theorem dX3_grants_41 : decode cX3_grants 41 = .ok (.aload_n 0, 1) := by decide +kernel
theorem dX3_grants_42 : decode cX3_grants 42 = .ok (.getfield 34, 3) := by decide +kernel
theorem dX3_grants_45 : decode cX3_grants 45 = .ok (.iload_n 1, 1) := by decide +kernel
theorem dX3_grants_46 : decode cX3_grants 46 = .ok (.iaload, 1) := by decide +kernel
theorem dX3_grants_47 : decode cX3_grants 47 = .ok (.istore 10, 2) := by decide +kernel
theorem dX3_grants_49 : decode cX3_grants 49 = .ok (.iconst 0, 1) := by decide +kernel
theorem dX3_grants_50 : decode cX3_grants 50 = .ok (.istore 11, 2) := by decide +kernel
theorem dX3_grants_52 : decode cX3_grants 52 = .ok (.iconst 0, 1) := by decide +kernel
theorem dX3_grants_53 : decode cX3_grants 53 = .ok (.istore 12, 2) := by decide +kernel
theorem dX3_grants_55 : decode cX3_grants 55 = .ok (.iload 12, 2) := by decide +kernel
theorem dX3_grants_57 : decode cX3_grants 57 = .ok (.iload_n 3, 1) := by decide +kernel
theorem dX3_grants_58 : decode cX3_grants 58 = .ok (.if_icmp .ge 165, 3) := by decide +kernel
theorem dX3_grants_61 : decode cX3_grants 61 = .ok (.iload 12, 2) := by decide +kernel
theorem dX3_grants_63 : decode cX3_grants 63 = .ok (.ifCond .le 52, 3) := by decide +kernel
theorem dX3_grants_66 : decode cX3_grants 66 = .ok (.aload_n 0, 1) := by decide +kernel
theorem dX3_grants_67 : decode cX3_grants 67 = .ok (.getfield 9, 3) := by decide +kernel
theorem dX3_grants_70 : decode cX3_grants 70 = .ok (.iload 5, 2) := by decide +kernel
theorem dX3_grants_72 : decode cX3_grants 72 = .ok (.iaload, 1) := by decide +kernel
theorem dX3_grants_73 : decode cX3_grants 73 = .ok (.iload 6, 2) := by decide +kernel
theorem dX3_grants_75 : decode cX3_grants 75 = .ok (.iload 4, 2) := by decide +kernel
theorem dX3_grants_77 : decode cX3_grants 77 = .ok (.iadd, 1) := by decide +kernel
theorem dX3_grants_78 : decode cX3_grants 78 = .ok (.invokestatic 74, 3) := by decide +kernel
theorem dX3_grants_81 : decode cX3_grants 81 = .ok (.istore 6, 2) := by decide +kernel
theorem dX3_grants_83 : decode cX3_grants 83 = .ok (.iconst 0, 1) := by decide +kernel
theorem dX3_grants_84 : decode cX3_grants 84 = .ok (.iload 8, 2) := by decide +kernel
theorem dX3_grants_86 : decode cX3_grants 86 = .ok (.iconst 1, 1) := by decide +kernel
theorem dX3_grants_87 : decode cX3_grants 87 = .ok (.isub, 1) := by decide +kernel
theorem dX3_grants_88 : decode cX3_grants 88 = .ok (.invokestatic 94, 3) := by decide +kernel
theorem dX3_grants_91 : decode cX3_grants 91 = .ok (.istore 8, 2) := by decide +kernel
theorem dX3_grants_93 : decode cX3_grants 93 = .ok (.aload_n 0, 1) := by decide +kernel
theorem dX3_grants_94 : decode cX3_grants 94 = .ok (.getfield 51, 3) := by decide +kernel
theorem dX3_grants_97 : decode cX3_grants 97 = .ok (.iload 12, 2) := by decide +kernel
theorem dX3_grants_99 : decode cX3_grants 99 = .ok (.iadd, 1) := by decide +kernel
theorem dX3_grants_100 : decode cX3_grants 100 = .ok (.bipush 24, 2) := by decide +kernel
theorem dX3_grants_102 : decode cX3_grants 102 = .ok (.irem, 1) := by decide +kernel
theorem dX3_grants_103 : decode cX3_grants 103 = .ok (.ifCond .ne 12, 3) := by decide +kernel
theorem dX3_grants_106 : decode cX3_grants 106 = .ok (.aload_n 0, 1) := by decide +kernel
theorem dX3_grants_107 : decode cX3_grants 107 = .ok (.iload_n 1, 1) := by decide +kernel
theorem dX3_grants_108 : decode cX3_grants 108 = .ok (.iload 12, 2) := by decide +kernel
theorem dX3_grants_110 : decode cX3_grants 110 = .ok (.invokevirtual 100, 3) := by decide +kernel
theorem dX3_grants_113 : decode cX3_grants 113 = .ok (.istore 7, 2) := by decide +kernel
theorem dX3_grants_115 : decode cX3_grants 115 = .ok (.iload 8, 2) := by decide +kernel
theorem dX3_grants_117 : decode cX3_grants 117 = .ok (.ifCond .ne 51, 3) := by decide +kernel
theorem dX3_grants_120 : decode cX3_grants 120 = .ok (.iload 7, 2) := by decide +kernel
theorem dX3_grants_122 : decode cX3_grants 122 = .ok (.iload 6, 2) := by decide +kernel
theorem dX3_grants_124 : decode cX3_grants 124 = .ok (.iadd, 1) := by decide +kernel
theorem dX3_grants_125 : decode cX3_grants 125 = .ok (.iload_n 2, 1) := by decide +kernel
theorem dX3_grants_126 : decode cX3_grants 126 = .ok (.if_icmp .lt 42, 3) := by decide +kernel
theorem dX3_grants_129 : decode cX3_grants 129 = .ok (.iload 6, 2) := by decide +kernel
theorem dX3_grants_131 : decode cX3_grants 131 = .ok (.iconst 0, 1) := by decide +kernel
theorem dX3_grants_132 : decode cX3_grants 132 = .ok (.iload_n 2, 1) := by decide +kernel
theorem dX3_grants_133 : decode cX3_grants 133 = .ok (.iload 7, 2) := by decide +kernel
theorem dX3_grants_135 : decode cX3_grants 135 = .ok (.isub, 1) := by decide +kernel
theorem dX3_grants_136 : decode cX3_grants 136 = .ok (.invokestatic 94, 3) := by decide +kernel
theorem dX3_grants_139 : decode cX3_grants 139 = .ok (.isub, 1) := by decide +kernel
theorem dX3_grants_140 : decode cX3_grants 140 = .ok (.istore 6, 2) := by decide +kernel
theorem dX3_grants_142 : decode cX3_grants 142 = .ok (.iconst 0, 1) := by decide +kernel
theorem dX3_grants_143 : decode cX3_grants 143 = .ok (.iload 7, 2) := by decide +kernel
theorem dX3_grants_145 : decode cX3_grants 145 = .ok (.iload_n 2, 1) := by decide +kernel
theorem dX3_grants_146 : decode cX3_grants 146 = .ok (.isub, 1) := by decide +kernel
theorem dX3_grants_147 : decode cX3_grants 147 = .ok (.invokestatic 94, 3) := by decide +kernel
theorem dX3_grants_150 : decode cX3_grants 150 = .ok (.istore 7, 2) := by decide +kernel
theorem dX3_grants_152 : decode cX3_grants 152 = .ok (.iconst 0, 1) := by decide +kernel
theorem dX3_grants_153 : decode cX3_grants 153 = .ok (.iload 9, 2) := by decide +kernel
theorem dX3_grants_155 : decode cX3_grants 155 = .ok (.iconst 1, 1) := by decide +kernel
theorem dX3_grants_156 : decode cX3_grants 156 = .ok (.isub, 1) := by decide +kernel
theorem dX3_grants_157 : decode cX3_grants 157 = .ok (.invokestatic 94, 3) := by decide +kernel
theorem dX3_grants_160 : decode cX3_grants 160 = .ok (.istore 9, 2) := by decide +kernel
theorem dX3_grants_162 : decode cX3_grants 162 = .ok (.iinc 11 1, 3) := by decide +kernel
theorem dX3_grants_165 : decode cX3_grants 165 = .ok (.goto 52, 3) := by decide +kernel
theorem dX3_grants_168 : decode cX3_grants 168 = .ok (.iload 8, 2) := by decide +kernel
theorem dX3_grants_170 : decode cX3_grants 170 = .ok (.ifCond .le 17, 3) := by decide +kernel
theorem dX3_grants_173 : decode cX3_grants 173 = .ok (.bipush 48, 2) := by decide +kernel
theorem dX3_grants_175 : decode cX3_grants 175 = .ok (.iload 8, 2) := by decide +kernel
theorem dX3_grants_177 : decode cX3_grants 177 = .ok (.iconst 1, 1) := by decide +kernel
theorem dX3_grants_178 : decode cX3_grants 178 = .ok (.iadd, 1) := by decide +kernel
theorem dX3_grants_179 : decode cX3_grants 179 = .ok (.invokestatic 74, 3) := by decide +kernel
theorem dX3_grants_182 : decode cX3_grants 182 = .ok (.istore 8, 2) := by decide +kernel
theorem dX3_grants_184 : decode cX3_grants 184 = .ok (.goto 33, 3) := by decide +kernel
theorem dX3_grants_187 : decode cX3_grants 187 = .ok (.iload 9, 2) := by decide +kernel
theorem dX3_grants_189 : decode cX3_grants 189 = .ok (.iconst 2, 1) := by decide +kernel
theorem dX3_grants_190 : decode cX3_grants 190 = .ok (.if_icmp .ge 9, 3) := by decide +kernel
theorem dX3_grants_193 : decode cX3_grants 193 = .ok (.iinc 9 1, 3) := by decide +kernel
theorem dX3_grants_196 : decode cX3_grants 196 = .ok (.goto 21, 3) := by decide +kernel
theorem dX3_grants_199 : decode cX3_grants 199 = .ok (.iconst 0, 1) := by decide +kernel
theorem dX3_grants_200 : decode cX3_grants 200 = .ok (.istore 9, 2) := by decide +kernel
theorem dX3_grants_202 : decode cX3_grants 202 = .ok (.iload 10, 2) := by decide +kernel
theorem dX3_grants_204 : decode cX3_grants 204 = .ok (.istore 8, 2) := by decide +kernel
theorem dX3_grants_206 : decode cX3_grants 206 = .ok (.bipush 32, 2) := by decide +kernel
theorem dX3_grants_208 : decode cX3_grants 208 = .ok (.iconst 2, 1) := by decide +kernel
theorem dX3_grants_209 : decode cX3_grants 209 = .ok (.iload 10, 2) := by decide +kernel
theorem dX3_grants_211 : decode cX3_grants 211 = .ok (.imul, 1) := by decide +kernel
theorem dX3_grants_212 : decode cX3_grants 212 = .ok (.invokestatic 74, 3) := by decide +kernel
theorem dX3_grants_215 : decode cX3_grants 215 = .ok (.istore 10, 2) := by decide +kernel
theorem dX3_grants_217 : decode cX3_grants 217 = .ok (.iinc 12 1, 3) := by decide +kernel
theorem dX3_grants_220 : decode cX3_grants 220 = .ok (.goto (-165), 3) := by decide +kernel
theorem dX3_grants_223 : decode cX3_grants 223 = .ok (.iload 11, 2) := by decide +kernel
theorem dX3_grants_225 : decode cX3_grants 225 = .ok (.ireturn, 1) := by decide +kernel
theorem dX3_grantedIn_0 : decode cX3_grantedIn 0 = .ok (.aload_n 0, 1) := by decide +kernel
theorem dX3_grantedIn_1 : decode cX3_grantedIn 1 = .ok (.iconst 0, 1) := by decide +kernel
theorem dX3_grantedIn_2 : decode cX3_grantedIn 2 = .ok (.putfield 37, 3) := by decide +kernel
theorem dX3_grantedIn_5 : decode cX3_grantedIn 5 = .ok (.aload_n 0, 1) := by decide +kernel
theorem dX3_grantedIn_6 : decode cX3_grantedIn 6 = .ok (.iload_n 1, 1) := by decide +kernel
theorem dX3_grantedIn_7 : decode cX3_grantedIn 7 = .ok (.invokevirtual 65, 3) := by decide +kernel
theorem dX3_grantedIn_10 : decode cX3_grantedIn 10 = .ok (.ifCond .ne 9, 3) := by decide +kernel
theorem dX3_grantedIn_13 : decode cX3_grantedIn 13 = .ok (.aload_n 0, 1) := by decide +kernel
theorem dX3_grantedIn_14 : decode cX3_grantedIn 14 = .ok (.iconst 1, 1) := by decide +kernel
theorem dX3_grantedIn_15 : decode cX3_grantedIn 15 = .ok (.invokevirtual 58, 3) := by decide +kernel
theorem dX3_grantedIn_18 : decode cX3_grantedIn 18 = .ok (.ireturn, 1) := by decide +kernel
theorem dX3_grantedIn_19 : decode cX3_grantedIn 19 = .ok (.iload_n 2, 1) := by decide +kernel
theorem dX3_grantedIn_20 : decode cX3_grantedIn 20 = .ok (.invokestatic 83, 3) := by decide +kernel
theorem dX3_grantedIn_23 : decode cX3_grantedIn 23 = .ok (.ifCond .eq 34, 3) := by decide +kernel
theorem dX3_grantedIn_26 : decode cX3_grantedIn 26 = .ok (.iload_n 3, 1) := by decide +kernel
theorem dX3_grantedIn_27 : decode cX3_grantedIn 27 = .ok (.iconst 1, 1) := by decide +kernel
theorem dX3_grantedIn_28 : decode cX3_grantedIn 28 = .ok (.bipush 60, 2) := by decide +kernel
theorem dX3_grantedIn_30 : decode cX3_grantedIn 30 = .ok (.invokestatic 44, 3) := by decide +kernel
theorem dX3_grantedIn_33 : decode cX3_grantedIn 33 = .ok (.ifCond .eq 24, 3) := by decide +kernel
theorem dX3_grantedIn_36 : decode cX3_grantedIn 36 = .ok (.aload_n 0, 1) := by decide +kernel
theorem dX3_grantedIn_37 : decode cX3_grantedIn 37 = .ok (.iload_n 1, 1) := by decide +kernel
theorem dX3_grantedIn_38 : decode cX3_grantedIn 38 = .ok (.iload_n 2, 1) := by decide +kernel
theorem dX3_grantedIn_39 : decode cX3_grantedIn 39 = .ok (.iload_n 3, 1) := by decide +kernel
theorem dX3_grantedIn_40 : decode cX3_grantedIn 40 = .ok (.aload_n 0, 1) := by decide +kernel
theorem dX3_grantedIn_41 : decode cX3_grantedIn 41 = .ok (.getfield 13, 3) := by decide +kernel
theorem dX3_grantedIn_44 : decode cX3_grantedIn 44 = .ok (.aload_n 0, 1) := by decide +kernel
theorem dX3_grantedIn_45 : decode cX3_grantedIn 45 = .ok (.getfield 19, 3) := by decide +kernel
theorem dX3_grantedIn_48 : decode cX3_grantedIn 48 = .ok (.iload_n 1, 1) := by decide +kernel
theorem dX3_grantedIn_49 : decode cX3_grantedIn 49 = .ok (.iaload, 1) := by decide +kernel
theorem dX3_grantedIn_50 : decode cX3_grantedIn 50 = .ok (.iaload, 1) := by decide +kernel
theorem dX3_grantedIn_51 : decode cX3_grantedIn 51 = .ok (.invokevirtual 126, 3) := by decide +kernel
theorem dX3_grantedIn_54 : decode cX3_grantedIn 54 = .ok (.goto 8, 3) := by decide +kernel
theorem dX3_grantedIn_57 : decode cX3_grantedIn 57 = .ok (.aload_n 0, 1) := by decide +kernel
theorem dX3_grantedIn_58 : decode cX3_grantedIn 58 = .ok (.iconst 2, 1) := by decide +kernel
theorem dX3_grantedIn_59 : decode cX3_grantedIn 59 = .ok (.invokevirtual 58, 3) := by decide +kernel
theorem dX3_grantedIn_62 : decode cX3_grantedIn 62 = .ok (.ireturn, 1) := by decide +kernel
theorem dX3_wanted_0 : decode cX3_wanted 0 = .ok (.iconst 0, 1) := by decide +kernel
theorem dX3_wanted_1 : decode cX3_wanted 1 = .ok (.istore_n 3, 1) := by decide +kernel
theorem dX3_wanted_2 : decode cX3_wanted 2 = .ok (.iload_n 3, 1) := by decide +kernel
theorem dX3_wanted_3 : decode cX3_wanted 3 = .ok (.bipush 20, 2) := by decide +kernel
theorem dX3_wanted_5 : decode cX3_wanted 5 = .ok (.if_icmp .gt 25, 3) := by decide +kernel
theorem dX3_wanted_8 : decode cX3_wanted 8 = .ok (.aload_n 0, 1) := by decide +kernel
theorem dX3_wanted_9 : decode cX3_wanted 9 = .ok (.iload_n 1, 1) := by decide +kernel
theorem dX3_wanted_10 : decode cX3_wanted 10 = .ok (.iload_n 2, 1) := by decide +kernel
theorem dX3_wanted_11 : decode cX3_wanted 11 = .ok (.bipush 24, 2) := by decide +kernel
theorem dX3_wanted_13 : decode cX3_wanted 13 = .ok (.iload_n 3, 1) := by decide +kernel
theorem dX3_wanted_14 : decode cX3_wanted 14 = .ok (.invokevirtual 126, 3) := by decide +kernel
theorem dX3_wanted_17 : decode cX3_wanted 17 = .ok (.bipush 24, 2) := by decide +kernel
theorem dX3_wanted_19 : decode cX3_wanted 19 = .ok (.if_icmp .ne 5, 3) := by decide +kernel
theorem dX3_wanted_22 : decode cX3_wanted 22 = .ok (.iload_n 3, 1) := by decide +kernel
theorem dX3_wanted_23 : decode cX3_wanted 23 = .ok (.ireturn, 1) := by decide +kernel
theorem dX3_wanted_24 : decode cX3_wanted 24 = .ok (.iinc 3 1, 3) := by decide +kernel
theorem dX3_wanted_27 : decode cX3_wanted 27 = .ok (.goto (-25), 3) := by decide +kernel
theorem dX3_wanted_30 : decode cX3_wanted 30 = .ok (.iconst (-1), 1) := by decide +kernel
theorem dX3_wanted_31 : decode cX3_wanted 31 = .ok (.ireturn, 1) := by decide +kernel
theorem dX3_fallWanted_0 : decode cX3_fallWanted 0 = .ok (.aload_n 0, 1) := by decide +kernel
theorem dX3_fallWanted_1 : decode cX3_fallWanted 1 = .ok (.iconst 0, 1) := by decide +kernel
theorem dX3_fallWanted_2 : decode cX3_fallWanted 2 = .ok (.putfield 37, 3) := by decide +kernel
theorem dX3_fallWanted_5 : decode cX3_fallWanted 5 = .ok (.aload_n 0, 1) := by decide +kernel
theorem dX3_fallWanted_6 : decode cX3_fallWanted 6 = .ok (.iload_n 1, 1) := by decide +kernel
theorem dX3_fallWanted_7 : decode cX3_fallWanted 7 = .ok (.invokevirtual 65, 3) := by decide +kernel
theorem dX3_fallWanted_10 : decode cX3_fallWanted 10 = .ok (.ifCond .ne 9, 3) := by decide +kernel
theorem dX3_fallWanted_13 : decode cX3_fallWanted 13 = .ok (.aload_n 0, 1) := by decide +kernel
theorem dX3_fallWanted_14 : decode cX3_fallWanted 14 = .ok (.iconst 1, 1) := by decide +kernel
theorem dX3_fallWanted_15 : decode cX3_fallWanted 15 = .ok (.invokevirtual 58, 3) := by decide +kernel
theorem dX3_fallWanted_18 : decode cX3_fallWanted 18 = .ok (.ireturn, 1) := by decide +kernel
theorem dX3_fallWanted_19 : decode cX3_fallWanted 19 = .ok (.iload_n 2, 1) := by decide +kernel
theorem dX3_fallWanted_20 : decode cX3_fallWanted 20 = .ok (.invokestatic 83, 3) := by decide +kernel
theorem dX3_fallWanted_23 : decode cX3_fallWanted 23 = .ok (.ifCond .eq 12, 3) := by decide +kernel
theorem dX3_fallWanted_26 : decode cX3_fallWanted 26 = .ok (.aload_n 0, 1) := by decide +kernel
theorem dX3_fallWanted_27 : decode cX3_fallWanted 27 = .ok (.iload_n 1, 1) := by decide +kernel
theorem dX3_fallWanted_28 : decode cX3_fallWanted 28 = .ok (.iload_n 2, 1) := by decide +kernel
theorem dX3_fallWanted_29 : decode cX3_fallWanted 29 = .ok (.invokevirtual 130, 3) := by decide +kernel
theorem dX3_fallWanted_32 : decode cX3_fallWanted 32 = .ok (.goto 8, 3) := by decide +kernel
theorem dX3_fallWanted_35 : decode cX3_fallWanted 35 = .ok (.aload_n 0, 1) := by decide +kernel
theorem dX3_fallWanted_36 : decode cX3_fallWanted 36 = .ok (.iconst 2, 1) := by decide +kernel
theorem dX3_fallWanted_37 : decode cX3_fallWanted 37 = .ok (.invokevirtual 58, 3) := by decide +kernel
theorem dX3_fallWanted_40 : decode cX3_fallWanted 40 = .ok (.ireturn, 1) := by decide +kernel
theorem dX3_untilFull_0 : decode cX3_untilFull 0 = .ok (.aload_n 0, 1) := by decide +kernel
theorem dX3_untilFull_1 : decode cX3_untilFull 1 = .ok (.getfield 9, 3) := by decide +kernel
theorem dX3_untilFull_4 : decode cX3_untilFull 4 = .ok (.iload_n 1, 1) := by decide +kernel
theorem dX3_untilFull_5 : decode cX3_untilFull 5 = .ok (.iaload, 1) := by decide +kernel
theorem dX3_untilFull_6 : decode cX3_untilFull 6 = .ok (.aload_n 0, 1) := by decide +kernel
theorem dX3_untilFull_7 : decode cX3_untilFull 7 = .ok (.getfield 16, 3) := by decide +kernel
theorem dX3_untilFull_10 : decode cX3_untilFull 10 = .ok (.iload_n 1, 1) := by decide +kernel
theorem dX3_untilFull_11 : decode cX3_untilFull 11 = .ok (.iaload, 1) := by decide +kernel
theorem dX3_untilFull_12 : decode cX3_untilFull 12 = .ok (.isub, 1) := by decide +kernel
theorem dX3_untilFull_13 : decode cX3_untilFull 13 = .ok (.istore_n 2, 1) := by decide +kernel
theorem dX3_untilFull_14 : decode cX3_untilFull 14 = .ok (.iload_n 2, 1) := by decide +kernel
theorem dX3_untilFull_15 : decode cX3_untilFull 15 = .ok (.ifCond .ne 5, 3) := by decide +kernel
theorem dX3_untilFull_18 : decode cX3_untilFull 18 = .ok (.iconst 0, 1) := by decide +kernel
theorem dX3_untilFull_19 : decode cX3_untilFull 19 = .ok (.ireturn, 1) := by decide +kernel
theorem dX3_untilFull_20 : decode cX3_untilFull 20 = .ok (.aload_n 0, 1) := by decide +kernel
theorem dX3_untilFull_21 : decode cX3_untilFull 21 = .ok (.getfield 13, 3) := by decide +kernel
theorem dX3_untilFull_24 : decode cX3_untilFull 24 = .ok (.iload_n 1, 1) := by decide +kernel
theorem dX3_untilFull_25 : decode cX3_untilFull 25 = .ok (.iaload, 1) := by decide +kernel
theorem dX3_untilFull_26 : decode cX3_untilFull 26 = .ok (.ifCond .ne 7, 3) := by decide +kernel
theorem dX3_untilFull_29 : decode cX3_untilFull 29 = .ok (.iconst (-1), 1) := by decide +kernel
theorem dX3_untilFull_30 : decode cX3_untilFull 30 = .ok (.goto 20, 3) := by decide +kernel
theorem dX3_untilFull_33 : decode cX3_untilFull 33 = .ok (.iload_n 2, 1) := by decide +kernel
theorem dX3_untilFull_34 : decode cX3_untilFull 34 = .ok (.aload_n 0, 1) := by decide +kernel
theorem dX3_untilFull_35 : decode cX3_untilFull 35 = .ok (.getfield 13, 3) := by decide +kernel
theorem dX3_untilFull_38 : decode cX3_untilFull 38 = .ok (.iload_n 1, 1) := by decide +kernel
theorem dX3_untilFull_39 : decode cX3_untilFull 39 = .ok (.iaload, 1) := by decide +kernel
theorem dX3_untilFull_40 : decode cX3_untilFull 40 = .ok (.iadd, 1) := by decide +kernel
theorem dX3_untilFull_41 : decode cX3_untilFull 41 = .ok (.iconst 1, 1) := by decide +kernel
theorem dX3_untilFull_42 : decode cX3_untilFull 42 = .ok (.isub, 1) := by decide +kernel
theorem dX3_untilFull_43 : decode cX3_untilFull 43 = .ok (.aload_n 0, 1) := by decide +kernel
theorem dX3_untilFull_44 : decode cX3_untilFull 44 = .ok (.getfield 13, 3) := by decide +kernel
theorem dX3_untilFull_47 : decode cX3_untilFull 47 = .ok (.iload_n 1, 1) := by decide +kernel
theorem dX3_untilFull_48 : decode cX3_untilFull 48 = .ok (.iaload, 1) := by decide +kernel
theorem dX3_untilFull_49 : decode cX3_untilFull 49 = .ok (.idiv, 1) := by decide +kernel
theorem dX3_untilFull_50 : decode cX3_untilFull 50 = .ok (.ireturn, 1) := by decide +kernel
theorem dX3_hoursUntilFull_0 : decode cX3_hoursUntilFull 0 = .ok (.aload_n 0, 1) := by decide +kernel
theorem dX3_hoursUntilFull_1 : decode cX3_hoursUntilFull 1 = .ok (.iconst 0, 1) := by decide +kernel
theorem dX3_hoursUntilFull_2 : decode cX3_hoursUntilFull 2 = .ok (.putfield 37, 3) := by decide +kernel
theorem dX3_hoursUntilFull_5 : decode cX3_hoursUntilFull 5 = .ok (.aload_n 0, 1) := by decide +kernel
theorem dX3_hoursUntilFull_6 : decode cX3_hoursUntilFull 6 = .ok (.iload_n 1, 1) := by decide +kernel
theorem dX3_hoursUntilFull_7 : decode cX3_hoursUntilFull 7 = .ok (.invokevirtual 61, 3) := by decide +kernel
theorem dX3_hoursUntilFull_10 : decode cX3_hoursUntilFull 10 = .ok (.ifCond .eq 11, 3) := by decide +kernel
theorem dX3_hoursUntilFull_13 : decode cX3_hoursUntilFull 13 = .ok (.aload_n 0, 1) := by decide +kernel
theorem dX3_hoursUntilFull_14 : decode cX3_hoursUntilFull 14 = .ok (.iload_n 1, 1) := by decide +kernel
theorem dX3_hoursUntilFull_15 : decode cX3_hoursUntilFull 15 = .ok (.invokevirtual 133, 3) := by decide +kernel
theorem dX3_hoursUntilFull_18 : decode cX3_hoursUntilFull 18 = .ok (.goto 8, 3) := by decide +kernel
theorem dX3_hoursUntilFull_21 : decode cX3_hoursUntilFull 21 = .ok (.aload_n 0, 1) := by decide +kernel
theorem dX3_hoursUntilFull_22 : decode cX3_hoursUntilFull 22 = .ok (.iconst 1, 1) := by decide +kernel
theorem dX3_hoursUntilFull_23 : decode cX3_hoursUntilFull 23 = .ok (.invokevirtual 58, 3) := by decide +kernel
theorem dX3_hoursUntilFull_26 : decode cX3_hoursUntilFull 26 = .ok (.ireturn, 1) := by decide +kernel
theorem dX3_leaves_0 : decode cX3_leaves 0 = .ok (.aload_n 0, 1) := by decide +kernel
theorem dX3_leaves_1 : decode cX3_leaves 1 = .ok (.getfield 16, 3) := by decide +kernel
theorem dX3_leaves_4 : decode cX3_leaves 4 = .ok (.aload_n 0, 1) := by decide +kernel
theorem dX3_leaves_5 : decode cX3_leaves 5 = .ok (.getfield 19, 3) := by decide +kernel
theorem dX3_leaves_8 : decode cX3_leaves 8 = .ok (.iload_n 1, 1) := by decide +kernel
theorem dX3_leaves_9 : decode cX3_leaves 9 = .ok (.iaload, 1) := by decide +kernel
theorem dX3_leaves_10 : decode cX3_leaves 10 = .ok (.iaload, 1) := by decide +kernel
theorem dX3_leaves_11 : decode cX3_leaves 11 = .ok (.iconst 0, 1) := by decide +kernel
theorem dX3_leaves_12 : decode cX3_leaves 12 = .ok (.iload_n 2, 1) := by decide +kernel
theorem dX3_leaves_13 : decode cX3_leaves 13 = .ok (.aload_n 0, 1) := by decide +kernel
theorem dX3_leaves_14 : decode cX3_leaves 14 = .ok (.getfield 25, 3) := by decide +kernel
theorem dX3_leaves_17 : decode cX3_leaves 17 = .ok (.iload_n 1, 1) := by decide +kernel
theorem dX3_leaves_18 : decode cX3_leaves 18 = .ok (.iaload, 1) := by decide +kernel
theorem dX3_leaves_19 : decode cX3_leaves 19 = .ok (.isub, 1) := by decide +kernel
theorem dX3_leaves_20 : decode cX3_leaves 20 = .ok (.invokestatic 94, 3) := by decide +kernel
theorem dX3_leaves_23 : decode cX3_leaves 23 = .ok (.isub, 1) := by decide +kernel
theorem dX3_leaves_24 : decode cX3_leaves 24 = .ok (.ireturn, 1) := by decide +kernel
theorem dX3_best_0 : decode cX3_best 0 = .ok (.iconst (-1), 1) := by decide +kernel
theorem dX3_best_1 : decode cX3_best 1 = .ok (.istore_n 2, 1) := by decide +kernel
theorem dX3_best_2 : decode cX3_best 2 = .ok (.iconst 0, 1) := by decide +kernel
theorem dX3_best_3 : decode cX3_best 3 = .ok (.istore_n 3, 1) := by decide +kernel
theorem dX3_best_4 : decode cX3_best 4 = .ok (.iload_n 3, 1) := by decide +kernel
theorem dX3_best_5 : decode cX3_best 5 = .ok (.aload_n 0, 1) := by decide +kernel
theorem dX3_best_6 : decode cX3_best 6 = .ok (.getfield 48, 3) := by decide +kernel
theorem dX3_best_9 : decode cX3_best 9 = .ok (.if_icmp .ge 40, 3) := by decide +kernel
theorem dX3_best_12 : decode cX3_best 12 = .ok (.aload_n 0, 1) := by decide +kernel
theorem dX3_best_13 : decode cX3_best 13 = .ok (.iload_n 3, 1) := by decide +kernel
theorem dX3_best_14 : decode cX3_best 14 = .ok (.iload_n 1, 1) := by decide +kernel
theorem dX3_best_15 : decode cX3_best 15 = .ok (.invokevirtual 86, 3) := by decide +kernel
theorem dX3_best_18 : decode cX3_best 18 = .ok (.ifCond .eq 25, 3) := by decide +kernel
theorem dX3_best_21 : decode cX3_best 21 = .ok (.iload_n 2, 1) := by decide +kernel
theorem dX3_best_22 : decode cX3_best 22 = .ok (.iconst (-1), 1) := by decide +kernel
theorem dX3_best_23 : decode cX3_best 23 = .ok (.if_icmp .eq 18, 3) := by decide +kernel
theorem dX3_best_26 : decode cX3_best 26 = .ok (.aload_n 0, 1) := by decide +kernel
theorem dX3_best_27 : decode cX3_best 27 = .ok (.iload_n 3, 1) := by decide +kernel
theorem dX3_best_28 : decode cX3_best 28 = .ok (.iload_n 1, 1) := by decide +kernel
theorem dX3_best_29 : decode cX3_best 29 = .ok (.invokevirtual 136, 3) := by decide +kernel
theorem dX3_best_32 : decode cX3_best 32 = .ok (.aload_n 0, 1) := by decide +kernel
theorem dX3_best_33 : decode cX3_best 33 = .ok (.iload_n 2, 1) := by decide +kernel
theorem dX3_best_34 : decode cX3_best 34 = .ok (.iload_n 1, 1) := by decide +kernel
theorem dX3_best_35 : decode cX3_best 35 = .ok (.invokevirtual 136, 3) := by decide +kernel
theorem dX3_best_38 : decode cX3_best 38 = .ok (.if_icmp .le 5, 3) := by decide +kernel
theorem dX3_best_41 : decode cX3_best 41 = .ok (.iload_n 3, 1) := by decide +kernel
theorem dX3_best_42 : decode cX3_best 42 = .ok (.istore_n 2, 1) := by decide +kernel
theorem dX3_best_43 : decode cX3_best 43 = .ok (.iinc 3 1, 3) := by decide +kernel
theorem dX3_best_46 : decode cX3_best 46 = .ok (.goto (-42), 3) := by decide +kernel
theorem dX3_best_49 : decode cX3_best 49 = .ok (.iload_n 2, 1) := by decide +kernel
theorem dX3_best_50 : decode cX3_best 50 = .ok (.ireturn, 1) := by decide +kernel
theorem dX3_bestChild_0 : decode cX3_bestChild 0 = .ok (.aload_n 0, 1) := by decide +kernel
theorem dX3_bestChild_1 : decode cX3_bestChild 1 = .ok (.iconst 0, 1) := by decide +kernel
theorem dX3_bestChild_2 : decode cX3_bestChild 2 = .ok (.putfield 37, 3) := by decide +kernel
theorem dX3_bestChild_5 : decode cX3_bestChild 5 = .ok (.iload_n 1, 1) := by decide +kernel
theorem dX3_bestChild_6 : decode cX3_bestChild 6 = .ok (.invokestatic 83, 3) := by decide +kernel
theorem dX3_bestChild_9 : decode cX3_bestChild 9 = .ok (.ifCond .eq 11, 3) := by decide +kernel
theorem dX3_bestChild_12 : decode cX3_bestChild 12 = .ok (.aload_n 0, 1) := by decide +kernel
theorem dX3_bestChild_13 : decode cX3_bestChild 13 = .ok (.iload_n 1, 1) := by decide +kernel
theorem dX3_bestChild_14 : decode cX3_bestChild 14 = .ok (.invokevirtual 139, 3) := by decide +kernel
theorem dX3_bestChild_17 : decode cX3_bestChild 17 = .ok (.goto 8, 3) := by decide +kernel
theorem dX3_bestChild_20 : decode cX3_bestChild 20 = .ok (.aload_n 0, 1) := by decide +kernel
theorem dX3_bestChild_21 : decode cX3_bestChild 21 = .ok (.iconst 1, 1) := by decide +kernel
theorem dX3_bestChild_22 : decode cX3_bestChild 22 = .ok (.invokevirtual 58, 3) := by decide +kernel
theorem dX3_bestChild_25 : decode cX3_bestChild 25 = .ok (.ireturn, 1) := by decide +kernel
theorem dX3_share_0 : decode cX3_share 0 = .ok (.aload_n 0, 1) := by decide +kernel
theorem dX3_share_1 : decode cX3_share 1 = .ok (.iconst 0, 1) := by decide +kernel
theorem dX3_share_2 : decode cX3_share 2 = .ok (.putfield 37, 3) := by decide +kernel
theorem dX3_share_5 : decode cX3_share 5 = .ok (.aload_n 0, 1) := by decide +kernel
theorem dX3_share_6 : decode cX3_share 6 = .ok (.getfield 97, 3) := by decide +kernel
theorem dX3_share_9 : decode cX3_share 9 = .ok (.aload_n 0, 1) := by decide +kernel
theorem dX3_share_10 : decode cX3_share 10 = .ok (.getfield 71, 3) := by decide +kernel
theorem dX3_share_13 : decode cX3_share 13 = .ok (.iadd, 1) := by decide +kernel
theorem dX3_share_14 : decode cX3_share 14 = .ok (.istore_n 1, 1) := by decide +kernel
theorem dX3_share_15 : decode cX3_share 15 = .ok (.iload_n 1, 1) := by decide +kernel
theorem dX3_share_16 : decode cX3_share 16 = .ok (.ifCond .ne 7, 3) := by decide +kernel
theorem dX3_share_19 : decode cX3_share 19 = .ok (.dconst 0, 1) := by decide +kernel
theorem dX3_share_20 : decode cX3_share 20 = .ok (.goto 11, 3) := by decide +kernel
theorem dX3_share_23 : decode cX3_share 23 = .ok (.aload_n 0, 1) := by decide +kernel
theorem dX3_share_24 : decode cX3_share 24 = .ok (.getfield 97, 3) := by decide +kernel
theorem dX3_share_27 : decode cX3_share 27 = .ok (.i2d, 1) := by decide +kernel
theorem dX3_share_28 : decode cX3_share 28 = .ok (.iload_n 1, 1) := by decide +kernel
theorem dX3_share_29 : decode cX3_share 29 = .ok (.i2d, 1) := by decide +kernel
theorem dX3_share_30 : decode cX3_share 30 = .ok (.ddiv, 1) := by decide +kernel
theorem dX3_share_31 : decode cX3_share 31 = .ok (.dreturn, 1) := by decide +kernel
theorem dX3_digest_0 : decode cX3_digest 0 = .ok (.aload_n 0, 1) := by decide +kernel
theorem dX3_digest_1 : decode cX3_digest 1 = .ok (.iconst 0, 1) := by decide +kernel
theorem dX3_digest_2 : decode cX3_digest 2 = .ok (.putfield 37, 3) := by decide +kernel
theorem dX3_digest_5 : decode cX3_digest 5 = .ok (.bipush 8, 2) := by decide +kernel
theorem dX3_digest_7 : decode cX3_digest 7 = .ok (.newarray .int, 2) := by decide +kernel
theorem dX3_digest_9 : decode cX3_digest 9 = .ok (.dup, 1) := by decide +kernel
theorem dX3_digest_10 : decode cX3_digest 10 = .ok (.iconst 0, 1) := by decide +kernel
theorem dX3_digest_11 : decode cX3_digest 11 = .ok (.aload_n 0, 1) := by decide +kernel
theorem dX3_digest_12 : decode cX3_digest 12 = .ok (.getfield 51, 3) := by decide +kernel
theorem dX3_digest_15 : decode cX3_digest 15 = .ok (.iastore, 1) := by decide +kernel
theorem dX3_digest_16 : decode cX3_digest 16 = .ok (.dup, 1) := by decide +kernel
theorem dX3_digest_17 : decode cX3_digest 17 = .ok (.iconst 1, 1) := by decide +kernel
theorem dX3_digest_18 : decode cX3_digest 18 = .ok (.aload_n 0, 1) := by decide +kernel
theorem dX3_digest_19 : decode cX3_digest 19 = .ok (.getfield 51, 3) := by decide +kernel
theorem dX3_digest_22 : decode cX3_digest 22 = .ok (.invokestatic 54, 3) := by decide +kernel
theorem dX3_digest_25 : decode cX3_digest 25 = .ok (.iastore, 1) := by decide +kernel
theorem dX3_digest_26 : decode cX3_digest 26 = .ok (.dup, 1) := by decide +kernel
theorem dX3_digest_27 : decode cX3_digest 27 = .ok (.iconst 2, 1) := by decide +kernel
theorem dX3_digest_28 : decode cX3_digest 28 = .ok (.aload_n 0, 1) := by decide +kernel
theorem dX3_digest_29 : decode cX3_digest 29 = .ok (.getfield 41, 3) := by decide +kernel
theorem dX3_digest_32 : decode cX3_digest 32 = .ok (.iastore, 1) := by decide +kernel
theorem dX3_digest_33 : decode cX3_digest 33 = .ok (.dup, 1) := by decide +kernel
theorem dX3_digest_34 : decode cX3_digest 34 = .ok (.iconst 3, 1) := by decide +kernel
theorem dX3_digest_35 : decode cX3_digest 35 = .ok (.aload_n 0, 1) := by decide +kernel
theorem dX3_digest_36 : decode cX3_digest 36 = .ok (.getfield 48, 3) := by decide +kernel
theorem dX3_digest_39 : decode cX3_digest 39 = .ok (.iastore, 1) := by decide +kernel
theorem dX3_digest_40 : decode cX3_digest 40 = .ok (.dup, 1) := by decide +kernel
theorem dX3_digest_41 : decode cX3_digest 41 = .ok (.iconst 4, 1) := by decide +kernel
theorem dX3_digest_42 : decode cX3_digest 42 = .ok (.aload_n 0, 1) := by decide +kernel
theorem dX3_digest_43 : decode cX3_digest 43 = .ok (.getfield 97, 3) := by decide +kernel
theorem dX3_digest_46 : decode cX3_digest 46 = .ok (.iastore, 1) := by decide +kernel
theorem dX3_digest_47 : decode cX3_digest 47 = .ok (.dup, 1) := by decide +kernel
theorem dX3_digest_48 : decode cX3_digest 48 = .ok (.iconst 5, 1) := by decide +kernel
theorem dX3_digest_49 : decode cX3_digest 49 = .ok (.aload_n 0, 1) := by decide +kernel
theorem dX3_digest_50 : decode cX3_digest 50 = .ok (.getfield 71, 3) := by decide +kernel
theorem dX3_digest_53 : decode cX3_digest 53 = .ok (.iastore, 1) := by decide +kernel
theorem dX3_digest_54 : decode cX3_digest 54 = .ok (.dup, 1) := by decide +kernel
theorem dX3_digest_55 : decode cX3_digest 55 = .ok (.bipush 6, 2) := by decide +kernel
theorem dX3_digest_57 : decode cX3_digest 57 = .ok (.aload_n 0, 1) := by decide +kernel
theorem dX3_digest_58 : decode cX3_digest 58 = .ok (.invokevirtual 106, 3) := by decide +kernel
theorem dX3_digest_61 : decode cX3_digest 61 = .ok (.iastore, 1) := by decide +kernel
theorem dX3_digest_62 : decode cX3_digest 62 = .ok (.dup, 1) := by decide +kernel
theorem dX3_digest_63 : decode cX3_digest 63 = .ok (.bipush 7, 2) := by decide +kernel
theorem dX3_digest_65 : decode cX3_digest 65 = .ok (.aload_n 0, 1) := by decide +kernel
theorem dX3_digest_66 : decode cX3_digest 66 = .ok (.iconst 5, 1) := by decide +kernel
theorem dX3_digest_67 : decode cX3_digest 67 = .ok (.invokevirtual 139, 3) := by decide +kernel
theorem dX3_digest_70 : decode cX3_digest 70 = .ok (.iastore, 1) := by decide +kernel
theorem dX3_digest_71 : decode cX3_digest 71 = .ok (.astore_n 1, 1) := by decide +kernel
theorem dX3_digest_72 : decode cX3_digest 72 = .ok (.ldc2_w 142, 3) := by decide +kernel
theorem dX3_digest_75 : decode cX3_digest 75 = .ok (.lstore_n 2, 1) := by decide +kernel
theorem dX3_digest_76 : decode cX3_digest 76 = .ok (.aload_n 1, 1) := by decide +kernel
theorem dX3_digest_77 : decode cX3_digest 77 = .ok (.astore 4, 2) := by decide +kernel
theorem dX3_digest_79 : decode cX3_digest 79 = .ok (.aload 4, 2) := by decide +kernel
theorem dX3_digest_81 : decode cX3_digest 81 = .ok (.arraylength, 1) := by decide +kernel
theorem dX3_digest_82 : decode cX3_digest 82 = .ok (.istore 5, 2) := by decide +kernel
theorem dX3_digest_84 : decode cX3_digest 84 = .ok (.iconst 0, 1) := by decide +kernel
theorem dX3_digest_85 : decode cX3_digest 85 = .ok (.istore 6, 2) := by decide +kernel
theorem dX3_digest_87 : decode cX3_digest 87 = .ok (.iload 6, 2) := by decide +kernel
theorem dX3_digest_89 : decode cX3_digest 89 = .ok (.iload 5, 2) := by decide +kernel
theorem dX3_digest_91 : decode cX3_digest 91 = .ok (.if_icmp .ge 26, 3) := by decide +kernel
theorem dX3_digest_94 : decode cX3_digest 94 = .ok (.aload 4, 2) := by decide +kernel
theorem dX3_digest_96 : decode cX3_digest 96 = .ok (.iload 6, 2) := by decide +kernel
theorem dX3_digest_98 : decode cX3_digest 98 = .ok (.iaload, 1) := by decide +kernel
theorem dX3_digest_99 : decode cX3_digest 99 = .ok (.istore 7, 2) := by decide +kernel
theorem dX3_digest_101 : decode cX3_digest 101 = .ok (.lload_n 2, 1) := by decide +kernel
theorem dX3_digest_102 : decode cX3_digest 102 = .ok (.ldc2_w 144, 3) := by decide +kernel
theorem dX3_digest_105 : decode cX3_digest 105 = .ok (.lmul, 1) := by decide +kernel
theorem dX3_digest_106 : decode cX3_digest 106 = .ok (.iload 7, 2) := by decide +kernel
theorem dX3_digest_108 : decode cX3_digest 108 = .ok (.i2l, 1) := by decide +kernel
theorem dX3_digest_109 : decode cX3_digest 109 = .ok (.ladd, 1) := by decide +kernel
theorem dX3_digest_110 : decode cX3_digest 110 = .ok (.lstore_n 2, 1) := by decide +kernel
theorem dX3_digest_111 : decode cX3_digest 111 = .ok (.iinc 6 1, 3) := by decide +kernel
theorem dX3_digest_114 : decode cX3_digest 114 = .ok (.goto (-27), 3) := by decide +kernel
theorem dX3_digest_117 : decode cX3_digest 117 = .ok (.iconst 0, 1) := by decide +kernel
theorem dX3_digest_118 : decode cX3_digest 118 = .ok (.istore 4, 2) := by decide +kernel
theorem dX3_digest_120 : decode cX3_digest 120 = .ok (.iload 4, 2) := by decide +kernel
theorem dX3_digest_122 : decode cX3_digest 122 = .ok (.aload_n 0, 1) := by decide +kernel
theorem dX3_digest_123 : decode cX3_digest 123 = .ok (.getfield 41, 3) := by decide +kernel
theorem dX3_digest_126 : decode cX3_digest 126 = .ok (.if_icmp .ge 48, 3) := by decide +kernel
theorem dX3_digest_129 : decode cX3_digest 129 = .ok (.lload_n 2, 1) := by decide +kernel
theorem dX3_digest_130 : decode cX3_digest 130 = .ok (.ldc2_w 144, 3) := by decide +kernel
theorem dX3_digest_133 : decode cX3_digest 133 = .ok (.lmul, 1) := by decide +kernel
theorem dX3_digest_134 : decode cX3_digest 134 = .ok (.aload_n 0, 1) := by decide +kernel
theorem dX3_digest_135 : decode cX3_digest 135 = .ok (.getfield 16, 3) := by decide +kernel
theorem dX3_digest_138 : decode cX3_digest 138 = .ok (.iload 4, 2) := by decide +kernel
theorem dX3_digest_140 : decode cX3_digest 140 = .ok (.iaload, 1) := by decide +kernel
theorem dX3_digest_141 : decode cX3_digest 141 = .ok (.i2l, 1) := by decide +kernel
theorem dX3_digest_142 : decode cX3_digest 142 = .ok (.ladd, 1) := by decide +kernel
theorem dX3_digest_143 : decode cX3_digest 143 = .ok (.ldc2_w 144, 3) := by decide +kernel
theorem dX3_digest_146 : decode cX3_digest 146 = .ok (.lmul, 1) := by decide +kernel
theorem dX3_digest_147 : decode cX3_digest 147 = .ok (.aload_n 0, 1) := by decide +kernel
theorem dX3_digest_148 : decode cX3_digest 148 = .ok (.iload 4, 2) := by decide +kernel
theorem dX3_digest_150 : decode cX3_digest 150 = .ok (.invokevirtual 110, 3) := by decide +kernel
theorem dX3_digest_153 : decode cX3_digest 153 = .ok (.i2l, 1) := by decide +kernel
theorem dX3_digest_154 : decode cX3_digest 154 = .ok (.ladd, 1) := by decide +kernel
theorem dX3_digest_155 : decode cX3_digest 155 = .ok (.ldc2_w 144, 3) := by decide +kernel
theorem dX3_digest_158 : decode cX3_digest 158 = .ok (.lmul, 1) := by decide +kernel
theorem dX3_digest_159 : decode cX3_digest 159 = .ok (.aload_n 0, 1) := by decide +kernel
theorem dX3_digest_160 : decode cX3_digest 160 = .ok (.iload 4, 2) := by decide +kernel
theorem dX3_digest_162 : decode cX3_digest 162 = .ok (.invokevirtual 133, 3) := by decide +kernel
theorem dX3_digest_165 : decode cX3_digest 165 = .ok (.i2l, 1) := by decide +kernel
theorem dX3_digest_166 : decode cX3_digest 166 = .ok (.ladd, 1) := by decide +kernel
theorem dX3_digest_167 : decode cX3_digest 167 = .ok (.lstore_n 2, 1) := by decide +kernel
theorem dX3_digest_168 : decode cX3_digest 168 = .ok (.iinc 4 1, 3) := by decide +kernel
theorem dX3_digest_171 : decode cX3_digest 171 = .ok (.goto (-51), 3) := by decide +kernel
theorem dX3_digest_174 : decode cX3_digest 174 = .ok (.iconst 0, 1) := by decide +kernel
theorem dX3_digest_175 : decode cX3_digest 175 = .ok (.istore 4, 2) := by decide +kernel
theorem dX3_digest_177 : decode cX3_digest 177 = .ok (.iload 4, 2) := by decide +kernel
theorem dX3_digest_179 : decode cX3_digest 179 = .ok (.aload_n 0, 1) := by decide +kernel
theorem dX3_digest_180 : decode cX3_digest 180 = .ok (.getfield 48, 3) := by decide +kernel
theorem dX3_digest_183 : decode cX3_digest 183 = .ok (.if_icmp .ge 174, 3) := by decide +kernel
theorem dX3_digest_186 : decode cX3_digest 186 = .ok (.bipush 10, 2) := by decide +kernel
theorem dX3_digest_188 : decode cX3_digest 188 = .ok (.newarray .int, 2) := by decide +kernel
theorem dX3_digest_190 : decode cX3_digest 190 = .ok (.dup, 1) := by decide +kernel
theorem dX3_digest_191 : decode cX3_digest 191 = .ok (.iconst 0, 1) := by decide +kernel
theorem dX3_digest_192 : decode cX3_digest 192 = .ok (.aload_n 0, 1) := by decide +kernel
theorem dX3_digest_193 : decode cX3_digest 193 = .ok (.getfield 19, 3) := by decide +kernel
theorem dX3_digest_196 : decode cX3_digest 196 = .ok (.iload 4, 2) := by decide +kernel
theorem dX3_digest_198 : decode cX3_digest 198 = .ok (.iaload, 1) := by decide +kernel
theorem dX3_digest_199 : decode cX3_digest 199 = .ok (.iastore, 1) := by decide +kernel
theorem dX3_digest_200 : decode cX3_digest 200 = .ok (.dup, 1) := by decide +kernel
theorem dX3_digest_201 : decode cX3_digest 201 = .ok (.iconst 1, 1) := by decide +kernel
theorem dX3_digest_202 : decode cX3_digest 202 = .ok (.aload_n 0, 1) := by decide +kernel
theorem dX3_digest_203 : decode cX3_digest 203 = .ok (.getfield 25, 3) := by decide +kernel
theorem dX3_digest_206 : decode cX3_digest 206 = .ok (.iload 4, 2) := by decide +kernel
theorem dX3_digest_208 : decode cX3_digest 208 = .ok (.iaload, 1) := by decide +kernel
theorem dX3_digest_209 : decode cX3_digest 209 = .ok (.iastore, 1) := by decide +kernel
theorem dX3_digest_210 : decode cX3_digest 210 = .ok (.dup, 1) := by decide +kernel
theorem dX3_digest_211 : decode cX3_digest 211 = .ok (.iconst 2, 1) := by decide +kernel
theorem dX3_digest_212 : decode cX3_digest 212 = .ok (.aload_n 0, 1) := by decide +kernel
theorem dX3_digest_213 : decode cX3_digest 213 = .ok (.getfield 28, 3) := by decide +kernel
theorem dX3_digest_216 : decode cX3_digest 216 = .ok (.iload 4, 2) := by decide +kernel
theorem dX3_digest_218 : decode cX3_digest 218 = .ok (.iaload, 1) := by decide +kernel
theorem dX3_digest_219 : decode cX3_digest 219 = .ok (.iastore, 1) := by decide +kernel
theorem dX3_digest_220 : decode cX3_digest 220 = .ok (.dup, 1) := by decide +kernel
theorem dX3_digest_221 : decode cX3_digest 221 = .ok (.iconst 3, 1) := by decide +kernel
theorem dX3_digest_222 : decode cX3_digest 222 = .ok (.aload_n 0, 1) := by decide +kernel
theorem dX3_digest_223 : decode cX3_digest 223 = .ok (.getfield 31, 3) := by decide +kernel
theorem dX3_digest_226 : decode cX3_digest 226 = .ok (.iload 4, 2) := by decide +kernel
theorem dX3_digest_228 : decode cX3_digest 228 = .ok (.iaload, 1) := by decide +kernel
theorem dX3_digest_229 : decode cX3_digest 229 = .ok (.iastore, 1) := by decide +kernel
theorem dX3_digest_230 : decode cX3_digest 230 = .ok (.dup, 1) := by decide +kernel
theorem dX3_digest_231 : decode cX3_digest 231 = .ok (.iconst 4, 1) := by decide +kernel
theorem dX3_digest_232 : decode cX3_digest 232 = .ok (.aload_n 0, 1) := by decide +kernel
theorem dX3_digest_233 : decode cX3_digest 233 = .ok (.getfield 34, 3) := by decide +kernel
theorem dX3_digest_236 : decode cX3_digest 236 = .ok (.iload 4, 2) := by decide +kernel
theorem dX3_digest_238 : decode cX3_digest 238 = .ok (.iaload, 1) := by decide +kernel
theorem dX3_digest_239 : decode cX3_digest 239 = .ok (.iastore, 1) := by decide +kernel
theorem dX3_digest_240 : decode cX3_digest 240 = .ok (.dup, 1) := by decide +kernel
theorem dX3_digest_241 : decode cX3_digest 241 = .ok (.iconst 5, 1) := by decide +kernel
theorem dX3_digest_242 : decode cX3_digest 242 = .ok (.aload_n 0, 1) := by decide +kernel
theorem dX3_digest_243 : decode cX3_digest 243 = .ok (.iload 4, 2) := by decide +kernel
theorem dX3_digest_245 : decode cX3_digest 245 = .ok (.invokevirtual 117, 3) := by decide +kernel
theorem dX3_digest_248 : decode cX3_digest 248 = .ok (.iastore, 1) := by decide +kernel
theorem dX3_digest_249 : decode cX3_digest 249 = .ok (.dup, 1) := by decide +kernel
theorem dX3_digest_250 : decode cX3_digest 250 = .ok (.bipush 6, 2) := by decide +kernel
theorem dX3_digest_252 : decode cX3_digest 252 = .ok (.aload_n 0, 1) := by decide +kernel
theorem dX3_digest_253 : decode cX3_digest 253 = .ok (.iload 4, 2) := by decide +kernel
theorem dX3_digest_255 : decode cX3_digest 255 = .ok (.invokevirtual 120, 3) := by decide +kernel
theorem dX3_digest_258 : decode cX3_digest 258 = .ok (.iastore, 1) := by decide +kernel
theorem dX3_digest_259 : decode cX3_digest 259 = .ok (.dup, 1) := by decide +kernel
theorem dX3_digest_260 : decode cX3_digest 260 = .ok (.bipush 7, 2) := by decide +kernel
theorem dX3_digest_262 : decode cX3_digest 262 = .ok (.aload_n 0, 1) := by decide +kernel
theorem dX3_digest_263 : decode cX3_digest 263 = .ok (.iload 4, 2) := by decide +kernel
theorem dX3_digest_265 : decode cX3_digest 265 = .ok (.bipush 10, 2) := by decide +kernel
theorem dX3_digest_267 : decode cX3_digest 267 = .ok (.invokevirtual 123, 3) := by decide +kernel
theorem dX3_digest_270 : decode cX3_digest 270 = .ok (.iastore, 1) := by decide +kernel
theorem dX3_digest_271 : decode cX3_digest 271 = .ok (.dup, 1) := by decide +kernel
theorem dX3_digest_272 : decode cX3_digest 272 = .ok (.bipush 8, 2) := by decide +kernel
theorem dX3_digest_274 : decode cX3_digest 274 = .ok (.aload_n 0, 1) := by decide +kernel
theorem dX3_digest_275 : decode cX3_digest 275 = .ok (.iload 4, 2) := by decide +kernel
theorem dX3_digest_277 : decode cX3_digest 277 = .ok (.iconst 4, 1) := by decide +kernel
theorem dX3_digest_278 : decode cX3_digest 278 = .ok (.bipush 12, 2) := by decide +kernel
theorem dX3_digest_280 : decode cX3_digest 280 = .ok (.aload_n 0, 1) := by decide +kernel
theorem dX3_digest_281 : decode cX3_digest 281 = .ok (.getfield 13, 3) := by decide +kernel
theorem dX3_digest_284 : decode cX3_digest 284 = .ok (.aload_n 0, 1) := by decide +kernel
theorem dX3_digest_285 : decode cX3_digest 285 = .ok (.getfield 19, 3) := by decide +kernel
theorem dX3_digest_288 : decode cX3_digest 288 = .ok (.iload 4, 2) := by decide +kernel
theorem dX3_digest_290 : decode cX3_digest 290 = .ok (.iaload, 1) := by decide +kernel
theorem dX3_digest_291 : decode cX3_digest 291 = .ok (.iaload, 1) := by decide +kernel
theorem dX3_digest_292 : decode cX3_digest 292 = .ok (.invokevirtual 126, 3) := by decide +kernel
theorem dX3_digest_295 : decode cX3_digest 295 = .ok (.iastore, 1) := by decide +kernel
theorem dX3_digest_296 : decode cX3_digest 296 = .ok (.dup, 1) := by decide +kernel
theorem dX3_digest_297 : decode cX3_digest 297 = .ok (.bipush 9, 2) := by decide +kernel
theorem dX3_digest_299 : decode cX3_digest 299 = .ok (.aload_n 0, 1) := by decide +kernel
theorem dX3_digest_300 : decode cX3_digest 300 = .ok (.iload 4, 2) := by decide +kernel
theorem dX3_digest_302 : decode cX3_digest 302 = .ok (.iconst 3, 1) := by decide +kernel
theorem dX3_digest_303 : decode cX3_digest 303 = .ok (.invokevirtual 130, 3) := by decide +kernel
theorem dX3_digest_306 : decode cX3_digest 306 = .ok (.iastore, 1) := by decide +kernel
theorem dX3_digest_307 : decode cX3_digest 307 = .ok (.astore 5, 2) := by decide +kernel
theorem dX3_digest_309 : decode cX3_digest 309 = .ok (.aload 5, 2) := by decide +kernel
theorem dX3_digest_311 : decode cX3_digest 311 = .ok (.astore 6, 2) := by decide +kernel
theorem dX3_digest_313 : decode cX3_digest 313 = .ok (.aload 6, 2) := by decide +kernel
theorem dX3_digest_315 : decode cX3_digest 315 = .ok (.arraylength, 1) := by decide +kernel
theorem dX3_digest_316 : decode cX3_digest 316 = .ok (.istore 7, 2) := by decide +kernel
theorem dX3_digest_318 : decode cX3_digest 318 = .ok (.iconst 0, 1) := by decide +kernel
theorem dX3_digest_319 : decode cX3_digest 319 = .ok (.istore 8, 2) := by decide +kernel
theorem dX3_digest_321 : decode cX3_digest 321 = .ok (.iload 8, 2) := by decide +kernel
theorem dX3_digest_323 : decode cX3_digest 323 = .ok (.iload 7, 2) := by decide +kernel
theorem dX3_digest_325 : decode cX3_digest 325 = .ok (.if_icmp .ge 26, 3) := by decide +kernel
theorem dX3_digest_328 : decode cX3_digest 328 = .ok (.aload 6, 2) := by decide +kernel
theorem dX3_digest_330 : decode cX3_digest 330 = .ok (.iload 8, 2) := by decide +kernel
theorem dX3_digest_332 : decode cX3_digest 332 = .ok (.iaload, 1) := by decide +kernel
theorem dX3_digest_333 : decode cX3_digest 333 = .ok (.istore 9, 2) := by decide +kernel
theorem dX3_digest_335 : decode cX3_digest 335 = .ok (.lload_n 2, 1) := by decide +kernel
theorem dX3_digest_336 : decode cX3_digest 336 = .ok (.ldc2_w 144, 3) := by decide +kernel
theorem dX3_digest_339 : decode cX3_digest 339 = .ok (.lmul, 1) := by decide +kernel
theorem dX3_digest_340 : decode cX3_digest 340 = .ok (.iload 9, 2) := by decide +kernel
theorem dX3_digest_342 : decode cX3_digest 342 = .ok (.i2l, 1) := by decide +kernel
theorem dX3_digest_343 : decode cX3_digest 343 = .ok (.ladd, 1) := by decide +kernel
theorem dX3_digest_344 : decode cX3_digest 344 = .ok (.lstore_n 2, 1) := by decide +kernel
theorem dX3_digest_345 : decode cX3_digest 345 = .ok (.iinc 8 1, 3) := by decide +kernel
theorem dX3_digest_348 : decode cX3_digest 348 = .ok (.goto (-27), 3) := by decide +kernel
theorem dX3_digest_351 : decode cX3_digest 351 = .ok (.iinc 4 1, 3) := by decide +kernel
theorem dX3_digest_354 : decode cX3_digest 354 = .ok (.goto (-177), 3) := by decide +kernel
theorem dX3_digest_357 : decode cX3_digest 357 = .ok (.lload_n 2, 1) := by decide +kernel
theorem dX3_digest_358 : decode cX3_digest 358 = .ok (.lreturn, 1) := by decide +kernel
theorem dL_addWand_0 : decode cL_addWand 0 = .ok (.aload_n 3, 1) := by decide +kernel
theorem dL_addWand_1 : decode cL_addWand 1 = .ok (.iconst 0, 1) := by decide +kernel
theorem dL_addWand_2 : decode cL_addWand 2 = .ok (.aload_n 0, 1) := by decide +kernel
theorem dL_addWand_3 : decode cL_addWand 3 = .ok (.iload_n 1, 1) := by decide +kernel
theorem dL_addWand_4 : decode cL_addWand 4 = .ok (.iload_n 2, 1) := by decide +kernel
theorem dL_addWand_5 : decode cL_addWand 5 = .ok (.invokevirtual 7, 3) := by decide +kernel
theorem dL_addWand_8 : decode cL_addWand 8 = .ok (.i2l, 1) := by decide +kernel
theorem dL_addWand_9 : decode cL_addWand 9 = .ok (.lastore, 1) := by decide +kernel
theorem dL_addWand_10 : decode cL_addWand 10 = .ok (.goto 11, 3) := by decide +kernel
theorem dL_addWand_13 : decode cL_addWand 13 = .ok (.astore 4, 2) := by decide +kernel
theorem dL_addWand_15 : decode cL_addWand 15 = .ok (.iconst 1, 1) := by decide +kernel
theorem dL_addWand_16 : decode cL_addWand 16 = .ok (.ireturn, 1) := by decide +kernel
theorem dL_addWand_17 : decode cL_addWand 17 = .ok (.astore 4, 2) := by decide +kernel
theorem dL_addWand_19 : decode cL_addWand 19 = .ok (.iconst 2, 1) := by decide +kernel
theorem dL_addWand_20 : decode cL_addWand 20 = .ok (.ireturn, 1) := by decide +kernel
theorem dL_addWand_21 : decode cL_addWand 21 = .ok (.iconst 0, 1) := by decide +kernel
theorem dL_addWand_22 : decode cL_addWand 22 = .ok (.ireturn, 1) := by decide +kernel
theorem dL_addChild_0 : decode cL_addChild 0 = .ok (.aload_n 3, 1) := by decide +kernel
theorem dL_addChild_1 : decode cL_addChild 1 = .ok (.iconst 0, 1) := by decide +kernel
theorem dL_addChild_2 : decode cL_addChild 2 = .ok (.aload_n 0, 1) := by decide +kernel
theorem dL_addChild_3 : decode cL_addChild 3 = .ok (.iload_n 1, 1) := by decide +kernel
theorem dL_addChild_4 : decode cL_addChild 4 = .ok (.iload_n 2, 1) := by decide +kernel
theorem dL_addChild_5 : decode cL_addChild 5 = .ok (.invokevirtual 17, 3) := by decide +kernel
theorem dL_addChild_8 : decode cL_addChild 8 = .ok (.i2l, 1) := by decide +kernel
theorem dL_addChild_9 : decode cL_addChild 9 = .ok (.lastore, 1) := by decide +kernel
theorem dL_addChild_10 : decode cL_addChild 10 = .ok (.goto 15, 3) := by decide +kernel
theorem dL_addChild_13 : decode cL_addChild 13 = .ok (.astore 4, 2) := by decide +kernel
theorem dL_addChild_15 : decode cL_addChild 15 = .ok (.iconst 1, 1) := by decide +kernel
theorem dL_addChild_16 : decode cL_addChild 16 = .ok (.ireturn, 1) := by decide +kernel
theorem dL_addChild_17 : decode cL_addChild 17 = .ok (.astore 4, 2) := by decide +kernel
theorem dL_addChild_19 : decode cL_addChild 19 = .ok (.iconst 2, 1) := by decide +kernel
theorem dL_addChild_20 : decode cL_addChild 20 = .ok (.ireturn, 1) := by decide +kernel
theorem dL_addChild_21 : decode cL_addChild 21 = .ok (.astore 4, 2) := by decide +kernel
theorem dL_addChild_23 : decode cL_addChild 23 = .ok (.iconst 3, 1) := by decide +kernel
theorem dL_addChild_24 : decode cL_addChild 24 = .ok (.ireturn, 1) := by decide +kernel
theorem dL_addChild_25 : decode cL_addChild 25 = .ok (.iconst 0, 1) := by decide +kernel
theorem dL_addChild_26 : decode cL_addChild 26 = .ok (.ireturn, 1) := by decide +kernel
theorem dL_give_0 : decode cL_give 0 = .ok (.aload_n 3, 1) := by decide +kernel
theorem dL_give_1 : decode cL_give 1 = .ok (.iconst 0, 1) := by decide +kernel
theorem dL_give_2 : decode cL_give 2 = .ok (.aload_n 0, 1) := by decide +kernel
theorem dL_give_3 : decode cL_give 3 = .ok (.iload_n 1, 1) := by decide +kernel
theorem dL_give_4 : decode cL_give 4 = .ok (.iload_n 2, 1) := by decide +kernel
theorem dL_give_5 : decode cL_give 5 = .ok (.invokevirtual 22, 3) := by decide +kernel
theorem dL_give_8 : decode cL_give 8 = .ok (.i2l, 1) := by decide +kernel
theorem dL_give_9 : decode cL_give 9 = .ok (.lastore, 1) := by decide +kernel
theorem dL_give_10 : decode cL_give 10 = .ok (.goto 7, 3) := by decide +kernel
theorem dL_give_13 : decode cL_give 13 = .ok (.astore 4, 2) := by decide +kernel
theorem dL_give_15 : decode cL_give 15 = .ok (.iconst 1, 1) := by decide +kernel
theorem dL_give_16 : decode cL_give 16 = .ok (.ireturn, 1) := by decide +kernel
theorem dL_give_17 : decode cL_give 17 = .ok (.iconst 0, 1) := by decide +kernel
theorem dL_give_18 : decode cL_give 18 = .ok (.ireturn, 1) := by decide +kernel
theorem dL_setFall_0 : decode cL_setFall 0 = .ok (.aload_n 3, 1) := by decide +kernel
theorem dL_setFall_1 : decode cL_setFall 1 = .ok (.iconst 0, 1) := by decide +kernel
theorem dL_setFall_2 : decode cL_setFall 2 = .ok (.aload_n 0, 1) := by decide +kernel
theorem dL_setFall_3 : decode cL_setFall 3 = .ok (.iload_n 1, 1) := by decide +kernel
theorem dL_setFall_4 : decode cL_setFall 4 = .ok (.iload_n 2, 1) := by decide +kernel
theorem dL_setFall_5 : decode cL_setFall 5 = .ok (.invokevirtual 25, 3) := by decide +kernel
theorem dL_setFall_8 : decode cL_setFall 8 = .ok (.i2l, 1) := by decide +kernel
theorem dL_setFall_9 : decode cL_setFall 9 = .ok (.lastore, 1) := by decide +kernel
theorem dL_setFall_10 : decode cL_setFall 10 = .ok (.goto 11, 3) := by decide +kernel
theorem dL_setFall_13 : decode cL_setFall 13 = .ok (.astore 4, 2) := by decide +kernel
theorem dL_setFall_15 : decode cL_setFall 15 = .ok (.iconst 1, 1) := by decide +kernel
theorem dL_setFall_16 : decode cL_setFall 16 = .ok (.ireturn, 1) := by decide +kernel
theorem dL_setFall_17 : decode cL_setFall 17 = .ok (.astore 4, 2) := by decide +kernel
theorem dL_setFall_19 : decode cL_setFall 19 = .ok (.iconst 2, 1) := by decide +kernel
theorem dL_setFall_20 : decode cL_setFall 20 = .ok (.ireturn, 1) := by decide +kernel
theorem dL_setFall_21 : decode cL_setFall 21 = .ok (.iconst 0, 1) := by decide +kernel
theorem dL_setFall_22 : decode cL_setFall 22 = .ok (.ireturn, 1) := by decide +kernel
theorem dL_wish_0 : decode cL_wish 0 = .ok (.aload_n 3, 1) := by decide +kernel
theorem dL_wish_1 : decode cL_wish 1 = .ok (.iconst 0, 1) := by decide +kernel
theorem dL_wish_2 : decode cL_wish 2 = .ok (.aload_n 0, 1) := by decide +kernel
theorem dL_wish_3 : decode cL_wish 3 = .ok (.iload_n 1, 1) := by decide +kernel
theorem dL_wish_4 : decode cL_wish 4 = .ok (.iload_n 2, 1) := by decide +kernel
theorem dL_wish_5 : decode cL_wish 5 = .ok (.invokevirtual 28, 3) := by decide +kernel
theorem dL_wish_8 : decode cL_wish 8 = .ok (.ifCond .eq 7, 3) := by decide +kernel
theorem dL_wish_11 : decode cL_wish 11 = .ok (.lconst 1, 1) := by decide +kernel
theorem dL_wish_12 : decode cL_wish 12 = .ok (.goto 4, 3) := by decide +kernel
theorem dL_wish_15 : decode cL_wish 15 = .ok (.lconst 0, 1) := by decide +kernel
theorem dL_wish_16 : decode cL_wish 16 = .ok (.lastore, 1) := by decide +kernel
theorem dL_wish_17 : decode cL_wish 17 = .ok (.goto 11, 3) := by decide +kernel
theorem dL_wish_20 : decode cL_wish 20 = .ok (.astore 4, 2) := by decide +kernel
theorem dL_wish_22 : decode cL_wish 22 = .ok (.iconst 1, 1) := by decide +kernel
theorem dL_wish_23 : decode cL_wish 23 = .ok (.ireturn, 1) := by decide +kernel
theorem dL_wish_24 : decode cL_wish 24 = .ok (.astore 4, 2) := by decide +kernel
theorem dL_wish_26 : decode cL_wish 26 = .ok (.iconst 2, 1) := by decide +kernel
theorem dL_wish_27 : decode cL_wish 27 = .ok (.ireturn, 1) := by decide +kernel
theorem dL_wish_28 : decode cL_wish 28 = .ok (.iconst 0, 1) := by decide +kernel
theorem dL_wish_29 : decode cL_wish 29 = .ok (.ireturn, 1) := by decide +kernel
theorem dL_forgive_0 : decode cL_forgive 0 = .ok (.aload_n 2, 1) := by decide +kernel
theorem dL_forgive_1 : decode cL_forgive 1 = .ok (.iconst 0, 1) := by decide +kernel
theorem dL_forgive_2 : decode cL_forgive 2 = .ok (.aload_n 0, 1) := by decide +kernel
theorem dL_forgive_3 : decode cL_forgive 3 = .ok (.iload_n 1, 1) := by decide +kernel
theorem dL_forgive_4 : decode cL_forgive 4 = .ok (.invokevirtual 32, 3) := by decide +kernel
theorem dL_forgive_7 : decode cL_forgive 7 = .ok (.i2l, 1) := by decide +kernel
theorem dL_forgive_8 : decode cL_forgive 8 = .ok (.lastore, 1) := by decide +kernel
theorem dL_forgive_9 : decode cL_forgive 9 = .ok (.goto 6, 3) := by decide +kernel
theorem dL_forgive_12 : decode cL_forgive 12 = .ok (.astore_n 3, 1) := by decide +kernel
theorem dL_forgive_13 : decode cL_forgive 13 = .ok (.iconst 1, 1) := by decide +kernel
theorem dL_forgive_14 : decode cL_forgive 14 = .ok (.ireturn, 1) := by decide +kernel
theorem dL_forgive_15 : decode cL_forgive 15 = .ok (.iconst 0, 1) := by decide +kernel
theorem dL_forgive_16 : decode cL_forgive 16 = .ok (.ireturn, 1) := by decide +kernel
theorem dL_pass_0 : decode cL_pass 0 = .ok (.aload_n 2, 1) := by decide +kernel
theorem dL_pass_1 : decode cL_pass 1 = .ok (.iconst 0, 1) := by decide +kernel
theorem dL_pass_2 : decode cL_pass 2 = .ok (.aload_n 0, 1) := by decide +kernel
theorem dL_pass_3 : decode cL_pass 3 = .ok (.iload_n 1, 1) := by decide +kernel
theorem dL_pass_4 : decode cL_pass 4 = .ok (.invokevirtual 36, 3) := by decide +kernel
theorem dL_pass_7 : decode cL_pass 7 = .ok (.i2l, 1) := by decide +kernel
theorem dL_pass_8 : decode cL_pass 8 = .ok (.lastore, 1) := by decide +kernel
theorem dL_pass_9 : decode cL_pass 9 = .ok (.goto 6, 3) := by decide +kernel
theorem dL_pass_12 : decode cL_pass 12 = .ok (.astore_n 3, 1) := by decide +kernel
theorem dL_pass_13 : decode cL_pass 13 = .ok (.iconst 1, 1) := by decide +kernel
theorem dL_pass_14 : decode cL_pass 14 = .ok (.ireturn, 1) := by decide +kernel
theorem dL_pass_15 : decode cL_pass 15 = .ok (.iconst 0, 1) := by decide +kernel
theorem dL_pass_16 : decode cL_pass 16 = .ok (.ireturn, 1) := by decide +kernel
theorem dL_dustIn_0 : decode cL_dustIn 0 = .ok (.aload_n 2, 1) := by decide +kernel
theorem dL_dustIn_1 : decode cL_dustIn 1 = .ok (.iconst 0, 1) := by decide +kernel
theorem dL_dustIn_2 : decode cL_dustIn 2 = .ok (.aload_n 0, 1) := by decide +kernel
theorem dL_dustIn_3 : decode cL_dustIn 3 = .ok (.iload_n 1, 1) := by decide +kernel
theorem dL_dustIn_4 : decode cL_dustIn 4 = .ok (.invokevirtual 39, 3) := by decide +kernel
theorem dL_dustIn_7 : decode cL_dustIn 7 = .ok (.i2l, 1) := by decide +kernel
theorem dL_dustIn_8 : decode cL_dustIn 8 = .ok (.lastore, 1) := by decide +kernel
theorem dL_dustIn_9 : decode cL_dustIn 9 = .ok (.goto 6, 3) := by decide +kernel
theorem dL_dustIn_12 : decode cL_dustIn 12 = .ok (.astore_n 3, 1) := by decide +kernel
theorem dL_dustIn_13 : decode cL_dustIn 13 = .ok (.iconst 1, 1) := by decide +kernel
theorem dL_dustIn_14 : decode cL_dustIn 14 = .ok (.ireturn, 1) := by decide +kernel
theorem dL_dustIn_15 : decode cL_dustIn 15 = .ok (.iconst 0, 1) := by decide +kernel
theorem dL_dustIn_16 : decode cL_dustIn 16 = .ok (.ireturn, 1) := by decide +kernel
theorem dL_users_0 : decode cL_users 0 = .ok (.aload_n 2, 1) := by decide +kernel
theorem dL_users_1 : decode cL_users 1 = .ok (.iconst 0, 1) := by decide +kernel
theorem dL_users_2 : decode cL_users 2 = .ok (.aload_n 0, 1) := by decide +kernel
theorem dL_users_3 : decode cL_users 3 = .ok (.iload_n 1, 1) := by decide +kernel
theorem dL_users_4 : decode cL_users 4 = .ok (.invokevirtual 42, 3) := by decide +kernel
theorem dL_users_7 : decode cL_users 7 = .ok (.i2l, 1) := by decide +kernel
theorem dL_users_8 : decode cL_users 8 = .ok (.lastore, 1) := by decide +kernel
theorem dL_users_9 : decode cL_users 9 = .ok (.goto 6, 3) := by decide +kernel
theorem dL_users_12 : decode cL_users 12 = .ok (.astore_n 3, 1) := by decide +kernel
theorem dL_users_13 : decode cL_users 13 = .ok (.iconst 1, 1) := by decide +kernel
theorem dL_users_14 : decode cL_users 14 = .ok (.ireturn, 1) := by decide +kernel
theorem dL_users_15 : decode cL_users 15 = .ok (.iconst 0, 1) := by decide +kernel
theorem dL_users_16 : decode cL_users 16 = .ok (.ireturn, 1) := by decide +kernel
theorem dL_wandOf_0 : decode cL_wandOf 0 = .ok (.aload_n 2, 1) := by decide +kernel
theorem dL_wandOf_1 : decode cL_wandOf 1 = .ok (.iconst 0, 1) := by decide +kernel
theorem dL_wandOf_2 : decode cL_wandOf 2 = .ok (.aload_n 0, 1) := by decide +kernel
theorem dL_wandOf_3 : decode cL_wandOf 3 = .ok (.iload_n 1, 1) := by decide +kernel
theorem dL_wandOf_4 : decode cL_wandOf 4 = .ok (.invokevirtual 45, 3) := by decide +kernel
theorem dL_wandOf_7 : decode cL_wandOf 7 = .ok (.i2l, 1) := by decide +kernel
theorem dL_wandOf_8 : decode cL_wandOf 8 = .ok (.lastore, 1) := by decide +kernel
theorem dL_wandOf_9 : decode cL_wandOf 9 = .ok (.goto 6, 3) := by decide +kernel
theorem dL_wandOf_12 : decode cL_wandOf 12 = .ok (.astore_n 3, 1) := by decide +kernel
theorem dL_wandOf_13 : decode cL_wandOf 13 = .ok (.iconst 1, 1) := by decide +kernel
theorem dL_wandOf_14 : decode cL_wandOf 14 = .ok (.ireturn, 1) := by decide +kernel
theorem dL_wandOf_15 : decode cL_wandOf 15 = .ok (.iconst 0, 1) := by decide +kernel
theorem dL_wandOf_16 : decode cL_wandOf 16 = .ok (.ireturn, 1) := by decide +kernel
theorem dL_burstOf_0 : decode cL_burstOf 0 = .ok (.aload_n 2, 1) := by decide +kernel
theorem dL_burstOf_1 : decode cL_burstOf 1 = .ok (.iconst 0, 1) := by decide +kernel
theorem dL_burstOf_2 : decode cL_burstOf 2 = .ok (.aload_n 0, 1) := by decide +kernel
theorem dL_burstOf_3 : decode cL_burstOf 3 = .ok (.iload_n 1, 1) := by decide +kernel
theorem dL_burstOf_4 : decode cL_burstOf 4 = .ok (.invokevirtual 48, 3) := by decide +kernel
theorem dL_burstOf_7 : decode cL_burstOf 7 = .ok (.i2l, 1) := by decide +kernel
theorem dL_burstOf_8 : decode cL_burstOf 8 = .ok (.lastore, 1) := by decide +kernel
theorem dL_burstOf_9 : decode cL_burstOf 9 = .ok (.goto 6, 3) := by decide +kernel
theorem dL_burstOf_12 : decode cL_burstOf 12 = .ok (.astore_n 3, 1) := by decide +kernel
theorem dL_burstOf_13 : decode cL_burstOf 13 = .ok (.iconst 1, 1) := by decide +kernel
theorem dL_burstOf_14 : decode cL_burstOf 14 = .ok (.ireturn, 1) := by decide +kernel
theorem dL_burstOf_15 : decode cL_burstOf 15 = .ok (.iconst 0, 1) := by decide +kernel
theorem dL_burstOf_16 : decode cL_burstOf 16 = .ok (.ireturn, 1) := by decide +kernel
theorem dL_punishedFor_0 : decode cL_punishedFor 0 = .ok (.aload_n 2, 1) := by decide +kernel
theorem dL_punishedFor_1 : decode cL_punishedFor 1 = .ok (.iconst 0, 1) := by decide +kernel
theorem dL_punishedFor_2 : decode cL_punishedFor 2 = .ok (.aload_n 0, 1) := by decide +kernel
theorem dL_punishedFor_3 : decode cL_punishedFor 3 = .ok (.iload_n 1, 1) := by decide +kernel
theorem dL_punishedFor_4 : decode cL_punishedFor 4 = .ok (.invokevirtual 51, 3) := by decide +kernel
theorem dL_punishedFor_7 : decode cL_punishedFor 7 = .ok (.i2l, 1) := by decide +kernel
theorem dL_punishedFor_8 : decode cL_punishedFor 8 = .ok (.lastore, 1) := by decide +kernel
theorem dL_punishedFor_9 : decode cL_punishedFor 9 = .ok (.goto 6, 3) := by decide +kernel
theorem dL_punishedFor_12 : decode cL_punishedFor 12 = .ok (.astore_n 3, 1) := by decide +kernel
theorem dL_punishedFor_13 : decode cL_punishedFor 13 = .ok (.iconst 1, 1) := by decide +kernel
theorem dL_punishedFor_14 : decode cL_punishedFor 14 = .ok (.ireturn, 1) := by decide +kernel
theorem dL_punishedFor_15 : decode cL_punishedFor 15 = .ok (.iconst 0, 1) := by decide +kernel
theorem dL_punishedFor_16 : decode cL_punishedFor 16 = .ok (.ireturn, 1) := by decide +kernel
theorem dL_marksOf_0 : decode cL_marksOf 0 = .ok (.aload_n 2, 1) := by decide +kernel
theorem dL_marksOf_1 : decode cL_marksOf 1 = .ok (.iconst 0, 1) := by decide +kernel
theorem dL_marksOf_2 : decode cL_marksOf 2 = .ok (.aload_n 0, 1) := by decide +kernel
theorem dL_marksOf_3 : decode cL_marksOf 3 = .ok (.iload_n 1, 1) := by decide +kernel
theorem dL_marksOf_4 : decode cL_marksOf 4 = .ok (.invokevirtual 54, 3) := by decide +kernel
theorem dL_marksOf_7 : decode cL_marksOf 7 = .ok (.i2l, 1) := by decide +kernel
theorem dL_marksOf_8 : decode cL_marksOf 8 = .ok (.lastore, 1) := by decide +kernel
theorem dL_marksOf_9 : decode cL_marksOf 9 = .ok (.goto 6, 3) := by decide +kernel
theorem dL_marksOf_12 : decode cL_marksOf 12 = .ok (.astore_n 3, 1) := by decide +kernel
theorem dL_marksOf_13 : decode cL_marksOf 13 = .ok (.iconst 1, 1) := by decide +kernel
theorem dL_marksOf_14 : decode cL_marksOf 14 = .ok (.ireturn, 1) := by decide +kernel
theorem dL_marksOf_15 : decode cL_marksOf 15 = .ok (.iconst 0, 1) := by decide +kernel
theorem dL_marksOf_16 : decode cL_marksOf 16 = .ok (.ireturn, 1) := by decide +kernel
theorem dL_nextPunishment_0 : decode cL_nextPunishment 0 = .ok (.aload_n 2, 1) := by decide +kernel
theorem dL_nextPunishment_1 : decode cL_nextPunishment 1 = .ok (.iconst 0, 1) := by decide +kernel
theorem dL_nextPunishment_2 : decode cL_nextPunishment 2 = .ok (.aload_n 0, 1) := by decide +kernel
theorem dL_nextPunishment_3 : decode cL_nextPunishment 3 = .ok (.iload_n 1, 1) := by decide +kernel
theorem dL_nextPunishment_4 : decode cL_nextPunishment 4 = .ok (.invokevirtual 57, 3) := by decide +kernel
theorem dL_nextPunishment_7 : decode cL_nextPunishment 7 = .ok (.i2l, 1) := by decide +kernel
theorem dL_nextPunishment_8 : decode cL_nextPunishment 8 = .ok (.lastore, 1) := by decide +kernel
theorem dL_nextPunishment_9 : decode cL_nextPunishment 9 = .ok (.goto 6, 3) := by decide +kernel
theorem dL_nextPunishment_12 : decode cL_nextPunishment 12 = .ok (.astore_n 3, 1) := by decide +kernel
theorem dL_nextPunishment_13 : decode cL_nextPunishment 13 = .ok (.iconst 1, 1) := by decide +kernel
theorem dL_nextPunishment_14 : decode cL_nextPunishment 14 = .ok (.ireturn, 1) := by decide +kernel
theorem dL_nextPunishment_15 : decode cL_nextPunishment 15 = .ok (.iconst 0, 1) := by decide +kernel
theorem dL_nextPunishment_16 : decode cL_nextPunishment 16 = .ok (.ireturn, 1) := by decide +kernel
theorem dL_daysToBirthday_0 : decode cL_daysToBirthday 0 = .ok (.aload_n 2, 1) := by decide +kernel
theorem dL_daysToBirthday_1 : decode cL_daysToBirthday 1 = .ok (.iconst 0, 1) := by decide +kernel
theorem dL_daysToBirthday_2 : decode cL_daysToBirthday 2 = .ok (.aload_n 0, 1) := by decide +kernel
theorem dL_daysToBirthday_3 : decode cL_daysToBirthday 3 = .ok (.iload_n 1, 1) := by decide +kernel
theorem dL_daysToBirthday_4 : decode cL_daysToBirthday 4 = .ok (.invokevirtual 60, 3) := by decide +kernel
theorem dL_daysToBirthday_7 : decode cL_daysToBirthday 7 = .ok (.i2l, 1) := by decide +kernel
theorem dL_daysToBirthday_8 : decode cL_daysToBirthday 8 = .ok (.lastore, 1) := by decide +kernel
theorem dL_daysToBirthday_9 : decode cL_daysToBirthday 9 = .ok (.goto 6, 3) := by decide +kernel
theorem dL_daysToBirthday_12 : decode cL_daysToBirthday 12 = .ok (.astore_n 3, 1) := by decide +kernel
theorem dL_daysToBirthday_13 : decode cL_daysToBirthday 13 = .ok (.iconst 1, 1) := by decide +kernel
theorem dL_daysToBirthday_14 : decode cL_daysToBirthday 14 = .ok (.ireturn, 1) := by decide +kernel
theorem dL_daysToBirthday_15 : decode cL_daysToBirthday 15 = .ok (.iconst 0, 1) := by decide +kernel
theorem dL_daysToBirthday_16 : decode cL_daysToBirthday 16 = .ok (.ireturn, 1) := by decide +kernel
theorem dL_greatestWish_0 : decode cL_greatestWish 0 = .ok (.aload_n 2, 1) := by decide +kernel
theorem dL_greatestWish_1 : decode cL_greatestWish 1 = .ok (.iconst 0, 1) := by decide +kernel
theorem dL_greatestWish_2 : decode cL_greatestWish 2 = .ok (.aload_n 0, 1) := by decide +kernel
theorem dL_greatestWish_3 : decode cL_greatestWish 3 = .ok (.iload_n 1, 1) := by decide +kernel
theorem dL_greatestWish_4 : decode cL_greatestWish 4 = .ok (.invokevirtual 63, 3) := by decide +kernel
theorem dL_greatestWish_7 : decode cL_greatestWish 7 = .ok (.i2l, 1) := by decide +kernel
theorem dL_greatestWish_8 : decode cL_greatestWish 8 = .ok (.lastore, 1) := by decide +kernel
theorem dL_greatestWish_9 : decode cL_greatestWish 9 = .ok (.goto 6, 3) := by decide +kernel
theorem dL_greatestWish_12 : decode cL_greatestWish 12 = .ok (.astore_n 3, 1) := by decide +kernel
theorem dL_greatestWish_13 : decode cL_greatestWish 13 = .ok (.iconst 1, 1) := by decide +kernel
theorem dL_greatestWish_14 : decode cL_greatestWish 14 = .ok (.ireturn, 1) := by decide +kernel
theorem dL_greatestWish_15 : decode cL_greatestWish 15 = .ok (.iconst 0, 1) := by decide +kernel
theorem dL_greatestWish_16 : decode cL_greatestWish 16 = .ok (.ireturn, 1) := by decide +kernel
theorem dL_hoursUntil_0 : decode cL_hoursUntil 0 = .ok (.aload_n 3, 1) := by decide +kernel
theorem dL_hoursUntil_1 : decode cL_hoursUntil 1 = .ok (.iconst 0, 1) := by decide +kernel
theorem dL_hoursUntil_2 : decode cL_hoursUntil 2 = .ok (.aload_n 0, 1) := by decide +kernel
theorem dL_hoursUntil_3 : decode cL_hoursUntil 3 = .ok (.iload_n 1, 1) := by decide +kernel
theorem dL_hoursUntil_4 : decode cL_hoursUntil 4 = .ok (.iload_n 2, 1) := by decide +kernel
theorem dL_hoursUntil_5 : decode cL_hoursUntil 5 = .ok (.invokevirtual 66, 3) := by decide +kernel
theorem dL_hoursUntil_8 : decode cL_hoursUntil 8 = .ok (.i2l, 1) := by decide +kernel
theorem dL_hoursUntil_9 : decode cL_hoursUntil 9 = .ok (.lastore, 1) := by decide +kernel
theorem dL_hoursUntil_10 : decode cL_hoursUntil 10 = .ok (.goto 11, 3) := by decide +kernel
theorem dL_hoursUntil_13 : decode cL_hoursUntil 13 = .ok (.astore 4, 2) := by decide +kernel
theorem dL_hoursUntil_15 : decode cL_hoursUntil 15 = .ok (.iconst 1, 1) := by decide +kernel
theorem dL_hoursUntil_16 : decode cL_hoursUntil 16 = .ok (.ireturn, 1) := by decide +kernel
theorem dL_hoursUntil_17 : decode cL_hoursUntil 17 = .ok (.astore 4, 2) := by decide +kernel
theorem dL_hoursUntil_19 : decode cL_hoursUntil 19 = .ok (.iconst 2, 1) := by decide +kernel
theorem dL_hoursUntil_20 : decode cL_hoursUntil 20 = .ok (.ireturn, 1) := by decide +kernel
theorem dL_hoursUntil_21 : decode cL_hoursUntil 21 = .ok (.iconst 0, 1) := by decide +kernel
theorem dL_hoursUntil_22 : decode cL_hoursUntil 22 = .ok (.ireturn, 1) := by decide +kernel
theorem dL_grantedIn_0 : decode cL_grantedIn 0 = .ok (.aload 4, 2) := by decide +kernel
theorem dL_grantedIn_2 : decode cL_grantedIn 2 = .ok (.iconst 0, 1) := by decide +kernel
theorem dL_grantedIn_3 : decode cL_grantedIn 3 = .ok (.aload_n 0, 1) := by decide +kernel
theorem dL_grantedIn_4 : decode cL_grantedIn 4 = .ok (.iload_n 1, 1) := by decide +kernel
theorem dL_grantedIn_5 : decode cL_grantedIn 5 = .ok (.iload_n 2, 1) := by decide +kernel
theorem dL_grantedIn_6 : decode cL_grantedIn 6 = .ok (.iload_n 3, 1) := by decide +kernel
theorem dL_grantedIn_7 : decode cL_grantedIn 7 = .ok (.invokevirtual 69, 3) := by decide +kernel
theorem dL_grantedIn_10 : decode cL_grantedIn 10 = .ok (.i2l, 1) := by decide +kernel
theorem dL_grantedIn_11 : decode cL_grantedIn 11 = .ok (.lastore, 1) := by decide +kernel
theorem dL_grantedIn_12 : decode cL_grantedIn 12 = .ok (.goto 11, 3) := by decide +kernel
theorem dL_grantedIn_15 : decode cL_grantedIn 15 = .ok (.astore 5, 2) := by decide +kernel
theorem dL_grantedIn_17 : decode cL_grantedIn 17 = .ok (.iconst 1, 1) := by decide +kernel
theorem dL_grantedIn_18 : decode cL_grantedIn 18 = .ok (.ireturn, 1) := by decide +kernel
theorem dL_grantedIn_19 : decode cL_grantedIn 19 = .ok (.astore 5, 2) := by decide +kernel
theorem dL_grantedIn_21 : decode cL_grantedIn 21 = .ok (.iconst 2, 1) := by decide +kernel
theorem dL_grantedIn_22 : decode cL_grantedIn 22 = .ok (.ireturn, 1) := by decide +kernel
theorem dL_grantedIn_23 : decode cL_grantedIn 23 = .ok (.iconst 0, 1) := by decide +kernel
theorem dL_grantedIn_24 : decode cL_grantedIn 24 = .ok (.ireturn, 1) := by decide +kernel
theorem dL_fallWanted_0 : decode cL_fallWanted 0 = .ok (.aload_n 3, 1) := by decide +kernel
theorem dL_fallWanted_1 : decode cL_fallWanted 1 = .ok (.iconst 0, 1) := by decide +kernel
theorem dL_fallWanted_2 : decode cL_fallWanted 2 = .ok (.aload_n 0, 1) := by decide +kernel
theorem dL_fallWanted_3 : decode cL_fallWanted 3 = .ok (.iload_n 1, 1) := by decide +kernel
theorem dL_fallWanted_4 : decode cL_fallWanted 4 = .ok (.iload_n 2, 1) := by decide +kernel
theorem dL_fallWanted_5 : decode cL_fallWanted 5 = .ok (.invokevirtual 73, 3) := by decide +kernel
theorem dL_fallWanted_8 : decode cL_fallWanted 8 = .ok (.i2l, 1) := by decide +kernel
theorem dL_fallWanted_9 : decode cL_fallWanted 9 = .ok (.lastore, 1) := by decide +kernel
theorem dL_fallWanted_10 : decode cL_fallWanted 10 = .ok (.goto 11, 3) := by decide +kernel
theorem dL_fallWanted_13 : decode cL_fallWanted 13 = .ok (.astore 4, 2) := by decide +kernel
theorem dL_fallWanted_15 : decode cL_fallWanted 15 = .ok (.iconst 1, 1) := by decide +kernel
theorem dL_fallWanted_16 : decode cL_fallWanted 16 = .ok (.ireturn, 1) := by decide +kernel
theorem dL_fallWanted_17 : decode cL_fallWanted 17 = .ok (.astore 4, 2) := by decide +kernel
theorem dL_fallWanted_19 : decode cL_fallWanted 19 = .ok (.iconst 2, 1) := by decide +kernel
theorem dL_fallWanted_20 : decode cL_fallWanted 20 = .ok (.ireturn, 1) := by decide +kernel
theorem dL_fallWanted_21 : decode cL_fallWanted 21 = .ok (.iconst 0, 1) := by decide +kernel
theorem dL_fallWanted_22 : decode cL_fallWanted 22 = .ok (.ireturn, 1) := by decide +kernel
theorem dL_hoursUntilFull_0 : decode cL_hoursUntilFull 0 = .ok (.aload_n 2, 1) := by decide +kernel
theorem dL_hoursUntilFull_1 : decode cL_hoursUntilFull 1 = .ok (.iconst 0, 1) := by decide +kernel
theorem dL_hoursUntilFull_2 : decode cL_hoursUntilFull 2 = .ok (.aload_n 0, 1) := by decide +kernel
theorem dL_hoursUntilFull_3 : decode cL_hoursUntilFull 3 = .ok (.iload_n 1, 1) := by decide +kernel
theorem dL_hoursUntilFull_4 : decode cL_hoursUntilFull 4 = .ok (.invokevirtual 76, 3) := by decide +kernel
theorem dL_hoursUntilFull_7 : decode cL_hoursUntilFull 7 = .ok (.i2l, 1) := by decide +kernel
theorem dL_hoursUntilFull_8 : decode cL_hoursUntilFull 8 = .ok (.lastore, 1) := by decide +kernel
theorem dL_hoursUntilFull_9 : decode cL_hoursUntilFull 9 = .ok (.goto 6, 3) := by decide +kernel
theorem dL_hoursUntilFull_12 : decode cL_hoursUntilFull 12 = .ok (.astore_n 3, 1) := by decide +kernel
theorem dL_hoursUntilFull_13 : decode cL_hoursUntilFull 13 = .ok (.iconst 1, 1) := by decide +kernel
theorem dL_hoursUntilFull_14 : decode cL_hoursUntilFull 14 = .ok (.ireturn, 1) := by decide +kernel
theorem dL_hoursUntilFull_15 : decode cL_hoursUntilFull 15 = .ok (.iconst 0, 1) := by decide +kernel
theorem dL_hoursUntilFull_16 : decode cL_hoursUntilFull 16 = .ok (.ireturn, 1) := by decide +kernel
theorem dL_bestChild_0 : decode cL_bestChild 0 = .ok (.aload_n 2, 1) := by decide +kernel
theorem dL_bestChild_1 : decode cL_bestChild 1 = .ok (.iconst 0, 1) := by decide +kernel
theorem dL_bestChild_2 : decode cL_bestChild 2 = .ok (.aload_n 0, 1) := by decide +kernel
theorem dL_bestChild_3 : decode cL_bestChild 3 = .ok (.iload_n 1, 1) := by decide +kernel
theorem dL_bestChild_4 : decode cL_bestChild 4 = .ok (.invokevirtual 79, 3) := by decide +kernel
theorem dL_bestChild_7 : decode cL_bestChild 7 = .ok (.i2l, 1) := by decide +kernel
theorem dL_bestChild_8 : decode cL_bestChild 8 = .ok (.lastore, 1) := by decide +kernel
theorem dL_bestChild_9 : decode cL_bestChild 9 = .ok (.goto 6, 3) := by decide +kernel
theorem dL_bestChild_12 : decode cL_bestChild 12 = .ok (.astore_n 3, 1) := by decide +kernel
theorem dL_bestChild_13 : decode cL_bestChild 13 = .ok (.iconst 1, 1) := by decide +kernel
theorem dL_bestChild_14 : decode cL_bestChild 14 = .ok (.ireturn, 1) := by decide +kernel
theorem dL_bestChild_15 : decode cL_bestChild 15 = .ok (.iconst 0, 1) := by decide +kernel
theorem dL_bestChild_16 : decode cL_bestChild 16 = .ok (.ireturn, 1) := by decide +kernel
theorem dL_law_0 : decode cL_law 0 = .ok (.new 8, 3) := by decide +kernel
theorem dL_law_3 : decode cL_law 3 = .ok (.dup, 1) := by decide +kernel
theorem dL_law_4 : decode cL_law 4 = .ok (.invokespecial 82, 3) := by decide +kernel
theorem dL_law_7 : decode cL_law 7 = .ok (.astore_n 1, 1) := by decide +kernel
theorem dL_law_8 : decode cL_law 8 = .ok (.new 83, 3) := by decide +kernel
theorem dL_law_11 : decode cL_law 11 = .ok (.dup, 1) := by decide +kernel
theorem dL_law_12 : decode cL_law 12 = .ok (.invokespecial 85, 3) := by decide +kernel
theorem dL_law_15 : decode cL_law 15 = .ok (.astore_n 2, 1) := by decide +kernel
theorem dL_law_16 : decode cL_law 16 = .ok (.iconst 1, 1) := by decide +kernel
theorem dL_law_17 : decode cL_law 17 = .ok (.newarray .long, 2) := by decide +kernel
theorem dL_law_19 : decode cL_law 19 = .ok (.astore_n 3, 1) := by decide +kernel
theorem dL_law_20 : decode cL_law 20 = .ok (.iconst 0, 1) := by decide +kernel
theorem dL_law_21 : decode cL_law 21 = .ok (.istore 4, 2) := by decide +kernel
theorem dL_law_23 : decode cL_law 23 = .ok (.iload 4, 2) := by decide +kernel
theorem dL_law_25 : decode cL_law 25 = .ok (.aload_n 0, 1) := by decide +kernel
theorem dL_law_26 : decode cL_law 26 = .ok (.arraylength, 1) := by decide +kernel
theorem dL_law_27 : decode cL_law 27 = .ok (.iconst 4, 1) := by decide +kernel
theorem dL_law_28 : decode cL_law 28 = .ok (.isub, 1) := by decide +kernel
theorem dL_law_29 : decode cL_law 29 = .ok (.if_icmp .gt 1586, 3) := by decide +kernel
theorem dL_law_32 : decode cL_law 32 = .ok (.aload_n 0, 1) := by decide +kernel
theorem dL_law_33 : decode cL_law 33 = .ok (.iload 4, 2) := by decide +kernel
theorem dL_law_35 : decode cL_law 35 = .ok (.iaload, 1) := by decide +kernel
theorem dL_law_36 : decode cL_law 36 = .ok (.bipush 31, 2) := by decide +kernel
theorem dL_law_38 : decode cL_law 38 = .ok (.iand, 1) := by decide +kernel
theorem dL_law_39 : decode cL_law 39 = .ok (.tableswitch 1570 0 29 #[133, 201, 269, 337, 405, 480, 536, 592, 605, 618, 631, 644, 657, 670, 683, 739, 795, 851, 907, 963, 1019, 1075, 1131, 1187, 1255, 1335, 1403, 1459, 1515, 1556], 133) := by decide +kernel
theorem dL_law_172 : decode cL_law 172 = .ok (.aload_n 1, 1) := by decide +kernel
theorem dL_law_173 : decode cL_law 173 = .ok (.aload_n 0, 1) := by decide +kernel
theorem dL_law_174 : decode cL_law 174 = .ok (.iload 4, 2) := by decide +kernel
theorem dL_law_176 : decode cL_law 176 = .ok (.iconst 1, 1) := by decide +kernel
theorem dL_law_177 : decode cL_law 177 = .ok (.iadd, 1) := by decide +kernel
theorem dL_law_178 : decode cL_law 178 = .ok (.iaload, 1) := by decide +kernel
theorem dL_law_179 : decode cL_law 179 = .ok (.aload_n 0, 1) := by decide +kernel
theorem dL_law_180 : decode cL_law 180 = .ok (.iload 4, 2) := by decide +kernel
theorem dL_law_182 : decode cL_law 182 = .ok (.iconst 2, 1) := by decide +kernel
theorem dL_law_183 : decode cL_law 183 = .ok (.iadd, 1) := by decide +kernel
theorem dL_law_184 : decode cL_law 184 = .ok (.iaload, 1) := by decide +kernel
theorem dL_law_185 : decode cL_law 185 = .ok (.aload_n 3, 1) := by decide +kernel
theorem dL_law_186 : decode cL_law 186 = .ok (.invokestatic 86, 3) := by decide +kernel
theorem dL_law_189 : decode cL_law 189 = .ok (.istore 5, 2) := by decide +kernel
theorem dL_law_191 : decode cL_law 191 = .ok (.aload_n 2, 1) := by decide +kernel
theorem dL_law_192 : decode cL_law 192 = .ok (.aload_n 0, 1) := by decide +kernel
theorem dL_law_193 : decode cL_law 193 = .ok (.iload 4, 2) := by decide +kernel
theorem dL_law_195 : decode cL_law 195 = .ok (.iconst 1, 1) := by decide +kernel
theorem dL_law_196 : decode cL_law 196 = .ok (.iadd, 1) := by decide +kernel
theorem dL_law_197 : decode cL_law 197 = .ok (.iaload, 1) := by decide +kernel
theorem dL_law_198 : decode cL_law 198 = .ok (.aload_n 0, 1) := by decide +kernel
theorem dL_law_199 : decode cL_law 199 = .ok (.iload 4, 2) := by decide +kernel
theorem dL_law_201 : decode cL_law 201 = .ok (.iconst 2, 1) := by decide +kernel
theorem dL_law_202 : decode cL_law 202 = .ok (.iadd, 1) := by decide +kernel
theorem dL_law_203 : decode cL_law 203 = .ok (.iaload, 1) := by decide +kernel
theorem dL_law_204 : decode cL_law 204 = .ok (.invokevirtual 91, 3) := by decide +kernel
theorem dL_law_207 : decode cL_law 207 = .ok (.istore 6, 2) := by decide +kernel
theorem dL_law_209 : decode cL_law 209 = .ok (.aload_n 2, 1) := by decide +kernel
theorem dL_law_210 : decode cL_law 210 = .ok (.invokevirtual 92, 3) := by decide +kernel
theorem dL_law_213 : decode cL_law 213 = .ok (.iload 5, 2) := by decide +kernel
theorem dL_law_215 : decode cL_law 215 = .ok (.if_icmp .eq 5, 3) := by decide +kernel
theorem dL_law_218 : decode cL_law 218 = .ok (.iconst 0, 1) := by decide +kernel
theorem dL_law_219 : decode cL_law 219 = .ok (.ireturn, 1) := by decide +kernel
theorem dL_law_220 : decode cL_law 220 = .ok (.iload 5, 2) := by decide +kernel
theorem dL_law_222 : decode cL_law 222 = .ok (.ifCond .ne 15, 3) := by decide +kernel
theorem dL_law_225 : decode cL_law 225 = .ok (.aload_n 3, 1) := by decide +kernel
theorem dL_law_226 : decode cL_law 226 = .ok (.iconst 0, 1) := by decide +kernel
theorem dL_law_227 : decode cL_law 227 = .ok (.laload, 1) := by decide +kernel
theorem dL_law_228 : decode cL_law 228 = .ok (.iload 6, 2) := by decide +kernel
theorem dL_law_230 : decode cL_law 230 = .ok (.i2l, 1) := by decide +kernel
theorem dL_law_231 : decode cL_law 231 = .ok (.lcmp, 1) := by decide +kernel
theorem dL_law_232 : decode cL_law 232 = .ok (.ifCond .eq 5, 3) := by decide +kernel
theorem dL_law_235 : decode cL_law 235 = .ok (.iconst 0, 1) := by decide +kernel
theorem dL_law_236 : decode cL_law 236 = .ok (.ireturn, 1) := by decide +kernel
theorem dL_law_237 : decode cL_law 237 = .ok (.goto 1372, 3) := by decide +kernel
theorem dL_law_240 : decode cL_law 240 = .ok (.aload_n 1, 1) := by decide +kernel
theorem dL_law_241 : decode cL_law 241 = .ok (.aload_n 0, 1) := by decide +kernel
theorem dL_law_242 : decode cL_law 242 = .ok (.iload 4, 2) := by decide +kernel
theorem dL_law_244 : decode cL_law 244 = .ok (.iconst 1, 1) := by decide +kernel
theorem dL_law_245 : decode cL_law 245 = .ok (.iadd, 1) := by decide +kernel
theorem dL_law_246 : decode cL_law 246 = .ok (.iaload, 1) := by decide +kernel
theorem dL_law_247 : decode cL_law 247 = .ok (.aload_n 0, 1) := by decide +kernel
theorem dL_law_248 : decode cL_law 248 = .ok (.iload 4, 2) := by decide +kernel
theorem dL_law_250 : decode cL_law 250 = .ok (.iconst 2, 1) := by decide +kernel
theorem dL_law_251 : decode cL_law 251 = .ok (.iadd, 1) := by decide +kernel
theorem dL_law_252 : decode cL_law 252 = .ok (.iaload, 1) := by decide +kernel
theorem dL_law_253 : decode cL_law 253 = .ok (.aload_n 3, 1) := by decide +kernel
theorem dL_law_254 : decode cL_law 254 = .ok (.invokestatic 96, 3) := by decide +kernel
theorem dL_law_257 : decode cL_law 257 = .ok (.istore 5, 2) := by decide +kernel
theorem dL_law_259 : decode cL_law 259 = .ok (.aload_n 2, 1) := by decide +kernel
theorem dL_law_260 : decode cL_law 260 = .ok (.aload_n 0, 1) := by decide +kernel
theorem dL_law_261 : decode cL_law 261 = .ok (.iload 4, 2) := by decide +kernel
theorem dL_law_263 : decode cL_law 263 = .ok (.iconst 1, 1) := by decide +kernel
theorem dL_law_264 : decode cL_law 264 = .ok (.iadd, 1) := by decide +kernel
theorem dL_law_265 : decode cL_law 265 = .ok (.iaload, 1) := by decide +kernel
theorem dL_law_266 : decode cL_law 266 = .ok (.aload_n 0, 1) := by decide +kernel
theorem dL_law_267 : decode cL_law 267 = .ok (.iload 4, 2) := by decide +kernel
theorem dL_law_269 : decode cL_law 269 = .ok (.iconst 2, 1) := by decide +kernel
theorem dL_law_270 : decode cL_law 270 = .ok (.iadd, 1) := by decide +kernel
theorem dL_law_271 : decode cL_law 271 = .ok (.iaload, 1) := by decide +kernel
theorem dL_law_272 : decode cL_law 272 = .ok (.invokevirtual 98, 3) := by decide +kernel
theorem dL_law_275 : decode cL_law 275 = .ok (.istore 6, 2) := by decide +kernel
theorem dL_law_277 : decode cL_law 277 = .ok (.aload_n 2, 1) := by decide +kernel
theorem dL_law_278 : decode cL_law 278 = .ok (.invokevirtual 92, 3) := by decide +kernel
theorem dL_law_281 : decode cL_law 281 = .ok (.iload 5, 2) := by decide +kernel
theorem dL_law_283 : decode cL_law 283 = .ok (.if_icmp .eq 5, 3) := by decide +kernel
theorem dL_law_286 : decode cL_law 286 = .ok (.iconst 0, 1) := by decide +kernel
theorem dL_law_287 : decode cL_law 287 = .ok (.ireturn, 1) := by decide +kernel
theorem dL_law_288 : decode cL_law 288 = .ok (.iload 5, 2) := by decide +kernel
theorem dL_law_290 : decode cL_law 290 = .ok (.ifCond .ne 15, 3) := by decide +kernel
theorem dL_law_293 : decode cL_law 293 = .ok (.aload_n 3, 1) := by decide +kernel
theorem dL_law_294 : decode cL_law 294 = .ok (.iconst 0, 1) := by decide +kernel
theorem dL_law_295 : decode cL_law 295 = .ok (.laload, 1) := by decide +kernel
theorem dL_law_296 : decode cL_law 296 = .ok (.iload 6, 2) := by decide +kernel
theorem dL_law_298 : decode cL_law 298 = .ok (.i2l, 1) := by decide +kernel
theorem dL_law_299 : decode cL_law 299 = .ok (.lcmp, 1) := by decide +kernel
theorem dL_law_300 : decode cL_law 300 = .ok (.ifCond .eq 5, 3) := by decide +kernel
theorem dL_law_303 : decode cL_law 303 = .ok (.iconst 0, 1) := by decide +kernel
theorem dL_law_304 : decode cL_law 304 = .ok (.ireturn, 1) := by decide +kernel
theorem dL_law_305 : decode cL_law 305 = .ok (.goto 1304, 3) := by decide +kernel
theorem dL_law_308 : decode cL_law 308 = .ok (.aload_n 1, 1) := by decide +kernel
theorem dL_law_309 : decode cL_law 309 = .ok (.aload_n 0, 1) := by decide +kernel
theorem dL_law_310 : decode cL_law 310 = .ok (.iload 4, 2) := by decide +kernel
theorem dL_law_312 : decode cL_law 312 = .ok (.iconst 1, 1) := by decide +kernel
theorem dL_law_313 : decode cL_law 313 = .ok (.iadd, 1) := by decide +kernel
theorem dL_law_314 : decode cL_law 314 = .ok (.iaload, 1) := by decide +kernel
theorem dL_law_315 : decode cL_law 315 = .ok (.aload_n 0, 1) := by decide +kernel
theorem dL_law_316 : decode cL_law 316 = .ok (.iload 4, 2) := by decide +kernel
theorem dL_law_318 : decode cL_law 318 = .ok (.iconst 2, 1) := by decide +kernel
theorem dL_law_319 : decode cL_law 319 = .ok (.iadd, 1) := by decide +kernel
theorem dL_law_320 : decode cL_law 320 = .ok (.iaload, 1) := by decide +kernel
theorem dL_law_321 : decode cL_law 321 = .ok (.aload_n 3, 1) := by decide +kernel
theorem dL_law_322 : decode cL_law 322 = .ok (.invokestatic 99, 3) := by decide +kernel
theorem dL_law_325 : decode cL_law 325 = .ok (.istore 5, 2) := by decide +kernel
theorem dL_law_327 : decode cL_law 327 = .ok (.aload_n 2, 1) := by decide +kernel
theorem dL_law_328 : decode cL_law 328 = .ok (.aload_n 0, 1) := by decide +kernel
theorem dL_law_329 : decode cL_law 329 = .ok (.iload 4, 2) := by decide +kernel
theorem dL_law_331 : decode cL_law 331 = .ok (.iconst 1, 1) := by decide +kernel
theorem dL_law_332 : decode cL_law 332 = .ok (.iadd, 1) := by decide +kernel
theorem dL_law_333 : decode cL_law 333 = .ok (.iaload, 1) := by decide +kernel
theorem dL_law_334 : decode cL_law 334 = .ok (.aload_n 0, 1) := by decide +kernel
theorem dL_law_335 : decode cL_law 335 = .ok (.iload 4, 2) := by decide +kernel
theorem dL_law_337 : decode cL_law 337 = .ok (.iconst 2, 1) := by decide +kernel
theorem dL_law_338 : decode cL_law 338 = .ok (.iadd, 1) := by decide +kernel
theorem dL_law_339 : decode cL_law 339 = .ok (.iaload, 1) := by decide +kernel
theorem dL_law_340 : decode cL_law 340 = .ok (.invokevirtual 101, 3) := by decide +kernel
theorem dL_law_343 : decode cL_law 343 = .ok (.istore 6, 2) := by decide +kernel
theorem dL_law_345 : decode cL_law 345 = .ok (.aload_n 2, 1) := by decide +kernel
theorem dL_law_346 : decode cL_law 346 = .ok (.invokevirtual 92, 3) := by decide +kernel
theorem dL_law_349 : decode cL_law 349 = .ok (.iload 5, 2) := by decide +kernel
theorem dL_law_351 : decode cL_law 351 = .ok (.if_icmp .eq 5, 3) := by decide +kernel
theorem dL_law_354 : decode cL_law 354 = .ok (.iconst 0, 1) := by decide +kernel
theorem dL_law_355 : decode cL_law 355 = .ok (.ireturn, 1) := by decide +kernel
theorem dL_law_356 : decode cL_law 356 = .ok (.iload 5, 2) := by decide +kernel
theorem dL_law_358 : decode cL_law 358 = .ok (.ifCond .ne 15, 3) := by decide +kernel
theorem dL_law_361 : decode cL_law 361 = .ok (.aload_n 3, 1) := by decide +kernel
theorem dL_law_362 : decode cL_law 362 = .ok (.iconst 0, 1) := by decide +kernel
theorem dL_law_363 : decode cL_law 363 = .ok (.laload, 1) := by decide +kernel
theorem dL_law_364 : decode cL_law 364 = .ok (.iload 6, 2) := by decide +kernel
theorem dL_law_366 : decode cL_law 366 = .ok (.i2l, 1) := by decide +kernel
theorem dL_law_367 : decode cL_law 367 = .ok (.lcmp, 1) := by decide +kernel
theorem dL_law_368 : decode cL_law 368 = .ok (.ifCond .eq 5, 3) := by decide +kernel
theorem dL_law_371 : decode cL_law 371 = .ok (.iconst 0, 1) := by decide +kernel
theorem dL_law_372 : decode cL_law 372 = .ok (.ireturn, 1) := by decide +kernel
theorem dL_law_373 : decode cL_law 373 = .ok (.goto 1236, 3) := by decide +kernel
theorem dL_law_376 : decode cL_law 376 = .ok (.aload_n 1, 1) := by decide +kernel
theorem dL_law_377 : decode cL_law 377 = .ok (.aload_n 0, 1) := by decide +kernel
theorem dL_law_378 : decode cL_law 378 = .ok (.iload 4, 2) := by decide +kernel
theorem dL_law_380 : decode cL_law 380 = .ok (.iconst 1, 1) := by decide +kernel
theorem dL_law_381 : decode cL_law 381 = .ok (.iadd, 1) := by decide +kernel
theorem dL_law_382 : decode cL_law 382 = .ok (.iaload, 1) := by decide +kernel
theorem dL_law_383 : decode cL_law 383 = .ok (.aload_n 0, 1) := by decide +kernel
theorem dL_law_384 : decode cL_law 384 = .ok (.iload 4, 2) := by decide +kernel
theorem dL_law_386 : decode cL_law 386 = .ok (.iconst 2, 1) := by decide +kernel
theorem dL_law_387 : decode cL_law 387 = .ok (.iadd, 1) := by decide +kernel
theorem dL_law_388 : decode cL_law 388 = .ok (.iaload, 1) := by decide +kernel
theorem dL_law_389 : decode cL_law 389 = .ok (.aload_n 3, 1) := by decide +kernel
theorem dL_law_390 : decode cL_law 390 = .ok (.invokestatic 102, 3) := by decide +kernel
theorem dL_law_393 : decode cL_law 393 = .ok (.istore 5, 2) := by decide +kernel
theorem dL_law_395 : decode cL_law 395 = .ok (.aload_n 2, 1) := by decide +kernel
theorem dL_law_396 : decode cL_law 396 = .ok (.aload_n 0, 1) := by decide +kernel
theorem dL_law_397 : decode cL_law 397 = .ok (.iload 4, 2) := by decide +kernel
theorem dL_law_399 : decode cL_law 399 = .ok (.iconst 1, 1) := by decide +kernel
theorem dL_law_400 : decode cL_law 400 = .ok (.iadd, 1) := by decide +kernel
theorem dL_law_401 : decode cL_law 401 = .ok (.iaload, 1) := by decide +kernel
theorem dL_law_402 : decode cL_law 402 = .ok (.aload_n 0, 1) := by decide +kernel
theorem dL_law_403 : decode cL_law 403 = .ok (.iload 4, 2) := by decide +kernel
theorem dL_law_405 : decode cL_law 405 = .ok (.iconst 2, 1) := by decide +kernel
theorem dL_law_406 : decode cL_law 406 = .ok (.iadd, 1) := by decide +kernel
theorem dL_law_407 : decode cL_law 407 = .ok (.iaload, 1) := by decide +kernel
theorem dL_law_408 : decode cL_law 408 = .ok (.invokevirtual 104, 3) := by decide +kernel
theorem dL_law_411 : decode cL_law 411 = .ok (.istore 6, 2) := by decide +kernel
theorem dL_law_413 : decode cL_law 413 = .ok (.aload_n 2, 1) := by decide +kernel
theorem dL_law_414 : decode cL_law 414 = .ok (.invokevirtual 92, 3) := by decide +kernel
theorem dL_law_417 : decode cL_law 417 = .ok (.iload 5, 2) := by decide +kernel
theorem dL_law_419 : decode cL_law 419 = .ok (.if_icmp .eq 5, 3) := by decide +kernel
theorem dL_law_422 : decode cL_law 422 = .ok (.iconst 0, 1) := by decide +kernel
theorem dL_law_423 : decode cL_law 423 = .ok (.ireturn, 1) := by decide +kernel
theorem dL_law_424 : decode cL_law 424 = .ok (.iload 5, 2) := by decide +kernel
theorem dL_law_426 : decode cL_law 426 = .ok (.ifCond .ne 15, 3) := by decide +kernel
theorem dL_law_429 : decode cL_law 429 = .ok (.aload_n 3, 1) := by decide +kernel
theorem dL_law_430 : decode cL_law 430 = .ok (.iconst 0, 1) := by decide +kernel
theorem dL_law_431 : decode cL_law 431 = .ok (.laload, 1) := by decide +kernel
theorem dL_law_432 : decode cL_law 432 = .ok (.iload 6, 2) := by decide +kernel
theorem dL_law_434 : decode cL_law 434 = .ok (.i2l, 1) := by decide +kernel
theorem dL_law_435 : decode cL_law 435 = .ok (.lcmp, 1) := by decide +kernel
theorem dL_law_436 : decode cL_law 436 = .ok (.ifCond .eq 5, 3) := by decide +kernel
theorem dL_law_439 : decode cL_law 439 = .ok (.iconst 0, 1) := by decide +kernel
theorem dL_law_440 : decode cL_law 440 = .ok (.ireturn, 1) := by decide +kernel
theorem dL_law_441 : decode cL_law 441 = .ok (.goto 1168, 3) := by decide +kernel
theorem dL_law_444 : decode cL_law 444 = .ok (.aload_n 1, 1) := by decide +kernel
theorem dL_law_445 : decode cL_law 445 = .ok (.aload_n 0, 1) := by decide +kernel
theorem dL_law_446 : decode cL_law 446 = .ok (.iload 4, 2) := by decide +kernel
theorem dL_law_448 : decode cL_law 448 = .ok (.iconst 1, 1) := by decide +kernel
theorem dL_law_449 : decode cL_law 449 = .ok (.iadd, 1) := by decide +kernel
theorem dL_law_450 : decode cL_law 450 = .ok (.iaload, 1) := by decide +kernel
theorem dL_law_451 : decode cL_law 451 = .ok (.aload_n 0, 1) := by decide +kernel
theorem dL_law_452 : decode cL_law 452 = .ok (.iload 4, 2) := by decide +kernel
theorem dL_law_454 : decode cL_law 454 = .ok (.iconst 2, 1) := by decide +kernel
theorem dL_law_455 : decode cL_law 455 = .ok (.iadd, 1) := by decide +kernel
theorem dL_law_456 : decode cL_law 456 = .ok (.iaload, 1) := by decide +kernel
theorem dL_law_457 : decode cL_law 457 = .ok (.aload_n 3, 1) := by decide +kernel
theorem dL_law_458 : decode cL_law 458 = .ok (.invokestatic 105, 3) := by decide +kernel
theorem dL_law_461 : decode cL_law 461 = .ok (.istore 5, 2) := by decide +kernel
theorem dL_law_463 : decode cL_law 463 = .ok (.aload_n 2, 1) := by decide +kernel
theorem dL_law_464 : decode cL_law 464 = .ok (.aload_n 0, 1) := by decide +kernel
theorem dL_law_465 : decode cL_law 465 = .ok (.iload 4, 2) := by decide +kernel
theorem dL_law_467 : decode cL_law 467 = .ok (.iconst 1, 1) := by decide +kernel
theorem dL_law_468 : decode cL_law 468 = .ok (.iadd, 1) := by decide +kernel
theorem dL_law_469 : decode cL_law 469 = .ok (.iaload, 1) := by decide +kernel
theorem dL_law_470 : decode cL_law 470 = .ok (.aload_n 0, 1) := by decide +kernel
theorem dL_law_471 : decode cL_law 471 = .ok (.iload 4, 2) := by decide +kernel
theorem dL_law_473 : decode cL_law 473 = .ok (.iconst 2, 1) := by decide +kernel
theorem dL_law_474 : decode cL_law 474 = .ok (.iadd, 1) := by decide +kernel
theorem dL_law_475 : decode cL_law 475 = .ok (.iaload, 1) := by decide +kernel
theorem dL_law_476 : decode cL_law 476 = .ok (.invokevirtual 107, 3) := by decide +kernel
theorem dL_law_479 : decode cL_law 479 = .ok (.istore 6, 2) := by decide +kernel
theorem dL_law_481 : decode cL_law 481 = .ok (.aload_n 2, 1) := by decide +kernel
theorem dL_law_482 : decode cL_law 482 = .ok (.invokevirtual 92, 3) := by decide +kernel
theorem dL_law_485 : decode cL_law 485 = .ok (.iload 5, 2) := by decide +kernel
theorem dL_law_487 : decode cL_law 487 = .ok (.if_icmp .eq 5, 3) := by decide +kernel
theorem dL_law_490 : decode cL_law 490 = .ok (.iconst 0, 1) := by decide +kernel
theorem dL_law_491 : decode cL_law 491 = .ok (.ireturn, 1) := by decide +kernel
theorem dL_law_492 : decode cL_law 492 = .ok (.iload 5, 2) := by decide +kernel
theorem dL_law_494 : decode cL_law 494 = .ok (.ifCond .ne 22, 3) := by decide +kernel
theorem dL_law_497 : decode cL_law 497 = .ok (.aload_n 3, 1) := by decide +kernel
theorem dL_law_498 : decode cL_law 498 = .ok (.iconst 0, 1) := by decide +kernel
theorem dL_law_499 : decode cL_law 499 = .ok (.laload, 1) := by decide +kernel
theorem dL_law_500 : decode cL_law 500 = .ok (.iload 6, 2) := by decide +kernel
theorem dL_law_502 : decode cL_law 502 = .ok (.ifCond .eq 7, 3) := by decide +kernel
theorem dL_law_505 : decode cL_law 505 = .ok (.lconst 1, 1) := by decide +kernel
theorem dL_law_506 : decode cL_law 506 = .ok (.goto 4, 3) := by decide +kernel
theorem dL_law_509 : decode cL_law 509 = .ok (.lconst 0, 1) := by decide +kernel
theorem dL_law_510 : decode cL_law 510 = .ok (.lcmp, 1) := by decide +kernel
theorem dL_law_511 : decode cL_law 511 = .ok (.ifCond .eq 5, 3) := by decide +kernel
theorem dL_law_514 : decode cL_law 514 = .ok (.iconst 0, 1) := by decide +kernel
theorem dL_law_515 : decode cL_law 515 = .ok (.ireturn, 1) := by decide +kernel
theorem dL_law_516 : decode cL_law 516 = .ok (.goto 1093, 3) := by decide +kernel
theorem dL_law_519 : decode cL_law 519 = .ok (.aload_n 1, 1) := by decide +kernel
theorem dL_law_520 : decode cL_law 520 = .ok (.aload_n 0, 1) := by decide +kernel
theorem dL_law_521 : decode cL_law 521 = .ok (.iload 4, 2) := by decide +kernel
theorem dL_law_523 : decode cL_law 523 = .ok (.iconst 1, 1) := by decide +kernel
theorem dL_law_524 : decode cL_law 524 = .ok (.iadd, 1) := by decide +kernel
theorem dL_law_525 : decode cL_law 525 = .ok (.iaload, 1) := by decide +kernel
theorem dL_law_526 : decode cL_law 526 = .ok (.aload_n 3, 1) := by decide +kernel
theorem dL_law_527 : decode cL_law 527 = .ok (.invokestatic 108, 3) := by decide +kernel
theorem dL_law_530 : decode cL_law 530 = .ok (.istore 5, 2) := by decide +kernel
theorem dL_law_532 : decode cL_law 532 = .ok (.aload_n 2, 1) := by decide +kernel
theorem dL_law_533 : decode cL_law 533 = .ok (.aload_n 0, 1) := by decide +kernel
theorem dL_law_534 : decode cL_law 534 = .ok (.iload 4, 2) := by decide +kernel
theorem dL_law_536 : decode cL_law 536 = .ok (.iconst 1, 1) := by decide +kernel
theorem dL_law_537 : decode cL_law 537 = .ok (.iadd, 1) := by decide +kernel
theorem dL_law_538 : decode cL_law 538 = .ok (.iaload, 1) := by decide +kernel
theorem dL_law_539 : decode cL_law 539 = .ok (.invokevirtual 111, 3) := by decide +kernel
theorem dL_law_542 : decode cL_law 542 = .ok (.istore 6, 2) := by decide +kernel
theorem dL_law_544 : decode cL_law 544 = .ok (.aload_n 2, 1) := by decide +kernel
theorem dL_law_545 : decode cL_law 545 = .ok (.invokevirtual 92, 3) := by decide +kernel
theorem dL_law_548 : decode cL_law 548 = .ok (.iload 5, 2) := by decide +kernel
theorem dL_law_550 : decode cL_law 550 = .ok (.if_icmp .eq 5, 3) := by decide +kernel
theorem dL_law_553 : decode cL_law 553 = .ok (.iconst 0, 1) := by decide +kernel
theorem dL_law_554 : decode cL_law 554 = .ok (.ireturn, 1) := by decide +kernel
theorem dL_law_555 : decode cL_law 555 = .ok (.iload 5, 2) := by decide +kernel
theorem dL_law_557 : decode cL_law 557 = .ok (.ifCond .ne 15, 3) := by decide +kernel
theorem dL_law_560 : decode cL_law 560 = .ok (.aload_n 3, 1) := by decide +kernel
theorem dL_law_561 : decode cL_law 561 = .ok (.iconst 0, 1) := by decide +kernel
theorem dL_law_562 : decode cL_law 562 = .ok (.laload, 1) := by decide +kernel
theorem dL_law_563 : decode cL_law 563 = .ok (.iload 6, 2) := by decide +kernel
theorem dL_law_565 : decode cL_law 565 = .ok (.i2l, 1) := by decide +kernel
theorem dL_law_566 : decode cL_law 566 = .ok (.lcmp, 1) := by decide +kernel
theorem dL_law_567 : decode cL_law 567 = .ok (.ifCond .eq 5, 3) := by decide +kernel
theorem dL_law_570 : decode cL_law 570 = .ok (.iconst 0, 1) := by decide +kernel
theorem dL_law_571 : decode cL_law 571 = .ok (.ireturn, 1) := by decide +kernel
theorem dL_law_572 : decode cL_law 572 = .ok (.goto 1037, 3) := by decide +kernel
theorem dL_law_575 : decode cL_law 575 = .ok (.aload_n 1, 1) := by decide +kernel
theorem dL_law_576 : decode cL_law 576 = .ok (.aload_n 0, 1) := by decide +kernel
theorem dL_law_577 : decode cL_law 577 = .ok (.iload 4, 2) := by decide +kernel
theorem dL_law_579 : decode cL_law 579 = .ok (.iconst 1, 1) := by decide +kernel
theorem dL_law_580 : decode cL_law 580 = .ok (.iadd, 1) := by decide +kernel
theorem dL_law_581 : decode cL_law 581 = .ok (.iaload, 1) := by decide +kernel
theorem dL_law_582 : decode cL_law 582 = .ok (.aload_n 3, 1) := by decide +kernel
theorem dL_law_583 : decode cL_law 583 = .ok (.invokestatic 112, 3) := by decide +kernel
theorem dL_law_586 : decode cL_law 586 = .ok (.istore 5, 2) := by decide +kernel
theorem dL_law_588 : decode cL_law 588 = .ok (.aload_n 2, 1) := by decide +kernel
theorem dL_law_589 : decode cL_law 589 = .ok (.aload_n 0, 1) := by decide +kernel
theorem dL_law_590 : decode cL_law 590 = .ok (.iload 4, 2) := by decide +kernel
theorem dL_law_592 : decode cL_law 592 = .ok (.iconst 1, 1) := by decide +kernel
theorem dL_law_593 : decode cL_law 593 = .ok (.iadd, 1) := by decide +kernel
theorem dL_law_594 : decode cL_law 594 = .ok (.iaload, 1) := by decide +kernel
theorem dL_law_595 : decode cL_law 595 = .ok (.invokevirtual 114, 3) := by decide +kernel
theorem dL_law_598 : decode cL_law 598 = .ok (.istore 6, 2) := by decide +kernel
theorem dL_law_600 : decode cL_law 600 = .ok (.aload_n 2, 1) := by decide +kernel
theorem dL_law_601 : decode cL_law 601 = .ok (.invokevirtual 92, 3) := by decide +kernel
theorem dL_law_604 : decode cL_law 604 = .ok (.iload 5, 2) := by decide +kernel
theorem dL_law_606 : decode cL_law 606 = .ok (.if_icmp .eq 5, 3) := by decide +kernel
theorem dL_law_609 : decode cL_law 609 = .ok (.iconst 0, 1) := by decide +kernel
theorem dL_law_610 : decode cL_law 610 = .ok (.ireturn, 1) := by decide +kernel
theorem dL_law_611 : decode cL_law 611 = .ok (.iload 5, 2) := by decide +kernel
theorem dL_law_613 : decode cL_law 613 = .ok (.ifCond .ne 15, 3) := by decide +kernel
theorem dL_law_616 : decode cL_law 616 = .ok (.aload_n 3, 1) := by decide +kernel
theorem dL_law_617 : decode cL_law 617 = .ok (.iconst 0, 1) := by decide +kernel
theorem dL_law_618 : decode cL_law 618 = .ok (.laload, 1) := by decide +kernel
theorem dL_law_619 : decode cL_law 619 = .ok (.iload 6, 2) := by decide +kernel
theorem dL_law_621 : decode cL_law 621 = .ok (.i2l, 1) := by decide +kernel
theorem dL_law_622 : decode cL_law 622 = .ok (.lcmp, 1) := by decide +kernel
theorem dL_law_623 : decode cL_law 623 = .ok (.ifCond .eq 5, 3) := by decide +kernel
theorem dL_law_626 : decode cL_law 626 = .ok (.iconst 0, 1) := by decide +kernel
theorem dL_law_627 : decode cL_law 627 = .ok (.ireturn, 1) := by decide +kernel
theorem dL_law_628 : decode cL_law 628 = .ok (.goto 981, 3) := by decide +kernel
theorem dL_law_631 : decode cL_law 631 = .ok (.aload_n 1, 1) := by decide +kernel
theorem dL_law_632 : decode cL_law 632 = .ok (.invokevirtual 115, 3) := by decide +kernel
theorem dL_law_635 : decode cL_law 635 = .ok (.aload_n 2, 1) := by decide +kernel
theorem dL_law_636 : decode cL_law 636 = .ok (.invokevirtual 118, 3) := by decide +kernel
theorem dL_law_639 : decode cL_law 639 = .ok (.if_icmp .eq 970, 3) := by decide +kernel
theorem dL_law_642 : decode cL_law 642 = .ok (.iconst 0, 1) := by decide +kernel
theorem dL_law_643 : decode cL_law 643 = .ok (.ireturn, 1) := by decide +kernel
theorem dL_law_644 : decode cL_law 644 = .ok (.aload_n 1, 1) := by decide +kernel
theorem dL_law_645 : decode cL_law 645 = .ok (.invokevirtual 119, 3) := by decide +kernel
theorem dL_law_648 : decode cL_law 648 = .ok (.aload_n 2, 1) := by decide +kernel
theorem dL_law_649 : decode cL_law 649 = .ok (.invokevirtual 122, 3) := by decide +kernel
theorem dL_law_652 : decode cL_law 652 = .ok (.if_icmp .eq 957, 3) := by decide +kernel
theorem dL_law_655 : decode cL_law 655 = .ok (.iconst 0, 1) := by decide +kernel
theorem dL_law_656 : decode cL_law 656 = .ok (.ireturn, 1) := by decide +kernel
theorem dL_law_657 : decode cL_law 657 = .ok (.aload_n 1, 1) := by decide +kernel
theorem dL_law_658 : decode cL_law 658 = .ok (.invokevirtual 123, 3) := by decide +kernel
theorem dL_law_661 : decode cL_law 661 = .ok (.aload_n 2, 1) := by decide +kernel
theorem dL_law_662 : decode cL_law 662 = .ok (.invokevirtual 126, 3) := by decide +kernel
theorem dL_law_665 : decode cL_law 665 = .ok (.if_icmp .eq 944, 3) := by decide +kernel
theorem dL_law_668 : decode cL_law 668 = .ok (.iconst 0, 1) := by decide +kernel
theorem dL_law_669 : decode cL_law 669 = .ok (.ireturn, 1) := by decide +kernel
theorem dL_law_670 : decode cL_law 670 = .ok (.aload_n 1, 1) := by decide +kernel
theorem dL_law_671 : decode cL_law 671 = .ok (.invokevirtual 127, 3) := by decide +kernel
theorem dL_law_674 : decode cL_law 674 = .ok (.aload_n 2, 1) := by decide +kernel
theorem dL_law_675 : decode cL_law 675 = .ok (.invokevirtual 130, 3) := by decide +kernel
theorem dL_law_678 : decode cL_law 678 = .ok (.if_icmp .eq 931, 3) := by decide +kernel
theorem dL_law_681 : decode cL_law 681 = .ok (.iconst 0, 1) := by decide +kernel
theorem dL_law_682 : decode cL_law 682 = .ok (.ireturn, 1) := by decide +kernel
theorem dL_law_683 : decode cL_law 683 = .ok (.aload_n 1, 1) := by decide +kernel
theorem dL_law_684 : decode cL_law 684 = .ok (.invokevirtual 131, 3) := by decide +kernel
theorem dL_law_687 : decode cL_law 687 = .ok (.aload_n 2, 1) := by decide +kernel
theorem dL_law_688 : decode cL_law 688 = .ok (.invokevirtual 134, 3) := by decide +kernel
theorem dL_law_691 : decode cL_law 691 = .ok (.if_icmp .eq 918, 3) := by decide +kernel
theorem dL_law_694 : decode cL_law 694 = .ok (.iconst 0, 1) := by decide +kernel
theorem dL_law_695 : decode cL_law 695 = .ok (.ireturn, 1) := by decide +kernel
theorem dL_law_696 : decode cL_law 696 = .ok (.aload_n 1, 1) := by decide +kernel
theorem dL_law_697 : decode cL_law 697 = .ok (.invokevirtual 135, 3) := by decide +kernel
theorem dL_law_700 : decode cL_law 700 = .ok (.aload_n 2, 1) := by decide +kernel
theorem dL_law_701 : decode cL_law 701 = .ok (.invokevirtual 138, 3) := by decide +kernel
theorem dL_law_704 : decode cL_law 704 = .ok (.if_icmp .eq 905, 3) := by decide +kernel
theorem dL_law_707 : decode cL_law 707 = .ok (.iconst 0, 1) := by decide +kernel
theorem dL_law_708 : decode cL_law 708 = .ok (.ireturn, 1) := by decide +kernel
theorem dL_law_709 : decode cL_law 709 = .ok (.aload_n 1, 1) := by decide +kernel
theorem dL_law_710 : decode cL_law 710 = .ok (.invokevirtual 139, 3) := by decide +kernel
theorem dL_law_713 : decode cL_law 713 = .ok (.aload_n 2, 1) := by decide +kernel
theorem dL_law_714 : decode cL_law 714 = .ok (.invokevirtual 142, 3) := by decide +kernel
theorem dL_law_717 : decode cL_law 717 = .ok (.if_icmp .eq 892, 3) := by decide +kernel
theorem dL_law_720 : decode cL_law 720 = .ok (.iconst 0, 1) := by decide +kernel
theorem dL_law_721 : decode cL_law 721 = .ok (.ireturn, 1) := by decide +kernel
theorem dL_law_722 : decode cL_law 722 = .ok (.aload_n 1, 1) := by decide +kernel
theorem dL_law_723 : decode cL_law 723 = .ok (.aload_n 0, 1) := by decide +kernel
theorem dL_law_724 : decode cL_law 724 = .ok (.iload 4, 2) := by decide +kernel
theorem dL_law_726 : decode cL_law 726 = .ok (.iconst 1, 1) := by decide +kernel
theorem dL_law_727 : decode cL_law 727 = .ok (.iadd, 1) := by decide +kernel
theorem dL_law_728 : decode cL_law 728 = .ok (.iaload, 1) := by decide +kernel
theorem dL_law_729 : decode cL_law 729 = .ok (.aload_n 3, 1) := by decide +kernel
theorem dL_law_730 : decode cL_law 730 = .ok (.invokestatic 143, 3) := by decide +kernel
theorem dL_law_733 : decode cL_law 733 = .ok (.istore 5, 2) := by decide +kernel
theorem dL_law_735 : decode cL_law 735 = .ok (.aload_n 2, 1) := by decide +kernel
theorem dL_law_736 : decode cL_law 736 = .ok (.aload_n 0, 1) := by decide +kernel
theorem dL_law_737 : decode cL_law 737 = .ok (.iload 4, 2) := by decide +kernel
theorem dL_law_739 : decode cL_law 739 = .ok (.iconst 1, 1) := by decide +kernel
theorem dL_law_740 : decode cL_law 740 = .ok (.iadd, 1) := by decide +kernel
theorem dL_law_741 : decode cL_law 741 = .ok (.iaload, 1) := by decide +kernel
theorem dL_law_742 : decode cL_law 742 = .ok (.invokevirtual 145, 3) := by decide +kernel
theorem dL_law_745 : decode cL_law 745 = .ok (.istore 6, 2) := by decide +kernel
theorem dL_law_747 : decode cL_law 747 = .ok (.aload_n 2, 1) := by decide +kernel
theorem dL_law_748 : decode cL_law 748 = .ok (.invokevirtual 92, 3) := by decide +kernel
theorem dL_law_751 : decode cL_law 751 = .ok (.iload 5, 2) := by decide +kernel
theorem dL_law_753 : decode cL_law 753 = .ok (.if_icmp .eq 5, 3) := by decide +kernel
theorem dL_law_756 : decode cL_law 756 = .ok (.iconst 0, 1) := by decide +kernel
theorem dL_law_757 : decode cL_law 757 = .ok (.ireturn, 1) := by decide +kernel
theorem dL_law_758 : decode cL_law 758 = .ok (.iload 5, 2) := by decide +kernel
theorem dL_law_760 : decode cL_law 760 = .ok (.ifCond .ne 15, 3) := by decide +kernel
theorem dL_law_763 : decode cL_law 763 = .ok (.aload_n 3, 1) := by decide +kernel
theorem dL_law_764 : decode cL_law 764 = .ok (.iconst 0, 1) := by decide +kernel
theorem dL_law_765 : decode cL_law 765 = .ok (.laload, 1) := by decide +kernel
theorem dL_law_766 : decode cL_law 766 = .ok (.iload 6, 2) := by decide +kernel
theorem dL_law_768 : decode cL_law 768 = .ok (.i2l, 1) := by decide +kernel
theorem dL_law_769 : decode cL_law 769 = .ok (.lcmp, 1) := by decide +kernel
theorem dL_law_770 : decode cL_law 770 = .ok (.ifCond .eq 5, 3) := by decide +kernel
theorem dL_law_773 : decode cL_law 773 = .ok (.iconst 0, 1) := by decide +kernel
theorem dL_law_774 : decode cL_law 774 = .ok (.ireturn, 1) := by decide +kernel
theorem dL_law_775 : decode cL_law 775 = .ok (.goto 834, 3) := by decide +kernel
theorem dL_law_778 : decode cL_law 778 = .ok (.aload_n 1, 1) := by decide +kernel
theorem dL_law_779 : decode cL_law 779 = .ok (.aload_n 0, 1) := by decide +kernel
theorem dL_law_780 : decode cL_law 780 = .ok (.iload 4, 2) := by decide +kernel
theorem dL_law_782 : decode cL_law 782 = .ok (.iconst 1, 1) := by decide +kernel
theorem dL_law_783 : decode cL_law 783 = .ok (.iadd, 1) := by decide +kernel
theorem dL_law_784 : decode cL_law 784 = .ok (.iaload, 1) := by decide +kernel
theorem dL_law_785 : decode cL_law 785 = .ok (.aload_n 3, 1) := by decide +kernel
theorem dL_law_786 : decode cL_law 786 = .ok (.invokestatic 146, 3) := by decide +kernel
theorem dL_law_789 : decode cL_law 789 = .ok (.istore 5, 2) := by decide +kernel
theorem dL_law_791 : decode cL_law 791 = .ok (.aload_n 2, 1) := by decide +kernel
theorem dL_law_792 : decode cL_law 792 = .ok (.aload_n 0, 1) := by decide +kernel
theorem dL_law_793 : decode cL_law 793 = .ok (.iload 4, 2) := by decide +kernel
theorem dL_law_795 : decode cL_law 795 = .ok (.iconst 1, 1) := by decide +kernel
theorem dL_law_796 : decode cL_law 796 = .ok (.iadd, 1) := by decide +kernel
theorem dL_law_797 : decode cL_law 797 = .ok (.iaload, 1) := by decide +kernel
theorem dL_law_798 : decode cL_law 798 = .ok (.invokevirtual 148, 3) := by decide +kernel
theorem dL_law_801 : decode cL_law 801 = .ok (.istore 6, 2) := by decide +kernel
theorem dL_law_803 : decode cL_law 803 = .ok (.aload_n 2, 1) := by decide +kernel
theorem dL_law_804 : decode cL_law 804 = .ok (.invokevirtual 92, 3) := by decide +kernel
theorem dL_law_807 : decode cL_law 807 = .ok (.iload 5, 2) := by decide +kernel
theorem dL_law_809 : decode cL_law 809 = .ok (.if_icmp .eq 5, 3) := by decide +kernel
theorem dL_law_812 : decode cL_law 812 = .ok (.iconst 0, 1) := by decide +kernel
theorem dL_law_813 : decode cL_law 813 = .ok (.ireturn, 1) := by decide +kernel
theorem dL_law_814 : decode cL_law 814 = .ok (.iload 5, 2) := by decide +kernel
theorem dL_law_816 : decode cL_law 816 = .ok (.ifCond .ne 15, 3) := by decide +kernel
theorem dL_law_819 : decode cL_law 819 = .ok (.aload_n 3, 1) := by decide +kernel
theorem dL_law_820 : decode cL_law 820 = .ok (.iconst 0, 1) := by decide +kernel
theorem dL_law_821 : decode cL_law 821 = .ok (.laload, 1) := by decide +kernel
theorem dL_law_822 : decode cL_law 822 = .ok (.iload 6, 2) := by decide +kernel
theorem dL_law_824 : decode cL_law 824 = .ok (.i2l, 1) := by decide +kernel
theorem dL_law_825 : decode cL_law 825 = .ok (.lcmp, 1) := by decide +kernel
theorem dL_law_826 : decode cL_law 826 = .ok (.ifCond .eq 5, 3) := by decide +kernel
theorem dL_law_829 : decode cL_law 829 = .ok (.iconst 0, 1) := by decide +kernel
theorem dL_law_830 : decode cL_law 830 = .ok (.ireturn, 1) := by decide +kernel
theorem dL_law_831 : decode cL_law 831 = .ok (.goto 778, 3) := by decide +kernel
theorem dL_law_834 : decode cL_law 834 = .ok (.aload_n 1, 1) := by decide +kernel
theorem dL_law_835 : decode cL_law 835 = .ok (.aload_n 0, 1) := by decide +kernel
theorem dL_law_836 : decode cL_law 836 = .ok (.iload 4, 2) := by decide +kernel
theorem dL_law_838 : decode cL_law 838 = .ok (.iconst 1, 1) := by decide +kernel
theorem dL_law_839 : decode cL_law 839 = .ok (.iadd, 1) := by decide +kernel
theorem dL_law_840 : decode cL_law 840 = .ok (.iaload, 1) := by decide +kernel
theorem dL_law_841 : decode cL_law 841 = .ok (.aload_n 3, 1) := by decide +kernel
theorem dL_law_842 : decode cL_law 842 = .ok (.invokestatic 149, 3) := by decide +kernel
theorem dL_law_845 : decode cL_law 845 = .ok (.istore 5, 2) := by decide +kernel
theorem dL_law_847 : decode cL_law 847 = .ok (.aload_n 2, 1) := by decide +kernel
theorem dL_law_848 : decode cL_law 848 = .ok (.aload_n 0, 1) := by decide +kernel
theorem dL_law_849 : decode cL_law 849 = .ok (.iload 4, 2) := by decide +kernel
theorem dL_law_851 : decode cL_law 851 = .ok (.iconst 1, 1) := by decide +kernel
theorem dL_law_852 : decode cL_law 852 = .ok (.iadd, 1) := by decide +kernel
theorem dL_law_853 : decode cL_law 853 = .ok (.iaload, 1) := by decide +kernel
theorem dL_law_854 : decode cL_law 854 = .ok (.invokevirtual 151, 3) := by decide +kernel
theorem dL_law_857 : decode cL_law 857 = .ok (.istore 6, 2) := by decide +kernel
theorem dL_law_859 : decode cL_law 859 = .ok (.aload_n 2, 1) := by decide +kernel
theorem dL_law_860 : decode cL_law 860 = .ok (.invokevirtual 92, 3) := by decide +kernel
theorem dL_law_863 : decode cL_law 863 = .ok (.iload 5, 2) := by decide +kernel
theorem dL_law_865 : decode cL_law 865 = .ok (.if_icmp .eq 5, 3) := by decide +kernel
theorem dL_law_868 : decode cL_law 868 = .ok (.iconst 0, 1) := by decide +kernel
theorem dL_law_869 : decode cL_law 869 = .ok (.ireturn, 1) := by decide +kernel
theorem dL_law_870 : decode cL_law 870 = .ok (.iload 5, 2) := by decide +kernel
theorem dL_law_872 : decode cL_law 872 = .ok (.ifCond .ne 15, 3) := by decide +kernel
theorem dL_law_875 : decode cL_law 875 = .ok (.aload_n 3, 1) := by decide +kernel
theorem dL_law_876 : decode cL_law 876 = .ok (.iconst 0, 1) := by decide +kernel
theorem dL_law_877 : decode cL_law 877 = .ok (.laload, 1) := by decide +kernel
theorem dL_law_878 : decode cL_law 878 = .ok (.iload 6, 2) := by decide +kernel
theorem dL_law_880 : decode cL_law 880 = .ok (.i2l, 1) := by decide +kernel
theorem dL_law_881 : decode cL_law 881 = .ok (.lcmp, 1) := by decide +kernel
theorem dL_law_882 : decode cL_law 882 = .ok (.ifCond .eq 5, 3) := by decide +kernel
theorem dL_law_885 : decode cL_law 885 = .ok (.iconst 0, 1) := by decide +kernel
theorem dL_law_886 : decode cL_law 886 = .ok (.ireturn, 1) := by decide +kernel
theorem dL_law_887 : decode cL_law 887 = .ok (.goto 722, 3) := by decide +kernel
theorem dL_law_890 : decode cL_law 890 = .ok (.aload_n 1, 1) := by decide +kernel
theorem dL_law_891 : decode cL_law 891 = .ok (.aload_n 0, 1) := by decide +kernel
theorem dL_law_892 : decode cL_law 892 = .ok (.iload 4, 2) := by decide +kernel
theorem dL_law_894 : decode cL_law 894 = .ok (.iconst 1, 1) := by decide +kernel
theorem dL_law_895 : decode cL_law 895 = .ok (.iadd, 1) := by decide +kernel
theorem dL_law_896 : decode cL_law 896 = .ok (.iaload, 1) := by decide +kernel
theorem dL_law_897 : decode cL_law 897 = .ok (.aload_n 3, 1) := by decide +kernel
theorem dL_law_898 : decode cL_law 898 = .ok (.invokestatic 152, 3) := by decide +kernel
theorem dL_law_901 : decode cL_law 901 = .ok (.istore 5, 2) := by decide +kernel
theorem dL_law_903 : decode cL_law 903 = .ok (.aload_n 2, 1) := by decide +kernel
theorem dL_law_904 : decode cL_law 904 = .ok (.aload_n 0, 1) := by decide +kernel
theorem dL_law_905 : decode cL_law 905 = .ok (.iload 4, 2) := by decide +kernel
theorem dL_law_907 : decode cL_law 907 = .ok (.iconst 1, 1) := by decide +kernel
theorem dL_law_908 : decode cL_law 908 = .ok (.iadd, 1) := by decide +kernel
theorem dL_law_909 : decode cL_law 909 = .ok (.iaload, 1) := by decide +kernel
theorem dL_law_910 : decode cL_law 910 = .ok (.invokevirtual 154, 3) := by decide +kernel
theorem dL_law_913 : decode cL_law 913 = .ok (.istore 6, 2) := by decide +kernel
theorem dL_law_915 : decode cL_law 915 = .ok (.aload_n 2, 1) := by decide +kernel
theorem dL_law_916 : decode cL_law 916 = .ok (.invokevirtual 92, 3) := by decide +kernel
theorem dL_law_919 : decode cL_law 919 = .ok (.iload 5, 2) := by decide +kernel
theorem dL_law_921 : decode cL_law 921 = .ok (.if_icmp .eq 5, 3) := by decide +kernel
theorem dL_law_924 : decode cL_law 924 = .ok (.iconst 0, 1) := by decide +kernel
theorem dL_law_925 : decode cL_law 925 = .ok (.ireturn, 1) := by decide +kernel
theorem dL_law_926 : decode cL_law 926 = .ok (.iload 5, 2) := by decide +kernel
theorem dL_law_928 : decode cL_law 928 = .ok (.ifCond .ne 15, 3) := by decide +kernel
theorem dL_law_931 : decode cL_law 931 = .ok (.aload_n 3, 1) := by decide +kernel
theorem dL_law_932 : decode cL_law 932 = .ok (.iconst 0, 1) := by decide +kernel
theorem dL_law_933 : decode cL_law 933 = .ok (.laload, 1) := by decide +kernel
theorem dL_law_934 : decode cL_law 934 = .ok (.iload 6, 2) := by decide +kernel
theorem dL_law_936 : decode cL_law 936 = .ok (.i2l, 1) := by decide +kernel
theorem dL_law_937 : decode cL_law 937 = .ok (.lcmp, 1) := by decide +kernel
theorem dL_law_938 : decode cL_law 938 = .ok (.ifCond .eq 5, 3) := by decide +kernel
theorem dL_law_941 : decode cL_law 941 = .ok (.iconst 0, 1) := by decide +kernel
theorem dL_law_942 : decode cL_law 942 = .ok (.ireturn, 1) := by decide +kernel
theorem dL_law_943 : decode cL_law 943 = .ok (.goto 666, 3) := by decide +kernel
theorem dL_law_946 : decode cL_law 946 = .ok (.aload_n 1, 1) := by decide +kernel
theorem dL_law_947 : decode cL_law 947 = .ok (.aload_n 0, 1) := by decide +kernel
theorem dL_law_948 : decode cL_law 948 = .ok (.iload 4, 2) := by decide +kernel
theorem dL_law_950 : decode cL_law 950 = .ok (.iconst 1, 1) := by decide +kernel
theorem dL_law_951 : decode cL_law 951 = .ok (.iadd, 1) := by decide +kernel
theorem dL_law_952 : decode cL_law 952 = .ok (.iaload, 1) := by decide +kernel
theorem dL_law_953 : decode cL_law 953 = .ok (.aload_n 3, 1) := by decide +kernel
theorem dL_law_954 : decode cL_law 954 = .ok (.invokestatic 155, 3) := by decide +kernel
theorem dL_law_957 : decode cL_law 957 = .ok (.istore 5, 2) := by decide +kernel
theorem dL_law_959 : decode cL_law 959 = .ok (.aload_n 2, 1) := by decide +kernel
theorem dL_law_960 : decode cL_law 960 = .ok (.aload_n 0, 1) := by decide +kernel
theorem dL_law_961 : decode cL_law 961 = .ok (.iload 4, 2) := by decide +kernel
theorem dL_law_963 : decode cL_law 963 = .ok (.iconst 1, 1) := by decide +kernel
theorem dL_law_964 : decode cL_law 964 = .ok (.iadd, 1) := by decide +kernel
theorem dL_law_965 : decode cL_law 965 = .ok (.iaload, 1) := by decide +kernel
theorem dL_law_966 : decode cL_law 966 = .ok (.invokevirtual 157, 3) := by decide +kernel
theorem dL_law_969 : decode cL_law 969 = .ok (.istore 6, 2) := by decide +kernel
theorem dL_law_971 : decode cL_law 971 = .ok (.aload_n 2, 1) := by decide +kernel
theorem dL_law_972 : decode cL_law 972 = .ok (.invokevirtual 92, 3) := by decide +kernel
theorem dL_law_975 : decode cL_law 975 = .ok (.iload 5, 2) := by decide +kernel
theorem dL_law_977 : decode cL_law 977 = .ok (.if_icmp .eq 5, 3) := by decide +kernel
theorem dL_law_980 : decode cL_law 980 = .ok (.iconst 0, 1) := by decide +kernel
theorem dL_law_981 : decode cL_law 981 = .ok (.ireturn, 1) := by decide +kernel
theorem dL_law_982 : decode cL_law 982 = .ok (.iload 5, 2) := by decide +kernel
theorem dL_law_984 : decode cL_law 984 = .ok (.ifCond .ne 15, 3) := by decide +kernel
theorem dL_law_987 : decode cL_law 987 = .ok (.aload_n 3, 1) := by decide +kernel
theorem dL_law_988 : decode cL_law 988 = .ok (.iconst 0, 1) := by decide +kernel
theorem dL_law_989 : decode cL_law 989 = .ok (.laload, 1) := by decide +kernel
theorem dL_law_990 : decode cL_law 990 = .ok (.iload 6, 2) := by decide +kernel
theorem dL_law_992 : decode cL_law 992 = .ok (.i2l, 1) := by decide +kernel
theorem dL_law_993 : decode cL_law 993 = .ok (.lcmp, 1) := by decide +kernel
theorem dL_law_994 : decode cL_law 994 = .ok (.ifCond .eq 5, 3) := by decide +kernel
theorem dL_law_997 : decode cL_law 997 = .ok (.iconst 0, 1) := by decide +kernel
theorem dL_law_998 : decode cL_law 998 = .ok (.ireturn, 1) := by decide +kernel
theorem dL_law_999 : decode cL_law 999 = .ok (.goto 610, 3) := by decide +kernel
theorem dL_law_1002 : decode cL_law 1002 = .ok (.aload_n 1, 1) := by decide +kernel
theorem dL_law_1003 : decode cL_law 1003 = .ok (.aload_n 0, 1) := by decide +kernel
theorem dL_law_1004 : decode cL_law 1004 = .ok (.iload 4, 2) := by decide +kernel
theorem dL_law_1006 : decode cL_law 1006 = .ok (.iconst 1, 1) := by decide +kernel
theorem dL_law_1007 : decode cL_law 1007 = .ok (.iadd, 1) := by decide +kernel
theorem dL_law_1008 : decode cL_law 1008 = .ok (.iaload, 1) := by decide +kernel
theorem dL_law_1009 : decode cL_law 1009 = .ok (.aload_n 3, 1) := by decide +kernel
theorem dL_law_1010 : decode cL_law 1010 = .ok (.invokestatic 158, 3) := by decide +kernel
theorem dL_law_1013 : decode cL_law 1013 = .ok (.istore 5, 2) := by decide +kernel
theorem dL_law_1015 : decode cL_law 1015 = .ok (.aload_n 2, 1) := by decide +kernel
theorem dL_law_1016 : decode cL_law 1016 = .ok (.aload_n 0, 1) := by decide +kernel
theorem dL_law_1017 : decode cL_law 1017 = .ok (.iload 4, 2) := by decide +kernel
theorem dL_law_1019 : decode cL_law 1019 = .ok (.iconst 1, 1) := by decide +kernel
theorem dL_law_1020 : decode cL_law 1020 = .ok (.iadd, 1) := by decide +kernel
theorem dL_law_1021 : decode cL_law 1021 = .ok (.iaload, 1) := by decide +kernel
theorem dL_law_1022 : decode cL_law 1022 = .ok (.invokevirtual 160, 3) := by decide +kernel
theorem dL_law_1025 : decode cL_law 1025 = .ok (.istore 6, 2) := by decide +kernel
theorem dL_law_1027 : decode cL_law 1027 = .ok (.aload_n 2, 1) := by decide +kernel
theorem dL_law_1028 : decode cL_law 1028 = .ok (.invokevirtual 92, 3) := by decide +kernel
theorem dL_law_1031 : decode cL_law 1031 = .ok (.iload 5, 2) := by decide +kernel
theorem dL_law_1033 : decode cL_law 1033 = .ok (.if_icmp .eq 5, 3) := by decide +kernel
theorem dL_law_1036 : decode cL_law 1036 = .ok (.iconst 0, 1) := by decide +kernel
theorem dL_law_1037 : decode cL_law 1037 = .ok (.ireturn, 1) := by decide +kernel
theorem dL_law_1038 : decode cL_law 1038 = .ok (.iload 5, 2) := by decide +kernel
theorem dL_law_1040 : decode cL_law 1040 = .ok (.ifCond .ne 15, 3) := by decide +kernel
theorem dL_law_1043 : decode cL_law 1043 = .ok (.aload_n 3, 1) := by decide +kernel
theorem dL_law_1044 : decode cL_law 1044 = .ok (.iconst 0, 1) := by decide +kernel
theorem dL_law_1045 : decode cL_law 1045 = .ok (.laload, 1) := by decide +kernel
theorem dL_law_1046 : decode cL_law 1046 = .ok (.iload 6, 2) := by decide +kernel
theorem dL_law_1048 : decode cL_law 1048 = .ok (.i2l, 1) := by decide +kernel
theorem dL_law_1049 : decode cL_law 1049 = .ok (.lcmp, 1) := by decide +kernel
theorem dL_law_1050 : decode cL_law 1050 = .ok (.ifCond .eq 5, 3) := by decide +kernel
theorem dL_law_1053 : decode cL_law 1053 = .ok (.iconst 0, 1) := by decide +kernel
theorem dL_law_1054 : decode cL_law 1054 = .ok (.ireturn, 1) := by decide +kernel
theorem dL_law_1055 : decode cL_law 1055 = .ok (.goto 554, 3) := by decide +kernel
theorem dL_law_1058 : decode cL_law 1058 = .ok (.aload_n 1, 1) := by decide +kernel
theorem dL_law_1059 : decode cL_law 1059 = .ok (.aload_n 0, 1) := by decide +kernel
theorem dL_law_1060 : decode cL_law 1060 = .ok (.iload 4, 2) := by decide +kernel
theorem dL_law_1062 : decode cL_law 1062 = .ok (.iconst 1, 1) := by decide +kernel
theorem dL_law_1063 : decode cL_law 1063 = .ok (.iadd, 1) := by decide +kernel
theorem dL_law_1064 : decode cL_law 1064 = .ok (.iaload, 1) := by decide +kernel
theorem dL_law_1065 : decode cL_law 1065 = .ok (.aload_n 3, 1) := by decide +kernel
theorem dL_law_1066 : decode cL_law 1066 = .ok (.invokestatic 161, 3) := by decide +kernel
theorem dL_law_1069 : decode cL_law 1069 = .ok (.istore 5, 2) := by decide +kernel
theorem dL_law_1071 : decode cL_law 1071 = .ok (.aload_n 2, 1) := by decide +kernel
theorem dL_law_1072 : decode cL_law 1072 = .ok (.aload_n 0, 1) := by decide +kernel
theorem dL_law_1073 : decode cL_law 1073 = .ok (.iload 4, 2) := by decide +kernel
theorem dL_law_1075 : decode cL_law 1075 = .ok (.iconst 1, 1) := by decide +kernel
theorem dL_law_1076 : decode cL_law 1076 = .ok (.iadd, 1) := by decide +kernel
theorem dL_law_1077 : decode cL_law 1077 = .ok (.iaload, 1) := by decide +kernel
theorem dL_law_1078 : decode cL_law 1078 = .ok (.invokevirtual 163, 3) := by decide +kernel
theorem dL_law_1081 : decode cL_law 1081 = .ok (.istore 6, 2) := by decide +kernel
theorem dL_law_1083 : decode cL_law 1083 = .ok (.aload_n 2, 1) := by decide +kernel
theorem dL_law_1084 : decode cL_law 1084 = .ok (.invokevirtual 92, 3) := by decide +kernel
theorem dL_law_1087 : decode cL_law 1087 = .ok (.iload 5, 2) := by decide +kernel
theorem dL_law_1089 : decode cL_law 1089 = .ok (.if_icmp .eq 5, 3) := by decide +kernel
theorem dL_law_1092 : decode cL_law 1092 = .ok (.iconst 0, 1) := by decide +kernel
theorem dL_law_1093 : decode cL_law 1093 = .ok (.ireturn, 1) := by decide +kernel
theorem dL_law_1094 : decode cL_law 1094 = .ok (.iload 5, 2) := by decide +kernel
theorem dL_law_1096 : decode cL_law 1096 = .ok (.ifCond .ne 15, 3) := by decide +kernel
theorem dL_law_1099 : decode cL_law 1099 = .ok (.aload_n 3, 1) := by decide +kernel
theorem dL_law_1100 : decode cL_law 1100 = .ok (.iconst 0, 1) := by decide +kernel
theorem dL_law_1101 : decode cL_law 1101 = .ok (.laload, 1) := by decide +kernel
theorem dL_law_1102 : decode cL_law 1102 = .ok (.iload 6, 2) := by decide +kernel
theorem dL_law_1104 : decode cL_law 1104 = .ok (.i2l, 1) := by decide +kernel
theorem dL_law_1105 : decode cL_law 1105 = .ok (.lcmp, 1) := by decide +kernel
theorem dL_law_1106 : decode cL_law 1106 = .ok (.ifCond .eq 5, 3) := by decide +kernel
theorem dL_law_1109 : decode cL_law 1109 = .ok (.iconst 0, 1) := by decide +kernel
theorem dL_law_1110 : decode cL_law 1110 = .ok (.ireturn, 1) := by decide +kernel
theorem dL_law_1111 : decode cL_law 1111 = .ok (.goto 498, 3) := by decide +kernel
theorem dL_law_1114 : decode cL_law 1114 = .ok (.aload_n 1, 1) := by decide +kernel
theorem dL_law_1115 : decode cL_law 1115 = .ok (.aload_n 0, 1) := by decide +kernel
theorem dL_law_1116 : decode cL_law 1116 = .ok (.iload 4, 2) := by decide +kernel
theorem dL_law_1118 : decode cL_law 1118 = .ok (.iconst 1, 1) := by decide +kernel
theorem dL_law_1119 : decode cL_law 1119 = .ok (.iadd, 1) := by decide +kernel
theorem dL_law_1120 : decode cL_law 1120 = .ok (.iaload, 1) := by decide +kernel
theorem dL_law_1121 : decode cL_law 1121 = .ok (.aload_n 3, 1) := by decide +kernel
theorem dL_law_1122 : decode cL_law 1122 = .ok (.invokestatic 164, 3) := by decide +kernel
theorem dL_law_1125 : decode cL_law 1125 = .ok (.istore 5, 2) := by decide +kernel
theorem dL_law_1127 : decode cL_law 1127 = .ok (.aload_n 2, 1) := by decide +kernel
theorem dL_law_1128 : decode cL_law 1128 = .ok (.aload_n 0, 1) := by decide +kernel
theorem dL_law_1129 : decode cL_law 1129 = .ok (.iload 4, 2) := by decide +kernel
theorem dL_law_1131 : decode cL_law 1131 = .ok (.iconst 1, 1) := by decide +kernel
theorem dL_law_1132 : decode cL_law 1132 = .ok (.iadd, 1) := by decide +kernel
theorem dL_law_1133 : decode cL_law 1133 = .ok (.iaload, 1) := by decide +kernel
theorem dL_law_1134 : decode cL_law 1134 = .ok (.invokevirtual 166, 3) := by decide +kernel
theorem dL_law_1137 : decode cL_law 1137 = .ok (.istore 6, 2) := by decide +kernel
theorem dL_law_1139 : decode cL_law 1139 = .ok (.aload_n 2, 1) := by decide +kernel
theorem dL_law_1140 : decode cL_law 1140 = .ok (.invokevirtual 92, 3) := by decide +kernel
theorem dL_law_1143 : decode cL_law 1143 = .ok (.iload 5, 2) := by decide +kernel
theorem dL_law_1145 : decode cL_law 1145 = .ok (.if_icmp .eq 5, 3) := by decide +kernel
theorem dL_law_1148 : decode cL_law 1148 = .ok (.iconst 0, 1) := by decide +kernel
theorem dL_law_1149 : decode cL_law 1149 = .ok (.ireturn, 1) := by decide +kernel
theorem dL_law_1150 : decode cL_law 1150 = .ok (.iload 5, 2) := by decide +kernel
theorem dL_law_1152 : decode cL_law 1152 = .ok (.ifCond .ne 15, 3) := by decide +kernel
theorem dL_law_1155 : decode cL_law 1155 = .ok (.aload_n 3, 1) := by decide +kernel
theorem dL_law_1156 : decode cL_law 1156 = .ok (.iconst 0, 1) := by decide +kernel
theorem dL_law_1157 : decode cL_law 1157 = .ok (.laload, 1) := by decide +kernel
theorem dL_law_1158 : decode cL_law 1158 = .ok (.iload 6, 2) := by decide +kernel
theorem dL_law_1160 : decode cL_law 1160 = .ok (.i2l, 1) := by decide +kernel
theorem dL_law_1161 : decode cL_law 1161 = .ok (.lcmp, 1) := by decide +kernel
theorem dL_law_1162 : decode cL_law 1162 = .ok (.ifCond .eq 5, 3) := by decide +kernel
theorem dL_law_1165 : decode cL_law 1165 = .ok (.iconst 0, 1) := by decide +kernel
theorem dL_law_1166 : decode cL_law 1166 = .ok (.ireturn, 1) := by decide +kernel
theorem dL_law_1167 : decode cL_law 1167 = .ok (.goto 442, 3) := by decide +kernel
theorem dL_law_1170 : decode cL_law 1170 = .ok (.aload_n 1, 1) := by decide +kernel
theorem dL_law_1171 : decode cL_law 1171 = .ok (.aload_n 0, 1) := by decide +kernel
theorem dL_law_1172 : decode cL_law 1172 = .ok (.iload 4, 2) := by decide +kernel
theorem dL_law_1174 : decode cL_law 1174 = .ok (.iconst 1, 1) := by decide +kernel
theorem dL_law_1175 : decode cL_law 1175 = .ok (.iadd, 1) := by decide +kernel
theorem dL_law_1176 : decode cL_law 1176 = .ok (.iaload, 1) := by decide +kernel
theorem dL_law_1177 : decode cL_law 1177 = .ok (.aload_n 3, 1) := by decide +kernel
theorem dL_law_1178 : decode cL_law 1178 = .ok (.invokestatic 167, 3) := by decide +kernel
theorem dL_law_1181 : decode cL_law 1181 = .ok (.istore 5, 2) := by decide +kernel
theorem dL_law_1183 : decode cL_law 1183 = .ok (.aload_n 2, 1) := by decide +kernel
theorem dL_law_1184 : decode cL_law 1184 = .ok (.aload_n 0, 1) := by decide +kernel
theorem dL_law_1185 : decode cL_law 1185 = .ok (.iload 4, 2) := by decide +kernel
theorem dL_law_1187 : decode cL_law 1187 = .ok (.iconst 1, 1) := by decide +kernel
theorem dL_law_1188 : decode cL_law 1188 = .ok (.iadd, 1) := by decide +kernel
theorem dL_law_1189 : decode cL_law 1189 = .ok (.iaload, 1) := by decide +kernel
theorem dL_law_1190 : decode cL_law 1190 = .ok (.invokevirtual 169, 3) := by decide +kernel
theorem dL_law_1193 : decode cL_law 1193 = .ok (.istore 6, 2) := by decide +kernel
theorem dL_law_1195 : decode cL_law 1195 = .ok (.aload_n 2, 1) := by decide +kernel
theorem dL_law_1196 : decode cL_law 1196 = .ok (.invokevirtual 92, 3) := by decide +kernel
theorem dL_law_1199 : decode cL_law 1199 = .ok (.iload 5, 2) := by decide +kernel
theorem dL_law_1201 : decode cL_law 1201 = .ok (.if_icmp .eq 5, 3) := by decide +kernel
theorem dL_law_1204 : decode cL_law 1204 = .ok (.iconst 0, 1) := by decide +kernel
theorem dL_law_1205 : decode cL_law 1205 = .ok (.ireturn, 1) := by decide +kernel
theorem dL_law_1206 : decode cL_law 1206 = .ok (.iload 5, 2) := by decide +kernel
theorem dL_law_1208 : decode cL_law 1208 = .ok (.ifCond .ne 15, 3) := by decide +kernel
theorem dL_law_1211 : decode cL_law 1211 = .ok (.aload_n 3, 1) := by decide +kernel
theorem dL_law_1212 : decode cL_law 1212 = .ok (.iconst 0, 1) := by decide +kernel
theorem dL_law_1213 : decode cL_law 1213 = .ok (.laload, 1) := by decide +kernel
theorem dL_law_1214 : decode cL_law 1214 = .ok (.iload 6, 2) := by decide +kernel
theorem dL_law_1216 : decode cL_law 1216 = .ok (.i2l, 1) := by decide +kernel
theorem dL_law_1217 : decode cL_law 1217 = .ok (.lcmp, 1) := by decide +kernel
theorem dL_law_1218 : decode cL_law 1218 = .ok (.ifCond .eq 5, 3) := by decide +kernel
theorem dL_law_1221 : decode cL_law 1221 = .ok (.iconst 0, 1) := by decide +kernel
theorem dL_law_1222 : decode cL_law 1222 = .ok (.ireturn, 1) := by decide +kernel
theorem dL_law_1223 : decode cL_law 1223 = .ok (.goto 386, 3) := by decide +kernel
theorem dL_law_1226 : decode cL_law 1226 = .ok (.aload_n 1, 1) := by decide +kernel
theorem dL_law_1227 : decode cL_law 1227 = .ok (.aload_n 0, 1) := by decide +kernel
theorem dL_law_1228 : decode cL_law 1228 = .ok (.iload 4, 2) := by decide +kernel
theorem dL_law_1230 : decode cL_law 1230 = .ok (.iconst 1, 1) := by decide +kernel
theorem dL_law_1231 : decode cL_law 1231 = .ok (.iadd, 1) := by decide +kernel
theorem dL_law_1232 : decode cL_law 1232 = .ok (.iaload, 1) := by decide +kernel
theorem dL_law_1233 : decode cL_law 1233 = .ok (.aload_n 0, 1) := by decide +kernel
theorem dL_law_1234 : decode cL_law 1234 = .ok (.iload 4, 2) := by decide +kernel
theorem dL_law_1236 : decode cL_law 1236 = .ok (.iconst 2, 1) := by decide +kernel
theorem dL_law_1237 : decode cL_law 1237 = .ok (.iadd, 1) := by decide +kernel
theorem dL_law_1238 : decode cL_law 1238 = .ok (.iaload, 1) := by decide +kernel
theorem dL_law_1239 : decode cL_law 1239 = .ok (.aload_n 3, 1) := by decide +kernel
theorem dL_law_1240 : decode cL_law 1240 = .ok (.invokestatic 170, 3) := by decide +kernel
theorem dL_law_1243 : decode cL_law 1243 = .ok (.istore 5, 2) := by decide +kernel
theorem dL_law_1245 : decode cL_law 1245 = .ok (.aload_n 2, 1) := by decide +kernel
theorem dL_law_1246 : decode cL_law 1246 = .ok (.aload_n 0, 1) := by decide +kernel
theorem dL_law_1247 : decode cL_law 1247 = .ok (.iload 4, 2) := by decide +kernel
theorem dL_law_1249 : decode cL_law 1249 = .ok (.iconst 1, 1) := by decide +kernel
theorem dL_law_1250 : decode cL_law 1250 = .ok (.iadd, 1) := by decide +kernel
theorem dL_law_1251 : decode cL_law 1251 = .ok (.iaload, 1) := by decide +kernel
theorem dL_law_1252 : decode cL_law 1252 = .ok (.aload_n 0, 1) := by decide +kernel
theorem dL_law_1253 : decode cL_law 1253 = .ok (.iload 4, 2) := by decide +kernel
theorem dL_law_1255 : decode cL_law 1255 = .ok (.iconst 2, 1) := by decide +kernel
theorem dL_law_1256 : decode cL_law 1256 = .ok (.iadd, 1) := by decide +kernel
theorem dL_law_1257 : decode cL_law 1257 = .ok (.iaload, 1) := by decide +kernel
theorem dL_law_1258 : decode cL_law 1258 = .ok (.invokevirtual 172, 3) := by decide +kernel
theorem dL_law_1261 : decode cL_law 1261 = .ok (.istore 6, 2) := by decide +kernel
theorem dL_law_1263 : decode cL_law 1263 = .ok (.aload_n 2, 1) := by decide +kernel
theorem dL_law_1264 : decode cL_law 1264 = .ok (.invokevirtual 92, 3) := by decide +kernel
theorem dL_law_1267 : decode cL_law 1267 = .ok (.iload 5, 2) := by decide +kernel
theorem dL_law_1269 : decode cL_law 1269 = .ok (.if_icmp .eq 5, 3) := by decide +kernel
theorem dL_law_1272 : decode cL_law 1272 = .ok (.iconst 0, 1) := by decide +kernel
theorem dL_law_1273 : decode cL_law 1273 = .ok (.ireturn, 1) := by decide +kernel
theorem dL_law_1274 : decode cL_law 1274 = .ok (.iload 5, 2) := by decide +kernel
theorem dL_law_1276 : decode cL_law 1276 = .ok (.ifCond .ne 15, 3) := by decide +kernel
theorem dL_law_1279 : decode cL_law 1279 = .ok (.aload_n 3, 1) := by decide +kernel
theorem dL_law_1280 : decode cL_law 1280 = .ok (.iconst 0, 1) := by decide +kernel
theorem dL_law_1281 : decode cL_law 1281 = .ok (.laload, 1) := by decide +kernel
theorem dL_law_1282 : decode cL_law 1282 = .ok (.iload 6, 2) := by decide +kernel
theorem dL_law_1284 : decode cL_law 1284 = .ok (.i2l, 1) := by decide +kernel
theorem dL_law_1285 : decode cL_law 1285 = .ok (.lcmp, 1) := by decide +kernel
theorem dL_law_1286 : decode cL_law 1286 = .ok (.ifCond .eq 5, 3) := by decide +kernel
theorem dL_law_1289 : decode cL_law 1289 = .ok (.iconst 0, 1) := by decide +kernel
theorem dL_law_1290 : decode cL_law 1290 = .ok (.ireturn, 1) := by decide +kernel
theorem dL_law_1291 : decode cL_law 1291 = .ok (.goto 318, 3) := by decide +kernel
theorem dL_law_1294 : decode cL_law 1294 = .ok (.aload_n 1, 1) := by decide +kernel
theorem dL_law_1295 : decode cL_law 1295 = .ok (.aload_n 0, 1) := by decide +kernel
theorem dL_law_1296 : decode cL_law 1296 = .ok (.iload 4, 2) := by decide +kernel
theorem dL_law_1298 : decode cL_law 1298 = .ok (.iconst 1, 1) := by decide +kernel
theorem dL_law_1299 : decode cL_law 1299 = .ok (.iadd, 1) := by decide +kernel
theorem dL_law_1300 : decode cL_law 1300 = .ok (.iaload, 1) := by decide +kernel
theorem dL_law_1301 : decode cL_law 1301 = .ok (.aload_n 0, 1) := by decide +kernel
theorem dL_law_1302 : decode cL_law 1302 = .ok (.iload 4, 2) := by decide +kernel
theorem dL_law_1304 : decode cL_law 1304 = .ok (.iconst 2, 1) := by decide +kernel
theorem dL_law_1305 : decode cL_law 1305 = .ok (.iadd, 1) := by decide +kernel
theorem dL_law_1306 : decode cL_law 1306 = .ok (.iaload, 1) := by decide +kernel
theorem dL_law_1307 : decode cL_law 1307 = .ok (.aload_n 0, 1) := by decide +kernel
theorem dL_law_1308 : decode cL_law 1308 = .ok (.iload 4, 2) := by decide +kernel
theorem dL_law_1310 : decode cL_law 1310 = .ok (.iconst 3, 1) := by decide +kernel
theorem dL_law_1311 : decode cL_law 1311 = .ok (.iadd, 1) := by decide +kernel
theorem dL_law_1312 : decode cL_law 1312 = .ok (.iaload, 1) := by decide +kernel
theorem dL_law_1313 : decode cL_law 1313 = .ok (.aload_n 3, 1) := by decide +kernel
theorem dL_law_1314 : decode cL_law 1314 = .ok (.invokestatic 173, 3) := by decide +kernel
theorem dL_law_1317 : decode cL_law 1317 = .ok (.istore 5, 2) := by decide +kernel
theorem dL_law_1319 : decode cL_law 1319 = .ok (.aload_n 2, 1) := by decide +kernel
theorem dL_law_1320 : decode cL_law 1320 = .ok (.aload_n 0, 1) := by decide +kernel
theorem dL_law_1321 : decode cL_law 1321 = .ok (.iload 4, 2) := by decide +kernel
theorem dL_law_1323 : decode cL_law 1323 = .ok (.iconst 1, 1) := by decide +kernel
theorem dL_law_1324 : decode cL_law 1324 = .ok (.iadd, 1) := by decide +kernel
theorem dL_law_1325 : decode cL_law 1325 = .ok (.iaload, 1) := by decide +kernel
theorem dL_law_1326 : decode cL_law 1326 = .ok (.aload_n 0, 1) := by decide +kernel
theorem dL_law_1327 : decode cL_law 1327 = .ok (.iload 4, 2) := by decide +kernel
theorem dL_law_1329 : decode cL_law 1329 = .ok (.iconst 2, 1) := by decide +kernel
theorem dL_law_1330 : decode cL_law 1330 = .ok (.iadd, 1) := by decide +kernel
theorem dL_law_1331 : decode cL_law 1331 = .ok (.iaload, 1) := by decide +kernel
theorem dL_law_1332 : decode cL_law 1332 = .ok (.aload_n 0, 1) := by decide +kernel
theorem dL_law_1333 : decode cL_law 1333 = .ok (.iload 4, 2) := by decide +kernel
theorem dL_law_1335 : decode cL_law 1335 = .ok (.iconst 3, 1) := by decide +kernel
theorem dL_law_1336 : decode cL_law 1336 = .ok (.iadd, 1) := by decide +kernel
theorem dL_law_1337 : decode cL_law 1337 = .ok (.iaload, 1) := by decide +kernel
theorem dL_law_1338 : decode cL_law 1338 = .ok (.invokevirtual 176, 3) := by decide +kernel
theorem dL_law_1341 : decode cL_law 1341 = .ok (.istore 6, 2) := by decide +kernel
theorem dL_law_1343 : decode cL_law 1343 = .ok (.aload_n 2, 1) := by decide +kernel
theorem dL_law_1344 : decode cL_law 1344 = .ok (.invokevirtual 92, 3) := by decide +kernel
theorem dL_law_1347 : decode cL_law 1347 = .ok (.iload 5, 2) := by decide +kernel
theorem dL_law_1349 : decode cL_law 1349 = .ok (.if_icmp .eq 5, 3) := by decide +kernel
theorem dL_law_1352 : decode cL_law 1352 = .ok (.iconst 0, 1) := by decide +kernel
theorem dL_law_1353 : decode cL_law 1353 = .ok (.ireturn, 1) := by decide +kernel
theorem dL_law_1354 : decode cL_law 1354 = .ok (.iload 5, 2) := by decide +kernel
theorem dL_law_1356 : decode cL_law 1356 = .ok (.ifCond .ne 15, 3) := by decide +kernel
theorem dL_law_1359 : decode cL_law 1359 = .ok (.aload_n 3, 1) := by decide +kernel
theorem dL_law_1360 : decode cL_law 1360 = .ok (.iconst 0, 1) := by decide +kernel
theorem dL_law_1361 : decode cL_law 1361 = .ok (.laload, 1) := by decide +kernel
theorem dL_law_1362 : decode cL_law 1362 = .ok (.iload 6, 2) := by decide +kernel
theorem dL_law_1364 : decode cL_law 1364 = .ok (.i2l, 1) := by decide +kernel
theorem dL_law_1365 : decode cL_law 1365 = .ok (.lcmp, 1) := by decide +kernel
theorem dL_law_1366 : decode cL_law 1366 = .ok (.ifCond .eq 5, 3) := by decide +kernel
theorem dL_law_1369 : decode cL_law 1369 = .ok (.iconst 0, 1) := by decide +kernel
theorem dL_law_1370 : decode cL_law 1370 = .ok (.ireturn, 1) := by decide +kernel
theorem dL_law_1371 : decode cL_law 1371 = .ok (.goto 238, 3) := by decide +kernel
theorem dL_law_1374 : decode cL_law 1374 = .ok (.aload_n 1, 1) := by decide +kernel
theorem dL_law_1375 : decode cL_law 1375 = .ok (.aload_n 0, 1) := by decide +kernel
theorem dL_law_1376 : decode cL_law 1376 = .ok (.iload 4, 2) := by decide +kernel
theorem dL_law_1378 : decode cL_law 1378 = .ok (.iconst 1, 1) := by decide +kernel
theorem dL_law_1379 : decode cL_law 1379 = .ok (.iadd, 1) := by decide +kernel
theorem dL_law_1380 : decode cL_law 1380 = .ok (.iaload, 1) := by decide +kernel
theorem dL_law_1381 : decode cL_law 1381 = .ok (.aload_n 0, 1) := by decide +kernel
theorem dL_law_1382 : decode cL_law 1382 = .ok (.iload 4, 2) := by decide +kernel
theorem dL_law_1384 : decode cL_law 1384 = .ok (.iconst 2, 1) := by decide +kernel
theorem dL_law_1385 : decode cL_law 1385 = .ok (.iadd, 1) := by decide +kernel
theorem dL_law_1386 : decode cL_law 1386 = .ok (.iaload, 1) := by decide +kernel
theorem dL_law_1387 : decode cL_law 1387 = .ok (.aload_n 3, 1) := by decide +kernel
theorem dL_law_1388 : decode cL_law 1388 = .ok (.invokestatic 177, 3) := by decide +kernel
theorem dL_law_1391 : decode cL_law 1391 = .ok (.istore 5, 2) := by decide +kernel
theorem dL_law_1393 : decode cL_law 1393 = .ok (.aload_n 2, 1) := by decide +kernel
theorem dL_law_1394 : decode cL_law 1394 = .ok (.aload_n 0, 1) := by decide +kernel
theorem dL_law_1395 : decode cL_law 1395 = .ok (.iload 4, 2) := by decide +kernel
theorem dL_law_1397 : decode cL_law 1397 = .ok (.iconst 1, 1) := by decide +kernel
theorem dL_law_1398 : decode cL_law 1398 = .ok (.iadd, 1) := by decide +kernel
theorem dL_law_1399 : decode cL_law 1399 = .ok (.iaload, 1) := by decide +kernel
theorem dL_law_1400 : decode cL_law 1400 = .ok (.aload_n 0, 1) := by decide +kernel
theorem dL_law_1401 : decode cL_law 1401 = .ok (.iload 4, 2) := by decide +kernel
theorem dL_law_1403 : decode cL_law 1403 = .ok (.iconst 2, 1) := by decide +kernel
theorem dL_law_1404 : decode cL_law 1404 = .ok (.iadd, 1) := by decide +kernel
theorem dL_law_1405 : decode cL_law 1405 = .ok (.iaload, 1) := by decide +kernel
theorem dL_law_1406 : decode cL_law 1406 = .ok (.invokevirtual 179, 3) := by decide +kernel
theorem dL_law_1409 : decode cL_law 1409 = .ok (.istore 6, 2) := by decide +kernel
theorem dL_law_1411 : decode cL_law 1411 = .ok (.aload_n 2, 1) := by decide +kernel
theorem dL_law_1412 : decode cL_law 1412 = .ok (.invokevirtual 92, 3) := by decide +kernel
theorem dL_law_1415 : decode cL_law 1415 = .ok (.iload 5, 2) := by decide +kernel
theorem dL_law_1417 : decode cL_law 1417 = .ok (.if_icmp .eq 5, 3) := by decide +kernel
theorem dL_law_1420 : decode cL_law 1420 = .ok (.iconst 0, 1) := by decide +kernel
theorem dL_law_1421 : decode cL_law 1421 = .ok (.ireturn, 1) := by decide +kernel
theorem dL_law_1422 : decode cL_law 1422 = .ok (.iload 5, 2) := by decide +kernel
theorem dL_law_1424 : decode cL_law 1424 = .ok (.ifCond .ne 15, 3) := by decide +kernel
theorem dL_law_1427 : decode cL_law 1427 = .ok (.aload_n 3, 1) := by decide +kernel
theorem dL_law_1428 : decode cL_law 1428 = .ok (.iconst 0, 1) := by decide +kernel
theorem dL_law_1429 : decode cL_law 1429 = .ok (.laload, 1) := by decide +kernel
theorem dL_law_1430 : decode cL_law 1430 = .ok (.iload 6, 2) := by decide +kernel
theorem dL_law_1432 : decode cL_law 1432 = .ok (.i2l, 1) := by decide +kernel
theorem dL_law_1433 : decode cL_law 1433 = .ok (.lcmp, 1) := by decide +kernel
theorem dL_law_1434 : decode cL_law 1434 = .ok (.ifCond .eq 5, 3) := by decide +kernel
theorem dL_law_1437 : decode cL_law 1437 = .ok (.iconst 0, 1) := by decide +kernel
theorem dL_law_1438 : decode cL_law 1438 = .ok (.ireturn, 1) := by decide +kernel
theorem dL_law_1439 : decode cL_law 1439 = .ok (.goto 170, 3) := by decide +kernel
theorem dL_law_1442 : decode cL_law 1442 = .ok (.aload_n 1, 1) := by decide +kernel
theorem dL_law_1443 : decode cL_law 1443 = .ok (.aload_n 0, 1) := by decide +kernel
theorem dL_law_1444 : decode cL_law 1444 = .ok (.iload 4, 2) := by decide +kernel
theorem dL_law_1446 : decode cL_law 1446 = .ok (.iconst 1, 1) := by decide +kernel
theorem dL_law_1447 : decode cL_law 1447 = .ok (.iadd, 1) := by decide +kernel
theorem dL_law_1448 : decode cL_law 1448 = .ok (.iaload, 1) := by decide +kernel
theorem dL_law_1449 : decode cL_law 1449 = .ok (.aload_n 3, 1) := by decide +kernel
theorem dL_law_1450 : decode cL_law 1450 = .ok (.invokestatic 180, 3) := by decide +kernel
theorem dL_law_1453 : decode cL_law 1453 = .ok (.istore 5, 2) := by decide +kernel
theorem dL_law_1455 : decode cL_law 1455 = .ok (.aload_n 2, 1) := by decide +kernel
theorem dL_law_1456 : decode cL_law 1456 = .ok (.aload_n 0, 1) := by decide +kernel
theorem dL_law_1457 : decode cL_law 1457 = .ok (.iload 4, 2) := by decide +kernel
theorem dL_law_1459 : decode cL_law 1459 = .ok (.iconst 1, 1) := by decide +kernel
theorem dL_law_1460 : decode cL_law 1460 = .ok (.iadd, 1) := by decide +kernel
theorem dL_law_1461 : decode cL_law 1461 = .ok (.iaload, 1) := by decide +kernel
theorem dL_law_1462 : decode cL_law 1462 = .ok (.invokevirtual 182, 3) := by decide +kernel
theorem dL_law_1465 : decode cL_law 1465 = .ok (.istore 6, 2) := by decide +kernel
theorem dL_law_1467 : decode cL_law 1467 = .ok (.aload_n 2, 1) := by decide +kernel
theorem dL_law_1468 : decode cL_law 1468 = .ok (.invokevirtual 92, 3) := by decide +kernel
theorem dL_law_1471 : decode cL_law 1471 = .ok (.iload 5, 2) := by decide +kernel
theorem dL_law_1473 : decode cL_law 1473 = .ok (.if_icmp .eq 5, 3) := by decide +kernel
theorem dL_law_1476 : decode cL_law 1476 = .ok (.iconst 0, 1) := by decide +kernel
theorem dL_law_1477 : decode cL_law 1477 = .ok (.ireturn, 1) := by decide +kernel
theorem dL_law_1478 : decode cL_law 1478 = .ok (.iload 5, 2) := by decide +kernel
theorem dL_law_1480 : decode cL_law 1480 = .ok (.ifCond .ne 15, 3) := by decide +kernel
theorem dL_law_1483 : decode cL_law 1483 = .ok (.aload_n 3, 1) := by decide +kernel
theorem dL_law_1484 : decode cL_law 1484 = .ok (.iconst 0, 1) := by decide +kernel
theorem dL_law_1485 : decode cL_law 1485 = .ok (.laload, 1) := by decide +kernel
theorem dL_law_1486 : decode cL_law 1486 = .ok (.iload 6, 2) := by decide +kernel
theorem dL_law_1488 : decode cL_law 1488 = .ok (.i2l, 1) := by decide +kernel
theorem dL_law_1489 : decode cL_law 1489 = .ok (.lcmp, 1) := by decide +kernel
theorem dL_law_1490 : decode cL_law 1490 = .ok (.ifCond .eq 5, 3) := by decide +kernel
theorem dL_law_1493 : decode cL_law 1493 = .ok (.iconst 0, 1) := by decide +kernel
theorem dL_law_1494 : decode cL_law 1494 = .ok (.ireturn, 1) := by decide +kernel
theorem dL_law_1495 : decode cL_law 1495 = .ok (.goto 114, 3) := by decide +kernel
theorem dL_law_1498 : decode cL_law 1498 = .ok (.aload_n 1, 1) := by decide +kernel
theorem dL_law_1499 : decode cL_law 1499 = .ok (.aload_n 0, 1) := by decide +kernel
theorem dL_law_1500 : decode cL_law 1500 = .ok (.iload 4, 2) := by decide +kernel
theorem dL_law_1502 : decode cL_law 1502 = .ok (.iconst 1, 1) := by decide +kernel
theorem dL_law_1503 : decode cL_law 1503 = .ok (.iadd, 1) := by decide +kernel
theorem dL_law_1504 : decode cL_law 1504 = .ok (.iaload, 1) := by decide +kernel
theorem dL_law_1505 : decode cL_law 1505 = .ok (.aload_n 3, 1) := by decide +kernel
theorem dL_law_1506 : decode cL_law 1506 = .ok (.invokestatic 183, 3) := by decide +kernel
theorem dL_law_1509 : decode cL_law 1509 = .ok (.istore 5, 2) := by decide +kernel
theorem dL_law_1511 : decode cL_law 1511 = .ok (.aload_n 2, 1) := by decide +kernel
theorem dL_law_1512 : decode cL_law 1512 = .ok (.aload_n 0, 1) := by decide +kernel
theorem dL_law_1513 : decode cL_law 1513 = .ok (.iload 4, 2) := by decide +kernel
theorem dL_law_1515 : decode cL_law 1515 = .ok (.iconst 1, 1) := by decide +kernel
theorem dL_law_1516 : decode cL_law 1516 = .ok (.iadd, 1) := by decide +kernel
theorem dL_law_1517 : decode cL_law 1517 = .ok (.iaload, 1) := by decide +kernel
theorem dL_law_1518 : decode cL_law 1518 = .ok (.invokevirtual 185, 3) := by decide +kernel
theorem dL_law_1521 : decode cL_law 1521 = .ok (.istore 6, 2) := by decide +kernel
theorem dL_law_1523 : decode cL_law 1523 = .ok (.aload_n 2, 1) := by decide +kernel
theorem dL_law_1524 : decode cL_law 1524 = .ok (.invokevirtual 92, 3) := by decide +kernel
theorem dL_law_1527 : decode cL_law 1527 = .ok (.iload 5, 2) := by decide +kernel
theorem dL_law_1529 : decode cL_law 1529 = .ok (.if_icmp .eq 5, 3) := by decide +kernel
theorem dL_law_1532 : decode cL_law 1532 = .ok (.iconst 0, 1) := by decide +kernel
theorem dL_law_1533 : decode cL_law 1533 = .ok (.ireturn, 1) := by decide +kernel
theorem dL_law_1534 : decode cL_law 1534 = .ok (.iload 5, 2) := by decide +kernel
theorem dL_law_1536 : decode cL_law 1536 = .ok (.ifCond .ne 15, 3) := by decide +kernel
theorem dL_law_1539 : decode cL_law 1539 = .ok (.aload_n 3, 1) := by decide +kernel
theorem dL_law_1540 : decode cL_law 1540 = .ok (.iconst 0, 1) := by decide +kernel
theorem dL_law_1541 : decode cL_law 1541 = .ok (.laload, 1) := by decide +kernel
theorem dL_law_1542 : decode cL_law 1542 = .ok (.iload 6, 2) := by decide +kernel
theorem dL_law_1544 : decode cL_law 1544 = .ok (.i2l, 1) := by decide +kernel
theorem dL_law_1545 : decode cL_law 1545 = .ok (.lcmp, 1) := by decide +kernel
theorem dL_law_1546 : decode cL_law 1546 = .ok (.ifCond .eq 5, 3) := by decide +kernel
theorem dL_law_1549 : decode cL_law 1549 = .ok (.iconst 0, 1) := by decide +kernel
theorem dL_law_1550 : decode cL_law 1550 = .ok (.ireturn, 1) := by decide +kernel
theorem dL_law_1551 : decode cL_law 1551 = .ok (.goto 58, 3) := by decide +kernel
theorem dL_law_1554 : decode cL_law 1554 = .ok (.aload_n 1, 1) := by decide +kernel
theorem dL_law_1555 : decode cL_law 1555 = .ok (.invokevirtual 186, 3) := by decide +kernel
theorem dL_law_1558 : decode cL_law 1558 = .ok (.dstore 5, 2) := by decide +kernel
theorem dL_law_1560 : decode cL_law 1560 = .ok (.aload_n 2, 1) := by decide +kernel
theorem dL_law_1561 : decode cL_law 1561 = .ok (.invokevirtual 190, 3) := by decide +kernel
theorem dL_law_1564 : decode cL_law 1564 = .ok (.dstore 7, 2) := by decide +kernel
theorem dL_law_1566 : decode cL_law 1566 = .ok (.dload 5, 2) := by decide +kernel
theorem dL_law_1568 : decode cL_law 1568 = .ok (.dload 7, 2) := by decide +kernel
theorem dL_law_1570 : decode cL_law 1570 = .ok (.dcmp .l, 1) := by decide +kernel
theorem dL_law_1571 : decode cL_law 1571 = .ok (.ifCond .eq 21, 3) := by decide +kernel
theorem dL_law_1574 : decode cL_law 1574 = .ok (.dload 5, 2) := by decide +kernel
theorem dL_law_1576 : decode cL_law 1576 = .ok (.dload 5, 2) := by decide +kernel
theorem dL_law_1578 : decode cL_law 1578 = .ok (.dcmp .l, 1) := by decide +kernel
theorem dL_law_1579 : decode cL_law 1579 = .ok (.ifCond .eq 11, 3) := by decide +kernel
theorem dL_law_1582 : decode cL_law 1582 = .ok (.dload 7, 2) := by decide +kernel
theorem dL_law_1584 : decode cL_law 1584 = .ok (.dload 7, 2) := by decide +kernel
theorem dL_law_1586 : decode cL_law 1586 = .ok (.dcmp .l, 1) := by decide +kernel
theorem dL_law_1587 : decode cL_law 1587 = .ok (.ifCond .ne 5, 3) := by decide +kernel
theorem dL_law_1590 : decode cL_law 1590 = .ok (.iconst 0, 1) := by decide +kernel
theorem dL_law_1591 : decode cL_law 1591 = .ok (.ireturn, 1) := by decide +kernel
theorem dL_law_1592 : decode cL_law 1592 = .ok (.goto 17, 3) := by decide +kernel
theorem dL_law_1595 : decode cL_law 1595 = .ok (.aload_n 1, 1) := by decide +kernel
theorem dL_law_1596 : decode cL_law 1596 = .ok (.invokevirtual 191, 3) := by decide +kernel
theorem dL_law_1599 : decode cL_law 1599 = .ok (.aload_n 2, 1) := by decide +kernel
theorem dL_law_1600 : decode cL_law 1600 = .ok (.invokevirtual 195, 3) := by decide +kernel
theorem dL_law_1603 : decode cL_law 1603 = .ok (.lcmp, 1) := by decide +kernel
theorem dL_law_1604 : decode cL_law 1604 = .ok (.ifCond .eq 5, 3) := by decide +kernel
theorem dL_law_1607 : decode cL_law 1607 = .ok (.iconst 0, 1) := by decide +kernel
theorem dL_law_1608 : decode cL_law 1608 = .ok (.ireturn, 1) := by decide +kernel
theorem dL_law_1609 : decode cL_law 1609 = .ok (.iinc 4 4, 3) := by decide +kernel
theorem dL_law_1612 : decode cL_law 1612 = .ok (.goto (-1589), 3) := by decide +kernel
theorem dL_law_1615 : decode cL_law 1615 = .ok (.iconst 1, 1) := by decide +kernel
theorem dL_law_1616 : decode cL_law 1616 = .ok (.ireturn, 1) := by decide +kernel
end
section
/-- the words that stay good at every later state -/
def tw_ok : Cond → Bool
  | .fieldLinkNest .. => true
  | .methodLinkNest .. => true
  | .castable .. => true
  | .declares .. => true
  | .arrayOver (.object _) => true
  | w => goodWord w
def GW : List Cond := lw_tbl.filter tw_ok
theorem gw_t {w : Cond} (i : Nat) (h : tables_1[i]? = some w) (hk : tw_ok w = true) : w ∈ GW := List.mem_filter.mpr ⟨List.mem_append_right _ (List.mem_of_getElem? h), hk⟩
theorem gw_p {q : MethodName × Nat} (h : q ∈ lw_privs) : Cond.selects q.1.cls q.1 q.1 ∈ GW := List.mem_filter.mpr ⟨List.mem_append_left _ (List.mem_map.mpr ⟨q, h, rfl⟩), rfl⟩
theorem kw0 : (Jvm.Cond.initialized "FairyDustLaw") ∈ GW := gw_t 0 (by decide +kernel) rfl
theorem kw1 : (Jvm.Cond.initialized "FairyDust") ∈ GW := gw_t 1 (by decide +kernel) rfl
theorem kw2 : (Jvm.Cond.initialized "java/util/AbstractCollection") ∈ GW := gw_t 2 (by decide +kernel) rfl
theorem kw3 : (Jvm.Cond.initialized "java/util/AbstractList") ∈ GW := gw_t 3 (by decide +kernel) rfl
theorem kw4 : (Jvm.Cond.initialized "java/util/ArrayList") ∈ GW := gw_t 4 (by decide +kernel) rfl
theorem kw5 : (Jvm.Cond.initialized "FairyDust$Wand") ∈ GW := gw_t 5 (by decide +kernel) rfl
theorem kw6 : (Jvm.Cond.initialized "FairyDust$Child") ∈ GW := gw_t 6 (by decide +kernel) rfl
theorem kw7 : (Jvm.Cond.initialized "FairyDustModel") ∈ GW := gw_t 7 (by decide +kernel) rfl
theorem kw8 : (Jvm.Cond.initialized "java/lang/Throwable") ∈ GW := gw_t 8 (by decide +kernel) rfl
theorem kw9 : (Jvm.Cond.initialized "java/lang/Exception") ∈ GW := gw_t 9 (by decide +kernel) rfl
theorem kw10 : (Jvm.Cond.initialized "java/lang/RuntimeException") ∈ GW := gw_t 10 (by decide +kernel) rfl
theorem kw11 : (Jvm.Cond.initialized "java/lang/IllegalArgumentException") ∈ GW := gw_t 11 (by decide +kernel) rfl
theorem kw12 : (Jvm.Cond.initialized "java/lang/IllegalStateException") ∈ GW := gw_t 12 (by decide +kernel) rfl
theorem kw13 : (Jvm.Cond.initialized "jdk/internal/util/ArraysSupport") ∈ GW := gw_t 13 (by decide +kernel) rfl
theorem kw14 : (Jvm.Cond.initialized "java/lang/Math") ∈ GW := gw_t 14 (by decide +kernel) rfl
theorem kw15 : (Jvm.Cond.initialized "java/util/Arrays") ∈ GW := gw_t 15 (by decide +kernel) rfl
theorem kw16 : (Jvm.Cond.initialized "java/lang/System") ∈ GW := gw_t 16 (by decide +kernel) rfl
theorem kw17 : (Jvm.Cond.initialized "java/lang/IndexOutOfBoundsException") ∈ GW := gw_t 17 (by decide +kernel) rfl
theorem kw18 : (Jvm.Cond.initialized "java/util/Objects") ∈ GW := gw_t 18 (by decide +kernel) rfl
theorem kw19 : (Jvm.Cond.initialized "jdk/internal/util/Preconditions") ∈ GW := gw_t 19 (by decide +kernel) rfl
theorem kw20 : (Jvm.Cond.classLink "FairyDustLaw" (8 : Nat) "FairyDust") ∈ GW := gw_t 20 (by decide +kernel) rfl
theorem kw21 : (Jvm.Cond.instantiable "FairyDust" (7 : Nat)) ∈ GW := gw_t 21 (by decide +kernel) rfl
theorem kw22 : (Jvm.Cond.methodLink "FairyDustLaw" (82 : Nat) ({ cls := "FairyDust", name := "<init>", desc := "()V" } : Jvm.MethodName)) ∈ GW := gw_t 22 (by decide +kernel) rfl
theorem kw23 : (Jvm.Cond.instanceMethod ({ cls := "FairyDust", name := "<init>", desc := "()V" } : Jvm.MethodName)) ∈ GW := gw_t 23 (by decide +kernel) rfl
theorem kw24 : (Jvm.Cond.code ({ cls := "FairyDust", name := "<init>", desc := "()V" } : Jvm.MethodName) prog_1_method_1_code (1 : Nat) (Option.none : Option Jvm.ClassFile.FieldType)) ∈ GW := gw_t 24 (by decide +kernel) rfl
theorem kw25 : (Jvm.Cond.methodLink "FairyDust" (1 : Nat) ({ cls := "java/lang/Object", name := "<init>", desc := "()V" } : Jvm.MethodName)) ∈ GW := gw_t 25 (by decide +kernel) rfl
theorem kw26 : (Jvm.Cond.instanceMethod ({ cls := "java/lang/Object", name := "<init>", desc := "()V" } : Jvm.MethodName)) ∈ GW := gw_t 26 (by decide +kernel) rfl
theorem kw27 : (Jvm.Cond.code ({ cls := "java/lang/Object", name := "<init>", desc := "()V" } : Jvm.MethodName) object_method_1_code (1 : Nat) (Option.none : Option Jvm.ClassFile.FieldType)) ∈ GW := gw_t 27 (by decide +kernel) rfl
theorem kw28 : (Jvm.Cond.classLink "FairyDust" (7 : Nat) "java/util/ArrayList") ∈ GW := gw_t 28 (by decide +kernel) rfl
theorem kw29 : (Jvm.Cond.instantiable "java/util/ArrayList" (3 : Nat)) ∈ GW := gw_t 29 (by decide +kernel) rfl
theorem kw30 : (Jvm.Cond.methodLink "FairyDust" (9 : Nat) ({ cls := "java/util/ArrayList", name := "<init>", desc := "()V" } : Jvm.MethodName)) ∈ GW := gw_t 30 (by decide +kernel) rfl
theorem kw31 : (Jvm.Cond.instanceMethod ({ cls := "java/util/ArrayList", name := "<init>", desc := "()V" } : Jvm.MethodName)) ∈ GW := gw_t 31 (by decide +kernel) rfl
theorem kw32 : (Jvm.Cond.code ({ cls := "java/util/ArrayList", name := "<init>", desc := "()V" } : Jvm.MethodName) prog_20_method_2_code (1 : Nat) (Option.none : Option Jvm.ClassFile.FieldType)) ∈ GW := gw_t 32 (by decide +kernel) rfl
theorem kw33 : (Jvm.Cond.methodLink "java/util/ArrayList" (1 : Nat) ({ cls := "java/util/AbstractList", name := "<init>", desc := "()V" } : Jvm.MethodName)) ∈ GW := gw_t 33 (by decide +kernel) rfl
theorem kw34 : (Jvm.Cond.instanceMethod ({ cls := "java/util/AbstractList", name := "<init>", desc := "()V" } : Jvm.MethodName)) ∈ GW := gw_t 34 (by decide +kernel) rfl
theorem kw35 : (Jvm.Cond.code ({ cls := "java/util/AbstractList", name := "<init>", desc := "()V" } : Jvm.MethodName) prog_19_method_1_code (1 : Nat) (Option.none : Option Jvm.ClassFile.FieldType)) ∈ GW := gw_t 35 (by decide +kernel) rfl
theorem kw36 : (Jvm.Cond.methodLink "java/util/AbstractList" (1 : Nat) ({ cls := "java/util/AbstractCollection", name := "<init>", desc := "()V" } : Jvm.MethodName)) ∈ GW := gw_t 36 (by decide +kernel) rfl
theorem kw37 : (Jvm.Cond.instanceMethod ({ cls := "java/util/AbstractCollection", name := "<init>", desc := "()V" } : Jvm.MethodName)) ∈ GW := gw_t 37 (by decide +kernel) rfl
theorem kw38 : (Jvm.Cond.code ({ cls := "java/util/AbstractCollection", name := "<init>", desc := "()V" } : Jvm.MethodName) prog_18_method_1_code (1 : Nat) (Option.none : Option Jvm.ClassFile.FieldType)) ∈ GW := gw_t 38 (by decide +kernel) rfl
theorem kw39 : (Jvm.Cond.methodLink "java/util/AbstractCollection" (1 : Nat) ({ cls := "java/lang/Object", name := "<init>", desc := "()V" } : Jvm.MethodName)) ∈ GW := gw_t 39 (by decide +kernel) rfl
theorem kw40 : (Jvm.Cond.fieldLink "java/util/ArrayList" (39 : Nat) "java/util/ArrayList" "DEFAULTCAPACITY_EMPTY_ELEMENTDATA" "[Ljava/lang/Object;") ∈ GW := gw_t 40 (by decide +kernel) rfl
theorem kw42 : (Jvm.Cond.fieldLink "java/util/ArrayList" (9 : Nat) "java/util/ArrayList" "elementData" "[Ljava/lang/Object;") ∈ GW := gw_t 42 (by decide +kernel) rfl
theorem kw43 : (Jvm.Cond.fieldLink "java/util/ArrayList" (48 : Nat) "java/util/ArrayList" "size" "I") ∈ GW := gw_t 43 (by decide +kernel) rfl
theorem kw44 : (Jvm.Cond.fieldLink "java/util/AbstractList" (7 : Nat) "java/util/AbstractList" "modCount" "I") ∈ GW := gw_t 44 (by decide +kernel) rfl
theorem kw45 : (Jvm.Cond.fieldLink "java/util/ArrayList" (63 : Nat) "java/util/ArrayList" "modCount" "I") ∈ GW := gw_t 45 (by decide +kernel) rfl
theorem kw46 : (Jvm.Cond.sameField "java/util/ArrayList" "java/util/AbstractList" "modCount" "I") ∈ GW := gw_t 46 (by decide +kernel) rfl
theorem kw47 : (Jvm.Cond.lays "java/util/ArrayList" "java/util/ArrayList" "elementData" "[Ljava/lang/Object;") ∈ GW := gw_t 47 (by decide +kernel) rfl
theorem kw49 : (Jvm.Cond.lays "java/util/ArrayList" "java/util/ArrayList" "size" "I") ∈ GW := gw_t 49 (by decide +kernel) rfl
theorem kw51 : (Jvm.Cond.lays "java/util/ArrayList" "java/util/AbstractList" "modCount" "I") ∈ GW := gw_t 51 (by decide +kernel) rfl
theorem kw53 : (Jvm.Cond.superclass "java/util/ArrayList" "java/util/AbstractList") ∈ GW := gw_t 53 (by decide +kernel) rfl
theorem kw54 : (Jvm.Cond.classLink "FairyDust" (19 : Nat) "FairyDust$Wand") ∈ GW := gw_t 54 (by decide +kernel) rfl
theorem kw55 : (Jvm.Cond.instantiable "FairyDust$Wand" (4 : Nat)) ∈ GW := gw_t 55 (by decide +kernel) rfl
theorem kw56 : (Jvm.Cond.methodLinkNest "FairyDust" (21 : Nat) ({ cls := "FairyDust$Wand", name := "<init>", desc := "(III)V" } : Jvm.MethodName) "FairyDust") ∈ GW := gw_t 56 (by decide +kernel) rfl
theorem kw57 : (Jvm.Cond.instanceMethod ({ cls := "FairyDust$Wand", name := "<init>", desc := "(III)V" } : Jvm.MethodName)) ∈ GW := gw_t 57 (by decide +kernel) rfl
theorem kw58 : (Jvm.Cond.code ({ cls := "FairyDust$Wand", name := "<init>", desc := "(III)V" } : Jvm.MethodName) prog_3_method_1_code (4 : Nat) (Option.none : Option Jvm.ClassFile.FieldType)) ∈ GW := gw_t 58 (by decide +kernel) rfl
theorem kw59 : (Jvm.Cond.methodLink "FairyDust$Wand" (1 : Nat) ({ cls := "java/lang/Object", name := "<init>", desc := "()V" } : Jvm.MethodName)) ∈ GW := gw_t 59 (by decide +kernel) rfl
theorem kw60 : (Jvm.Cond.fieldLink "FairyDust$Wand" (7 : Nat) "FairyDust$Wand" "number" "I") ∈ GW := gw_t 60 (by decide +kernel) rfl
theorem kw61 : (Jvm.Cond.fieldLinkNest "FairyDust" (75 : Nat) "FairyDust$Wand" "number" "I" "FairyDust") ∈ GW := gw_t 61 (by decide +kernel) rfl
theorem kw62 : (Jvm.Cond.fieldLink "FairyDust$Wand" (13 : Nat) "FairyDust$Wand" "room" "I") ∈ GW := gw_t 62 (by decide +kernel) rfl
theorem kw63 : (Jvm.Cond.fieldLink "FairyDust$Wand" (16 : Nat) "FairyDust$Wand" "falls" "I") ∈ GW := gw_t 63 (by decide +kernel) rfl
theorem kw64 : (Jvm.Cond.fieldLinkNest "FairyDust" (79 : Nat) "FairyDust$Wand" "falls" "I" "FairyDust") ∈ GW := gw_t 64 (by decide +kernel) rfl
theorem kw65 : (Jvm.Cond.fieldLink "FairyDust$Wand" (19 : Nat) "FairyDust$Wand" "dust" "I") ∈ GW := gw_t 65 (by decide +kernel) rfl
theorem kw66 : (Jvm.Cond.fieldLinkNest "FairyDust$Child" (35 : Nat) "FairyDust$Wand" "dust" "I" "FairyDust") ∈ GW := gw_t 66 (by decide +kernel) rfl
theorem kw67 : (Jvm.Cond.fieldLinkNest "FairyDust" (112 : Nat) "FairyDust$Wand" "dust" "I" "FairyDust") ∈ GW := gw_t 67 (by decide +kernel) rfl
theorem kw68 : (Jvm.Cond.lays "FairyDust$Wand" "FairyDust$Wand" "number" "I") ∈ GW := gw_t 68 (by decide +kernel) rfl
theorem kw70 : (Jvm.Cond.lays "FairyDust$Wand" "FairyDust$Wand" "room" "I") ∈ GW := gw_t 70 (by decide +kernel) rfl
theorem kw72 : (Jvm.Cond.lays "FairyDust$Wand" "FairyDust$Wand" "falls" "I") ∈ GW := gw_t 72 (by decide +kernel) rfl
theorem kw74 : (Jvm.Cond.lays "FairyDust$Wand" "FairyDust$Wand" "dust" "I") ∈ GW := gw_t 74 (by decide +kernel) rfl
theorem kw76 : (Jvm.Cond.superclass "FairyDust$Wand" "java/lang/Object") ∈ GW := gw_t 76 (by decide +kernel) rfl
theorem kw77 : (Jvm.Cond.classLink "FairyDust" (28 : Nat) "FairyDust$Child") ∈ GW := gw_t 77 (by decide +kernel) rfl
theorem kw78 : (Jvm.Cond.instantiable "FairyDust$Child" (6 : Nat)) ∈ GW := gw_t 78 (by decide +kernel) rfl
theorem kw79 : (Jvm.Cond.methodLinkNest "FairyDust" (30 : Nat) ({ cls := "FairyDust$Child", name := "<init>", desc := "(LFairyDust$Wand;I)V" } : Jvm.MethodName) "FairyDust") ∈ GW := gw_t 79 (by decide +kernel) rfl
theorem kw80 : (Jvm.Cond.instanceMethod ({ cls := "FairyDust$Child", name := "<init>", desc := "(LFairyDust$Wand;I)V" } : Jvm.MethodName)) ∈ GW := gw_t 80 (by decide +kernel) rfl
theorem kw81 : (Jvm.Cond.code ({ cls := "FairyDust$Child", name := "<init>", desc := "(LFairyDust$Wand;I)V" } : Jvm.MethodName) prog_2_method_1_code (3 : Nat) (Option.none : Option Jvm.ClassFile.FieldType)) ∈ GW := gw_t 81 (by decide +kernel) rfl
theorem kw82 : (Jvm.Cond.methodLink "FairyDust$Child" (3 : Nat) ({ cls := "java/lang/Object", name := "<init>", desc := "()V" } : Jvm.MethodName)) ∈ GW := gw_t 82 (by decide +kernel) rfl
theorem kw83 : (Jvm.Cond.fieldLink "FairyDust$Child" (9 : Nat) "FairyDust$Child" "wand" "LFairyDust$Wand;") ∈ GW := gw_t 83 (by decide +kernel) rfl
theorem kw84 : (Jvm.Cond.fieldLinkNest "FairyDust" (72 : Nat) "FairyDust$Child" "wand" "LFairyDust$Wand;" "FairyDust") ∈ GW := gw_t 84 (by decide +kernel) rfl
theorem kw85 : (Jvm.Cond.fieldLink "FairyDust$Child" (15 : Nat) "FairyDust$Child" "birthday" "I") ∈ GW := gw_t 85 (by decide +kernel) rfl
theorem kw86 : (Jvm.Cond.fieldLinkNest "FairyDust" (127 : Nat) "FairyDust$Child" "birthday" "I" "FairyDust") ∈ GW := gw_t 86 (by decide +kernel) rfl
theorem kw87 : (Jvm.Cond.fieldLink "FairyDust$Child" (22 : Nat) "FairyDust$Child" "burst" "I") ∈ GW := gw_t 87 (by decide +kernel) rfl
theorem kw88 : (Jvm.Cond.fieldLinkNest "FairyDust" (115 : Nat) "FairyDust$Child" "burst" "I" "FairyDust") ∈ GW := gw_t 88 (by decide +kernel) rfl
theorem kw89 : (Jvm.Cond.fieldLink "FairyDust$Child" (25 : Nat) "FairyDust$Child" "punishedHours" "I") ∈ GW := gw_t 89 (by decide +kernel) rfl
theorem kw90 : (Jvm.Cond.fieldLinkNest "FairyDust" (118 : Nat) "FairyDust$Child" "punishedHours" "I" "FairyDust") ∈ GW := gw_t 90 (by decide +kernel) rfl
theorem kw91 : (Jvm.Cond.fieldLink "FairyDust$Child" (28 : Nat) "FairyDust$Child" "marks" "I") ∈ GW := gw_t 91 (by decide +kernel) rfl
theorem kw92 : (Jvm.Cond.fieldLinkNest "FairyDust" (121 : Nat) "FairyDust$Child" "marks" "I" "FairyDust") ∈ GW := gw_t 92 (by decide +kernel) rfl
theorem kw93 : (Jvm.Cond.fieldLink "FairyDust$Child" (19 : Nat) "FairyDust$Child" "punishment" "I") ∈ GW := gw_t 93 (by decide +kernel) rfl
theorem kw94 : (Jvm.Cond.fieldLinkNest "FairyDust" (124 : Nat) "FairyDust$Child" "punishment" "I" "FairyDust") ∈ GW := gw_t 94 (by decide +kernel) rfl
theorem kw95 : (Jvm.Cond.lays "FairyDust$Child" "FairyDust$Child" "wand" "LFairyDust$Wand;") ∈ GW := gw_t 95 (by decide +kernel) rfl
theorem kw97 : (Jvm.Cond.lays "FairyDust$Child" "FairyDust$Child" "birthday" "I") ∈ GW := gw_t 97 (by decide +kernel) rfl
theorem kw99 : (Jvm.Cond.lays "FairyDust$Child" "FairyDust$Child" "burst" "I") ∈ GW := gw_t 99 (by decide +kernel) rfl
theorem kw101 : (Jvm.Cond.lays "FairyDust$Child" "FairyDust$Child" "punishedHours" "I") ∈ GW := gw_t 101 (by decide +kernel) rfl
theorem kw103 : (Jvm.Cond.lays "FairyDust$Child" "FairyDust$Child" "marks" "I") ∈ GW := gw_t 103 (by decide +kernel) rfl
theorem kw105 : (Jvm.Cond.lays "FairyDust$Child" "FairyDust$Child" "punishment" "I") ∈ GW := gw_t 105 (by decide +kernel) rfl
theorem kw107 : (Jvm.Cond.superclass "FairyDust$Child" "java/lang/Object") ∈ GW := gw_t 107 (by decide +kernel) rfl
theorem kw108 : (Jvm.Cond.fieldLink "FairyDust" (10 : Nat) "FairyDust" "wands" "Ljava/util/ArrayList;") ∈ GW := gw_t 108 (by decide +kernel) rfl
theorem kw109 : (Jvm.Cond.fieldLink "FairyDust" (16 : Nat) "FairyDust" "children" "Ljava/util/ArrayList;") ∈ GW := gw_t 109 (by decide +kernel) rfl
theorem kw110 : (Jvm.Cond.fieldLink "FairyDust" (24 : Nat) "FairyDust" "trialWand" "LFairyDust$Wand;") ∈ GW := gw_t 110 (by decide +kernel) rfl
theorem kw111 : (Jvm.Cond.fieldLink "FairyDust" (33 : Nat) "FairyDust" "trialChild" "LFairyDust$Child;") ∈ GW := gw_t 111 (by decide +kernel) rfl
theorem kw112 : (Jvm.Cond.fieldLink "FairyDust" (101 : Nat) "FairyDust" "hour" "I") ∈ GW := gw_t 112 (by decide +kernel) rfl
theorem kw113 : (Jvm.Cond.fieldLink "FairyDust" (89 : Nat) "FairyDust" "granted" "I") ∈ GW := gw_t 113 (by decide +kernel) rfl
theorem kw114 : (Jvm.Cond.fieldLink "FairyDust" (92 : Nat) "FairyDust" "denied" "I") ∈ GW := gw_t 114 (by decide +kernel) rfl
theorem kw115 : (Jvm.Cond.laysFinal "FairyDust" "FairyDust" "wands" "Ljava/util/ArrayList;") ∈ GW := gw_t 115 (by decide +kernel) rfl
theorem kw117 : (Jvm.Cond.laysFinal "FairyDust" "FairyDust" "children" "Ljava/util/ArrayList;") ∈ GW := gw_t 117 (by decide +kernel) rfl
theorem kw119 : (Jvm.Cond.laysFinal "FairyDust" "FairyDust" "trialWand" "LFairyDust$Wand;") ∈ GW := gw_t 119 (by decide +kernel) rfl
theorem kw121 : (Jvm.Cond.laysFinal "FairyDust" "FairyDust" "trialChild" "LFairyDust$Child;") ∈ GW := gw_t 121 (by decide +kernel) rfl
theorem kw123 : (Jvm.Cond.lays "FairyDust" "FairyDust" "hour" "I") ∈ GW := gw_t 123 (by decide +kernel) rfl
theorem kw125 : (Jvm.Cond.lays "FairyDust" "FairyDust" "granted" "I") ∈ GW := gw_t 125 (by decide +kernel) rfl
theorem kw127 : (Jvm.Cond.lays "FairyDust" "FairyDust" "denied" "I") ∈ GW := gw_t 127 (by decide +kernel) rfl
theorem kw129 : (Jvm.Cond.superclass "FairyDust" "java/lang/Object") ∈ GW := gw_t 129 (by decide +kernel) rfl
theorem kw130 : (Jvm.Cond.methodLink "FairyDustLaw" (115 : Nat) ({ cls := "FairyDust", name := "hour", desc := "()I" } : Jvm.MethodName)) ∈ GW := gw_t 130 (by decide +kernel) rfl
theorem kw131 : (Jvm.Cond.instanceMethod ({ cls := "FairyDust", name := "hour", desc := "()I" } : Jvm.MethodName)) ∈ GW := gw_t 131 (by decide +kernel) rfl
theorem kw132 : (Jvm.Cond.selects "FairyDust" ({ cls := "FairyDust", name := "hour", desc := "()I" } : Jvm.MethodName) ({ cls := "FairyDust", name := "hour", desc := "()I" } : Jvm.MethodName)) ∈ GW := gw_t 132 (by decide +kernel) rfl
theorem kw133 : (Jvm.Cond.code ({ cls := "FairyDust", name := "hour", desc := "()I" } : Jvm.MethodName) prog_1_method_9_code (1 : Nat) (Option.some Jvm.ClassFile.FieldType.int)) ∈ GW := gw_t 133 (by decide +kernel) rfl
theorem kw134 : (Jvm.Cond.methodLink "FairyDustLaw" (119 : Nat) ({ cls := "FairyDust", name := "day", desc := "()I" } : Jvm.MethodName)) ∈ GW := gw_t 134 (by decide +kernel) rfl
theorem kw135 : (Jvm.Cond.instanceMethod ({ cls := "FairyDust", name := "day", desc := "()I" } : Jvm.MethodName)) ∈ GW := gw_t 135 (by decide +kernel) rfl
theorem kw136 : (Jvm.Cond.selects "FairyDust" ({ cls := "FairyDust", name := "day", desc := "()I" } : Jvm.MethodName) ({ cls := "FairyDust", name := "day", desc := "()I" } : Jvm.MethodName)) ∈ GW := gw_t 136 (by decide +kernel) rfl
theorem kw137 : (Jvm.Cond.code ({ cls := "FairyDust", name := "day", desc := "()I" } : Jvm.MethodName) prog_1_method_10_code (1 : Nat) (Option.some Jvm.ClassFile.FieldType.int)) ∈ GW := gw_t 137 (by decide +kernel) rfl
theorem kw138 : (Jvm.Cond.methodLink "FairyDustLaw" (123 : Nat) ({ cls := "FairyDust", name := "wands", desc := "()I" } : Jvm.MethodName)) ∈ GW := gw_t 138 (by decide +kernel) rfl
theorem kw139 : (Jvm.Cond.instanceMethod ({ cls := "FairyDust", name := "wands", desc := "()I" } : Jvm.MethodName)) ∈ GW := gw_t 139 (by decide +kernel) rfl
theorem kw140 : (Jvm.Cond.selects "FairyDust" ({ cls := "FairyDust", name := "wands", desc := "()I" } : Jvm.MethodName) ({ cls := "FairyDust", name := "wands", desc := "()I" } : Jvm.MethodName)) ∈ GW := gw_t 140 (by decide +kernel) rfl
theorem kw141 : (Jvm.Cond.code ({ cls := "FairyDust", name := "wands", desc := "()I" } : Jvm.MethodName) prog_1_method_11_code (1 : Nat) (Option.some Jvm.ClassFile.FieldType.int)) ∈ GW := gw_t 141 (by decide +kernel) rfl
theorem kw142 : (Jvm.Cond.methodLink "FairyDust" (40 : Nat) ({ cls := "java/util/ArrayList", name := "size", desc := "()I" } : Jvm.MethodName)) ∈ GW := gw_t 142 (by decide +kernel) rfl
theorem kw143 : (Jvm.Cond.instanceMethod ({ cls := "java/util/ArrayList", name := "size", desc := "()I" } : Jvm.MethodName)) ∈ GW := gw_t 143 (by decide +kernel) rfl
theorem kw144 : (Jvm.Cond.selects "java/util/ArrayList" ({ cls := "java/util/ArrayList", name := "size", desc := "()I" } : Jvm.MethodName) ({ cls := "java/util/ArrayList", name := "size", desc := "()I" } : Jvm.MethodName)) ∈ GW := gw_t 144 (by decide +kernel) rfl
theorem kw145 : (Jvm.Cond.code ({ cls := "java/util/ArrayList", name := "size", desc := "()I" } : Jvm.MethodName) prog_20_method_8_code (1 : Nat) (Option.some Jvm.ClassFile.FieldType.int)) ∈ GW := gw_t 145 (by decide +kernel) rfl
theorem kw146 : (Jvm.Cond.methodLink "FairyDustLaw" (127 : Nat) ({ cls := "FairyDust", name := "children", desc := "()I" } : Jvm.MethodName)) ∈ GW := gw_t 146 (by decide +kernel) rfl
theorem kw147 : (Jvm.Cond.instanceMethod ({ cls := "FairyDust", name := "children", desc := "()I" } : Jvm.MethodName)) ∈ GW := gw_t 147 (by decide +kernel) rfl
theorem kw148 : (Jvm.Cond.selects "FairyDust" ({ cls := "FairyDust", name := "children", desc := "()I" } : Jvm.MethodName) ({ cls := "FairyDust", name := "children", desc := "()I" } : Jvm.MethodName)) ∈ GW := gw_t 148 (by decide +kernel) rfl
theorem kw149 : (Jvm.Cond.code ({ cls := "FairyDust", name := "children", desc := "()I" } : Jvm.MethodName) prog_1_method_12_code (1 : Nat) (Option.some Jvm.ClassFile.FieldType.int)) ∈ GW := gw_t 149 (by decide +kernel) rfl
theorem kw150 : (Jvm.Cond.methodLink "FairyDustLaw" (131 : Nat) ({ cls := "FairyDust", name := "granted", desc := "()I" } : Jvm.MethodName)) ∈ GW := gw_t 150 (by decide +kernel) rfl
theorem kw151 : (Jvm.Cond.instanceMethod ({ cls := "FairyDust", name := "granted", desc := "()I" } : Jvm.MethodName)) ∈ GW := gw_t 151 (by decide +kernel) rfl
theorem kw152 : (Jvm.Cond.selects "FairyDust" ({ cls := "FairyDust", name := "granted", desc := "()I" } : Jvm.MethodName) ({ cls := "FairyDust", name := "granted", desc := "()I" } : Jvm.MethodName)) ∈ GW := gw_t 152 (by decide +kernel) rfl
theorem kw153 : (Jvm.Cond.code ({ cls := "FairyDust", name := "granted", desc := "()I" } : Jvm.MethodName) prog_1_method_13_code (1 : Nat) (Option.some Jvm.ClassFile.FieldType.int)) ∈ GW := gw_t 153 (by decide +kernel) rfl
theorem kw154 : (Jvm.Cond.methodLink "FairyDustLaw" (135 : Nat) ({ cls := "FairyDust", name := "denied", desc := "()I" } : Jvm.MethodName)) ∈ GW := gw_t 154 (by decide +kernel) rfl
theorem kw155 : (Jvm.Cond.instanceMethod ({ cls := "FairyDust", name := "denied", desc := "()I" } : Jvm.MethodName)) ∈ GW := gw_t 155 (by decide +kernel) rfl
theorem kw156 : (Jvm.Cond.selects "FairyDust" ({ cls := "FairyDust", name := "denied", desc := "()I" } : Jvm.MethodName) ({ cls := "FairyDust", name := "denied", desc := "()I" } : Jvm.MethodName)) ∈ GW := gw_t 156 (by decide +kernel) rfl
theorem kw157 : (Jvm.Cond.code ({ cls := "FairyDust", name := "denied", desc := "()I" } : Jvm.MethodName) prog_1_method_14_code (1 : Nat) (Option.some Jvm.ClassFile.FieldType.int)) ∈ GW := gw_t 157 (by decide +kernel) rfl
theorem kw158 : (Jvm.Cond.methodLink "FairyDustLaw" (139 : Nat) ({ cls := "FairyDust", name := "punished", desc := "()I" } : Jvm.MethodName)) ∈ GW := gw_t 158 (by decide +kernel) rfl
theorem kw159 : (Jvm.Cond.instanceMethod ({ cls := "FairyDust", name := "punished", desc := "()I" } : Jvm.MethodName)) ∈ GW := gw_t 159 (by decide +kernel) rfl
theorem kw160 : (Jvm.Cond.selects "FairyDust" ({ cls := "FairyDust", name := "punished", desc := "()I" } : Jvm.MethodName) ({ cls := "FairyDust", name := "punished", desc := "()I" } : Jvm.MethodName)) ∈ GW := gw_t 160 (by decide +kernel) rfl
theorem kw161 : (Jvm.Cond.code ({ cls := "FairyDust", name := "punished", desc := "()I" } : Jvm.MethodName) prog_1_method_15_code (3 : Nat) (Option.some Jvm.ClassFile.FieldType.int)) ∈ GW := gw_t 161 (by decide +kernel) rfl
theorem kw162 : (Jvm.Cond.methodLink "FairyDust" (104 : Nat) ({ cls := "java/util/ArrayList", name := "get", desc := "(I)Ljava/lang/Object;" } : Jvm.MethodName)) ∈ GW := gw_t 162 (by decide +kernel) rfl
theorem kw163 : (Jvm.Cond.instanceMethod ({ cls := "java/util/ArrayList", name := "get", desc := "(I)Ljava/lang/Object;" } : Jvm.MethodName)) ∈ GW := gw_t 163 (by decide +kernel) rfl
theorem kw164 : (Jvm.Cond.selects "java/util/ArrayList" ({ cls := "java/util/ArrayList", name := "get", desc := "(I)Ljava/lang/Object;" } : Jvm.MethodName) ({ cls := "java/util/ArrayList", name := "get", desc := "(I)Ljava/lang/Object;" } : Jvm.MethodName)) ∈ GW := gw_t 164 (by decide +kernel) rfl
theorem kw165 : (Jvm.Cond.code ({ cls := "java/util/ArrayList", name := "get", desc := "(I)Ljava/lang/Object;" } : Jvm.MethodName) prog_20_method_20_code (2 : Nat) (Option.some (Jvm.ClassFile.FieldType.object "java/lang/Object"))) ∈ GW := gw_t 165 (by decide +kernel) rfl
theorem kw166 : (Jvm.Cond.methodLink "java/util/ArrayList" (118 : Nat) ({ cls := "java/util/Objects", name := "checkIndex", desc := "(II)I" } : Jvm.MethodName)) ∈ GW := gw_t 166 (by decide +kernel) rfl
theorem kw167 : (Jvm.Cond.static ({ cls := "java/util/Objects", name := "checkIndex", desc := "(II)I" } : Jvm.MethodName)) ∈ GW := gw_t 167 (by decide +kernel) rfl
theorem kw168 : (Jvm.Cond.code ({ cls := "java/util/Objects", name := "checkIndex", desc := "(II)I" } : Jvm.MethodName) prog_24_method_17_code (2 : Nat) (Option.some Jvm.ClassFile.FieldType.int)) ∈ GW := gw_t 168 (by decide +kernel) rfl
theorem kw169 : (Jvm.Cond.methodLink "java/util/Objects" (105 : Nat) ({ cls := "jdk/internal/util/Preconditions", name := "checkIndex", desc := "(IILjava/util/function/BiFunction;)I" } : Jvm.MethodName)) ∈ GW := gw_t 169 (by decide +kernel) rfl
theorem kw170 : (Jvm.Cond.static ({ cls := "jdk/internal/util/Preconditions", name := "checkIndex", desc := "(IILjava/util/function/BiFunction;)I" } : Jvm.MethodName)) ∈ GW := gw_t 170 (by decide +kernel) rfl
theorem kw171 : (Jvm.Cond.code ({ cls := "jdk/internal/util/Preconditions", name := "checkIndex", desc := "(IILjava/util/function/BiFunction;)I" } : Jvm.MethodName) prog_28_method_11_code (3 : Nat) (Option.some Jvm.ClassFile.FieldType.int)) ∈ GW := gw_t 171 (by decide +kernel) rfl
theorem kw172 : (Jvm.Cond.methodLink "java/util/ArrayList" (123 : Nat) ({ cls := "java/util/ArrayList", name := "elementData", desc := "(I)Ljava/lang/Object;" } : Jvm.MethodName)) ∈ GW := gw_t 172 (by decide +kernel) rfl
theorem kw173 : (Jvm.Cond.instanceMethod ({ cls := "java/util/ArrayList", name := "elementData", desc := "(I)Ljava/lang/Object;" } : Jvm.MethodName)) ∈ GW := gw_t 173 (by decide +kernel) rfl
theorem kw174 : (Jvm.Cond.selects "java/util/ArrayList" ({ cls := "java/util/ArrayList", name := "elementData", desc := "(I)Ljava/lang/Object;" } : Jvm.MethodName) ({ cls := "java/util/ArrayList", name := "elementData", desc := "(I)Ljava/lang/Object;" } : Jvm.MethodName)) ∈ GW := gw_t 174 (by decide +kernel) rfl
theorem kw175 : (Jvm.Cond.code ({ cls := "java/util/ArrayList", name := "elementData", desc := "(I)Ljava/lang/Object;" } : Jvm.MethodName) prog_20_method_18_code (2 : Nat) (Option.some (Jvm.ClassFile.FieldType.object "java/lang/Object"))) ∈ GW := gw_t 175 (by decide +kernel) rfl
theorem kw176 : (Jvm.Cond.methodLinkNest "FairyDust" (108 : Nat) ({ cls := "FairyDust$Child", name := "isPunished", desc := "()Z" } : Jvm.MethodName) "FairyDust") ∈ GW := gw_t 176 (by decide +kernel) rfl
theorem kw178 : (Jvm.Cond.instanceMethod ({ cls := "FairyDust$Child", name := "isPunished", desc := "()Z" } : Jvm.MethodName)) ∈ GW := gw_t 178 (by decide +kernel) rfl
theorem kw179 : (Jvm.Cond.code ({ cls := "FairyDust$Child", name := "isPunished", desc := "()Z" } : Jvm.MethodName) prog_2_method_3_code (1 : Nat) (Option.some Jvm.ClassFile.FieldType.boolean)) ∈ GW := gw_t 179 (by decide +kernel) rfl
theorem kw180 : (Jvm.Cond.methodLink "FairyDustLaw" (186 : Nat) ({ cls := "FairyDust", name := "share", desc := "()D" } : Jvm.MethodName)) ∈ GW := gw_t 180 (by decide +kernel) rfl
theorem kw181 : (Jvm.Cond.instanceMethod ({ cls := "FairyDust", name := "share", desc := "()D" } : Jvm.MethodName)) ∈ GW := gw_t 181 (by decide +kernel) rfl
theorem kw182 : (Jvm.Cond.selects "FairyDust" ({ cls := "FairyDust", name := "share", desc := "()D" } : Jvm.MethodName) ({ cls := "FairyDust", name := "share", desc := "()D" } : Jvm.MethodName)) ∈ GW := gw_t 182 (by decide +kernel) rfl
theorem kw183 : (Jvm.Cond.code ({ cls := "FairyDust", name := "share", desc := "()D" } : Jvm.MethodName) prog_1_method_30_code (2 : Nat) (Option.some Jvm.ClassFile.FieldType.double)) ∈ GW := gw_t 183 (by decide +kernel) rfl
theorem kw184 : (Jvm.Cond.methodLink "FairyDustLaw" (191 : Nat) ({ cls := "FairyDust", name := "digest", desc := "()J" } : Jvm.MethodName)) ∈ GW := gw_t 184 (by decide +kernel) rfl
theorem kw185 : (Jvm.Cond.instanceMethod ({ cls := "FairyDust", name := "digest", desc := "()J" } : Jvm.MethodName)) ∈ GW := gw_t 185 (by decide +kernel) rfl
theorem kw186 : (Jvm.Cond.selects "FairyDust" ({ cls := "FairyDust", name := "digest", desc := "()J" } : Jvm.MethodName) ({ cls := "FairyDust", name := "digest", desc := "()J" } : Jvm.MethodName)) ∈ GW := gw_t 186 (by decide +kernel) rfl
theorem kw187 : (Jvm.Cond.code ({ cls := "FairyDust", name := "digest", desc := "()J" } : Jvm.MethodName) prog_1_method_31_code (4 : Nat) (Option.some Jvm.ClassFile.FieldType.long)) ∈ GW := gw_t 187 (by decide +kernel) rfl
theorem kw188 : (Jvm.Cond.constantLong "FairyDust" (162 : Nat) (2267 : Int64)) ∈ GW := gw_t 188 (by decide +kernel) rfl
theorem kw189 : (Jvm.Cond.methodLink "FairyDust" (164 : Nat) ({ cls := "FairyDust", name := "hour", desc := "()I" } : Jvm.MethodName)) ∈ GW := gw_t 189 (by decide +kernel) rfl
theorem kw190 : (Jvm.Cond.methodLink "FairyDust" (166 : Nat) ({ cls := "FairyDust", name := "mixed", desc := "(JI)J" } : Jvm.MethodName)) ∈ GW := gw_t 190 (by decide +kernel) rfl
theorem kw191 : (Jvm.Cond.static ({ cls := "FairyDust", name := "mixed", desc := "(JI)J" } : Jvm.MethodName)) ∈ GW := gw_t 191 (by decide +kernel) rfl
theorem kw192 : (Jvm.Cond.code ({ cls := "FairyDust", name := "mixed", desc := "(JI)J" } : Jvm.MethodName) prog_1_method_34_code (3 : Nat) (Option.some Jvm.ClassFile.FieldType.long)) ∈ GW := gw_t 192 (by decide +kernel) rfl
theorem kw193 : (Jvm.Cond.constantLong "FairyDust" (230 : Nat) (31 : Int64)) ∈ GW := gw_t 193 (by decide +kernel) rfl
theorem kw194 : (Jvm.Cond.methodLink "FairyDust" (61 : Nat) ({ cls := "FairyDust", name := "day", desc := "()I" } : Jvm.MethodName)) ∈ GW := gw_t 194 (by decide +kernel) rfl
theorem kw195 : (Jvm.Cond.methodLink "FairyDust" (170 : Nat) ({ cls := "FairyDust", name := "wands", desc := "()I" } : Jvm.MethodName)) ∈ GW := gw_t 195 (by decide +kernel) rfl
theorem kw196 : (Jvm.Cond.methodLink "FairyDust" (172 : Nat) ({ cls := "FairyDust", name := "children", desc := "()I" } : Jvm.MethodName)) ∈ GW := gw_t 196 (by decide +kernel) rfl
theorem kw197 : (Jvm.Cond.methodLink "FairyDust" (174 : Nat) ({ cls := "FairyDust", name := "granted", desc := "()I" } : Jvm.MethodName)) ∈ GW := gw_t 197 (by decide +kernel) rfl
theorem kw198 : (Jvm.Cond.methodLink "FairyDust" (176 : Nat) ({ cls := "FairyDust", name := "denied", desc := "()I" } : Jvm.MethodName)) ∈ GW := gw_t 198 (by decide +kernel) rfl
theorem kw199 : (Jvm.Cond.methodLink "FairyDust" (178 : Nat) ({ cls := "FairyDust", name := "punished", desc := "()I" } : Jvm.MethodName)) ∈ GW := gw_t 199 (by decide +kernel) rfl
theorem kw200 : (Jvm.Cond.methodLink "FairyDust" (181 : Nat) ({ cls := "FairyDust", name := "bestChild", desc := "(I)I" } : Jvm.MethodName)) ∈ GW := gw_t 200 (by decide +kernel) rfl
theorem kw201 : (Jvm.Cond.instanceMethod ({ cls := "FairyDust", name := "bestChild", desc := "(I)I" } : Jvm.MethodName)) ∈ GW := gw_t 201 (by decide +kernel) rfl
theorem kw202 : (Jvm.Cond.selects "FairyDust" ({ cls := "FairyDust", name := "bestChild", desc := "(I)I" } : Jvm.MethodName) ({ cls := "FairyDust", name := "bestChild", desc := "(I)I" } : Jvm.MethodName)) ∈ GW := gw_t 202 (by decide +kernel) rfl
theorem kw203 : (Jvm.Cond.code ({ cls := "FairyDust", name := "bestChild", desc := "(I)I" } : Jvm.MethodName) prog_1_method_29_code (6 : Nat) (Option.some Jvm.ClassFile.FieldType.int)) ∈ GW := gw_t 203 (by decide +kernel) rfl
theorem kw204 : (Jvm.Cond.methodLink "FairyDust" (82 : Nat) ({ cls := "FairyDust", name := "needSize", desc := "(I)V" } : Jvm.MethodName)) ∈ GW := gw_t 204 (by decide +kernel) rfl
theorem kw205 : (Jvm.Cond.static ({ cls := "FairyDust", name := "needSize", desc := "(I)V" } : Jvm.MethodName)) ∈ GW := gw_t 205 (by decide +kernel) rfl
theorem kw206 : (Jvm.Cond.code ({ cls := "FairyDust", name := "needSize", desc := "(I)V" } : Jvm.MethodName) prog_1_method_41_code (1 : Nat) (Option.none : Option Jvm.ClassFile.FieldType)) ∈ GW := gw_t 206 (by decide +kernel) rfl
theorem kw207 : (Jvm.Cond.methodLink "FairyDust" (37 : Nat) ({ cls := "FairyDust", name := "needWithin", desc := "(III)V" } : Jvm.MethodName)) ∈ GW := gw_t 207 (by decide +kernel) rfl
theorem kw208 : (Jvm.Cond.static ({ cls := "FairyDust", name := "needWithin", desc := "(III)V" } : Jvm.MethodName)) ∈ GW := gw_t 208 (by decide +kernel) rfl
theorem kw209 : (Jvm.Cond.code ({ cls := "FairyDust", name := "needWithin", desc := "(III)V" } : Jvm.MethodName) prog_1_method_42_code (3 : Nat) (Option.none : Option Jvm.ClassFile.FieldType)) ∈ GW := gw_t 209 (by decide +kernel) rfl
theorem kw210 : (Jvm.Cond.classLink "FairyDust" (251 : Nat) "java/lang/IllegalArgumentException") ∈ GW := gw_t 210 (by decide +kernel) rfl
theorem kw211 : (Jvm.Cond.instantiable "java/lang/IllegalArgumentException" (6 : Nat)) ∈ GW := gw_t 211 (by decide +kernel) rfl
theorem kw212 : (Jvm.Cond.castable "java/lang/IllegalArgumentException" "java/lang/IllegalArgumentException") ∈ GW := gw_t 212 (by decide +kernel) rfl
theorem kw219 : (Jvm.Cond.selects "java/lang/IllegalArgumentException" ({ cls := "java/lang/Throwable", name := "fillInStackTrace", desc := "(I)Ljava/lang/Throwable;" } : Jvm.MethodName) ({ cls := "java/lang/Throwable", name := "fillInStackTrace", desc := "(I)Ljava/lang/Throwable;" } : Jvm.MethodName)) ∈ GW := gw_t 219 (by decide +kernel) rfl
theorem kw220 : (Jvm.Cond.selects "java/lang/IllegalArgumentException" ({ cls := "java/lang/Throwable", name := "fillInStackTrace", desc := "()Ljava/lang/Throwable;" } : Jvm.MethodName) ({ cls := "java/lang/Throwable", name := "fillInStackTrace", desc := "()Ljava/lang/Throwable;" } : Jvm.MethodName)) ∈ GW := gw_t 220 (by decide +kernel) rfl
theorem kw221 : (Jvm.Cond.lays "java/lang/IllegalArgumentException" "java/lang/Throwable" "cause" "Ljava/lang/Throwable;") ∈ GW := gw_t 221 (by decide +kernel) rfl
theorem kw222 : (Jvm.Cond.lays "java/lang/Throwable" "java/lang/Throwable" "cause" "Ljava/lang/Throwable;") ∈ GW := gw_t 222 (by decide +kernel) rfl
theorem kw223 : (Jvm.Cond.lays "java/lang/IllegalArgumentException" "java/lang/Throwable" "stackTrace" "[Ljava/lang/StackTraceElement;") ∈ GW := gw_t 223 (by decide +kernel) rfl
theorem kw224 : (Jvm.Cond.lays "java/lang/Throwable" "java/lang/Throwable" "stackTrace" "[Ljava/lang/StackTraceElement;") ∈ GW := gw_t 224 (by decide +kernel) rfl
theorem kw225 : (Jvm.Cond.lays "java/lang/IllegalArgumentException" "java/lang/Throwable" "suppressedExceptions" "Ljava/util/List;") ∈ GW := gw_t 225 (by decide +kernel) rfl
theorem kw226 : (Jvm.Cond.lays "java/lang/Throwable" "java/lang/Throwable" "suppressedExceptions" "Ljava/util/List;") ∈ GW := gw_t 226 (by decide +kernel) rfl
theorem kw227 : (Jvm.Cond.lays "java/lang/IllegalArgumentException" "java/lang/Throwable" "detailMessage" "Ljava/lang/String;") ∈ GW := gw_t 227 (by decide +kernel) rfl
theorem kw228 : (Jvm.Cond.lays "java/lang/Throwable" "java/lang/Throwable" "detailMessage" "Ljava/lang/String;") ∈ GW := gw_t 228 (by decide +kernel) rfl
theorem kw229 : (Jvm.Cond.lays "java/lang/IllegalArgumentException" "java/lang/Throwable" "backtrace" "Ljava/lang/Object;") ∈ GW := gw_t 229 (by decide +kernel) rfl
theorem kw230 : (Jvm.Cond.lays "java/lang/Throwable" "java/lang/Throwable" "backtrace" "Ljava/lang/Object;") ∈ GW := gw_t 230 (by decide +kernel) rfl
theorem kw231 : (Jvm.Cond.fieldLink "java/lang/Throwable" (198 : Nat) "java/lang/Throwable" "backtrace" "Ljava/lang/Object;") ∈ GW := gw_t 231 (by decide +kernel) rfl
theorem kw232 : (Jvm.Cond.superclass "java/lang/Throwable" "java/lang/Object") ∈ GW := gw_t 232 (by decide +kernel) rfl
theorem kw233 : (Jvm.Cond.instanceMethod ({ cls := "java/lang/Throwable", name := "<init>", desc := "()V" } : Jvm.MethodName)) ∈ GW := gw_t 233 (by decide +kernel) rfl
theorem kw234 : (Jvm.Cond.code ({ cls := "java/lang/Throwable", name := "<init>", desc := "()V" } : Jvm.MethodName) prog_17_method_1_code (1 : Nat) (Option.none : Option Jvm.ClassFile.FieldType)) ∈ GW := gw_t 234 (by decide +kernel) rfl
theorem kw235 : (Jvm.Cond.methodLink "java/lang/Throwable" (1 : Nat) ({ cls := "java/lang/Object", name := "<init>", desc := "()V" } : Jvm.MethodName)) ∈ GW := gw_t 235 (by decide +kernel) rfl
theorem kw236 : (Jvm.Cond.fieldLink "java/lang/Throwable" (13 : Nat) "java/lang/Throwable" "UNASSIGNED_STACK" "[Ljava/lang/StackTraceElement;") ∈ GW := gw_t 236 (by decide +kernel) rfl
theorem kw238 : (Jvm.Cond.fieldLink "java/lang/Throwable" (20 : Nat) "java/lang/Throwable" "SUPPRESSED_SENTINEL" "Ljava/util/List;") ∈ GW := gw_t 238 (by decide +kernel) rfl
theorem kw240 : (Jvm.Cond.methodLink "java/lang/Throwable" (27 : Nat) ({ cls := "java/lang/Throwable", name := "fillInStackTrace", desc := "()Ljava/lang/Throwable;" } : Jvm.MethodName)) ∈ GW := gw_t 240 (by decide +kernel) rfl
theorem kw241 : (Jvm.Cond.instanceMethod ({ cls := "java/lang/Throwable", name := "fillInStackTrace", desc := "()Ljava/lang/Throwable;" } : Jvm.MethodName)) ∈ GW := gw_t 241 (by decide +kernel) rfl
theorem kw242 : (Jvm.Cond.sameMethod "java/lang/Throwable" "java/lang/Throwable" "fillInStackTrace" "()Ljava/lang/Throwable;") ∈ GW := gw_t 242 (by decide +kernel) rfl
theorem kw243 : (Jvm.Cond.selects "java/lang/IllegalStateException" ({ cls := "java/lang/Throwable", name := "fillInStackTrace", desc := "()Ljava/lang/Throwable;" } : Jvm.MethodName) ({ cls := "java/lang/Throwable", name := "fillInStackTrace", desc := "()Ljava/lang/Throwable;" } : Jvm.MethodName)) ∈ GW := gw_t 243 (by decide +kernel) rfl
theorem kw244 : (Jvm.Cond.selects "java/lang/IndexOutOfBoundsException" ({ cls := "java/lang/Throwable", name := "fillInStackTrace", desc := "()Ljava/lang/Throwable;" } : Jvm.MethodName) ({ cls := "java/lang/Throwable", name := "fillInStackTrace", desc := "()Ljava/lang/Throwable;" } : Jvm.MethodName)) ∈ GW := gw_t 244 (by decide +kernel) rfl
theorem kw246 : (Jvm.Cond.methodLink "java/lang/Throwable" (202 : Nat) ({ cls := "java/lang/Throwable", name := "fillInStackTrace", desc := "(I)Ljava/lang/Throwable;" } : Jvm.MethodName)) ∈ GW := gw_t 246 (by decide +kernel) rfl
theorem kw248 : (Jvm.Cond.instanceMethod ({ cls := "java/lang/Throwable", name := "fillInStackTrace", desc := "(I)Ljava/lang/Throwable;" } : Jvm.MethodName)) ∈ GW := gw_t 248 (by decide +kernel) rfl
theorem kw249 : (Jvm.Cond.instantiable "java/lang/Throwable" (6 : Nat)) ∈ GW := gw_t 249 (by decide +kernel) rfl
theorem kw250 : (Jvm.Cond.native ({ cls := "java/lang/Throwable", name := "fillInStackTrace", desc := "(I)Ljava/lang/Throwable;" } : Jvm.MethodName)) ∈ GW := gw_t 250 (by decide +kernel) rfl
theorem kw252 : (Jvm.Cond.methodLink "FairyDust" (255 : Nat) ({ cls := "java/lang/IllegalArgumentException", name := "<init>", desc := "(Ljava/lang/String;)V" } : Jvm.MethodName)) ∈ GW := gw_t 252 (by decide +kernel) rfl
theorem kw253 : (Jvm.Cond.instanceMethod ({ cls := "java/lang/IllegalArgumentException", name := "<init>", desc := "(Ljava/lang/String;)V" } : Jvm.MethodName)) ∈ GW := gw_t 253 (by decide +kernel) rfl
theorem kw254 : (Jvm.Cond.code ({ cls := "java/lang/IllegalArgumentException", name := "<init>", desc := "(Ljava/lang/String;)V" } : Jvm.MethodName) prog_9_method_2_code (2 : Nat) (Option.none : Option Jvm.ClassFile.FieldType)) ∈ GW := gw_t 254 (by decide +kernel) rfl
theorem kw255 : (Jvm.Cond.methodLink "java/lang/IllegalArgumentException" (7 : Nat) ({ cls := "java/lang/RuntimeException", name := "<init>", desc := "(Ljava/lang/String;)V" } : Jvm.MethodName)) ∈ GW := gw_t 255 (by decide +kernel) rfl
theorem kw256 : (Jvm.Cond.instanceMethod ({ cls := "java/lang/RuntimeException", name := "<init>", desc := "(Ljava/lang/String;)V" } : Jvm.MethodName)) ∈ GW := gw_t 256 (by decide +kernel) rfl
theorem kw257 : (Jvm.Cond.code ({ cls := "java/lang/RuntimeException", name := "<init>", desc := "(Ljava/lang/String;)V" } : Jvm.MethodName) prog_14_method_2_code (2 : Nat) (Option.none : Option Jvm.ClassFile.FieldType)) ∈ GW := gw_t 257 (by decide +kernel) rfl
theorem kw258 : (Jvm.Cond.methodLink "java/lang/RuntimeException" (7 : Nat) ({ cls := "java/lang/Exception", name := "<init>", desc := "(Ljava/lang/String;)V" } : Jvm.MethodName)) ∈ GW := gw_t 258 (by decide +kernel) rfl
theorem kw259 : (Jvm.Cond.instanceMethod ({ cls := "java/lang/Exception", name := "<init>", desc := "(Ljava/lang/String;)V" } : Jvm.MethodName)) ∈ GW := gw_t 259 (by decide +kernel) rfl
theorem kw260 : (Jvm.Cond.code ({ cls := "java/lang/Exception", name := "<init>", desc := "(Ljava/lang/String;)V" } : Jvm.MethodName) prog_8_method_2_code (2 : Nat) (Option.none : Option Jvm.ClassFile.FieldType)) ∈ GW := gw_t 260 (by decide +kernel) rfl
theorem kw261 : (Jvm.Cond.methodLink "java/lang/Exception" (7 : Nat) ({ cls := "java/lang/Throwable", name := "<init>", desc := "(Ljava/lang/String;)V" } : Jvm.MethodName)) ∈ GW := gw_t 261 (by decide +kernel) rfl
theorem kw262 : (Jvm.Cond.instanceMethod ({ cls := "java/lang/Throwable", name := "<init>", desc := "(Ljava/lang/String;)V" } : Jvm.MethodName)) ∈ GW := gw_t 262 (by decide +kernel) rfl
theorem kw263 : (Jvm.Cond.code ({ cls := "java/lang/Throwable", name := "<init>", desc := "(Ljava/lang/String;)V" } : Jvm.MethodName) prog_17_method_2_code (2 : Nat) (Option.none : Option Jvm.ClassFile.FieldType)) ∈ GW := gw_t 263 (by decide +kernel) rfl
theorem kw264 : (Jvm.Cond.fieldLink "java/lang/Throwable" (198 : Nat) "java/lang/Throwable" "backtrace" "Ljava/lang/Object;") ∈ GW := gw_t 264 (by decide +kernel) rfl
theorem kw265 : (Jvm.Cond.fieldLink "java/lang/Throwable" (31 : Nat) "java/lang/Throwable" "detailMessage" "Ljava/lang/String;") ∈ GW := gw_t 265 (by decide +kernel) rfl
theorem kw266 : (Jvm.Cond.fieldLink "java/lang/Throwable" (7 : Nat) "java/lang/Throwable" "cause" "Ljava/lang/Throwable;") ∈ GW := gw_t 266 (by decide +kernel) rfl
theorem kw267 : (Jvm.Cond.fieldLink "java/lang/Throwable" (17 : Nat) "java/lang/Throwable" "stackTrace" "[Ljava/lang/StackTraceElement;") ∈ GW := gw_t 267 (by decide +kernel) rfl
theorem kw268 : (Jvm.Cond.fieldLink "java/lang/Throwable" (24 : Nat) "java/lang/Throwable" "suppressedExceptions" "Ljava/util/List;") ∈ GW := gw_t 268 (by decide +kernel) rfl
theorem kw273 : (Jvm.Cond.lays "java/lang/IllegalArgumentException" "java/lang/Throwable" "depth" "I") ∈ GW := gw_t 273 (by decide +kernel) rfl
theorem kw276 : (Jvm.Cond.superclass "java/lang/IllegalArgumentException" "java/lang/RuntimeException") ∈ GW := gw_t 276 (by decide +kernel) rfl
theorem kw277 : (Jvm.Cond.arrayClass Jvm.ClassFile.FieldType.byte) ∈ GW := gw_t 277 (by decide +kernel) rfl
theorem kw278 : (Jvm.Cond.methodLinkNest "FairyDust" (146 : Nat) ({ cls := "FairyDust$Child", name := "canHave", desc := "(I)Z" } : Jvm.MethodName) "FairyDust") ∈ GW := gw_t 278 (by decide +kernel) rfl
theorem kw280 : (Jvm.Cond.instanceMethod ({ cls := "FairyDust$Child", name := "canHave", desc := "(I)Z" } : Jvm.MethodName)) ∈ GW := gw_t 280 (by decide +kernel) rfl
theorem kw281 : (Jvm.Cond.code ({ cls := "FairyDust$Child", name := "canHave", desc := "(I)Z" } : Jvm.MethodName) prog_2_method_5_code (2 : Nat) (Option.some Jvm.ClassFile.FieldType.boolean)) ∈ GW := gw_t 281 (by decide +kernel) rfl
theorem kw282 : (Jvm.Cond.methodLink "FairyDust$Child" (40 : Nat) ({ cls := "FairyDust$Child", name := "grainsAtHand", desc := "()I" } : Jvm.MethodName)) ∈ GW := gw_t 282 (by decide +kernel) rfl
theorem kw284 : (Jvm.Cond.instanceMethod ({ cls := "FairyDust$Child", name := "grainsAtHand", desc := "()I" } : Jvm.MethodName)) ∈ GW := gw_t 284 (by decide +kernel) rfl
theorem kw285 : (Jvm.Cond.code ({ cls := "FairyDust$Child", name := "grainsAtHand", desc := "()I" } : Jvm.MethodName) prog_2_method_4_code (1 : Nat) (Option.some Jvm.ClassFile.FieldType.int)) ∈ GW := gw_t 285 (by decide +kernel) rfl
theorem kw286 : (Jvm.Cond.methodLink "FairyDust$Child" (31 : Nat) ({ cls := "FairyDust$Child", name := "isPunished", desc := "()Z" } : Jvm.MethodName)) ∈ GW := gw_t 286 (by decide +kernel) rfl
theorem kw287 : (Jvm.Cond.methodLinkNest "FairyDust" (158 : Nat) ({ cls := "FairyDust$Child", name := "dustLeftAfter", desc := "(I)I" } : Jvm.MethodName) "FairyDust") ∈ GW := gw_t 287 (by decide +kernel) rfl
theorem kw289 : (Jvm.Cond.instanceMethod ({ cls := "FairyDust$Child", name := "dustLeftAfter", desc := "(I)I" } : Jvm.MethodName)) ∈ GW := gw_t 289 (by decide +kernel) rfl
theorem kw290 : (Jvm.Cond.code ({ cls := "FairyDust$Child", name := "dustLeftAfter", desc := "(I)I" } : Jvm.MethodName) prog_2_method_6_code (2 : Nat) (Option.some Jvm.ClassFile.FieldType.int)) ∈ GW := gw_t 290 (by decide +kernel) rfl
theorem kw291 : (Jvm.Cond.methodLink "FairyDust$Child" (44 : Nat) ({ cls := "java/lang/Math", name := "max", desc := "(II)I" } : Jvm.MethodName)) ∈ GW := gw_t 291 (by decide +kernel) rfl
theorem kw292 : (Jvm.Cond.static ({ cls := "java/lang/Math", name := "max", desc := "(II)I" } : Jvm.MethodName)) ∈ GW := gw_t 292 (by decide +kernel) rfl
theorem kw293 : (Jvm.Cond.code ({ cls := "java/lang/Math", name := "max", desc := "(II)I" } : Jvm.MethodName) prog_13_method_65_code (2 : Nat) (Option.some Jvm.ClassFile.FieldType.int)) ∈ GW := gw_t 293 (by decide +kernel) rfl
theorem kw294 : (Jvm.Cond.methodLink "FairyDust" (184 : Nat) ({ cls := "FairyDust", name := "withWand", desc := "(JI)J" } : Jvm.MethodName)) ∈ GW := gw_t 294 (by decide +kernel) rfl
theorem kw296 : (Jvm.Cond.instanceMethod ({ cls := "FairyDust", name := "withWand", desc := "(JI)J" } : Jvm.MethodName)) ∈ GW := gw_t 296 (by decide +kernel) rfl
theorem kw297 : (Jvm.Cond.code ({ cls := "FairyDust", name := "withWand", desc := "(JI)J" } : Jvm.MethodName) prog_1_method_32_code (6 : Nat) (Option.some Jvm.ClassFile.FieldType.long)) ∈ GW := gw_t 297 (by decide +kernel) rfl
theorem kw298 : (Jvm.Cond.methodLink "FairyDust" (190 : Nat) ({ cls := "FairyDust", name := "dustIn", desc := "(I)I" } : Jvm.MethodName)) ∈ GW := gw_t 298 (by decide +kernel) rfl
theorem kw299 : (Jvm.Cond.instanceMethod ({ cls := "FairyDust", name := "dustIn", desc := "(I)I" } : Jvm.MethodName)) ∈ GW := gw_t 299 (by decide +kernel) rfl
theorem kw300 : (Jvm.Cond.selects "FairyDust" ({ cls := "FairyDust", name := "dustIn", desc := "(I)I" } : Jvm.MethodName) ({ cls := "FairyDust", name := "dustIn", desc := "(I)I" } : Jvm.MethodName)) ∈ GW := gw_t 300 (by decide +kernel) rfl
theorem kw301 : (Jvm.Cond.code ({ cls := "FairyDust", name := "dustIn", desc := "(I)I" } : Jvm.MethodName) prog_1_method_16_code (2 : Nat) (Option.some Jvm.ClassFile.FieldType.int)) ∈ GW := gw_t 301 (by decide +kernel) rfl
theorem kw302 : (Jvm.Cond.methodLink "FairyDust" (55 : Nat) ({ cls := "FairyDust", name := "wandAt", desc := "(I)LFairyDust$Wand;" } : Jvm.MethodName)) ∈ GW := gw_t 302 (by decide +kernel) rfl
theorem kw304 : (Jvm.Cond.instanceMethod ({ cls := "FairyDust", name := "wandAt", desc := "(I)LFairyDust$Wand;" } : Jvm.MethodName)) ∈ GW := gw_t 304 (by decide +kernel) rfl
theorem kw305 : (Jvm.Cond.code ({ cls := "FairyDust", name := "wandAt", desc := "(I)LFairyDust$Wand;" } : Jvm.MethodName) prog_1_method_39_code (2 : Nat) (Option.some (Jvm.ClassFile.FieldType.object "FairyDust$Wand"))) ∈ GW := gw_t 305 (by decide +kernel) rfl
theorem kw306 : (Jvm.Cond.classLink "FairyDust" (244 : Nat) "java/lang/IndexOutOfBoundsException") ∈ GW := gw_t 306 (by decide +kernel) rfl
theorem kw307 : (Jvm.Cond.instantiable "java/lang/IndexOutOfBoundsException" (6 : Nat)) ∈ GW := gw_t 307 (by decide +kernel) rfl
theorem kw308 : (Jvm.Cond.castable "java/lang/IndexOutOfBoundsException" "java/lang/IndexOutOfBoundsException") ∈ GW := gw_t 308 (by decide +kernel) rfl
theorem kw309 : (Jvm.Cond.selects "java/lang/IndexOutOfBoundsException" ({ cls := "java/lang/Throwable", name := "fillInStackTrace", desc := "(I)Ljava/lang/Throwable;" } : Jvm.MethodName) ({ cls := "java/lang/Throwable", name := "fillInStackTrace", desc := "(I)Ljava/lang/Throwable;" } : Jvm.MethodName)) ∈ GW := gw_t 309 (by decide +kernel) rfl
theorem kw310 : (Jvm.Cond.lays "java/lang/IndexOutOfBoundsException" "java/lang/Throwable" "cause" "Ljava/lang/Throwable;") ∈ GW := gw_t 310 (by decide +kernel) rfl
theorem kw311 : (Jvm.Cond.lays "java/lang/IndexOutOfBoundsException" "java/lang/Throwable" "stackTrace" "[Ljava/lang/StackTraceElement;") ∈ GW := gw_t 311 (by decide +kernel) rfl
theorem kw312 : (Jvm.Cond.lays "java/lang/IndexOutOfBoundsException" "java/lang/Throwable" "suppressedExceptions" "Ljava/util/List;") ∈ GW := gw_t 312 (by decide +kernel) rfl
theorem kw313 : (Jvm.Cond.lays "java/lang/IndexOutOfBoundsException" "java/lang/Throwable" "detailMessage" "Ljava/lang/String;") ∈ GW := gw_t 313 (by decide +kernel) rfl
theorem kw314 : (Jvm.Cond.lays "java/lang/IndexOutOfBoundsException" "java/lang/Throwable" "backtrace" "Ljava/lang/Object;") ∈ GW := gw_t 314 (by decide +kernel) rfl
theorem kw316 : (Jvm.Cond.methodLink "FairyDust" (248 : Nat) ({ cls := "java/lang/IndexOutOfBoundsException", name := "<init>", desc := "(Ljava/lang/String;)V" } : Jvm.MethodName)) ∈ GW := gw_t 316 (by decide +kernel) rfl
theorem kw317 : (Jvm.Cond.instanceMethod ({ cls := "java/lang/IndexOutOfBoundsException", name := "<init>", desc := "(Ljava/lang/String;)V" } : Jvm.MethodName)) ∈ GW := gw_t 317 (by decide +kernel) rfl
theorem kw318 : (Jvm.Cond.code ({ cls := "java/lang/IndexOutOfBoundsException", name := "<init>", desc := "(Ljava/lang/String;)V" } : Jvm.MethodName) prog_11_method_2_code (2 : Nat) (Option.none : Option Jvm.ClassFile.FieldType)) ∈ GW := gw_t 318 (by decide +kernel) rfl
theorem kw319 : (Jvm.Cond.methodLink "java/lang/IndexOutOfBoundsException" (7 : Nat) ({ cls := "java/lang/RuntimeException", name := "<init>", desc := "(Ljava/lang/String;)V" } : Jvm.MethodName)) ∈ GW := gw_t 319 (by decide +kernel) rfl
theorem kw320 : (Jvm.Cond.lays "java/lang/IndexOutOfBoundsException" "java/lang/Throwable" "depth" "I") ∈ GW := gw_t 320 (by decide +kernel) rfl
theorem kw321 : (Jvm.Cond.superclass "java/lang/IndexOutOfBoundsException" "java/lang/RuntimeException") ∈ GW := gw_t 321 (by decide +kernel) rfl
theorem kw322 : (Jvm.Cond.methodLink "FairyDust" (193 : Nat) ({ cls := "FairyDust", name := "users", desc := "(I)I" } : Jvm.MethodName)) ∈ GW := gw_t 322 (by decide +kernel) rfl
theorem kw323 : (Jvm.Cond.instanceMethod ({ cls := "FairyDust", name := "users", desc := "(I)I" } : Jvm.MethodName)) ∈ GW := gw_t 323 (by decide +kernel) rfl
theorem kw324 : (Jvm.Cond.selects "FairyDust" ({ cls := "FairyDust", name := "users", desc := "(I)I" } : Jvm.MethodName) ({ cls := "FairyDust", name := "users", desc := "(I)I" } : Jvm.MethodName)) ∈ GW := gw_t 324 (by decide +kernel) rfl
theorem kw325 : (Jvm.Cond.code ({ cls := "FairyDust", name := "users", desc := "(I)I" } : Jvm.MethodName) prog_1_method_17_code (5 : Nat) (Option.some Jvm.ClassFile.FieldType.int)) ∈ GW := gw_t 325 (by decide +kernel) rfl
theorem kw326 : (Jvm.Cond.methodLink "FairyDust" (196 : Nat) ({ cls := "FairyDust", name := "hoursUntilFull", desc := "(I)I" } : Jvm.MethodName)) ∈ GW := gw_t 326 (by decide +kernel) rfl
theorem kw327 : (Jvm.Cond.instanceMethod ({ cls := "FairyDust", name := "hoursUntilFull", desc := "(I)I" } : Jvm.MethodName)) ∈ GW := gw_t 327 (by decide +kernel) rfl
theorem kw328 : (Jvm.Cond.selects "FairyDust" ({ cls := "FairyDust", name := "hoursUntilFull", desc := "(I)I" } : Jvm.MethodName) ({ cls := "FairyDust", name := "hoursUntilFull", desc := "(I)I" } : Jvm.MethodName)) ∈ GW := gw_t 328 (by decide +kernel) rfl
theorem kw329 : (Jvm.Cond.code ({ cls := "FairyDust", name := "hoursUntilFull", desc := "(I)I" } : Jvm.MethodName) prog_1_method_28_code (4 : Nat) (Option.some Jvm.ClassFile.FieldType.int)) ∈ GW := gw_t 329 (by decide +kernel) rfl
theorem kw330 : (Jvm.Cond.methodLinkNest "FairyDust" (155 : Nat) ({ cls := "FairyDust$Wand", name := "isFullAfter", desc := "(I)Z" } : Jvm.MethodName) "FairyDust") ∈ GW := gw_t 330 (by decide +kernel) rfl
theorem kw332 : (Jvm.Cond.instanceMethod ({ cls := "FairyDust$Wand", name := "isFullAfter", desc := "(I)Z" } : Jvm.MethodName)) ∈ GW := gw_t 332 (by decide +kernel) rfl
theorem kw333 : (Jvm.Cond.code ({ cls := "FairyDust$Wand", name := "isFullAfter", desc := "(I)Z" } : Jvm.MethodName) prog_3_method_4_code (2 : Nat) (Option.some Jvm.ClassFile.FieldType.boolean)) ∈ GW := gw_t 333 (by decide +kernel) rfl
theorem kw334 : (Jvm.Cond.methodLink "FairyDust" (187 : Nat) ({ cls := "FairyDust", name := "withChild", desc := "(JI)J" } : Jvm.MethodName)) ∈ GW := gw_t 334 (by decide +kernel) rfl
theorem kw336 : (Jvm.Cond.instanceMethod ({ cls := "FairyDust", name := "withChild", desc := "(JI)J" } : Jvm.MethodName)) ∈ GW := gw_t 336 (by decide +kernel) rfl
theorem kw337 : (Jvm.Cond.code ({ cls := "FairyDust", name := "withChild", desc := "(JI)J" } : Jvm.MethodName) prog_1_method_33_code (6 : Nat) (Option.some Jvm.ClassFile.FieldType.long)) ∈ GW := gw_t 337 (by decide +kernel) rfl
theorem kw338 : (Jvm.Cond.methodLink "FairyDust" (199 : Nat) ({ cls := "FairyDust", name := "wandOf", desc := "(I)I" } : Jvm.MethodName)) ∈ GW := gw_t 338 (by decide +kernel) rfl
theorem kw339 : (Jvm.Cond.instanceMethod ({ cls := "FairyDust", name := "wandOf", desc := "(I)I" } : Jvm.MethodName)) ∈ GW := gw_t 339 (by decide +kernel) rfl
theorem kw340 : (Jvm.Cond.selects "FairyDust" ({ cls := "FairyDust", name := "wandOf", desc := "(I)I" } : Jvm.MethodName) ({ cls := "FairyDust", name := "wandOf", desc := "(I)I" } : Jvm.MethodName)) ∈ GW := gw_t 340 (by decide +kernel) rfl
theorem kw341 : (Jvm.Cond.code ({ cls := "FairyDust", name := "wandOf", desc := "(I)I" } : Jvm.MethodName) prog_1_method_18_code (2 : Nat) (Option.some Jvm.ClassFile.FieldType.int)) ∈ GW := gw_t 341 (by decide +kernel) rfl
theorem kw342 : (Jvm.Cond.methodLink "FairyDust" (68 : Nat) ({ cls := "FairyDust", name := "childAt", desc := "(I)LFairyDust$Child;" } : Jvm.MethodName)) ∈ GW := gw_t 342 (by decide +kernel) rfl
theorem kw344 : (Jvm.Cond.instanceMethod ({ cls := "FairyDust", name := "childAt", desc := "(I)LFairyDust$Child;" } : Jvm.MethodName)) ∈ GW := gw_t 344 (by decide +kernel) rfl
theorem kw345 : (Jvm.Cond.code ({ cls := "FairyDust", name := "childAt", desc := "(I)LFairyDust$Child;" } : Jvm.MethodName) prog_1_method_40_code (2 : Nat) (Option.some (Jvm.ClassFile.FieldType.object "FairyDust$Child"))) ∈ GW := gw_t 345 (by decide +kernel) rfl
theorem kw347 : (Jvm.Cond.methodLink "FairyDust" (202 : Nat) ({ cls := "FairyDust", name := "burstOf", desc := "(I)I" } : Jvm.MethodName)) ∈ GW := gw_t 347 (by decide +kernel) rfl
theorem kw348 : (Jvm.Cond.instanceMethod ({ cls := "FairyDust", name := "burstOf", desc := "(I)I" } : Jvm.MethodName)) ∈ GW := gw_t 348 (by decide +kernel) rfl
theorem kw349 : (Jvm.Cond.selects "FairyDust" ({ cls := "FairyDust", name := "burstOf", desc := "(I)I" } : Jvm.MethodName) ({ cls := "FairyDust", name := "burstOf", desc := "(I)I" } : Jvm.MethodName)) ∈ GW := gw_t 349 (by decide +kernel) rfl
theorem kw350 : (Jvm.Cond.code ({ cls := "FairyDust", name := "burstOf", desc := "(I)I" } : Jvm.MethodName) prog_1_method_19_code (2 : Nat) (Option.some Jvm.ClassFile.FieldType.int)) ∈ GW := gw_t 350 (by decide +kernel) rfl
theorem kw351 : (Jvm.Cond.methodLink "FairyDust" (205 : Nat) ({ cls := "FairyDust", name := "punishedFor", desc := "(I)I" } : Jvm.MethodName)) ∈ GW := gw_t 351 (by decide +kernel) rfl
theorem kw352 : (Jvm.Cond.instanceMethod ({ cls := "FairyDust", name := "punishedFor", desc := "(I)I" } : Jvm.MethodName)) ∈ GW := gw_t 352 (by decide +kernel) rfl
theorem kw353 : (Jvm.Cond.selects "FairyDust" ({ cls := "FairyDust", name := "punishedFor", desc := "(I)I" } : Jvm.MethodName) ({ cls := "FairyDust", name := "punishedFor", desc := "(I)I" } : Jvm.MethodName)) ∈ GW := gw_t 353 (by decide +kernel) rfl
theorem kw354 : (Jvm.Cond.code ({ cls := "FairyDust", name := "punishedFor", desc := "(I)I" } : Jvm.MethodName) prog_1_method_20_code (2 : Nat) (Option.some Jvm.ClassFile.FieldType.int)) ∈ GW := gw_t 354 (by decide +kernel) rfl
theorem kw355 : (Jvm.Cond.methodLink "FairyDust" (208 : Nat) ({ cls := "FairyDust", name := "marksOf", desc := "(I)I" } : Jvm.MethodName)) ∈ GW := gw_t 355 (by decide +kernel) rfl
theorem kw356 : (Jvm.Cond.instanceMethod ({ cls := "FairyDust", name := "marksOf", desc := "(I)I" } : Jvm.MethodName)) ∈ GW := gw_t 356 (by decide +kernel) rfl
theorem kw357 : (Jvm.Cond.selects "FairyDust" ({ cls := "FairyDust", name := "marksOf", desc := "(I)I" } : Jvm.MethodName) ({ cls := "FairyDust", name := "marksOf", desc := "(I)I" } : Jvm.MethodName)) ∈ GW := gw_t 357 (by decide +kernel) rfl
theorem kw358 : (Jvm.Cond.code ({ cls := "FairyDust", name := "marksOf", desc := "(I)I" } : Jvm.MethodName) prog_1_method_21_code (2 : Nat) (Option.some Jvm.ClassFile.FieldType.int)) ∈ GW := gw_t 358 (by decide +kernel) rfl
theorem kw359 : (Jvm.Cond.methodLink "FairyDust" (211 : Nat) ({ cls := "FairyDust", name := "nextPunishment", desc := "(I)I" } : Jvm.MethodName)) ∈ GW := gw_t 359 (by decide +kernel) rfl
theorem kw360 : (Jvm.Cond.instanceMethod ({ cls := "FairyDust", name := "nextPunishment", desc := "(I)I" } : Jvm.MethodName)) ∈ GW := gw_t 360 (by decide +kernel) rfl
theorem kw361 : (Jvm.Cond.selects "FairyDust" ({ cls := "FairyDust", name := "nextPunishment", desc := "(I)I" } : Jvm.MethodName) ({ cls := "FairyDust", name := "nextPunishment", desc := "(I)I" } : Jvm.MethodName)) ∈ GW := gw_t 361 (by decide +kernel) rfl
theorem kw362 : (Jvm.Cond.code ({ cls := "FairyDust", name := "nextPunishment", desc := "(I)I" } : Jvm.MethodName) prog_1_method_22_code (2 : Nat) (Option.some Jvm.ClassFile.FieldType.int)) ∈ GW := gw_t 362 (by decide +kernel) rfl
theorem kw363 : (Jvm.Cond.methodLink "FairyDust" (214 : Nat) ({ cls := "FairyDust", name := "daysToBirthday", desc := "(I)I" } : Jvm.MethodName)) ∈ GW := gw_t 363 (by decide +kernel) rfl
theorem kw364 : (Jvm.Cond.instanceMethod ({ cls := "FairyDust", name := "daysToBirthday", desc := "(I)I" } : Jvm.MethodName)) ∈ GW := gw_t 364 (by decide +kernel) rfl
theorem kw365 : (Jvm.Cond.selects "FairyDust" ({ cls := "FairyDust", name := "daysToBirthday", desc := "(I)I" } : Jvm.MethodName) ({ cls := "FairyDust", name := "daysToBirthday", desc := "(I)I" } : Jvm.MethodName)) ∈ GW := gw_t 365 (by decide +kernel) rfl
theorem kw366 : (Jvm.Cond.code ({ cls := "FairyDust", name := "daysToBirthday", desc := "(I)I" } : Jvm.MethodName) prog_1_method_23_code (2 : Nat) (Option.some Jvm.ClassFile.FieldType.int)) ∈ GW := gw_t 366 (by decide +kernel) rfl
theorem kw367 : (Jvm.Cond.methodLink "FairyDust" (130 : Nat) ({ cls := "java/lang/Math", name := "floorMod", desc := "(II)I" } : Jvm.MethodName)) ∈ GW := gw_t 367 (by decide +kernel) rfl
theorem kw368 : (Jvm.Cond.static ({ cls := "java/lang/Math", name := "floorMod", desc := "(II)I" } : Jvm.MethodName)) ∈ GW := gw_t 368 (by decide +kernel) rfl
theorem kw369 : (Jvm.Cond.code ({ cls := "java/lang/Math", name := "floorMod", desc := "(II)I" } : Jvm.MethodName) prog_13_method_50_code (3 : Nat) (Option.some Jvm.ClassFile.FieldType.int)) ∈ GW := gw_t 369 (by decide +kernel) rfl
theorem kw370 : (Jvm.Cond.methodLink "FairyDust" (217 : Nat) ({ cls := "FairyDust", name := "greatestWish", desc := "(I)I" } : Jvm.MethodName)) ∈ GW := gw_t 370 (by decide +kernel) rfl
theorem kw371 : (Jvm.Cond.instanceMethod ({ cls := "FairyDust", name := "greatestWish", desc := "(I)I" } : Jvm.MethodName)) ∈ GW := gw_t 371 (by decide +kernel) rfl
theorem kw372 : (Jvm.Cond.selects "FairyDust" ({ cls := "FairyDust", name := "greatestWish", desc := "(I)I" } : Jvm.MethodName) ({ cls := "FairyDust", name := "greatestWish", desc := "(I)I" } : Jvm.MethodName)) ∈ GW := gw_t 372 (by decide +kernel) rfl
theorem kw373 : (Jvm.Cond.code ({ cls := "FairyDust", name := "greatestWish", desc := "(I)I" } : Jvm.MethodName) prog_1_method_24_code (2 : Nat) (Option.some Jvm.ClassFile.FieldType.int)) ∈ GW := gw_t 373 (by decide +kernel) rfl
theorem kw374 : (Jvm.Cond.methodLinkNest "FairyDust" (136 : Nat) ({ cls := "FairyDust$Child", name := "grainsAtHand", desc := "()I" } : Jvm.MethodName) "FairyDust") ∈ GW := gw_t 374 (by decide +kernel) rfl
theorem kw375 : (Jvm.Cond.methodLink "FairyDust" (139 : Nat) ({ cls := "java/lang/Math", name := "min", desc := "(II)I" } : Jvm.MethodName)) ∈ GW := gw_t 375 (by decide +kernel) rfl
theorem kw376 : (Jvm.Cond.static ({ cls := "java/lang/Math", name := "min", desc := "(II)I" } : Jvm.MethodName)) ∈ GW := gw_t 376 (by decide +kernel) rfl
theorem kw377 : (Jvm.Cond.code ({ cls := "java/lang/Math", name := "min", desc := "(II)I" } : Jvm.MethodName) prog_13_method_69_code (2 : Nat) (Option.some Jvm.ClassFile.FieldType.int)) ∈ GW := gw_t 377 (by decide +kernel) rfl
theorem kw378 : (Jvm.Cond.methodLink "FairyDust" (220 : Nat) ({ cls := "FairyDust", name := "hoursUntil", desc := "(II)I" } : Jvm.MethodName)) ∈ GW := gw_t 378 (by decide +kernel) rfl
theorem kw379 : (Jvm.Cond.instanceMethod ({ cls := "FairyDust", name := "hoursUntil", desc := "(II)I" } : Jvm.MethodName)) ∈ GW := gw_t 379 (by decide +kernel) rfl
theorem kw380 : (Jvm.Cond.selects "FairyDust" ({ cls := "FairyDust", name := "hoursUntil", desc := "(II)I" } : Jvm.MethodName) ({ cls := "FairyDust", name := "hoursUntil", desc := "(II)I" } : Jvm.MethodName)) ∈ GW := gw_t 380 (by decide +kernel) rfl
theorem kw381 : (Jvm.Cond.code ({ cls := "FairyDust", name := "hoursUntil", desc := "(II)I" } : Jvm.MethodName) prog_1_method_25_code (5 : Nat) (Option.some Jvm.ClassFile.FieldType.int)) ∈ GW := gw_t 381 (by decide +kernel) rfl
theorem kw382 : (Jvm.Cond.methodLink "FairyDust" (142 : Nat) ({ cls := "FairyDust", name := "beginTrial", desc := "(LFairyDust$Child;)V" } : Jvm.MethodName)) ∈ GW := gw_t 382 (by decide +kernel) rfl
theorem kw384 : (Jvm.Cond.instanceMethod ({ cls := "FairyDust", name := "beginTrial", desc := "(LFairyDust$Child;)V" } : Jvm.MethodName)) ∈ GW := gw_t 384 (by decide +kernel) rfl
theorem kw385 : (Jvm.Cond.code ({ cls := "FairyDust", name := "beginTrial", desc := "(LFairyDust$Child;)V" } : Jvm.MethodName) prog_1_method_36_code (2 : Nat) (Option.none : Option Jvm.ClassFile.FieldType)) ∈ GW := gw_t 385 (by decide +kernel) rfl
theorem kw386 : (Jvm.Cond.methodLinkNest "FairyDust" (238 : Nat) ({ cls := "FairyDust$Wand", name := "copyFrom", desc := "(LFairyDust$Wand;)V" } : Jvm.MethodName) "FairyDust") ∈ GW := gw_t 386 (by decide +kernel) rfl
theorem kw388 : (Jvm.Cond.instanceMethod ({ cls := "FairyDust$Wand", name := "copyFrom", desc := "(LFairyDust$Wand;)V" } : Jvm.MethodName)) ∈ GW := gw_t 388 (by decide +kernel) rfl
theorem kw389 : (Jvm.Cond.code ({ cls := "FairyDust$Wand", name := "copyFrom", desc := "(LFairyDust$Wand;)V" } : Jvm.MethodName) prog_3_method_2_code (2 : Nat) (Option.none : Option Jvm.ClassFile.FieldType)) ∈ GW := gw_t 389 (by decide +kernel) rfl
theorem kw390 : (Jvm.Cond.methodLinkNest "FairyDust" (242 : Nat) ({ cls := "FairyDust$Child", name := "copyFrom", desc := "(LFairyDust$Child;)V" } : Jvm.MethodName) "FairyDust") ∈ GW := gw_t 390 (by decide +kernel) rfl
theorem kw392 : (Jvm.Cond.instanceMethod ({ cls := "FairyDust$Child", name := "copyFrom", desc := "(LFairyDust$Child;)V" } : Jvm.MethodName)) ∈ GW := gw_t 392 (by decide +kernel) rfl
theorem kw393 : (Jvm.Cond.code ({ cls := "FairyDust$Child", name := "copyFrom", desc := "(LFairyDust$Child;)V" } : Jvm.MethodName) prog_2_method_2_code (2 : Nat) (Option.none : Option Jvm.ClassFile.FieldType)) ∈ GW := gw_t 393 (by decide +kernel) rfl
theorem kw394 : (Jvm.Cond.methodLink "FairyDust" (149 : Nat) ({ cls := "FairyDust", name := "passTrialHour", desc := "(I)V" } : Jvm.MethodName)) ∈ GW := gw_t 394 (by decide +kernel) rfl
theorem kw396 : (Jvm.Cond.instanceMethod ({ cls := "FairyDust", name := "passTrialHour", desc := "(I)V" } : Jvm.MethodName)) ∈ GW := gw_t 396 (by decide +kernel) rfl
theorem kw397 : (Jvm.Cond.code ({ cls := "FairyDust", name := "passTrialHour", desc := "(I)V" } : Jvm.MethodName) prog_1_method_37_code (2 : Nat) (Option.none : Option Jvm.ClassFile.FieldType)) ∈ GW := gw_t 397 (by decide +kernel) rfl
theorem kw398 : (Jvm.Cond.methodLinkNest "FairyDust" (232 : Nat) ({ cls := "FairyDust$Wand", name := "letFall", desc := "()I" } : Jvm.MethodName) "FairyDust") ∈ GW := gw_t 398 (by decide +kernel) rfl
theorem kw400 : (Jvm.Cond.instanceMethod ({ cls := "FairyDust$Wand", name := "letFall", desc := "()I" } : Jvm.MethodName)) ∈ GW := gw_t 400 (by decide +kernel) rfl
theorem kw401 : (Jvm.Cond.code ({ cls := "FairyDust$Wand", name := "letFall", desc := "()I" } : Jvm.MethodName) prog_3_method_3_code (2 : Nat) (Option.some Jvm.ClassFile.FieldType.int)) ∈ GW := gw_t 401 (by decide +kernel) rfl
theorem kw402 : (Jvm.Cond.methodLink "FairyDust$Wand" (22 : Nat) ({ cls := "java/lang/Math", name := "min", desc := "(II)I" } : Jvm.MethodName)) ∈ GW := gw_t 402 (by decide +kernel) rfl
theorem kw403 : (Jvm.Cond.methodLinkNest "FairyDust" (235 : Nat) ({ cls := "FairyDust$Child", name := "liveTo", desc := "(I)V" } : Jvm.MethodName) "FairyDust") ∈ GW := gw_t 403 (by decide +kernel) rfl
theorem kw405 : (Jvm.Cond.instanceMethod ({ cls := "FairyDust$Child", name := "liveTo", desc := "(I)V" } : Jvm.MethodName)) ∈ GW := gw_t 405 (by decide +kernel) rfl
theorem kw406 : (Jvm.Cond.code ({ cls := "FairyDust$Child", name := "liveTo", desc := "(I)V" } : Jvm.MethodName) prog_2_method_11_code (2 : Nat) (Option.none : Option Jvm.ClassFile.FieldType)) ∈ GW := gw_t 406 (by decide +kernel) rfl
theorem kw407 : (Jvm.Cond.methodLink "FairyDust$Child" (68 : Nat) ({ cls := "FairyDust$Child", name := "beginDay", desc := "(I)V" } : Jvm.MethodName)) ∈ GW := gw_t 407 (by decide +kernel) rfl
theorem kw409 : (Jvm.Cond.instanceMethod ({ cls := "FairyDust$Child", name := "beginDay", desc := "(I)V" } : Jvm.MethodName)) ∈ GW := gw_t 409 (by decide +kernel) rfl
theorem kw410 : (Jvm.Cond.code ({ cls := "FairyDust$Child", name := "beginDay", desc := "(I)V" } : Jvm.MethodName) prog_2_method_12_code (2 : Nat) (Option.none : Option Jvm.ClassFile.FieldType)) ∈ GW := gw_t 410 (by decide +kernel) rfl
theorem kw411 : (Jvm.Cond.methodLink "FairyDust" (223 : Nat) ({ cls := "FairyDust", name := "grantedIn", desc := "(III)I" } : Jvm.MethodName)) ∈ GW := gw_t 411 (by decide +kernel) rfl
theorem kw412 : (Jvm.Cond.instanceMethod ({ cls := "FairyDust", name := "grantedIn", desc := "(III)I" } : Jvm.MethodName)) ∈ GW := gw_t 412 (by decide +kernel) rfl
theorem kw413 : (Jvm.Cond.selects "FairyDust" ({ cls := "FairyDust", name := "grantedIn", desc := "(III)I" } : Jvm.MethodName) ({ cls := "FairyDust", name := "grantedIn", desc := "(III)I" } : Jvm.MethodName)) ∈ GW := gw_t 413 (by decide +kernel) rfl
theorem kw414 : (Jvm.Cond.code ({ cls := "FairyDust", name := "grantedIn", desc := "(III)I" } : Jvm.MethodName) prog_1_method_26_code (5 : Nat) (Option.some Jvm.ClassFile.FieldType.int)) ∈ GW := gw_t 414 (by decide +kernel) rfl
theorem kw415 : (Jvm.Cond.methodLink "FairyDust" (152 : Nat) ({ cls := "FairyDust", name := "tryWishes", desc := "(II)I" } : Jvm.MethodName)) ∈ GW := gw_t 415 (by decide +kernel) rfl
theorem kw417 : (Jvm.Cond.instanceMethod ({ cls := "FairyDust", name := "tryWishes", desc := "(II)I" } : Jvm.MethodName)) ∈ GW := gw_t 417 (by decide +kernel) rfl
theorem kw418 : (Jvm.Cond.code ({ cls := "FairyDust", name := "tryWishes", desc := "(II)I" } : Jvm.MethodName) prog_1_method_38_code (5 : Nat) (Option.some Jvm.ClassFile.FieldType.int)) ∈ GW := gw_t 418 (by decide +kernel) rfl
theorem kw419 : (Jvm.Cond.methodLinkNest "FairyDust" (85 : Nat) ({ cls := "FairyDust$Child", name := "makeWish", desc := "(I)Z" } : Jvm.MethodName) "FairyDust") ∈ GW := gw_t 419 (by decide +kernel) rfl
theorem kw421 : (Jvm.Cond.instanceMethod ({ cls := "FairyDust$Child", name := "makeWish", desc := "(I)Z" } : Jvm.MethodName)) ∈ GW := gw_t 421 (by decide +kernel) rfl
theorem kw422 : (Jvm.Cond.code ({ cls := "FairyDust$Child", name := "makeWish", desc := "(I)Z" } : Jvm.MethodName) prog_2_method_7_code (2 : Nat) (Option.some Jvm.ClassFile.FieldType.boolean)) ∈ GW := gw_t 422 (by decide +kernel) rfl
theorem kw423 : (Jvm.Cond.methodLink "FairyDust$Child" (50 : Nat) ({ cls := "FairyDust$Child", name := "canHave", desc := "(I)Z" } : Jvm.MethodName)) ∈ GW := gw_t 423 (by decide +kernel) rfl
theorem kw424 : (Jvm.Cond.methodLink "FairyDust$Child" (54 : Nat) ({ cls := "FairyDust$Child", name := "takeGrains", desc := "(I)V" } : Jvm.MethodName)) ∈ GW := gw_t 424 (by decide +kernel) rfl
theorem kw426 : (Jvm.Cond.instanceMethod ({ cls := "FairyDust$Child", name := "takeGrains", desc := "(I)V" } : Jvm.MethodName)) ∈ GW := gw_t 426 (by decide +kernel) rfl
theorem kw427 : (Jvm.Cond.code ({ cls := "FairyDust$Child", name := "takeGrains", desc := "(I)V" } : Jvm.MethodName) prog_2_method_8_code (3 : Nat) (Option.none : Option Jvm.ClassFile.FieldType)) ∈ GW := gw_t 427 (by decide +kernel) rfl
theorem kw428 : (Jvm.Cond.methodLink "FairyDust$Child" (64 : Nat) ({ cls := "FairyDust$Child", name := "dustLeftAfter", desc := "(I)I" } : Jvm.MethodName)) ∈ GW := gw_t 428 (by decide +kernel) rfl
theorem kw429 : (Jvm.Cond.methodLink "FairyDust$Child" (58 : Nat) ({ cls := "java/lang/Math", name := "min", desc := "(II)I" } : Jvm.MethodName)) ∈ GW := gw_t 429 (by decide +kernel) rfl
theorem kw430 : (Jvm.Cond.methodLink "FairyDust$Child" (61 : Nat) ({ cls := "FairyDust$Child", name := "takeMark", desc := "()V" } : Jvm.MethodName)) ∈ GW := gw_t 430 (by decide +kernel) rfl
theorem kw432 : (Jvm.Cond.instanceMethod ({ cls := "FairyDust$Child", name := "takeMark", desc := "()V" } : Jvm.MethodName)) ∈ GW := gw_t 432 (by decide +kernel) rfl
theorem kw433 : (Jvm.Cond.code ({ cls := "FairyDust$Child", name := "takeMark", desc := "()V" } : Jvm.MethodName) prog_2_method_9_code (1 : Nat) (Option.none : Option Jvm.ClassFile.FieldType)) ∈ GW := gw_t 433 (by decide +kernel) rfl
theorem kw434 : (Jvm.Cond.methodLink "FairyDust" (227 : Nat) ({ cls := "FairyDust", name := "fallWanted", desc := "(II)I" } : Jvm.MethodName)) ∈ GW := gw_t 434 (by decide +kernel) rfl
theorem kw435 : (Jvm.Cond.instanceMethod ({ cls := "FairyDust", name := "fallWanted", desc := "(II)I" } : Jvm.MethodName)) ∈ GW := gw_t 435 (by decide +kernel) rfl
theorem kw436 : (Jvm.Cond.selects "FairyDust" ({ cls := "FairyDust", name := "fallWanted", desc := "(II)I" } : Jvm.MethodName) ({ cls := "FairyDust", name := "fallWanted", desc := "(II)I" } : Jvm.MethodName)) ∈ GW := gw_t 436 (by decide +kernel) rfl
theorem kw437 : (Jvm.Cond.code ({ cls := "FairyDust", name := "fallWanted", desc := "(II)I" } : Jvm.MethodName) prog_1_method_27_code (5 : Nat) (Option.some Jvm.ClassFile.FieldType.int)) ∈ GW := gw_t 437 (by decide +kernel) rfl
theorem kw438 : (Jvm.Cond.methodLink "FairyDustLaw" (86 : Nat) ({ cls := "FairyDustLaw", name := "addWand", desc := "(LFairyDust;II[J)I" } : Jvm.MethodName)) ∈ GW := gw_t 438 (by decide +kernel) rfl
theorem kw439 : (Jvm.Cond.static ({ cls := "FairyDustLaw", name := "addWand", desc := "(LFairyDust;II[J)I" } : Jvm.MethodName)) ∈ GW := gw_t 439 (by decide +kernel) rfl
theorem kw440 : (Jvm.Cond.codeWith ({ cls := "FairyDustLaw", name := "addWand", desc := "(LFairyDust;II[J)I" } : Jvm.MethodName) method_3_code (5 : Nat) (Option.some Jvm.ClassFile.FieldType.int) [((0 : Nat), (10 : Nat), (13 : Nat), (13 : Nat)), ((0 : Nat), (10 : Nat), (17 : Nat), (15 : Nat))]) ∈ GW := gw_t 440 (by decide +kernel) rfl
theorem kw441 : (Jvm.Cond.classLink "FairyDustLaw" (13 : Nat) "java/lang/IllegalArgumentException") ∈ GW := gw_t 441 (by decide +kernel) rfl
theorem kw442 : (Jvm.Cond.classLink "FairyDustLaw" (15 : Nat) "java/lang/IllegalStateException") ∈ GW := gw_t 442 (by decide +kernel) rfl
theorem kw443 : (Jvm.Cond.methodLink "FairyDustLaw" (7 : Nat) ({ cls := "FairyDust", name := "addWand", desc := "(II)I" } : Jvm.MethodName)) ∈ GW := gw_t 443 (by decide +kernel) rfl
theorem kw444 : (Jvm.Cond.instanceMethod ({ cls := "FairyDust", name := "addWand", desc := "(II)I" } : Jvm.MethodName)) ∈ GW := gw_t 444 (by decide +kernel) rfl
theorem kw445 : (Jvm.Cond.selects "FairyDust" ({ cls := "FairyDust", name := "addWand", desc := "(II)I" } : Jvm.MethodName) ({ cls := "FairyDust", name := "addWand", desc := "(II)I" } : Jvm.MethodName)) ∈ GW := gw_t 445 (by decide +kernel) rfl
theorem kw446 : (Jvm.Cond.code ({ cls := "FairyDust", name := "addWand", desc := "(II)I" } : Jvm.MethodName) prog_1_method_2_code (4 : Nat) (Option.some Jvm.ClassFile.FieldType.int)) ∈ GW := gw_t 446 (by decide +kernel) rfl
theorem kw447 : (Jvm.Cond.classLink "FairyDust" (44 : Nat) "java/lang/IllegalStateException") ∈ GW := gw_t 447 (by decide +kernel) rfl
theorem kw448 : (Jvm.Cond.instantiable "java/lang/IllegalStateException" (6 : Nat)) ∈ GW := gw_t 448 (by decide +kernel) rfl
theorem kw449 : (Jvm.Cond.castable "java/lang/IllegalStateException" "java/lang/IllegalStateException") ∈ GW := gw_t 449 (by decide +kernel) rfl
theorem kw450 : (Jvm.Cond.selects "java/lang/IllegalStateException" ({ cls := "java/lang/Throwable", name := "fillInStackTrace", desc := "(I)Ljava/lang/Throwable;" } : Jvm.MethodName) ({ cls := "java/lang/Throwable", name := "fillInStackTrace", desc := "(I)Ljava/lang/Throwable;" } : Jvm.MethodName)) ∈ GW := gw_t 450 (by decide +kernel) rfl
theorem kw451 : (Jvm.Cond.lays "java/lang/IllegalStateException" "java/lang/Throwable" "cause" "Ljava/lang/Throwable;") ∈ GW := gw_t 451 (by decide +kernel) rfl
theorem kw452 : (Jvm.Cond.lays "java/lang/IllegalStateException" "java/lang/Throwable" "stackTrace" "[Ljava/lang/StackTraceElement;") ∈ GW := gw_t 452 (by decide +kernel) rfl
theorem kw453 : (Jvm.Cond.lays "java/lang/IllegalStateException" "java/lang/Throwable" "suppressedExceptions" "Ljava/util/List;") ∈ GW := gw_t 453 (by decide +kernel) rfl
theorem kw454 : (Jvm.Cond.lays "java/lang/IllegalStateException" "java/lang/Throwable" "detailMessage" "Ljava/lang/String;") ∈ GW := gw_t 454 (by decide +kernel) rfl
theorem kw455 : (Jvm.Cond.lays "java/lang/IllegalStateException" "java/lang/Throwable" "backtrace" "Ljava/lang/Object;") ∈ GW := gw_t 455 (by decide +kernel) rfl
theorem kw457 : (Jvm.Cond.methodLink "FairyDust" (48 : Nat) ({ cls := "java/lang/IllegalStateException", name := "<init>", desc := "(Ljava/lang/String;)V" } : Jvm.MethodName)) ∈ GW := gw_t 457 (by decide +kernel) rfl
theorem kw458 : (Jvm.Cond.instanceMethod ({ cls := "java/lang/IllegalStateException", name := "<init>", desc := "(Ljava/lang/String;)V" } : Jvm.MethodName)) ∈ GW := gw_t 458 (by decide +kernel) rfl
theorem kw459 : (Jvm.Cond.code ({ cls := "java/lang/IllegalStateException", name := "<init>", desc := "(Ljava/lang/String;)V" } : Jvm.MethodName) prog_10_method_2_code (2 : Nat) (Option.none : Option Jvm.ClassFile.FieldType)) ∈ GW := gw_t 459 (by decide +kernel) rfl
theorem kw460 : (Jvm.Cond.methodLink "java/lang/IllegalStateException" (7 : Nat) ({ cls := "java/lang/RuntimeException", name := "<init>", desc := "(Ljava/lang/String;)V" } : Jvm.MethodName)) ∈ GW := gw_t 460 (by decide +kernel) rfl
theorem kw461 : (Jvm.Cond.lays "java/lang/IllegalStateException" "java/lang/Throwable" "depth" "I") ∈ GW := gw_t 461 (by decide +kernel) rfl
theorem kw462 : (Jvm.Cond.superclass "java/lang/IllegalStateException" "java/lang/RuntimeException") ∈ GW := gw_t 462 (by decide +kernel) rfl
theorem kw463 : (Jvm.Cond.methodLink "FairyDust" (51 : Nat) ({ cls := "java/util/ArrayList", name := "add", desc := "(Ljava/lang/Object;)Z" } : Jvm.MethodName)) ∈ GW := gw_t 463 (by decide +kernel) rfl
theorem kw464 : (Jvm.Cond.instanceMethod ({ cls := "java/util/ArrayList", name := "add", desc := "(Ljava/lang/Object;)Z" } : Jvm.MethodName)) ∈ GW := gw_t 464 (by decide +kernel) rfl
theorem kw465 : (Jvm.Cond.selects "java/util/ArrayList" ({ cls := "java/util/ArrayList", name := "add", desc := "(Ljava/lang/Object;)Z" } : Jvm.MethodName) ({ cls := "java/util/ArrayList", name := "add", desc := "(Ljava/lang/Object;)Z" } : Jvm.MethodName)) ∈ GW := gw_t 465 (by decide +kernel) rfl
theorem kw466 : (Jvm.Cond.code ({ cls := "java/util/ArrayList", name := "add", desc := "(Ljava/lang/Object;)Z" } : Jvm.MethodName) prog_20_method_25_code (2 : Nat) (Option.some Jvm.ClassFile.FieldType.boolean)) ∈ GW := gw_t 466 (by decide +kernel) rfl
theorem kw467 : (Jvm.Cond.methodLink "java/util/ArrayList" (131 : Nat) ({ cls := "java/util/ArrayList", name := "add", desc := "(Ljava/lang/Object;[Ljava/lang/Object;I)V" } : Jvm.MethodName)) ∈ GW := gw_t 467 (by decide +kernel) rfl
theorem kw469 : (Jvm.Cond.instanceMethod ({ cls := "java/util/ArrayList", name := "add", desc := "(Ljava/lang/Object;[Ljava/lang/Object;I)V" } : Jvm.MethodName)) ∈ GW := gw_t 469 (by decide +kernel) rfl
theorem kw470 : (Jvm.Cond.code ({ cls := "java/util/ArrayList", name := "add", desc := "(Ljava/lang/Object;[Ljava/lang/Object;I)V" } : Jvm.MethodName) prog_20_method_24_code (4 : Nat) (Option.none : Option Jvm.ClassFile.FieldType)) ∈ GW := gw_t 470 (by decide +kernel) rfl
theorem kw471 : (Jvm.Cond.methodLink "java/util/ArrayList" (129 : Nat) ({ cls := "java/util/ArrayList", name := "grow", desc := "()[Ljava/lang/Object;" } : Jvm.MethodName)) ∈ GW := gw_t 471 (by decide +kernel) rfl
theorem kw473 : (Jvm.Cond.instanceMethod ({ cls := "java/util/ArrayList", name := "grow", desc := "()[Ljava/lang/Object;" } : Jvm.MethodName)) ∈ GW := gw_t 473 (by decide +kernel) rfl
theorem kw474 : (Jvm.Cond.code ({ cls := "java/util/ArrayList", name := "grow", desc := "()[Ljava/lang/Object;" } : Jvm.MethodName) prog_20_method_7_code (1 : Nat) (Option.some (Jvm.ClassFile.FieldType.array (Jvm.ClassFile.FieldType.object "java/lang/Object")))) ∈ GW := gw_t 474 (by decide +kernel) rfl
theorem kw475 : (Jvm.Cond.methodLink "java/util/ArrayList" (69 : Nat) ({ cls := "java/util/ArrayList", name := "grow", desc := "(I)[Ljava/lang/Object;" } : Jvm.MethodName)) ∈ GW := gw_t 475 (by decide +kernel) rfl
theorem kw477 : (Jvm.Cond.instanceMethod ({ cls := "java/util/ArrayList", name := "grow", desc := "(I)[Ljava/lang/Object;" } : Jvm.MethodName)) ∈ GW := gw_t 477 (by decide +kernel) rfl
theorem kw478 : (Jvm.Cond.code ({ cls := "java/util/ArrayList", name := "grow", desc := "(I)[Ljava/lang/Object;" } : Jvm.MethodName) prog_20_method_6_code (4 : Nat) (Option.some (Jvm.ClassFile.FieldType.array (Jvm.ClassFile.FieldType.object "java/lang/Object")))) ∈ GW := gw_t 478 (by decide +kernel) rfl
theorem kw479 : (Jvm.Cond.methodLink "java/util/ArrayList" (73 : Nat) ({ cls := "jdk/internal/util/ArraysSupport", name := "newLength", desc := "(III)I" } : Jvm.MethodName)) ∈ GW := gw_t 479 (by decide +kernel) rfl
theorem kw480 : (Jvm.Cond.static ({ cls := "jdk/internal/util/ArraysSupport", name := "newLength", desc := "(III)I" } : Jvm.MethodName)) ∈ GW := gw_t 480 (by decide +kernel) rfl
theorem kw481 : (Jvm.Cond.code ({ cls := "jdk/internal/util/ArraysSupport", name := "newLength", desc := "(III)I" } : Jvm.MethodName) prog_27_method_27_code (4 : Nat) (Option.some Jvm.ClassFile.FieldType.int)) ∈ GW := gw_t 481 (by decide +kernel) rfl
theorem kw482 : (Jvm.Cond.methodLink "jdk/internal/util/ArraysSupport" (194 : Nat) ({ cls := "java/lang/Math", name := "max", desc := "(II)I" } : Jvm.MethodName)) ∈ GW := gw_t 482 (by decide +kernel) rfl
theorem kw483 : (Jvm.Cond.constant "jdk/internal/util/ArraysSupport" (200 : Nat) (2147483639 : Int32)) ∈ GW := gw_t 483 (by decide +kernel) rfl
theorem kw484 : (Jvm.Cond.methodLink "jdk/internal/util/ArraysSupport" (201 : Nat) ({ cls := "jdk/internal/util/ArraysSupport", name := "hugeLength", desc := "(II)I" } : Jvm.MethodName)) ∈ GW := gw_t 484 (by decide +kernel) rfl
theorem kw485 : (Jvm.Cond.static ({ cls := "jdk/internal/util/ArraysSupport", name := "hugeLength", desc := "(II)I" } : Jvm.MethodName)) ∈ GW := gw_t 485 (by decide +kernel) rfl
theorem kw486 : (Jvm.Cond.code ({ cls := "jdk/internal/util/ArraysSupport", name := "hugeLength", desc := "(II)I" } : Jvm.MethodName) prog_27_method_28_code (3 : Nat) (Option.some Jvm.ClassFile.FieldType.int)) ∈ GW := gw_t 486 (by decide +kernel) rfl
theorem kw487 : (Jvm.Cond.methodLink "java/util/ArrayList" (66 : Nat) ({ cls := "java/util/Arrays", name := "copyOf", desc := "([Ljava/lang/Object;I)[Ljava/lang/Object;" } : Jvm.MethodName)) ∈ GW := gw_t 487 (by decide +kernel) rfl
theorem kw488 : (Jvm.Cond.static ({ cls := "java/util/Arrays", name := "copyOf", desc := "([Ljava/lang/Object;I)[Ljava/lang/Object;" } : Jvm.MethodName)) ∈ GW := gw_t 488 (by decide +kernel) rfl
theorem kw489 : (Jvm.Cond.code ({ cls := "java/util/Arrays", name := "copyOf", desc := "([Ljava/lang/Object;I)[Ljava/lang/Object;" } : Jvm.MethodName) prog_21_method_119_code (2 : Nat) (Option.some (Jvm.ClassFile.FieldType.array (Jvm.ClassFile.FieldType.object "java/lang/Object")))) ∈ GW := gw_t 489 (by decide +kernel) rfl
theorem kw490 : (Jvm.Cond.methodLink "java/util/Arrays" (86 : Nat) ({ cls := "java/lang/Object", name := "getClass", desc := "()Ljava/lang/Class;" } : Jvm.MethodName)) ∈ GW := gw_t 490 (by decide +kernel) rfl
theorem kw491 : (Jvm.Cond.instanceMethod ({ cls := "java/lang/Object", name := "getClass", desc := "()Ljava/lang/Class;" } : Jvm.MethodName)) ∈ GW := gw_t 491 (by decide +kernel) rfl
theorem kw492 : (Jvm.Cond.sameMethod "java/lang/Object" "java/lang/Object" "getClass" "()Ljava/lang/Class;") ∈ GW := gw_t 492 (by decide +kernel) rfl
theorem kw493 : (Jvm.Cond.selects "FairyDust" ({ cls := "java/lang/Object", name := "getClass", desc := "()Ljava/lang/Class;" } : Jvm.MethodName) ({ cls := "java/lang/Object", name := "getClass", desc := "()Ljava/lang/Class;" } : Jvm.MethodName)) ∈ GW := gw_t 493 (by decide +kernel) rfl
theorem kw494 : (Jvm.Cond.selects "FairyDust$Child" ({ cls := "java/lang/Object", name := "getClass", desc := "()Ljava/lang/Class;" } : Jvm.MethodName) ({ cls := "java/lang/Object", name := "getClass", desc := "()Ljava/lang/Class;" } : Jvm.MethodName)) ∈ GW := gw_t 494 (by decide +kernel) rfl
theorem kw495 : (Jvm.Cond.selects "FairyDust$Wand" ({ cls := "java/lang/Object", name := "getClass", desc := "()Ljava/lang/Class;" } : Jvm.MethodName) ({ cls := "java/lang/Object", name := "getClass", desc := "()Ljava/lang/Class;" } : Jvm.MethodName)) ∈ GW := gw_t 495 (by decide +kernel) rfl
theorem kw496 : (Jvm.Cond.selects "FairyDustModel" ({ cls := "java/lang/Object", name := "getClass", desc := "()Ljava/lang/Class;" } : Jvm.MethodName) ({ cls := "java/lang/Object", name := "getClass", desc := "()Ljava/lang/Class;" } : Jvm.MethodName)) ∈ GW := gw_t 496 (by decide +kernel) rfl
theorem kw497 : (Jvm.Cond.selects "java/lang/IllegalArgumentException" ({ cls := "java/lang/Object", name := "getClass", desc := "()Ljava/lang/Class;" } : Jvm.MethodName) ({ cls := "java/lang/Object", name := "getClass", desc := "()Ljava/lang/Class;" } : Jvm.MethodName)) ∈ GW := gw_t 497 (by decide +kernel) rfl
theorem kw498 : (Jvm.Cond.selects "java/lang/IllegalStateException" ({ cls := "java/lang/Object", name := "getClass", desc := "()Ljava/lang/Class;" } : Jvm.MethodName) ({ cls := "java/lang/Object", name := "getClass", desc := "()Ljava/lang/Class;" } : Jvm.MethodName)) ∈ GW := gw_t 498 (by decide +kernel) rfl
theorem kw499 : (Jvm.Cond.selects "java/lang/IndexOutOfBoundsException" ({ cls := "java/lang/Object", name := "getClass", desc := "()Ljava/lang/Class;" } : Jvm.MethodName) ({ cls := "java/lang/Object", name := "getClass", desc := "()Ljava/lang/Class;" } : Jvm.MethodName)) ∈ GW := gw_t 499 (by decide +kernel) rfl
theorem kw500 : (Jvm.Cond.selects "java/util/ArrayList" ({ cls := "java/lang/Object", name := "getClass", desc := "()Ljava/lang/Class;" } : Jvm.MethodName) ({ cls := "java/lang/Object", name := "getClass", desc := "()Ljava/lang/Class;" } : Jvm.MethodName)) ∈ GW := gw_t 500 (by decide +kernel) rfl
theorem kw501 : (Jvm.Cond.native ({ cls := "java/lang/Object", name := "getClass", desc := "()Ljava/lang/Class;" } : Jvm.MethodName)) ∈ GW := gw_t 501 (by decide +kernel) rfl
theorem kw502 : (Jvm.Cond.methodLink "java/util/Arrays" (300 : Nat) ({ cls := "java/util/Arrays", name := "copyOf", desc := "([Ljava/lang/Object;ILjava/lang/Class;)[Ljava/lang/Object;" } : Jvm.MethodName)) ∈ GW := gw_t 502 (by decide +kernel) rfl
theorem kw503 : (Jvm.Cond.static ({ cls := "java/util/Arrays", name := "copyOf", desc := "([Ljava/lang/Object;ILjava/lang/Class;)[Ljava/lang/Object;" } : Jvm.MethodName)) ∈ GW := gw_t 503 (by decide +kernel) rfl
theorem kw504 : (Jvm.Cond.code ({ cls := "java/util/Arrays", name := "copyOf", desc := "([Ljava/lang/Object;ILjava/lang/Class;)[Ljava/lang/Object;" } : Jvm.MethodName) prog_21_method_120_code (4 : Nat) (Option.some (Jvm.ClassFile.FieldType.array (Jvm.ClassFile.FieldType.object "java/lang/Object")))) ∈ GW := gw_t 504 (by decide +kernel) rfl
theorem kw505 : (Jvm.Cond.classLink "java/util/Arrays" (110 : Nat) "[Ljava/lang/Object;") ∈ GW := gw_t 505 (by decide +kernel) rfl
theorem kw506 : (Jvm.Cond.arrayOver (Jvm.ClassFile.FieldType.object "java/lang/Object")) ∈ GW := gw_t 506 (by decide +kernel) rfl
theorem kw507 : (Jvm.Cond.classLink "java/util/Arrays" (2 : Nat) "java/lang/Object") ∈ GW := gw_t 507 (by decide +kernel) rfl
theorem kw508 : (Jvm.Cond.methodLink "java/util/Arrays" (304 : Nat) ({ cls := "java/lang/Math", name := "min", desc := "(II)I" } : Jvm.MethodName)) ∈ GW := gw_t 508 (by decide +kernel) rfl
theorem kw509 : (Jvm.Cond.methodLink "java/util/Arrays" (150 : Nat) ({ cls := "java/lang/System", name := "arraycopy", desc := "(Ljava/lang/Object;ILjava/lang/Object;II)V" } : Jvm.MethodName)) ∈ GW := gw_t 509 (by decide +kernel) rfl
theorem kw510 : (Jvm.Cond.static ({ cls := "java/lang/System", name := "arraycopy", desc := "(Ljava/lang/Object;ILjava/lang/Object;II)V" } : Jvm.MethodName)) ∈ GW := gw_t 510 (by decide +kernel) rfl
theorem kw511 : (Jvm.Cond.native ({ cls := "java/lang/System", name := "arraycopy", desc := "(Ljava/lang/Object;ILjava/lang/Object;II)V" } : Jvm.MethodName)) ∈ GW := gw_t 511 (by decide +kernel) rfl
theorem kw512 : (Jvm.Cond.methodLink "java/util/ArrayList" (79 : Nat) ({ cls := "java/lang/Math", name := "max", desc := "(II)I" } : Jvm.MethodName)) ∈ GW := gw_t 512 (by decide +kernel) rfl
theorem kw513 : (Jvm.Cond.classLink "java/util/ArrayList" (7 : Nat) "java/lang/Object") ∈ GW := gw_t 513 (by decide +kernel) rfl
theorem kw514 : (Jvm.Cond.methodLink "FairyDustLaw" (96 : Nat) ({ cls := "FairyDustLaw", name := "addChild", desc := "(LFairyDust;II[J)I" } : Jvm.MethodName)) ∈ GW := gw_t 514 (by decide +kernel) rfl
theorem kw515 : (Jvm.Cond.static ({ cls := "FairyDustLaw", name := "addChild", desc := "(LFairyDust;II[J)I" } : Jvm.MethodName)) ∈ GW := gw_t 515 (by decide +kernel) rfl
theorem kw516 : (Jvm.Cond.codeWith ({ cls := "FairyDustLaw", name := "addChild", desc := "(LFairyDust;II[J)I" } : Jvm.MethodName) method_4_code (5 : Nat) (Option.some Jvm.ClassFile.FieldType.int) [((0 : Nat), (10 : Nat), (13 : Nat), (20 : Nat)), ((0 : Nat), (10 : Nat), (17 : Nat), (13 : Nat)), ((0 : Nat), (10 : Nat), (21 : Nat), (15 : Nat))]) ∈ GW := gw_t 516 (by decide +kernel) rfl
theorem kw517 : (Jvm.Cond.classLink "FairyDustLaw" (20 : Nat) "java/lang/IndexOutOfBoundsException") ∈ GW := gw_t 517 (by decide +kernel) rfl
theorem kw518 : (Jvm.Cond.methodLink "FairyDustLaw" (17 : Nat) ({ cls := "FairyDust", name := "addChild", desc := "(II)I" } : Jvm.MethodName)) ∈ GW := gw_t 518 (by decide +kernel) rfl
theorem kw519 : (Jvm.Cond.instanceMethod ({ cls := "FairyDust", name := "addChild", desc := "(II)I" } : Jvm.MethodName)) ∈ GW := gw_t 519 (by decide +kernel) rfl
theorem kw520 : (Jvm.Cond.selects "FairyDust" ({ cls := "FairyDust", name := "addChild", desc := "(II)I" } : Jvm.MethodName) ({ cls := "FairyDust", name := "addChild", desc := "(II)I" } : Jvm.MethodName)) ∈ GW := gw_t 520 (by decide +kernel) rfl
theorem kw521 : (Jvm.Cond.code ({ cls := "FairyDust", name := "addChild", desc := "(II)I" } : Jvm.MethodName) prog_1_method_3_code (6 : Nat) (Option.some Jvm.ClassFile.FieldType.int)) ∈ GW := gw_t 521 (by decide +kernel) rfl
theorem kw523 : (Jvm.Cond.methodLinkNest "FairyDust" (64 : Nat) ({ cls := "FairyDust$Child", name := "beginDay", desc := "(I)V" } : Jvm.MethodName) "FairyDust") ∈ GW := gw_t 523 (by decide +kernel) rfl
theorem kw524 : (Jvm.Cond.methodLink "FairyDustLaw" (99 : Nat) ({ cls := "FairyDustLaw", name := "give", desc := "(LFairyDust;II[J)I" } : Jvm.MethodName)) ∈ GW := gw_t 524 (by decide +kernel) rfl
theorem kw525 : (Jvm.Cond.static ({ cls := "FairyDustLaw", name := "give", desc := "(LFairyDust;II[J)I" } : Jvm.MethodName)) ∈ GW := gw_t 525 (by decide +kernel) rfl
theorem kw526 : (Jvm.Cond.codeWith ({ cls := "FairyDustLaw", name := "give", desc := "(LFairyDust;II[J)I" } : Jvm.MethodName) method_5_code (5 : Nat) (Option.some Jvm.ClassFile.FieldType.int) [((0 : Nat), (10 : Nat), (13 : Nat), (20 : Nat))]) ∈ GW := gw_t 526 (by decide +kernel) rfl
theorem kw527 : (Jvm.Cond.methodLink "FairyDustLaw" (22 : Nat) ({ cls := "FairyDust", name := "give", desc := "(II)I" } : Jvm.MethodName)) ∈ GW := gw_t 527 (by decide +kernel) rfl
theorem kw528 : (Jvm.Cond.instanceMethod ({ cls := "FairyDust", name := "give", desc := "(II)I" } : Jvm.MethodName)) ∈ GW := gw_t 528 (by decide +kernel) rfl
theorem kw529 : (Jvm.Cond.selects "FairyDust" ({ cls := "FairyDust", name := "give", desc := "(II)I" } : Jvm.MethodName) ({ cls := "FairyDust", name := "give", desc := "(II)I" } : Jvm.MethodName)) ∈ GW := gw_t 529 (by decide +kernel) rfl
theorem kw530 : (Jvm.Cond.code ({ cls := "FairyDust", name := "give", desc := "(II)I" } : Jvm.MethodName) prog_1_method_4_code (6 : Nat) (Option.some Jvm.ClassFile.FieldType.int)) ∈ GW := gw_t 530 (by decide +kernel) rfl
theorem kw531 : (Jvm.Cond.methodLink "FairyDustLaw" (102 : Nat) ({ cls := "FairyDustLaw", name := "setFall", desc := "(LFairyDust;II[J)I" } : Jvm.MethodName)) ∈ GW := gw_t 531 (by decide +kernel) rfl
theorem kw532 : (Jvm.Cond.static ({ cls := "FairyDustLaw", name := "setFall", desc := "(LFairyDust;II[J)I" } : Jvm.MethodName)) ∈ GW := gw_t 532 (by decide +kernel) rfl
theorem kw533 : (Jvm.Cond.codeWith ({ cls := "FairyDustLaw", name := "setFall", desc := "(LFairyDust;II[J)I" } : Jvm.MethodName) method_6_code (5 : Nat) (Option.some Jvm.ClassFile.FieldType.int) [((0 : Nat), (10 : Nat), (13 : Nat), (20 : Nat)), ((0 : Nat), (10 : Nat), (17 : Nat), (13 : Nat))]) ∈ GW := gw_t 533 (by decide +kernel) rfl
theorem kw534 : (Jvm.Cond.methodLink "FairyDustLaw" (25 : Nat) ({ cls := "FairyDust", name := "setFall", desc := "(II)I" } : Jvm.MethodName)) ∈ GW := gw_t 534 (by decide +kernel) rfl
theorem kw535 : (Jvm.Cond.instanceMethod ({ cls := "FairyDust", name := "setFall", desc := "(II)I" } : Jvm.MethodName)) ∈ GW := gw_t 535 (by decide +kernel) rfl
theorem kw536 : (Jvm.Cond.selects "FairyDust" ({ cls := "FairyDust", name := "setFall", desc := "(II)I" } : Jvm.MethodName) ({ cls := "FairyDust", name := "setFall", desc := "(II)I" } : Jvm.MethodName)) ∈ GW := gw_t 536 (by decide +kernel) rfl
theorem kw537 : (Jvm.Cond.code ({ cls := "FairyDust", name := "setFall", desc := "(II)I" } : Jvm.MethodName) prog_1_method_5_code (5 : Nat) (Option.some Jvm.ClassFile.FieldType.int)) ∈ GW := gw_t 537 (by decide +kernel) rfl
theorem kw538 : (Jvm.Cond.methodLink "FairyDustLaw" (105 : Nat) ({ cls := "FairyDustLaw", name := "wish", desc := "(LFairyDust;II[J)I" } : Jvm.MethodName)) ∈ GW := gw_t 538 (by decide +kernel) rfl
theorem kw539 : (Jvm.Cond.static ({ cls := "FairyDustLaw", name := "wish", desc := "(LFairyDust;II[J)I" } : Jvm.MethodName)) ∈ GW := gw_t 539 (by decide +kernel) rfl
theorem kw540 : (Jvm.Cond.codeWith ({ cls := "FairyDustLaw", name := "wish", desc := "(LFairyDust;II[J)I" } : Jvm.MethodName) method_7_code (5 : Nat) (Option.some Jvm.ClassFile.FieldType.int) [((0 : Nat), (17 : Nat), (20 : Nat), (20 : Nat)), ((0 : Nat), (17 : Nat), (24 : Nat), (13 : Nat))]) ∈ GW := gw_t 540 (by decide +kernel) rfl
theorem kw541 : (Jvm.Cond.methodLink "FairyDustLaw" (28 : Nat) ({ cls := "FairyDust", name := "wish", desc := "(II)Z" } : Jvm.MethodName)) ∈ GW := gw_t 541 (by decide +kernel) rfl
theorem kw542 : (Jvm.Cond.instanceMethod ({ cls := "FairyDust", name := "wish", desc := "(II)Z" } : Jvm.MethodName)) ∈ GW := gw_t 542 (by decide +kernel) rfl
theorem kw543 : (Jvm.Cond.selects "FairyDust" ({ cls := "FairyDust", name := "wish", desc := "(II)Z" } : Jvm.MethodName) ({ cls := "FairyDust", name := "wish", desc := "(II)Z" } : Jvm.MethodName)) ∈ GW := gw_t 543 (by decide +kernel) rfl
theorem kw544 : (Jvm.Cond.code ({ cls := "FairyDust", name := "wish", desc := "(II)Z" } : Jvm.MethodName) prog_1_method_6_code (5 : Nat) (Option.some Jvm.ClassFile.FieldType.boolean)) ∈ GW := gw_t 544 (by decide +kernel) rfl
theorem kw545 : (Jvm.Cond.methodLink "FairyDustLaw" (108 : Nat) ({ cls := "FairyDustLaw", name := "forgive", desc := "(LFairyDust;I[J)I" } : Jvm.MethodName)) ∈ GW := gw_t 545 (by decide +kernel) rfl
theorem kw546 : (Jvm.Cond.static ({ cls := "FairyDustLaw", name := "forgive", desc := "(LFairyDust;I[J)I" } : Jvm.MethodName)) ∈ GW := gw_t 546 (by decide +kernel) rfl
theorem kw547 : (Jvm.Cond.codeWith ({ cls := "FairyDustLaw", name := "forgive", desc := "(LFairyDust;I[J)I" } : Jvm.MethodName) method_8_code (4 : Nat) (Option.some Jvm.ClassFile.FieldType.int) [((0 : Nat), (9 : Nat), (12 : Nat), (20 : Nat))]) ∈ GW := gw_t 547 (by decide +kernel) rfl
theorem kw548 : (Jvm.Cond.methodLink "FairyDustLaw" (32 : Nat) ({ cls := "FairyDust", name := "forgive", desc := "(I)I" } : Jvm.MethodName)) ∈ GW := gw_t 548 (by decide +kernel) rfl
theorem kw549 : (Jvm.Cond.instanceMethod ({ cls := "FairyDust", name := "forgive", desc := "(I)I" } : Jvm.MethodName)) ∈ GW := gw_t 549 (by decide +kernel) rfl
theorem kw550 : (Jvm.Cond.selects "FairyDust" ({ cls := "FairyDust", name := "forgive", desc := "(I)I" } : Jvm.MethodName) ({ cls := "FairyDust", name := "forgive", desc := "(I)I" } : Jvm.MethodName)) ∈ GW := gw_t 550 (by decide +kernel) rfl
theorem kw551 : (Jvm.Cond.code ({ cls := "FairyDust", name := "forgive", desc := "(I)I" } : Jvm.MethodName) prog_1_method_7_code (2 : Nat) (Option.some Jvm.ClassFile.FieldType.int)) ∈ GW := gw_t 551 (by decide +kernel) rfl
theorem kw552 : (Jvm.Cond.methodLinkNest "FairyDust" (95 : Nat) ({ cls := "FairyDust$Child", name := "letOff", desc := "()I" } : Jvm.MethodName) "FairyDust") ∈ GW := gw_t 552 (by decide +kernel) rfl
theorem kw554 : (Jvm.Cond.instanceMethod ({ cls := "FairyDust$Child", name := "letOff", desc := "()I" } : Jvm.MethodName)) ∈ GW := gw_t 554 (by decide +kernel) rfl
theorem kw555 : (Jvm.Cond.code ({ cls := "FairyDust$Child", name := "letOff", desc := "()I" } : Jvm.MethodName) prog_2_method_10_code (2 : Nat) (Option.some Jvm.ClassFile.FieldType.int)) ∈ GW := gw_t 555 (by decide +kernel) rfl
theorem kw556 : (Jvm.Cond.methodLink "FairyDustLaw" (112 : Nat) ({ cls := "FairyDustLaw", name := "pass", desc := "(LFairyDust;I[J)I" } : Jvm.MethodName)) ∈ GW := gw_t 556 (by decide +kernel) rfl
theorem kw557 : (Jvm.Cond.static ({ cls := "FairyDustLaw", name := "pass", desc := "(LFairyDust;I[J)I" } : Jvm.MethodName)) ∈ GW := gw_t 557 (by decide +kernel) rfl
theorem kw558 : (Jvm.Cond.codeWith ({ cls := "FairyDustLaw", name := "pass", desc := "(LFairyDust;I[J)I" } : Jvm.MethodName) method_9_code (4 : Nat) (Option.some Jvm.ClassFile.FieldType.int) [((0 : Nat), (9 : Nat), (12 : Nat), (13 : Nat))]) ∈ GW := gw_t 558 (by decide +kernel) rfl
theorem kw559 : (Jvm.Cond.methodLink "FairyDustLaw" (36 : Nat) ({ cls := "FairyDust", name := "pass", desc := "(I)I" } : Jvm.MethodName)) ∈ GW := gw_t 559 (by decide +kernel) rfl
theorem kw560 : (Jvm.Cond.instanceMethod ({ cls := "FairyDust", name := "pass", desc := "(I)I" } : Jvm.MethodName)) ∈ GW := gw_t 560 (by decide +kernel) rfl
theorem kw561 : (Jvm.Cond.selects "FairyDust" ({ cls := "FairyDust", name := "pass", desc := "(I)I" } : Jvm.MethodName) ({ cls := "FairyDust", name := "pass", desc := "(I)I" } : Jvm.MethodName)) ∈ GW := gw_t 561 (by decide +kernel) rfl
theorem kw562 : (Jvm.Cond.code ({ cls := "FairyDust", name := "pass", desc := "(I)I" } : Jvm.MethodName) prog_1_method_8_code (4 : Nat) (Option.some Jvm.ClassFile.FieldType.int)) ∈ GW := gw_t 562 (by decide +kernel) rfl
theorem kw563 : (Jvm.Cond.methodLink "FairyDust" (98 : Nat) ({ cls := "FairyDust", name := "passOneHour", desc := "()I" } : Jvm.MethodName)) ∈ GW := gw_t 563 (by decide +kernel) rfl
theorem kw565 : (Jvm.Cond.instanceMethod ({ cls := "FairyDust", name := "passOneHour", desc := "()I" } : Jvm.MethodName)) ∈ GW := gw_t 565 (by decide +kernel) rfl
theorem kw566 : (Jvm.Cond.code ({ cls := "FairyDust", name := "passOneHour", desc := "()I" } : Jvm.MethodName) prog_1_method_35_code (3 : Nat) (Option.some Jvm.ClassFile.FieldType.int)) ∈ GW := gw_t 566 (by decide +kernel) rfl
theorem kw567 : (Jvm.Cond.methodLink "FairyDustLaw" (143 : Nat) ({ cls := "FairyDustLaw", name := "dustIn", desc := "(LFairyDust;I[J)I" } : Jvm.MethodName)) ∈ GW := gw_t 567 (by decide +kernel) rfl
theorem kw568 : (Jvm.Cond.static ({ cls := "FairyDustLaw", name := "dustIn", desc := "(LFairyDust;I[J)I" } : Jvm.MethodName)) ∈ GW := gw_t 568 (by decide +kernel) rfl
theorem kw569 : (Jvm.Cond.codeWith ({ cls := "FairyDustLaw", name := "dustIn", desc := "(LFairyDust;I[J)I" } : Jvm.MethodName) method_10_code (4 : Nat) (Option.some Jvm.ClassFile.FieldType.int) [((0 : Nat), (9 : Nat), (12 : Nat), (20 : Nat))]) ∈ GW := gw_t 569 (by decide +kernel) rfl
theorem kw570 : (Jvm.Cond.methodLink "FairyDustLaw" (39 : Nat) ({ cls := "FairyDust", name := "dustIn", desc := "(I)I" } : Jvm.MethodName)) ∈ GW := gw_t 570 (by decide +kernel) rfl
theorem kw571 : (Jvm.Cond.methodLink "FairyDustLaw" (146 : Nat) ({ cls := "FairyDustLaw", name := "users", desc := "(LFairyDust;I[J)I" } : Jvm.MethodName)) ∈ GW := gw_t 571 (by decide +kernel) rfl
theorem kw572 : (Jvm.Cond.static ({ cls := "FairyDustLaw", name := "users", desc := "(LFairyDust;I[J)I" } : Jvm.MethodName)) ∈ GW := gw_t 572 (by decide +kernel) rfl
theorem kw573 : (Jvm.Cond.codeWith ({ cls := "FairyDustLaw", name := "users", desc := "(LFairyDust;I[J)I" } : Jvm.MethodName) method_11_code (4 : Nat) (Option.some Jvm.ClassFile.FieldType.int) [((0 : Nat), (9 : Nat), (12 : Nat), (20 : Nat))]) ∈ GW := gw_t 573 (by decide +kernel) rfl
theorem kw574 : (Jvm.Cond.methodLink "FairyDustLaw" (42 : Nat) ({ cls := "FairyDust", name := "users", desc := "(I)I" } : Jvm.MethodName)) ∈ GW := gw_t 574 (by decide +kernel) rfl
theorem kw575 : (Jvm.Cond.methodLink "FairyDustLaw" (149 : Nat) ({ cls := "FairyDustLaw", name := "wandOf", desc := "(LFairyDust;I[J)I" } : Jvm.MethodName)) ∈ GW := gw_t 575 (by decide +kernel) rfl
theorem kw576 : (Jvm.Cond.static ({ cls := "FairyDustLaw", name := "wandOf", desc := "(LFairyDust;I[J)I" } : Jvm.MethodName)) ∈ GW := gw_t 576 (by decide +kernel) rfl
theorem kw577 : (Jvm.Cond.codeWith ({ cls := "FairyDustLaw", name := "wandOf", desc := "(LFairyDust;I[J)I" } : Jvm.MethodName) method_12_code (4 : Nat) (Option.some Jvm.ClassFile.FieldType.int) [((0 : Nat), (9 : Nat), (12 : Nat), (20 : Nat))]) ∈ GW := gw_t 577 (by decide +kernel) rfl
theorem kw578 : (Jvm.Cond.methodLink "FairyDustLaw" (45 : Nat) ({ cls := "FairyDust", name := "wandOf", desc := "(I)I" } : Jvm.MethodName)) ∈ GW := gw_t 578 (by decide +kernel) rfl
theorem kw579 : (Jvm.Cond.methodLink "FairyDustLaw" (152 : Nat) ({ cls := "FairyDustLaw", name := "burstOf", desc := "(LFairyDust;I[J)I" } : Jvm.MethodName)) ∈ GW := gw_t 579 (by decide +kernel) rfl
theorem kw580 : (Jvm.Cond.static ({ cls := "FairyDustLaw", name := "burstOf", desc := "(LFairyDust;I[J)I" } : Jvm.MethodName)) ∈ GW := gw_t 580 (by decide +kernel) rfl
theorem kw581 : (Jvm.Cond.codeWith ({ cls := "FairyDustLaw", name := "burstOf", desc := "(LFairyDust;I[J)I" } : Jvm.MethodName) method_13_code (4 : Nat) (Option.some Jvm.ClassFile.FieldType.int) [((0 : Nat), (9 : Nat), (12 : Nat), (20 : Nat))]) ∈ GW := gw_t 581 (by decide +kernel) rfl
theorem kw582 : (Jvm.Cond.methodLink "FairyDustLaw" (48 : Nat) ({ cls := "FairyDust", name := "burstOf", desc := "(I)I" } : Jvm.MethodName)) ∈ GW := gw_t 582 (by decide +kernel) rfl
theorem kw583 : (Jvm.Cond.methodLink "FairyDustLaw" (155 : Nat) ({ cls := "FairyDustLaw", name := "punishedFor", desc := "(LFairyDust;I[J)I" } : Jvm.MethodName)) ∈ GW := gw_t 583 (by decide +kernel) rfl
theorem kw584 : (Jvm.Cond.static ({ cls := "FairyDustLaw", name := "punishedFor", desc := "(LFairyDust;I[J)I" } : Jvm.MethodName)) ∈ GW := gw_t 584 (by decide +kernel) rfl
theorem kw585 : (Jvm.Cond.codeWith ({ cls := "FairyDustLaw", name := "punishedFor", desc := "(LFairyDust;I[J)I" } : Jvm.MethodName) method_14_code (4 : Nat) (Option.some Jvm.ClassFile.FieldType.int) [((0 : Nat), (9 : Nat), (12 : Nat), (20 : Nat))]) ∈ GW := gw_t 585 (by decide +kernel) rfl
theorem kw586 : (Jvm.Cond.methodLink "FairyDustLaw" (51 : Nat) ({ cls := "FairyDust", name := "punishedFor", desc := "(I)I" } : Jvm.MethodName)) ∈ GW := gw_t 586 (by decide +kernel) rfl
theorem kw587 : (Jvm.Cond.methodLink "FairyDustLaw" (158 : Nat) ({ cls := "FairyDustLaw", name := "marksOf", desc := "(LFairyDust;I[J)I" } : Jvm.MethodName)) ∈ GW := gw_t 587 (by decide +kernel) rfl
theorem kw588 : (Jvm.Cond.static ({ cls := "FairyDustLaw", name := "marksOf", desc := "(LFairyDust;I[J)I" } : Jvm.MethodName)) ∈ GW := gw_t 588 (by decide +kernel) rfl
theorem kw589 : (Jvm.Cond.codeWith ({ cls := "FairyDustLaw", name := "marksOf", desc := "(LFairyDust;I[J)I" } : Jvm.MethodName) method_15_code (4 : Nat) (Option.some Jvm.ClassFile.FieldType.int) [((0 : Nat), (9 : Nat), (12 : Nat), (20 : Nat))]) ∈ GW := gw_t 589 (by decide +kernel) rfl
theorem kw590 : (Jvm.Cond.methodLink "FairyDustLaw" (54 : Nat) ({ cls := "FairyDust", name := "marksOf", desc := "(I)I" } : Jvm.MethodName)) ∈ GW := gw_t 590 (by decide +kernel) rfl
theorem kw591 : (Jvm.Cond.methodLink "FairyDustLaw" (161 : Nat) ({ cls := "FairyDustLaw", name := "nextPunishment", desc := "(LFairyDust;I[J)I" } : Jvm.MethodName)) ∈ GW := gw_t 591 (by decide +kernel) rfl
theorem kw592 : (Jvm.Cond.static ({ cls := "FairyDustLaw", name := "nextPunishment", desc := "(LFairyDust;I[J)I" } : Jvm.MethodName)) ∈ GW := gw_t 592 (by decide +kernel) rfl
theorem kw593 : (Jvm.Cond.codeWith ({ cls := "FairyDustLaw", name := "nextPunishment", desc := "(LFairyDust;I[J)I" } : Jvm.MethodName) method_16_code (4 : Nat) (Option.some Jvm.ClassFile.FieldType.int) [((0 : Nat), (9 : Nat), (12 : Nat), (20 : Nat))]) ∈ GW := gw_t 593 (by decide +kernel) rfl
theorem kw594 : (Jvm.Cond.methodLink "FairyDustLaw" (57 : Nat) ({ cls := "FairyDust", name := "nextPunishment", desc := "(I)I" } : Jvm.MethodName)) ∈ GW := gw_t 594 (by decide +kernel) rfl
theorem kw595 : (Jvm.Cond.methodLink "FairyDustLaw" (164 : Nat) ({ cls := "FairyDustLaw", name := "daysToBirthday", desc := "(LFairyDust;I[J)I" } : Jvm.MethodName)) ∈ GW := gw_t 595 (by decide +kernel) rfl
theorem kw596 : (Jvm.Cond.static ({ cls := "FairyDustLaw", name := "daysToBirthday", desc := "(LFairyDust;I[J)I" } : Jvm.MethodName)) ∈ GW := gw_t 596 (by decide +kernel) rfl
theorem kw597 : (Jvm.Cond.codeWith ({ cls := "FairyDustLaw", name := "daysToBirthday", desc := "(LFairyDust;I[J)I" } : Jvm.MethodName) method_17_code (4 : Nat) (Option.some Jvm.ClassFile.FieldType.int) [((0 : Nat), (9 : Nat), (12 : Nat), (20 : Nat))]) ∈ GW := gw_t 597 (by decide +kernel) rfl
theorem kw598 : (Jvm.Cond.methodLink "FairyDustLaw" (60 : Nat) ({ cls := "FairyDust", name := "daysToBirthday", desc := "(I)I" } : Jvm.MethodName)) ∈ GW := gw_t 598 (by decide +kernel) rfl
theorem kw599 : (Jvm.Cond.methodLink "FairyDustLaw" (167 : Nat) ({ cls := "FairyDustLaw", name := "greatestWish", desc := "(LFairyDust;I[J)I" } : Jvm.MethodName)) ∈ GW := gw_t 599 (by decide +kernel) rfl
theorem kw600 : (Jvm.Cond.static ({ cls := "FairyDustLaw", name := "greatestWish", desc := "(LFairyDust;I[J)I" } : Jvm.MethodName)) ∈ GW := gw_t 600 (by decide +kernel) rfl
theorem kw601 : (Jvm.Cond.codeWith ({ cls := "FairyDustLaw", name := "greatestWish", desc := "(LFairyDust;I[J)I" } : Jvm.MethodName) method_18_code (4 : Nat) (Option.some Jvm.ClassFile.FieldType.int) [((0 : Nat), (9 : Nat), (12 : Nat), (20 : Nat))]) ∈ GW := gw_t 601 (by decide +kernel) rfl
theorem kw602 : (Jvm.Cond.methodLink "FairyDustLaw" (63 : Nat) ({ cls := "FairyDust", name := "greatestWish", desc := "(I)I" } : Jvm.MethodName)) ∈ GW := gw_t 602 (by decide +kernel) rfl
theorem kw603 : (Jvm.Cond.methodLink "FairyDustLaw" (170 : Nat) ({ cls := "FairyDustLaw", name := "hoursUntil", desc := "(LFairyDust;II[J)I" } : Jvm.MethodName)) ∈ GW := gw_t 603 (by decide +kernel) rfl
theorem kw604 : (Jvm.Cond.static ({ cls := "FairyDustLaw", name := "hoursUntil", desc := "(LFairyDust;II[J)I" } : Jvm.MethodName)) ∈ GW := gw_t 604 (by decide +kernel) rfl
theorem kw605 : (Jvm.Cond.codeWith ({ cls := "FairyDustLaw", name := "hoursUntil", desc := "(LFairyDust;II[J)I" } : Jvm.MethodName) method_19_code (5 : Nat) (Option.some Jvm.ClassFile.FieldType.int) [((0 : Nat), (10 : Nat), (13 : Nat), (20 : Nat)), ((0 : Nat), (10 : Nat), (17 : Nat), (13 : Nat))]) ∈ GW := gw_t 605 (by decide +kernel) rfl
theorem kw606 : (Jvm.Cond.methodLink "FairyDustLaw" (66 : Nat) ({ cls := "FairyDust", name := "hoursUntil", desc := "(II)I" } : Jvm.MethodName)) ∈ GW := gw_t 606 (by decide +kernel) rfl
theorem kw607 : (Jvm.Cond.methodLink "FairyDustLaw" (173 : Nat) ({ cls := "FairyDustLaw", name := "grantedIn", desc := "(LFairyDust;III[J)I" } : Jvm.MethodName)) ∈ GW := gw_t 607 (by decide +kernel) rfl
theorem kw608 : (Jvm.Cond.static ({ cls := "FairyDustLaw", name := "grantedIn", desc := "(LFairyDust;III[J)I" } : Jvm.MethodName)) ∈ GW := gw_t 608 (by decide +kernel) rfl
theorem kw609 : (Jvm.Cond.codeWith ({ cls := "FairyDustLaw", name := "grantedIn", desc := "(LFairyDust;III[J)I" } : Jvm.MethodName) method_20_code (6 : Nat) (Option.some Jvm.ClassFile.FieldType.int) [((0 : Nat), (12 : Nat), (15 : Nat), (20 : Nat)), ((0 : Nat), (12 : Nat), (19 : Nat), (13 : Nat))]) ∈ GW := gw_t 609 (by decide +kernel) rfl
theorem kw610 : (Jvm.Cond.methodLink "FairyDustLaw" (69 : Nat) ({ cls := "FairyDust", name := "grantedIn", desc := "(III)I" } : Jvm.MethodName)) ∈ GW := gw_t 610 (by decide +kernel) rfl
theorem kw611 : (Jvm.Cond.methodLink "FairyDustLaw" (177 : Nat) ({ cls := "FairyDustLaw", name := "fallWanted", desc := "(LFairyDust;II[J)I" } : Jvm.MethodName)) ∈ GW := gw_t 611 (by decide +kernel) rfl
theorem kw612 : (Jvm.Cond.static ({ cls := "FairyDustLaw", name := "fallWanted", desc := "(LFairyDust;II[J)I" } : Jvm.MethodName)) ∈ GW := gw_t 612 (by decide +kernel) rfl
theorem kw613 : (Jvm.Cond.codeWith ({ cls := "FairyDustLaw", name := "fallWanted", desc := "(LFairyDust;II[J)I" } : Jvm.MethodName) method_21_code (5 : Nat) (Option.some Jvm.ClassFile.FieldType.int) [((0 : Nat), (10 : Nat), (13 : Nat), (20 : Nat)), ((0 : Nat), (10 : Nat), (17 : Nat), (13 : Nat))]) ∈ GW := gw_t 613 (by decide +kernel) rfl
theorem kw614 : (Jvm.Cond.methodLink "FairyDustLaw" (73 : Nat) ({ cls := "FairyDust", name := "fallWanted", desc := "(II)I" } : Jvm.MethodName)) ∈ GW := gw_t 614 (by decide +kernel) rfl
theorem kw615 : (Jvm.Cond.methodLink "FairyDustLaw" (180 : Nat) ({ cls := "FairyDustLaw", name := "hoursUntilFull", desc := "(LFairyDust;I[J)I" } : Jvm.MethodName)) ∈ GW := gw_t 615 (by decide +kernel) rfl
theorem kw616 : (Jvm.Cond.static ({ cls := "FairyDustLaw", name := "hoursUntilFull", desc := "(LFairyDust;I[J)I" } : Jvm.MethodName)) ∈ GW := gw_t 616 (by decide +kernel) rfl
theorem kw617 : (Jvm.Cond.codeWith ({ cls := "FairyDustLaw", name := "hoursUntilFull", desc := "(LFairyDust;I[J)I" } : Jvm.MethodName) method_22_code (4 : Nat) (Option.some Jvm.ClassFile.FieldType.int) [((0 : Nat), (9 : Nat), (12 : Nat), (20 : Nat))]) ∈ GW := gw_t 617 (by decide +kernel) rfl
theorem kw618 : (Jvm.Cond.methodLink "FairyDustLaw" (76 : Nat) ({ cls := "FairyDust", name := "hoursUntilFull", desc := "(I)I" } : Jvm.MethodName)) ∈ GW := gw_t 618 (by decide +kernel) rfl
theorem kw619 : (Jvm.Cond.methodLink "FairyDustLaw" (183 : Nat) ({ cls := "FairyDustLaw", name := "bestChild", desc := "(LFairyDust;I[J)I" } : Jvm.MethodName)) ∈ GW := gw_t 619 (by decide +kernel) rfl
theorem kw620 : (Jvm.Cond.static ({ cls := "FairyDustLaw", name := "bestChild", desc := "(LFairyDust;I[J)I" } : Jvm.MethodName)) ∈ GW := gw_t 620 (by decide +kernel) rfl
theorem kw621 : (Jvm.Cond.codeWith ({ cls := "FairyDustLaw", name := "bestChild", desc := "(LFairyDust;I[J)I" } : Jvm.MethodName) method_23_code (4 : Nat) (Option.some Jvm.ClassFile.FieldType.int) [((0 : Nat), (9 : Nat), (12 : Nat), (13 : Nat))]) ∈ GW := gw_t 621 (by decide +kernel) rfl
theorem kw622 : (Jvm.Cond.methodLink "FairyDustLaw" (79 : Nat) ({ cls := "FairyDust", name := "bestChild", desc := "(I)I" } : Jvm.MethodName)) ∈ GW := gw_t 622 (by decide +kernel) rfl
theorem kw623 : (Jvm.Cond.classLink "FairyDustLaw" (83 : Nat) "FairyDustModel") ∈ GW := gw_t 623 (by decide +kernel) rfl
theorem kw624 : (Jvm.Cond.instantiable "FairyDustModel" (15 : Nat)) ∈ GW := gw_t 624 (by decide +kernel) rfl
theorem kw625 : (Jvm.Cond.methodLink "FairyDustLaw" (85 : Nat) ({ cls := "FairyDustModel", name := "<init>", desc := "()V" } : Jvm.MethodName)) ∈ GW := gw_t 625 (by decide +kernel) rfl
theorem kw626 : (Jvm.Cond.instanceMethod ({ cls := "FairyDustModel", name := "<init>", desc := "()V" } : Jvm.MethodName)) ∈ GW := gw_t 626 (by decide +kernel) rfl
theorem kw627 : (Jvm.Cond.code ({ cls := "FairyDustModel", name := "<init>", desc := "()V" } : Jvm.MethodName) prog_5_method_1_code (1 : Nat) (Option.none : Option Jvm.ClassFile.FieldType)) ∈ GW := gw_t 627 (by decide +kernel) rfl
theorem kw628 : (Jvm.Cond.methodLink "FairyDustModel" (1 : Nat) ({ cls := "java/lang/Object", name := "<init>", desc := "()V" } : Jvm.MethodName)) ∈ GW := gw_t 628 (by decide +kernel) rfl
theorem kw629 : (Jvm.Cond.fieldLink "FairyDustModel" (37 : Nat) "FairyDustModel" "thrown" "I") ∈ GW := gw_t 629 (by decide +kernel) rfl
theorem kw630 : (Jvm.Cond.fieldLink "FairyDustModel" (41 : Nat) "FairyDustModel" "wands" "I") ∈ GW := gw_t 630 (by decide +kernel) rfl
theorem kw631 : (Jvm.Cond.fieldLink "FairyDustModel" (48 : Nat) "FairyDustModel" "children" "I") ∈ GW := gw_t 631 (by decide +kernel) rfl
theorem kw632 : (Jvm.Cond.fieldLink "FairyDustModel" (51 : Nat) "FairyDustModel" "hour" "I") ∈ GW := gw_t 632 (by decide +kernel) rfl
theorem kw633 : (Jvm.Cond.fieldLink "FairyDustModel" (97 : Nat) "FairyDustModel" "granted" "I") ∈ GW := gw_t 633 (by decide +kernel) rfl
theorem kw634 : (Jvm.Cond.fieldLink "FairyDustModel" (71 : Nat) "FairyDustModel" "denied" "I") ∈ GW := gw_t 634 (by decide +kernel) rfl
theorem kw635 : (Jvm.Cond.fieldLink "FairyDustModel" (9 : Nat) "FairyDustModel" "room" "[I") ∈ GW := gw_t 635 (by decide +kernel) rfl
theorem kw636 : (Jvm.Cond.fieldLink "FairyDustModel" (13 : Nat) "FairyDustModel" "fall" "[I") ∈ GW := gw_t 636 (by decide +kernel) rfl
theorem kw637 : (Jvm.Cond.fieldLink "FairyDustModel" (16 : Nat) "FairyDustModel" "dust" "[I") ∈ GW := gw_t 637 (by decide +kernel) rfl
theorem kw638 : (Jvm.Cond.fieldLink "FairyDustModel" (19 : Nat) "FairyDustModel" "wand" "[I") ∈ GW := gw_t 638 (by decide +kernel) rfl
theorem kw639 : (Jvm.Cond.fieldLink "FairyDustModel" (22 : Nat) "FairyDustModel" "birthday" "[I") ∈ GW := gw_t 639 (by decide +kernel) rfl
theorem kw640 : (Jvm.Cond.fieldLink "FairyDustModel" (25 : Nat) "FairyDustModel" "burst" "[I") ∈ GW := gw_t 640 (by decide +kernel) rfl
theorem kw641 : (Jvm.Cond.fieldLink "FairyDustModel" (28 : Nat) "FairyDustModel" "held" "[I") ∈ GW := gw_t 641 (by decide +kernel) rfl
theorem kw642 : (Jvm.Cond.fieldLink "FairyDustModel" (31 : Nat) "FairyDustModel" "marks" "[I") ∈ GW := gw_t 642 (by decide +kernel) rfl
theorem kw643 : (Jvm.Cond.fieldLink "FairyDustModel" (34 : Nat) "FairyDustModel" "next" "[I") ∈ GW := gw_t 643 (by decide +kernel) rfl
theorem kw644 : (Jvm.Cond.lays "FairyDustModel" "FairyDustModel" "thrown" "I") ∈ GW := gw_t 644 (by decide +kernel) rfl
theorem kw646 : (Jvm.Cond.lays "FairyDustModel" "FairyDustModel" "wands" "I") ∈ GW := gw_t 646 (by decide +kernel) rfl
theorem kw648 : (Jvm.Cond.lays "FairyDustModel" "FairyDustModel" "children" "I") ∈ GW := gw_t 648 (by decide +kernel) rfl
theorem kw650 : (Jvm.Cond.lays "FairyDustModel" "FairyDustModel" "hour" "I") ∈ GW := gw_t 650 (by decide +kernel) rfl
theorem kw652 : (Jvm.Cond.lays "FairyDustModel" "FairyDustModel" "granted" "I") ∈ GW := gw_t 652 (by decide +kernel) rfl
theorem kw654 : (Jvm.Cond.lays "FairyDustModel" "FairyDustModel" "denied" "I") ∈ GW := gw_t 654 (by decide +kernel) rfl
theorem kw656 : (Jvm.Cond.laysFinal "FairyDustModel" "FairyDustModel" "room" "[I") ∈ GW := gw_t 656 (by decide +kernel) rfl
theorem kw658 : (Jvm.Cond.laysFinal "FairyDustModel" "FairyDustModel" "fall" "[I") ∈ GW := gw_t 658 (by decide +kernel) rfl
theorem kw660 : (Jvm.Cond.laysFinal "FairyDustModel" "FairyDustModel" "dust" "[I") ∈ GW := gw_t 660 (by decide +kernel) rfl
theorem kw662 : (Jvm.Cond.laysFinal "FairyDustModel" "FairyDustModel" "wand" "[I") ∈ GW := gw_t 662 (by decide +kernel) rfl
theorem kw664 : (Jvm.Cond.laysFinal "FairyDustModel" "FairyDustModel" "birthday" "[I") ∈ GW := gw_t 664 (by decide +kernel) rfl
theorem kw666 : (Jvm.Cond.laysFinal "FairyDustModel" "FairyDustModel" "burst" "[I") ∈ GW := gw_t 666 (by decide +kernel) rfl
theorem kw668 : (Jvm.Cond.laysFinal "FairyDustModel" "FairyDustModel" "held" "[I") ∈ GW := gw_t 668 (by decide +kernel) rfl
theorem kw670 : (Jvm.Cond.laysFinal "FairyDustModel" "FairyDustModel" "marks" "[I") ∈ GW := gw_t 670 (by decide +kernel) rfl
theorem kw672 : (Jvm.Cond.laysFinal "FairyDustModel" "FairyDustModel" "next" "[I") ∈ GW := gw_t 672 (by decide +kernel) rfl
theorem kw674 : (Jvm.Cond.superclass "FairyDustModel" "java/lang/Object") ∈ GW := gw_t 674 (by decide +kernel) rfl
theorem kw675 : (Jvm.Cond.arrayClass Jvm.ClassFile.FieldType.int) ∈ GW := gw_t 675 (by decide +kernel) rfl
theorem kw676 : (Jvm.Cond.methodLink "FairyDustLaw" (92 : Nat) ({ cls := "FairyDustModel", name := "thrown", desc := "()I" } : Jvm.MethodName)) ∈ GW := gw_t 676 (by decide +kernel) rfl
theorem kw677 : (Jvm.Cond.instanceMethod ({ cls := "FairyDustModel", name := "thrown", desc := "()I" } : Jvm.MethodName)) ∈ GW := gw_t 677 (by decide +kernel) rfl
theorem kw678 : (Jvm.Cond.selects "FairyDustModel" ({ cls := "FairyDustModel", name := "thrown", desc := "()I" } : Jvm.MethodName) ({ cls := "FairyDustModel", name := "thrown", desc := "()I" } : Jvm.MethodName)) ∈ GW := gw_t 678 (by decide +kernel) rfl
theorem kw679 : (Jvm.Cond.code ({ cls := "FairyDustModel", name := "thrown", desc := "()I" } : Jvm.MethodName) prog_5_method_2_code (1 : Nat) (Option.some Jvm.ClassFile.FieldType.int)) ∈ GW := gw_t 679 (by decide +kernel) rfl
theorem kw680 : (Jvm.Cond.methodLink "FairyDustLaw" (91 : Nat) ({ cls := "FairyDustModel", name := "addWand", desc := "(II)I" } : Jvm.MethodName)) ∈ GW := gw_t 680 (by decide +kernel) rfl
theorem kw681 : (Jvm.Cond.instanceMethod ({ cls := "FairyDustModel", name := "addWand", desc := "(II)I" } : Jvm.MethodName)) ∈ GW := gw_t 681 (by decide +kernel) rfl
theorem kw682 : (Jvm.Cond.selects "FairyDustModel" ({ cls := "FairyDustModel", name := "addWand", desc := "(II)I" } : Jvm.MethodName) ({ cls := "FairyDustModel", name := "addWand", desc := "(II)I" } : Jvm.MethodName)) ∈ GW := gw_t 682 (by decide +kernel) rfl
theorem kw683 : (Jvm.Cond.code ({ cls := "FairyDustModel", name := "addWand", desc := "(II)I" } : Jvm.MethodName) prog_5_method_12_code (3 : Nat) (Option.some Jvm.ClassFile.FieldType.int)) ∈ GW := gw_t 683 (by decide +kernel) rfl
theorem kw684 : (Jvm.Cond.methodLink "FairyDustModel" (44 : Nat) ({ cls := "FairyDustModel", name := "isIn", desc := "(III)Z" } : Jvm.MethodName)) ∈ GW := gw_t 684 (by decide +kernel) rfl
theorem kw685 : (Jvm.Cond.static ({ cls := "FairyDustModel", name := "isIn", desc := "(III)Z" } : Jvm.MethodName)) ∈ GW := gw_t 685 (by decide +kernel) rfl
theorem kw686 : (Jvm.Cond.code ({ cls := "FairyDustModel", name := "isIn", desc := "(III)Z" } : Jvm.MethodName) prog_5_method_6_code (3 : Nat) (Option.some Jvm.ClassFile.FieldType.boolean)) ∈ GW := gw_t 686 (by decide +kernel) rfl
theorem kw687 : (Jvm.Cond.methodLink "FairyDustModel" (58 : Nat) ({ cls := "FairyDustModel", name := "no", desc := "(I)I" } : Jvm.MethodName)) ∈ GW := gw_t 687 (by decide +kernel) rfl
theorem kw689 : (Jvm.Cond.instanceMethod ({ cls := "FairyDustModel", name := "no", desc := "(I)I" } : Jvm.MethodName)) ∈ GW := gw_t 689 (by decide +kernel) rfl
theorem kw690 : (Jvm.Cond.code ({ cls := "FairyDustModel", name := "no", desc := "(I)I" } : Jvm.MethodName) prog_5_method_3_code (2 : Nat) (Option.some Jvm.ClassFile.FieldType.int)) ∈ GW := gw_t 690 (by decide +kernel) rfl
theorem kw691 : (Jvm.Cond.methodLink "FairyDustLaw" (98 : Nat) ({ cls := "FairyDustModel", name := "addChild", desc := "(II)I" } : Jvm.MethodName)) ∈ GW := gw_t 691 (by decide +kernel) rfl
theorem kw692 : (Jvm.Cond.instanceMethod ({ cls := "FairyDustModel", name := "addChild", desc := "(II)I" } : Jvm.MethodName)) ∈ GW := gw_t 692 (by decide +kernel) rfl
theorem kw693 : (Jvm.Cond.selects "FairyDustModel" ({ cls := "FairyDustModel", name := "addChild", desc := "(II)I" } : Jvm.MethodName) ({ cls := "FairyDustModel", name := "addChild", desc := "(II)I" } : Jvm.MethodName)) ∈ GW := gw_t 693 (by decide +kernel) rfl
theorem kw694 : (Jvm.Cond.code ({ cls := "FairyDustModel", name := "addChild", desc := "(II)I" } : Jvm.MethodName) prog_5_method_13_code (3 : Nat) (Option.some Jvm.ClassFile.FieldType.int)) ∈ GW := gw_t 694 (by decide +kernel) rfl
theorem kw695 : (Jvm.Cond.methodLink "FairyDustModel" (61 : Nat) ({ cls := "FairyDustModel", name := "isWand", desc := "(I)Z" } : Jvm.MethodName)) ∈ GW := gw_t 695 (by decide +kernel) rfl
theorem kw697 : (Jvm.Cond.instanceMethod ({ cls := "FairyDustModel", name := "isWand", desc := "(I)Z" } : Jvm.MethodName)) ∈ GW := gw_t 697 (by decide +kernel) rfl
theorem kw698 : (Jvm.Cond.code ({ cls := "FairyDustModel", name := "isWand", desc := "(I)Z" } : Jvm.MethodName) prog_5_method_7_code (2 : Nat) (Option.some Jvm.ClassFile.FieldType.boolean)) ∈ GW := gw_t 698 (by decide +kernel) rfl
theorem kw699 : (Jvm.Cond.methodLink "FairyDustModel" (54 : Nat) ({ cls := "FairyDustModel", name := "dayOf", desc := "(I)I" } : Jvm.MethodName)) ∈ GW := gw_t 699 (by decide +kernel) rfl
theorem kw700 : (Jvm.Cond.static ({ cls := "FairyDustModel", name := "dayOf", desc := "(I)I" } : Jvm.MethodName)) ∈ GW := gw_t 700 (by decide +kernel) rfl
theorem kw701 : (Jvm.Cond.code ({ cls := "FairyDustModel", name := "dayOf", desc := "(I)I" } : Jvm.MethodName) prog_5_method_10_code (1 : Nat) (Option.some Jvm.ClassFile.FieldType.int)) ∈ GW := gw_t 701 (by decide +kernel) rfl
theorem kw702 : (Jvm.Cond.methodLink "FairyDustLaw" (101 : Nat) ({ cls := "FairyDustModel", name := "give", desc := "(II)I" } : Jvm.MethodName)) ∈ GW := gw_t 702 (by decide +kernel) rfl
theorem kw703 : (Jvm.Cond.instanceMethod ({ cls := "FairyDustModel", name := "give", desc := "(II)I" } : Jvm.MethodName)) ∈ GW := gw_t 703 (by decide +kernel) rfl
theorem kw704 : (Jvm.Cond.selects "FairyDustModel" ({ cls := "FairyDustModel", name := "give", desc := "(II)I" } : Jvm.MethodName) ({ cls := "FairyDustModel", name := "give", desc := "(II)I" } : Jvm.MethodName)) ∈ GW := gw_t 704 (by decide +kernel) rfl
theorem kw705 : (Jvm.Cond.code ({ cls := "FairyDustModel", name := "give", desc := "(II)I" } : Jvm.MethodName) prog_5_method_14_code (4 : Nat) (Option.some Jvm.ClassFile.FieldType.int)) ∈ GW := gw_t 705 (by decide +kernel) rfl
theorem kw706 : (Jvm.Cond.methodLink "FairyDustModel" (65 : Nat) ({ cls := "FairyDustModel", name := "isChild", desc := "(I)Z" } : Jvm.MethodName)) ∈ GW := gw_t 706 (by decide +kernel) rfl
theorem kw708 : (Jvm.Cond.instanceMethod ({ cls := "FairyDustModel", name := "isChild", desc := "(I)Z" } : Jvm.MethodName)) ∈ GW := gw_t 708 (by decide +kernel) rfl
theorem kw709 : (Jvm.Cond.code ({ cls := "FairyDustModel", name := "isChild", desc := "(I)Z" } : Jvm.MethodName) prog_5_method_8_code (2 : Nat) (Option.some Jvm.ClassFile.FieldType.boolean)) ∈ GW := gw_t 709 (by decide +kernel) rfl
theorem kw710 : (Jvm.Cond.methodLink "FairyDustLaw" (104 : Nat) ({ cls := "FairyDustModel", name := "setFall", desc := "(II)I" } : Jvm.MethodName)) ∈ GW := gw_t 710 (by decide +kernel) rfl
theorem kw711 : (Jvm.Cond.instanceMethod ({ cls := "FairyDustModel", name := "setFall", desc := "(II)I" } : Jvm.MethodName)) ∈ GW := gw_t 711 (by decide +kernel) rfl
theorem kw712 : (Jvm.Cond.selects "FairyDustModel" ({ cls := "FairyDustModel", name := "setFall", desc := "(II)I" } : Jvm.MethodName) ({ cls := "FairyDustModel", name := "setFall", desc := "(II)I" } : Jvm.MethodName)) ∈ GW := gw_t 712 (by decide +kernel) rfl
theorem kw713 : (Jvm.Cond.code ({ cls := "FairyDustModel", name := "setFall", desc := "(II)I" } : Jvm.MethodName) prog_5_method_15_code (4 : Nat) (Option.some Jvm.ClassFile.FieldType.int)) ∈ GW := gw_t 713 (by decide +kernel) rfl
theorem kw714 : (Jvm.Cond.methodLink "FairyDustLaw" (107 : Nat) ({ cls := "FairyDustModel", name := "wish", desc := "(II)Z" } : Jvm.MethodName)) ∈ GW := gw_t 714 (by decide +kernel) rfl
theorem kw715 : (Jvm.Cond.instanceMethod ({ cls := "FairyDustModel", name := "wish", desc := "(II)Z" } : Jvm.MethodName)) ∈ GW := gw_t 715 (by decide +kernel) rfl
theorem kw716 : (Jvm.Cond.selects "FairyDustModel" ({ cls := "FairyDustModel", name := "wish", desc := "(II)Z" } : Jvm.MethodName) ({ cls := "FairyDustModel", name := "wish", desc := "(II)Z" } : Jvm.MethodName)) ∈ GW := gw_t 716 (by decide +kernel) rfl
theorem kw717 : (Jvm.Cond.code ({ cls := "FairyDustModel", name := "wish", desc := "(II)Z" } : Jvm.MethodName) prog_5_method_19_code (4 : Nat) (Option.some Jvm.ClassFile.FieldType.boolean)) ∈ GW := gw_t 717 (by decide +kernel) rfl
theorem kw718 : (Jvm.Cond.methodLink "FairyDustModel" (80 : Nat) ({ cls := "FairyDustModel", name := "isNot", desc := "(I)Z" } : Jvm.MethodName)) ∈ GW := gw_t 718 (by decide +kernel) rfl
theorem kw720 : (Jvm.Cond.instanceMethod ({ cls := "FairyDustModel", name := "isNot", desc := "(I)Z" } : Jvm.MethodName)) ∈ GW := gw_t 720 (by decide +kernel) rfl
theorem kw721 : (Jvm.Cond.code ({ cls := "FairyDustModel", name := "isNot", desc := "(I)Z" } : Jvm.MethodName) prog_5_method_4_code (2 : Nat) (Option.some Jvm.ClassFile.FieldType.boolean)) ∈ GW := gw_t 721 (by decide +kernel) rfl
theorem kw722 : (Jvm.Cond.methodLink "FairyDustModel" (83 : Nat) ({ cls := "FairyDustModel", name := "isSize", desc := "(I)Z" } : Jvm.MethodName)) ∈ GW := gw_t 722 (by decide +kernel) rfl
theorem kw723 : (Jvm.Cond.static ({ cls := "FairyDustModel", name := "isSize", desc := "(I)Z" } : Jvm.MethodName)) ∈ GW := gw_t 723 (by decide +kernel) rfl
theorem kw724 : (Jvm.Cond.code ({ cls := "FairyDustModel", name := "isSize", desc := "(I)Z" } : Jvm.MethodName) prog_5_method_9_code (1 : Nat) (Option.some Jvm.ClassFile.FieldType.boolean)) ∈ GW := gw_t 724 (by decide +kernel) rfl
theorem kw725 : (Jvm.Cond.methodLink "FairyDustModel" (86 : Nat) ({ cls := "FairyDustModel", name := "isGranted", desc := "(II)Z" } : Jvm.MethodName)) ∈ GW := gw_t 725 (by decide +kernel) rfl
theorem kw727 : (Jvm.Cond.instanceMethod ({ cls := "FairyDustModel", name := "isGranted", desc := "(II)Z" } : Jvm.MethodName)) ∈ GW := gw_t 727 (by decide +kernel) rfl
theorem kw728 : (Jvm.Cond.code ({ cls := "FairyDustModel", name := "isGranted", desc := "(II)Z" } : Jvm.MethodName) prog_5_method_17_code (3 : Nat) (Option.some Jvm.ClassFile.FieldType.boolean)) ∈ GW := gw_t 728 (by decide +kernel) rfl
theorem kw729 : (Jvm.Cond.methodLink "FairyDustModel" (68 : Nat) ({ cls := "FairyDustModel", name := "all", desc := "(I)I" } : Jvm.MethodName)) ∈ GW := gw_t 729 (by decide +kernel) rfl
theorem kw731 : (Jvm.Cond.instanceMethod ({ cls := "FairyDustModel", name := "all", desc := "(I)I" } : Jvm.MethodName)) ∈ GW := gw_t 731 (by decide +kernel) rfl
theorem kw732 : (Jvm.Cond.code ({ cls := "FairyDustModel", name := "all", desc := "(I)I" } : Jvm.MethodName) prog_5_method_16_code (2 : Nat) (Option.some Jvm.ClassFile.FieldType.int)) ∈ GW := gw_t 732 (by decide +kernel) rfl
theorem kw733 : (Jvm.Cond.methodLink "FairyDustModel" (90 : Nat) ({ cls := "FairyDustModel", name := "deny", desc := "(I)V" } : Jvm.MethodName)) ∈ GW := gw_t 733 (by decide +kernel) rfl
theorem kw735 : (Jvm.Cond.instanceMethod ({ cls := "FairyDustModel", name := "deny", desc := "(I)V" } : Jvm.MethodName)) ∈ GW := gw_t 735 (by decide +kernel) rfl
theorem kw736 : (Jvm.Cond.code ({ cls := "FairyDustModel", name := "deny", desc := "(I)V" } : Jvm.MethodName) prog_5_method_18_code (2 : Nat) (Option.none : Option Jvm.ClassFile.FieldType)) ∈ GW := gw_t 736 (by decide +kernel) rfl
theorem kw737 : (Jvm.Cond.methodLink "FairyDustModel" (74 : Nat) ({ cls := "java/lang/Math", name := "min", desc := "(II)I" } : Jvm.MethodName)) ∈ GW := gw_t 737 (by decide +kernel) rfl
theorem kw738 : (Jvm.Cond.methodLink "FairyDustModel" (94 : Nat) ({ cls := "java/lang/Math", name := "max", desc := "(II)I" } : Jvm.MethodName)) ∈ GW := gw_t 738 (by decide +kernel) rfl
theorem kw739 : (Jvm.Cond.methodLink "FairyDustLaw" (111 : Nat) ({ cls := "FairyDustModel", name := "forgive", desc := "(I)I" } : Jvm.MethodName)) ∈ GW := gw_t 739 (by decide +kernel) rfl
theorem kw740 : (Jvm.Cond.instanceMethod ({ cls := "FairyDustModel", name := "forgive", desc := "(I)I" } : Jvm.MethodName)) ∈ GW := gw_t 740 (by decide +kernel) rfl
theorem kw741 : (Jvm.Cond.selects "FairyDustModel" ({ cls := "FairyDustModel", name := "forgive", desc := "(I)I" } : Jvm.MethodName) ({ cls := "FairyDustModel", name := "forgive", desc := "(I)I" } : Jvm.MethodName)) ∈ GW := gw_t 741 (by decide +kernel) rfl
theorem kw742 : (Jvm.Cond.code ({ cls := "FairyDustModel", name := "forgive", desc := "(I)I" } : Jvm.MethodName) prog_5_method_20_code (3 : Nat) (Option.some Jvm.ClassFile.FieldType.int)) ∈ GW := gw_t 742 (by decide +kernel) rfl
theorem kw743 : (Jvm.Cond.methodLink "FairyDustLaw" (114 : Nat) ({ cls := "FairyDustModel", name := "pass", desc := "(I)I" } : Jvm.MethodName)) ∈ GW := gw_t 743 (by decide +kernel) rfl
theorem kw744 : (Jvm.Cond.instanceMethod ({ cls := "FairyDustModel", name := "pass", desc := "(I)I" } : Jvm.MethodName)) ∈ GW := gw_t 744 (by decide +kernel) rfl
theorem kw745 : (Jvm.Cond.selects "FairyDustModel" ({ cls := "FairyDustModel", name := "pass", desc := "(I)I" } : Jvm.MethodName) ({ cls := "FairyDustModel", name := "pass", desc := "(I)I" } : Jvm.MethodName)) ∈ GW := gw_t 745 (by decide +kernel) rfl
theorem kw746 : (Jvm.Cond.code ({ cls := "FairyDustModel", name := "pass", desc := "(I)I" } : Jvm.MethodName) prog_5_method_21_code (5 : Nat) (Option.some Jvm.ClassFile.FieldType.int)) ∈ GW := gw_t 746 (by decide +kernel) rfl
theorem kw747 : (Jvm.Cond.methodLink "FairyDustModel" (100 : Nat) ({ cls := "FairyDustModel", name := "burstIn", desc := "(II)I" } : Jvm.MethodName)) ∈ GW := gw_t 747 (by decide +kernel) rfl
theorem kw749 : (Jvm.Cond.instanceMethod ({ cls := "FairyDustModel", name := "burstIn", desc := "(II)I" } : Jvm.MethodName)) ∈ GW := gw_t 749 (by decide +kernel) rfl
theorem kw750 : (Jvm.Cond.code ({ cls := "FairyDustModel", name := "burstIn", desc := "(II)I" } : Jvm.MethodName) prog_5_method_11_code (4 : Nat) (Option.some Jvm.ClassFile.FieldType.int)) ∈ GW := gw_t 750 (by decide +kernel) rfl
theorem kw751 : (Jvm.Cond.methodLink "FairyDustLaw" (118 : Nat) ({ cls := "FairyDustModel", name := "hour", desc := "()I" } : Jvm.MethodName)) ∈ GW := gw_t 751 (by decide +kernel) rfl
theorem kw752 : (Jvm.Cond.instanceMethod ({ cls := "FairyDustModel", name := "hour", desc := "()I" } : Jvm.MethodName)) ∈ GW := gw_t 752 (by decide +kernel) rfl
theorem kw753 : (Jvm.Cond.selects "FairyDustModel" ({ cls := "FairyDustModel", name := "hour", desc := "()I" } : Jvm.MethodName) ({ cls := "FairyDustModel", name := "hour", desc := "()I" } : Jvm.MethodName)) ∈ GW := gw_t 753 (by decide +kernel) rfl
theorem kw754 : (Jvm.Cond.code ({ cls := "FairyDustModel", name := "hour", desc := "()I" } : Jvm.MethodName) prog_5_method_22_code (1 : Nat) (Option.some Jvm.ClassFile.FieldType.int)) ∈ GW := gw_t 754 (by decide +kernel) rfl
theorem kw755 : (Jvm.Cond.methodLink "FairyDustModel" (103 : Nat) ({ cls := "FairyDustModel", name := "ok", desc := "(I)I" } : Jvm.MethodName)) ∈ GW := gw_t 755 (by decide +kernel) rfl
theorem kw757 : (Jvm.Cond.instanceMethod ({ cls := "FairyDustModel", name := "ok", desc := "(I)I" } : Jvm.MethodName)) ∈ GW := gw_t 757 (by decide +kernel) rfl
theorem kw758 : (Jvm.Cond.code ({ cls := "FairyDustModel", name := "ok", desc := "(I)I" } : Jvm.MethodName) prog_5_method_5_code (2 : Nat) (Option.some Jvm.ClassFile.FieldType.int)) ∈ GW := gw_t 758 (by decide +kernel) rfl
theorem kw759 : (Jvm.Cond.methodLink "FairyDustLaw" (122 : Nat) ({ cls := "FairyDustModel", name := "day", desc := "()I" } : Jvm.MethodName)) ∈ GW := gw_t 759 (by decide +kernel) rfl
theorem kw760 : (Jvm.Cond.instanceMethod ({ cls := "FairyDustModel", name := "day", desc := "()I" } : Jvm.MethodName)) ∈ GW := gw_t 760 (by decide +kernel) rfl
theorem kw761 : (Jvm.Cond.selects "FairyDustModel" ({ cls := "FairyDustModel", name := "day", desc := "()I" } : Jvm.MethodName) ({ cls := "FairyDustModel", name := "day", desc := "()I" } : Jvm.MethodName)) ∈ GW := gw_t 761 (by decide +kernel) rfl
theorem kw762 : (Jvm.Cond.code ({ cls := "FairyDustModel", name := "day", desc := "()I" } : Jvm.MethodName) prog_5_method_23_code (1 : Nat) (Option.some Jvm.ClassFile.FieldType.int)) ∈ GW := gw_t 762 (by decide +kernel) rfl
theorem kw763 : (Jvm.Cond.methodLink "FairyDustLaw" (126 : Nat) ({ cls := "FairyDustModel", name := "wands", desc := "()I" } : Jvm.MethodName)) ∈ GW := gw_t 763 (by decide +kernel) rfl
theorem kw764 : (Jvm.Cond.instanceMethod ({ cls := "FairyDustModel", name := "wands", desc := "()I" } : Jvm.MethodName)) ∈ GW := gw_t 764 (by decide +kernel) rfl
theorem kw765 : (Jvm.Cond.selects "FairyDustModel" ({ cls := "FairyDustModel", name := "wands", desc := "()I" } : Jvm.MethodName) ({ cls := "FairyDustModel", name := "wands", desc := "()I" } : Jvm.MethodName)) ∈ GW := gw_t 765 (by decide +kernel) rfl
theorem kw766 : (Jvm.Cond.code ({ cls := "FairyDustModel", name := "wands", desc := "()I" } : Jvm.MethodName) prog_5_method_24_code (1 : Nat) (Option.some Jvm.ClassFile.FieldType.int)) ∈ GW := gw_t 766 (by decide +kernel) rfl
theorem kw767 : (Jvm.Cond.methodLink "FairyDustLaw" (130 : Nat) ({ cls := "FairyDustModel", name := "children", desc := "()I" } : Jvm.MethodName)) ∈ GW := gw_t 767 (by decide +kernel) rfl
theorem kw768 : (Jvm.Cond.instanceMethod ({ cls := "FairyDustModel", name := "children", desc := "()I" } : Jvm.MethodName)) ∈ GW := gw_t 768 (by decide +kernel) rfl
theorem kw769 : (Jvm.Cond.selects "FairyDustModel" ({ cls := "FairyDustModel", name := "children", desc := "()I" } : Jvm.MethodName) ({ cls := "FairyDustModel", name := "children", desc := "()I" } : Jvm.MethodName)) ∈ GW := gw_t 769 (by decide +kernel) rfl
theorem kw770 : (Jvm.Cond.code ({ cls := "FairyDustModel", name := "children", desc := "()I" } : Jvm.MethodName) prog_5_method_25_code (1 : Nat) (Option.some Jvm.ClassFile.FieldType.int)) ∈ GW := gw_t 770 (by decide +kernel) rfl
theorem kw771 : (Jvm.Cond.methodLink "FairyDustLaw" (134 : Nat) ({ cls := "FairyDustModel", name := "granted", desc := "()I" } : Jvm.MethodName)) ∈ GW := gw_t 771 (by decide +kernel) rfl
theorem kw772 : (Jvm.Cond.instanceMethod ({ cls := "FairyDustModel", name := "granted", desc := "()I" } : Jvm.MethodName)) ∈ GW := gw_t 772 (by decide +kernel) rfl
theorem kw773 : (Jvm.Cond.selects "FairyDustModel" ({ cls := "FairyDustModel", name := "granted", desc := "()I" } : Jvm.MethodName) ({ cls := "FairyDustModel", name := "granted", desc := "()I" } : Jvm.MethodName)) ∈ GW := gw_t 773 (by decide +kernel) rfl
theorem kw774 : (Jvm.Cond.code ({ cls := "FairyDustModel", name := "granted", desc := "()I" } : Jvm.MethodName) prog_5_method_26_code (1 : Nat) (Option.some Jvm.ClassFile.FieldType.int)) ∈ GW := gw_t 774 (by decide +kernel) rfl
theorem kw775 : (Jvm.Cond.methodLink "FairyDustLaw" (138 : Nat) ({ cls := "FairyDustModel", name := "denied", desc := "()I" } : Jvm.MethodName)) ∈ GW := gw_t 775 (by decide +kernel) rfl
theorem kw776 : (Jvm.Cond.instanceMethod ({ cls := "FairyDustModel", name := "denied", desc := "()I" } : Jvm.MethodName)) ∈ GW := gw_t 776 (by decide +kernel) rfl
theorem kw777 : (Jvm.Cond.selects "FairyDustModel" ({ cls := "FairyDustModel", name := "denied", desc := "()I" } : Jvm.MethodName) ({ cls := "FairyDustModel", name := "denied", desc := "()I" } : Jvm.MethodName)) ∈ GW := gw_t 777 (by decide +kernel) rfl
theorem kw778 : (Jvm.Cond.code ({ cls := "FairyDustModel", name := "denied", desc := "()I" } : Jvm.MethodName) prog_5_method_27_code (1 : Nat) (Option.some Jvm.ClassFile.FieldType.int)) ∈ GW := gw_t 778 (by decide +kernel) rfl
theorem kw779 : (Jvm.Cond.methodLink "FairyDustLaw" (142 : Nat) ({ cls := "FairyDustModel", name := "punished", desc := "()I" } : Jvm.MethodName)) ∈ GW := gw_t 779 (by decide +kernel) rfl
theorem kw780 : (Jvm.Cond.instanceMethod ({ cls := "FairyDustModel", name := "punished", desc := "()I" } : Jvm.MethodName)) ∈ GW := gw_t 780 (by decide +kernel) rfl
theorem kw781 : (Jvm.Cond.selects "FairyDustModel" ({ cls := "FairyDustModel", name := "punished", desc := "()I" } : Jvm.MethodName) ({ cls := "FairyDustModel", name := "punished", desc := "()I" } : Jvm.MethodName)) ∈ GW := gw_t 781 (by decide +kernel) rfl
theorem kw782 : (Jvm.Cond.code ({ cls := "FairyDustModel", name := "punished", desc := "()I" } : Jvm.MethodName) prog_5_method_29_code (1 : Nat) (Option.some Jvm.ClassFile.FieldType.int)) ∈ GW := gw_t 782 (by decide +kernel) rfl
theorem kw783 : (Jvm.Cond.methodLink "FairyDustModel" (106 : Nat) ({ cls := "FairyDustModel", name := "manyHeld", desc := "()I" } : Jvm.MethodName)) ∈ GW := gw_t 783 (by decide +kernel) rfl
theorem kw785 : (Jvm.Cond.instanceMethod ({ cls := "FairyDustModel", name := "manyHeld", desc := "()I" } : Jvm.MethodName)) ∈ GW := gw_t 785 (by decide +kernel) rfl
theorem kw786 : (Jvm.Cond.code ({ cls := "FairyDustModel", name := "manyHeld", desc := "()I" } : Jvm.MethodName) prog_5_method_28_code (3 : Nat) (Option.some Jvm.ClassFile.FieldType.int)) ∈ GW := gw_t 786 (by decide +kernel) rfl
theorem kw787 : (Jvm.Cond.methodLink "FairyDustLaw" (145 : Nat) ({ cls := "FairyDustModel", name := "dustIn", desc := "(I)I" } : Jvm.MethodName)) ∈ GW := gw_t 787 (by decide +kernel) rfl
theorem kw788 : (Jvm.Cond.instanceMethod ({ cls := "FairyDustModel", name := "dustIn", desc := "(I)I" } : Jvm.MethodName)) ∈ GW := gw_t 788 (by decide +kernel) rfl
theorem kw789 : (Jvm.Cond.selects "FairyDustModel" ({ cls := "FairyDustModel", name := "dustIn", desc := "(I)I" } : Jvm.MethodName) ({ cls := "FairyDustModel", name := "dustIn", desc := "(I)I" } : Jvm.MethodName)) ∈ GW := gw_t 789 (by decide +kernel) rfl
theorem kw790 : (Jvm.Cond.code ({ cls := "FairyDustModel", name := "dustIn", desc := "(I)I" } : Jvm.MethodName) prog_5_method_30_code (2 : Nat) (Option.some Jvm.ClassFile.FieldType.int)) ∈ GW := gw_t 790 (by decide +kernel) rfl
theorem kw791 : (Jvm.Cond.methodLink "FairyDustLaw" (148 : Nat) ({ cls := "FairyDustModel", name := "users", desc := "(I)I" } : Jvm.MethodName)) ∈ GW := gw_t 791 (by decide +kernel) rfl
theorem kw792 : (Jvm.Cond.instanceMethod ({ cls := "FairyDustModel", name := "users", desc := "(I)I" } : Jvm.MethodName)) ∈ GW := gw_t 792 (by decide +kernel) rfl
theorem kw793 : (Jvm.Cond.selects "FairyDustModel" ({ cls := "FairyDustModel", name := "users", desc := "(I)I" } : Jvm.MethodName) ({ cls := "FairyDustModel", name := "users", desc := "(I)I" } : Jvm.MethodName)) ∈ GW := gw_t 793 (by decide +kernel) rfl
theorem kw794 : (Jvm.Cond.code ({ cls := "FairyDustModel", name := "users", desc := "(I)I" } : Jvm.MethodName) prog_5_method_32_code (2 : Nat) (Option.some Jvm.ClassFile.FieldType.int)) ∈ GW := gw_t 794 (by decide +kernel) rfl
theorem kw795 : (Jvm.Cond.methodLink "FairyDustModel" (110 : Nat) ({ cls := "FairyDustModel", name := "using", desc := "(I)I" } : Jvm.MethodName)) ∈ GW := gw_t 795 (by decide +kernel) rfl
theorem kw797 : (Jvm.Cond.instanceMethod ({ cls := "FairyDustModel", name := "using", desc := "(I)I" } : Jvm.MethodName)) ∈ GW := gw_t 797 (by decide +kernel) rfl
theorem kw798 : (Jvm.Cond.code ({ cls := "FairyDustModel", name := "using", desc := "(I)I" } : Jvm.MethodName) prog_5_method_31_code (4 : Nat) (Option.some Jvm.ClassFile.FieldType.int)) ∈ GW := gw_t 798 (by decide +kernel) rfl
theorem kw799 : (Jvm.Cond.methodLink "FairyDustLaw" (151 : Nat) ({ cls := "FairyDustModel", name := "wandOf", desc := "(I)I" } : Jvm.MethodName)) ∈ GW := gw_t 799 (by decide +kernel) rfl
theorem kw800 : (Jvm.Cond.instanceMethod ({ cls := "FairyDustModel", name := "wandOf", desc := "(I)I" } : Jvm.MethodName)) ∈ GW := gw_t 800 (by decide +kernel) rfl
theorem kw801 : (Jvm.Cond.selects "FairyDustModel" ({ cls := "FairyDustModel", name := "wandOf", desc := "(I)I" } : Jvm.MethodName) ({ cls := "FairyDustModel", name := "wandOf", desc := "(I)I" } : Jvm.MethodName)) ∈ GW := gw_t 801 (by decide +kernel) rfl
theorem kw802 : (Jvm.Cond.code ({ cls := "FairyDustModel", name := "wandOf", desc := "(I)I" } : Jvm.MethodName) prog_5_method_34_code (2 : Nat) (Option.some Jvm.ClassFile.FieldType.int)) ∈ GW := gw_t 802 (by decide +kernel) rfl
theorem kw803 : (Jvm.Cond.methodLink "FairyDustModel" (113 : Nat) ({ cls := "FairyDustModel", name := "of", desc := "([II)I" } : Jvm.MethodName)) ∈ GW := gw_t 803 (by decide +kernel) rfl
theorem kw805 : (Jvm.Cond.instanceMethod ({ cls := "FairyDustModel", name := "of", desc := "([II)I" } : Jvm.MethodName)) ∈ GW := gw_t 805 (by decide +kernel) rfl
theorem kw806 : (Jvm.Cond.code ({ cls := "FairyDustModel", name := "of", desc := "([II)I" } : Jvm.MethodName) prog_5_method_33_code (3 : Nat) (Option.some Jvm.ClassFile.FieldType.int)) ∈ GW := gw_t 806 (by decide +kernel) rfl
theorem kw807 : (Jvm.Cond.methodLink "FairyDustLaw" (154 : Nat) ({ cls := "FairyDustModel", name := "burstOf", desc := "(I)I" } : Jvm.MethodName)) ∈ GW := gw_t 807 (by decide +kernel) rfl
theorem kw808 : (Jvm.Cond.instanceMethod ({ cls := "FairyDustModel", name := "burstOf", desc := "(I)I" } : Jvm.MethodName)) ∈ GW := gw_t 808 (by decide +kernel) rfl
theorem kw809 : (Jvm.Cond.selects "FairyDustModel" ({ cls := "FairyDustModel", name := "burstOf", desc := "(I)I" } : Jvm.MethodName) ({ cls := "FairyDustModel", name := "burstOf", desc := "(I)I" } : Jvm.MethodName)) ∈ GW := gw_t 809 (by decide +kernel) rfl
theorem kw810 : (Jvm.Cond.code ({ cls := "FairyDustModel", name := "burstOf", desc := "(I)I" } : Jvm.MethodName) prog_5_method_35_code (2 : Nat) (Option.some Jvm.ClassFile.FieldType.int)) ∈ GW := gw_t 810 (by decide +kernel) rfl
theorem kw811 : (Jvm.Cond.methodLink "FairyDustLaw" (157 : Nat) ({ cls := "FairyDustModel", name := "punishedFor", desc := "(I)I" } : Jvm.MethodName)) ∈ GW := gw_t 811 (by decide +kernel) rfl
theorem kw812 : (Jvm.Cond.instanceMethod ({ cls := "FairyDustModel", name := "punishedFor", desc := "(I)I" } : Jvm.MethodName)) ∈ GW := gw_t 812 (by decide +kernel) rfl
theorem kw813 : (Jvm.Cond.selects "FairyDustModel" ({ cls := "FairyDustModel", name := "punishedFor", desc := "(I)I" } : Jvm.MethodName) ({ cls := "FairyDustModel", name := "punishedFor", desc := "(I)I" } : Jvm.MethodName)) ∈ GW := gw_t 813 (by decide +kernel) rfl
theorem kw814 : (Jvm.Cond.code ({ cls := "FairyDustModel", name := "punishedFor", desc := "(I)I" } : Jvm.MethodName) prog_5_method_36_code (2 : Nat) (Option.some Jvm.ClassFile.FieldType.int)) ∈ GW := gw_t 814 (by decide +kernel) rfl
theorem kw815 : (Jvm.Cond.methodLink "FairyDustLaw" (160 : Nat) ({ cls := "FairyDustModel", name := "marksOf", desc := "(I)I" } : Jvm.MethodName)) ∈ GW := gw_t 815 (by decide +kernel) rfl
theorem kw816 : (Jvm.Cond.instanceMethod ({ cls := "FairyDustModel", name := "marksOf", desc := "(I)I" } : Jvm.MethodName)) ∈ GW := gw_t 816 (by decide +kernel) rfl
theorem kw817 : (Jvm.Cond.selects "FairyDustModel" ({ cls := "FairyDustModel", name := "marksOf", desc := "(I)I" } : Jvm.MethodName) ({ cls := "FairyDustModel", name := "marksOf", desc := "(I)I" } : Jvm.MethodName)) ∈ GW := gw_t 817 (by decide +kernel) rfl
theorem kw818 : (Jvm.Cond.code ({ cls := "FairyDustModel", name := "marksOf", desc := "(I)I" } : Jvm.MethodName) prog_5_method_37_code (2 : Nat) (Option.some Jvm.ClassFile.FieldType.int)) ∈ GW := gw_t 818 (by decide +kernel) rfl
theorem kw819 : (Jvm.Cond.methodLink "FairyDustLaw" (163 : Nat) ({ cls := "FairyDustModel", name := "nextPunishment", desc := "(I)I" } : Jvm.MethodName)) ∈ GW := gw_t 819 (by decide +kernel) rfl
theorem kw820 : (Jvm.Cond.instanceMethod ({ cls := "FairyDustModel", name := "nextPunishment", desc := "(I)I" } : Jvm.MethodName)) ∈ GW := gw_t 820 (by decide +kernel) rfl
theorem kw821 : (Jvm.Cond.selects "FairyDustModel" ({ cls := "FairyDustModel", name := "nextPunishment", desc := "(I)I" } : Jvm.MethodName) ({ cls := "FairyDustModel", name := "nextPunishment", desc := "(I)I" } : Jvm.MethodName)) ∈ GW := gw_t 821 (by decide +kernel) rfl
theorem kw822 : (Jvm.Cond.code ({ cls := "FairyDustModel", name := "nextPunishment", desc := "(I)I" } : Jvm.MethodName) prog_5_method_38_code (2 : Nat) (Option.some Jvm.ClassFile.FieldType.int)) ∈ GW := gw_t 822 (by decide +kernel) rfl
theorem kw823 : (Jvm.Cond.methodLink "FairyDustLaw" (166 : Nat) ({ cls := "FairyDustModel", name := "daysToBirthday", desc := "(I)I" } : Jvm.MethodName)) ∈ GW := gw_t 823 (by decide +kernel) rfl
theorem kw824 : (Jvm.Cond.instanceMethod ({ cls := "FairyDustModel", name := "daysToBirthday", desc := "(I)I" } : Jvm.MethodName)) ∈ GW := gw_t 824 (by decide +kernel) rfl
theorem kw825 : (Jvm.Cond.selects "FairyDustModel" ({ cls := "FairyDustModel", name := "daysToBirthday", desc := "(I)I" } : Jvm.MethodName) ({ cls := "FairyDustModel", name := "daysToBirthday", desc := "(I)I" } : Jvm.MethodName)) ∈ GW := gw_t 825 (by decide +kernel) rfl
theorem kw826 : (Jvm.Cond.code ({ cls := "FairyDustModel", name := "daysToBirthday", desc := "(I)I" } : Jvm.MethodName) prog_5_method_40_code (2 : Nat) (Option.some Jvm.ClassFile.FieldType.int)) ∈ GW := gw_t 826 (by decide +kernel) rfl
theorem kw827 : (Jvm.Cond.methodLink "FairyDustModel" (117 : Nat) ({ cls := "FairyDustModel", name := "daysTo", desc := "(I)I" } : Jvm.MethodName)) ∈ GW := gw_t 827 (by decide +kernel) rfl
theorem kw829 : (Jvm.Cond.instanceMethod ({ cls := "FairyDustModel", name := "daysTo", desc := "(I)I" } : Jvm.MethodName)) ∈ GW := gw_t 829 (by decide +kernel) rfl
theorem kw830 : (Jvm.Cond.code ({ cls := "FairyDustModel", name := "daysTo", desc := "(I)I" } : Jvm.MethodName) prog_5_method_39_code (2 : Nat) (Option.some Jvm.ClassFile.FieldType.int)) ∈ GW := gw_t 830 (by decide +kernel) rfl
theorem kw831 : (Jvm.Cond.methodLink "FairyDustLaw" (169 : Nat) ({ cls := "FairyDustModel", name := "greatestWish", desc := "(I)I" } : Jvm.MethodName)) ∈ GW := gw_t 831 (by decide +kernel) rfl
theorem kw832 : (Jvm.Cond.instanceMethod ({ cls := "FairyDustModel", name := "greatestWish", desc := "(I)I" } : Jvm.MethodName)) ∈ GW := gw_t 832 (by decide +kernel) rfl
theorem kw833 : (Jvm.Cond.selects "FairyDustModel" ({ cls := "FairyDustModel", name := "greatestWish", desc := "(I)I" } : Jvm.MethodName) ({ cls := "FairyDustModel", name := "greatestWish", desc := "(I)I" } : Jvm.MethodName)) ∈ GW := gw_t 833 (by decide +kernel) rfl
theorem kw834 : (Jvm.Cond.code ({ cls := "FairyDustModel", name := "greatestWish", desc := "(I)I" } : Jvm.MethodName) prog_5_method_42_code (2 : Nat) (Option.some Jvm.ClassFile.FieldType.int)) ∈ GW := gw_t 834 (by decide +kernel) rfl
theorem kw835 : (Jvm.Cond.methodLink "FairyDustModel" (120 : Nat) ({ cls := "FairyDustModel", name := "greatest", desc := "(I)I" } : Jvm.MethodName)) ∈ GW := gw_t 835 (by decide +kernel) rfl
theorem kw837 : (Jvm.Cond.instanceMethod ({ cls := "FairyDustModel", name := "greatest", desc := "(I)I" } : Jvm.MethodName)) ∈ GW := gw_t 837 (by decide +kernel) rfl
theorem kw838 : (Jvm.Cond.code ({ cls := "FairyDustModel", name := "greatest", desc := "(I)I" } : Jvm.MethodName) prog_5_method_41_code (2 : Nat) (Option.some Jvm.ClassFile.FieldType.int)) ∈ GW := gw_t 838 (by decide +kernel) rfl
theorem kw839 : (Jvm.Cond.methodLink "FairyDustLaw" (172 : Nat) ({ cls := "FairyDustModel", name := "hoursUntil", desc := "(II)I" } : Jvm.MethodName)) ∈ GW := gw_t 839 (by decide +kernel) rfl
theorem kw840 : (Jvm.Cond.instanceMethod ({ cls := "FairyDustModel", name := "hoursUntil", desc := "(II)I" } : Jvm.MethodName)) ∈ GW := gw_t 840 (by decide +kernel) rfl
theorem kw841 : (Jvm.Cond.selects "FairyDustModel" ({ cls := "FairyDustModel", name := "hoursUntil", desc := "(II)I" } : Jvm.MethodName) ({ cls := "FairyDustModel", name := "hoursUntil", desc := "(II)I" } : Jvm.MethodName)) ∈ GW := gw_t 841 (by decide +kernel) rfl
theorem kw842 : (Jvm.Cond.code ({ cls := "FairyDustModel", name := "hoursUntil", desc := "(II)I" } : Jvm.MethodName) prog_5_method_44_code (3 : Nat) (Option.some Jvm.ClassFile.FieldType.int)) ∈ GW := gw_t 842 (by decide +kernel) rfl
theorem kw843 : (Jvm.Cond.methodLink "FairyDustModel" (123 : Nat) ({ cls := "FairyDustModel", name := "until", desc := "(II)I" } : Jvm.MethodName)) ∈ GW := gw_t 843 (by decide +kernel) rfl
theorem kw845 : (Jvm.Cond.instanceMethod ({ cls := "FairyDustModel", name := "until", desc := "(II)I" } : Jvm.MethodName)) ∈ GW := gw_t 845 (by decide +kernel) rfl
theorem kw846 : (Jvm.Cond.code ({ cls := "FairyDustModel", name := "until", desc := "(II)I" } : Jvm.MethodName) prog_5_method_43_code (5 : Nat) (Option.some Jvm.ClassFile.FieldType.int)) ∈ GW := gw_t 846 (by decide +kernel) rfl
theorem kw847 : (Jvm.Cond.methodLink "FairyDustLaw" (176 : Nat) ({ cls := "FairyDustModel", name := "grantedIn", desc := "(III)I" } : Jvm.MethodName)) ∈ GW := gw_t 847 (by decide +kernel) rfl
theorem kw848 : (Jvm.Cond.instanceMethod ({ cls := "FairyDustModel", name := "grantedIn", desc := "(III)I" } : Jvm.MethodName)) ∈ GW := gw_t 848 (by decide +kernel) rfl
theorem kw849 : (Jvm.Cond.selects "FairyDustModel" ({ cls := "FairyDustModel", name := "grantedIn", desc := "(III)I" } : Jvm.MethodName) ({ cls := "FairyDustModel", name := "grantedIn", desc := "(III)I" } : Jvm.MethodName)) ∈ GW := gw_t 849 (by decide +kernel) rfl
theorem kw850 : (Jvm.Cond.code ({ cls := "FairyDustModel", name := "grantedIn", desc := "(III)I" } : Jvm.MethodName) prog_5_method_46_code (4 : Nat) (Option.some Jvm.ClassFile.FieldType.int)) ∈ GW := gw_t 850 (by decide +kernel) rfl
theorem kw851 : (Jvm.Cond.methodLink "FairyDustModel" (126 : Nat) ({ cls := "FairyDustModel", name := "grants", desc := "(IIII)I" } : Jvm.MethodName)) ∈ GW := gw_t 851 (by decide +kernel) rfl
theorem kw853 : (Jvm.Cond.instanceMethod ({ cls := "FairyDustModel", name := "grants", desc := "(IIII)I" } : Jvm.MethodName)) ∈ GW := gw_t 853 (by decide +kernel) rfl
theorem kw854 : (Jvm.Cond.code ({ cls := "FairyDustModel", name := "grants", desc := "(IIII)I" } : Jvm.MethodName) prog_5_method_45_code (13 : Nat) (Option.some Jvm.ClassFile.FieldType.int)) ∈ GW := gw_t 854 (by decide +kernel) rfl
theorem kw855 : (Jvm.Cond.methodLink "FairyDustLaw" (179 : Nat) ({ cls := "FairyDustModel", name := "fallWanted", desc := "(II)I" } : Jvm.MethodName)) ∈ GW := gw_t 855 (by decide +kernel) rfl
theorem kw856 : (Jvm.Cond.instanceMethod ({ cls := "FairyDustModel", name := "fallWanted", desc := "(II)I" } : Jvm.MethodName)) ∈ GW := gw_t 856 (by decide +kernel) rfl
theorem kw857 : (Jvm.Cond.selects "FairyDustModel" ({ cls := "FairyDustModel", name := "fallWanted", desc := "(II)I" } : Jvm.MethodName) ({ cls := "FairyDustModel", name := "fallWanted", desc := "(II)I" } : Jvm.MethodName)) ∈ GW := gw_t 857 (by decide +kernel) rfl
theorem kw858 : (Jvm.Cond.code ({ cls := "FairyDustModel", name := "fallWanted", desc := "(II)I" } : Jvm.MethodName) prog_5_method_48_code (3 : Nat) (Option.some Jvm.ClassFile.FieldType.int)) ∈ GW := gw_t 858 (by decide +kernel) rfl
theorem kw859 : (Jvm.Cond.methodLink "FairyDustModel" (130 : Nat) ({ cls := "FairyDustModel", name := "wanted", desc := "(II)I" } : Jvm.MethodName)) ∈ GW := gw_t 859 (by decide +kernel) rfl
theorem kw861 : (Jvm.Cond.instanceMethod ({ cls := "FairyDustModel", name := "wanted", desc := "(II)I" } : Jvm.MethodName)) ∈ GW := gw_t 861 (by decide +kernel) rfl
theorem kw862 : (Jvm.Cond.code ({ cls := "FairyDustModel", name := "wanted", desc := "(II)I" } : Jvm.MethodName) prog_5_method_47_code (4 : Nat) (Option.some Jvm.ClassFile.FieldType.int)) ∈ GW := gw_t 862 (by decide +kernel) rfl
theorem kw863 : (Jvm.Cond.methodLink "FairyDustLaw" (182 : Nat) ({ cls := "FairyDustModel", name := "hoursUntilFull", desc := "(I)I" } : Jvm.MethodName)) ∈ GW := gw_t 863 (by decide +kernel) rfl
theorem kw864 : (Jvm.Cond.instanceMethod ({ cls := "FairyDustModel", name := "hoursUntilFull", desc := "(I)I" } : Jvm.MethodName)) ∈ GW := gw_t 864 (by decide +kernel) rfl
theorem kw865 : (Jvm.Cond.selects "FairyDustModel" ({ cls := "FairyDustModel", name := "hoursUntilFull", desc := "(I)I" } : Jvm.MethodName) ({ cls := "FairyDustModel", name := "hoursUntilFull", desc := "(I)I" } : Jvm.MethodName)) ∈ GW := gw_t 865 (by decide +kernel) rfl
theorem kw866 : (Jvm.Cond.code ({ cls := "FairyDustModel", name := "hoursUntilFull", desc := "(I)I" } : Jvm.MethodName) prog_5_method_50_code (2 : Nat) (Option.some Jvm.ClassFile.FieldType.int)) ∈ GW := gw_t 866 (by decide +kernel) rfl
theorem kw867 : (Jvm.Cond.methodLink "FairyDustModel" (133 : Nat) ({ cls := "FairyDustModel", name := "untilFull", desc := "(I)I" } : Jvm.MethodName)) ∈ GW := gw_t 867 (by decide +kernel) rfl
theorem kw869 : (Jvm.Cond.instanceMethod ({ cls := "FairyDustModel", name := "untilFull", desc := "(I)I" } : Jvm.MethodName)) ∈ GW := gw_t 869 (by decide +kernel) rfl
theorem kw870 : (Jvm.Cond.code ({ cls := "FairyDustModel", name := "untilFull", desc := "(I)I" } : Jvm.MethodName) prog_5_method_49_code (3 : Nat) (Option.some Jvm.ClassFile.FieldType.int)) ∈ GW := gw_t 870 (by decide +kernel) rfl
theorem kw871 : (Jvm.Cond.methodLink "FairyDustLaw" (185 : Nat) ({ cls := "FairyDustModel", name := "bestChild", desc := "(I)I" } : Jvm.MethodName)) ∈ GW := gw_t 871 (by decide +kernel) rfl
theorem kw872 : (Jvm.Cond.instanceMethod ({ cls := "FairyDustModel", name := "bestChild", desc := "(I)I" } : Jvm.MethodName)) ∈ GW := gw_t 872 (by decide +kernel) rfl
theorem kw873 : (Jvm.Cond.selects "FairyDustModel" ({ cls := "FairyDustModel", name := "bestChild", desc := "(I)I" } : Jvm.MethodName) ({ cls := "FairyDustModel", name := "bestChild", desc := "(I)I" } : Jvm.MethodName)) ∈ GW := gw_t 873 (by decide +kernel) rfl
theorem kw874 : (Jvm.Cond.code ({ cls := "FairyDustModel", name := "bestChild", desc := "(I)I" } : Jvm.MethodName) prog_5_method_53_code (2 : Nat) (Option.some Jvm.ClassFile.FieldType.int)) ∈ GW := gw_t 874 (by decide +kernel) rfl
theorem kw875 : (Jvm.Cond.methodLink "FairyDustModel" (139 : Nat) ({ cls := "FairyDustModel", name := "best", desc := "(I)I" } : Jvm.MethodName)) ∈ GW := gw_t 875 (by decide +kernel) rfl
theorem kw877 : (Jvm.Cond.instanceMethod ({ cls := "FairyDustModel", name := "best", desc := "(I)I" } : Jvm.MethodName)) ∈ GW := gw_t 877 (by decide +kernel) rfl
theorem kw878 : (Jvm.Cond.code ({ cls := "FairyDustModel", name := "best", desc := "(I)I" } : Jvm.MethodName) prog_5_method_52_code (4 : Nat) (Option.some Jvm.ClassFile.FieldType.int)) ∈ GW := gw_t 878 (by decide +kernel) rfl
theorem kw879 : (Jvm.Cond.methodLink "FairyDustModel" (136 : Nat) ({ cls := "FairyDustModel", name := "leaves", desc := "(II)I" } : Jvm.MethodName)) ∈ GW := gw_t 879 (by decide +kernel) rfl
theorem kw881 : (Jvm.Cond.instanceMethod ({ cls := "FairyDustModel", name := "leaves", desc := "(II)I" } : Jvm.MethodName)) ∈ GW := gw_t 881 (by decide +kernel) rfl
theorem kw882 : (Jvm.Cond.code ({ cls := "FairyDustModel", name := "leaves", desc := "(II)I" } : Jvm.MethodName) prog_5_method_51_code (3 : Nat) (Option.some Jvm.ClassFile.FieldType.int)) ∈ GW := gw_t 882 (by decide +kernel) rfl
theorem kw883 : (Jvm.Cond.methodLink "FairyDustLaw" (190 : Nat) ({ cls := "FairyDustModel", name := "share", desc := "()D" } : Jvm.MethodName)) ∈ GW := gw_t 883 (by decide +kernel) rfl
theorem kw884 : (Jvm.Cond.instanceMethod ({ cls := "FairyDustModel", name := "share", desc := "()D" } : Jvm.MethodName)) ∈ GW := gw_t 884 (by decide +kernel) rfl
theorem kw885 : (Jvm.Cond.selects "FairyDustModel" ({ cls := "FairyDustModel", name := "share", desc := "()D" } : Jvm.MethodName) ({ cls := "FairyDustModel", name := "share", desc := "()D" } : Jvm.MethodName)) ∈ GW := gw_t 885 (by decide +kernel) rfl
theorem kw886 : (Jvm.Cond.code ({ cls := "FairyDustModel", name := "share", desc := "()D" } : Jvm.MethodName) prog_5_method_54_code (2 : Nat) (Option.some Jvm.ClassFile.FieldType.double)) ∈ GW := gw_t 886 (by decide +kernel) rfl
theorem kw887 : (Jvm.Cond.methodLink "FairyDustLaw" (195 : Nat) ({ cls := "FairyDustModel", name := "digest", desc := "()J" } : Jvm.MethodName)) ∈ GW := gw_t 887 (by decide +kernel) rfl
theorem kw888 : (Jvm.Cond.instanceMethod ({ cls := "FairyDustModel", name := "digest", desc := "()J" } : Jvm.MethodName)) ∈ GW := gw_t 888 (by decide +kernel) rfl
theorem kw889 : (Jvm.Cond.selects "FairyDustModel" ({ cls := "FairyDustModel", name := "digest", desc := "()J" } : Jvm.MethodName) ({ cls := "FairyDustModel", name := "digest", desc := "()J" } : Jvm.MethodName)) ∈ GW := gw_t 889 (by decide +kernel) rfl
theorem kw890 : (Jvm.Cond.code ({ cls := "FairyDustModel", name := "digest", desc := "()J" } : Jvm.MethodName) prog_5_method_55_code (10 : Nat) (Option.some Jvm.ClassFile.FieldType.long)) ∈ GW := gw_t 890 (by decide +kernel) rfl
theorem kw891 : (Jvm.Cond.constantLong "FairyDustModel" (142 : Nat) (2267 : Int64)) ∈ GW := gw_t 891 (by decide +kernel) rfl
theorem kw892 : (Jvm.Cond.constantLong "FairyDustModel" (144 : Nat) (31 : Int64)) ∈ GW := gw_t 892 (by decide +kernel) rfl
theorem kw893 : (Jvm.Cond.arrayClass Jvm.ClassFile.FieldType.long) ∈ GW := gw_t 893 (by decide +kernel) rfl
theorem kw894 : (Jvm.Cond.sameMethod "java/lang/Throwable" "java/lang/Throwable" "fillInStackTrace" "(I)Ljava/lang/Throwable;") ∈ GW := gw_t 894 (by decide +kernel) rfl
theorem kw895 : (Jvm.Cond.castable "FairyDust" "java/lang/Object") ∈ GW := gw_t 895 (by decide +kernel) rfl
theorem kw896 : (Jvm.Cond.castable "java/util/ArrayList" "java/lang/Object") ∈ GW := gw_t 896 (by decide +kernel) rfl
theorem kw897 : (Jvm.Cond.castable "FairyDust$Wand" "java/lang/Object") ∈ GW := gw_t 897 (by decide +kernel) rfl
theorem kw898 : (Jvm.Cond.castable "FairyDust$Child" "java/lang/Object") ∈ GW := gw_t 898 (by decide +kernel) rfl
theorem kw899 : (Jvm.Cond.castable "FairyDustModel" "java/lang/Object") ∈ GW := gw_t 899 (by decide +kernel) rfl
theorem kw900 : (Jvm.Cond.castable "java/lang/IllegalArgumentException" "java/lang/Object") ∈ GW := gw_t 900 (by decide +kernel) rfl
theorem kw901 : (Jvm.Cond.castable "java/lang/IllegalStateException" "java/lang/Object") ∈ GW := gw_t 901 (by decide +kernel) rfl
theorem kw902 : (Jvm.Cond.castable "java/lang/IndexOutOfBoundsException" "java/lang/Object") ∈ GW := gw_t 902 (by decide +kernel) rfl
theorem kw903 : (Jvm.Cond.castable "java/lang/Throwable" "java/lang/Object") ∈ GW := gw_t 903 (by decide +kernel) rfl
theorem kw904 : (Jvm.Cond.castable "java/lang/String" "java/lang/Object") ∈ GW := gw_t 904 (by decide +kernel) rfl
theorem kw905 : (Jvm.Cond.sameMethod "[Ljava/lang/Object;" "java/lang/Object" "getClass" "()Ljava/lang/Class;") ∈ GW := gw_t 905 (by decide +kernel) rfl
theorem kw906 : (Jvm.Cond.selects "[Ljava/lang/Object;" ({ cls := "java/lang/Object", name := "getClass", desc := "()Ljava/lang/Class;" } : Jvm.MethodName) ({ cls := "java/lang/Object", name := "getClass", desc := "()Ljava/lang/Class;" } : Jvm.MethodName)) ∈ GW := gw_t 906 (by decide +kernel) rfl
theorem kw908 : (Jvm.Cond.castable "[B" "java/lang/Object") ∈ GW := gw_t 908 (by decide +kernel) rfl
theorem kw909 : (Jvm.Cond.castable "[Ljava/lang/Object;" "java/lang/Object") ∈ GW := gw_t 909 (by decide +kernel) rfl
theorem kw910 : (Jvm.Cond.castable "[I" "java/lang/Object") ∈ GW := gw_t 910 (by decide +kernel) rfl
theorem kw911 : (Jvm.Cond.castable "[J" "java/lang/Object") ∈ GW := gw_t 911 (by decide +kernel) rfl
theorem kp0 : Cond.selects "FairyDust$Child" (⟨"FairyDust$Child", "isPunished", "()Z"⟩ : MethodName) (⟨"FairyDust$Child", "isPunished", "()Z"⟩ : MethodName) ∈ GW := gw_p (q := (⟨"FairyDust$Child", "isPunished", "()Z"⟩, 6)) (List.mem_of_getElem? (i := 0) (by decide +kernel))
theorem kp1 : Cond.selects "java/lang/Throwable" (⟨"java/lang/Throwable", "fillInStackTrace", "(I)Ljava/lang/Throwable;"⟩ : MethodName) (⟨"java/lang/Throwable", "fillInStackTrace", "(I)Ljava/lang/Throwable;"⟩ : MethodName) ∈ GW := gw_p (q := (⟨"java/lang/Throwable", "fillInStackTrace", "(I)Ljava/lang/Throwable;"⟩, 6)) (List.mem_of_getElem? (i := 1) (by decide +kernel))
theorem kp2 : Cond.selects "FairyDust$Child" (⟨"FairyDust$Child", "canHave", "(I)Z"⟩ : MethodName) (⟨"FairyDust$Child", "canHave", "(I)Z"⟩ : MethodName) ∈ GW := gw_p (q := (⟨"FairyDust$Child", "canHave", "(I)Z"⟩, 6)) (List.mem_of_getElem? (i := 2) (by decide +kernel))
theorem kp3 : Cond.selects "FairyDust$Child" (⟨"FairyDust$Child", "grainsAtHand", "()I"⟩ : MethodName) (⟨"FairyDust$Child", "grainsAtHand", "()I"⟩ : MethodName) ∈ GW := gw_p (q := (⟨"FairyDust$Child", "grainsAtHand", "()I"⟩, 6)) (List.mem_of_getElem? (i := 3) (by decide +kernel))
theorem kp4 : Cond.selects "FairyDust$Child" (⟨"FairyDust$Child", "dustLeftAfter", "(I)I"⟩ : MethodName) (⟨"FairyDust$Child", "dustLeftAfter", "(I)I"⟩ : MethodName) ∈ GW := gw_p (q := (⟨"FairyDust$Child", "dustLeftAfter", "(I)I"⟩, 6)) (List.mem_of_getElem? (i := 4) (by decide +kernel))
theorem kp5 : Cond.selects "FairyDust" (⟨"FairyDust", "withWand", "(JI)J"⟩ : MethodName) (⟨"FairyDust", "withWand", "(JI)J"⟩ : MethodName) ∈ GW := gw_p (q := (⟨"FairyDust", "withWand", "(JI)J"⟩, 7)) (List.mem_of_getElem? (i := 5) (by decide +kernel))
theorem kp6 : Cond.selects "FairyDust" (⟨"FairyDust", "wandAt", "(I)LFairyDust$Wand;"⟩ : MethodName) (⟨"FairyDust", "wandAt", "(I)LFairyDust$Wand;"⟩ : MethodName) ∈ GW := gw_p (q := (⟨"FairyDust", "wandAt", "(I)LFairyDust$Wand;"⟩, 7)) (List.mem_of_getElem? (i := 6) (by decide +kernel))
theorem kp7 : Cond.selects "FairyDust$Wand" (⟨"FairyDust$Wand", "isFullAfter", "(I)Z"⟩ : MethodName) (⟨"FairyDust$Wand", "isFullAfter", "(I)Z"⟩ : MethodName) ∈ GW := gw_p (q := (⟨"FairyDust$Wand", "isFullAfter", "(I)Z"⟩, 4)) (List.mem_of_getElem? (i := 7) (by decide +kernel))
theorem kp8 : Cond.selects "FairyDust" (⟨"FairyDust", "withChild", "(JI)J"⟩ : MethodName) (⟨"FairyDust", "withChild", "(JI)J"⟩ : MethodName) ∈ GW := gw_p (q := (⟨"FairyDust", "withChild", "(JI)J"⟩, 7)) (List.mem_of_getElem? (i := 8) (by decide +kernel))
theorem kp9 : Cond.selects "FairyDust" (⟨"FairyDust", "childAt", "(I)LFairyDust$Child;"⟩ : MethodName) (⟨"FairyDust", "childAt", "(I)LFairyDust$Child;"⟩ : MethodName) ∈ GW := gw_p (q := (⟨"FairyDust", "childAt", "(I)LFairyDust$Child;"⟩, 7)) (List.mem_of_getElem? (i := 9) (by decide +kernel))
theorem kp10 : Cond.selects "FairyDust" (⟨"FairyDust", "beginTrial", "(LFairyDust$Child;)V"⟩ : MethodName) (⟨"FairyDust", "beginTrial", "(LFairyDust$Child;)V"⟩ : MethodName) ∈ GW := gw_p (q := (⟨"FairyDust", "beginTrial", "(LFairyDust$Child;)V"⟩, 7)) (List.mem_of_getElem? (i := 10) (by decide +kernel))
theorem kp11 : Cond.selects "FairyDust$Wand" (⟨"FairyDust$Wand", "copyFrom", "(LFairyDust$Wand;)V"⟩ : MethodName) (⟨"FairyDust$Wand", "copyFrom", "(LFairyDust$Wand;)V"⟩ : MethodName) ∈ GW := gw_p (q := (⟨"FairyDust$Wand", "copyFrom", "(LFairyDust$Wand;)V"⟩, 4)) (List.mem_of_getElem? (i := 11) (by decide +kernel))
theorem kp12 : Cond.selects "FairyDust$Child" (⟨"FairyDust$Child", "copyFrom", "(LFairyDust$Child;)V"⟩ : MethodName) (⟨"FairyDust$Child", "copyFrom", "(LFairyDust$Child;)V"⟩ : MethodName) ∈ GW := gw_p (q := (⟨"FairyDust$Child", "copyFrom", "(LFairyDust$Child;)V"⟩, 6)) (List.mem_of_getElem? (i := 12) (by decide +kernel))
theorem kp13 : Cond.selects "FairyDust" (⟨"FairyDust", "passTrialHour", "(I)V"⟩ : MethodName) (⟨"FairyDust", "passTrialHour", "(I)V"⟩ : MethodName) ∈ GW := gw_p (q := (⟨"FairyDust", "passTrialHour", "(I)V"⟩, 7)) (List.mem_of_getElem? (i := 13) (by decide +kernel))
theorem kp14 : Cond.selects "FairyDust$Wand" (⟨"FairyDust$Wand", "letFall", "()I"⟩ : MethodName) (⟨"FairyDust$Wand", "letFall", "()I"⟩ : MethodName) ∈ GW := gw_p (q := (⟨"FairyDust$Wand", "letFall", "()I"⟩, 4)) (List.mem_of_getElem? (i := 14) (by decide +kernel))
theorem kp15 : Cond.selects "FairyDust$Child" (⟨"FairyDust$Child", "liveTo", "(I)V"⟩ : MethodName) (⟨"FairyDust$Child", "liveTo", "(I)V"⟩ : MethodName) ∈ GW := gw_p (q := (⟨"FairyDust$Child", "liveTo", "(I)V"⟩, 6)) (List.mem_of_getElem? (i := 15) (by decide +kernel))
theorem kp16 : Cond.selects "FairyDust$Child" (⟨"FairyDust$Child", "beginDay", "(I)V"⟩ : MethodName) (⟨"FairyDust$Child", "beginDay", "(I)V"⟩ : MethodName) ∈ GW := gw_p (q := (⟨"FairyDust$Child", "beginDay", "(I)V"⟩, 6)) (List.mem_of_getElem? (i := 16) (by decide +kernel))
theorem kp17 : Cond.selects "FairyDust" (⟨"FairyDust", "tryWishes", "(II)I"⟩ : MethodName) (⟨"FairyDust", "tryWishes", "(II)I"⟩ : MethodName) ∈ GW := gw_p (q := (⟨"FairyDust", "tryWishes", "(II)I"⟩, 7)) (List.mem_of_getElem? (i := 17) (by decide +kernel))
theorem kp18 : Cond.selects "FairyDust$Child" (⟨"FairyDust$Child", "makeWish", "(I)Z"⟩ : MethodName) (⟨"FairyDust$Child", "makeWish", "(I)Z"⟩ : MethodName) ∈ GW := gw_p (q := (⟨"FairyDust$Child", "makeWish", "(I)Z"⟩, 6)) (List.mem_of_getElem? (i := 18) (by decide +kernel))
theorem kp19 : Cond.selects "FairyDust$Child" (⟨"FairyDust$Child", "takeGrains", "(I)V"⟩ : MethodName) (⟨"FairyDust$Child", "takeGrains", "(I)V"⟩ : MethodName) ∈ GW := gw_p (q := (⟨"FairyDust$Child", "takeGrains", "(I)V"⟩, 6)) (List.mem_of_getElem? (i := 19) (by decide +kernel))
theorem kp20 : Cond.selects "FairyDust$Child" (⟨"FairyDust$Child", "takeMark", "()V"⟩ : MethodName) (⟨"FairyDust$Child", "takeMark", "()V"⟩ : MethodName) ∈ GW := gw_p (q := (⟨"FairyDust$Child", "takeMark", "()V"⟩, 6)) (List.mem_of_getElem? (i := 20) (by decide +kernel))
theorem kp21 : Cond.selects "java/util/ArrayList" (⟨"java/util/ArrayList", "add", "(Ljava/lang/Object;[Ljava/lang/Object;I)V"⟩ : MethodName) (⟨"java/util/ArrayList", "add", "(Ljava/lang/Object;[Ljava/lang/Object;I)V"⟩ : MethodName) ∈ GW := gw_p (q := (⟨"java/util/ArrayList", "add", "(Ljava/lang/Object;[Ljava/lang/Object;I)V"⟩, 3)) (List.mem_of_getElem? (i := 21) (by decide +kernel))
theorem kp22 : Cond.selects "java/util/ArrayList" (⟨"java/util/ArrayList", "grow", "()[Ljava/lang/Object;"⟩ : MethodName) (⟨"java/util/ArrayList", "grow", "()[Ljava/lang/Object;"⟩ : MethodName) ∈ GW := gw_p (q := (⟨"java/util/ArrayList", "grow", "()[Ljava/lang/Object;"⟩, 3)) (List.mem_of_getElem? (i := 22) (by decide +kernel))
theorem kp23 : Cond.selects "java/util/ArrayList" (⟨"java/util/ArrayList", "grow", "(I)[Ljava/lang/Object;"⟩ : MethodName) (⟨"java/util/ArrayList", "grow", "(I)[Ljava/lang/Object;"⟩ : MethodName) ∈ GW := gw_p (q := (⟨"java/util/ArrayList", "grow", "(I)[Ljava/lang/Object;"⟩, 3)) (List.mem_of_getElem? (i := 23) (by decide +kernel))
theorem kp24 : Cond.selects "FairyDust$Child" (⟨"FairyDust$Child", "letOff", "()I"⟩ : MethodName) (⟨"FairyDust$Child", "letOff", "()I"⟩ : MethodName) ∈ GW := gw_p (q := (⟨"FairyDust$Child", "letOff", "()I"⟩, 6)) (List.mem_of_getElem? (i := 24) (by decide +kernel))
theorem kp25 : Cond.selects "FairyDust" (⟨"FairyDust", "passOneHour", "()I"⟩ : MethodName) (⟨"FairyDust", "passOneHour", "()I"⟩ : MethodName) ∈ GW := gw_p (q := (⟨"FairyDust", "passOneHour", "()I"⟩, 7)) (List.mem_of_getElem? (i := 25) (by decide +kernel))
theorem kp26 : Cond.selects "FairyDustModel" (⟨"FairyDustModel", "no", "(I)I"⟩ : MethodName) (⟨"FairyDustModel", "no", "(I)I"⟩ : MethodName) ∈ GW := gw_p (q := (⟨"FairyDustModel", "no", "(I)I"⟩, 15)) (List.mem_of_getElem? (i := 26) (by decide +kernel))
theorem kp27 : Cond.selects "FairyDustModel" (⟨"FairyDustModel", "isWand", "(I)Z"⟩ : MethodName) (⟨"FairyDustModel", "isWand", "(I)Z"⟩ : MethodName) ∈ GW := gw_p (q := (⟨"FairyDustModel", "isWand", "(I)Z"⟩, 15)) (List.mem_of_getElem? (i := 27) (by decide +kernel))
theorem kp28 : Cond.selects "FairyDustModel" (⟨"FairyDustModel", "isChild", "(I)Z"⟩ : MethodName) (⟨"FairyDustModel", "isChild", "(I)Z"⟩ : MethodName) ∈ GW := gw_p (q := (⟨"FairyDustModel", "isChild", "(I)Z"⟩, 15)) (List.mem_of_getElem? (i := 28) (by decide +kernel))
theorem kp29 : Cond.selects "FairyDustModel" (⟨"FairyDustModel", "isNot", "(I)Z"⟩ : MethodName) (⟨"FairyDustModel", "isNot", "(I)Z"⟩ : MethodName) ∈ GW := gw_p (q := (⟨"FairyDustModel", "isNot", "(I)Z"⟩, 15)) (List.mem_of_getElem? (i := 29) (by decide +kernel))
theorem kp30 : Cond.selects "FairyDustModel" (⟨"FairyDustModel", "isGranted", "(II)Z"⟩ : MethodName) (⟨"FairyDustModel", "isGranted", "(II)Z"⟩ : MethodName) ∈ GW := gw_p (q := (⟨"FairyDustModel", "isGranted", "(II)Z"⟩, 15)) (List.mem_of_getElem? (i := 30) (by decide +kernel))
theorem kp31 : Cond.selects "FairyDustModel" (⟨"FairyDustModel", "all", "(I)I"⟩ : MethodName) (⟨"FairyDustModel", "all", "(I)I"⟩ : MethodName) ∈ GW := gw_p (q := (⟨"FairyDustModel", "all", "(I)I"⟩, 15)) (List.mem_of_getElem? (i := 31) (by decide +kernel))
theorem kp32 : Cond.selects "FairyDustModel" (⟨"FairyDustModel", "deny", "(I)V"⟩ : MethodName) (⟨"FairyDustModel", "deny", "(I)V"⟩ : MethodName) ∈ GW := gw_p (q := (⟨"FairyDustModel", "deny", "(I)V"⟩, 15)) (List.mem_of_getElem? (i := 32) (by decide +kernel))
theorem kp33 : Cond.selects "FairyDustModel" (⟨"FairyDustModel", "burstIn", "(II)I"⟩ : MethodName) (⟨"FairyDustModel", "burstIn", "(II)I"⟩ : MethodName) ∈ GW := gw_p (q := (⟨"FairyDustModel", "burstIn", "(II)I"⟩, 15)) (List.mem_of_getElem? (i := 33) (by decide +kernel))
theorem kp34 : Cond.selects "FairyDustModel" (⟨"FairyDustModel", "ok", "(I)I"⟩ : MethodName) (⟨"FairyDustModel", "ok", "(I)I"⟩ : MethodName) ∈ GW := gw_p (q := (⟨"FairyDustModel", "ok", "(I)I"⟩, 15)) (List.mem_of_getElem? (i := 34) (by decide +kernel))
theorem kp35 : Cond.selects "FairyDustModel" (⟨"FairyDustModel", "manyHeld", "()I"⟩ : MethodName) (⟨"FairyDustModel", "manyHeld", "()I"⟩ : MethodName) ∈ GW := gw_p (q := (⟨"FairyDustModel", "manyHeld", "()I"⟩, 15)) (List.mem_of_getElem? (i := 35) (by decide +kernel))
theorem kp36 : Cond.selects "FairyDustModel" (⟨"FairyDustModel", "using", "(I)I"⟩ : MethodName) (⟨"FairyDustModel", "using", "(I)I"⟩ : MethodName) ∈ GW := gw_p (q := (⟨"FairyDustModel", "using", "(I)I"⟩, 15)) (List.mem_of_getElem? (i := 36) (by decide +kernel))
theorem kp37 : Cond.selects "FairyDustModel" (⟨"FairyDustModel", "of", "([II)I"⟩ : MethodName) (⟨"FairyDustModel", "of", "([II)I"⟩ : MethodName) ∈ GW := gw_p (q := (⟨"FairyDustModel", "of", "([II)I"⟩, 15)) (List.mem_of_getElem? (i := 37) (by decide +kernel))
theorem kp38 : Cond.selects "FairyDustModel" (⟨"FairyDustModel", "daysTo", "(I)I"⟩ : MethodName) (⟨"FairyDustModel", "daysTo", "(I)I"⟩ : MethodName) ∈ GW := gw_p (q := (⟨"FairyDustModel", "daysTo", "(I)I"⟩, 15)) (List.mem_of_getElem? (i := 38) (by decide +kernel))
theorem kp39 : Cond.selects "FairyDustModel" (⟨"FairyDustModel", "greatest", "(I)I"⟩ : MethodName) (⟨"FairyDustModel", "greatest", "(I)I"⟩ : MethodName) ∈ GW := gw_p (q := (⟨"FairyDustModel", "greatest", "(I)I"⟩, 15)) (List.mem_of_getElem? (i := 39) (by decide +kernel))
theorem kp40 : Cond.selects "FairyDustModel" (⟨"FairyDustModel", "until", "(II)I"⟩ : MethodName) (⟨"FairyDustModel", "until", "(II)I"⟩ : MethodName) ∈ GW := gw_p (q := (⟨"FairyDustModel", "until", "(II)I"⟩, 15)) (List.mem_of_getElem? (i := 40) (by decide +kernel))
theorem kp41 : Cond.selects "FairyDustModel" (⟨"FairyDustModel", "grants", "(IIII)I"⟩ : MethodName) (⟨"FairyDustModel", "grants", "(IIII)I"⟩ : MethodName) ∈ GW := gw_p (q := (⟨"FairyDustModel", "grants", "(IIII)I"⟩, 15)) (List.mem_of_getElem? (i := 41) (by decide +kernel))
theorem kp42 : Cond.selects "FairyDustModel" (⟨"FairyDustModel", "wanted", "(II)I"⟩ : MethodName) (⟨"FairyDustModel", "wanted", "(II)I"⟩ : MethodName) ∈ GW := gw_p (q := (⟨"FairyDustModel", "wanted", "(II)I"⟩, 15)) (List.mem_of_getElem? (i := 42) (by decide +kernel))
theorem kp43 : Cond.selects "FairyDustModel" (⟨"FairyDustModel", "untilFull", "(I)I"⟩ : MethodName) (⟨"FairyDustModel", "untilFull", "(I)I"⟩ : MethodName) ∈ GW := gw_p (q := (⟨"FairyDustModel", "untilFull", "(I)I"⟩, 15)) (List.mem_of_getElem? (i := 43) (by decide +kernel))
theorem kp44 : Cond.selects "FairyDustModel" (⟨"FairyDustModel", "best", "(I)I"⟩ : MethodName) (⟨"FairyDustModel", "best", "(I)I"⟩ : MethodName) ∈ GW := gw_p (q := (⟨"FairyDustModel", "best", "(I)I"⟩, 15)) (List.mem_of_getElem? (i := 44) (by decide +kernel))
theorem kp45 : Cond.selects "FairyDustModel" (⟨"FairyDustModel", "leaves", "(II)I"⟩ : MethodName) (⟨"FairyDustModel", "leaves", "(II)I"⟩ : MethodName) ∈ GW := gw_p (q := (⟨"FairyDustModel", "leaves", "(II)I"⟩, 15)) (List.mem_of_getElem? (i := 45) (by decide +kernel))
end
section
/-! ROWS OVER A WORLD THAT IS A PARTIAL MAP: what a method knows of the heap is a map from addresses to cells; a contract takes the whole map and tells the whole map behind -/
abbrev wMu : Type := Nat → Option va_E
abbrev wG : Type := va_G × (ClassId × ClassId × ClassId) × Nat × Nat × (Nat → Nat)
abbrev gD (g : wG) : va_G := g.1
abbrev gI (g : wG) : ClassId := g.2.1.1
abbrev gO (g : wG) : ClassId := g.2.1.2.1
abbrev gJ (g : wG) : ClassId := g.2.1.2.2
abbrev gB (g : wG) : Nat := g.2.2.1
abbrev gE (g : wG) : Nat := g.2.2.2.1
abbrev gS (g : wG) : Nat → Nat := g.2.2.2.2
def wTys (g : wG) : List (ClassId × FieldType) := [(gI g, .int), (gO g, .object "java/lang/Object"), (gJ g, .long)]
def wP (g : wG) (μ : wMu) (H : Heap) : Prop := ∀ (q : Nat) (e : va_E), μ q = some e → va_at (gD g) vwCl (q, e) H
def wStr (g : wG) (U : State) : Prop := vk_R RX2 253 "out of its range" (gS g 0) U ∧ vk_R RX2 246 "no such wand" (gS g 1) U ∧ vk_R RX2 249 "no such child" (gS g 2) U ∧ vk_R RX2 46 "no more wands" (gS g 3) U ∧ vk_R RX2 59 "no more children" (gS g 4) U
def xIAE : String := "java/lang/IllegalArgumentException"
def xISE : String := "java/lang/IllegalStateException"
def xIOB : String := "java/lang/IndexOutOfBoundsException"
def wNcs (U : State) : Prop := va_Nc xISE xIAE U ∧ va_Nc xIAE xIOB U ∧ va_Nc xISE xIOB U
def wSt0 (g : wG) (U : State) (H : Heap) : Prop := ∃ cell : Cell, H[gE g]? = some cell ∧ U.isArrayOf cell (.object "java/lang/Object") ∧ cell.slots.size = 0
def wE (g : wG) (U : State) : Prop :=
  va_K (gD g) vwCl (wTys g) U ∧ (∀ w ∈ GW, w.before #[] U = true) ∧ wStr g U ∧ wNcs U ∧
  vx_Zq Bundle.tN "UNASSIGNED_STACK" Bundle.steD (fun q => gB g ≤ q) U U.heap ∧ vx_Zq Bundle.tN "SUPPRESSED_SENTINEL" Bundle.listD (fun q => gB g ≤ q) U U.heap ∧
  va_Z "java/util/ArrayList" "DEFAULTCAPACITY_EMPTY_ELEMENTDATA" "[Ljava/lang/Object;" (.ref (gE g)) (fun q => gB g ≤ q) U U.heap ∧
  wSt0 g U U.heap ∧ gE g < gB g ∧ gB g ≤ U.heap.size
theorem tw_warm {s U : State} (hW : s.WarmedH U.vm) {w : Cond} (hk : tw_ok w = true) (h : w.before #[] s = true) : w.before #[] U = true := by
  cases w with
  | arrayOver t => cases t <;> first | exact va_AO.moved hW.alike h | exact word_at hW (good_of_word hk) h
  | _ => first | exact word_at hW (good_of_word hk) h | exact va_Nw.warmF hW h | exact va_Nw.warmM hW h | exact va_Nw.warmC hW h | exact va_Nw.warmD hW h
theorem tw_args {U : State} {w : Cond} (hk : tw_ok w = true) (h : w.before #[] U = true) (args : Array Value) : w.before args U = true := by
  cases w with
  | arrayOver t => cases t <;> first | exact va_AO.use h | exact word_at (State.WarmedH.refl U) (good_of_word hk) h
  | _ => first | exact va_tabs rfl rfl h | exact word_at (State.WarmedH.refl U) (good_of_word hk) h
theorem tw_args0 {U : State} {w : Cond} (hk : tw_ok w = true) {args : Array Value} (h : w.before args U = true) : w.before #[] U = true := by
  cases w with
  | arrayOver t => cases t <;> first | exact va_AO.use h | exact word_at (State.WarmedH.refl U) (good_of_word hk) h
  | _ => first | exact va_tabs rfl rfl h | exact word_at (State.WarmedH.refl U) (good_of_word hk) h
theorem wE.w {g : wG} {U : State} (h : wE g U) {w : Cond} (hw : w ∈ GW) {args : Array Value} : w.before args U = true :=
  tw_args (List.mem_filter.mp hw).2 (h.2.1 w hw) args
theorem wE.next {g : wG} {s U : State} {H : Heap} {locs : List Loc} {A : Nat → Prop} (h : wE g s) (hA : ∀ q, A q → gB g ≤ q) (hS : va_S A s.heap H locs) (hU : U.heap = H) (hW : s.WarmedH U.vm) : wE g U := by
  obtain ⟨h1, h2, ⟨a1, a2, a3, a4, a5⟩, ⟨n1, n2, n3⟩, h5, h6, h7, ⟨cell, c1, c2, c3⟩, h9, h10⟩ := h
  have hq : ∀ a : Nat, a < s.heap.size → ¬ gB g ≤ a → U.heap[a]? = s.heap[a]? := fun a ha hn => by rw [hU]; exact hS.2.1 a ha (fun z => hn (hA a z))
  refine ⟨h1.moved hW.alike, fun w hw => tw_warm hW (List.mem_filter.mp hw).2 (h2 w hw), ⟨a1.warm hW, a2.warm hW, a3.warm hW, a4.warm hW, a5.warm hW⟩, ⟨n1.moved hW.alike, n2.moved hW.alike, n3.moved hW.alike⟩, (h5.kept hq).moved hW.alike, (h6.kept hq).moved hW.alike, (h7.kept hq).moved hW.alike, ⟨cell, ?_, State.isArrayOf_alike hW.alike c2, c3⟩, h9, ?_⟩
  · rw [hq _ (Array.getElem?_eq_some_iff.mp c1).1 (by omega)]; exact c1
  · rw [hU]; exact Nat.le_trans h10 hS.1
def wX (g : wG) (A : Nat → Prop) (s : State) (H : Heap) (locs : List Loc) (μ : wMu) : Prop :=
  wE g s ∧ (∀ q, A q → gB g ≤ q) ∧ (∀ q, s.heap.size ≤ q → A q) ∧ va_S A s.heap H locs ∧ wP g μ H ∧ (∀ q, μ q ≠ none → A q)
def wA (μ : wMu) (sz : Nat) : Nat → Prop := fun q => μ q ≠ none ∨ sz ≤ q
section WX
variable {g : wG} {A : Nat → Prop} {s : State} {H H1 : Heap} {locs : List Loc} {μ : wMu} {a : Nat} {e e0 : va_E}
theorem wX.K (h : wX g A s H locs μ) : va_K (gD g) vwCl (wTys g) s := h.1.1
theorem wX.w (h : wX g A s H locs μ) {w : Cond} (hw : w ∈ GW) {args : Array Value} : w.before args s = true := h.1.w hw
theorem wX.ws (h : wX g A s H locs μ) (args : Array Value) : ∀ w ∈ GW, w.before args s = true := fun _ hw => h.1.w hw
theorem wX.S (h : wX g A s H locs μ) : va_S A s.heap H locs := h.2.2.2.1
theorem wX.P (h : wX g A s H locs μ) : wP g μ H := h.2.2.2.2.1
theorem wX.dom (h : wX g A s H locs μ) : ∀ q, μ q ≠ none → A q := h.2.2.2.2.2
theorem wX.one (h : wX g A s H locs μ) (hm : μ a = some e) : va_P (gD g) vwCl [(a, e)] H := fun k q hk => by
  cases k with
  | zero => cases hk; exact h.P a e hm
  | succ k => simp at hk
theorem wX.lt (h : wX g A s H locs μ) (hm : μ a = some e) : a < H.size := (h.P a e hm).lt
theorem wX.fresh (h : wX g A s H locs μ) : μ H.size = none := by
  cases hm : μ H.size with
  | none => rfl
  | some e => exact absurd (h.lt hm) (Nat.lt_irrefl _)
theorem wX.recv (h : wX g A s H locs μ) {ci : Nat} {q : vw_C} {fs : List Value} (hm : μ a = some (.inr (ci, fs))) (hc : vwCl[ci]? = some q) : ∃ cell : Cell, H[a]? = some cell ∧ cell.vm.isStatics = false ∧ s.vm.findClass q.1 = some cell.cls := va_recv (q0 := 0) h.K (h.one hm) hc rfl
theorem wX.upd (h : wX g A s H locs μ) (hm : μ a = some e0) {k : Nat} (z : H1.size = H.size) (oq : ∀ q : Nat, q ≠ a → H1[q]? = H[q]?) (he : va_at (gD g) vwCl (a, e) H1) : wX g A s H1 (locs ++ [⟨a, k⟩]) (va_up μ a (some e)) := by
  obtain ⟨h1, h2, h3, h4, h5, h6⟩ := h
  have ha : A a := h6 a (by rw [hm]; exact Option.some_ne_none _)
  refine ⟨h1, h2, h3, h4.put z oq ha, fun q e' hq => ?_, fun q hq => ?_⟩
  · by_cases hqa : q = a
    · subst hqa; rw [va_up_self] at hq; cases hq; exact he
    · rw [va_up_ne _ _ hqa] at hq; exact (h5 q e' hq).kept (oq q hqa)
  · by_cases hqa : q = a
    · subst hqa; exact ha
    · rw [va_up_ne _ _ hqa] at hq; exact h6 q hq
theorem wX.push (h : wX g A s H locs μ) (z : H1.size = H.size + 1) (oq : ∀ q : Nat, q < H.size → H1[q]? = H[q]?) (he : va_at (gD g) vwCl (H.size, e) H1) : wX g A s H1 locs (va_up μ H.size (some e)) := by
  obtain ⟨h1, h2, h3, h4, h5, h6⟩ := h
  refine ⟨h1, h2, h3, ⟨Nat.le_trans h4.1 (by omega), fun q k1 k2 => (oq q (Nat.lt_of_lt_of_le k1 h4.1)).trans (h4.2.1 q k1 k2), h4.2.2⟩, fun q e' hq => ?_, fun q hq => ?_⟩
  · by_cases hqa : q = H.size
    · subst hqa; rw [va_up_self] at hq; cases hq; exact he
    · rw [va_up_ne _ _ hqa] at hq; exact (h5 q e' hq).kept (oq q (h5 q e' hq).lt)
  · by_cases hqa : q = H.size
    · subst hqa; exact h3 _ h4.1
    · rw [va_up_ne _ _ hqa] at hq; exact h6 q hq
/-- the heap has grown by cells that the map does not name -/
theorem wX.grow (h : wX g A s H locs μ) (z : H.size ≤ H1.size) (oq : ∀ q : Nat, q < H.size → H1[q]? = H[q]?) : wX g A s H1 locs μ := by
  obtain ⟨h1, h2, h3, h4, h5, h6⟩ := h
  exact ⟨h1, h2, h3, ⟨Nat.le_trans h4.1 z, fun q k1 k2 => (oq q (Nat.lt_of_lt_of_le k1 h4.1)).trans (h4.2.1 q k1 k2), h4.2.2⟩, fun q e' hq => (h5 q e' hq).kept (oq q (h5 q e' hq).lt), h6⟩
theorem wX.sub (h : wX g A s H locs μ) {μ1 : wMu} (h1 : ∀ q e, μ1 q = some e → μ q = some e) : wX g A s H locs μ1 :=
  ⟨h.1, h.2.1, h.2.2.1, h.S, fun q e hq => h.P q e (h1 q e hq), fun q hq => by
    cases hm : μ1 q with
    | none => exact absurd hm hq
    | some e => exact h.dom q (by rw [h1 q e hm]; exact Option.some_ne_none _)⟩
end WX
theorem va_up_up {α : Type} (f : Nat → α) (k : Nat) (v w : α) : va_up (va_up f k v) k w = va_up f k w := by
  funext j
  by_cases h : j = k <;> simp [va_up, h]
section WR
variable {p : Program} {l : Launch} {e : Env} {R : Room} {s : State} {m : MethodId} {args : Array Value} {below : List Frame} {meth : Method} {c : Code} {H : Heap} {locs : List Loc} {cells slots : Nat} {Q : State → Prop}
variable {cc : ByteArray} {pc : Nat} {ls : Array Slot} {rest : List Value} {A : Nat → Prop} {a : Nat} {g : wG} {μ : wMu}
theorem w_get (hexec : p.tables.exec = Jvm.exec) (hb : c.code = cc) {own ref C : String} {T : u_T} {N ci index : Nat} (hin : ∀ w ∈ u_ws C T N, w ∈ GW) (hc : vwCl[ci]? = some (C, T, N)) (k : Nat) (hk : k < N) (hX : wX g A s H locs μ) (hown : s.vm.findClass own = some m.cls) {fs : List Value} (he : μ a = some (.inr (ci, fs))) (hlink : Cond.fieldLink own index ref (T k).2.1 (T k).2.2.1 ∈ GW) (hsame : ∀ x, s.fieldFound? (T k).1 (T k).2.1 (T k).2.2.1 = some x → s.fieldFound? ref (T k).2.1 (T k).2.2.1 = some x) {v : Value} (hv : fs[k]? = some v) (hdg : decode cc pc = .ok (.getfield index, 3))
    (kk : W p l e R s m args below meth c H locs cells slots Q (F0 m (pc + 3) ls (v :: rest))) : W p l e R s m args below meth c H locs cells slots Q (F0 m pc ls (.ref a :: rest)) :=
  va_get hexec hb (hX.ws args) hin hown hX.K (hX.one he) 0 rfl hc k hk (hX.w hlink) hsame hv hdg kk
theorem w_getN (hexec : p.tables.exec = Jvm.exec) (hb : c.code = cc) {own ref C host : String} {T : u_T} {N ci index : Nat} (hin : ∀ w ∈ u_ws C T N, w ∈ GW) (hc : vwCl[ci]? = some (C, T, N)) (k : Nat) (hk : k < N) (hX : wX g A s H locs μ) (hown : s.vm.findClass own = some m.cls) {fs : List Value} (he : μ a = some (.inr (ci, fs))) (hlink : Cond.fieldLinkNest own index ref (T k).2.1 (T k).2.2.1 host ∈ GW) (hsame : ∀ x, s.fieldFound? (T k).1 (T k).2.1 (T k).2.2.1 = some x → s.fieldFound? ref (T k).2.1 (T k).2.2.1 = some x) {v : Value} (hv : fs[k]? = some v) (hdg : decode cc pc = .ok (.getfield index, 3))
    (kk : W p l e R s m args below meth c H locs cells slots Q (F0 m (pc + 3) ls (v :: rest))) : W p l e R s m args below meth c H locs cells slots Q (F0 m pc ls (.ref a :: rest)) :=
  va_getN hexec hb (hX.ws args) hin hown hX.K (hX.one he) 0 rfl hc k hk (hX.w hlink) hsame hv hdg kk
theorem w_put (hexec : p.tables.exec = Jvm.exec) (hb : c.code = cc) {own ref C : String} {T : u_T} {N ci index : Nat} (hin : ∀ w ∈ u_ws C T N, w ∈ GW) (ty0 : Nat → FieldType) (hty : ∀ k, k < N → parseFieldDescriptor (T k).2.2.1 = some (ty0 k)) (hnm : ∀ a, a < N → ∀ b, b < N → a ≠ b → (T a).2.1 ≠ (T b).2.1) (hc : vwCl[ci]? = some (C, T, N)) (k : Nat) (hk : k < N) (hfin : (T k).2.2.2 = false) {v : Value} (hn : narrow (ty0 k) v = v) (hfit : fits (ty0 k) v = true) (hX : wX g A s H locs μ) (hown : s.vm.findClass own = some m.cls) {fs : List Value} (he : μ a = some (.inr (ci, fs))) (hl : k < fs.length) (hlink : Cond.fieldLink own index ref (T k).2.1 (T k).2.2.1 ∈ GW) (hsame : ∀ x, s.fieldFound? (T k).1 (T k).2.1 (T k).2.2.1 = some x → s.fieldFound? ref (T k).2.1 (T k).2.2.1 = some x)
    (hdg : decode cc pc = .ok (.putfield index, 3)) (kk : ∀ (H1 : Heap) (locs1 : List Loc), wX g A s H1 locs1 (va_up μ a (some (.inr (ci, fs.set k v)))) → W p l e R s m args below meth c H1 locs1 cells slots Q (F0 m (pc + 3) ls rest)) : W p l e R s m args below meth c H locs cells slots Q (F0 m pc ls (v :: .ref a :: rest)) := by
  have hap := va_apart (own := own) (hX.ws args) hin ty0 hty hnm hX.K hc
  obtain ⟨r, h1, cell, q1, q2, q3, q4⟩ := hX.P _ _ he
  have hr : r = (C, T, N) := Option.some.inj (h1.symm.trans hc)
  subst hr
  obtain ⟨hS, hfc, kC, hkC, hkind⟩ := hX.K.1 ci _ hc
  obtain ⟨cf, kf, fi, f, hi, hsl⟩ := hS k hk
  have hlay := hX.ws args _ (hin _ (u_in_lay hk))
  unfold u_lay at hlay
  rw [if_neg (by rw [hfin]; decide)] at hlay
  have hst := (u_facts hfc hkC (u_lays (hX.ws args) hin hk) hi).1
  have h6 := u_store hfc hkC hkind hlay hi (hty k hk) hn hfit
  refine W.putK hexec hb (f := f) ⟨hown, hX.w hlink, ⟨_, _, _, hsame _ hi⟩, hst⟩ (by rw [q2]; exact h6) q1 q3 (by rw [hsl]; exact k2_hasslot (q4 k hk)) rfl rfl hdg fun H' e1 e2 e3 => ?_
  rw [hsl] at e1 ⊢
  exact kk H' _ (hX.upd he e2 e3 ⟨_, hc, t_OB.to (V := updV (vp_V fs) k v) ⟨_, e1, q2, q3, t_set q4 hap hk v⟩ (fun j _ => vp_updV_set hl v j)⟩)
theorem w_putF (hexec : p.tables.exec = Jvm.exec) (hb : c.code = cc) {own ref C : String} {T : u_T} {N ci index : Nat} (hin : ∀ w ∈ u_ws C T N, w ∈ GW) (ty0 : Nat → FieldType) (hty : ∀ k, k < N → parseFieldDescriptor (T k).2.2.1 = some (ty0 k)) (hnm : ∀ a, a < N → ∀ b, b < N → a ≠ b → (T a).2.1 ≠ (T b).2.1) (hc : vwCl[ci]? = some (C, T, N)) (k : Nat) (hk : k < N) (hfin : (T k).2.2.2 = true) (hin2 : meth.name = "<init>") (hdecl : (T k).1 = own) {v : Value} (hn : narrow (ty0 k) v = v) (hfit : fits (ty0 k) v = true) (hX : wX g A s H locs μ) (hown : s.vm.findClass own = some m.cls) {fs : List Value} (he : μ a = some (.inr (ci, fs))) (hl : k < fs.length) (hlink : Cond.fieldLink own index ref (T k).2.1 (T k).2.2.1 ∈ GW) (hsame : ∀ x, s.fieldFound? (T k).1 (T k).2.1 (T k).2.2.1 = some x → s.fieldFound? ref (T k).2.1 (T k).2.2.1 = some x)
    (hdg : decode cc pc = .ok (.putfield index, 3)) (kk : ∀ (H1 : Heap) (locs1 : List Loc), wX g A s H1 locs1 (va_up μ a (some (.inr (ci, fs.set k v)))) → W p l e R s m args below meth c H1 locs1 cells slots Q (F0 m (pc + 3) ls rest)) : W p l e R s m args below meth c H locs cells slots Q (F0 m pc ls (v :: .ref a :: rest)) := by
  have hap := va_apart (own := own) (hX.ws args) hin ty0 hty hnm hX.K hc
  obtain ⟨r, h1, cell, q1, q2, q3, q4⟩ := hX.P _ _ he
  have hr : r = (C, T, N) := Option.some.inj (h1.symm.trans hc)
  subst hr
  obtain ⟨hS, hfc, kC, hkC, hkind⟩ := hX.K.1 ci _ hc
  obtain ⟨cf, kf, fi, f, hi, hsl⟩ := hS k hk
  have hlay := hX.ws args _ (hin _ (u_in_lay hk))
  unfold u_lay at hlay
  rw [if_pos hfin] at hlay
  have hst := (u_facts hfc hkC (u_lays (hX.ws args) hin hk) hi).1
  have hcf : m.cls = cf := by
    obtain ⟨_, _, c', _, _, _, -, -, hf', -, -, -, hown2, -⟩ := Cond.laysFinal_spec hlay
    have e1 : c' = cf := by have := hi.symm.trans hf'; simp at this; exact this.1.symm
    rw [hdecl] at hown2
    rw [← e1]; exact Option.some.inj (hown.symm.trans hown2)
  have h6 := u_fits hfc hkC hkind (Or.inr hlay) hi (hty k hk) hn hfit
  refine W.putFinK hexec hb hown (hX.w hlink) (hsame _ hi) hst hcf hin2 (by rw [q2]; exact h6) q1 q3 (by rw [hsl]; exact k2_hasslot (q4 k hk)) rfl rfl hdg fun H' e1 e2 e3 => ?_
  rw [hsl] at e1 ⊢
  exact kk H' _ (hX.upd he e2 e3 ⟨_, hc, t_OB.to (V := updV (vp_V fs) k v) ⟨_, e1, q2, q3, t_set q4 hap hk v⟩ (fun j _ => vp_updV_set hl v j)⟩)
theorem w_putN (hexec : p.tables.exec = Jvm.exec) (hb : c.code = cc) {own ref C host : String} {T : u_T} {N ci index : Nat} (hin : ∀ w ∈ u_ws C T N, w ∈ GW) (ty0 : Nat → FieldType) (hty : ∀ k, k < N → parseFieldDescriptor (T k).2.2.1 = some (ty0 k)) (hnm : ∀ a, a < N → ∀ b, b < N → a ≠ b → (T a).2.1 ≠ (T b).2.1) (hc : vwCl[ci]? = some (C, T, N)) (k : Nat) (hk : k < N) (hfin : (T k).2.2.2 = false) {v : Value} (hn : narrow (ty0 k) v = v) (hfit : fits (ty0 k) v = true) (hX : wX g A s H locs μ) (hown : s.vm.findClass own = some m.cls) {fs : List Value} (he : μ a = some (.inr (ci, fs))) (hl : k < fs.length) (hlink : Cond.fieldLinkNest own index ref (T k).2.1 (T k).2.2.1 host ∈ GW) (hsame : ∀ x, s.fieldFound? (T k).1 (T k).2.1 (T k).2.2.1 = some x → s.fieldFound? ref (T k).2.1 (T k).2.2.1 = some x)
    (hdg : decode cc pc = .ok (.putfield index, 3)) (kk : ∀ (H1 : Heap) (locs1 : List Loc), wX g A s H1 locs1 (va_up μ a (some (.inr (ci, fs.set k v)))) → W p l e R s m args below meth c H1 locs1 cells slots Q (F0 m (pc + 3) ls rest)) : W p l e R s m args below meth c H locs cells slots Q (F0 m pc ls (v :: .ref a :: rest)) := by
  have hap := va_apart (own := own) (hX.ws args) hin ty0 hty hnm hX.K hc
  obtain ⟨r, h1, cell, q1, q2, q3, q4⟩ := hX.P _ _ he
  have hr : r = (C, T, N) := Option.some.inj (h1.symm.trans hc)
  subst hr
  obtain ⟨hS, hfc, kC, hkC, hkind⟩ := hX.K.1 ci _ hc
  obtain ⟨cf, kf, fi, f, hi, hsl⟩ := hS k hk
  have hlay := hX.ws args _ (hin _ (u_in_lay hk))
  unfold u_lay at hlay
  rw [if_neg (by rw [hfin]; decide)] at hlay
  have hst := (u_facts hfc hkC (u_lays (hX.ws args) hin hk) hi).1
  have h6 := u_store hfc hkC hkind hlay hi (hty k hk) hn hfit
  refine va_WputK hexec hb (f := f) hown (hX.w hlink) (hsame _ hi) hst (by rw [q2]; exact h6) q1 q3 (by rw [hsl]; exact k2_hasslot (q4 k hk)) rfl rfl hdg fun H' e1 e2 e3 => ?_
  rw [hsl] at e1 ⊢
  exact kk H' _ (hX.upd he e2 e3 ⟨_, hc, t_OB.to (V := updV (vp_V fs) k v) ⟨_, e1, q2, q3, t_set q4 hap hk v⟩ (fun j _ => vp_updV_set hl v j)⟩)
/-! arrays -/
theorem n_alen (hexec : p.tables.exec = Jvm.exec) (hb : c.code = cc) (hX : wX g A s H locs μ) {n : Nat} {f : Nat → Int32} (he : μ a = some (.inl (gI g, n, .inl f))) (hdg : decode cc pc = .ok (.arraylength, 1))
    (kk : W p l e R s m args below meth c H locs cells slots Q (F0 m (pc + 1) ls (.int (nI n) :: rest))) : W p l e R s m args below meth c H locs cells slots Q (F0 m pc ls (.ref a :: rest)) :=
  va_alen hexec hb hX.K (hX.one he) 0 0 rfl (ty := .int) rfl rfl hdg kk
theorem n_alenO (hexec : p.tables.exec = Jvm.exec) (hb : c.code = cc) (hX : wX g A s H locs μ) {n : Nat} {f : Nat → Option Nat} (he : μ a = some (.inl (gO g, n, .inr (.inr (.inr (.inr f)))))) (hdg : decode cc pc = .ok (.arraylength, 1))
    (kk : W p l e R s m args below meth c H locs cells slots Q (F0 m (pc + 1) ls (.int (nI n) :: rest))) : W p l e R s m args below meth c H locs cells slots Q (F0 m pc ls (.ref a :: rest)) :=
  va_alen hexec hb hX.K (hX.one he) 0 1 rfl (ty := .object "java/lang/Object") rfl rfl hdg kk
theorem n_alenE (hexec : p.tables.exec = Jvm.exec) (hb : c.code = cc) (hX : wX g A s H locs μ) (hdg : decode cc pc = .ok (.arraylength, 1))
    (kk : W p l e R s m args below meth c H locs cells slots Q (F0 m (pc + 1) ls (.int (nI 0) :: rest))) : W p l e R s m args below meth c H locs cells slots Q (F0 m pc ls (.ref (gE g) :: rest)) := by
  obtain ⟨h1, h2, h3, h4, h5, h6⟩ := id hX
  obtain ⟨-, -, -, -, -, -, -, ⟨cell, c1, c2, c3⟩, h9, -⟩ := h1
  exact W.alen (n := nI 0) hexec hb (by rw [h4.2.1 _ (Array.getElem?_eq_some_iff.mp c1).1 (fun z => absurd (h2 _ z) (by omega))]; exact c1) c2 (by rw [c3]; rfl) rfl rfl hdg kk
theorem n_iald (hexec : p.tables.exec = Jvm.exec) (hb : c.code = cc) (hX : wX g A s H locs μ) {n j : Nat} {f : Nat → Int32} (he : μ a = some (.inl (gI g, n, .inl f))) (hj : j < n) (hn : n < 2 ^ 31) (hdg : decode cc pc = .ok (.iaload, 1))
    (kk : W p l e R s m args below meth c H locs cells slots Q (F0 m (pc + 1) ls (.int (f j) :: rest))) : W p l e R s m args below meth c H locs cells slots Q (F0 m pc ls (.int (nI j) :: .ref a :: rest)) :=
  va_iald hexec hb hX.K (hX.one he) 0 0 rfl rfl (vp_in_nI hj hn) hdg (by rw [nI_clamp (by omega)]; exact kk)
theorem n_lald (hexec : p.tables.exec = Jvm.exec) (hb : c.code = cc) (hX : wX g A s H locs μ) {n j : Nat} {f : Nat → Int64} (he : μ a = some (.inl (gJ g, n, .inr (.inl f)))) (hj : j < n) (hn : n < 2 ^ 31) (hdg : decode cc pc = .ok (.laload, 1))
    (kk : W p l e R s m args below meth c H locs cells slots Q (F0 m (pc + 1) ls (.long (f j) :: rest))) : W p l e R s m args below meth c H locs cells slots Q (F0 m pc ls (.int (nI j) :: .ref a :: rest)) :=
  va_lald hexec hb hX.K (hX.one he) 0 2 rfl rfl (vp_in_nI hj hn) hdg (by rw [nI_clamp (by omega)]; exact kk)
theorem n_aald (hexec : p.tables.exec = Jvm.exec) (hb : c.code = cc) (hX : wX g A s H locs μ) {n j : Nat} {f : Nat → Option Nat} (he : μ a = some (.inl (gO g, n, .inr (.inr (.inr (.inr f)))))) (hj : j < n) (hn : n < 2 ^ 31) (hdg : decode cc pc = .ok (.aaload, 1))
    (kk : W p l e R s m args below meth c H locs cells slots Q (F0 m (pc + 1) ls (va_rf (f j) :: rest))) : W p l e R s m args below meth c H locs cells slots Q (F0 m pc ls (.int (nI j) :: .ref a :: rest)) :=
  va_aldq (C := "java/lang/Object") hexec hb hX.K (hX.one he) 0 1 rfl rfl (vp_in_nI hj hn) hdg (by rw [nI_clamp (by omega)]; exact kk)
theorem n_iast (hexec : p.tables.exec = Jvm.exec) (hb : c.code = cc) (hX : wX g A s H locs μ) {n j : Nat} {f : Nat → Int32} {x : Int32} (he : μ a = some (.inl (gI g, n, .inl f))) (hj : j < n) (hn : n < 2 ^ 31) (hdg : decode cc pc = .ok (.iastore, 1))
    (kk : ∀ (H1 : Heap) (locs1 : List Loc), wX g A s H1 locs1 (va_up μ a (some (.inl (gI g, n, .inl (upd f j x))))) → W p l e R s m args below meth c H1 locs1 cells slots Q (F0 m (pc + 1) ls rest)) : W p l e R s m args below meth c H locs cells slots Q (F0 m pc ls (.int x :: .int (nI j) :: .ref a :: rest)) := by
  have hin : vp_in (nI j) n := vp_in_nI hj hn
  refine W.iast hexec hb (hX.P _ _ he) ((hX.K.2 0 _ rfl).1 n (fun j => .int (f j))) (fun q => by cases q) (by show ¬ (nI j < 0 ∨ (arrV _ _ _).slots.size ≤ _); rw [arrV_size]; exact hin) rfl rfl hdg fun H1 e1 z oq => ?_
  refine kk H1 _ (hX.upd he z oq ?_)
  show H1[a]? = some (vp_cell _ _)
  rw [e1, vp_cell_i, vp_cell_i, arrV_store, nI_clamp (by omega)]
  congr 2
  funext q
  by_cases hq : q = j
  · subst hq; simp [updV, upd]
  · simp [updV, upd, hq]
theorem n_last (hexec : p.tables.exec = Jvm.exec) (hb : c.code = cc) (hX : wX g A s H locs μ) {n j : Nat} {f : Nat → Int64} {x : Int64} (he : μ a = some (.inl (gJ g, n, .inr (.inl f)))) (hj : j < n) (hn : n < 2 ^ 31) (hdg : decode cc pc = .ok (.lastore, 1))
    (kk : ∀ (H1 : Heap) (locs1 : List Loc), wX g A s H1 locs1 (va_up μ a (some (.inl (gJ g, n, .inr (.inl (vp_updL f j x)))))) → W p l e R s m args below meth c H1 locs1 cells slots Q (F0 m (pc + 1) ls rest)) : W p l e R s m args below meth c H locs cells slots Q (F0 m pc ls (.long x :: .int (nI j) :: .ref a :: rest)) := by
  have hin : vp_in (nI j) n := vp_in_nI hj hn
  refine W.last hexec hb (hX.P _ _ he) ((hX.K.2 2 _ rfl).1 n (fun j => .long (f j))) (fun q => by cases q) (by show ¬ (nI j < 0 ∨ (arrV _ _ _).slots.size ≤ _); rw [arrV_size]; exact hin) rfl rfl hdg fun H1 e1 z oq => ?_
  refine kk H1 _ (hX.upd he z oq ?_)
  show H1[a]? = some (vp_cell _ _)
  rw [e1, vp_cell_l, vp_cell_l, arrV_store, nI_clamp (by omega)]
  congr 2
  funext q
  by_cases hq : q = j
  · subst hq; simp [updV, vp_updL]
  · simp [updV, vp_updL, hq]
theorem n_aast (hexec : p.tables.exec = Jvm.exec) (hb : c.code = cc) (hX : wX g A s H locs μ) {n j v ci : Nat} {r : vw_C} {vs : List Value} {f : Nat → Option Nat} (he : μ a = some (.inl (gO g, n, .inr (.inr (.inr (.inr f)))))) (hca : Cond.castable r.1 "java/lang/Object" ∈ GW) (hv : μ v = some (.inr (ci, vs))) (hc : vwCl[ci]? = some r) (hj : j < n) (hn : n < 2 ^ 31) (hdg : decode cc pc = .ok (.aastore, 1))
    (kk : ∀ (H1 : Heap) (locs1 : List Loc), wX g A s H1 locs1 (va_up μ a (some (.inl (gO g, n, .inr (.inr (.inr (.inr (va_up f j (some v)))))))))  → W p l e R s m args below meth c H1 locs1 cells slots Q (F0 m (pc + 1) ls rest)) : W p l e R s m args below meth c H locs cells slots Q (F0 m pc ls (.ref v :: .int (nI j) :: .ref a :: rest)) := by
  have hin : vp_in (nI j) n := vp_in_nI hj hn
  have hcl : (nI j).toNatClampNeg = j := nI_clamp (by omega)
  have h0 : ¬ nI j < 0 := fun q => hin (Or.inl q)
  obtain ⟨r', hr', cellV, g1, g2, g3, -⟩ := hX.P _ _ hv
  have hcls := (hX.K.1 ci r hc).2
  obtain ⟨kA, comp, k1, k2, k3, -⟩ := (hX.K.2 1 _ rfl).2
  obtain ⟨kE, hkE, -⟩ := Vm.findClass_spec k3
  obtain ⟨c0, t1, f1, f2, f3⟩ := Cond.castable_spec (hX.w hca (args := args))
  cases hcls.1.symm.trans f1
  cases k3.symm.trans f2
  obtain ⟨kC, hkC, -⟩ := hcls.2
  refine W.aast hexec hb (hX.P _ _ he) (fun q h => by cases h) (fun h => by cases h) k1 k2 rfl hkE ⟨h0, by show _ < (arrV _ _ _).slots.size; rw [arrV_size, hcl]; exact hj⟩ g1 (fun q h => by rw [g3] at h; cases h) (by rw [g2]; exact hkC) (by rw [g2]; exact f3) rfl rfl hdg fun H1 e1 z oq => ?_
  refine kk H1 _ (hX.upd he z oq ?_)
  show H1[a]? = some (vp_cell _ _)
  rw [e1, vp_cell_q, vp_cell_q, arrV_store, hcl]
  congr 2
  funext q
  by_cases hq : q = j
  · subst hq; simp [updV, va_up, va_rf]
  · simp [updV, va_up, hq]
theorem n_newI (hexec : p.tables.exec = Jvm.exec) (hb : c.code = cc) (hX : wX g A s H locs μ) (harr : Cond.arrayClass .int ∈ GW) {n : Nat} (hn : n ≤ 65536) (hcells : cells + 1 ≤ R.cells) (hslots : slots + n ≤ R.slots) (hdg : decode cc pc = .ok (.newarray .int, 2))
    (kk : ∀ (q : Nat) (H1 : Heap), μ q = none → wX g A s H1 locs (va_up μ q (some (.inl (gI g, n, .inl (fun _ => 0))))) → W p l e R s m args below meth c H1 locs (cells + 1) (slots + n) Q (F0 m (pc + 2) ls (.ref q :: rest))) : W p l e R s m args below meth c H locs cells slots Q (F0 m pc ls (.int (nI n) :: rest)) := by
  refine va_newaK (atype := .int) hexec hb (hX.w harr) rfl hdg rfl (nI_pos (by omega)) (nI_clamp (by omega)) (by show n * 4 ≤ _; omega) hcells hslots rfl fun H1 cA e1 z1 o1 hAr hNm => ?_
  have hcA : cA = gI g := Option.some.inj (hNm.symm.trans (hX.K.2 0 _ rfl).2)
  subst hcA
  refine kk H.size H1 hX.fresh (hX.push z1 o1 ?_)
  show H1[H.size]? = some (vp_cell _ _)
  rw [e1]; rfl
theorem n_newJ (hexec : p.tables.exec = Jvm.exec) (hb : c.code = cc) (hX : wX g A s H locs μ) (harr : Cond.arrayClass .long ∈ GW) {n : Nat} (hn : n ≤ 65536) (hcells : cells + 1 ≤ R.cells) (hslots : slots + n ≤ R.slots) (hdg : decode cc pc = .ok (.newarray .long, 2))
    (kk : ∀ (q : Nat) (H1 : Heap), μ q = none → wX g A s H1 locs (va_up μ q (some (.inl (gJ g, n, .inr (.inl (fun _ => 0)))))) → W p l e R s m args below meth c H1 locs (cells + 1) (slots + n) Q (F0 m (pc + 2) ls (.ref q :: rest))) : W p l e R s m args below meth c H locs cells slots Q (F0 m pc ls (.int (nI n) :: rest)) := by
  refine va_newaK (atype := .long) hexec hb (hX.w harr) rfl hdg rfl (nI_pos (by omega)) (nI_clamp (by omega)) (by show n * 8 ≤ _; omega) hcells hslots rfl fun H1 cA e1 z1 o1 hAr hNm => ?_
  have hcA : cA = gJ g := Option.some.inj (hNm.symm.trans (hX.K.2 2 _ rfl).2)
  subst hcA
  refine kk H.size H1 hX.fresh (hX.push z1 o1 ?_)
  show H1[H.size]? = some (vp_cell _ _)
  rw [e1]; rfl
theorem n_newO (hexec : p.tables.exec = Jvm.exec) (hb : c.code = cc) {own : String} {index : Nat} (hX : wX g A s H locs μ) (hown : s.vm.findClass own = some m.cls) (hclink : Cond.classLink own index "java/lang/Object" ∈ GW) (hover : Cond.arrayOver (.object "java/lang/Object") ∈ GW) {n : Nat} (hn : n ≤ 65536) (hcells : cells + 1 ≤ R.cells) (hslots : slots + n ≤ R.slots) (hdg : decode cc pc = .ok (.anewarray index, 3))
    (kk : ∀ (q : Nat) (H1 : Heap), μ q = none → wX g A s H1 locs (va_up μ q (some (.inl (gO g, n, .inr (.inr (.inr (.inr (fun _ => none)))))))) → W p l e R s m args below meth c H1 locs (cells + 1) (slots + n) Q (F0 m (pc + 3) ls (.ref q :: rest))) : W p l e R s m args below meth c H locs cells slots Q (F0 m pc ls (.int (nI n) :: rest)) := by
  have hcl : (nI n).toNatClampNeg = n := nI_clamp (by omega)
  refine W.anew hexec hb hown (hX.w hclink) (hX.w hover) rfl hdg rfl (nI_pos (by omega)) (by rw [hcl]; omega) hcells (by rw [hcl]; exact hslots) fun cA kA comp f1 f2 f3 f4 => ?_
  rw [hcl]
  obtain ⟨-, -, -, -, -, k4⟩ := (hX.K.2 1 _ rfl).2
  have hcA : cA = gO g := Option.some.inj (f1.symm.trans k4)
  subst hcA
  generalize hH1 : H.push ({ cls := gO g, slots := Array.replicate n .null, vm := .none } : Cell) = H1
  have z1 : H1.size = H.size + 1 := by rw [← hH1, Array.size_push]
  have e1 : H1[H.size]? = some (arrV (gO g) n (fun _ => .null)) := by rw [← hH1, Array.getElem?_push_size, ← arrV_new]
  have o1 : ∀ q : Nat, q < H.size → H1[q]? = H[q]? := fun q hq => by rw [← hH1, Array.getElem?_push, if_neg (Nat.ne_of_lt hq)]
  refine kk H.size H1 hX.fresh (hX.push z1 o1 ?_)
  show H1[H.size]? = some (vp_cell _ _)
  rw [e1]; rfl
theorem w_new (hexec : p.tables.exec = Jvm.exec) (hb : c.code = cc) {own C : String} {T : u_T} {N ci index : Nat} (hin : ∀ w ∈ u_ws C T N, w ∈ GW) (ty : Nat → FieldType) (hty : ∀ k, k < N → parseFieldDescriptor (T k).2.2.1 = some (ty k)) (hc : vwCl[ci]? = some (C, T, N)) (hX : wX g A s H locs μ) (hown : s.vm.findClass own = some m.cls) (hcl : Cond.classLink own index C ∈ GW) (hinst : Cond.instantiable C N ∈ GW) (hini : Cond.initialized C ∈ GW) {fs : List Value} (hfs : ∀ j, j < N → defaultValue (ty j) = vp_V fs j) (hcells : cells + 1 ≤ R.cells) (hslots : slots + N ≤ R.slots) (hdg : decode cc pc = .ok (.new index, 3))
    (kk : ∀ (q : Nat) (H1 : Heap), μ q = none → wX g A s H1 locs (va_up μ q (some (.inr (ci, fs)))) → W p l e R s m args below meth c H1 locs (cells + 1) (slots + N) Q (F0 m (pc + 3) ls (.ref q :: rest))) : W p l e R s m args below meth c H locs cells slots Q (F0 m pc ls rest) := by
  have hKn := hX.K.1 ci _ hc
  refine W.newcK hexec hb hown (hX.w hcl) (hX.w hinst) (hX.w hini) rfl hdg hcells hslots hKn.2.1 rfl fun H1 kC hkC e1 z1 o1 => ?_
  exact kk H.size H1 hX.fresh (hX.push z1 o1 ⟨_, hc, (u_born ty (hX.ws args) hin hKn hkC e1 hty).to hfs⟩)
theorem w_cast (hexec : p.tables.exec = Jvm.exec) (hb : c.code = cc) {own nm : String} {index ci : Nat} {T : u_T} {N : Nat} {fs : List Value} (hX : wX g A s H locs μ) (hown : s.vm.findClass own = some m.cls) (hlink : Cond.classLink own index nm ∈ GW) (he : μ a = some (.inr (ci, fs))) (hc : vwCl[ci]? = some (nm, T, N)) (hdg : decode cc pc = .ok (.checkcast index, 3))
    (k : W p l e R s m args below meth c H locs cells slots Q (F0 m (pc + 3) ls (.ref a :: rest))) : W p l e R s m args below meth c H locs cells slots Q (F0 m pc ls (.ref a :: rest)) :=
  va_castS hexec hb hown (hX.w hlink) (hX.K.1 ci _ hc).2 (hX.recv he hc) hdg k
theorem w_getsE (hexec : p.tables.exec = Jvm.exec) (hb : c.code = cc) {own : String} {index : Nat} (hX : wX g A s H locs μ) (hown : s.vm.findClass own = some m.cls) (hlink : Cond.fieldLink own index "java/util/ArrayList" "DEFAULTCAPACITY_EMPTY_ELEMENTDATA" "[Ljava/lang/Object;" ∈ GW) (hdg : decode cc pc = .ok (.getstatic index, 3))
    (kk : W p l e R s m args below meth c H locs cells slots Q (F0 m (pc + 3) ls (.ref (gE g) :: rest))) : W p l e R s m args below meth c H locs cells slots Q (F0 m pc ls rest) := by
  obtain ⟨h1, h2, h3, h4, h5, h6⟩ := id hX
  obtain ⟨-, -, -, -, -, -, hZ, -⟩ := h1
  exact va_gets hexec hb (hZ.narrow h2) h4 hown (hX.w hlink) (fun _ h => h) hdg kk
theorem n_mmax (hexec : p.tables.exec = Jvm.exec) (hb : c.code = cc) (hml : c.maxLocals = ls.size) {own : String} {index : Nat} (hX : wX g A s H locs μ) (hown : s.vm.findClass own = some m.cls) (hlink : Cond.methodLink own index Lib.Math.max.name ∈ GW) (hstat : Cond.static Lib.Math.max.name ∈ GW) (hini : Cond.initialized "java/lang/Math" ∈ GW) (hcode : Cond.code Lib.Math.max.name Lib.Math.max.code 2 (some .int) ∈ GW) (hR : 1 ≤ R.frames ∧ (rest.map fun v => v.category).sum + 13 ≤ R.locals) (hC : cells ≤ R.cells ∧ slots ≤ R.slots) {x y v : Int32} (hdg : decode cc pc = .ok (.invokestatic index, 3)) (hv : (if x < y then y else x) = v)
    (kk : W p l e R s m args below meth c H locs cells slots Q (F0 m (pc + 3) ls (.int v :: rest))) : W p l e R s m args below meth c H locs cells slots Q (F0 m pc ls (.int y :: .int x :: rest)) := by
  subst hv
  exact va_mmax hexec hb hml hown (hX.w hlink) (hX.w hstat) (hX.w hini) (hX.w hcode) hR.1 hR.2 hC.1 hC.2 hdg kk
theorem n_mmin (hexec : p.tables.exec = Jvm.exec) (hb : c.code = cc) (hml : c.maxLocals = ls.size) {own : String} {index : Nat} (hX : wX g A s H locs μ) (hown : s.vm.findClass own = some m.cls) (hlink : Cond.methodLink own index Lib.Math.min.name ∈ GW) (hstat : Cond.static Lib.Math.min.name ∈ GW) (hini : Cond.initialized "java/lang/Math" ∈ GW) (hcode : Cond.code Lib.Math.min.name Lib.Math.min.code 2 (some .int) ∈ GW) (hR : 1 ≤ R.frames ∧ (rest.map fun v => v.category).sum + 13 ≤ R.locals) (hC : cells ≤ R.cells ∧ slots ≤ R.slots) {x y v : Int32} (hdg : decode cc pc = .ok (.invokestatic index, 3)) (hv : (if y < x then y else x) = v)
    (kk : W p l e R s m args below meth c H locs cells slots Q (F0 m (pc + 3) ls (.int v :: rest))) : W p l e R s m args below meth c H locs cells slots Q (F0 m pc ls (.int y :: .int x :: rest)) := by
  subst hv
  exact va_mmin hexec hb hml hown (hX.w hlink) (hX.w hstat) (hX.w hini) (hX.w hcode) hR.1 hR.2 hC.1 hC.2 hdg kk
end WR
/-! numbers -/
theorem nI_inc (i : Nat) : nI i + Int32.ofInt 1 = nI (i + 1) := nI_1 i
theorem nI_inc4 (i : Nat) : nI i + Int32.ofInt 4 = nI (i + 4) := nI_add i 4
theorem nI_max0 {a b : Nat} (ha : a < 2 ^ 30) (hb : b < 2 ^ 30) : (if nI 0 < nI a - nI b then nI a - nI b else nI 0) = nI (a - b) := by
  by_cases h : b ≤ a
  · rw [pk_sub h]
    by_cases h2 : a - b = 0
    · rw [h2, if_neg (nI_nlt (Nat.le_refl 0) (by decide))]
    · rw [if_pos (nI_lt (by omega) (by omega))]
  · have h1 := pk_sneg hb (show a < b by omega)
    rw [if_neg (fun z => by rw [nI_0] at z; exact Int32.lt_irrefl (Int32.lt_trans z h1)), show a - b = 0 by omega]
theorem nI_min {a b : Nat} (ha : a < 2 ^ 31) (hb : b < 2 ^ 31) : (if nI b < nI a then nI b else nI a) = nI (min a b) := by
  by_cases h : b < a
  · rw [if_pos (nI_lt h ha), Nat.min_eq_right (by omega)]
  · rw [if_neg (nI_nlt (by omega) hb), Nat.min_eq_left (by omega)]
theorem nI_max {a b : Nat} (ha : a < 2 ^ 31) (hb : b < 2 ^ 31) : (if nI a < nI b then nI b else nI a) = nI (max a b) := by
  by_cases h : a < b
  · rw [if_pos (nI_lt h hb), Nat.max_eq_right (by omega)]
  · rw [if_neg (nI_nlt (by omega) ha), Nat.max_eq_left (by omega)]
section NR
variable {p : Program} {l : Launch} {e : Env} {R : Room} {s : State} {m : MethodId} {args : Array Value} {below : List Frame} {meth : Method} {c : Code} {H : Heap} {locs : List Loc} {cells slots : Nat} {Q : State → Prop}
variable {cc : ByteArray} {pc : Nat} {ls : Array Slot} {rest : List Value}
theorem n_iadd (hexec : p.tables.exec = Jvm.exec) (hb : c.code = cc) {x y v : Int32} (hdg : decode cc pc = .ok (.iadd, 1)) (hv : x + y = v) (k : W p l e R s m args below meth c H locs cells slots Q (F0 m (pc + 1) ls (.int v :: rest))) : W p l e R s m args below meth c H locs cells slots Q (F0 m pc ls (.int y :: .int x :: rest)) := by subst hv; exact lv_iadd hexec hb hdg k
theorem n_isub (hexec : p.tables.exec = Jvm.exec) (hb : c.code = cc) {x y v : Int32} (hdg : decode cc pc = .ok (.isub, 1)) (hv : x - y = v) (k : W p l e R s m args below meth c H locs cells slots Q (F0 m (pc + 1) ls (.int v :: rest))) : W p l e R s m args below meth c H locs cells slots Q (F0 m pc ls (.int y :: .int x :: rest)) := by subst hv; exact lv_isub hexec hb hdg k
theorem n_imul (hexec : p.tables.exec = Jvm.exec) (hb : c.code = cc) {x y v : Int32} (hdg : decode cc pc = .ok (.imul, 1)) (hv : x * y = v) (k : W p l e R s m args below meth c H locs cells slots Q (F0 m (pc + 1) ls (.int v :: rest))) : W p l e R s m args below meth c H locs cells slots Q (F0 m pc ls (.int y :: .int x :: rest)) := by subst hv; exact lv_imul hexec hb hdg k
theorem n_idiv (hexec : p.tables.exec = Jvm.exec) (hb : c.code = cc) {x y v : Int32} (hdg : decode cc pc = .ok (.idiv, 1)) (hne : ¬ y = 0) (hv : x / y = v) (k : W p l e R s m args below meth c H locs cells slots Q (F0 m (pc + 1) ls (.int v :: rest))) : W p l e R s m args below meth c H locs cells slots Q (F0 m pc ls (.int y :: .int x :: rest)) := by subst hv; exact lv_idiv hexec hb hdg hne k
theorem n_irem (hexec : p.tables.exec = Jvm.exec) (hb : c.code = cc) {x y v : Int32} (hdg : decode cc pc = .ok (.irem, 1)) (hne : ¬ y = 0) (hv : x - x / y * y = v) (k : W p l e R s m args below meth c H locs cells slots Q (F0 m (pc + 1) ls (.int v :: rest))) : W p l e R s m args below meth c H locs cells slots Q (F0 m pc ls (.int y :: .int x :: rest)) := by subst hv; exact lv_irem hexec hb hdg hne k
theorem n_lt (hexec : p.tables.exec = Jvm.exec) (hb : c.code = cc) {x y : Nat} {off : Int} {tgt : Nat} (hx : x < 2 ^ 31) (hy : y < 2 ^ 31) (hdg : decode cc pc = .ok (.if_icmp .lt off, 3)) (ht : (pc : Int) + off = (tgt : Int)) (kt : x < y → W p l e R s m args below meth c H locs cells slots Q (F0 m tgt ls rest)) (kf : y ≤ x → W p l e R s m args below meth c H locs cells slots Q (F0 m (pc + 3) ls rest)) : W p l e R s m args below meth c H locs cells slots Q (F0 m pc ls (.int (nI y) :: .int (nI x) :: rest)) :=
  lv_icmp_lt hexec hb hdg ht (fun h => kt ((nI_ltI hx hy).mp h)) (fun h => kf (Nat.le_of_not_lt fun z => h ((nI_ltI hx hy).mpr z)))
theorem n_ge (hexec : p.tables.exec = Jvm.exec) (hb : c.code = cc) {x y : Nat} {off : Int} {tgt : Nat} (hx : x < 2 ^ 31) (hy : y < 2 ^ 31) (hdg : decode cc pc = .ok (.if_icmp .ge off, 3)) (ht : (pc : Int) + off = (tgt : Int)) (kt : y ≤ x → W p l e R s m args below meth c H locs cells slots Q (F0 m tgt ls rest)) (kf : x < y → W p l e R s m args below meth c H locs cells slots Q (F0 m (pc + 3) ls rest)) : W p l e R s m args below meth c H locs cells slots Q (F0 m pc ls (.int (nI y) :: .int (nI x) :: rest)) :=
  lv_icmp_ge hexec hb hdg ht (fun h => kt ((nI_leI hy hx).mp h)) (fun h => kf (Nat.lt_of_not_le fun z => h ((nI_leI hy hx).mpr z)))
theorem n_gt (hexec : p.tables.exec = Jvm.exec) (hb : c.code = cc) {x y : Nat} {off : Int} {tgt : Nat} (hx : x < 2 ^ 31) (hy : y < 2 ^ 31) (hdg : decode cc pc = .ok (.if_icmp .gt off, 3)) (ht : (pc : Int) + off = (tgt : Int)) (kt : y < x → W p l e R s m args below meth c H locs cells slots Q (F0 m tgt ls rest)) (kf : x ≤ y → W p l e R s m args below meth c H locs cells slots Q (F0 m (pc + 3) ls rest)) : W p l e R s m args below meth c H locs cells slots Q (F0 m pc ls (.int (nI y) :: .int (nI x) :: rest)) :=
  lv_icmp_gt hexec hb hdg ht (fun h => kt ((nI_ltI hy hx).mp h)) (fun h => kf (Nat.le_of_not_lt fun z => h ((nI_ltI hy hx).mpr z)))
theorem n_le (hexec : p.tables.exec = Jvm.exec) (hb : c.code = cc) {x y : Nat} {off : Int} {tgt : Nat} (hx : x < 2 ^ 31) (hy : y < 2 ^ 31) (hdg : decode cc pc = .ok (.if_icmp .le off, 3)) (ht : (pc : Int) + off = (tgt : Int)) (kt : x ≤ y → W p l e R s m args below meth c H locs cells slots Q (F0 m tgt ls rest)) (kf : y < x → W p l e R s m args below meth c H locs cells slots Q (F0 m (pc + 3) ls rest)) : W p l e R s m args below meth c H locs cells slots Q (F0 m pc ls (.int (nI y) :: .int (nI x) :: rest)) :=
  lv_icmp_le hexec hb hdg ht (fun h => kt ((nI_leI hx hy).mp h)) (fun h => kf (Nat.lt_of_not_le fun z => h ((nI_leI hx hy).mpr z)))
theorem n_eq (hexec : p.tables.exec = Jvm.exec) (hb : c.code = cc) {x y : Nat} {off : Int} {tgt : Nat} (hx : x < 2 ^ 31) (hy : y < 2 ^ 31) (hdg : decode cc pc = .ok (.if_icmp .eq off, 3)) (ht : (pc : Int) + off = (tgt : Int)) (kt : x = y → W p l e R s m args below meth c H locs cells slots Q (F0 m tgt ls rest)) (kf : x ≠ y → W p l e R s m args below meth c H locs cells slots Q (F0 m (pc + 3) ls rest)) : W p l e R s m args below meth c H locs cells slots Q (F0 m pc ls (.int (nI y) :: .int (nI x) :: rest)) :=
  lv_icmp_eq hexec hb hdg ht (fun h => kt ((nI_eq hx hy).mp h)) (fun h => kf (fun z => h ((nI_eq hx hy).mpr z)))
theorem n_ne (hexec : p.tables.exec = Jvm.exec) (hb : c.code = cc) {x y : Nat} {off : Int} {tgt : Nat} (hx : x < 2 ^ 31) (hy : y < 2 ^ 31) (hdg : decode cc pc = .ok (.if_icmp .ne off, 3)) (ht : (pc : Int) + off = (tgt : Int)) (kt : x ≠ y → W p l e R s m args below meth c H locs cells slots Q (F0 m tgt ls rest)) (kf : x = y → W p l e R s m args below meth c H locs cells slots Q (F0 m (pc + 3) ls rest)) : W p l e R s m args below meth c H locs cells slots Q (F0 m pc ls (.int (nI y) :: .int (nI x) :: rest)) :=
  lv_icmp_ne hexec hb hdg ht (fun h => kt (fun z => h ((nI_eq hx hy).mpr z))) (fun h => kf ((nI_eq hx hy).mp h))
theorem n_if_eq (hexec : p.tables.exec = Jvm.exec) (hb : c.code = cc) {x : Nat} {off : Int} {tgt : Nat} (hx : x < 2 ^ 31) (hdg : decode cc pc = .ok (.ifCond .eq off, 3)) (ht : (pc : Int) + off = (tgt : Int)) (kt : x = 0 → W p l e R s m args below meth c H locs cells slots Q (F0 m tgt ls rest)) (kf : 0 < x → W p l e R s m args below meth c H locs cells slots Q (F0 m (pc + 3) ls rest)) : W p l e R s m args below meth c H locs cells slots Q (F0 m pc ls (.int (nI x) :: rest)) :=
  lv_if_eq hexec hb hdg ht (fun h => kt ((nI_eq hx (by decide)).mp (h.trans nI_0.symm))) (fun h => kf (Nat.pos_of_ne_zero fun z => h (by rw [z]; exact nI_0)))
theorem n_if_ne (hexec : p.tables.exec = Jvm.exec) (hb : c.code = cc) {x : Nat} {off : Int} {tgt : Nat} (hx : x < 2 ^ 31) (hdg : decode cc pc = .ok (.ifCond .ne off, 3)) (ht : (pc : Int) + off = (tgt : Int)) (kt : 0 < x → W p l e R s m args below meth c H locs cells slots Q (F0 m tgt ls rest)) (kf : x = 0 → W p l e R s m args below meth c H locs cells slots Q (F0 m (pc + 3) ls rest)) : W p l e R s m args below meth c H locs cells slots Q (F0 m pc ls (.int (nI x) :: rest)) :=
  lv_if_ne hexec hb hdg ht (fun h => kt (Nat.pos_of_ne_zero fun z => h (by rw [z]; exact nI_0))) (fun h => kf ((nI_eq hx (by decide)).mp (h.trans nI_0.symm)))
theorem n_if_le (hexec : p.tables.exec = Jvm.exec) (hb : c.code = cc) {x : Nat} {off : Int} {tgt : Nat} (hx : x < 2 ^ 31) (hdg : decode cc pc = .ok (.ifCond .le off, 3)) (ht : (pc : Int) + off = (tgt : Int)) (kt : x = 0 → W p l e R s m args below meth c H locs cells slots Q (F0 m tgt ls rest)) (kf : 0 < x → W p l e R s m args below meth c H locs cells slots Q (F0 m (pc + 3) ls rest)) : W p l e R s m args below meth c H locs cells slots Q (F0 m pc ls (.int (nI x) :: rest)) :=
  lv_if_le hexec hb hdg ht (fun h => kt (Nat.le_zero.mp ((nI_leI hx (by decide)).mp (by rw [nI_0]; exact h)))) (fun h => kf (Nat.pos_of_ne_zero fun z => h (by rw [z, nI_0]; decide)))
theorem n_if_gt (hexec : p.tables.exec = Jvm.exec) (hb : c.code = cc) {x : Nat} {off : Int} {tgt : Nat} (hx : x < 2 ^ 31) (hdg : decode cc pc = .ok (.ifCond .gt off, 3)) (ht : (pc : Int) + off = (tgt : Int)) (kt : 0 < x → W p l e R s m args below meth c H locs cells slots Q (F0 m tgt ls rest)) (kf : x = 0 → W p l e R s m args below meth c H locs cells slots Q (F0 m (pc + 3) ls rest)) : W p l e R s m args below meth c H locs cells slots Q (F0 m pc ls (.int (nI x) :: rest)) :=
  lv_if_gt hexec hb hdg ht (fun h => kt ((nI_ltI (by decide) hx).mp (by rw [nI_0]; exact h))) (fun h => kf (Decidable.byContradiction fun z => h (by rw [← nI_0]; exact nI_lt (Nat.pos_of_ne_zero z) hx)))
end NR
end
section
/-! CONTRACTS over the map: the whole map ahead, the whole map behind -/
def wPc (g : wG) (av : List Value) (μ : wMu) (sz : Nat) : Array Value → State → Prop := fun a U => a = av.toArray ∧ U.heap.size = sz ∧ wE g U ∧ wP g μ U.heap ∧ ∀ q, μ q ≠ none → gB g ≤ q
def wQc (g : wG) (μ : wMu) (sz : Nat) (post : Option Value → wMu → Prop) : Array Value → State → Outcome → State → Prop := fun _ st o t => ∃ (r : Option Value) (μ' : wMu), o = .returned r ∧ post r μ' ∧ wP g μ' t.heap ∧ (∀ q, μ' q ≠ none → wA μ sz q) ∧ va_F (wA μ sz) st t
def wXc (g : wG) (μ : wMu) (sz : Nat) (xp : String → Prop) : String → State → State → Prop := fun E st t => xp E ∧ wP g μ t.heap ∧ va_F (wA μ sz) st t
def wMet (l : Launch) (y : MethodName) (bytes : ByteArray) (maxL : Nat) (ret : Option FieldType) (fr mc ms lo : Nat) (g : wG) (av : List Value) (μ : wMu) (sz : Nat) (post : Option Value → wMu → Prop) : Prop :=
  Met l y [.code y bytes maxL ret] ({ frames := fr, cells := mc, slots := ms, locals := lo } : Room) (wPc g av μ sz) (wQc g μ sz post) mc ms (wA μ sz)
def wMetX (l : Launch) (y : MethodName) (bytes : ByteArray) (maxL : Nat) (ret : Option FieldType) (fr mc ms lo : Nat) (g : wG) (av : List Value) (μ : wMu) (sz : Nat) (post : Option Value → wMu → Prop) (xp : String → Prop) : Prop :=
  vx_Met l y [.code y bytes maxL ret] ({ frames := fr, cells := mc, slots := ms, locals := lo } : Room) (wPc g av μ sz) (wQc g μ sz post) (wXc g μ sz xp) mc ms (wA μ sz)
theorem wPc.blind (g : wG) (av : List Value) (μ : wMu) (sz : Nat) : FrameBlind (wPc g av μ sz) := fun _ U _ _ q =>
  ⟨q.1, q.2.1, q.2.2.1.next (A := fun q => gB g ≤ q) (fun _ h => h) va_S.rf rfl (State.WarmedH.refl U), q.2.2.2⟩
theorem wPc.of {g : wG} {av : List Value} {μ : wMu} {A : Nat → Prop} {s : State} {H : Heap} {locs : List Loc} (hX : wX g A s H locs μ) {a : Array Value} (ha : a = av.toArray) {U : State} (hU : U.heap = H) (hW : s.WarmedH U.vm) : wPc g av μ H.size a U :=
  ⟨ha, by rw [hU], hX.1.next hX.2.1 hX.S hU hW, by rw [hU]; exact hX.P, fun q h => hX.2.1 q (hX.dom q h)⟩
theorem wX.start {g : wG} {av : List Value} {μ : wMu} {sz : Nat} {a : Array Value} {s : State} (h : wPc g av μ sz a s) : wX g (wA μ sz) s s.heap [] μ := by
  obtain ⟨-, h1, h2, h3, h4⟩ := h
  refine ⟨h2, fun q hq => hq.elim (h4 q) (fun z => ?_), fun q hq => Or.inr (by omega), va_S.rf, h3, fun q hq => Or.inl hq⟩
  have := h2.2.2.2.2.2.2.2.2.2
  omega
section WM
variable {l : Launch} {y : MethodName} {bytes : ByteArray} {maxL : Nat} {ret : Option FieldType} {fr mc ms lo : Nat} {g : wG} {av : List Value} {μ : wMu} {sz : Nat} {post : Option Value → wMu → Prop} {xp : String → Prop}
theorem wMet.of (hy : plainName y.cls = true) (hsl : (lg_sl av).length ≤ maxL)
    (body : ∀ (p : Program) (e : Env) (s : State) (m : MethodId) (below : List Frame) (meth : Method) (c : Code) (ls : Array Slot), p.tables.exec = Jvm.exec → c.code = bytes → meth.sig.returnType = ret → c.maxLocals = maxL → s.vm.findClass y.cls = some m.cls → meth.locks = false → meth.name = y.name → lv_has ls maxL (lv_args 0 av) → s.heap.size = sz → wX g (wA μ sz) s s.heap [] μ →
      W p l e ({ frames := fr, cells := mc, slots := ms, locals := lo } : Room) s m av.toArray below meth c s.heap [] 0 0 (MQ below (wQc g μ sz post) av.toArray s mc ms (wA μ sz)) (F0 m 0 ls [])) : wMet l y bytes maxL ret fr mc ms lo g av μ sz post := by
  refine Met.ofW (cc := bytes) (maxL := maxL) (ret := ret) (ws' := []) hy rfl ?_
  intro p e s m args below meth c s₁ B hml hv
  have hX := wX.start hv
  obtain ⟨rfl, hsz, -⟩ := hv
  have hl := lv_entry av (n := maxL) hsl
  rw [lg_entry_eq]
  exact body p e s m below meth c _ B.exec B.bytes B.returns hml (findClass_of_methodNamed B.named) B.notSynchronized (name_of_methodNamed B.named B.method).1 hl hsz hX
theorem wMetX.of (hy : plainName y.cls = true) (hsl : (lg_sl av).length ≤ maxL)
    (body : ∀ (p : Program) (e : Env) (s : State) (m : MethodId) (below : List Frame) (meth : Method) (c : Code) (ls : Array Slot), p.tables.exec = Jvm.exec → c.code = bytes → meth.sig.returnType = ret → c.maxLocals = maxL → s.vm.findClass y.cls = some m.cls → meth.locks = false → meth.name = y.name → lv_has ls maxL (lv_args 0 av) → s.heap.size = sz → wX g (wA μ sz) s s.heap [] μ → (∀ x ∈ c.exceptionTable.toList, False) →
      W p l e ({ frames := fr, cells := mc, slots := ms, locals := lo } : Room) s m av.toArray below meth c s.heap [] 0 0 (vx_MQ below (wQc g μ sz post) (wXc g μ sz xp) av.toArray s mc ms (wA μ sz)) (F0 m 0 ls [])) : wMetX l y bytes maxL ret fr mc ms lo g av μ sz post xp := by
  refine vx_ofW (cc := bytes) (maxL := maxL) (ret := ret) (ws' := []) hy rfl ?_
  intro p e s m args below meth c s₁ B hml hxt hv
  have hX := wX.start hv
  obtain ⟨rfl, hsz, -⟩ := hv
  have hl := lv_entry av (n := maxL) hsl
  rw [lg_entry_eq]
  exact body p e s m below meth c _ B.exec B.bytes B.returns hml (findClass_of_methodNamed B.named) B.notSynchronized (name_of_methodNamed B.named B.method).1 hl hsz hX hxt
/-- a contract may say less -/
theorem wMet.mono {post2 : Option Value → wMu → Prop} (h : wMet l y bytes maxL ret fr mc ms lo g av μ sz post) (hp : ∀ r μ', post r μ' → post2 r μ') : wMet l y bytes maxL ret fr mc ms lo g av μ sz post2 := by
  intro p e ha hc hk s m args below hf h1 h2 h3
  obtain ⟨k, o, a1, a2, a3, ⟨r, μ', e1, e2, e3⟩, a5⟩ := h p e ha hc hk s m args below hf h1 h2 h3
  exact ⟨k, o, a1, a2, a3, ⟨r, μ', e1, hp r μ' e2, e3⟩, a5⟩
end WM
section WC
variable {p : Program} {l : Launch} {e : Env} {R : Room} {s : State} {m : MethodId} {args : Array Value} {below : List Frame} {meth : Method} {c : Code} {H : Heap} {locs : List Loc} {cells slots : Nat} {Q : State → Prop}
variable {cc : ByteArray} {pc : Nat} {ls : Array Slot} {st0 rest : List Value} {A : Nat → Prop} {g : wG} {μ : wMu} {post : Option Value → wMu → Prop} {xp : String → Prop} {a : Array Value} {mc ms : Nat}
theorem wA.into (hX : wX g A s H locs μ) : ∀ q, wA μ H.size q → A q := fun q h => h.elim (hX.dom q) (fun z => hX.2.2.1 q (Nat.le_trans hX.S.1 z))
theorem wX.behind {T' t st₀ : State} {L : List Loc} {μ' : wMu} (hX : wX g A s H locs μ) (h0 : st₀.heap = H) (e1 : T'.heap = t.heap) (hL : ∀ q ∈ L, wA μ H.size q.base) (hP : wP g μ' t.heap) (hd : ∀ q, μ' q ≠ none → wA μ H.size q) (hF : va_F (wA μ H.size) st₀ t) : wX g A s T'.heap (locs ++ L) μ' ∧ H.size ≤ T'.heap.size ∧ ∀ q : Nat, q < H.size → μ q = none → T'.heap[q]? = H[q]? := by
  have hsub := wA.into hX
  obtain ⟨hz, hk⟩ := hF
  rw [h0] at hz hk
  have hS := hX.S
  refine ⟨⟨hX.1, hX.2.1, hX.2.2.1, ⟨Nat.le_trans hS.1 (by rw [e1]; exact hz), fun q h1 h2 => ?_, fun q hq => ?_⟩, by rw [e1]; exact hP, fun q hq => hsub q (hd q hq)⟩, by rw [e1]; exact hz, fun q h1 h2 => ?_⟩
  · rw [e1, hk q (Nat.lt_of_lt_of_le h1 hS.1) (fun z => h2 (hsub q z))]; exact hS.2.1 q h1 h2
  · rcases List.mem_append.mp hq with h | h
    · exact hS.2.2 q h
    · exact hsub _ (hL q h)
  · rw [e1]; exact hk q h1 (fun z => z.elim (fun z => z h2) (fun z => absurd z (Nat.not_le.mpr h1)))
theorem w_call (hr : va_Run p l e R s m args below meth c H locs cells slots mc ms (F0 m pc ls st0) rest (wQc g μ H.size post a) (wA μ H.size)) (hX : wX g A s H locs μ)
    (kk : ∀ (r : Option Value) (μ' : wMu) (H1 : Heap) (locs1 : List Loc), post r μ' → wX g A s H1 locs1 μ' → H.size ≤ H1.size → W p l e R s m args below meth c H1 locs1 (cells + mc) (slots + ms) Q (F0 m (pc + 3) ls (r.toList ++ rest))) : W p l e R s m args below meth c H locs cells slots Q (F0 m pc ls st0) := by
  intro T hT X
  obtain ⟨v, st₀, t, T', L, h0, X', hL, e1, e2, ⟨r, μ', hv, hp, hP', hd', hF⟩, st⟩ := hr T hT X
  cases hv
  obtain ⟨b1, b2, b3⟩ := hX.behind h0 e1 hL hP' hd' hF
  obtain ⟨t2, a1, a2⟩ := kk v μ' T'.heap (locs ++ L) hp b1 b2 T' rfl X'
  exact ⟨t2, st t2 a1, a2⟩
/-- a call on a part of what is known: the rest stays -/
theorem w_callF (hr : va_Run p l e R s m args below meth c H locs cells slots mc ms (F0 m pc ls st0) rest (wQc g μ H.size post a) (wA μ H.size)) (hX : wX g A s H locs μ)
    (kk : ∀ (r : Option Value) (μ' : wMu) (H1 : Heap) (locs1 : List Loc), post r μ' → wX g A s H1 locs1 μ' → H.size ≤ H1.size → (∀ q : Nat, q < H.size → μ q = none → H1[q]? = H[q]?) → (∀ q, μ' q ≠ none → wA μ H.size q) → W p l e R s m args below meth c H1 locs1 (cells + mc) (slots + ms) Q (F0 m (pc + 3) ls (r.toList ++ rest))) : W p l e R s m args below meth c H locs cells slots Q (F0 m pc ls st0) := by
  intro T hT X
  obtain ⟨v, st₀, t, T', L, h0, X', hL, e1, e2, ⟨r, μ', hv, hp, hP', hd', hF⟩, st⟩ := hr T hT X
  cases hv
  obtain ⟨b1, b2, b3⟩ := hX.behind h0 e1 hL hP' hd' hF
  obtain ⟨t2, a1, a2⟩ := kk v μ' T'.heap (locs ++ L) hp b1 b2 b3 hd' T' rfl X'
  exact ⟨t2, st t2 a1, a2⟩
theorem w_callX (hr : vx_Run p l e R s m args below meth c H locs cells slots mc ms (F0 m pc ls st0) rest (wQc g μ H.size post a) (wXc g μ H.size xp) (wA μ H.size)) (hX : wX g A s H locs μ)
    (kx : ∀ (E : String) (ce : Cell) (q9 : Addr) (H1 : Heap) (locs1 : List Loc), xp E → wX g A s H1 locs1 μ → H1[q9]? = some ce → ce.vm = .none → s.vm.findClass E = some ce.cls → vx_W p l e R s m args below meth c H1 locs1 (cells + mc) (slots + ms) Q (F0 m pc ls rest) q9)
    (kk : ∀ (r : Option Value) (μ' : wMu) (H1 : Heap) (locs1 : List Loc), post r μ' → wX g A s H1 locs1 μ' → H.size ≤ H1.size → W p l e R s m args below meth c H1 locs1 (cells + mc) (slots + ms) Q (F0 m (pc + 3) ls (r.toList ++ rest))) : W p l e R s m args below meth c H locs cells slots Q (F0 m pc ls st0) := by
  intro T hT X
  rcases hr T hT X with ⟨v, st₀, t, T', L, h0, X', hL, e1, e2, ⟨r, μ', hv, hp, hP', hd', hF⟩, st⟩ | ⟨q, st₀, t, T', L, E, ce, h0, X', hL, e1, e2, ⟨hp, hP', hF⟩, hce, hcv, hcl, st⟩
  · cases hv
    obtain ⟨b1, b2, b3⟩ := hX.behind h0 e1 hL hP' hd' hF
    obtain ⟨t2, a1, a2⟩ := kk v μ' T'.heap (locs ++ L) hp b1 b2 T' rfl X'
    exact ⟨t2, st t2 a1, a2⟩
  · obtain ⟨b1, b2, b3⟩ := hX.behind h0 e1 hL hP' (fun q hq => Or.inl hq) hF
    obtain ⟨t2, a1, a2⟩ := kx E ce q T'.heap (locs ++ L) hp b1 (by rw [e1]; exact hce) hcv hcl T' rfl X'
    exact ⟨t2, st.trans a1, a2⟩
variable {y : MethodName} {bytes : ByteArray} {maxL nL n index fr lo : Nat} {ret : Option FieldType} {own host : String} {b ci N : Nat} {T : u_T} {fs As : List Value}
theorem w_code1 (hX : wX g A s H locs μ) (hcode : Cond.code y bytes maxL ret ∈ GW) : (∀ w ∈ [Cond.code y bytes maxL ret], ∀ (a' : Array Value) (U : State), s.WarmedH U.vm → w.before a' U = true) ∧ Cond.code y bytes maxL ret ∈ [Cond.code y bytes maxL ret] := by
  refine ⟨fun w hw a' U hW => ?_, List.mem_cons_self⟩
  rw [List.mem_singleton.mp hw]
  have h1 := (List.mem_filter.mp hcode).2
  exact tw_args h1 (tw_warm hW h1 (hX.1.2.1 _ hcode)) a'
abbrev wNm (y : MethodName) (n : Nat) : Prop := (y.cls ≠ "java/lang/invoke/MethodHandle" ∧ y.cls ≠ "java/lang/invoke/VarHandle") ∧ (parseMethodDescriptor y.desc).map (fun d => d.parameters.length) = some n
theorem wNm.len {y : MethodName} {n : Nat} (h : wNm y n) : ∀ sig, parseMethodDescriptor y.desc = some sig → n = sig.parameters.length := fun sig hs => by
  have h2 := h.2
  rw [hs] at h2
  exact (Option.some.inj h2).symm
theorem w_runV (hexec : p.tables.exec = Jvm.exec) (hb : c.code = cc) (hml : c.maxLocals = nL) (hown : s.vm.findClass own = some m.cls) (hX : wX g A s H locs μ) (hM : wMet l y bytes maxL ret fr mc ms lo g (.ref b :: As) μ H.size post)
    (hcode : Cond.code y bytes maxL ret ∈ GW) (hini : Cond.initialized y.cls ∈ GW) (hlink : Cond.methodLink own index y ∈ GW) (hinst : Cond.instanceMethod y ∈ GW) (hsel : Cond.selects y.cls y y ∈ GW) (hd : wNm y n) (hn : As.length = n) (he : μ b = some (.inr (ci, fs))) (hc : vwCl[ci]? = some (y.cls, T, N))
    (hR : fr + 1 ≤ R.frames ∧ 8 + (maxL + 11) + lo ≤ R.locals) (hsize : ls.size = nL) (hstack : st0 = As.reverse ++ .ref b :: rest) (hW : (rest.map fun v => v.category).sum ≤ 8) (hdg : decode cc pc = .ok (.invokevirtual index, 3)) (hf : cells + mc ≤ R.cells ∧ slots + ms ≤ R.slots) :
    va_Run p l e R s m args below meth c H locs cells slots mc ms (F0 m pc ls st0) rest (wQc g μ H.size post (Value.ref b :: As).toArray) (wA μ H.size) := by
  obtain ⟨h1, h2⟩ := w_code1 hX hcode
  exact va_runV (C := y.cls) (Ts := GW) (n := n) ⟨hexec, hb, hml, hown, hX.ws args⟩ hM ⟨⟨rfl, rfl, hR.1, hR.2, h1, h2, hX.w hcode, hX.w hini, hd.1, hd.len, hX.w hlink⟩, hX.w hinst, hX.w hsel⟩ ⟨wPc.blind _ _ _ _, hX.recv he hc, fun U hU hW => wPc.of hX rfl hU hW⟩ rfl hn hsize hstack (lv_room hW) hdg hf
theorem w_runVN (hexec : p.tables.exec = Jvm.exec) (hb : c.code = cc) (hml : c.maxLocals = nL) (hown : s.vm.findClass own = some m.cls) (hX : wX g A s H locs μ) (hM : wMet l y bytes maxL ret fr mc ms lo g (.ref b :: As) μ H.size post)
    (hcode : Cond.code y bytes maxL ret ∈ GW) (hini : Cond.initialized y.cls ∈ GW) (hlink : Cond.methodLinkNest own index y host ∈ GW) (hinst : Cond.instanceMethod y ∈ GW) (hsel : Cond.selects y.cls y y ∈ GW) (hd : wNm y n) (hn : As.length = n) (he : μ b = some (.inr (ci, fs))) (hc : vwCl[ci]? = some (y.cls, T, N))
    (hR : fr + 1 ≤ R.frames ∧ 8 + (maxL + 11) + lo ≤ R.locals) (hsize : ls.size = nL) (hstack : st0 = As.reverse ++ .ref b :: rest) (hW : (rest.map fun v => v.category).sum ≤ 8) (hdg : decode cc pc = .ok (.invokevirtual index, 3)) (hf : cells + mc ≤ R.cells ∧ slots + ms ≤ R.slots) :
    va_Run p l e R s m args below meth c H locs cells slots mc ms (F0 m pc ls st0) rest (wQc g μ H.size post (Value.ref b :: As).toArray) (wA μ H.size) := by
  obtain ⟨h1, h2⟩ := w_code1 hX hcode
  exact va_runVN (C := y.cls) (Ts := GW) (n := n) ⟨hexec, hb, hml, hown, hX.ws args⟩ hM ⟨⟨⟨rfl, rfl, hR.1, hR.2, h1, h2⟩, hX.w hcode, hX.w hini, hd.1, hd.len, hX.w hlink⟩, hX.w hinst, hX.w hsel⟩ ⟨wPc.blind _ _ _ _, hX.recv he hc, fun U hU hW => wPc.of hX rfl hU hW⟩ rfl hn hsize hstack (lv_room hW) hdg hf
theorem w_runS (hexec : p.tables.exec = Jvm.exec) (hb : c.code = cc) (hml : c.maxLocals = nL) (hown : s.vm.findClass own = some m.cls) (hX : wX g A s H locs μ) (hM : wMet l y bytes maxL ret fr mc ms lo g As μ H.size post)
    (hcode : Cond.code y bytes maxL ret ∈ GW) (hini : Cond.initialized y.cls ∈ GW) (hlink : Cond.methodLink own index y ∈ GW) (hstat : Cond.static y ∈ GW) (hd : wNm y n) (hn : As.length = n)
    (hR : fr + 1 ≤ R.frames ∧ 8 + (maxL + 11) + lo ≤ R.locals) (hsize : ls.size = nL) (hstack : st0 = As.reverse ++ rest) (hW : (rest.map fun v => v.category).sum ≤ 8) (hdg : decode cc pc = .ok (.invokestatic index, 3)) (hf : cells + mc ≤ R.cells ∧ slots + ms ≤ R.slots) :
    va_Run p l e R s m args below meth c H locs cells slots mc ms (F0 m pc ls st0) rest (wQc g μ H.size post As.toArray) (wA μ H.size) := by
  obtain ⟨h1, h2⟩ := w_code1 hX hcode
  exact va_runS (Ts := GW) (n := n) ⟨hexec, hb, hml, hown, hX.ws args⟩ hM ⟨⟨rfl, rfl, hR.1, hR.2, h1, h2, hX.w hcode, hX.w hini, hd.1, hd.len, hX.w hlink⟩, hX.w hstat⟩ ⟨wPc.blind _ _ _ _, fun U hU hW => wPc.of hX rfl hU hW⟩ rfl hn hsize hstack (lv_room hW) hdg hf
theorem w_runI (hexec : p.tables.exec = Jvm.exec) (hb : c.code = cc) (hml : c.maxLocals = nL) (hown : s.vm.findClass own = some m.cls) (hX : wX g A s H locs μ) (hM : wMet l y bytes maxL none fr mc ms lo g (.ref b :: As) μ H.size post)
    (hcode : Cond.code y bytes maxL none ∈ GW) (hini : Cond.initialized y.cls ∈ GW) (hlink : Cond.methodLink own index y ∈ GW) (hinst : Cond.instanceMethod y ∈ GW) (hnm : y.name = "<init>") (hd : wNm y n) (hn : As.length = n)
    (hR : fr + 1 ≤ R.frames ∧ 8 + (maxL + 11) + lo ≤ R.locals) (hsize : ls.size = nL) (hstack : st0 = As.reverse ++ .ref b :: rest) (hW : (rest.map fun v => v.category).sum ≤ 8) (hdg : decode cc pc = .ok (.invokespecial index, 3)) (hf : cells + mc ≤ R.cells ∧ slots + ms ≤ R.slots) :
    va_Run p l e R s m args below meth c H locs cells slots mc ms (F0 m pc ls st0) rest (wQc g μ H.size post (Value.ref b :: As).toArray) (wA μ H.size) := by
  obtain ⟨h1, h2⟩ := w_code1 hX hcode
  exact va_runI (Ts := GW) (n := n) ⟨hexec, hb, hml, hown, hX.ws args⟩ hM ⟨⟨rfl, rfl, hR.1, hR.2, h1, h2, hX.w hcode, hX.w hini, hd.1, hd.len, hX.w hlink⟩, hnm, hX.w hinst⟩ ⟨wPc.blind _ _ _ _, fun U hU hW => wPc.of hX rfl hU hW⟩ rfl hn hsize hstack (lv_room hW) hdg hf
theorem w_runIN (hexec : p.tables.exec = Jvm.exec) (hb : c.code = cc) (hml : c.maxLocals = nL) (hown : s.vm.findClass own = some m.cls) (hX : wX g A s H locs μ) (hM : wMet l y bytes maxL none fr mc ms lo g (.ref b :: As) μ H.size post)
    (hcode : Cond.code y bytes maxL none ∈ GW) (hini : Cond.initialized y.cls ∈ GW) (hlink : Cond.methodLinkNest own index y host ∈ GW) (hinst : Cond.instanceMethod y ∈ GW) (hnm : y.name = "<init>") (hd : wNm y n) (hn : As.length = n)
    (hR : fr + 1 ≤ R.frames ∧ 8 + (maxL + 11) + lo ≤ R.locals) (hsize : ls.size = nL) (hstack : st0 = As.reverse ++ .ref b :: rest) (hW : (rest.map fun v => v.category).sum ≤ 8) (hdg : decode cc pc = .ok (.invokespecial index, 3)) (hf : cells + mc ≤ R.cells ∧ slots + ms ≤ R.slots) :
    va_Run p l e R s m args below meth c H locs cells slots mc ms (F0 m pc ls st0) rest (wQc g μ H.size post (Value.ref b :: As).toArray) (wA μ H.size) := by
  obtain ⟨h1, h2⟩ := w_code1 hX hcode
  exact va_runIN (Ts := GW) (n := n) ⟨hexec, hb, hml, hown, hX.ws args⟩ hM ⟨⟨⟨rfl, rfl, hR.1, hR.2, h1, h2⟩, hX.w hcode, hX.w hini, hd.1, hd.len, hX.w hlink⟩, hnm, hX.w hinst⟩ ⟨wPc.blind _ _ _ _, fun U hU hW => wPc.of hX rfl hU hW⟩ rfl hn hsize hstack (lv_room hW) hdg hf
theorem w_runVX (hexec : p.tables.exec = Jvm.exec) (hb : c.code = cc) (hml : c.maxLocals = nL) (hown : s.vm.findClass own = some m.cls) (hX : wX g A s H locs μ) (hM : wMetX l y bytes maxL ret fr mc ms lo g (.ref b :: As) μ H.size post xp)
    (hcode : Cond.code y bytes maxL ret ∈ GW) (hini : Cond.initialized y.cls ∈ GW) (hlink : Cond.methodLink own index y ∈ GW) (hinst : Cond.instanceMethod y ∈ GW) (hsel : Cond.selects y.cls y y ∈ GW) (hd : wNm y n) (hn : As.length = n) (he : μ b = some (.inr (ci, fs))) (hc : vwCl[ci]? = some (y.cls, T, N))
    (hR : fr + 1 ≤ R.frames ∧ 8 + (maxL + 11) + lo ≤ R.locals) (hsize : ls.size = nL) (hstack : st0 = As.reverse ++ .ref b :: rest) (hW : (rest.map fun v => v.category).sum ≤ 8) (hdg : decode cc pc = .ok (.invokevirtual index, 3)) (hf : cells + mc ≤ R.cells ∧ slots + ms ≤ R.slots) :
    vx_Run p l e R s m args below meth c H locs cells slots mc ms (F0 m pc ls st0) rest (wQc g μ H.size post (Value.ref b :: As).toArray) (wXc g μ H.size xp) (wA μ H.size) := by
  obtain ⟨h1, h2⟩ := w_code1 hX hcode
  exact vx_runV (C := y.cls) (Ts := GW) (n := n) ⟨hexec, hb, hml, hown, hX.ws args⟩ hM ⟨⟨rfl, rfl, hR.1, hR.2, h1, h2, hX.w hcode, hX.w hini, hd.1, hd.len, hX.w hlink⟩, hX.w hinst, hX.w hsel⟩ ⟨wPc.blind _ _ _ _, hX.recv he hc, fun U hU hW => wPc.of hX rfl hU hW⟩ rfl hn hsize hstack (lv_room hW) hdg hf
theorem w_runSX (hexec : p.tables.exec = Jvm.exec) (hb : c.code = cc) (hml : c.maxLocals = nL) (hown : s.vm.findClass own = some m.cls) (hX : wX g A s H locs μ) (hM : wMetX l y bytes maxL ret fr mc ms lo g As μ H.size post xp)
    (hcode : Cond.code y bytes maxL ret ∈ GW) (hini : Cond.initialized y.cls ∈ GW) (hlink : Cond.methodLink own index y ∈ GW) (hstat : Cond.static y ∈ GW) (hd : wNm y n) (hn : As.length = n)
    (hR : fr + 1 ≤ R.frames ∧ 8 + (maxL + 11) + lo ≤ R.locals) (hsize : ls.size = nL) (hstack : st0 = As.reverse ++ rest) (hW : (rest.map fun v => v.category).sum ≤ 8) (hdg : decode cc pc = .ok (.invokestatic index, 3)) (hf : cells + mc ≤ R.cells ∧ slots + ms ≤ R.slots) :
    vx_Run p l e R s m args below meth c H locs cells slots mc ms (F0 m pc ls st0) rest (wQc g μ H.size post As.toArray) (wXc g μ H.size xp) (wA μ H.size) := by
  obtain ⟨h1, h2⟩ := w_code1 hX hcode
  exact vx_runS (Ts := GW) (n := n) ⟨hexec, hb, hml, hown, hX.ws args⟩ hM ⟨⟨rfl, rfl, hR.1, hR.2, h1, h2, hX.w hcode, hX.w hini, hd.1, hd.len, hX.w hlink⟩, hX.w hstat⟩ ⟨wPc.blind _ _ _ _, fun U hU hW => wPc.of hX rfl hU hW⟩ rfl hn hsize hstack (lv_room hW) hdg hf
end WC
section WE
variable {p : Program} {l : Launch} {e : Env} {R : Room} {s : State} {m : MethodId} {args : Array Value} {below : List Frame} {meth : Method} {c : Code} {H : Heap} {locs : List Loc} {cells slots mc ms sz : Nat}
variable {cc : ByteArray} {pc : Nat} {ls : Array Slot} {rest : List Value} {g : wG} {μ μ' : wMu} {post : Option Value → wMu → Prop} {xp : String → Prop}
theorem w_iret (hexec : p.tables.exec = Jvm.exec) (hb : c.code = cc) (hr : meth.sig.returnType = some .int) (hlocks : meth.locks = false) (hX : wX g (wA μ sz) s H locs μ') {v : Int32} (hp : post (some (.int v)) μ') (hC : cells ≤ mc ∧ slots ≤ ms) (hdg : decode cc pc = .ok (.ireturn, 1)) :
    W p l e R s m args below meth c H locs cells slots (MQ below (wQc g μ sz post) args s mc ms (wA μ sz)) (F0 m pc ls [.int v]) :=
  W.widen hC.1 hC.2 (W.iret hexec hb hr (fun t ht hW => ⟨_, μ', rfl, hp, by rw [ht]; exact hX.P, hX.dom, hX.S.F ht⟩) hX.S.2.2 hdg hlocks)
theorem w_zret (hexec : p.tables.exec = Jvm.exec) (hb : c.code = cc) (hr : meth.sig.returnType = some .boolean) (hlocks : meth.locks = false) (hX : wX g (wA μ sz) s H locs μ') {v : Int32} (hv : narrow .boolean (.int v) = .int v) (hp : post (some (.int v)) μ') (hC : cells ≤ mc ∧ slots ≤ ms) (hdg : decode cc pc = .ok (.ireturn, 1)) :
    W p l e R s m args below meth c H locs cells slots (MQ below (wQc g μ sz post) args s mc ms (wA μ sz)) (F0 m pc ls [.int v]) :=
  W.widen hC.1 hC.2 (W.zret hexec hb hr hv (fun t ht hW => ⟨_, μ', rfl, hp, by rw [ht]; exact hX.P, hX.dom, hX.S.F ht⟩) hX.S.2.2 hdg hlocks)
theorem w_lret (hexec : p.tables.exec = Jvm.exec) (hb : c.code = cc) (hr : meth.sig.returnType = some .long) (hlocks : meth.locks = false) (hX : wX g (wA μ sz) s H locs μ') {v : Int64} (hp : post (some (.long v)) μ') (hC : cells ≤ mc ∧ slots ≤ ms) (hdg : decode cc pc = .ok (.lreturn, 1)) :
    W p l e R s m args below meth c H locs cells slots (MQ below (wQc g μ sz post) args s mc ms (wA μ sz)) (F0 m pc ls [.long v]) :=
  W.widen hC.1 hC.2 (W.lret hexec hb hr (fun t ht hW => ⟨_, μ', rfl, hp, by rw [ht]; exact hX.P, hX.dom, hX.S.F ht⟩) hX.S.2.2 hdg hlocks)
theorem w_aret (hexec : p.tables.exec = Jvm.exec) (hb : c.code = cc) {rt : FieldType} (hr : meth.sig.returnType = some rt) (hrt : (∃ n, rt = .object n) ∨ ∃ t, rt = .array t) (hlocks : meth.locks = false) (hX : wX g (wA μ sz) s H locs μ') {v : Nat} (hp : post (some (.ref v)) μ') (hC : cells ≤ mc ∧ slots ≤ ms) (hdg : decode cc pc = .ok (.areturn, 1)) :
    W p l e R s m args below meth c H locs cells slots (MQ below (wQc g μ sz post) args s mc ms (wA μ sz)) (F0 m pc ls [.ref v]) :=
  W.widen hC.1 hC.2 (W.aret hexec hb hr hrt (Or.inr ⟨v, rfl⟩) (fun t ht hW => ⟨_, μ', rfl, hp, by rw [ht]; exact hX.P, hX.dom, hX.S.F ht⟩) hX.S.2.2 hdg hlocks)
theorem w_vret (hexec : p.tables.exec = Jvm.exec) (hb : c.code = cc) (hr : meth.sig.returnType = none) (hlocks : meth.locks = false) (hX : wX g (wA μ sz) s H locs μ') (hp : post none μ') (hC : cells ≤ mc ∧ slots ≤ ms) (hdg : decode cc pc = .ok (.return_, 1)) :
    W p l e R s m args below meth c H locs cells slots (MQ below (wQc g μ sz post) args s mc ms (wA μ sz)) (F0 m pc ls []) :=
  W.widen hC.1 hC.2 (W.vret hexec hb hr (fun t ht hW => ⟨_, μ', rfl, hp, by rw [ht]; exact hX.P, hX.dom, hX.S.F ht⟩) hX.S.2.2 hdg hlocks)
/-- what was thrown goes on to the caller -/
theorem w_out (hxt : ∀ x ∈ c.exceptionTable.toList, False) (hlocks : meth.locks = false) (hX : wX g (wA μ sz) s H locs μ) {E : String} {ce : Cell} {q9 : Addr} (hp : xp E) (hce : H[q9]? = some ce) (hcv : ce.vm = .none) (hcl : s.vm.findClass E = some ce.cls) (hC : cells ≤ mc ∧ slots ≤ ms) :
    vx_W p l e R s m args below meth c H locs cells slots (vx_MQ below (wQc g μ sz post) (wXc g μ sz xp) args s mc ms (wA μ sz)) (F0 m pc ls rest) q9 :=
  vx_out (fun x hx => (hxt x hx).elim) hlocks hce hcv hcl (fun t ht _ => ⟨hp, by rw [ht]; exact hX.P, hX.S.F ht⟩) hX.S.2.2 hC.1 hC.2
theorem w_throw (hexec : p.tables.exec = Jvm.exec) (hb : c.code = cc) (hl : l.stackTraces = false) {cls text : String} {ik is ic sa : Nat} (hown : s.vm.findClass RX2 = some m.cls) (hcls : Bundle.fit cls = true)
    (hk : Cond.classLink RX2 ik cls ∈ GW) (hini : Cond.initialized cls ∈ GW) (hstr : vk_R RX2 is text sa s) (hat : ∀ w ∈ vx_atS RX2 ic cls ["java/lang/RuntimeException", "java/lang/Exception"], w ∈ GW)
    (hgood : ∀ w ∈ Cond.classLink RX2 ik cls :: Cond.initialized cls :: vx_atS RX2 ic cls ["java/lang/RuntimeException", "java/lang/Exception"], vx_ot w = true)
    (hX : wX g (wA μ sz) s H locs μ) (hsize : ls.size = c.maxLocals)
    (d0 : decode cc pc = .ok (.new ik, 3)) (d3 : decode cc (pc + 3) = .ok (.dup, 1)) (d4 : decode cc (pc + 4) = .ok (.ldc is, 2)) (d6 : decode cc (pc + 6) = .ok (.invokespecial ic, 3)) (d9 : decode cc (pc + 9) = .ok (.athrow, 1))
    (hxt : ∀ x ∈ c.exceptionTable.toList, False) (hRf : 5 < R.frames) (hRl : (rest.map fun v => v.category).sum + 82 ≤ R.locals) (hRc : cells + 1 ≤ R.cells ∧ slots + 6 ≤ R.slots) (hlocks : meth.locks = false) (hp : xp cls) (hC : cells + 1 ≤ mc ∧ slots + 6 ≤ ms) :
    W p l e R s m args below meth c H locs cells slots (vx_MQ below (wQc g μ sz post) (wXc g μ sz xp) args s mc ms (wA μ sz)) (F0 m pc ls rest) := by
  obtain ⟨h1, h2, h3, h4, h5, h6⟩ := id hX
  obtain ⟨-, -, -, -, hU, hN, -⟩ := id h1
  refine vx_throwS (names := ["java/lang/RuntimeException", "java/lang/Exception"]) hexec hb hl hown hcls (by decide) (hX.w hk) (hX.w hini) hstr (fun w hw => hX.w (hat w hw)) hgood (hU.narrow h2) (hN.narrow h2) h4 hsize d0 d3 d4 d6 d9 (fun x hx => (hxt x hx).elim) hRf hRl hRc.1 hRc.2 hlocks (fun t hal hz hq => ?_) h4.2.2 hC.1 hC.2
  have hX' := hX.grow hz hq
  exact ⟨hp, hX'.P, hX'.S.F rfl⟩
end WE
end
section
section FR
variable {p : Program} {l : Launch} {e : Env} {R : Room} {s : State} {m : MethodId} {args : Array Value} {below : List Frame} {meth : Method} {c : Code} {H : Heap} {locs : List Loc} {cells slots : Nat} {Q : State → Prop}
variable {cc : ByteArray} {pc : Nat} {ls : Array Slot} {rest : List Value} {A : Nat → Prop} {a : Nat} {g : wG} {μ : wMu}
theorem inJx4a65c : ∀ w ∈ u_ws RJx4a65c TJx4a65c 3, w ∈ GW := by decide +kernel
theorem gJx4a65c_0 (hexec : p.tables.exec = Jvm.exec) (hb : c.code = cc) {own : String} {index : Nat} (hX : wX g A s H locs μ) (hown : s.vm.findClass own = some m.cls) {v0 v1 v2 : Value} (he : μ a = some (.inr (0, [v0, v1, v2]))) (hlink : Cond.fieldLink own index "java/util/ArrayList" "modCount" "I" ∈ GW) (hdg : decode cc pc = .ok (.getfield index, 3)) (kk : W p l e R s m args below meth c H locs cells slots Q (F0 m (pc + 3) ls (v0 :: rest))) : W p l e R s m args below meth c H locs cells slots Q (F0 m pc ls (.ref a :: rest)) := w_get hexec hb inJx4a65c rfl 0 (by decide) hX hown he hlink (fun x h => u_same (hX.w (args := args) kw46) x h) rfl hdg kk
theorem pJx4a65c_0 (hexec : p.tables.exec = Jvm.exec) (hb : c.code = cc) {own : String} {index : Nat} (hX : wX g A s H locs μ) (hown : s.vm.findClass own = some m.cls) {v0 v1 v2 : Value} (he : μ a = some (.inr (0, [v0, v1, v2]))) (hlink : Cond.fieldLink own index "java/util/ArrayList" "modCount" "I" ∈ GW) (hdg : decode cc pc = .ok (.putfield index, 3)) {x : Int32} (kk : ∀ (H1 : Heap) (locs1 : List Loc), wX g A s H1 locs1 (va_up μ a (some (.inr (0, [.int x, v1, v2])))) → W p l e R s m args below meth c H1 locs1 cells slots Q (F0 m (pc + 3) ls rest)) : W p l e R s m args below meth c H locs cells slots Q (F0 m pc ls (.int x :: .ref a :: rest)) := w_put hexec hb inJx4a65c tyJx4a65c tyJx4a65c_ok nmJx4a65c rfl 0 (by decide) rfl rfl rfl hX hown he (Nat.le_of_ble_eq_true rfl) hlink (fun x h => u_same (hX.w (args := args) kw46) x h) hdg kk
theorem gJx4a65c_1 (hexec : p.tables.exec = Jvm.exec) (hb : c.code = cc) {own : String} {index : Nat} (hX : wX g A s H locs μ) (hown : s.vm.findClass own = some m.cls) {v0 v1 v2 : Value} (he : μ a = some (.inr (0, [v0, v1, v2]))) (hlink : Cond.fieldLink own index "java/util/ArrayList" "elementData" "[Ljava/lang/Object;" ∈ GW) (hdg : decode cc pc = .ok (.getfield index, 3)) (kk : W p l e R s m args below meth c H locs cells slots Q (F0 m (pc + 3) ls (v1 :: rest))) : W p l e R s m args below meth c H locs cells slots Q (F0 m pc ls (.ref a :: rest)) := w_get hexec hb inJx4a65c rfl 1 (by decide) hX hown he hlink (fun _ h => h) rfl hdg kk
theorem pJx4a65c_1 (hexec : p.tables.exec = Jvm.exec) (hb : c.code = cc) {own : String} {index : Nat} (hX : wX g A s H locs μ) (hown : s.vm.findClass own = some m.cls) {v0 v1 v2 : Value} (he : μ a = some (.inr (0, [v0, v1, v2]))) (hlink : Cond.fieldLink own index "java/util/ArrayList" "elementData" "[Ljava/lang/Object;" ∈ GW) (hdg : decode cc pc = .ok (.putfield index, 3)) {x : Nat} (kk : ∀ (H1 : Heap) (locs1 : List Loc), wX g A s H1 locs1 (va_up μ a (some (.inr (0, [v0, .ref x, v2])))) → W p l e R s m args below meth c H1 locs1 cells slots Q (F0 m (pc + 3) ls rest)) : W p l e R s m args below meth c H locs cells slots Q (F0 m pc ls (.ref x :: .ref a :: rest)) := w_put hexec hb inJx4a65c tyJx4a65c tyJx4a65c_ok nmJx4a65c rfl 1 (by decide) rfl rfl rfl hX hown he (Nat.le_of_ble_eq_true rfl) hlink (fun _ h => h) hdg kk
theorem gJx4a65c_2 (hexec : p.tables.exec = Jvm.exec) (hb : c.code = cc) {own : String} {index : Nat} (hX : wX g A s H locs μ) (hown : s.vm.findClass own = some m.cls) {v0 v1 v2 : Value} (he : μ a = some (.inr (0, [v0, v1, v2]))) (hlink : Cond.fieldLink own index "java/util/ArrayList" "size" "I" ∈ GW) (hdg : decode cc pc = .ok (.getfield index, 3)) (kk : W p l e R s m args below meth c H locs cells slots Q (F0 m (pc + 3) ls (v2 :: rest))) : W p l e R s m args below meth c H locs cells slots Q (F0 m pc ls (.ref a :: rest)) := w_get hexec hb inJx4a65c rfl 2 (by decide) hX hown he hlink (fun _ h => h) rfl hdg kk
theorem pJx4a65c_2 (hexec : p.tables.exec = Jvm.exec) (hb : c.code = cc) {own : String} {index : Nat} (hX : wX g A s H locs μ) (hown : s.vm.findClass own = some m.cls) {v0 v1 v2 : Value} (he : μ a = some (.inr (0, [v0, v1, v2]))) (hlink : Cond.fieldLink own index "java/util/ArrayList" "size" "I" ∈ GW) (hdg : decode cc pc = .ok (.putfield index, 3)) {x : Int32} (kk : ∀ (H1 : Heap) (locs1 : List Loc), wX g A s H1 locs1 (va_up μ a (some (.inr (0, [v0, v1, .int x])))) → W p l e R s m args below meth c H1 locs1 cells slots Q (F0 m (pc + 3) ls rest)) : W p l e R s m args below meth c H locs cells slots Q (F0 m pc ls (.int x :: .ref a :: rest)) := w_put hexec hb inJx4a65c tyJx4a65c tyJx4a65c_ok nmJx4a65c rfl 2 (by decide) rfl rfl rfl hX hown he (Nat.le_of_ble_eq_true rfl) hlink (fun _ h => h) hdg kk
theorem inX0 : ∀ w ∈ u_ws RX0 TX0 6, w ∈ GW := by decide +kernel
theorem gX0_0 (hexec : p.tables.exec = Jvm.exec) (hb : c.code = cc) {own : String} {index : Nat} (hX : wX g A s H locs μ) (hown : s.vm.findClass own = some m.cls) {v0 v1 v2 v3 v4 v5 : Value} (he : μ a = some (.inr (1, [v0, v1, v2, v3, v4, v5]))) (hlink : Cond.fieldLink own index "FairyDust$Child" "wand" "LFairyDust$Wand;" ∈ GW) (hdg : decode cc pc = .ok (.getfield index, 3)) (kk : W p l e R s m args below meth c H locs cells slots Q (F0 m (pc + 3) ls (v0 :: rest))) : W p l e R s m args below meth c H locs cells slots Q (F0 m pc ls (.ref a :: rest)) := w_get hexec hb inX0 rfl 0 (by decide) hX hown he hlink (fun _ h => h) rfl hdg kk
theorem pX0_0 (hexec : p.tables.exec = Jvm.exec) (hb : c.code = cc) {own : String} {index : Nat} (hX : wX g A s H locs μ) (hown : s.vm.findClass own = some m.cls) {v0 v1 v2 v3 v4 v5 : Value} (he : μ a = some (.inr (1, [v0, v1, v2, v3, v4, v5]))) (hlink : Cond.fieldLink own index "FairyDust$Child" "wand" "LFairyDust$Wand;" ∈ GW) (hdg : decode cc pc = .ok (.putfield index, 3)) {x : Nat} (kk : ∀ (H1 : Heap) (locs1 : List Loc), wX g A s H1 locs1 (va_up μ a (some (.inr (1, [.ref x, v1, v2, v3, v4, v5])))) → W p l e R s m args below meth c H1 locs1 cells slots Q (F0 m (pc + 3) ls rest)) : W p l e R s m args below meth c H locs cells slots Q (F0 m pc ls (.ref x :: .ref a :: rest)) := w_put hexec hb inX0 tyX0 tyX0_ok nmX0 rfl 0 (by decide) rfl rfl rfl hX hown he (Nat.le_of_ble_eq_true rfl) hlink (fun _ h => h) hdg kk
theorem gnX0_0 (hexec : p.tables.exec = Jvm.exec) (hb : c.code = cc) {own : String} {index : Nat} (hX : wX g A s H locs μ) (hown : s.vm.findClass own = some m.cls) {v0 v1 v2 v3 v4 v5 : Value} (he : μ a = some (.inr (1, [v0, v1, v2, v3, v4, v5]))) {host : String} (hlink : Cond.fieldLinkNest own index "FairyDust$Child" "wand" "LFairyDust$Wand;" host ∈ GW) (hdg : decode cc pc = .ok (.getfield index, 3)) (kk : W p l e R s m args below meth c H locs cells slots Q (F0 m (pc + 3) ls (v0 :: rest))) : W p l e R s m args below meth c H locs cells slots Q (F0 m pc ls (.ref a :: rest)) := w_getN hexec hb inX0 rfl 0 (by decide) hX hown he hlink (fun _ h => h) rfl hdg kk
theorem pnX0_0 (hexec : p.tables.exec = Jvm.exec) (hb : c.code = cc) {own : String} {index : Nat} (hX : wX g A s H locs μ) (hown : s.vm.findClass own = some m.cls) {v0 v1 v2 v3 v4 v5 : Value} (he : μ a = some (.inr (1, [v0, v1, v2, v3, v4, v5]))) {host : String} (hlink : Cond.fieldLinkNest own index "FairyDust$Child" "wand" "LFairyDust$Wand;" host ∈ GW) (hdg : decode cc pc = .ok (.putfield index, 3)) {x : Nat} (kk : ∀ (H1 : Heap) (locs1 : List Loc), wX g A s H1 locs1 (va_up μ a (some (.inr (1, [.ref x, v1, v2, v3, v4, v5])))) → W p l e R s m args below meth c H1 locs1 cells slots Q (F0 m (pc + 3) ls rest)) : W p l e R s m args below meth c H locs cells slots Q (F0 m pc ls (.ref x :: .ref a :: rest)) := w_putN hexec hb inX0 tyX0 tyX0_ok nmX0 rfl 0 (by decide) rfl rfl rfl hX hown he (Nat.le_of_ble_eq_true rfl) hlink (fun _ h => h) hdg kk
theorem gX0_1 (hexec : p.tables.exec = Jvm.exec) (hb : c.code = cc) {own : String} {index : Nat} (hX : wX g A s H locs μ) (hown : s.vm.findClass own = some m.cls) {v0 v1 v2 v3 v4 v5 : Value} (he : μ a = some (.inr (1, [v0, v1, v2, v3, v4, v5]))) (hlink : Cond.fieldLink own index "FairyDust$Child" "birthday" "I" ∈ GW) (hdg : decode cc pc = .ok (.getfield index, 3)) (kk : W p l e R s m args below meth c H locs cells slots Q (F0 m (pc + 3) ls (v1 :: rest))) : W p l e R s m args below meth c H locs cells slots Q (F0 m pc ls (.ref a :: rest)) := w_get hexec hb inX0 rfl 1 (by decide) hX hown he hlink (fun _ h => h) rfl hdg kk
theorem pX0_1 (hexec : p.tables.exec = Jvm.exec) (hb : c.code = cc) {own : String} {index : Nat} (hX : wX g A s H locs μ) (hown : s.vm.findClass own = some m.cls) {v0 v1 v2 v3 v4 v5 : Value} (he : μ a = some (.inr (1, [v0, v1, v2, v3, v4, v5]))) (hlink : Cond.fieldLink own index "FairyDust$Child" "birthday" "I" ∈ GW) (hdg : decode cc pc = .ok (.putfield index, 3)) {x : Int32} (kk : ∀ (H1 : Heap) (locs1 : List Loc), wX g A s H1 locs1 (va_up μ a (some (.inr (1, [v0, .int x, v2, v3, v4, v5])))) → W p l e R s m args below meth c H1 locs1 cells slots Q (F0 m (pc + 3) ls rest)) : W p l e R s m args below meth c H locs cells slots Q (F0 m pc ls (.int x :: .ref a :: rest)) := w_put hexec hb inX0 tyX0 tyX0_ok nmX0 rfl 1 (by decide) rfl rfl rfl hX hown he (Nat.le_of_ble_eq_true rfl) hlink (fun _ h => h) hdg kk
theorem gnX0_1 (hexec : p.tables.exec = Jvm.exec) (hb : c.code = cc) {own : String} {index : Nat} (hX : wX g A s H locs μ) (hown : s.vm.findClass own = some m.cls) {v0 v1 v2 v3 v4 v5 : Value} (he : μ a = some (.inr (1, [v0, v1, v2, v3, v4, v5]))) {host : String} (hlink : Cond.fieldLinkNest own index "FairyDust$Child" "birthday" "I" host ∈ GW) (hdg : decode cc pc = .ok (.getfield index, 3)) (kk : W p l e R s m args below meth c H locs cells slots Q (F0 m (pc + 3) ls (v1 :: rest))) : W p l e R s m args below meth c H locs cells slots Q (F0 m pc ls (.ref a :: rest)) := w_getN hexec hb inX0 rfl 1 (by decide) hX hown he hlink (fun _ h => h) rfl hdg kk
theorem pnX0_1 (hexec : p.tables.exec = Jvm.exec) (hb : c.code = cc) {own : String} {index : Nat} (hX : wX g A s H locs μ) (hown : s.vm.findClass own = some m.cls) {v0 v1 v2 v3 v4 v5 : Value} (he : μ a = some (.inr (1, [v0, v1, v2, v3, v4, v5]))) {host : String} (hlink : Cond.fieldLinkNest own index "FairyDust$Child" "birthday" "I" host ∈ GW) (hdg : decode cc pc = .ok (.putfield index, 3)) {x : Int32} (kk : ∀ (H1 : Heap) (locs1 : List Loc), wX g A s H1 locs1 (va_up μ a (some (.inr (1, [v0, .int x, v2, v3, v4, v5])))) → W p l e R s m args below meth c H1 locs1 cells slots Q (F0 m (pc + 3) ls rest)) : W p l e R s m args below meth c H locs cells slots Q (F0 m pc ls (.int x :: .ref a :: rest)) := w_putN hexec hb inX0 tyX0 tyX0_ok nmX0 rfl 1 (by decide) rfl rfl rfl hX hown he (Nat.le_of_ble_eq_true rfl) hlink (fun _ h => h) hdg kk
theorem gX0_2 (hexec : p.tables.exec = Jvm.exec) (hb : c.code = cc) {own : String} {index : Nat} (hX : wX g A s H locs μ) (hown : s.vm.findClass own = some m.cls) {v0 v1 v2 v3 v4 v5 : Value} (he : μ a = some (.inr (1, [v0, v1, v2, v3, v4, v5]))) (hlink : Cond.fieldLink own index "FairyDust$Child" "burst" "I" ∈ GW) (hdg : decode cc pc = .ok (.getfield index, 3)) (kk : W p l e R s m args below meth c H locs cells slots Q (F0 m (pc + 3) ls (v2 :: rest))) : W p l e R s m args below meth c H locs cells slots Q (F0 m pc ls (.ref a :: rest)) := w_get hexec hb inX0 rfl 2 (by decide) hX hown he hlink (fun _ h => h) rfl hdg kk
theorem pX0_2 (hexec : p.tables.exec = Jvm.exec) (hb : c.code = cc) {own : String} {index : Nat} (hX : wX g A s H locs μ) (hown : s.vm.findClass own = some m.cls) {v0 v1 v2 v3 v4 v5 : Value} (he : μ a = some (.inr (1, [v0, v1, v2, v3, v4, v5]))) (hlink : Cond.fieldLink own index "FairyDust$Child" "burst" "I" ∈ GW) (hdg : decode cc pc = .ok (.putfield index, 3)) {x : Int32} (kk : ∀ (H1 : Heap) (locs1 : List Loc), wX g A s H1 locs1 (va_up μ a (some (.inr (1, [v0, v1, .int x, v3, v4, v5])))) → W p l e R s m args below meth c H1 locs1 cells slots Q (F0 m (pc + 3) ls rest)) : W p l e R s m args below meth c H locs cells slots Q (F0 m pc ls (.int x :: .ref a :: rest)) := w_put hexec hb inX0 tyX0 tyX0_ok nmX0 rfl 2 (by decide) rfl rfl rfl hX hown he (Nat.le_of_ble_eq_true rfl) hlink (fun _ h => h) hdg kk
theorem gnX0_2 (hexec : p.tables.exec = Jvm.exec) (hb : c.code = cc) {own : String} {index : Nat} (hX : wX g A s H locs μ) (hown : s.vm.findClass own = some m.cls) {v0 v1 v2 v3 v4 v5 : Value} (he : μ a = some (.inr (1, [v0, v1, v2, v3, v4, v5]))) {host : String} (hlink : Cond.fieldLinkNest own index "FairyDust$Child" "burst" "I" host ∈ GW) (hdg : decode cc pc = .ok (.getfield index, 3)) (kk : W p l e R s m args below meth c H locs cells slots Q (F0 m (pc + 3) ls (v2 :: rest))) : W p l e R s m args below meth c H locs cells slots Q (F0 m pc ls (.ref a :: rest)) := w_getN hexec hb inX0 rfl 2 (by decide) hX hown he hlink (fun _ h => h) rfl hdg kk
theorem pnX0_2 (hexec : p.tables.exec = Jvm.exec) (hb : c.code = cc) {own : String} {index : Nat} (hX : wX g A s H locs μ) (hown : s.vm.findClass own = some m.cls) {v0 v1 v2 v3 v4 v5 : Value} (he : μ a = some (.inr (1, [v0, v1, v2, v3, v4, v5]))) {host : String} (hlink : Cond.fieldLinkNest own index "FairyDust$Child" "burst" "I" host ∈ GW) (hdg : decode cc pc = .ok (.putfield index, 3)) {x : Int32} (kk : ∀ (H1 : Heap) (locs1 : List Loc), wX g A s H1 locs1 (va_up μ a (some (.inr (1, [v0, v1, .int x, v3, v4, v5])))) → W p l e R s m args below meth c H1 locs1 cells slots Q (F0 m (pc + 3) ls rest)) : W p l e R s m args below meth c H locs cells slots Q (F0 m pc ls (.int x :: .ref a :: rest)) := w_putN hexec hb inX0 tyX0 tyX0_ok nmX0 rfl 2 (by decide) rfl rfl rfl hX hown he (Nat.le_of_ble_eq_true rfl) hlink (fun _ h => h) hdg kk
theorem gX0_3 (hexec : p.tables.exec = Jvm.exec) (hb : c.code = cc) {own : String} {index : Nat} (hX : wX g A s H locs μ) (hown : s.vm.findClass own = some m.cls) {v0 v1 v2 v3 v4 v5 : Value} (he : μ a = some (.inr (1, [v0, v1, v2, v3, v4, v5]))) (hlink : Cond.fieldLink own index "FairyDust$Child" "punishedHours" "I" ∈ GW) (hdg : decode cc pc = .ok (.getfield index, 3)) (kk : W p l e R s m args below meth c H locs cells slots Q (F0 m (pc + 3) ls (v3 :: rest))) : W p l e R s m args below meth c H locs cells slots Q (F0 m pc ls (.ref a :: rest)) := w_get hexec hb inX0 rfl 3 (by decide) hX hown he hlink (fun _ h => h) rfl hdg kk
theorem pX0_3 (hexec : p.tables.exec = Jvm.exec) (hb : c.code = cc) {own : String} {index : Nat} (hX : wX g A s H locs μ) (hown : s.vm.findClass own = some m.cls) {v0 v1 v2 v3 v4 v5 : Value} (he : μ a = some (.inr (1, [v0, v1, v2, v3, v4, v5]))) (hlink : Cond.fieldLink own index "FairyDust$Child" "punishedHours" "I" ∈ GW) (hdg : decode cc pc = .ok (.putfield index, 3)) {x : Int32} (kk : ∀ (H1 : Heap) (locs1 : List Loc), wX g A s H1 locs1 (va_up μ a (some (.inr (1, [v0, v1, v2, .int x, v4, v5])))) → W p l e R s m args below meth c H1 locs1 cells slots Q (F0 m (pc + 3) ls rest)) : W p l e R s m args below meth c H locs cells slots Q (F0 m pc ls (.int x :: .ref a :: rest)) := w_put hexec hb inX0 tyX0 tyX0_ok nmX0 rfl 3 (by decide) rfl rfl rfl hX hown he (Nat.le_of_ble_eq_true rfl) hlink (fun _ h => h) hdg kk
theorem gnX0_3 (hexec : p.tables.exec = Jvm.exec) (hb : c.code = cc) {own : String} {index : Nat} (hX : wX g A s H locs μ) (hown : s.vm.findClass own = some m.cls) {v0 v1 v2 v3 v4 v5 : Value} (he : μ a = some (.inr (1, [v0, v1, v2, v3, v4, v5]))) {host : String} (hlink : Cond.fieldLinkNest own index "FairyDust$Child" "punishedHours" "I" host ∈ GW) (hdg : decode cc pc = .ok (.getfield index, 3)) (kk : W p l e R s m args below meth c H locs cells slots Q (F0 m (pc + 3) ls (v3 :: rest))) : W p l e R s m args below meth c H locs cells slots Q (F0 m pc ls (.ref a :: rest)) := w_getN hexec hb inX0 rfl 3 (by decide) hX hown he hlink (fun _ h => h) rfl hdg kk
theorem pnX0_3 (hexec : p.tables.exec = Jvm.exec) (hb : c.code = cc) {own : String} {index : Nat} (hX : wX g A s H locs μ) (hown : s.vm.findClass own = some m.cls) {v0 v1 v2 v3 v4 v5 : Value} (he : μ a = some (.inr (1, [v0, v1, v2, v3, v4, v5]))) {host : String} (hlink : Cond.fieldLinkNest own index "FairyDust$Child" "punishedHours" "I" host ∈ GW) (hdg : decode cc pc = .ok (.putfield index, 3)) {x : Int32} (kk : ∀ (H1 : Heap) (locs1 : List Loc), wX g A s H1 locs1 (va_up μ a (some (.inr (1, [v0, v1, v2, .int x, v4, v5])))) → W p l e R s m args below meth c H1 locs1 cells slots Q (F0 m (pc + 3) ls rest)) : W p l e R s m args below meth c H locs cells slots Q (F0 m pc ls (.int x :: .ref a :: rest)) := w_putN hexec hb inX0 tyX0 tyX0_ok nmX0 rfl 3 (by decide) rfl rfl rfl hX hown he (Nat.le_of_ble_eq_true rfl) hlink (fun _ h => h) hdg kk
theorem gX0_4 (hexec : p.tables.exec = Jvm.exec) (hb : c.code = cc) {own : String} {index : Nat} (hX : wX g A s H locs μ) (hown : s.vm.findClass own = some m.cls) {v0 v1 v2 v3 v4 v5 : Value} (he : μ a = some (.inr (1, [v0, v1, v2, v3, v4, v5]))) (hlink : Cond.fieldLink own index "FairyDust$Child" "marks" "I" ∈ GW) (hdg : decode cc pc = .ok (.getfield index, 3)) (kk : W p l e R s m args below meth c H locs cells slots Q (F0 m (pc + 3) ls (v4 :: rest))) : W p l e R s m args below meth c H locs cells slots Q (F0 m pc ls (.ref a :: rest)) := w_get hexec hb inX0 rfl 4 (by decide) hX hown he hlink (fun _ h => h) rfl hdg kk
theorem pX0_4 (hexec : p.tables.exec = Jvm.exec) (hb : c.code = cc) {own : String} {index : Nat} (hX : wX g A s H locs μ) (hown : s.vm.findClass own = some m.cls) {v0 v1 v2 v3 v4 v5 : Value} (he : μ a = some (.inr (1, [v0, v1, v2, v3, v4, v5]))) (hlink : Cond.fieldLink own index "FairyDust$Child" "marks" "I" ∈ GW) (hdg : decode cc pc = .ok (.putfield index, 3)) {x : Int32} (kk : ∀ (H1 : Heap) (locs1 : List Loc), wX g A s H1 locs1 (va_up μ a (some (.inr (1, [v0, v1, v2, v3, .int x, v5])))) → W p l e R s m args below meth c H1 locs1 cells slots Q (F0 m (pc + 3) ls rest)) : W p l e R s m args below meth c H locs cells slots Q (F0 m pc ls (.int x :: .ref a :: rest)) := w_put hexec hb inX0 tyX0 tyX0_ok nmX0 rfl 4 (by decide) rfl rfl rfl hX hown he (Nat.le_of_ble_eq_true rfl) hlink (fun _ h => h) hdg kk
theorem gnX0_4 (hexec : p.tables.exec = Jvm.exec) (hb : c.code = cc) {own : String} {index : Nat} (hX : wX g A s H locs μ) (hown : s.vm.findClass own = some m.cls) {v0 v1 v2 v3 v4 v5 : Value} (he : μ a = some (.inr (1, [v0, v1, v2, v3, v4, v5]))) {host : String} (hlink : Cond.fieldLinkNest own index "FairyDust$Child" "marks" "I" host ∈ GW) (hdg : decode cc pc = .ok (.getfield index, 3)) (kk : W p l e R s m args below meth c H locs cells slots Q (F0 m (pc + 3) ls (v4 :: rest))) : W p l e R s m args below meth c H locs cells slots Q (F0 m pc ls (.ref a :: rest)) := w_getN hexec hb inX0 rfl 4 (by decide) hX hown he hlink (fun _ h => h) rfl hdg kk
theorem pnX0_4 (hexec : p.tables.exec = Jvm.exec) (hb : c.code = cc) {own : String} {index : Nat} (hX : wX g A s H locs μ) (hown : s.vm.findClass own = some m.cls) {v0 v1 v2 v3 v4 v5 : Value} (he : μ a = some (.inr (1, [v0, v1, v2, v3, v4, v5]))) {host : String} (hlink : Cond.fieldLinkNest own index "FairyDust$Child" "marks" "I" host ∈ GW) (hdg : decode cc pc = .ok (.putfield index, 3)) {x : Int32} (kk : ∀ (H1 : Heap) (locs1 : List Loc), wX g A s H1 locs1 (va_up μ a (some (.inr (1, [v0, v1, v2, v3, .int x, v5])))) → W p l e R s m args below meth c H1 locs1 cells slots Q (F0 m (pc + 3) ls rest)) : W p l e R s m args below meth c H locs cells slots Q (F0 m pc ls (.int x :: .ref a :: rest)) := w_putN hexec hb inX0 tyX0 tyX0_ok nmX0 rfl 4 (by decide) rfl rfl rfl hX hown he (Nat.le_of_ble_eq_true rfl) hlink (fun _ h => h) hdg kk
theorem gX0_5 (hexec : p.tables.exec = Jvm.exec) (hb : c.code = cc) {own : String} {index : Nat} (hX : wX g A s H locs μ) (hown : s.vm.findClass own = some m.cls) {v0 v1 v2 v3 v4 v5 : Value} (he : μ a = some (.inr (1, [v0, v1, v2, v3, v4, v5]))) (hlink : Cond.fieldLink own index "FairyDust$Child" "punishment" "I" ∈ GW) (hdg : decode cc pc = .ok (.getfield index, 3)) (kk : W p l e R s m args below meth c H locs cells slots Q (F0 m (pc + 3) ls (v5 :: rest))) : W p l e R s m args below meth c H locs cells slots Q (F0 m pc ls (.ref a :: rest)) := w_get hexec hb inX0 rfl 5 (by decide) hX hown he hlink (fun _ h => h) rfl hdg kk
theorem pX0_5 (hexec : p.tables.exec = Jvm.exec) (hb : c.code = cc) {own : String} {index : Nat} (hX : wX g A s H locs μ) (hown : s.vm.findClass own = some m.cls) {v0 v1 v2 v3 v4 v5 : Value} (he : μ a = some (.inr (1, [v0, v1, v2, v3, v4, v5]))) (hlink : Cond.fieldLink own index "FairyDust$Child" "punishment" "I" ∈ GW) (hdg : decode cc pc = .ok (.putfield index, 3)) {x : Int32} (kk : ∀ (H1 : Heap) (locs1 : List Loc), wX g A s H1 locs1 (va_up μ a (some (.inr (1, [v0, v1, v2, v3, v4, .int x])))) → W p l e R s m args below meth c H1 locs1 cells slots Q (F0 m (pc + 3) ls rest)) : W p l e R s m args below meth c H locs cells slots Q (F0 m pc ls (.int x :: .ref a :: rest)) := w_put hexec hb inX0 tyX0 tyX0_ok nmX0 rfl 5 (by decide) rfl rfl rfl hX hown he (Nat.le_of_ble_eq_true rfl) hlink (fun _ h => h) hdg kk
theorem gnX0_5 (hexec : p.tables.exec = Jvm.exec) (hb : c.code = cc) {own : String} {index : Nat} (hX : wX g A s H locs μ) (hown : s.vm.findClass own = some m.cls) {v0 v1 v2 v3 v4 v5 : Value} (he : μ a = some (.inr (1, [v0, v1, v2, v3, v4, v5]))) {host : String} (hlink : Cond.fieldLinkNest own index "FairyDust$Child" "punishment" "I" host ∈ GW) (hdg : decode cc pc = .ok (.getfield index, 3)) (kk : W p l e R s m args below meth c H locs cells slots Q (F0 m (pc + 3) ls (v5 :: rest))) : W p l e R s m args below meth c H locs cells slots Q (F0 m pc ls (.ref a :: rest)) := w_getN hexec hb inX0 rfl 5 (by decide) hX hown he hlink (fun _ h => h) rfl hdg kk
theorem pnX0_5 (hexec : p.tables.exec = Jvm.exec) (hb : c.code = cc) {own : String} {index : Nat} (hX : wX g A s H locs μ) (hown : s.vm.findClass own = some m.cls) {v0 v1 v2 v3 v4 v5 : Value} (he : μ a = some (.inr (1, [v0, v1, v2, v3, v4, v5]))) {host : String} (hlink : Cond.fieldLinkNest own index "FairyDust$Child" "punishment" "I" host ∈ GW) (hdg : decode cc pc = .ok (.putfield index, 3)) {x : Int32} (kk : ∀ (H1 : Heap) (locs1 : List Loc), wX g A s H1 locs1 (va_up μ a (some (.inr (1, [v0, v1, v2, v3, v4, .int x])))) → W p l e R s m args below meth c H1 locs1 cells slots Q (F0 m (pc + 3) ls rest)) : W p l e R s m args below meth c H locs cells slots Q (F0 m pc ls (.int x :: .ref a :: rest)) := w_putN hexec hb inX0 tyX0 tyX0_ok nmX0 rfl 5 (by decide) rfl rfl rfl hX hown he (Nat.le_of_ble_eq_true rfl) hlink (fun _ h => h) hdg kk
theorem inX1 : ∀ w ∈ u_ws RX1 TX1 4, w ∈ GW := by decide +kernel
theorem gX1_0 (hexec : p.tables.exec = Jvm.exec) (hb : c.code = cc) {own : String} {index : Nat} (hX : wX g A s H locs μ) (hown : s.vm.findClass own = some m.cls) {v0 v1 v2 v3 : Value} (he : μ a = some (.inr (2, [v0, v1, v2, v3]))) (hlink : Cond.fieldLink own index "FairyDust$Wand" "number" "I" ∈ GW) (hdg : decode cc pc = .ok (.getfield index, 3)) (kk : W p l e R s m args below meth c H locs cells slots Q (F0 m (pc + 3) ls (v0 :: rest))) : W p l e R s m args below meth c H locs cells slots Q (F0 m pc ls (.ref a :: rest)) := w_get hexec hb inX1 rfl 0 (by decide) hX hown he hlink (fun _ h => h) rfl hdg kk
theorem pX1_0 (hexec : p.tables.exec = Jvm.exec) (hb : c.code = cc) {own : String} {index : Nat} (hX : wX g A s H locs μ) (hown : s.vm.findClass own = some m.cls) {v0 v1 v2 v3 : Value} (he : μ a = some (.inr (2, [v0, v1, v2, v3]))) (hlink : Cond.fieldLink own index "FairyDust$Wand" "number" "I" ∈ GW) (hdg : decode cc pc = .ok (.putfield index, 3)) {x : Int32} (kk : ∀ (H1 : Heap) (locs1 : List Loc), wX g A s H1 locs1 (va_up μ a (some (.inr (2, [.int x, v1, v2, v3])))) → W p l e R s m args below meth c H1 locs1 cells slots Q (F0 m (pc + 3) ls rest)) : W p l e R s m args below meth c H locs cells slots Q (F0 m pc ls (.int x :: .ref a :: rest)) := w_put hexec hb inX1 tyX1 tyX1_ok nmX1 rfl 0 (by decide) rfl rfl rfl hX hown he (Nat.le_of_ble_eq_true rfl) hlink (fun _ h => h) hdg kk
theorem gnX1_0 (hexec : p.tables.exec = Jvm.exec) (hb : c.code = cc) {own : String} {index : Nat} (hX : wX g A s H locs μ) (hown : s.vm.findClass own = some m.cls) {v0 v1 v2 v3 : Value} (he : μ a = some (.inr (2, [v0, v1, v2, v3]))) {host : String} (hlink : Cond.fieldLinkNest own index "FairyDust$Wand" "number" "I" host ∈ GW) (hdg : decode cc pc = .ok (.getfield index, 3)) (kk : W p l e R s m args below meth c H locs cells slots Q (F0 m (pc + 3) ls (v0 :: rest))) : W p l e R s m args below meth c H locs cells slots Q (F0 m pc ls (.ref a :: rest)) := w_getN hexec hb inX1 rfl 0 (by decide) hX hown he hlink (fun _ h => h) rfl hdg kk
theorem pnX1_0 (hexec : p.tables.exec = Jvm.exec) (hb : c.code = cc) {own : String} {index : Nat} (hX : wX g A s H locs μ) (hown : s.vm.findClass own = some m.cls) {v0 v1 v2 v3 : Value} (he : μ a = some (.inr (2, [v0, v1, v2, v3]))) {host : String} (hlink : Cond.fieldLinkNest own index "FairyDust$Wand" "number" "I" host ∈ GW) (hdg : decode cc pc = .ok (.putfield index, 3)) {x : Int32} (kk : ∀ (H1 : Heap) (locs1 : List Loc), wX g A s H1 locs1 (va_up μ a (some (.inr (2, [.int x, v1, v2, v3])))) → W p l e R s m args below meth c H1 locs1 cells slots Q (F0 m (pc + 3) ls rest)) : W p l e R s m args below meth c H locs cells slots Q (F0 m pc ls (.int x :: .ref a :: rest)) := w_putN hexec hb inX1 tyX1 tyX1_ok nmX1 rfl 0 (by decide) rfl rfl rfl hX hown he (Nat.le_of_ble_eq_true rfl) hlink (fun _ h => h) hdg kk
theorem gX1_1 (hexec : p.tables.exec = Jvm.exec) (hb : c.code = cc) {own : String} {index : Nat} (hX : wX g A s H locs μ) (hown : s.vm.findClass own = some m.cls) {v0 v1 v2 v3 : Value} (he : μ a = some (.inr (2, [v0, v1, v2, v3]))) (hlink : Cond.fieldLink own index "FairyDust$Wand" "room" "I" ∈ GW) (hdg : decode cc pc = .ok (.getfield index, 3)) (kk : W p l e R s m args below meth c H locs cells slots Q (F0 m (pc + 3) ls (v1 :: rest))) : W p l e R s m args below meth c H locs cells slots Q (F0 m pc ls (.ref a :: rest)) := w_get hexec hb inX1 rfl 1 (by decide) hX hown he hlink (fun _ h => h) rfl hdg kk
theorem pX1_1 (hexec : p.tables.exec = Jvm.exec) (hb : c.code = cc) {own : String} {index : Nat} (hX : wX g A s H locs μ) (hown : s.vm.findClass own = some m.cls) {v0 v1 v2 v3 : Value} (he : μ a = some (.inr (2, [v0, v1, v2, v3]))) (hlink : Cond.fieldLink own index "FairyDust$Wand" "room" "I" ∈ GW) (hdg : decode cc pc = .ok (.putfield index, 3)) {x : Int32} (kk : ∀ (H1 : Heap) (locs1 : List Loc), wX g A s H1 locs1 (va_up μ a (some (.inr (2, [v0, .int x, v2, v3])))) → W p l e R s m args below meth c H1 locs1 cells slots Q (F0 m (pc + 3) ls rest)) : W p l e R s m args below meth c H locs cells slots Q (F0 m pc ls (.int x :: .ref a :: rest)) := w_put hexec hb inX1 tyX1 tyX1_ok nmX1 rfl 1 (by decide) rfl rfl rfl hX hown he (Nat.le_of_ble_eq_true rfl) hlink (fun _ h => h) hdg kk
theorem gnX1_1 (hexec : p.tables.exec = Jvm.exec) (hb : c.code = cc) {own : String} {index : Nat} (hX : wX g A s H locs μ) (hown : s.vm.findClass own = some m.cls) {v0 v1 v2 v3 : Value} (he : μ a = some (.inr (2, [v0, v1, v2, v3]))) {host : String} (hlink : Cond.fieldLinkNest own index "FairyDust$Wand" "room" "I" host ∈ GW) (hdg : decode cc pc = .ok (.getfield index, 3)) (kk : W p l e R s m args below meth c H locs cells slots Q (F0 m (pc + 3) ls (v1 :: rest))) : W p l e R s m args below meth c H locs cells slots Q (F0 m pc ls (.ref a :: rest)) := w_getN hexec hb inX1 rfl 1 (by decide) hX hown he hlink (fun _ h => h) rfl hdg kk
theorem pnX1_1 (hexec : p.tables.exec = Jvm.exec) (hb : c.code = cc) {own : String} {index : Nat} (hX : wX g A s H locs μ) (hown : s.vm.findClass own = some m.cls) {v0 v1 v2 v3 : Value} (he : μ a = some (.inr (2, [v0, v1, v2, v3]))) {host : String} (hlink : Cond.fieldLinkNest own index "FairyDust$Wand" "room" "I" host ∈ GW) (hdg : decode cc pc = .ok (.putfield index, 3)) {x : Int32} (kk : ∀ (H1 : Heap) (locs1 : List Loc), wX g A s H1 locs1 (va_up μ a (some (.inr (2, [v0, .int x, v2, v3])))) → W p l e R s m args below meth c H1 locs1 cells slots Q (F0 m (pc + 3) ls rest)) : W p l e R s m args below meth c H locs cells slots Q (F0 m pc ls (.int x :: .ref a :: rest)) := w_putN hexec hb inX1 tyX1 tyX1_ok nmX1 rfl 1 (by decide) rfl rfl rfl hX hown he (Nat.le_of_ble_eq_true rfl) hlink (fun _ h => h) hdg kk
theorem gX1_2 (hexec : p.tables.exec = Jvm.exec) (hb : c.code = cc) {own : String} {index : Nat} (hX : wX g A s H locs μ) (hown : s.vm.findClass own = some m.cls) {v0 v1 v2 v3 : Value} (he : μ a = some (.inr (2, [v0, v1, v2, v3]))) (hlink : Cond.fieldLink own index "FairyDust$Wand" "falls" "I" ∈ GW) (hdg : decode cc pc = .ok (.getfield index, 3)) (kk : W p l e R s m args below meth c H locs cells slots Q (F0 m (pc + 3) ls (v2 :: rest))) : W p l e R s m args below meth c H locs cells slots Q (F0 m pc ls (.ref a :: rest)) := w_get hexec hb inX1 rfl 2 (by decide) hX hown he hlink (fun _ h => h) rfl hdg kk
theorem pX1_2 (hexec : p.tables.exec = Jvm.exec) (hb : c.code = cc) {own : String} {index : Nat} (hX : wX g A s H locs μ) (hown : s.vm.findClass own = some m.cls) {v0 v1 v2 v3 : Value} (he : μ a = some (.inr (2, [v0, v1, v2, v3]))) (hlink : Cond.fieldLink own index "FairyDust$Wand" "falls" "I" ∈ GW) (hdg : decode cc pc = .ok (.putfield index, 3)) {x : Int32} (kk : ∀ (H1 : Heap) (locs1 : List Loc), wX g A s H1 locs1 (va_up μ a (some (.inr (2, [v0, v1, .int x, v3])))) → W p l e R s m args below meth c H1 locs1 cells slots Q (F0 m (pc + 3) ls rest)) : W p l e R s m args below meth c H locs cells slots Q (F0 m pc ls (.int x :: .ref a :: rest)) := w_put hexec hb inX1 tyX1 tyX1_ok nmX1 rfl 2 (by decide) rfl rfl rfl hX hown he (Nat.le_of_ble_eq_true rfl) hlink (fun _ h => h) hdg kk
theorem gnX1_2 (hexec : p.tables.exec = Jvm.exec) (hb : c.code = cc) {own : String} {index : Nat} (hX : wX g A s H locs μ) (hown : s.vm.findClass own = some m.cls) {v0 v1 v2 v3 : Value} (he : μ a = some (.inr (2, [v0, v1, v2, v3]))) {host : String} (hlink : Cond.fieldLinkNest own index "FairyDust$Wand" "falls" "I" host ∈ GW) (hdg : decode cc pc = .ok (.getfield index, 3)) (kk : W p l e R s m args below meth c H locs cells slots Q (F0 m (pc + 3) ls (v2 :: rest))) : W p l e R s m args below meth c H locs cells slots Q (F0 m pc ls (.ref a :: rest)) := w_getN hexec hb inX1 rfl 2 (by decide) hX hown he hlink (fun _ h => h) rfl hdg kk
theorem pnX1_2 (hexec : p.tables.exec = Jvm.exec) (hb : c.code = cc) {own : String} {index : Nat} (hX : wX g A s H locs μ) (hown : s.vm.findClass own = some m.cls) {v0 v1 v2 v3 : Value} (he : μ a = some (.inr (2, [v0, v1, v2, v3]))) {host : String} (hlink : Cond.fieldLinkNest own index "FairyDust$Wand" "falls" "I" host ∈ GW) (hdg : decode cc pc = .ok (.putfield index, 3)) {x : Int32} (kk : ∀ (H1 : Heap) (locs1 : List Loc), wX g A s H1 locs1 (va_up μ a (some (.inr (2, [v0, v1, .int x, v3])))) → W p l e R s m args below meth c H1 locs1 cells slots Q (F0 m (pc + 3) ls rest)) : W p l e R s m args below meth c H locs cells slots Q (F0 m pc ls (.int x :: .ref a :: rest)) := w_putN hexec hb inX1 tyX1 tyX1_ok nmX1 rfl 2 (by decide) rfl rfl rfl hX hown he (Nat.le_of_ble_eq_true rfl) hlink (fun _ h => h) hdg kk
theorem gX1_3 (hexec : p.tables.exec = Jvm.exec) (hb : c.code = cc) {own : String} {index : Nat} (hX : wX g A s H locs μ) (hown : s.vm.findClass own = some m.cls) {v0 v1 v2 v3 : Value} (he : μ a = some (.inr (2, [v0, v1, v2, v3]))) (hlink : Cond.fieldLink own index "FairyDust$Wand" "dust" "I" ∈ GW) (hdg : decode cc pc = .ok (.getfield index, 3)) (kk : W p l e R s m args below meth c H locs cells slots Q (F0 m (pc + 3) ls (v3 :: rest))) : W p l e R s m args below meth c H locs cells slots Q (F0 m pc ls (.ref a :: rest)) := w_get hexec hb inX1 rfl 3 (by decide) hX hown he hlink (fun _ h => h) rfl hdg kk
theorem pX1_3 (hexec : p.tables.exec = Jvm.exec) (hb : c.code = cc) {own : String} {index : Nat} (hX : wX g A s H locs μ) (hown : s.vm.findClass own = some m.cls) {v0 v1 v2 v3 : Value} (he : μ a = some (.inr (2, [v0, v1, v2, v3]))) (hlink : Cond.fieldLink own index "FairyDust$Wand" "dust" "I" ∈ GW) (hdg : decode cc pc = .ok (.putfield index, 3)) {x : Int32} (kk : ∀ (H1 : Heap) (locs1 : List Loc), wX g A s H1 locs1 (va_up μ a (some (.inr (2, [v0, v1, v2, .int x])))) → W p l e R s m args below meth c H1 locs1 cells slots Q (F0 m (pc + 3) ls rest)) : W p l e R s m args below meth c H locs cells slots Q (F0 m pc ls (.int x :: .ref a :: rest)) := w_put hexec hb inX1 tyX1 tyX1_ok nmX1 rfl 3 (by decide) rfl rfl rfl hX hown he (Nat.le_of_ble_eq_true rfl) hlink (fun _ h => h) hdg kk
theorem gnX1_3 (hexec : p.tables.exec = Jvm.exec) (hb : c.code = cc) {own : String} {index : Nat} (hX : wX g A s H locs μ) (hown : s.vm.findClass own = some m.cls) {v0 v1 v2 v3 : Value} (he : μ a = some (.inr (2, [v0, v1, v2, v3]))) {host : String} (hlink : Cond.fieldLinkNest own index "FairyDust$Wand" "dust" "I" host ∈ GW) (hdg : decode cc pc = .ok (.getfield index, 3)) (kk : W p l e R s m args below meth c H locs cells slots Q (F0 m (pc + 3) ls (v3 :: rest))) : W p l e R s m args below meth c H locs cells slots Q (F0 m pc ls (.ref a :: rest)) := w_getN hexec hb inX1 rfl 3 (by decide) hX hown he hlink (fun _ h => h) rfl hdg kk
theorem pnX1_3 (hexec : p.tables.exec = Jvm.exec) (hb : c.code = cc) {own : String} {index : Nat} (hX : wX g A s H locs μ) (hown : s.vm.findClass own = some m.cls) {v0 v1 v2 v3 : Value} (he : μ a = some (.inr (2, [v0, v1, v2, v3]))) {host : String} (hlink : Cond.fieldLinkNest own index "FairyDust$Wand" "dust" "I" host ∈ GW) (hdg : decode cc pc = .ok (.putfield index, 3)) {x : Int32} (kk : ∀ (H1 : Heap) (locs1 : List Loc), wX g A s H1 locs1 (va_up μ a (some (.inr (2, [v0, v1, v2, .int x])))) → W p l e R s m args below meth c H1 locs1 cells slots Q (F0 m (pc + 3) ls rest)) : W p l e R s m args below meth c H locs cells slots Q (F0 m pc ls (.int x :: .ref a :: rest)) := w_putN hexec hb inX1 tyX1 tyX1_ok nmX1 rfl 3 (by decide) rfl rfl rfl hX hown he (Nat.le_of_ble_eq_true rfl) hlink (fun _ h => h) hdg kk
theorem inX2 : ∀ w ∈ u_ws RX2 TX2 7, w ∈ GW := by decide +kernel
theorem gX2_0 (hexec : p.tables.exec = Jvm.exec) (hb : c.code = cc) {own : String} {index : Nat} (hX : wX g A s H locs μ) (hown : s.vm.findClass own = some m.cls) {v0 v1 v2 v3 v4 v5 v6 : Value} (he : μ a = some (.inr (3, [v0, v1, v2, v3, v4, v5, v6]))) (hlink : Cond.fieldLink own index "FairyDust" "wands" "Ljava/util/ArrayList;" ∈ GW) (hdg : decode cc pc = .ok (.getfield index, 3)) (kk : W p l e R s m args below meth c H locs cells slots Q (F0 m (pc + 3) ls (v0 :: rest))) : W p l e R s m args below meth c H locs cells slots Q (F0 m pc ls (.ref a :: rest)) := w_get hexec hb inX2 rfl 0 (by decide) hX hown he hlink (fun _ h => h) rfl hdg kk
theorem pX2_0 (hexec : p.tables.exec = Jvm.exec) (hb : c.code = cc) {index : Nat} (hin2 : meth.name = "<init>") (hX : wX g A s H locs μ) (hown : s.vm.findClass RX2 = some m.cls) {v0 v1 v2 v3 v4 v5 v6 : Value} (he : μ a = some (.inr (3, [v0, v1, v2, v3, v4, v5, v6]))) (hlink : Cond.fieldLink RX2 index "FairyDust" "wands" "Ljava/util/ArrayList;" ∈ GW) (hdg : decode cc pc = .ok (.putfield index, 3)) {x : Nat} (kk : ∀ (H1 : Heap) (locs1 : List Loc), wX g A s H1 locs1 (va_up μ a (some (.inr (3, [.ref x, v1, v2, v3, v4, v5, v6])))) → W p l e R s m args below meth c H1 locs1 cells slots Q (F0 m (pc + 3) ls rest)) : W p l e R s m args below meth c H locs cells slots Q (F0 m pc ls (.ref x :: .ref a :: rest)) := w_putF hexec hb inX2 tyX2 tyX2_ok nmX2 rfl 0 (by decide) rfl hin2 rfl rfl rfl hX hown he (Nat.le_of_ble_eq_true rfl) hlink (fun _ h => h) hdg kk
theorem gX2_1 (hexec : p.tables.exec = Jvm.exec) (hb : c.code = cc) {own : String} {index : Nat} (hX : wX g A s H locs μ) (hown : s.vm.findClass own = some m.cls) {v0 v1 v2 v3 v4 v5 v6 : Value} (he : μ a = some (.inr (3, [v0, v1, v2, v3, v4, v5, v6]))) (hlink : Cond.fieldLink own index "FairyDust" "children" "Ljava/util/ArrayList;" ∈ GW) (hdg : decode cc pc = .ok (.getfield index, 3)) (kk : W p l e R s m args below meth c H locs cells slots Q (F0 m (pc + 3) ls (v1 :: rest))) : W p l e R s m args below meth c H locs cells slots Q (F0 m pc ls (.ref a :: rest)) := w_get hexec hb inX2 rfl 1 (by decide) hX hown he hlink (fun _ h => h) rfl hdg kk
theorem pX2_1 (hexec : p.tables.exec = Jvm.exec) (hb : c.code = cc) {index : Nat} (hin2 : meth.name = "<init>") (hX : wX g A s H locs μ) (hown : s.vm.findClass RX2 = some m.cls) {v0 v1 v2 v3 v4 v5 v6 : Value} (he : μ a = some (.inr (3, [v0, v1, v2, v3, v4, v5, v6]))) (hlink : Cond.fieldLink RX2 index "FairyDust" "children" "Ljava/util/ArrayList;" ∈ GW) (hdg : decode cc pc = .ok (.putfield index, 3)) {x : Nat} (kk : ∀ (H1 : Heap) (locs1 : List Loc), wX g A s H1 locs1 (va_up μ a (some (.inr (3, [v0, .ref x, v2, v3, v4, v5, v6])))) → W p l e R s m args below meth c H1 locs1 cells slots Q (F0 m (pc + 3) ls rest)) : W p l e R s m args below meth c H locs cells slots Q (F0 m pc ls (.ref x :: .ref a :: rest)) := w_putF hexec hb inX2 tyX2 tyX2_ok nmX2 rfl 1 (by decide) rfl hin2 rfl rfl rfl hX hown he (Nat.le_of_ble_eq_true rfl) hlink (fun _ h => h) hdg kk
theorem gX2_2 (hexec : p.tables.exec = Jvm.exec) (hb : c.code = cc) {own : String} {index : Nat} (hX : wX g A s H locs μ) (hown : s.vm.findClass own = some m.cls) {v0 v1 v2 v3 v4 v5 v6 : Value} (he : μ a = some (.inr (3, [v0, v1, v2, v3, v4, v5, v6]))) (hlink : Cond.fieldLink own index "FairyDust" "trialWand" "LFairyDust$Wand;" ∈ GW) (hdg : decode cc pc = .ok (.getfield index, 3)) (kk : W p l e R s m args below meth c H locs cells slots Q (F0 m (pc + 3) ls (v2 :: rest))) : W p l e R s m args below meth c H locs cells slots Q (F0 m pc ls (.ref a :: rest)) := w_get hexec hb inX2 rfl 2 (by decide) hX hown he hlink (fun _ h => h) rfl hdg kk
theorem pX2_2 (hexec : p.tables.exec = Jvm.exec) (hb : c.code = cc) {index : Nat} (hin2 : meth.name = "<init>") (hX : wX g A s H locs μ) (hown : s.vm.findClass RX2 = some m.cls) {v0 v1 v2 v3 v4 v5 v6 : Value} (he : μ a = some (.inr (3, [v0, v1, v2, v3, v4, v5, v6]))) (hlink : Cond.fieldLink RX2 index "FairyDust" "trialWand" "LFairyDust$Wand;" ∈ GW) (hdg : decode cc pc = .ok (.putfield index, 3)) {x : Nat} (kk : ∀ (H1 : Heap) (locs1 : List Loc), wX g A s H1 locs1 (va_up μ a (some (.inr (3, [v0, v1, .ref x, v3, v4, v5, v6])))) → W p l e R s m args below meth c H1 locs1 cells slots Q (F0 m (pc + 3) ls rest)) : W p l e R s m args below meth c H locs cells slots Q (F0 m pc ls (.ref x :: .ref a :: rest)) := w_putF hexec hb inX2 tyX2 tyX2_ok nmX2 rfl 2 (by decide) rfl hin2 rfl rfl rfl hX hown he (Nat.le_of_ble_eq_true rfl) hlink (fun _ h => h) hdg kk
theorem gX2_3 (hexec : p.tables.exec = Jvm.exec) (hb : c.code = cc) {own : String} {index : Nat} (hX : wX g A s H locs μ) (hown : s.vm.findClass own = some m.cls) {v0 v1 v2 v3 v4 v5 v6 : Value} (he : μ a = some (.inr (3, [v0, v1, v2, v3, v4, v5, v6]))) (hlink : Cond.fieldLink own index "FairyDust" "trialChild" "LFairyDust$Child;" ∈ GW) (hdg : decode cc pc = .ok (.getfield index, 3)) (kk : W p l e R s m args below meth c H locs cells slots Q (F0 m (pc + 3) ls (v3 :: rest))) : W p l e R s m args below meth c H locs cells slots Q (F0 m pc ls (.ref a :: rest)) := w_get hexec hb inX2 rfl 3 (by decide) hX hown he hlink (fun _ h => h) rfl hdg kk
theorem pX2_3 (hexec : p.tables.exec = Jvm.exec) (hb : c.code = cc) {index : Nat} (hin2 : meth.name = "<init>") (hX : wX g A s H locs μ) (hown : s.vm.findClass RX2 = some m.cls) {v0 v1 v2 v3 v4 v5 v6 : Value} (he : μ a = some (.inr (3, [v0, v1, v2, v3, v4, v5, v6]))) (hlink : Cond.fieldLink RX2 index "FairyDust" "trialChild" "LFairyDust$Child;" ∈ GW) (hdg : decode cc pc = .ok (.putfield index, 3)) {x : Nat} (kk : ∀ (H1 : Heap) (locs1 : List Loc), wX g A s H1 locs1 (va_up μ a (some (.inr (3, [v0, v1, v2, .ref x, v4, v5, v6])))) → W p l e R s m args below meth c H1 locs1 cells slots Q (F0 m (pc + 3) ls rest)) : W p l e R s m args below meth c H locs cells slots Q (F0 m pc ls (.ref x :: .ref a :: rest)) := w_putF hexec hb inX2 tyX2 tyX2_ok nmX2 rfl 3 (by decide) rfl hin2 rfl rfl rfl hX hown he (Nat.le_of_ble_eq_true rfl) hlink (fun _ h => h) hdg kk
theorem gX2_4 (hexec : p.tables.exec = Jvm.exec) (hb : c.code = cc) {own : String} {index : Nat} (hX : wX g A s H locs μ) (hown : s.vm.findClass own = some m.cls) {v0 v1 v2 v3 v4 v5 v6 : Value} (he : μ a = some (.inr (3, [v0, v1, v2, v3, v4, v5, v6]))) (hlink : Cond.fieldLink own index "FairyDust" "hour" "I" ∈ GW) (hdg : decode cc pc = .ok (.getfield index, 3)) (kk : W p l e R s m args below meth c H locs cells slots Q (F0 m (pc + 3) ls (v4 :: rest))) : W p l e R s m args below meth c H locs cells slots Q (F0 m pc ls (.ref a :: rest)) := w_get hexec hb inX2 rfl 4 (by decide) hX hown he hlink (fun _ h => h) rfl hdg kk
theorem pX2_4 (hexec : p.tables.exec = Jvm.exec) (hb : c.code = cc) {own : String} {index : Nat} (hX : wX g A s H locs μ) (hown : s.vm.findClass own = some m.cls) {v0 v1 v2 v3 v4 v5 v6 : Value} (he : μ a = some (.inr (3, [v0, v1, v2, v3, v4, v5, v6]))) (hlink : Cond.fieldLink own index "FairyDust" "hour" "I" ∈ GW) (hdg : decode cc pc = .ok (.putfield index, 3)) {x : Int32} (kk : ∀ (H1 : Heap) (locs1 : List Loc), wX g A s H1 locs1 (va_up μ a (some (.inr (3, [v0, v1, v2, v3, .int x, v5, v6])))) → W p l e R s m args below meth c H1 locs1 cells slots Q (F0 m (pc + 3) ls rest)) : W p l e R s m args below meth c H locs cells slots Q (F0 m pc ls (.int x :: .ref a :: rest)) := w_put hexec hb inX2 tyX2 tyX2_ok nmX2 rfl 4 (by decide) rfl rfl rfl hX hown he (Nat.le_of_ble_eq_true rfl) hlink (fun _ h => h) hdg kk
theorem gX2_5 (hexec : p.tables.exec = Jvm.exec) (hb : c.code = cc) {own : String} {index : Nat} (hX : wX g A s H locs μ) (hown : s.vm.findClass own = some m.cls) {v0 v1 v2 v3 v4 v5 v6 : Value} (he : μ a = some (.inr (3, [v0, v1, v2, v3, v4, v5, v6]))) (hlink : Cond.fieldLink own index "FairyDust" "granted" "I" ∈ GW) (hdg : decode cc pc = .ok (.getfield index, 3)) (kk : W p l e R s m args below meth c H locs cells slots Q (F0 m (pc + 3) ls (v5 :: rest))) : W p l e R s m args below meth c H locs cells slots Q (F0 m pc ls (.ref a :: rest)) := w_get hexec hb inX2 rfl 5 (by decide) hX hown he hlink (fun _ h => h) rfl hdg kk
theorem pX2_5 (hexec : p.tables.exec = Jvm.exec) (hb : c.code = cc) {own : String} {index : Nat} (hX : wX g A s H locs μ) (hown : s.vm.findClass own = some m.cls) {v0 v1 v2 v3 v4 v5 v6 : Value} (he : μ a = some (.inr (3, [v0, v1, v2, v3, v4, v5, v6]))) (hlink : Cond.fieldLink own index "FairyDust" "granted" "I" ∈ GW) (hdg : decode cc pc = .ok (.putfield index, 3)) {x : Int32} (kk : ∀ (H1 : Heap) (locs1 : List Loc), wX g A s H1 locs1 (va_up μ a (some (.inr (3, [v0, v1, v2, v3, v4, .int x, v6])))) → W p l e R s m args below meth c H1 locs1 cells slots Q (F0 m (pc + 3) ls rest)) : W p l e R s m args below meth c H locs cells slots Q (F0 m pc ls (.int x :: .ref a :: rest)) := w_put hexec hb inX2 tyX2 tyX2_ok nmX2 rfl 5 (by decide) rfl rfl rfl hX hown he (Nat.le_of_ble_eq_true rfl) hlink (fun _ h => h) hdg kk
theorem gX2_6 (hexec : p.tables.exec = Jvm.exec) (hb : c.code = cc) {own : String} {index : Nat} (hX : wX g A s H locs μ) (hown : s.vm.findClass own = some m.cls) {v0 v1 v2 v3 v4 v5 v6 : Value} (he : μ a = some (.inr (3, [v0, v1, v2, v3, v4, v5, v6]))) (hlink : Cond.fieldLink own index "FairyDust" "denied" "I" ∈ GW) (hdg : decode cc pc = .ok (.getfield index, 3)) (kk : W p l e R s m args below meth c H locs cells slots Q (F0 m (pc + 3) ls (v6 :: rest))) : W p l e R s m args below meth c H locs cells slots Q (F0 m pc ls (.ref a :: rest)) := w_get hexec hb inX2 rfl 6 (by decide) hX hown he hlink (fun _ h => h) rfl hdg kk
theorem pX2_6 (hexec : p.tables.exec = Jvm.exec) (hb : c.code = cc) {own : String} {index : Nat} (hX : wX g A s H locs μ) (hown : s.vm.findClass own = some m.cls) {v0 v1 v2 v3 v4 v5 v6 : Value} (he : μ a = some (.inr (3, [v0, v1, v2, v3, v4, v5, v6]))) (hlink : Cond.fieldLink own index "FairyDust" "denied" "I" ∈ GW) (hdg : decode cc pc = .ok (.putfield index, 3)) {x : Int32} (kk : ∀ (H1 : Heap) (locs1 : List Loc), wX g A s H1 locs1 (va_up μ a (some (.inr (3, [v0, v1, v2, v3, v4, v5, .int x])))) → W p l e R s m args below meth c H1 locs1 cells slots Q (F0 m (pc + 3) ls rest)) : W p l e R s m args below meth c H locs cells slots Q (F0 m pc ls (.int x :: .ref a :: rest)) := w_put hexec hb inX2 tyX2 tyX2_ok nmX2 rfl 6 (by decide) rfl rfl rfl hX hown he (Nat.le_of_ble_eq_true rfl) hlink (fun _ h => h) hdg kk
theorem inX3 : ∀ w ∈ u_ws RX3 TX3 15, w ∈ GW := by decide +kernel
theorem gX3_0 (hexec : p.tables.exec = Jvm.exec) (hb : c.code = cc) {own : String} {index : Nat} (hX : wX g A s H locs μ) (hown : s.vm.findClass own = some m.cls) {v0 v1 v2 v3 v4 v5 v6 v7 v8 v9 v10 v11 v12 v13 v14 : Value} (he : μ a = some (.inr (4, [v0, v1, v2, v3, v4, v5, v6, v7, v8, v9, v10, v11, v12, v13, v14]))) (hlink : Cond.fieldLink own index "FairyDustModel" "thrown" "I" ∈ GW) (hdg : decode cc pc = .ok (.getfield index, 3)) (kk : W p l e R s m args below meth c H locs cells slots Q (F0 m (pc + 3) ls (v0 :: rest))) : W p l e R s m args below meth c H locs cells slots Q (F0 m pc ls (.ref a :: rest)) := w_get hexec hb inX3 rfl 0 (by decide) hX hown he hlink (fun _ h => h) rfl hdg kk
theorem pX3_0 (hexec : p.tables.exec = Jvm.exec) (hb : c.code = cc) {own : String} {index : Nat} (hX : wX g A s H locs μ) (hown : s.vm.findClass own = some m.cls) {v0 v1 v2 v3 v4 v5 v6 v7 v8 v9 v10 v11 v12 v13 v14 : Value} (he : μ a = some (.inr (4, [v0, v1, v2, v3, v4, v5, v6, v7, v8, v9, v10, v11, v12, v13, v14]))) (hlink : Cond.fieldLink own index "FairyDustModel" "thrown" "I" ∈ GW) (hdg : decode cc pc = .ok (.putfield index, 3)) {x : Int32} (kk : ∀ (H1 : Heap) (locs1 : List Loc), wX g A s H1 locs1 (va_up μ a (some (.inr (4, [.int x, v1, v2, v3, v4, v5, v6, v7, v8, v9, v10, v11, v12, v13, v14])))) → W p l e R s m args below meth c H1 locs1 cells slots Q (F0 m (pc + 3) ls rest)) : W p l e R s m args below meth c H locs cells slots Q (F0 m pc ls (.int x :: .ref a :: rest)) := w_put hexec hb inX3 tyX3 tyX3_ok nmX3 rfl 0 (by decide) rfl rfl rfl hX hown he (Nat.le_of_ble_eq_true rfl) hlink (fun _ h => h) hdg kk
theorem gX3_1 (hexec : p.tables.exec = Jvm.exec) (hb : c.code = cc) {own : String} {index : Nat} (hX : wX g A s H locs μ) (hown : s.vm.findClass own = some m.cls) {v0 v1 v2 v3 v4 v5 v6 v7 v8 v9 v10 v11 v12 v13 v14 : Value} (he : μ a = some (.inr (4, [v0, v1, v2, v3, v4, v5, v6, v7, v8, v9, v10, v11, v12, v13, v14]))) (hlink : Cond.fieldLink own index "FairyDustModel" "wands" "I" ∈ GW) (hdg : decode cc pc = .ok (.getfield index, 3)) (kk : W p l e R s m args below meth c H locs cells slots Q (F0 m (pc + 3) ls (v1 :: rest))) : W p l e R s m args below meth c H locs cells slots Q (F0 m pc ls (.ref a :: rest)) := w_get hexec hb inX3 rfl 1 (by decide) hX hown he hlink (fun _ h => h) rfl hdg kk
theorem pX3_1 (hexec : p.tables.exec = Jvm.exec) (hb : c.code = cc) {own : String} {index : Nat} (hX : wX g A s H locs μ) (hown : s.vm.findClass own = some m.cls) {v0 v1 v2 v3 v4 v5 v6 v7 v8 v9 v10 v11 v12 v13 v14 : Value} (he : μ a = some (.inr (4, [v0, v1, v2, v3, v4, v5, v6, v7, v8, v9, v10, v11, v12, v13, v14]))) (hlink : Cond.fieldLink own index "FairyDustModel" "wands" "I" ∈ GW) (hdg : decode cc pc = .ok (.putfield index, 3)) {x : Int32} (kk : ∀ (H1 : Heap) (locs1 : List Loc), wX g A s H1 locs1 (va_up μ a (some (.inr (4, [v0, .int x, v2, v3, v4, v5, v6, v7, v8, v9, v10, v11, v12, v13, v14])))) → W p l e R s m args below meth c H1 locs1 cells slots Q (F0 m (pc + 3) ls rest)) : W p l e R s m args below meth c H locs cells slots Q (F0 m pc ls (.int x :: .ref a :: rest)) := w_put hexec hb inX3 tyX3 tyX3_ok nmX3 rfl 1 (by decide) rfl rfl rfl hX hown he (Nat.le_of_ble_eq_true rfl) hlink (fun _ h => h) hdg kk
theorem gX3_2 (hexec : p.tables.exec = Jvm.exec) (hb : c.code = cc) {own : String} {index : Nat} (hX : wX g A s H locs μ) (hown : s.vm.findClass own = some m.cls) {v0 v1 v2 v3 v4 v5 v6 v7 v8 v9 v10 v11 v12 v13 v14 : Value} (he : μ a = some (.inr (4, [v0, v1, v2, v3, v4, v5, v6, v7, v8, v9, v10, v11, v12, v13, v14]))) (hlink : Cond.fieldLink own index "FairyDustModel" "children" "I" ∈ GW) (hdg : decode cc pc = .ok (.getfield index, 3)) (kk : W p l e R s m args below meth c H locs cells slots Q (F0 m (pc + 3) ls (v2 :: rest))) : W p l e R s m args below meth c H locs cells slots Q (F0 m pc ls (.ref a :: rest)) := w_get hexec hb inX3 rfl 2 (by decide) hX hown he hlink (fun _ h => h) rfl hdg kk
theorem pX3_2 (hexec : p.tables.exec = Jvm.exec) (hb : c.code = cc) {own : String} {index : Nat} (hX : wX g A s H locs μ) (hown : s.vm.findClass own = some m.cls) {v0 v1 v2 v3 v4 v5 v6 v7 v8 v9 v10 v11 v12 v13 v14 : Value} (he : μ a = some (.inr (4, [v0, v1, v2, v3, v4, v5, v6, v7, v8, v9, v10, v11, v12, v13, v14]))) (hlink : Cond.fieldLink own index "FairyDustModel" "children" "I" ∈ GW) (hdg : decode cc pc = .ok (.putfield index, 3)) {x : Int32} (kk : ∀ (H1 : Heap) (locs1 : List Loc), wX g A s H1 locs1 (va_up μ a (some (.inr (4, [v0, v1, .int x, v3, v4, v5, v6, v7, v8, v9, v10, v11, v12, v13, v14])))) → W p l e R s m args below meth c H1 locs1 cells slots Q (F0 m (pc + 3) ls rest)) : W p l e R s m args below meth c H locs cells slots Q (F0 m pc ls (.int x :: .ref a :: rest)) := w_put hexec hb inX3 tyX3 tyX3_ok nmX3 rfl 2 (by decide) rfl rfl rfl hX hown he (Nat.le_of_ble_eq_true rfl) hlink (fun _ h => h) hdg kk
theorem gX3_3 (hexec : p.tables.exec = Jvm.exec) (hb : c.code = cc) {own : String} {index : Nat} (hX : wX g A s H locs μ) (hown : s.vm.findClass own = some m.cls) {v0 v1 v2 v3 v4 v5 v6 v7 v8 v9 v10 v11 v12 v13 v14 : Value} (he : μ a = some (.inr (4, [v0, v1, v2, v3, v4, v5, v6, v7, v8, v9, v10, v11, v12, v13, v14]))) (hlink : Cond.fieldLink own index "FairyDustModel" "hour" "I" ∈ GW) (hdg : decode cc pc = .ok (.getfield index, 3)) (kk : W p l e R s m args below meth c H locs cells slots Q (F0 m (pc + 3) ls (v3 :: rest))) : W p l e R s m args below meth c H locs cells slots Q (F0 m pc ls (.ref a :: rest)) := w_get hexec hb inX3 rfl 3 (by decide) hX hown he hlink (fun _ h => h) rfl hdg kk
theorem pX3_3 (hexec : p.tables.exec = Jvm.exec) (hb : c.code = cc) {own : String} {index : Nat} (hX : wX g A s H locs μ) (hown : s.vm.findClass own = some m.cls) {v0 v1 v2 v3 v4 v5 v6 v7 v8 v9 v10 v11 v12 v13 v14 : Value} (he : μ a = some (.inr (4, [v0, v1, v2, v3, v4, v5, v6, v7, v8, v9, v10, v11, v12, v13, v14]))) (hlink : Cond.fieldLink own index "FairyDustModel" "hour" "I" ∈ GW) (hdg : decode cc pc = .ok (.putfield index, 3)) {x : Int32} (kk : ∀ (H1 : Heap) (locs1 : List Loc), wX g A s H1 locs1 (va_up μ a (some (.inr (4, [v0, v1, v2, .int x, v4, v5, v6, v7, v8, v9, v10, v11, v12, v13, v14])))) → W p l e R s m args below meth c H1 locs1 cells slots Q (F0 m (pc + 3) ls rest)) : W p l e R s m args below meth c H locs cells slots Q (F0 m pc ls (.int x :: .ref a :: rest)) := w_put hexec hb inX3 tyX3 tyX3_ok nmX3 rfl 3 (by decide) rfl rfl rfl hX hown he (Nat.le_of_ble_eq_true rfl) hlink (fun _ h => h) hdg kk
theorem gX3_4 (hexec : p.tables.exec = Jvm.exec) (hb : c.code = cc) {own : String} {index : Nat} (hX : wX g A s H locs μ) (hown : s.vm.findClass own = some m.cls) {v0 v1 v2 v3 v4 v5 v6 v7 v8 v9 v10 v11 v12 v13 v14 : Value} (he : μ a = some (.inr (4, [v0, v1, v2, v3, v4, v5, v6, v7, v8, v9, v10, v11, v12, v13, v14]))) (hlink : Cond.fieldLink own index "FairyDustModel" "granted" "I" ∈ GW) (hdg : decode cc pc = .ok (.getfield index, 3)) (kk : W p l e R s m args below meth c H locs cells slots Q (F0 m (pc + 3) ls (v4 :: rest))) : W p l e R s m args below meth c H locs cells slots Q (F0 m pc ls (.ref a :: rest)) := w_get hexec hb inX3 rfl 4 (by decide) hX hown he hlink (fun _ h => h) rfl hdg kk
theorem pX3_4 (hexec : p.tables.exec = Jvm.exec) (hb : c.code = cc) {own : String} {index : Nat} (hX : wX g A s H locs μ) (hown : s.vm.findClass own = some m.cls) {v0 v1 v2 v3 v4 v5 v6 v7 v8 v9 v10 v11 v12 v13 v14 : Value} (he : μ a = some (.inr (4, [v0, v1, v2, v3, v4, v5, v6, v7, v8, v9, v10, v11, v12, v13, v14]))) (hlink : Cond.fieldLink own index "FairyDustModel" "granted" "I" ∈ GW) (hdg : decode cc pc = .ok (.putfield index, 3)) {x : Int32} (kk : ∀ (H1 : Heap) (locs1 : List Loc), wX g A s H1 locs1 (va_up μ a (some (.inr (4, [v0, v1, v2, v3, .int x, v5, v6, v7, v8, v9, v10, v11, v12, v13, v14])))) → W p l e R s m args below meth c H1 locs1 cells slots Q (F0 m (pc + 3) ls rest)) : W p l e R s m args below meth c H locs cells slots Q (F0 m pc ls (.int x :: .ref a :: rest)) := w_put hexec hb inX3 tyX3 tyX3_ok nmX3 rfl 4 (by decide) rfl rfl rfl hX hown he (Nat.le_of_ble_eq_true rfl) hlink (fun _ h => h) hdg kk
theorem gX3_5 (hexec : p.tables.exec = Jvm.exec) (hb : c.code = cc) {own : String} {index : Nat} (hX : wX g A s H locs μ) (hown : s.vm.findClass own = some m.cls) {v0 v1 v2 v3 v4 v5 v6 v7 v8 v9 v10 v11 v12 v13 v14 : Value} (he : μ a = some (.inr (4, [v0, v1, v2, v3, v4, v5, v6, v7, v8, v9, v10, v11, v12, v13, v14]))) (hlink : Cond.fieldLink own index "FairyDustModel" "denied" "I" ∈ GW) (hdg : decode cc pc = .ok (.getfield index, 3)) (kk : W p l e R s m args below meth c H locs cells slots Q (F0 m (pc + 3) ls (v5 :: rest))) : W p l e R s m args below meth c H locs cells slots Q (F0 m pc ls (.ref a :: rest)) := w_get hexec hb inX3 rfl 5 (by decide) hX hown he hlink (fun _ h => h) rfl hdg kk
theorem pX3_5 (hexec : p.tables.exec = Jvm.exec) (hb : c.code = cc) {own : String} {index : Nat} (hX : wX g A s H locs μ) (hown : s.vm.findClass own = some m.cls) {v0 v1 v2 v3 v4 v5 v6 v7 v8 v9 v10 v11 v12 v13 v14 : Value} (he : μ a = some (.inr (4, [v0, v1, v2, v3, v4, v5, v6, v7, v8, v9, v10, v11, v12, v13, v14]))) (hlink : Cond.fieldLink own index "FairyDustModel" "denied" "I" ∈ GW) (hdg : decode cc pc = .ok (.putfield index, 3)) {x : Int32} (kk : ∀ (H1 : Heap) (locs1 : List Loc), wX g A s H1 locs1 (va_up μ a (some (.inr (4, [v0, v1, v2, v3, v4, .int x, v6, v7, v8, v9, v10, v11, v12, v13, v14])))) → W p l e R s m args below meth c H1 locs1 cells slots Q (F0 m (pc + 3) ls rest)) : W p l e R s m args below meth c H locs cells slots Q (F0 m pc ls (.int x :: .ref a :: rest)) := w_put hexec hb inX3 tyX3 tyX3_ok nmX3 rfl 5 (by decide) rfl rfl rfl hX hown he (Nat.le_of_ble_eq_true rfl) hlink (fun _ h => h) hdg kk
theorem gX3_6 (hexec : p.tables.exec = Jvm.exec) (hb : c.code = cc) {own : String} {index : Nat} (hX : wX g A s H locs μ) (hown : s.vm.findClass own = some m.cls) {v0 v1 v2 v3 v4 v5 v6 v7 v8 v9 v10 v11 v12 v13 v14 : Value} (he : μ a = some (.inr (4, [v0, v1, v2, v3, v4, v5, v6, v7, v8, v9, v10, v11, v12, v13, v14]))) (hlink : Cond.fieldLink own index "FairyDustModel" "room" "[I" ∈ GW) (hdg : decode cc pc = .ok (.getfield index, 3)) (kk : W p l e R s m args below meth c H locs cells slots Q (F0 m (pc + 3) ls (v6 :: rest))) : W p l e R s m args below meth c H locs cells slots Q (F0 m pc ls (.ref a :: rest)) := w_get hexec hb inX3 rfl 6 (by decide) hX hown he hlink (fun _ h => h) rfl hdg kk
theorem pX3_6 (hexec : p.tables.exec = Jvm.exec) (hb : c.code = cc) {index : Nat} (hin2 : meth.name = "<init>") (hX : wX g A s H locs μ) (hown : s.vm.findClass RX3 = some m.cls) {v0 v1 v2 v3 v4 v5 v6 v7 v8 v9 v10 v11 v12 v13 v14 : Value} (he : μ a = some (.inr (4, [v0, v1, v2, v3, v4, v5, v6, v7, v8, v9, v10, v11, v12, v13, v14]))) (hlink : Cond.fieldLink RX3 index "FairyDustModel" "room" "[I" ∈ GW) (hdg : decode cc pc = .ok (.putfield index, 3)) {x : Nat} (kk : ∀ (H1 : Heap) (locs1 : List Loc), wX g A s H1 locs1 (va_up μ a (some (.inr (4, [v0, v1, v2, v3, v4, v5, .ref x, v7, v8, v9, v10, v11, v12, v13, v14])))) → W p l e R s m args below meth c H1 locs1 cells slots Q (F0 m (pc + 3) ls rest)) : W p l e R s m args below meth c H locs cells slots Q (F0 m pc ls (.ref x :: .ref a :: rest)) := w_putF hexec hb inX3 tyX3 tyX3_ok nmX3 rfl 6 (by decide) rfl hin2 rfl rfl rfl hX hown he (Nat.le_of_ble_eq_true rfl) hlink (fun _ h => h) hdg kk
theorem gX3_7 (hexec : p.tables.exec = Jvm.exec) (hb : c.code = cc) {own : String} {index : Nat} (hX : wX g A s H locs μ) (hown : s.vm.findClass own = some m.cls) {v0 v1 v2 v3 v4 v5 v6 v7 v8 v9 v10 v11 v12 v13 v14 : Value} (he : μ a = some (.inr (4, [v0, v1, v2, v3, v4, v5, v6, v7, v8, v9, v10, v11, v12, v13, v14]))) (hlink : Cond.fieldLink own index "FairyDustModel" "fall" "[I" ∈ GW) (hdg : decode cc pc = .ok (.getfield index, 3)) (kk : W p l e R s m args below meth c H locs cells slots Q (F0 m (pc + 3) ls (v7 :: rest))) : W p l e R s m args below meth c H locs cells slots Q (F0 m pc ls (.ref a :: rest)) := w_get hexec hb inX3 rfl 7 (by decide) hX hown he hlink (fun _ h => h) rfl hdg kk
theorem pX3_7 (hexec : p.tables.exec = Jvm.exec) (hb : c.code = cc) {index : Nat} (hin2 : meth.name = "<init>") (hX : wX g A s H locs μ) (hown : s.vm.findClass RX3 = some m.cls) {v0 v1 v2 v3 v4 v5 v6 v7 v8 v9 v10 v11 v12 v13 v14 : Value} (he : μ a = some (.inr (4, [v0, v1, v2, v3, v4, v5, v6, v7, v8, v9, v10, v11, v12, v13, v14]))) (hlink : Cond.fieldLink RX3 index "FairyDustModel" "fall" "[I" ∈ GW) (hdg : decode cc pc = .ok (.putfield index, 3)) {x : Nat} (kk : ∀ (H1 : Heap) (locs1 : List Loc), wX g A s H1 locs1 (va_up μ a (some (.inr (4, [v0, v1, v2, v3, v4, v5, v6, .ref x, v8, v9, v10, v11, v12, v13, v14])))) → W p l e R s m args below meth c H1 locs1 cells slots Q (F0 m (pc + 3) ls rest)) : W p l e R s m args below meth c H locs cells slots Q (F0 m pc ls (.ref x :: .ref a :: rest)) := w_putF hexec hb inX3 tyX3 tyX3_ok nmX3 rfl 7 (by decide) rfl hin2 rfl rfl rfl hX hown he (Nat.le_of_ble_eq_true rfl) hlink (fun _ h => h) hdg kk
theorem gX3_8 (hexec : p.tables.exec = Jvm.exec) (hb : c.code = cc) {own : String} {index : Nat} (hX : wX g A s H locs μ) (hown : s.vm.findClass own = some m.cls) {v0 v1 v2 v3 v4 v5 v6 v7 v8 v9 v10 v11 v12 v13 v14 : Value} (he : μ a = some (.inr (4, [v0, v1, v2, v3, v4, v5, v6, v7, v8, v9, v10, v11, v12, v13, v14]))) (hlink : Cond.fieldLink own index "FairyDustModel" "dust" "[I" ∈ GW) (hdg : decode cc pc = .ok (.getfield index, 3)) (kk : W p l e R s m args below meth c H locs cells slots Q (F0 m (pc + 3) ls (v8 :: rest))) : W p l e R s m args below meth c H locs cells slots Q (F0 m pc ls (.ref a :: rest)) := w_get hexec hb inX3 rfl 8 (by decide) hX hown he hlink (fun _ h => h) rfl hdg kk
theorem pX3_8 (hexec : p.tables.exec = Jvm.exec) (hb : c.code = cc) {index : Nat} (hin2 : meth.name = "<init>") (hX : wX g A s H locs μ) (hown : s.vm.findClass RX3 = some m.cls) {v0 v1 v2 v3 v4 v5 v6 v7 v8 v9 v10 v11 v12 v13 v14 : Value} (he : μ a = some (.inr (4, [v0, v1, v2, v3, v4, v5, v6, v7, v8, v9, v10, v11, v12, v13, v14]))) (hlink : Cond.fieldLink RX3 index "FairyDustModel" "dust" "[I" ∈ GW) (hdg : decode cc pc = .ok (.putfield index, 3)) {x : Nat} (kk : ∀ (H1 : Heap) (locs1 : List Loc), wX g A s H1 locs1 (va_up μ a (some (.inr (4, [v0, v1, v2, v3, v4, v5, v6, v7, .ref x, v9, v10, v11, v12, v13, v14])))) → W p l e R s m args below meth c H1 locs1 cells slots Q (F0 m (pc + 3) ls rest)) : W p l e R s m args below meth c H locs cells slots Q (F0 m pc ls (.ref x :: .ref a :: rest)) := w_putF hexec hb inX3 tyX3 tyX3_ok nmX3 rfl 8 (by decide) rfl hin2 rfl rfl rfl hX hown he (Nat.le_of_ble_eq_true rfl) hlink (fun _ h => h) hdg kk
theorem gX3_9 (hexec : p.tables.exec = Jvm.exec) (hb : c.code = cc) {own : String} {index : Nat} (hX : wX g A s H locs μ) (hown : s.vm.findClass own = some m.cls) {v0 v1 v2 v3 v4 v5 v6 v7 v8 v9 v10 v11 v12 v13 v14 : Value} (he : μ a = some (.inr (4, [v0, v1, v2, v3, v4, v5, v6, v7, v8, v9, v10, v11, v12, v13, v14]))) (hlink : Cond.fieldLink own index "FairyDustModel" "wand" "[I" ∈ GW) (hdg : decode cc pc = .ok (.getfield index, 3)) (kk : W p l e R s m args below meth c H locs cells slots Q (F0 m (pc + 3) ls (v9 :: rest))) : W p l e R s m args below meth c H locs cells slots Q (F0 m pc ls (.ref a :: rest)) := w_get hexec hb inX3 rfl 9 (by decide) hX hown he hlink (fun _ h => h) rfl hdg kk
theorem pX3_9 (hexec : p.tables.exec = Jvm.exec) (hb : c.code = cc) {index : Nat} (hin2 : meth.name = "<init>") (hX : wX g A s H locs μ) (hown : s.vm.findClass RX3 = some m.cls) {v0 v1 v2 v3 v4 v5 v6 v7 v8 v9 v10 v11 v12 v13 v14 : Value} (he : μ a = some (.inr (4, [v0, v1, v2, v3, v4, v5, v6, v7, v8, v9, v10, v11, v12, v13, v14]))) (hlink : Cond.fieldLink RX3 index "FairyDustModel" "wand" "[I" ∈ GW) (hdg : decode cc pc = .ok (.putfield index, 3)) {x : Nat} (kk : ∀ (H1 : Heap) (locs1 : List Loc), wX g A s H1 locs1 (va_up μ a (some (.inr (4, [v0, v1, v2, v3, v4, v5, v6, v7, v8, .ref x, v10, v11, v12, v13, v14])))) → W p l e R s m args below meth c H1 locs1 cells slots Q (F0 m (pc + 3) ls rest)) : W p l e R s m args below meth c H locs cells slots Q (F0 m pc ls (.ref x :: .ref a :: rest)) := w_putF hexec hb inX3 tyX3 tyX3_ok nmX3 rfl 9 (by decide) rfl hin2 rfl rfl rfl hX hown he (Nat.le_of_ble_eq_true rfl) hlink (fun _ h => h) hdg kk
theorem gX3_10 (hexec : p.tables.exec = Jvm.exec) (hb : c.code = cc) {own : String} {index : Nat} (hX : wX g A s H locs μ) (hown : s.vm.findClass own = some m.cls) {v0 v1 v2 v3 v4 v5 v6 v7 v8 v9 v10 v11 v12 v13 v14 : Value} (he : μ a = some (.inr (4, [v0, v1, v2, v3, v4, v5, v6, v7, v8, v9, v10, v11, v12, v13, v14]))) (hlink : Cond.fieldLink own index "FairyDustModel" "birthday" "[I" ∈ GW) (hdg : decode cc pc = .ok (.getfield index, 3)) (kk : W p l e R s m args below meth c H locs cells slots Q (F0 m (pc + 3) ls (v10 :: rest))) : W p l e R s m args below meth c H locs cells slots Q (F0 m pc ls (.ref a :: rest)) := w_get hexec hb inX3 rfl 10 (by decide) hX hown he hlink (fun _ h => h) rfl hdg kk
theorem pX3_10 (hexec : p.tables.exec = Jvm.exec) (hb : c.code = cc) {index : Nat} (hin2 : meth.name = "<init>") (hX : wX g A s H locs μ) (hown : s.vm.findClass RX3 = some m.cls) {v0 v1 v2 v3 v4 v5 v6 v7 v8 v9 v10 v11 v12 v13 v14 : Value} (he : μ a = some (.inr (4, [v0, v1, v2, v3, v4, v5, v6, v7, v8, v9, v10, v11, v12, v13, v14]))) (hlink : Cond.fieldLink RX3 index "FairyDustModel" "birthday" "[I" ∈ GW) (hdg : decode cc pc = .ok (.putfield index, 3)) {x : Nat} (kk : ∀ (H1 : Heap) (locs1 : List Loc), wX g A s H1 locs1 (va_up μ a (some (.inr (4, [v0, v1, v2, v3, v4, v5, v6, v7, v8, v9, .ref x, v11, v12, v13, v14])))) → W p l e R s m args below meth c H1 locs1 cells slots Q (F0 m (pc + 3) ls rest)) : W p l e R s m args below meth c H locs cells slots Q (F0 m pc ls (.ref x :: .ref a :: rest)) := w_putF hexec hb inX3 tyX3 tyX3_ok nmX3 rfl 10 (by decide) rfl hin2 rfl rfl rfl hX hown he (Nat.le_of_ble_eq_true rfl) hlink (fun _ h => h) hdg kk
theorem gX3_11 (hexec : p.tables.exec = Jvm.exec) (hb : c.code = cc) {own : String} {index : Nat} (hX : wX g A s H locs μ) (hown : s.vm.findClass own = some m.cls) {v0 v1 v2 v3 v4 v5 v6 v7 v8 v9 v10 v11 v12 v13 v14 : Value} (he : μ a = some (.inr (4, [v0, v1, v2, v3, v4, v5, v6, v7, v8, v9, v10, v11, v12, v13, v14]))) (hlink : Cond.fieldLink own index "FairyDustModel" "burst" "[I" ∈ GW) (hdg : decode cc pc = .ok (.getfield index, 3)) (kk : W p l e R s m args below meth c H locs cells slots Q (F0 m (pc + 3) ls (v11 :: rest))) : W p l e R s m args below meth c H locs cells slots Q (F0 m pc ls (.ref a :: rest)) := w_get hexec hb inX3 rfl 11 (by decide) hX hown he hlink (fun _ h => h) rfl hdg kk
theorem pX3_11 (hexec : p.tables.exec = Jvm.exec) (hb : c.code = cc) {index : Nat} (hin2 : meth.name = "<init>") (hX : wX g A s H locs μ) (hown : s.vm.findClass RX3 = some m.cls) {v0 v1 v2 v3 v4 v5 v6 v7 v8 v9 v10 v11 v12 v13 v14 : Value} (he : μ a = some (.inr (4, [v0, v1, v2, v3, v4, v5, v6, v7, v8, v9, v10, v11, v12, v13, v14]))) (hlink : Cond.fieldLink RX3 index "FairyDustModel" "burst" "[I" ∈ GW) (hdg : decode cc pc = .ok (.putfield index, 3)) {x : Nat} (kk : ∀ (H1 : Heap) (locs1 : List Loc), wX g A s H1 locs1 (va_up μ a (some (.inr (4, [v0, v1, v2, v3, v4, v5, v6, v7, v8, v9, v10, .ref x, v12, v13, v14])))) → W p l e R s m args below meth c H1 locs1 cells slots Q (F0 m (pc + 3) ls rest)) : W p l e R s m args below meth c H locs cells slots Q (F0 m pc ls (.ref x :: .ref a :: rest)) := w_putF hexec hb inX3 tyX3 tyX3_ok nmX3 rfl 11 (by decide) rfl hin2 rfl rfl rfl hX hown he (Nat.le_of_ble_eq_true rfl) hlink (fun _ h => h) hdg kk
theorem gX3_12 (hexec : p.tables.exec = Jvm.exec) (hb : c.code = cc) {own : String} {index : Nat} (hX : wX g A s H locs μ) (hown : s.vm.findClass own = some m.cls) {v0 v1 v2 v3 v4 v5 v6 v7 v8 v9 v10 v11 v12 v13 v14 : Value} (he : μ a = some (.inr (4, [v0, v1, v2, v3, v4, v5, v6, v7, v8, v9, v10, v11, v12, v13, v14]))) (hlink : Cond.fieldLink own index "FairyDustModel" "held" "[I" ∈ GW) (hdg : decode cc pc = .ok (.getfield index, 3)) (kk : W p l e R s m args below meth c H locs cells slots Q (F0 m (pc + 3) ls (v12 :: rest))) : W p l e R s m args below meth c H locs cells slots Q (F0 m pc ls (.ref a :: rest)) := w_get hexec hb inX3 rfl 12 (by decide) hX hown he hlink (fun _ h => h) rfl hdg kk
theorem pX3_12 (hexec : p.tables.exec = Jvm.exec) (hb : c.code = cc) {index : Nat} (hin2 : meth.name = "<init>") (hX : wX g A s H locs μ) (hown : s.vm.findClass RX3 = some m.cls) {v0 v1 v2 v3 v4 v5 v6 v7 v8 v9 v10 v11 v12 v13 v14 : Value} (he : μ a = some (.inr (4, [v0, v1, v2, v3, v4, v5, v6, v7, v8, v9, v10, v11, v12, v13, v14]))) (hlink : Cond.fieldLink RX3 index "FairyDustModel" "held" "[I" ∈ GW) (hdg : decode cc pc = .ok (.putfield index, 3)) {x : Nat} (kk : ∀ (H1 : Heap) (locs1 : List Loc), wX g A s H1 locs1 (va_up μ a (some (.inr (4, [v0, v1, v2, v3, v4, v5, v6, v7, v8, v9, v10, v11, .ref x, v13, v14])))) → W p l e R s m args below meth c H1 locs1 cells slots Q (F0 m (pc + 3) ls rest)) : W p l e R s m args below meth c H locs cells slots Q (F0 m pc ls (.ref x :: .ref a :: rest)) := w_putF hexec hb inX3 tyX3 tyX3_ok nmX3 rfl 12 (by decide) rfl hin2 rfl rfl rfl hX hown he (Nat.le_of_ble_eq_true rfl) hlink (fun _ h => h) hdg kk
theorem gX3_13 (hexec : p.tables.exec = Jvm.exec) (hb : c.code = cc) {own : String} {index : Nat} (hX : wX g A s H locs μ) (hown : s.vm.findClass own = some m.cls) {v0 v1 v2 v3 v4 v5 v6 v7 v8 v9 v10 v11 v12 v13 v14 : Value} (he : μ a = some (.inr (4, [v0, v1, v2, v3, v4, v5, v6, v7, v8, v9, v10, v11, v12, v13, v14]))) (hlink : Cond.fieldLink own index "FairyDustModel" "marks" "[I" ∈ GW) (hdg : decode cc pc = .ok (.getfield index, 3)) (kk : W p l e R s m args below meth c H locs cells slots Q (F0 m (pc + 3) ls (v13 :: rest))) : W p l e R s m args below meth c H locs cells slots Q (F0 m pc ls (.ref a :: rest)) := w_get hexec hb inX3 rfl 13 (by decide) hX hown he hlink (fun _ h => h) rfl hdg kk
theorem pX3_13 (hexec : p.tables.exec = Jvm.exec) (hb : c.code = cc) {index : Nat} (hin2 : meth.name = "<init>") (hX : wX g A s H locs μ) (hown : s.vm.findClass RX3 = some m.cls) {v0 v1 v2 v3 v4 v5 v6 v7 v8 v9 v10 v11 v12 v13 v14 : Value} (he : μ a = some (.inr (4, [v0, v1, v2, v3, v4, v5, v6, v7, v8, v9, v10, v11, v12, v13, v14]))) (hlink : Cond.fieldLink RX3 index "FairyDustModel" "marks" "[I" ∈ GW) (hdg : decode cc pc = .ok (.putfield index, 3)) {x : Nat} (kk : ∀ (H1 : Heap) (locs1 : List Loc), wX g A s H1 locs1 (va_up μ a (some (.inr (4, [v0, v1, v2, v3, v4, v5, v6, v7, v8, v9, v10, v11, v12, .ref x, v14])))) → W p l e R s m args below meth c H1 locs1 cells slots Q (F0 m (pc + 3) ls rest)) : W p l e R s m args below meth c H locs cells slots Q (F0 m pc ls (.ref x :: .ref a :: rest)) := w_putF hexec hb inX3 tyX3 tyX3_ok nmX3 rfl 13 (by decide) rfl hin2 rfl rfl rfl hX hown he (Nat.le_of_ble_eq_true rfl) hlink (fun _ h => h) hdg kk
theorem gX3_14 (hexec : p.tables.exec = Jvm.exec) (hb : c.code = cc) {own : String} {index : Nat} (hX : wX g A s H locs μ) (hown : s.vm.findClass own = some m.cls) {v0 v1 v2 v3 v4 v5 v6 v7 v8 v9 v10 v11 v12 v13 v14 : Value} (he : μ a = some (.inr (4, [v0, v1, v2, v3, v4, v5, v6, v7, v8, v9, v10, v11, v12, v13, v14]))) (hlink : Cond.fieldLink own index "FairyDustModel" "next" "[I" ∈ GW) (hdg : decode cc pc = .ok (.getfield index, 3)) (kk : W p l e R s m args below meth c H locs cells slots Q (F0 m (pc + 3) ls (v14 :: rest))) : W p l e R s m args below meth c H locs cells slots Q (F0 m pc ls (.ref a :: rest)) := w_get hexec hb inX3 rfl 14 (by decide) hX hown he hlink (fun _ h => h) rfl hdg kk
theorem pX3_14 (hexec : p.tables.exec = Jvm.exec) (hb : c.code = cc) {index : Nat} (hin2 : meth.name = "<init>") (hX : wX g A s H locs μ) (hown : s.vm.findClass RX3 = some m.cls) {v0 v1 v2 v3 v4 v5 v6 v7 v8 v9 v10 v11 v12 v13 v14 : Value} (he : μ a = some (.inr (4, [v0, v1, v2, v3, v4, v5, v6, v7, v8, v9, v10, v11, v12, v13, v14]))) (hlink : Cond.fieldLink RX3 index "FairyDustModel" "next" "[I" ∈ GW) (hdg : decode cc pc = .ok (.putfield index, 3)) {x : Nat} (kk : ∀ (H1 : Heap) (locs1 : List Loc), wX g A s H1 locs1 (va_up μ a (some (.inr (4, [v0, v1, v2, v3, v4, v5, v6, v7, v8, v9, v10, v11, v12, v13, .ref x])))) → W p l e R s m args below meth c H1 locs1 cells slots Q (F0 m (pc + 3) ls rest)) : W p l e R s m args below meth c H locs cells slots Q (F0 m pc ls (.ref x :: .ref a :: rest)) := w_putF hexec hb inX3 tyX3 tyX3_ok nmX3 rfl 14 (by decide) rfl hin2 rfl rfl rfl hX hown he (Nat.le_of_ble_eq_true rfl) hlink (fun _ h => h) hdg kk
end FR
end
section
theorem kCdMax : Cond.code Lib.Math.max.name Lib.Math.max.code 2 (some .int) ∈ GW := kw293
theorem kStMax : Cond.static Lib.Math.max.name ∈ GW := kw292
theorem kCdMin : Cond.code Lib.Math.min.name Lib.Math.min.code 2 (some .int) ∈ GW := kw377
theorem kStMin : Cond.static Lib.Math.min.name ∈ GW := kw376
theorem kInMath : Cond.initialized "java/lang/Math" ∈ GW := kw14
theorem kInsObj : Cond.instanceMethod objectInit ∈ GW := kw26
theorem kCdObj : Cond.code objectInit ⟨#[0xb1]⟩ 1 none ∈ GW := kw27
theorem wn_X0_init : wNm yX0_init 2 := ⟨⟨by decide +kernel, by decide +kernel⟩, by decide +kernel⟩
theorem wn_X0_copyFrom : wNm yX0_copyFrom 1 := ⟨⟨by decide +kernel, by decide +kernel⟩, by decide +kernel⟩
theorem wn_X0_isPunished : wNm yX0_isPunished 0 := ⟨⟨by decide +kernel, by decide +kernel⟩, by decide +kernel⟩
theorem wn_X0_grainsAtHand : wNm yX0_grainsAtHand 0 := ⟨⟨by decide +kernel, by decide +kernel⟩, by decide +kernel⟩
theorem wn_X0_canHave : wNm yX0_canHave 1 := ⟨⟨by decide +kernel, by decide +kernel⟩, by decide +kernel⟩
theorem wn_X0_dustLeftAfter : wNm yX0_dustLeftAfter 1 := ⟨⟨by decide +kernel, by decide +kernel⟩, by decide +kernel⟩
theorem wn_X0_makeWish : wNm yX0_makeWish 1 := ⟨⟨by decide +kernel, by decide +kernel⟩, by decide +kernel⟩
theorem wn_X0_takeGrains : wNm yX0_takeGrains 1 := ⟨⟨by decide +kernel, by decide +kernel⟩, by decide +kernel⟩
theorem wn_X0_takeMark : wNm yX0_takeMark 0 := ⟨⟨by decide +kernel, by decide +kernel⟩, by decide +kernel⟩
theorem wn_X0_letOff : wNm yX0_letOff 0 := ⟨⟨by decide +kernel, by decide +kernel⟩, by decide +kernel⟩
theorem wn_X0_liveTo : wNm yX0_liveTo 1 := ⟨⟨by decide +kernel, by decide +kernel⟩, by decide +kernel⟩
theorem wn_X0_beginDay : wNm yX0_beginDay 1 := ⟨⟨by decide +kernel, by decide +kernel⟩, by decide +kernel⟩
theorem wn_X1_init : wNm yX1_init 3 := ⟨⟨by decide +kernel, by decide +kernel⟩, by decide +kernel⟩
theorem wn_X1_copyFrom : wNm yX1_copyFrom 1 := ⟨⟨by decide +kernel, by decide +kernel⟩, by decide +kernel⟩
theorem wn_X1_letFall : wNm yX1_letFall 0 := ⟨⟨by decide +kernel, by decide +kernel⟩, by decide +kernel⟩
theorem wn_X1_isFullAfter : wNm yX1_isFullAfter 1 := ⟨⟨by decide +kernel, by decide +kernel⟩, by decide +kernel⟩
theorem wn_X2_init : wNm yX2_init 0 := ⟨⟨by decide +kernel, by decide +kernel⟩, by decide +kernel⟩
theorem wn_X2_addWand : wNm yX2_addWand 2 := ⟨⟨by decide +kernel, by decide +kernel⟩, by decide +kernel⟩
theorem wn_X2_addChild : wNm yX2_addChild 2 := ⟨⟨by decide +kernel, by decide +kernel⟩, by decide +kernel⟩
theorem wn_X2_give : wNm yX2_give 2 := ⟨⟨by decide +kernel, by decide +kernel⟩, by decide +kernel⟩
theorem wn_X2_setFall : wNm yX2_setFall 2 := ⟨⟨by decide +kernel, by decide +kernel⟩, by decide +kernel⟩
theorem wn_X2_wish : wNm yX2_wish 2 := ⟨⟨by decide +kernel, by decide +kernel⟩, by decide +kernel⟩
theorem wn_X2_forgive : wNm yX2_forgive 1 := ⟨⟨by decide +kernel, by decide +kernel⟩, by decide +kernel⟩
theorem wn_X2_pass : wNm yX2_pass 1 := ⟨⟨by decide +kernel, by decide +kernel⟩, by decide +kernel⟩
theorem wn_X2_hour : wNm yX2_hour 0 := ⟨⟨by decide +kernel, by decide +kernel⟩, by decide +kernel⟩
theorem wn_X2_day : wNm yX2_day 0 := ⟨⟨by decide +kernel, by decide +kernel⟩, by decide +kernel⟩
theorem wn_X2_wands : wNm yX2_wands 0 := ⟨⟨by decide +kernel, by decide +kernel⟩, by decide +kernel⟩
theorem wn_X2_children : wNm yX2_children 0 := ⟨⟨by decide +kernel, by decide +kernel⟩, by decide +kernel⟩
theorem wn_X2_granted : wNm yX2_granted 0 := ⟨⟨by decide +kernel, by decide +kernel⟩, by decide +kernel⟩
theorem wn_X2_denied : wNm yX2_denied 0 := ⟨⟨by decide +kernel, by decide +kernel⟩, by decide +kernel⟩
theorem wn_X2_punished : wNm yX2_punished 0 := ⟨⟨by decide +kernel, by decide +kernel⟩, by decide +kernel⟩
theorem wn_X2_dustIn : wNm yX2_dustIn 1 := ⟨⟨by decide +kernel, by decide +kernel⟩, by decide +kernel⟩
theorem wn_X2_users : wNm yX2_users 1 := ⟨⟨by decide +kernel, by decide +kernel⟩, by decide +kernel⟩
theorem wn_X2_wandOf : wNm yX2_wandOf 1 := ⟨⟨by decide +kernel, by decide +kernel⟩, by decide +kernel⟩
theorem wn_X2_burstOf : wNm yX2_burstOf 1 := ⟨⟨by decide +kernel, by decide +kernel⟩, by decide +kernel⟩
theorem wn_X2_punishedFor : wNm yX2_punishedFor 1 := ⟨⟨by decide +kernel, by decide +kernel⟩, by decide +kernel⟩
theorem wn_X2_marksOf : wNm yX2_marksOf 1 := ⟨⟨by decide +kernel, by decide +kernel⟩, by decide +kernel⟩
theorem wn_X2_nextPunishment : wNm yX2_nextPunishment 1 := ⟨⟨by decide +kernel, by decide +kernel⟩, by decide +kernel⟩
theorem wn_X2_daysToBirthday : wNm yX2_daysToBirthday 1 := ⟨⟨by decide +kernel, by decide +kernel⟩, by decide +kernel⟩
theorem wn_X2_greatestWish : wNm yX2_greatestWish 1 := ⟨⟨by decide +kernel, by decide +kernel⟩, by decide +kernel⟩
theorem wn_X2_hoursUntil : wNm yX2_hoursUntil 2 := ⟨⟨by decide +kernel, by decide +kernel⟩, by decide +kernel⟩
theorem wn_X2_grantedIn : wNm yX2_grantedIn 3 := ⟨⟨by decide +kernel, by decide +kernel⟩, by decide +kernel⟩
theorem wn_X2_fallWanted : wNm yX2_fallWanted 2 := ⟨⟨by decide +kernel, by decide +kernel⟩, by decide +kernel⟩
theorem wn_X2_hoursUntilFull : wNm yX2_hoursUntilFull 1 := ⟨⟨by decide +kernel, by decide +kernel⟩, by decide +kernel⟩
theorem wn_X2_bestChild : wNm yX2_bestChild 1 := ⟨⟨by decide +kernel, by decide +kernel⟩, by decide +kernel⟩
theorem wn_X2_share : wNm yX2_share 0 := ⟨⟨by decide +kernel, by decide +kernel⟩, by decide +kernel⟩
theorem wn_X2_digest : wNm yX2_digest 0 := ⟨⟨by decide +kernel, by decide +kernel⟩, by decide +kernel⟩
theorem wn_X2_withWand : wNm yX2_withWand 2 := ⟨⟨by decide +kernel, by decide +kernel⟩, by decide +kernel⟩
theorem wn_X2_withChild : wNm yX2_withChild 2 := ⟨⟨by decide +kernel, by decide +kernel⟩, by decide +kernel⟩
theorem wn_X2_mixed : wNm yX2_mixed 2 := ⟨⟨by decide +kernel, by decide +kernel⟩, by decide +kernel⟩
theorem wn_X2_passOneHour : wNm yX2_passOneHour 0 := ⟨⟨by decide +kernel, by decide +kernel⟩, by decide +kernel⟩
theorem wn_X2_beginTrial : wNm yX2_beginTrial 1 := ⟨⟨by decide +kernel, by decide +kernel⟩, by decide +kernel⟩
theorem wn_X2_passTrialHour : wNm yX2_passTrialHour 1 := ⟨⟨by decide +kernel, by decide +kernel⟩, by decide +kernel⟩
theorem wn_X2_tryWishes : wNm yX2_tryWishes 2 := ⟨⟨by decide +kernel, by decide +kernel⟩, by decide +kernel⟩
theorem wn_X2_wandAt : wNm yX2_wandAt 1 := ⟨⟨by decide +kernel, by decide +kernel⟩, by decide +kernel⟩
theorem wn_X2_childAt : wNm yX2_childAt 1 := ⟨⟨by decide +kernel, by decide +kernel⟩, by decide +kernel⟩
theorem wn_X2_needSize : wNm yX2_needSize 1 := ⟨⟨by decide +kernel, by decide +kernel⟩, by decide +kernel⟩
theorem wn_X2_needWithin : wNm yX2_needWithin 3 := ⟨⟨by decide +kernel, by decide +kernel⟩, by decide +kernel⟩
theorem wn_X3_init : wNm yX3_init 0 := ⟨⟨by decide +kernel, by decide +kernel⟩, by decide +kernel⟩
theorem wn_X3_thrown : wNm yX3_thrown 0 := ⟨⟨by decide +kernel, by decide +kernel⟩, by decide +kernel⟩
theorem wn_X3_no : wNm yX3_no 1 := ⟨⟨by decide +kernel, by decide +kernel⟩, by decide +kernel⟩
theorem wn_X3_isNot : wNm yX3_isNot 1 := ⟨⟨by decide +kernel, by decide +kernel⟩, by decide +kernel⟩
theorem wn_X3_ok : wNm yX3_ok 1 := ⟨⟨by decide +kernel, by decide +kernel⟩, by decide +kernel⟩
theorem wn_X3_isIn : wNm yX3_isIn 3 := ⟨⟨by decide +kernel, by decide +kernel⟩, by decide +kernel⟩
theorem wn_X3_isWand : wNm yX3_isWand 1 := ⟨⟨by decide +kernel, by decide +kernel⟩, by decide +kernel⟩
theorem wn_X3_isChild : wNm yX3_isChild 1 := ⟨⟨by decide +kernel, by decide +kernel⟩, by decide +kernel⟩
theorem wn_X3_isSize : wNm yX3_isSize 1 := ⟨⟨by decide +kernel, by decide +kernel⟩, by decide +kernel⟩
theorem wn_X3_dayOf : wNm yX3_dayOf 1 := ⟨⟨by decide +kernel, by decide +kernel⟩, by decide +kernel⟩
theorem wn_X3_burstIn : wNm yX3_burstIn 2 := ⟨⟨by decide +kernel, by decide +kernel⟩, by decide +kernel⟩
theorem wn_X3_addWand : wNm yX3_addWand 2 := ⟨⟨by decide +kernel, by decide +kernel⟩, by decide +kernel⟩
theorem wn_X3_addChild : wNm yX3_addChild 2 := ⟨⟨by decide +kernel, by decide +kernel⟩, by decide +kernel⟩
theorem wn_X3_give : wNm yX3_give 2 := ⟨⟨by decide +kernel, by decide +kernel⟩, by decide +kernel⟩
theorem wn_X3_setFall : wNm yX3_setFall 2 := ⟨⟨by decide +kernel, by decide +kernel⟩, by decide +kernel⟩
theorem wn_X3_all : wNm yX3_all 1 := ⟨⟨by decide +kernel, by decide +kernel⟩, by decide +kernel⟩
theorem wn_X3_isGranted : wNm yX3_isGranted 2 := ⟨⟨by decide +kernel, by decide +kernel⟩, by decide +kernel⟩
theorem wn_X3_deny : wNm yX3_deny 1 := ⟨⟨by decide +kernel, by decide +kernel⟩, by decide +kernel⟩
theorem wn_X3_wish : wNm yX3_wish 2 := ⟨⟨by decide +kernel, by decide +kernel⟩, by decide +kernel⟩
theorem wn_X3_forgive : wNm yX3_forgive 1 := ⟨⟨by decide +kernel, by decide +kernel⟩, by decide +kernel⟩
theorem wn_X3_pass : wNm yX3_pass 1 := ⟨⟨by decide +kernel, by decide +kernel⟩, by decide +kernel⟩
theorem wn_X3_hour : wNm yX3_hour 0 := ⟨⟨by decide +kernel, by decide +kernel⟩, by decide +kernel⟩
theorem wn_X3_day : wNm yX3_day 0 := ⟨⟨by decide +kernel, by decide +kernel⟩, by decide +kernel⟩
theorem wn_X3_wands : wNm yX3_wands 0 := ⟨⟨by decide +kernel, by decide +kernel⟩, by decide +kernel⟩
theorem wn_X3_children : wNm yX3_children 0 := ⟨⟨by decide +kernel, by decide +kernel⟩, by decide +kernel⟩
theorem wn_X3_granted : wNm yX3_granted 0 := ⟨⟨by decide +kernel, by decide +kernel⟩, by decide +kernel⟩
theorem wn_X3_denied : wNm yX3_denied 0 := ⟨⟨by decide +kernel, by decide +kernel⟩, by decide +kernel⟩
theorem wn_X3_manyHeld : wNm yX3_manyHeld 0 := ⟨⟨by decide +kernel, by decide +kernel⟩, by decide +kernel⟩
theorem wn_X3_punished : wNm yX3_punished 0 := ⟨⟨by decide +kernel, by decide +kernel⟩, by decide +kernel⟩
theorem wn_X3_dustIn : wNm yX3_dustIn 1 := ⟨⟨by decide +kernel, by decide +kernel⟩, by decide +kernel⟩
theorem wn_X3_using : wNm yX3_using 1 := ⟨⟨by decide +kernel, by decide +kernel⟩, by decide +kernel⟩
theorem wn_X3_users : wNm yX3_users 1 := ⟨⟨by decide +kernel, by decide +kernel⟩, by decide +kernel⟩
theorem wn_X3_of : wNm yX3_of 2 := ⟨⟨by decide +kernel, by decide +kernel⟩, by decide +kernel⟩
theorem wn_X3_wandOf : wNm yX3_wandOf 1 := ⟨⟨by decide +kernel, by decide +kernel⟩, by decide +kernel⟩
theorem wn_X3_burstOf : wNm yX3_burstOf 1 := ⟨⟨by decide +kernel, by decide +kernel⟩, by decide +kernel⟩
theorem wn_X3_punishedFor : wNm yX3_punishedFor 1 := ⟨⟨by decide +kernel, by decide +kernel⟩, by decide +kernel⟩
theorem wn_X3_marksOf : wNm yX3_marksOf 1 := ⟨⟨by decide +kernel, by decide +kernel⟩, by decide +kernel⟩
theorem wn_X3_nextPunishment : wNm yX3_nextPunishment 1 := ⟨⟨by decide +kernel, by decide +kernel⟩, by decide +kernel⟩
theorem wn_X3_daysTo : wNm yX3_daysTo 1 := ⟨⟨by decide +kernel, by decide +kernel⟩, by decide +kernel⟩
theorem wn_X3_daysToBirthday : wNm yX3_daysToBirthday 1 := ⟨⟨by decide +kernel, by decide +kernel⟩, by decide +kernel⟩
theorem wn_X3_greatest : wNm yX3_greatest 1 := ⟨⟨by decide +kernel, by decide +kernel⟩, by decide +kernel⟩
theorem wn_X3_greatestWish : wNm yX3_greatestWish 1 := ⟨⟨by decide +kernel, by decide +kernel⟩, by decide +kernel⟩
theorem wn_X3_until : wNm yX3_until 2 := ⟨⟨by decide +kernel, by decide +kernel⟩, by decide +kernel⟩
theorem wn_X3_hoursUntil : wNm yX3_hoursUntil 2 := ⟨⟨by decide +kernel, by decide +kernel⟩, by decide +kernel⟩
theorem wn_X3_grants : wNm yX3_grants 4 := ⟨⟨by decide +kernel, by decide +kernel⟩, by decide +kernel⟩
theorem wn_X3_grantedIn : wNm yX3_grantedIn 3 := ⟨⟨by decide +kernel, by decide +kernel⟩, by decide +kernel⟩
theorem wn_X3_wanted : wNm yX3_wanted 2 := ⟨⟨by decide +kernel, by decide +kernel⟩, by decide +kernel⟩
theorem wn_X3_fallWanted : wNm yX3_fallWanted 2 := ⟨⟨by decide +kernel, by decide +kernel⟩, by decide +kernel⟩
theorem wn_X3_untilFull : wNm yX3_untilFull 1 := ⟨⟨by decide +kernel, by decide +kernel⟩, by decide +kernel⟩
theorem wn_X3_hoursUntilFull : wNm yX3_hoursUntilFull 1 := ⟨⟨by decide +kernel, by decide +kernel⟩, by decide +kernel⟩
theorem wn_X3_leaves : wNm yX3_leaves 2 := ⟨⟨by decide +kernel, by decide +kernel⟩, by decide +kernel⟩
theorem wn_X3_best : wNm yX3_best 1 := ⟨⟨by decide +kernel, by decide +kernel⟩, by decide +kernel⟩
theorem wn_X3_bestChild : wNm yX3_bestChild 1 := ⟨⟨by decide +kernel, by decide +kernel⟩, by decide +kernel⟩
theorem wn_X3_share : wNm yX3_share 0 := ⟨⟨by decide +kernel, by decide +kernel⟩, by decide +kernel⟩
theorem wn_X3_digest : wNm yX3_digest 0 := ⟨⟨by decide +kernel, by decide +kernel⟩, by decide +kernel⟩
theorem wn_J9_floorMod_7cf53 : wNm yJ9_floorMod_7cf53 2 := ⟨⟨by decide +kernel, by decide +kernel⟩, by decide +kernel⟩
theorem wn_J9_max_7cf53 : wNm yJ9_max_7cf53 2 := ⟨⟨by decide +kernel, by decide +kernel⟩, by decide +kernel⟩
theorem wn_J9_min_7cf53 : wNm yJ9_min_7cf53 2 := ⟨⟨by decide +kernel, by decide +kernel⟩, by decide +kernel⟩
theorem wn_Jxa1e45_init_da8c8 : wNm yJxa1e45_init_da8c8 0 := ⟨⟨by decide +kernel, by decide +kernel⟩, by decide +kernel⟩
theorem wn_Jxc12de_init_da8c8 : wNm yJxc12de_init_da8c8 0 := ⟨⟨by decide +kernel, by decide +kernel⟩, by decide +kernel⟩
theorem wn_Jx4a65c_init_da8c8 : wNm yJx4a65c_init_da8c8 0 := ⟨⟨by decide +kernel, by decide +kernel⟩, by decide +kernel⟩
theorem wn_Jx4a65c_grow_92f84 : wNm yJx4a65c_grow_92f84 1 := ⟨⟨by decide +kernel, by decide +kernel⟩, by decide +kernel⟩
theorem wn_Jx4a65c_grow_d5877 : wNm yJx4a65c_grow_d5877 0 := ⟨⟨by decide +kernel, by decide +kernel⟩, by decide +kernel⟩
theorem wn_Jx4a65c_size_8abf5 : wNm yJx4a65c_size_8abf5 0 := ⟨⟨by decide +kernel, by decide +kernel⟩, by decide +kernel⟩
theorem wn_Jx4a65c_elementData_915e3 : wNm yJx4a65c_elementData_915e3 1 := ⟨⟨by decide +kernel, by decide +kernel⟩, by decide +kernel⟩
theorem wn_Jx4a65c_get_915e3 : wNm yJx4a65c_get_915e3 1 := ⟨⟨by decide +kernel, by decide +kernel⟩, by decide +kernel⟩
theorem wn_Jx4a65c_add_72be8 : wNm yJx4a65c_add_72be8 3 := ⟨⟨by decide +kernel, by decide +kernel⟩, by decide +kernel⟩
theorem wn_Jx4a65c_add_9ea2d : wNm yJx4a65c_add_9ea2d 1 := ⟨⟨by decide +kernel, by decide +kernel⟩, by decide +kernel⟩
theorem wn_J7_copyOf_1904c : wNm yJ7_copyOf_1904c 2 := ⟨⟨by decide +kernel, by decide +kernel⟩, by decide +kernel⟩
theorem wn_J7_copyOf_6403c : wNm yJ7_copyOf_6403c 3 := ⟨⟨by decide +kernel, by decide +kernel⟩, by decide +kernel⟩
theorem wn_J15_checkIndex_7cf53 : wNm yJ15_checkIndex_7cf53 2 := ⟨⟨by decide +kernel, by decide +kernel⟩, by decide +kernel⟩
theorem wn_J8_newLength_cabcc : wNm yJ8_newLength_cabcc 3 := ⟨⟨by decide +kernel, by decide +kernel⟩, by decide +kernel⟩
theorem wn_J8_hugeLength_7cf53 : wNm yJ8_hugeLength_7cf53 2 := ⟨⟨by decide +kernel, by decide +kernel⟩, by decide +kernel⟩
theorem wn_J3_checkIndex_8e157 : wNm yJ3_checkIndex_8e157 3 := ⟨⟨by decide +kernel, by decide +kernel⟩, by decide +kernel⟩
theorem wn_L_addWand : wNm yL_addWand 4 := ⟨⟨by decide +kernel, by decide +kernel⟩, by decide +kernel⟩
theorem wn_L_addChild : wNm yL_addChild 4 := ⟨⟨by decide +kernel, by decide +kernel⟩, by decide +kernel⟩
theorem wn_L_give : wNm yL_give 4 := ⟨⟨by decide +kernel, by decide +kernel⟩, by decide +kernel⟩
theorem wn_L_setFall : wNm yL_setFall 4 := ⟨⟨by decide +kernel, by decide +kernel⟩, by decide +kernel⟩
theorem wn_L_wish : wNm yL_wish 4 := ⟨⟨by decide +kernel, by decide +kernel⟩, by decide +kernel⟩
theorem wn_L_forgive : wNm yL_forgive 3 := ⟨⟨by decide +kernel, by decide +kernel⟩, by decide +kernel⟩
theorem wn_L_pass : wNm yL_pass 3 := ⟨⟨by decide +kernel, by decide +kernel⟩, by decide +kernel⟩
theorem wn_L_dustIn : wNm yL_dustIn 3 := ⟨⟨by decide +kernel, by decide +kernel⟩, by decide +kernel⟩
theorem wn_L_users : wNm yL_users 3 := ⟨⟨by decide +kernel, by decide +kernel⟩, by decide +kernel⟩
theorem wn_L_wandOf : wNm yL_wandOf 3 := ⟨⟨by decide +kernel, by decide +kernel⟩, by decide +kernel⟩
theorem wn_L_burstOf : wNm yL_burstOf 3 := ⟨⟨by decide +kernel, by decide +kernel⟩, by decide +kernel⟩
theorem wn_L_punishedFor : wNm yL_punishedFor 3 := ⟨⟨by decide +kernel, by decide +kernel⟩, by decide +kernel⟩
theorem wn_L_marksOf : wNm yL_marksOf 3 := ⟨⟨by decide +kernel, by decide +kernel⟩, by decide +kernel⟩
theorem wn_L_nextPunishment : wNm yL_nextPunishment 3 := ⟨⟨by decide +kernel, by decide +kernel⟩, by decide +kernel⟩
theorem wn_L_daysToBirthday : wNm yL_daysToBirthday 3 := ⟨⟨by decide +kernel, by decide +kernel⟩, by decide +kernel⟩
theorem wn_L_greatestWish : wNm yL_greatestWish 3 := ⟨⟨by decide +kernel, by decide +kernel⟩, by decide +kernel⟩
theorem wn_L_hoursUntil : wNm yL_hoursUntil 4 := ⟨⟨by decide +kernel, by decide +kernel⟩, by decide +kernel⟩
theorem wn_L_grantedIn : wNm yL_grantedIn 5 := ⟨⟨by decide +kernel, by decide +kernel⟩, by decide +kernel⟩
theorem wn_L_fallWanted : wNm yL_fallWanted 4 := ⟨⟨by decide +kernel, by decide +kernel⟩, by decide +kernel⟩
theorem wn_L_hoursUntilFull : wNm yL_hoursUntilFull 3 := ⟨⟨by decide +kernel, by decide +kernel⟩, by decide +kernel⟩
theorem wn_L_bestChild : wNm yL_bestChild 3 := ⟨⟨by decide +kernel, by decide +kernel⟩, by decide +kernel⟩
end
section
/-! WAND AND CHILD -/
def fwG (sz du bu he : Nat) : Nat := if he = 0 ∧ sz ≤ bu + du then 1 else 0
def fwD (sz du bu he : Nat) : Nat := if he = 0 ∧ sz ≤ bu + du then du - (sz - bu) else du
def fwB (sz du bu he : Nat) : Nat := if he = 0 ∧ sz ≤ bu + du then bu - sz else bu
def fwH (sz du bu he mk nx : Nat) : Nat := if he = 0 ∧ sz ≤ bu + du then he else if 0 < he then min 48 (he + 1) else if 2 ≤ mk then nx else he
def fwM (sz du bu he mk : Nat) : Nat := if he = 0 ∧ sz ≤ bu + du then mk - 1 else if 0 < he then mk else if 2 ≤ mk then 0 else mk + 1
def fwN (sz du bu he mk nx : Nat) : Nat := if he = 0 ∧ sz ≤ bu + du then nx else if 0 < he then nx else if 2 ≤ mk then min 32 (nx * 2) else nx
def bstD (bd d : Nat) : Nat := if d % 30 = bd then 12 else 0
def bstH (bd bu h : Nat) : Nat := if h % 24 = 0 then bstD bd (h / 24) else bu

set_option maxHeartbeats 4000000 in
set_option maxRecDepth 100000 in
/-- a new wand -/
theorem c_X1_init (l : Launch) (g : wG) (μ : wMu) (zz : Nat) {o : Nat} {n rm fl : Int32} {z0 z1 z2 z3 : Int32} (h0 : μ o = some (.inr (2, [.int z0, .int z1, .int z2, .int z3]))) : wMet l yX1_init cX1_init 4 none 1 0 0 12 g [.ref o, .int n, .int rm, .int fl] μ zz (fun r μ' => r = none ∧ μ' o = some (.inr (2, [.int n, .int rm, .int fl, .int rm])) ∧ ∀ q, q ≠ o → μ' q = μ q) := by
  refine wMet.of (by decide) (Nat.le_of_ble_eq_true rfl) ?_
  intro p e s m below meth c ls hx hb hr hml hown hlocks hin hl hsz hX
  have hl : lv_has ls 4 [(0, .ref o), (1, .int n), (2, .int rm), (3, .int fl)] := hl
  refine lv_aload_n hx hb dX1_init_0 rfl (lv_at hl 0 rfl) ?_
  refine W.objInit hx hb hown (hX.w kw59) (hX.w kInsObj) (hX.w kCdObj) rfl (by rw [hml]; exact hl.1) rfl dX1_init_1 (Nat.le_of_ble_eq_true rfl) (Nat.le_of_ble_eq_true rfl) ?_
  refine W.eq (g2 := F0 m 4 ls []) rfl ?_
  refine lv_aload_n hx hb dX1_init_4 rfl (lv_at hl 0 rfl) ?_
  refine lv_iload_n hx hb dX1_init_5 rfl (lv_at hl 1 rfl) ?_
  refine pX1_0 hx hb hX hown h0 kw60 dX1_init_6 (fun H locs hX => ?_)
  obtain ⟨μ_1, e_2⟩ : ∃ z, z = va_up μ o (some (.inr (2, [.int n, .int z1, .int z2, .int z3]))) := ⟨_, rfl⟩
  rw [← e_2] at hX
  have k_3 : μ_1 o = some (.inr (2, [.int n, .int z1, .int z2, .int z3])) := by rw [e_2]; exact va_up_self _ _ _
  refine lv_aload_n hx hb dX1_init_9 rfl (lv_at hl 0 rfl) ?_
  refine lv_iload_n hx hb dX1_init_10 rfl (lv_at hl 2 rfl) ?_
  refine pX1_1 hx hb hX hown k_3 kw62 dX1_init_11 (fun H locs hX => ?_)
  obtain ⟨μ_4, e_5⟩ : ∃ z, z = va_up μ_1 o (some (.inr (2, [.int n, .int rm, .int z2, .int z3]))) := ⟨_, rfl⟩
  rw [← e_5] at hX
  have k_6 : μ_4 o = some (.inr (2, [.int n, .int rm, .int z2, .int z3])) := by rw [e_5]; exact va_up_self _ _ _
  refine lv_aload_n hx hb dX1_init_14 rfl (lv_at hl 0 rfl) ?_
  refine lv_iload_n hx hb dX1_init_15 rfl (lv_at hl 3 rfl) ?_
  refine pX1_2 hx hb hX hown k_6 kw63 dX1_init_16 (fun H locs hX => ?_)
  obtain ⟨μ_7, e_8⟩ : ∃ z, z = va_up μ_4 o (some (.inr (2, [.int n, .int rm, .int fl, .int z3]))) := ⟨_, rfl⟩
  rw [← e_8] at hX
  have k_9 : μ_7 o = some (.inr (2, [.int n, .int rm, .int fl, .int z3])) := by rw [e_8]; exact va_up_self _ _ _
  refine lv_aload_n hx hb dX1_init_19 rfl (lv_at hl 0 rfl) ?_
  refine lv_iload_n hx hb dX1_init_20 rfl (lv_at hl 2 rfl) ?_
  refine pX1_3 hx hb hX hown k_9 kw65 dX1_init_21 (fun H locs hX => ?_)
  obtain ⟨μ_10, e_11⟩ : ∃ z, z = va_up μ_7 o (some (.inr (2, [.int n, .int rm, .int fl, .int rm]))) := ⟨_, rfl⟩
  rw [← e_11] at hX
  have k_12 : μ_10 o = some (.inr (2, [.int n, .int rm, .int fl, .int rm])) := by rw [e_11]; exact va_up_self _ _ _
  exact w_vret hx hb hr hlocks hX ⟨rfl, k_12, fun q n1 => by rw [e_11, va_up_ne _ _ n1, e_8, va_up_ne _ _ n1, e_5, va_up_ne _ _ n1, e_2, va_up_ne _ _ n1]⟩ ⟨Nat.le_of_ble_eq_true rfl, Nat.le_of_ble_eq_true rfl⟩ dX1_init_24

set_option maxHeartbeats 4000000 in
set_option maxRecDepth 100000 in
/-- the other one's cells -/
theorem c_X1_copyFrom (l : Launch) (g : wG) (μ : wMu) (zz : Nat) {o o2 : Nat} {n rm fl du : Int32} {z0 z1 z2 z3 : Int32} (h0 : μ o = some (.inr (2, [.int z0, .int z1, .int z2, .int z3]))) (h1 : μ o2 = some (.inr (2, [.int n, .int rm, .int fl, .int du]))) (hne : o2 ≠ o) : wMet l yX1_copyFrom cX1_copyFrom 2 none 0 0 0 0 g [.ref o, .ref o2] μ zz (fun r μ' => r = none ∧ μ' o = some (.inr (2, [.int n, .int rm, .int fl, .int du])) ∧ ∀ q, q ≠ o → μ' q = μ q) := by
  refine wMet.of (by decide) (Nat.le_of_ble_eq_true rfl) ?_
  intro p e s m below meth c ls hx hb hr hml hown hlocks hin hl hsz hX
  have hl : lv_has ls 2 [(0, .ref o), (1, .ref o2)] := hl
  refine lv_aload_n hx hb dX1_copyFrom_0 rfl (lv_at hl 0 rfl) ?_
  refine lv_aload_n hx hb dX1_copyFrom_1 rfl (lv_at hl 1 rfl) ?_
  refine gX1_0 hx hb hX hown h1 kw60 dX1_copyFrom_2 ?_
  refine pX1_0 hx hb hX hown h0 kw60 dX1_copyFrom_5 (fun H locs hX => ?_)
  obtain ⟨μ_1, e_2⟩ : ∃ z, z = va_up μ o (some (.inr (2, [.int n, .int z1, .int z2, .int z3]))) := ⟨_, rfl⟩
  rw [← e_2] at hX
  have k_3 : μ_1 o = some (.inr (2, [.int n, .int z1, .int z2, .int z3])) := by rw [e_2]; exact va_up_self _ _ _
  have k_4 := (congrFun e_2 o2).trans ((va_up_ne _ _ hne).trans h1)
  refine lv_aload_n hx hb dX1_copyFrom_8 rfl (lv_at hl 0 rfl) ?_
  refine lv_aload_n hx hb dX1_copyFrom_9 rfl (lv_at hl 1 rfl) ?_
  refine gX1_1 hx hb hX hown k_4 kw62 dX1_copyFrom_10 ?_
  refine pX1_1 hx hb hX hown k_3 kw62 dX1_copyFrom_13 (fun H locs hX => ?_)
  obtain ⟨μ_5, e_6⟩ : ∃ z, z = va_up μ_1 o (some (.inr (2, [.int n, .int rm, .int z2, .int z3]))) := ⟨_, rfl⟩
  rw [← e_6] at hX
  have k_7 : μ_5 o = some (.inr (2, [.int n, .int rm, .int z2, .int z3])) := by rw [e_6]; exact va_up_self _ _ _
  have k_8 := (congrFun e_6 o2).trans ((va_up_ne _ _ hne).trans k_4)
  refine lv_aload_n hx hb dX1_copyFrom_16 rfl (lv_at hl 0 rfl) ?_
  refine lv_aload_n hx hb dX1_copyFrom_17 rfl (lv_at hl 1 rfl) ?_
  refine gX1_2 hx hb hX hown k_8 kw63 dX1_copyFrom_18 ?_
  refine pX1_2 hx hb hX hown k_7 kw63 dX1_copyFrom_21 (fun H locs hX => ?_)
  obtain ⟨μ_9, e_10⟩ : ∃ z, z = va_up μ_5 o (some (.inr (2, [.int n, .int rm, .int fl, .int z3]))) := ⟨_, rfl⟩
  rw [← e_10] at hX
  have k_11 : μ_9 o = some (.inr (2, [.int n, .int rm, .int fl, .int z3])) := by rw [e_10]; exact va_up_self _ _ _
  have k_12 := (congrFun e_10 o2).trans ((va_up_ne _ _ hne).trans k_8)
  refine lv_aload_n hx hb dX1_copyFrom_24 rfl (lv_at hl 0 rfl) ?_
  refine lv_aload_n hx hb dX1_copyFrom_25 rfl (lv_at hl 1 rfl) ?_
  refine gX1_3 hx hb hX hown k_12 kw65 dX1_copyFrom_26 ?_
  refine pX1_3 hx hb hX hown k_11 kw65 dX1_copyFrom_29 (fun H locs hX => ?_)
  obtain ⟨μ_13, e_14⟩ : ∃ z, z = va_up μ_9 o (some (.inr (2, [.int n, .int rm, .int fl, .int du]))) := ⟨_, rfl⟩
  rw [← e_14] at hX
  have k_15 : μ_13 o = some (.inr (2, [.int n, .int rm, .int fl, .int du])) := by rw [e_14]; exact va_up_self _ _ _
  have k_16 := (congrFun e_14 o2).trans ((va_up_ne _ _ hne).trans k_12)
  exact w_vret hx hb hr hlocks hX ⟨rfl, k_15, fun q n1 => by rw [e_14, va_up_ne _ _ n1, e_10, va_up_ne _ _ n1, e_6, va_up_ne _ _ n1, e_2, va_up_ne _ _ n1]⟩ ⟨Nat.le_of_ble_eq_true rfl, Nat.le_of_ble_eq_true rfl⟩ dX1_copyFrom_32

set_option maxHeartbeats 4000000 in
set_option maxRecDepth 100000 in
/-- dust falls -/
theorem c_X1_letFall (l : Launch) (g : wG) (μ : wMu) (zz : Nat) {o : Nat} {n : Int32} {rm fl du : Nat} (h0 : μ o = some (.inr (2, [.int n, .int (nI rm), .int (nI fl), .int (nI du)]))) (b1 : du ≤ rm) (b2 : rm ≤ 60) (b3 : fl ≤ 20) : wMet l yX1_letFall cX1_letFall 2 (some .int) 1 0 0 21 g [.ref o] μ zz (fun r μ' => r = some (.int (nI (min fl (rm - du)))) ∧ μ' o = some (.inr (2, [.int n, .int (nI rm), .int (nI fl), .int (nI (du + min fl (rm - du)))])) ∧ ∀ q, q ≠ o → μ' q = μ q) := by
  refine wMet.of (by decide) (Nat.le_of_ble_eq_true rfl) ?_
  intro p e s m below meth c ls hx hb hr hml hown hlocks hin hl hsz hX
  have hl : lv_has ls 2 [(0, .ref o)] := hl
  refine lv_aload_n hx hb dX1_letFall_0 rfl (lv_at hl 0 rfl) ?_
  refine gX1_2 hx hb hX hown h0 kw63 dX1_letFall_1 ?_
  refine lv_aload_n hx hb dX1_letFall_4 rfl (lv_at hl 0 rfl) ?_
  refine gX1_1 hx hb hX hown h0 kw62 dX1_letFall_5 ?_
  refine lv_aload_n hx hb dX1_letFall_8 rfl (lv_at hl 0 rfl) ?_
  refine gX1_3 hx hb hX hown h0 kw65 dX1_letFall_9 ?_
  refine n_isub hx hb dX1_letFall_12 (pk_sub (by omega)) ?_
  refine n_mmin hx hb (hml.trans hl.1.symm) hX hown kw402 kStMin kInMath kCdMin ⟨Nat.le_of_ble_eq_true rfl, Nat.le_of_ble_eq_true rfl⟩ ⟨Nat.le_of_ble_eq_true rfl, Nat.le_of_ble_eq_true rfl⟩ dX1_letFall_13 (nI_min (by omega) (by omega)) ?_
  refine lv_istore_n (lv' := [(1, .int (nI (min fl (rm - du)))), (0, .ref o)]) hx hb dX1_letFall_16 rfl hl (by decide) rfl (fun ls hl => ?_)
  refine lv_aload_n hx hb dX1_letFall_17 rfl (lv_at hl 1 rfl) ?_
  refine lv_dup hx hb dX1_letFall_18 rfl ?_
  refine gX1_3 hx hb hX hown h0 kw65 dX1_letFall_19 ?_
  refine lv_iload_n hx hb dX1_letFall_22 rfl (lv_at hl 0 rfl) ?_
  refine n_iadd hx hb dX1_letFall_23 (nI_add _ _) ?_
  refine pX1_3 hx hb hX hown h0 kw65 dX1_letFall_24 (fun H locs hX => ?_)
  obtain ⟨μ_1, e_2⟩ : ∃ z, z = va_up μ o (some (.inr (2, [.int n, .int (nI rm), .int (nI fl), .int (nI (du + (min fl (rm - du))))]))) := ⟨_, rfl⟩
  rw [← e_2] at hX
  have k_3 : μ_1 o = some (.inr (2, [.int n, .int (nI rm), .int (nI fl), .int (nI (du + (min fl (rm - du))))])) := by rw [e_2]; exact va_up_self _ _ _
  refine lv_iload_n hx hb dX1_letFall_27 rfl (lv_at hl 0 rfl) ?_
  exact w_iret hx hb hr hlocks hX ⟨rfl, k_3, fun q n1 => by rw [e_2, va_up_ne _ _ n1]⟩ ⟨Nat.le_of_ble_eq_true rfl, Nat.le_of_ble_eq_true rfl⟩ dX1_letFall_28

set_option maxHeartbeats 4000000 in
set_option maxRecDepth 100000 in
/-- full in so many hours -/
theorem c_X1_isFullAfter (l : Launch) (g : wG) (μ : wMu) (zz : Nat) {o : Nat} {n : Int32} {rm fl du h : Nat} (h0 : μ o = some (.inr (2, [.int n, .int (nI rm), .int (nI fl), .int (nI du)]))) (b2 : rm ≤ 60) (b3 : du + fl * h ≤ 100000) : wMet l yX1_isFullAfter cX1_isFullAfter 2 (some .boolean) 0 0 0 0 g [.ref o, .int (nI h)] μ zz (fun r μ' => ((r = some (.int (nI 1)) ∧ rm ≤ du + fl * h) ∨ (r = some (.int (nI 0)) ∧ du + fl * h < rm)) ∧ μ' = μ) := by
  refine wMet.of (by decide) (Nat.le_of_ble_eq_true rfl) ?_
  intro p e s m below meth c ls hx hb hr hml hown hlocks hin hl hsz hX
  have hl : lv_has ls 2 [(0, .ref o), (1, .int (nI h))] := hl
  refine lv_aload_n hx hb dX1_isFullAfter_0 rfl (lv_at hl 0 rfl) ?_
  refine gX1_3 hx hb hX hown h0 kw65 dX1_isFullAfter_1 ?_
  refine lv_aload_n hx hb dX1_isFullAfter_4 rfl (lv_at hl 0 rfl) ?_
  refine gX1_2 hx hb hX hown h0 kw63 dX1_isFullAfter_5 ?_
  refine lv_iload_n hx hb dX1_isFullAfter_8 rfl (lv_at hl 1 rfl) ?_
  refine n_imul hx hb dX1_isFullAfter_9 (pk_mul _ _) ?_
  refine n_iadd hx hb dX1_isFullAfter_10 (nI_add _ _) ?_
  refine lv_aload_n hx hb dX1_isFullAfter_11 rfl (lv_at hl 0 rfl) ?_
  refine gX1_1 hx hb hX hown h0 kw62 dX1_isFullAfter_12 ?_
  refine n_lt (tgt := 22) hx hb (by omega) (by omega) dX1_isFullAfter_15 (by decide) (fun c_1 => ?_) (fun c_1 => ?_)
  · skip
    refine lv_iconst (v := nI 0) hx hb dX1_isFullAfter_22 (by decide) ?_
    exact w_zret hx hb hr hlocks hX (by first | rfl | decide) ⟨Or.inr ⟨rfl, by omega⟩, rfl⟩ ⟨Nat.le_of_ble_eq_true rfl, Nat.le_of_ble_eq_true rfl⟩ dX1_isFullAfter_23
  · skip
    refine lv_iconst (v := nI 1) hx hb dX1_isFullAfter_18 (by decide) ?_
    refine lv_goto (tgt := 23) hx hb dX1_isFullAfter_19 (by decide) ?_
    exact w_zret hx hb hr hlocks hX (by first | rfl | decide) ⟨Or.inl ⟨rfl, by omega⟩, rfl⟩ ⟨Nat.le_of_ble_eq_true rfl, Nat.le_of_ble_eq_true rfl⟩ dX1_isFullAfter_23

set_option maxHeartbeats 4000000 in
set_option maxRecDepth 100000 in
/-- a new child -/
theorem c_X0_init (l : Launch) (g : wG) (μ : wMu) (zz : Nat) {o w : Nat} {bd : Int32} {z1 : Int32} (h0 : μ o = some (.inr (1, [.null, .int z1, .int 0, .int 0, .int 0, .int 0]))) : wMet l yX0_init cX0_init 3 none 1 0 0 12 g [.ref o, .ref w, .int bd] μ zz (fun r μ' => r = none ∧ μ' o = some (.inr (1, [.ref w, .int bd, .int 0, .int 0, .int 0, .int (nI 4)])) ∧ ∀ q, q ≠ o → μ' q = μ q) := by
  refine wMet.of (by decide) (Nat.le_of_ble_eq_true rfl) ?_
  intro p e s m below meth c ls hx hb hr hml hown hlocks hin hl hsz hX
  have hl : lv_has ls 3 [(0, .ref o), (1, .ref w), (2, .int bd)] := hl
  refine lv_aload_n hx hb dX0_init_0 rfl (lv_at hl 0 rfl) ?_
  refine W.objInit hx hb hown (hX.w kw82) (hX.w kInsObj) (hX.w kCdObj) rfl (by rw [hml]; exact hl.1) rfl dX0_init_1 (Nat.le_of_ble_eq_true rfl) (Nat.le_of_ble_eq_true rfl) ?_
  refine W.eq (g2 := F0 m 4 ls []) rfl ?_
  refine lv_aload_n hx hb dX0_init_4 rfl (lv_at hl 0 rfl) ?_
  refine lv_aload_n hx hb dX0_init_5 rfl (lv_at hl 1 rfl) ?_
  refine pX0_0 hx hb hX hown h0 kw83 dX0_init_6 (fun H locs hX => ?_)
  obtain ⟨μ_1, e_2⟩ : ∃ z, z = va_up μ o (some (.inr (1, [.ref w, .int z1, .int 0, .int 0, .int 0, .int 0]))) := ⟨_, rfl⟩
  rw [← e_2] at hX
  have k_3 : μ_1 o = some (.inr (1, [.ref w, .int z1, .int 0, .int 0, .int 0, .int 0])) := by rw [e_2]; exact va_up_self _ _ _
  refine lv_aload_n hx hb dX0_init_9 rfl (lv_at hl 0 rfl) ?_
  refine lv_iload_n hx hb dX0_init_10 rfl (lv_at hl 2 rfl) ?_
  refine pX0_1 hx hb hX hown k_3 kw85 dX0_init_11 (fun H locs hX => ?_)
  obtain ⟨μ_4, e_5⟩ : ∃ z, z = va_up μ_1 o (some (.inr (1, [.ref w, .int bd, .int 0, .int 0, .int 0, .int 0]))) := ⟨_, rfl⟩
  rw [← e_5] at hX
  have k_6 : μ_4 o = some (.inr (1, [.ref w, .int bd, .int 0, .int 0, .int 0, .int 0])) := by rw [e_5]; exact va_up_self _ _ _
  refine lv_aload_n hx hb dX0_init_14 rfl (lv_at hl 0 rfl) ?_
  refine lv_iconst (v := nI 4) hx hb dX0_init_15 (by decide) ?_
  refine pX0_5 hx hb hX hown k_6 kw93 dX0_init_16 (fun H locs hX => ?_)
  obtain ⟨μ_7, e_8⟩ : ∃ z, z = va_up μ_4 o (some (.inr (1, [.ref w, .int bd, .int 0, .int 0, .int 0, .int (nI 4)]))) := ⟨_, rfl⟩
  rw [← e_8] at hX
  have k_9 : μ_7 o = some (.inr (1, [.ref w, .int bd, .int 0, .int 0, .int 0, .int (nI 4)])) := by rw [e_8]; exact va_up_self _ _ _
  exact w_vret hx hb hr hlocks hX ⟨rfl, k_9, fun q n1 => by rw [e_8, va_up_ne _ _ n1, e_5, va_up_ne _ _ n1, e_2, va_up_ne _ _ n1]⟩ ⟨Nat.le_of_ble_eq_true rfl, Nat.le_of_ble_eq_true rfl⟩ dX0_init_19

set_option maxHeartbeats 4000000 in
set_option maxRecDepth 100000 in
/-- the other one's cells but the wand -/
theorem c_X0_copyFrom (l : Launch) (g : wG) (μ : wMu) (zz : Nat) {o o2 w0 w2 : Nat} {bd bu he mk nx : Int32} {z1 z2 z3 z4 z5 : Int32} (h0 : μ o = some (.inr (1, [.ref w0, .int z1, .int z2, .int z3, .int z4, .int z5]))) (h1 : μ o2 = some (.inr (1, [.ref w2, .int bd, .int bu, .int he, .int mk, .int nx]))) (hne : o2 ≠ o) : wMet l yX0_copyFrom cX0_copyFrom 2 none 0 0 0 0 g [.ref o, .ref o2] μ zz (fun r μ' => r = none ∧ μ' o = some (.inr (1, [.ref w0, .int bd, .int bu, .int he, .int mk, .int nx])) ∧ ∀ q, q ≠ o → μ' q = μ q) := by
  refine wMet.of (by decide) (Nat.le_of_ble_eq_true rfl) ?_
  intro p e s m below meth c ls hx hb hr hml hown hlocks hin hl hsz hX
  have hl : lv_has ls 2 [(0, .ref o), (1, .ref o2)] := hl
  refine lv_aload_n hx hb dX0_copyFrom_0 rfl (lv_at hl 0 rfl) ?_
  refine lv_aload_n hx hb dX0_copyFrom_1 rfl (lv_at hl 1 rfl) ?_
  refine gX0_1 hx hb hX hown h1 kw85 dX0_copyFrom_2 ?_
  refine pX0_1 hx hb hX hown h0 kw85 dX0_copyFrom_5 (fun H locs hX => ?_)
  obtain ⟨μ_1, e_2⟩ : ∃ z, z = va_up μ o (some (.inr (1, [.ref w0, .int bd, .int z2, .int z3, .int z4, .int z5]))) := ⟨_, rfl⟩
  rw [← e_2] at hX
  have k_3 : μ_1 o = some (.inr (1, [.ref w0, .int bd, .int z2, .int z3, .int z4, .int z5])) := by rw [e_2]; exact va_up_self _ _ _
  have k_4 := (congrFun e_2 o2).trans ((va_up_ne _ _ hne).trans h1)
  refine lv_aload_n hx hb dX0_copyFrom_8 rfl (lv_at hl 0 rfl) ?_
  refine lv_aload_n hx hb dX0_copyFrom_9 rfl (lv_at hl 1 rfl) ?_
  refine gX0_2 hx hb hX hown k_4 kw87 dX0_copyFrom_10 ?_
  refine pX0_2 hx hb hX hown k_3 kw87 dX0_copyFrom_13 (fun H locs hX => ?_)
  obtain ⟨μ_5, e_6⟩ : ∃ z, z = va_up μ_1 o (some (.inr (1, [.ref w0, .int bd, .int bu, .int z3, .int z4, .int z5]))) := ⟨_, rfl⟩
  rw [← e_6] at hX
  have k_7 : μ_5 o = some (.inr (1, [.ref w0, .int bd, .int bu, .int z3, .int z4, .int z5])) := by rw [e_6]; exact va_up_self _ _ _
  have k_8 := (congrFun e_6 o2).trans ((va_up_ne _ _ hne).trans k_4)
  refine lv_aload_n hx hb dX0_copyFrom_16 rfl (lv_at hl 0 rfl) ?_
  refine lv_aload_n hx hb dX0_copyFrom_17 rfl (lv_at hl 1 rfl) ?_
  refine gX0_3 hx hb hX hown k_8 kw89 dX0_copyFrom_18 ?_
  refine pX0_3 hx hb hX hown k_7 kw89 dX0_copyFrom_21 (fun H locs hX => ?_)
  obtain ⟨μ_9, e_10⟩ : ∃ z, z = va_up μ_5 o (some (.inr (1, [.ref w0, .int bd, .int bu, .int he, .int z4, .int z5]))) := ⟨_, rfl⟩
  rw [← e_10] at hX
  have k_11 : μ_9 o = some (.inr (1, [.ref w0, .int bd, .int bu, .int he, .int z4, .int z5])) := by rw [e_10]; exact va_up_self _ _ _
  have k_12 := (congrFun e_10 o2).trans ((va_up_ne _ _ hne).trans k_8)
  refine lv_aload_n hx hb dX0_copyFrom_24 rfl (lv_at hl 0 rfl) ?_
  refine lv_aload_n hx hb dX0_copyFrom_25 rfl (lv_at hl 1 rfl) ?_
  refine gX0_4 hx hb hX hown k_12 kw91 dX0_copyFrom_26 ?_
  refine pX0_4 hx hb hX hown k_11 kw91 dX0_copyFrom_29 (fun H locs hX => ?_)
  obtain ⟨μ_13, e_14⟩ : ∃ z, z = va_up μ_9 o (some (.inr (1, [.ref w0, .int bd, .int bu, .int he, .int mk, .int z5]))) := ⟨_, rfl⟩
  rw [← e_14] at hX
  have k_15 : μ_13 o = some (.inr (1, [.ref w0, .int bd, .int bu, .int he, .int mk, .int z5])) := by rw [e_14]; exact va_up_self _ _ _
  have k_16 := (congrFun e_14 o2).trans ((va_up_ne _ _ hne).trans k_12)
  refine lv_aload_n hx hb dX0_copyFrom_32 rfl (lv_at hl 0 rfl) ?_
  refine lv_aload_n hx hb dX0_copyFrom_33 rfl (lv_at hl 1 rfl) ?_
  refine gX0_5 hx hb hX hown k_16 kw93 dX0_copyFrom_34 ?_
  refine pX0_5 hx hb hX hown k_15 kw93 dX0_copyFrom_37 (fun H locs hX => ?_)
  obtain ⟨μ_17, e_18⟩ : ∃ z, z = va_up μ_13 o (some (.inr (1, [.ref w0, .int bd, .int bu, .int he, .int mk, .int nx]))) := ⟨_, rfl⟩
  rw [← e_18] at hX
  have k_19 : μ_17 o = some (.inr (1, [.ref w0, .int bd, .int bu, .int he, .int mk, .int nx])) := by rw [e_18]; exact va_up_self _ _ _
  have k_20 := (congrFun e_18 o2).trans ((va_up_ne _ _ hne).trans k_16)
  exact w_vret hx hb hr hlocks hX ⟨rfl, k_19, fun q n1 => by rw [e_18, va_up_ne _ _ n1, e_14, va_up_ne _ _ n1, e_10, va_up_ne _ _ n1, e_6, va_up_ne _ _ n1, e_2, va_up_ne _ _ n1]⟩ ⟨Nat.le_of_ble_eq_true rfl, Nat.le_of_ble_eq_true rfl⟩ dX0_copyFrom_40

set_option maxHeartbeats 4000000 in
set_option maxRecDepth 100000 in
/-- punished or not -/
theorem c_X0_isPunished (l : Launch) (g : wG) (μ : wMu) (zz : Nat) {o w : Nat} {bd bu he mk nx : Nat} (h0 : μ o = some (.inr (1, [.ref w, .int (nI bd), .int (nI bu), .int (nI he), .int (nI mk), .int (nI nx)]))) (b2 : he ≤ 48) : wMet l yX0_isPunished cX0_isPunished 1 (some .boolean) 0 0 0 0 g [.ref o] μ zz (fun r μ' => ((r = some (.int (nI 1)) ∧ 0 < he) ∨ (r = some (.int (nI 0)) ∧ he = 0)) ∧ μ' = μ) := by
  refine wMet.of (by decide) (Nat.le_of_ble_eq_true rfl) ?_
  intro p e s m below meth c ls hx hb hr hml hown hlocks hin hl hsz hX
  have hl : lv_has ls 1 [(0, .ref o)] := hl
  refine lv_aload_n hx hb dX0_isPunished_0 rfl (lv_at hl 0 rfl) ?_
  refine gX0_3 hx hb hX hown h0 kw89 dX0_isPunished_1 ?_
  refine n_if_le (tgt := 11) hx hb (by omega) dX0_isPunished_4 (by decide) (fun c_1 => ?_) (fun c_1 => ?_)
  · skip
    refine lv_iconst (v := nI 0) hx hb dX0_isPunished_11 (by decide) ?_
    exact w_zret hx hb hr hlocks hX (by first | rfl | decide) ⟨Or.inr ⟨rfl, by omega⟩, rfl⟩ ⟨Nat.le_of_ble_eq_true rfl, Nat.le_of_ble_eq_true rfl⟩ dX0_isPunished_12
  · skip
    refine lv_iconst (v := nI 1) hx hb dX0_isPunished_7 (by decide) ?_
    refine lv_goto (tgt := 12) hx hb dX0_isPunished_8 (by decide) ?_
    exact w_zret hx hb hr hlocks hX (by first | rfl | decide) ⟨Or.inl ⟨rfl, by omega⟩, rfl⟩ ⟨Nat.le_of_ble_eq_true rfl, Nat.le_of_ble_eq_true rfl⟩ dX0_isPunished_12

set_option maxHeartbeats 4000000 in
set_option maxRecDepth 100000 in
/-- what it may take -/
theorem c_X0_grainsAtHand (l : Launch) (g : wG) (μ : wMu) (zz : Nat) {o w : Nat} {bd bu he mk nx : Nat} (h0 : μ o = some (.inr (1, [.ref w, .int (nI bd), .int (nI bu), .int (nI he), .int (nI mk), .int (nI nx)]))) {n : Int32} {rm fl du : Nat} (h1 : μ w = some (.inr (2, [.int n, .int (nI rm), .int (nI fl), .int (nI du)]))) (b1 : bu ≤ 12) (b2 : he ≤ 48) (b5 : du ≤ 60)  : wMet l yX0_grainsAtHand cX0_grainsAtHand 1 (some .int) 1 0 0 20 g [.ref o] μ zz (fun r μ' => ((r = some (.int (nI 0)) ∧ 0 < he) ∨ (r = some (.int (nI (bu + du))) ∧ he = 0)) ∧ μ' = μ) := by
  refine wMet.of (by decide) (Nat.le_of_ble_eq_true rfl) ?_
  intro p e s m below meth c ls hx hb hr hml hown hlocks hin hl hsz hX
  have hl : lv_has ls 1 [(0, .ref o)] := hl
  refine lv_aload_n hx hb dX0_grainsAtHand_0 rfl (lv_at hl 0 rfl) ?_
  refine w_call (w_runV (n := 0) (As := []) (rest := []) hx hb hml hown hX (c_X0_isPunished l g μ s.heap.size h0 b2) kw179 kw6 kw286 kw178 kp0 wn_X0_isPunished rfl h0 rfl ⟨Nat.le_of_ble_eq_true rfl, Nat.le_of_ble_eq_true rfl⟩ hl.1 rfl (Nat.le_of_ble_eq_true rfl) dX0_grainsAtHand_1 ⟨Nat.le_of_ble_eq_true rfl, Nat.le_of_ble_eq_true rfl⟩) hX (fun r_3 μ_1 H locs q_2 hX hz => ?_)
  obtain ⟨q_7, e_6⟩ := q_2
  rw [e_6] at hX
  obtain ⟨rfl, p_4⟩ | ⟨rfl, p_5⟩ := q_7
  · skip
    refine W.eq (g2 := F0 m 4 ls [.int (nI 1)]) rfl ?_
    refine n_if_eq (tgt := 11) hx hb (by omega) dX0_grainsAtHand_4 (by decide) (fun h => absurd h (by omega)) (fun _ => ?_)
    refine lv_iconst (v := nI 0) hx hb dX0_grainsAtHand_7 (by decide) ?_
    refine lv_goto (tgt := 23) hx hb dX0_grainsAtHand_8 (by decide) ?_
    exact w_iret hx hb hr hlocks hX ⟨Or.inl ⟨rfl, by omega⟩, rfl⟩ ⟨Nat.le_of_ble_eq_true rfl, Nat.le_of_ble_eq_true rfl⟩ dX0_grainsAtHand_23
  · skip
    refine W.eq (g2 := F0 m 4 ls [.int (nI 0)]) rfl ?_
    refine n_if_eq (tgt := 11) hx hb (by omega) dX0_grainsAtHand_4 (by decide) (fun _ => ?_) (fun h => absurd h (by omega))
    refine lv_aload_n hx hb dX0_grainsAtHand_11 rfl (lv_at hl 0 rfl) ?_
    refine gX0_2 hx hb hX hown h0 kw87 dX0_grainsAtHand_12 ?_
    refine lv_aload_n hx hb dX0_grainsAtHand_15 rfl (lv_at hl 0 rfl) ?_
    refine gX0_0 hx hb hX hown h0 kw83 dX0_grainsAtHand_16 ?_
    refine gnX1_3 hx hb hX hown h1 kw66 dX0_grainsAtHand_19 ?_
    refine n_iadd hx hb dX0_grainsAtHand_22 (nI_add _ _) ?_
    exact w_iret hx hb hr hlocks hX ⟨Or.inr ⟨rfl, by omega⟩, rfl⟩ ⟨Nat.le_of_ble_eq_true rfl, Nat.le_of_ble_eq_true rfl⟩ dX0_grainsAtHand_23

set_option maxHeartbeats 4000000 in
set_option maxRecDepth 100000 in
/-- whether it is granted -/
theorem c_X0_canHave (l : Launch) (g : wG) (μ : wMu) (zz : Nat) {o w : Nat} {bd bu he mk nx : Nat} (h0 : μ o = some (.inr (1, [.ref w, .int (nI bd), .int (nI bu), .int (nI he), .int (nI mk), .int (nI nx)]))) {n : Int32} {rm fl du : Nat} (h1 : μ w = some (.inr (2, [.int n, .int (nI rm), .int (nI fl), .int (nI du)]))) {sz : Nat} (b1 : bu ≤ 12) (b2 : he ≤ 48) (b5 : du ≤ 60) (b6 : 1 ≤ sz) (b7 : sz ≤ 20) : wMet l yX0_canHave cX0_canHave 2 (some .boolean) 2 0 0 40 g [.ref o, .int (nI sz)] μ zz (fun r μ' => ((r = some (.int (nI 1)) ∧ he = 0 ∧ sz ≤ bu + du) ∨ (r = some (.int (nI 0)) ∧ ¬ (he = 0 ∧ sz ≤ bu + du))) ∧ μ' = μ) := by
  refine wMet.of (by decide) (Nat.le_of_ble_eq_true rfl) ?_
  intro p e s m below meth c ls hx hb hr hml hown hlocks hin hl hsz hX
  have hl : lv_has ls 2 [(0, .ref o), (1, .int (nI sz))] := hl
  refine lv_aload_n hx hb dX0_canHave_0 rfl (lv_at hl 0 rfl) ?_
  refine w_call (w_runV (n := 0) (As := []) (rest := []) hx hb hml hown hX (c_X0_grainsAtHand l g μ s.heap.size h0 h1 b1 b2 b5) kw285 kw6 kw282 kw284 kp3 wn_X0_grainsAtHand rfl h0 rfl ⟨Nat.le_of_ble_eq_true rfl, Nat.le_of_ble_eq_true rfl⟩ hl.1 rfl (Nat.le_of_ble_eq_true rfl) dX0_canHave_1 ⟨Nat.le_of_ble_eq_true rfl, Nat.le_of_ble_eq_true rfl⟩) hX (fun r_3 μ_1 H locs q_2 hX hz => ?_)
  obtain ⟨q_7, e_6⟩ := q_2
  rw [e_6] at hX
  obtain ⟨rfl, p_4⟩ | ⟨rfl, p_5⟩ := q_7
  · skip
    refine W.eq (g2 := F0 m 4 ls [.int (nI 0)]) rfl ?_
    refine lv_iload_n hx hb dX0_canHave_4 rfl (lv_at hl 1 rfl) ?_
    refine n_lt (tgt := 12) hx hb (by omega) (by omega) dX0_canHave_5 (by decide) (fun c_8 => ?_) (fun c_8 => ?_)
    · skip
      refine lv_iconst (v := nI 0) hx hb dX0_canHave_12 (by decide) ?_
      exact w_zret hx hb hr hlocks hX (by first | rfl | decide) ⟨Or.inr ⟨rfl, by omega⟩, rfl⟩ ⟨Nat.le_of_ble_eq_true rfl, Nat.le_of_ble_eq_true rfl⟩ dX0_canHave_13
    · skip
      refine lv_iconst (v := nI 1) hx hb dX0_canHave_8 (by decide) ?_
      refine lv_goto (tgt := 13) hx hb dX0_canHave_9 (by decide) ?_
      exact w_zret hx hb hr hlocks hX (by first | rfl | decide) ⟨Or.inl ⟨rfl, by omega⟩, rfl⟩ ⟨Nat.le_of_ble_eq_true rfl, Nat.le_of_ble_eq_true rfl⟩ dX0_canHave_13
  · skip
    refine W.eq (g2 := F0 m 4 ls [.int (nI (bu + du))]) rfl ?_
    refine lv_iload_n hx hb dX0_canHave_4 rfl (lv_at hl 1 rfl) ?_
    refine n_lt (tgt := 12) hx hb (by omega) (by omega) dX0_canHave_5 (by decide) (fun c_9 => ?_) (fun c_9 => ?_)
    · skip
      refine lv_iconst (v := nI 0) hx hb dX0_canHave_12 (by decide) ?_
      exact w_zret hx hb hr hlocks hX (by first | rfl | decide) ⟨Or.inr ⟨rfl, by omega⟩, rfl⟩ ⟨Nat.le_of_ble_eq_true rfl, Nat.le_of_ble_eq_true rfl⟩ dX0_canHave_13
    · skip
      refine lv_iconst (v := nI 1) hx hb dX0_canHave_8 (by decide) ?_
      refine lv_goto (tgt := 13) hx hb dX0_canHave_9 (by decide) ?_
      exact w_zret hx hb hr hlocks hX (by first | rfl | decide) ⟨Or.inl ⟨rfl, by omega⟩, rfl⟩ ⟨Nat.le_of_ble_eq_true rfl, Nat.le_of_ble_eq_true rfl⟩ dX0_canHave_13

set_option maxHeartbeats 4000000 in
set_option maxRecDepth 100000 in
/-- what is left in the wand -/
theorem c_X0_dustLeftAfter (l : Launch) (g : wG) (μ : wMu) (zz : Nat) {o w : Nat} {bd bu he mk nx : Nat} (h0 : μ o = some (.inr (1, [.ref w, .int (nI bd), .int (nI bu), .int (nI he), .int (nI mk), .int (nI nx)]))) {n : Int32} {rm fl du : Nat} (h1 : μ w = some (.inr (2, [.int n, .int (nI rm), .int (nI fl), .int (nI du)]))) {sz : Nat} (b1 : bu ≤ 12) (b5 : du ≤ 60) (b7 : sz ≤ 20) (b8 : sz ≤ bu + du) : wMet l yX0_dustLeftAfter cX0_dustLeftAfter 2 (some .int) 1 0 0 21 g [.ref o, .int (nI sz)] μ zz (fun r μ' => r = some (.int (nI (du - (sz - bu)))) ∧ μ' = μ) := by
  refine wMet.of (by decide) (Nat.le_of_ble_eq_true rfl) ?_
  intro p e s m below meth c ls hx hb hr hml hown hlocks hin hl hsz hX
  have hl : lv_has ls 2 [(0, .ref o), (1, .int (nI sz))] := hl
  refine lv_aload_n hx hb dX0_dustLeftAfter_0 rfl (lv_at hl 0 rfl) ?_
  refine gX0_0 hx hb hX hown h0 kw83 dX0_dustLeftAfter_1 ?_
  refine gnX1_3 hx hb hX hown h1 kw66 dX0_dustLeftAfter_4 ?_
  refine lv_iconst (v := nI 0) hx hb dX0_dustLeftAfter_7 (by decide) ?_
  refine lv_iload_n hx hb dX0_dustLeftAfter_8 rfl (lv_at hl 1 rfl) ?_
  refine lv_aload_n hx hb dX0_dustLeftAfter_9 rfl (lv_at hl 0 rfl) ?_
  refine gX0_2 hx hb hX hown h0 kw87 dX0_dustLeftAfter_10 ?_
  refine n_isub hx hb dX0_dustLeftAfter_13 rfl ?_
  refine n_mmax hx hb (hml.trans hl.1.symm) hX hown kw291 kStMax kInMath kCdMax ⟨Nat.le_of_ble_eq_true rfl, Nat.le_of_ble_eq_true rfl⟩ ⟨Nat.le_of_ble_eq_true rfl, Nat.le_of_ble_eq_true rfl⟩ dX0_dustLeftAfter_14 (nI_max0 (by omega) (by omega)) ?_
  refine n_isub hx hb dX0_dustLeftAfter_17 (pk_sub (by omega)) ?_
  exact w_iret hx hb hr hlocks hX ⟨rfl, rfl⟩ ⟨Nat.le_of_ble_eq_true rfl, Nat.le_of_ble_eq_true rfl⟩ dX0_dustLeftAfter_18

set_option maxHeartbeats 4000000 in
set_option maxRecDepth 100000 in
/-- the grains are taken -/
theorem c_X0_takeGrains (l : Launch) (g : wG) (μ : wMu) (zz : Nat) {o w : Nat} {bd bu he mk nx : Nat} (h0 : μ o = some (.inr (1, [.ref w, .int (nI bd), .int (nI bu), .int (nI he), .int (nI mk), .int (nI nx)]))) {n : Int32} {rm fl du : Nat} (h1 : μ w = some (.inr (2, [.int n, .int (nI rm), .int (nI fl), .int (nI du)]))) {sz : Nat} (hne : o ≠ w) (b1 : bu ≤ 12) (b5 : du ≤ 60) (b7 : sz ≤ 20) (b8 : sz ≤ bu + du) : wMet l yX0_takeGrains cX0_takeGrains 3 none 2 0 0 42 g [.ref o, .int (nI sz)] μ zz (fun r μ' => r = none ∧ μ' o = some (.inr (1, [.ref w, .int (nI bd), .int (nI (bu - sz)), .int (nI he), .int (nI mk), .int (nI nx)])) ∧ μ' w = some (.inr (2, [.int n, .int (nI rm), .int (nI fl), .int (nI (du - (sz - bu)))])) ∧ ∀ q, q ≠ o → q ≠ w → μ' q = μ q) := by
  refine wMet.of (by decide) (Nat.le_of_ble_eq_true rfl) ?_
  intro p e s m below meth c ls hx hb hr hml hown hlocks hin hl hsz hX
  have hl : lv_has ls 3 [(0, .ref o), (1, .int (nI sz))] := hl
  refine lv_aload_n hx hb dX0_takeGrains_0 rfl (lv_at hl 0 rfl) ?_
  refine lv_iload_n hx hb dX0_takeGrains_1 rfl (lv_at hl 1 rfl) ?_
  refine w_call (w_runV (n := 1) (As := [.int (nI sz)]) (rest := []) hx hb hml hown hX (c_X0_dustLeftAfter l g μ s.heap.size h0 h1 b1 b5 b7 b8) kw290 kw6 kw428 kw289 kp4 wn_X0_dustLeftAfter rfl h0 rfl ⟨Nat.le_of_ble_eq_true rfl, Nat.le_of_ble_eq_true rfl⟩ hl.1 rfl (Nat.le_of_ble_eq_true rfl) dX0_takeGrains_2 ⟨Nat.le_of_ble_eq_true rfl, Nat.le_of_ble_eq_true rfl⟩) hX (fun r_3 μ_1 H locs q_2 hX hz => ?_)
  obtain ⟨rfl, e_4⟩ := q_2
  rw [e_4] at hX
  refine W.eq (g2 := F0 m 5 ls [.int (nI (du - (sz - bu)))]) rfl ?_
  refine lv_istore_n (lv' := [(2, .int (nI (du - (sz - bu)))), (0, .ref o), (1, .int (nI sz))]) hx hb dX0_takeGrains_5 rfl hl (by decide) rfl (fun ls hl => ?_)
  refine lv_aload_n hx hb dX0_takeGrains_6 rfl (lv_at hl 1 rfl) ?_
  refine lv_iconst (v := nI 0) hx hb dX0_takeGrains_7 (by decide) ?_
  refine lv_aload_n hx hb dX0_takeGrains_8 rfl (lv_at hl 1 rfl) ?_
  refine gX0_2 hx hb hX hown h0 kw87 dX0_takeGrains_9 ?_
  refine lv_iload_n hx hb dX0_takeGrains_12 rfl (lv_at hl 2 rfl) ?_
  refine n_isub hx hb dX0_takeGrains_13 rfl ?_
  refine n_mmax hx hb (hml.trans hl.1.symm) hX hown kw291 kStMax kInMath kCdMax ⟨Nat.le_of_ble_eq_true rfl, Nat.le_of_ble_eq_true rfl⟩ ⟨Nat.le_of_ble_eq_true rfl, Nat.le_of_ble_eq_true rfl⟩ dX0_takeGrains_14 (nI_max0 (by omega) (by omega)) ?_
  refine pX0_2 hx hb hX hown h0 kw87 dX0_takeGrains_17 (fun H locs hX => ?_)
  obtain ⟨μ_5, e_6⟩ : ∃ z, z = va_up μ o (some (.inr (1, [.ref w, .int (nI bd), .int (nI (bu - sz)), .int (nI he), .int (nI mk), .int (nI nx)]))) := ⟨_, rfl⟩
  rw [← e_6] at hX
  have k_7 : μ_5 o = some (.inr (1, [.ref w, .int (nI bd), .int (nI (bu - sz)), .int (nI he), .int (nI mk), .int (nI nx)])) := by rw [e_6]; exact va_up_self _ _ _
  have k_8 := (congrFun e_6 w).trans ((va_up_ne _ _ (Ne.symm hne)).trans h1)
  refine lv_aload_n hx hb dX0_takeGrains_20 rfl (lv_at hl 1 rfl) ?_
  refine gX0_0 hx hb hX hown k_7 kw83 dX0_takeGrains_21 ?_
  refine lv_iload_n hx hb dX0_takeGrains_24 rfl (lv_at hl 0 rfl) ?_
  refine pnX1_3 hx hb hX hown k_8 kw66 dX0_takeGrains_25 (fun H locs hX => ?_)
  obtain ⟨μ_9, e_10⟩ : ∃ z, z = va_up μ_5 w (some (.inr (2, [.int n, .int (nI rm), .int (nI fl), .int (nI (du - (sz - bu)))]))) := ⟨_, rfl⟩
  rw [← e_10] at hX
  have k_11 : μ_9 w = some (.inr (2, [.int n, .int (nI rm), .int (nI fl), .int (nI (du - (sz - bu)))])) := by rw [e_10]; exact va_up_self _ _ _
  have k_12 := (congrFun e_10 o).trans ((va_up_ne _ _ hne).trans k_7)
  exact w_vret hx hb hr hlocks hX ⟨rfl, k_12, k_11, fun q n1 n2 => by rw [e_10, va_up_ne _ _ n2, e_6, va_up_ne _ _ n1]⟩ ⟨Nat.le_of_ble_eq_true rfl, Nat.le_of_ble_eq_true rfl⟩ dX0_takeGrains_28

set_option maxHeartbeats 4000000 in
set_option maxRecDepth 100000 in
/-- a mark more -/
theorem c_X0_takeMark (l : Launch) (g : wG) (μ : wMu) (zz : Nat) {o w : Nat} {bd bu he mk nx : Nat} (h0 : μ o = some (.inr (1, [.ref w, .int (nI bd), .int (nI bu), .int (nI he), .int (nI mk), .int (nI nx)]))) (b3 : mk ≤ 2) (b4 : nx ≤ 32) : wMet l yX0_takeMark cX0_takeMark 1 none 1 0 0 21 g [.ref o] μ zz (fun r μ' => r = none ∧ μ' o = some (.inr (1, [.ref w, .int (nI bd), .int (nI bu), .int (nI (if 2 ≤ mk then nx else he)), .int (nI (if 2 ≤ mk then 0 else mk + 1)), .int (nI (if 2 ≤ mk then min 32 (nx * 2) else nx))])) ∧ ∀ q, q ≠ o → μ' q = μ q) := by
  refine wMet.of (by decide) (Nat.le_of_ble_eq_true rfl) ?_
  intro p e s m below meth c ls hx hb hr hml hown hlocks hin hl hsz hX
  have hl : lv_has ls 1 [(0, .ref o)] := hl
  refine lv_aload_n hx hb dX0_takeMark_0 rfl (lv_at hl 0 rfl) ?_
  refine lv_dup hx hb dX0_takeMark_1 rfl ?_
  refine gX0_4 hx hb hX hown h0 kw91 dX0_takeMark_2 ?_
  refine lv_iconst (v := nI 1) hx hb dX0_takeMark_5 (by decide) ?_
  refine n_iadd hx hb dX0_takeMark_6 (nI_add _ _) ?_
  refine pX0_4 hx hb hX hown h0 kw91 dX0_takeMark_7 (fun H locs hX => ?_)
  obtain ⟨μ_1, e_2⟩ : ∃ z, z = va_up μ o (some (.inr (1, [.ref w, .int (nI bd), .int (nI bu), .int (nI he), .int (nI (mk + 1)), .int (nI nx)]))) := ⟨_, rfl⟩
  rw [← e_2] at hX
  have k_3 : μ_1 o = some (.inr (1, [.ref w, .int (nI bd), .int (nI bu), .int (nI he), .int (nI (mk + 1)), .int (nI nx)])) := by rw [e_2]; exact va_up_self _ _ _
  refine lv_aload_n hx hb dX0_takeMark_10 rfl (lv_at hl 0 rfl) ?_
  refine gX0_4 hx hb hX hown k_3 kw91 dX0_takeMark_11 ?_
  refine lv_iconst (v := nI 3) hx hb dX0_takeMark_14 (by decide) ?_
  refine n_lt (tgt := 46) hx hb (by omega) (by omega) dX0_takeMark_15 (by decide) (fun c_4 => ?_) (fun c_4 => ?_)
  · skip
    exact w_vret hx hb hr hlocks hX ⟨rfl, by simp only [if_neg (show ¬ 2 ≤ mk by omega)]; exact k_3, fun q n1 => by rw [e_2, va_up_ne _ _ n1]⟩ ⟨Nat.le_of_ble_eq_true rfl, Nat.le_of_ble_eq_true rfl⟩ dX0_takeMark_46
  · skip
    refine lv_aload_n hx hb dX0_takeMark_18 rfl (lv_at hl 0 rfl) ?_
    refine lv_aload_n hx hb dX0_takeMark_19 rfl (lv_at hl 0 rfl) ?_
    refine gX0_5 hx hb hX hown k_3 kw93 dX0_takeMark_20 ?_
    refine pX0_3 hx hb hX hown k_3 kw89 dX0_takeMark_23 (fun H locs hX => ?_)
    obtain ⟨μ_5, e_6⟩ : ∃ z, z = va_up μ_1 o (some (.inr (1, [.ref w, .int (nI bd), .int (nI bu), .int (nI nx), .int (nI (mk + 1)), .int (nI nx)]))) := ⟨_, rfl⟩
    rw [← e_6] at hX
    have k_7 : μ_5 o = some (.inr (1, [.ref w, .int (nI bd), .int (nI bu), .int (nI nx), .int (nI (mk + 1)), .int (nI nx)])) := by rw [e_6]; exact va_up_self _ _ _
    refine lv_aload_n hx hb dX0_takeMark_26 rfl (lv_at hl 0 rfl) ?_
    refine lv_bipush (v := nI 32) hx hb dX0_takeMark_27 (by decide) ?_
    refine lv_aload_n hx hb dX0_takeMark_29 rfl (lv_at hl 0 rfl) ?_
    refine gX0_5 hx hb hX hown k_7 kw93 dX0_takeMark_30 ?_
    refine lv_iconst (v := nI 2) hx hb dX0_takeMark_33 (by decide) ?_
    refine n_imul hx hb dX0_takeMark_34 (pk_mul _ _) ?_
    refine n_mmin hx hb (hml.trans hl.1.symm) hX hown kw429 kStMin kInMath kCdMin ⟨Nat.le_of_ble_eq_true rfl, Nat.le_of_ble_eq_true rfl⟩ ⟨Nat.le_of_ble_eq_true rfl, Nat.le_of_ble_eq_true rfl⟩ dX0_takeMark_35 (nI_min (by omega) (by omega)) ?_
    refine pX0_5 hx hb hX hown k_7 kw93 dX0_takeMark_38 (fun H locs hX => ?_)
    obtain ⟨μ_8, e_9⟩ : ∃ z, z = va_up μ_5 o (some (.inr (1, [.ref w, .int (nI bd), .int (nI bu), .int (nI nx), .int (nI (mk + 1)), .int (nI (min 32 (nx * 2)))]))) := ⟨_, rfl⟩
    rw [← e_9] at hX
    have k_10 : μ_8 o = some (.inr (1, [.ref w, .int (nI bd), .int (nI bu), .int (nI nx), .int (nI (mk + 1)), .int (nI (min 32 (nx * 2)))])) := by rw [e_9]; exact va_up_self _ _ _
    refine lv_aload_n hx hb dX0_takeMark_41 rfl (lv_at hl 0 rfl) ?_
    refine lv_iconst (v := nI 0) hx hb dX0_takeMark_42 (by decide) ?_
    refine pX0_4 hx hb hX hown k_10 kw91 dX0_takeMark_43 (fun H locs hX => ?_)
    obtain ⟨μ_11, e_12⟩ : ∃ z, z = va_up μ_8 o (some (.inr (1, [.ref w, .int (nI bd), .int (nI bu), .int (nI nx), .int (nI 0), .int (nI (min 32 (nx * 2)))]))) := ⟨_, rfl⟩
    rw [← e_12] at hX
    have k_13 : μ_11 o = some (.inr (1, [.ref w, .int (nI bd), .int (nI bu), .int (nI nx), .int (nI 0), .int (nI (min 32 (nx * 2)))])) := by rw [e_12]; exact va_up_self _ _ _
    exact w_vret hx hb hr hlocks hX ⟨rfl, by simp only [if_pos (show 2 ≤ mk by omega)]; exact k_13, fun q n1 => by rw [e_12, va_up_ne _ _ n1, e_9, va_up_ne _ _ n1, e_6, va_up_ne _ _ n1, e_2, va_up_ne _ _ n1]⟩ ⟨Nat.le_of_ble_eq_true rfl, Nat.le_of_ble_eq_true rfl⟩ dX0_takeMark_46

set_option maxHeartbeats 4000000 in
set_option maxRecDepth 100000 in
/-- a wish -/
theorem c_X0_makeWish (l : Launch) (g : wG) (μ : wMu) (zz : Nat) {o w : Nat} {bd bu he mk nx : Nat} (h0 : μ o = some (.inr (1, [.ref w, .int (nI bd), .int (nI bu), .int (nI he), .int (nI mk), .int (nI nx)]))) {n : Int32} {rm fl du : Nat} (h1 : μ w = some (.inr (2, [.int n, .int (nI rm), .int (nI fl), .int (nI du)]))) {sz : Nat} (hne : o ≠ w) (b1 : bu ≤ 12) (b2 : he ≤ 48) (b3 : mk ≤ 2) (b4 : nx ≤ 32) (b5 : du ≤ 60) (b6 : 1 ≤ sz) (b7 : sz ≤ 20) : wMet l yX0_makeWish cX0_makeWish 2 (some .boolean) 3 0 0 64 g [.ref o, .int (nI sz)] μ zz (fun r μ' => r = some (.int (nI (fwG sz du bu he))) ∧ μ' o = some (.inr (1, [.ref w, .int (nI bd), .int (nI (fwB sz du bu he)), .int (nI (fwH sz du bu he mk nx)), .int (nI (fwM sz du bu he mk)), .int (nI (fwN sz du bu he mk nx))])) ∧ μ' w = some (.inr (2, [.int n, .int (nI rm), .int (nI fl), .int (nI (fwD sz du bu he))])) ∧ ∀ q, q ≠ o → q ≠ w → μ' q = μ q) := by
  refine wMet.of (by decide) (Nat.le_of_ble_eq_true rfl) ?_
  intro p e s m below meth c ls hx hb hr hml hown hlocks hin hl hsz hX
  have hl : lv_has ls 2 [(0, .ref o), (1, .int (nI sz))] := hl
  refine lv_aload_n hx hb dX0_makeWish_0 rfl (lv_at hl 0 rfl) ?_
  refine lv_iload_n hx hb dX0_makeWish_1 rfl (lv_at hl 1 rfl) ?_
  refine w_call (w_runV (n := 1) (As := [.int (nI sz)]) (rest := []) hx hb hml hown hX (c_X0_canHave l g μ s.heap.size h0 h1 b1 b2 b5 b6 b7) kw281 kw6 kw423 kw280 kp2 wn_X0_canHave rfl h0 rfl ⟨Nat.le_of_ble_eq_true rfl, Nat.le_of_ble_eq_true rfl⟩ hl.1 rfl (Nat.le_of_ble_eq_true rfl) dX0_makeWish_2 ⟨Nat.le_of_ble_eq_true rfl, Nat.le_of_ble_eq_true rfl⟩) hX (fun r_3 μ_1 H locs q_2 hX hz => ?_)
  obtain ⟨q_7, e_6⟩ := q_2
  rw [e_6] at hX
  obtain ⟨rfl, p_4⟩ | ⟨rfl, p_5⟩ := q_7
  · skip
    refine W.eq (g2 := F0 m 5 ls [.int (nI 1)]) rfl ?_
    refine n_if_eq (tgt := 29) hx hb (by omega) dX0_makeWish_5 (by decide) (fun h => absurd h (by omega)) (fun _ => ?_)
    refine lv_aload_n hx hb dX0_makeWish_8 rfl (lv_at hl 0 rfl) ?_
    refine lv_iload_n hx hb dX0_makeWish_9 rfl (lv_at hl 1 rfl) ?_
    refine w_call (w_runV (n := 1) (As := [.int (nI sz)]) (rest := []) hx hb hml hown hX (c_X0_takeGrains l g μ H.size h0 h1 hne b1 b5 b7 p_4.2) kw427 kw6 kw424 kw426 kp19 wn_X0_takeGrains rfl h0 rfl ⟨Nat.le_of_ble_eq_true rfl, Nat.le_of_ble_eq_true rfl⟩ hl.1 rfl (Nat.le_of_ble_eq_true rfl) dX0_makeWish_10 ⟨Nat.le_of_ble_eq_true rfl, Nat.le_of_ble_eq_true rfl⟩) hX (fun r_10 μ_8 H locs q_9 hX hz => ?_)
    obtain ⟨rfl, k1, k2, k3⟩ := q_9
    refine W.eq (g2 := F0 m 13 ls []) rfl ?_
    refine lv_aload_n hx hb dX0_makeWish_13 rfl (lv_at hl 0 rfl) ?_
    refine lv_iconst (v := nI 0) hx hb dX0_makeWish_14 (by decide) ?_
    refine lv_aload_n hx hb dX0_makeWish_15 rfl (lv_at hl 0 rfl) ?_
    refine gX0_4 hx hb hX hown k1 kw91 dX0_makeWish_16 ?_
    refine lv_iconst (v := nI 1) hx hb dX0_makeWish_19 (by decide) ?_
    refine n_isub hx hb dX0_makeWish_20 rfl ?_
    refine n_mmax hx hb (hml.trans hl.1.symm) hX hown kw291 kStMax kInMath kCdMax ⟨Nat.le_of_ble_eq_true rfl, Nat.le_of_ble_eq_true rfl⟩ ⟨Nat.le_of_ble_eq_true rfl, Nat.le_of_ble_eq_true rfl⟩ dX0_makeWish_21 (nI_max0 (by omega) (by omega)) ?_
    refine pX0_4 hx hb hX hown k1 kw91 dX0_makeWish_24 (fun H locs hX => ?_)
    obtain ⟨μ_11, e_12⟩ : ∃ z, z = va_up μ_8 o (some (.inr (1, [.ref w, .int (nI bd), .int (nI (bu - sz)), .int (nI he), .int (nI (mk - 1)), .int (nI nx)]))) := ⟨_, rfl⟩
    rw [← e_12] at hX
    have k_13 : μ_11 o = some (.inr (1, [.ref w, .int (nI bd), .int (nI (bu - sz)), .int (nI he), .int (nI (mk - 1)), .int (nI nx)])) := by rw [e_12]; exact va_up_self _ _ _
    have k_14 := (congrFun e_12 w).trans ((va_up_ne _ _ (Ne.symm hne)).trans k2)
    refine lv_iconst (v := nI 1) hx hb dX0_makeWish_27 (by decide) ?_
    have ok : he = 0 ∧ sz ≤ bu + du := p_4
    exact w_zret hx hb hr hlocks hX (by first | rfl | decide) ⟨by simp only [fwG, if_pos ok], by simp only [fwB, fwH, fwM, fwN, if_pos ok]; exact k_13, by simp only [fwD, if_pos ok]; exact k_14, fun q n1 n2 => by rw [e_12, va_up_ne _ _ n1, k3 q n1 n2]⟩ ⟨Nat.le_of_ble_eq_true rfl, Nat.le_of_ble_eq_true rfl⟩ dX0_makeWish_28
  · skip
    refine W.eq (g2 := F0 m 5 ls [.int (nI 0)]) rfl ?_
    refine n_if_eq (tgt := 29) hx hb (by omega) dX0_makeWish_5 (by decide) (fun _ => ?_) (fun h => absurd h (by omega))
    refine lv_aload_n hx hb dX0_makeWish_29 rfl (lv_at hl 0 rfl) ?_
    refine w_call (w_runV (n := 0) (As := []) (rest := []) hx hb hml hown hX (c_X0_isPunished l g μ H.size h0 b2) kw179 kw6 kw286 kw178 kp0 wn_X0_isPunished rfl h0 rfl ⟨Nat.le_of_ble_eq_true rfl, Nat.le_of_ble_eq_true rfl⟩ hl.1 rfl (Nat.le_of_ble_eq_true rfl) dX0_makeWish_30 ⟨Nat.le_of_ble_eq_true rfl, Nat.le_of_ble_eq_true rfl⟩) hX (fun r_17 μ_15 H locs q_16 hX hz => ?_)
    obtain ⟨q_21, e_20⟩ := q_16
    rw [e_20] at hX
    obtain ⟨rfl, p_18⟩ | ⟨rfl, p_19⟩ := q_21
    · skip
      refine W.eq (g2 := F0 m 33 ls [.int (nI 1)]) rfl ?_
      refine n_if_eq (tgt := 54) hx hb (by omega) dX0_makeWish_33 (by decide) (fun h => absurd h (by omega)) (fun _ => ?_)
      refine lv_aload_n hx hb dX0_makeWish_36 rfl (lv_at hl 0 rfl) ?_
      refine lv_bipush (v := nI 48) hx hb dX0_makeWish_37 (by decide) ?_
      refine lv_aload_n hx hb dX0_makeWish_39 rfl (lv_at hl 0 rfl) ?_
      refine gX0_3 hx hb hX hown h0 kw89 dX0_makeWish_40 ?_
      refine lv_iconst (v := nI 1) hx hb dX0_makeWish_43 (by decide) ?_
      refine n_iadd hx hb dX0_makeWish_44 (nI_add _ _) ?_
      refine n_mmin hx hb (hml.trans hl.1.symm) hX hown kw429 kStMin kInMath kCdMin ⟨Nat.le_of_ble_eq_true rfl, Nat.le_of_ble_eq_true rfl⟩ ⟨Nat.le_of_ble_eq_true rfl, Nat.le_of_ble_eq_true rfl⟩ dX0_makeWish_45 (nI_min (by omega) (by omega)) ?_
      refine pX0_3 hx hb hX hown h0 kw89 dX0_makeWish_48 (fun H locs hX => ?_)
      obtain ⟨μ_22, e_23⟩ : ∃ z, z = va_up μ o (some (.inr (1, [.ref w, .int (nI bd), .int (nI bu), .int (nI (min 48 (he + 1))), .int (nI mk), .int (nI nx)]))) := ⟨_, rfl⟩
      rw [← e_23] at hX
      have k_24 : μ_22 o = some (.inr (1, [.ref w, .int (nI bd), .int (nI bu), .int (nI (min 48 (he + 1))), .int (nI mk), .int (nI nx)])) := by rw [e_23]; exact va_up_self _ _ _
      have k_25 := (congrFun e_23 w).trans ((va_up_ne _ _ (Ne.symm hne)).trans h1)
      refine lv_goto (tgt := 58) hx hb dX0_makeWish_51 (by decide) ?_
      refine lv_iconst (v := nI 0) hx hb dX0_makeWish_58 (by decide) ?_
      have no : ¬ (he = 0 ∧ sz ≤ bu + du) := p_5
      have h9 : 0 < he := p_18
      exact w_zret hx hb hr hlocks hX (by first | rfl | decide) ⟨by simp only [fwG, if_neg no], by simp only [fwB, fwH, fwM, fwN, if_neg no, if_pos h9]; exact k_24, by simp only [fwD, if_neg no]; exact k_25, fun q n1 n2 => by rw [e_23, va_up_ne _ _ n1]⟩ ⟨Nat.le_of_ble_eq_true rfl, Nat.le_of_ble_eq_true rfl⟩ dX0_makeWish_59
    · skip
      refine W.eq (g2 := F0 m 33 ls [.int (nI 0)]) rfl ?_
      refine n_if_eq (tgt := 54) hx hb (by omega) dX0_makeWish_33 (by decide) (fun _ => ?_) (fun h => absurd h (by omega))
      refine lv_aload_n hx hb dX0_makeWish_54 rfl (lv_at hl 0 rfl) ?_
      refine w_call (w_runV (n := 0) (As := []) (rest := []) hx hb hml hown hX (c_X0_takeMark l g μ H.size h0 b3 b4) kw433 kw6 kw430 kw432 kp20 wn_X0_takeMark rfl h0 rfl ⟨Nat.le_of_ble_eq_true rfl, Nat.le_of_ble_eq_true rfl⟩ hl.1 rfl (Nat.le_of_ble_eq_true rfl) dX0_makeWish_55 ⟨Nat.le_of_ble_eq_true rfl, Nat.le_of_ble_eq_true rfl⟩) hX (fun r_28 μ_26 H locs q_27 hX hz => ?_)
      obtain ⟨rfl, k1, k3⟩ := q_27
      have k2 := (k3 w (Ne.symm hne)).trans h1
      refine W.eq (g2 := F0 m 58 ls []) rfl ?_
      refine lv_iconst (v := nI 0) hx hb dX0_makeWish_58 (by decide) ?_
      have no : ¬ (he = 0 ∧ sz ≤ bu + du) := p_5
      have h9 : ¬ 0 < he := by omega
      exact w_zret hx hb hr hlocks hX (by first | rfl | decide) ⟨by simp only [fwG, if_neg no], by simp only [fwB, fwH, fwM, fwN, if_neg no, if_neg h9]; exact k1, by simp only [fwD, if_neg no]; exact k2, fun q n1 n2 => by rw [k3 q n1]⟩ ⟨Nat.le_of_ble_eq_true rfl, Nat.le_of_ble_eq_true rfl⟩ dX0_makeWish_59

set_option maxHeartbeats 4000000 in
set_option maxRecDepth 100000 in
/-- forgiven -/
theorem c_X0_letOff (l : Launch) (g : wG) (μ : wMu) (zz : Nat) {o w : Nat} {bd bu he mk nx : Nat} (h0 : μ o = some (.inr (1, [.ref w, .int (nI bd), .int (nI bu), .int (nI he), .int (nI mk), .int (nI nx)])))  : wMet l yX0_letOff cX0_letOff 2 (some .int) 0 0 0 0 g [.ref o] μ zz (fun r μ' => r = some (.int (nI he)) ∧ μ' o = some (.inr (1, [.ref w, .int (nI bd), .int (nI bu), .int (nI 0), .int (nI 0), .int (nI nx)])) ∧ ∀ q, q ≠ o → μ' q = μ q) := by
  refine wMet.of (by decide) (Nat.le_of_ble_eq_true rfl) ?_
  intro p e s m below meth c ls hx hb hr hml hown hlocks hin hl hsz hX
  have hl : lv_has ls 2 [(0, .ref o)] := hl
  refine lv_aload_n hx hb dX0_letOff_0 rfl (lv_at hl 0 rfl) ?_
  refine gX0_3 hx hb hX hown h0 kw89 dX0_letOff_1 ?_
  refine lv_istore_n (lv' := [(1, .int (nI he)), (0, .ref o)]) hx hb dX0_letOff_4 rfl hl (by decide) rfl (fun ls hl => ?_)
  refine lv_aload_n hx hb dX0_letOff_5 rfl (lv_at hl 1 rfl) ?_
  refine lv_iconst (v := nI 0) hx hb dX0_letOff_6 (by decide) ?_
  refine pX0_3 hx hb hX hown h0 kw89 dX0_letOff_7 (fun H locs hX => ?_)
  obtain ⟨μ_1, e_2⟩ : ∃ z, z = va_up μ o (some (.inr (1, [.ref w, .int (nI bd), .int (nI bu), .int (nI 0), .int (nI mk), .int (nI nx)]))) := ⟨_, rfl⟩
  rw [← e_2] at hX
  have k_3 : μ_1 o = some (.inr (1, [.ref w, .int (nI bd), .int (nI bu), .int (nI 0), .int (nI mk), .int (nI nx)])) := by rw [e_2]; exact va_up_self _ _ _
  refine lv_aload_n hx hb dX0_letOff_10 rfl (lv_at hl 1 rfl) ?_
  refine lv_iconst (v := nI 0) hx hb dX0_letOff_11 (by decide) ?_
  refine pX0_4 hx hb hX hown k_3 kw91 dX0_letOff_12 (fun H locs hX => ?_)
  obtain ⟨μ_4, e_5⟩ : ∃ z, z = va_up μ_1 o (some (.inr (1, [.ref w, .int (nI bd), .int (nI bu), .int (nI 0), .int (nI 0), .int (nI nx)]))) := ⟨_, rfl⟩
  rw [← e_5] at hX
  have k_6 : μ_4 o = some (.inr (1, [.ref w, .int (nI bd), .int (nI bu), .int (nI 0), .int (nI 0), .int (nI nx)])) := by rw [e_5]; exact va_up_self _ _ _
  refine lv_iload_n hx hb dX0_letOff_15 rfl (lv_at hl 0 rfl) ?_
  exact w_iret hx hb hr hlocks hX ⟨rfl, k_6, fun q n1 => by rw [e_5, va_up_ne _ _ n1, e_2, va_up_ne _ _ n1]⟩ ⟨Nat.le_of_ble_eq_true rfl, Nat.le_of_ble_eq_true rfl⟩ dX0_letOff_16

set_option maxHeartbeats 4000000 in
set_option maxRecDepth 100000 in
/-- a day begins -/
theorem c_X0_beginDay (l : Launch) (g : wG) (μ : wMu) (zz : Nat) {o w : Nat} {bd bu he mk nx : Nat} (h0 : μ o = some (.inr (1, [.ref w, .int (nI bd), .int (nI bu), .int (nI he), .int (nI mk), .int (nI nx)]))) {dd : Nat} (b9 : bd ≤ 29) (b10 : dd ≤ 100000) : wMet l yX0_beginDay cX0_beginDay 2 none 0 0 0 0 g [.ref o, .int (nI dd)] μ zz (fun r μ' => r = none ∧ μ' o = some (.inr (1, [.ref w, .int (nI bd), .int (nI (bstD bd dd)), .int (nI he), .int (nI mk), .int (nI nx)])) ∧ ∀ q, q ≠ o → μ' q = μ q) := by
  refine wMet.of (by decide) (Nat.le_of_ble_eq_true rfl) ?_
  intro p e s m below meth c ls hx hb hr hml hown hlocks hin hl hsz hX
  have hl : lv_has ls 2 [(0, .ref o), (1, .int (nI dd))] := hl
  refine lv_aload_n hx hb dX0_beginDay_0 rfl (lv_at hl 0 rfl) ?_
  refine lv_iload_n hx hb dX0_beginDay_1 rfl (lv_at hl 1 rfl) ?_
  refine lv_bipush (v := nI 30) hx hb dX0_beginDay_2 (by decide) ?_
  refine n_irem hx hb dX0_beginDay_4 (by decide) (pk_rem (by omega) (by decide) (by decide)) ?_
  refine lv_aload_n hx hb dX0_beginDay_5 rfl (lv_at hl 0 rfl) ?_
  refine gX0_1 hx hb hX hown h0 kw85 dX0_beginDay_6 ?_
  refine n_ne (tgt := 17) hx hb (by omega) (by omega) dX0_beginDay_9 (by decide) (fun c_1 => ?_) (fun c_1 => ?_)
  · skip
    refine lv_iconst (v := nI 0) hx hb dX0_beginDay_17 (by decide) ?_
    refine pX0_2 hx hb hX hown h0 kw87 dX0_beginDay_18 (fun H locs hX => ?_)
    obtain ⟨μ_2, e_3⟩ : ∃ z, z = va_up μ o (some (.inr (1, [.ref w, .int (nI bd), .int (nI 0), .int (nI he), .int (nI mk), .int (nI nx)]))) := ⟨_, rfl⟩
    rw [← e_3] at hX
    have k_4 : μ_2 o = some (.inr (1, [.ref w, .int (nI bd), .int (nI 0), .int (nI he), .int (nI mk), .int (nI nx)])) := by rw [e_3]; exact va_up_self _ _ _
    exact w_vret hx hb hr hlocks hX ⟨rfl, by simp only [bstD, if_neg c_1]; exact k_4, fun q n1 => by rw [e_3, va_up_ne _ _ n1]⟩ ⟨Nat.le_of_ble_eq_true rfl, Nat.le_of_ble_eq_true rfl⟩ dX0_beginDay_21
  · skip
    refine lv_bipush (v := nI 12) hx hb dX0_beginDay_12 (by decide) ?_
    refine lv_goto (tgt := 18) hx hb dX0_beginDay_14 (by decide) ?_
    refine pX0_2 hx hb hX hown h0 kw87 dX0_beginDay_18 (fun H locs hX => ?_)
    obtain ⟨μ_5, e_6⟩ : ∃ z, z = va_up μ o (some (.inr (1, [.ref w, .int (nI bd), .int (nI 12), .int (nI he), .int (nI mk), .int (nI nx)]))) := ⟨_, rfl⟩
    rw [← e_6] at hX
    have k_7 : μ_5 o = some (.inr (1, [.ref w, .int (nI bd), .int (nI 12), .int (nI he), .int (nI mk), .int (nI nx)])) := by rw [e_6]; exact va_up_self _ _ _
    exact w_vret hx hb hr hlocks hX ⟨rfl, by simp only [bstD, if_pos c_1]; exact k_7, fun q n1 => by rw [e_6, va_up_ne _ _ n1]⟩ ⟨Nat.le_of_ble_eq_true rfl, Nat.le_of_ble_eq_true rfl⟩ dX0_beginDay_21

set_option maxHeartbeats 4000000 in
set_option maxRecDepth 100000 in
/-- an hour goes by -/
theorem c_X0_liveTo (l : Launch) (g : wG) (μ : wMu) (zz : Nat) {o w : Nat} {bd bu he mk nx : Nat} (h0 : μ o = some (.inr (1, [.ref w, .int (nI bd), .int (nI bu), .int (nI he), .int (nI mk), .int (nI nx)]))) {h : Nat} (b2 : he ≤ 48) (b9 : bd ≤ 29) (b10 : h ≤ 100000) : wMet l yX0_liveTo cX0_liveTo 2 none 1 0 0 21 g [.ref o, .int (nI h)] μ zz (fun r μ' => r = none ∧ μ' o = some (.inr (1, [.ref w, .int (nI bd), .int (nI (bstH bd bu h)), .int (nI (he - 1)), .int (nI mk), .int (nI nx)])) ∧ ∀ q, q ≠ o → μ' q = μ q) := by
  refine wMet.of (by decide) (Nat.le_of_ble_eq_true rfl) ?_
  intro p e s m below meth c ls hx hb hr hml hown hlocks hin hl hsz hX
  have hl : lv_has ls 2 [(0, .ref o), (1, .int (nI h))] := hl
  refine lv_aload_n hx hb dX0_liveTo_0 rfl (lv_at hl 0 rfl) ?_
  refine lv_iconst (v := nI 0) hx hb dX0_liveTo_1 (by decide) ?_
  refine lv_aload_n hx hb dX0_liveTo_2 rfl (lv_at hl 0 rfl) ?_
  refine gX0_3 hx hb hX hown h0 kw89 dX0_liveTo_3 ?_
  refine lv_iconst (v := nI 1) hx hb dX0_liveTo_6 (by decide) ?_
  refine n_isub hx hb dX0_liveTo_7 rfl ?_
  refine n_mmax hx hb (hml.trans hl.1.symm) hX hown kw291 kStMax kInMath kCdMax ⟨Nat.le_of_ble_eq_true rfl, Nat.le_of_ble_eq_true rfl⟩ ⟨Nat.le_of_ble_eq_true rfl, Nat.le_of_ble_eq_true rfl⟩ dX0_liveTo_8 (nI_max0 (by omega) (by omega)) ?_
  refine pX0_3 hx hb hX hown h0 kw89 dX0_liveTo_11 (fun H locs hX => ?_)
  obtain ⟨μ_1, e_2⟩ : ∃ z, z = va_up μ o (some (.inr (1, [.ref w, .int (nI bd), .int (nI bu), .int (nI (he - 1)), .int (nI mk), .int (nI nx)]))) := ⟨_, rfl⟩
  rw [← e_2] at hX
  have k_3 : μ_1 o = some (.inr (1, [.ref w, .int (nI bd), .int (nI bu), .int (nI (he - 1)), .int (nI mk), .int (nI nx)])) := by rw [e_2]; exact va_up_self _ _ _
  refine lv_iload_n hx hb dX0_liveTo_14 rfl (lv_at hl 1 rfl) ?_
  refine lv_bipush (v := nI 24) hx hb dX0_liveTo_15 (by decide) ?_
  refine n_irem hx hb dX0_liveTo_17 (by decide) (pk_rem (by omega) (by decide) (by decide)) ?_
  refine n_if_ne (tgt := 29) hx hb (by omega) dX0_liveTo_18 (by decide) (fun c_4 => ?_) (fun c_4 => ?_)
  · skip
    exact w_vret hx hb hr hlocks hX ⟨rfl, by simp only [bstH, if_neg (show ¬ h % 24 = 0 by omega)]; exact k_3, fun q n1 => by rw [e_2, va_up_ne _ _ n1]⟩ ⟨Nat.le_of_ble_eq_true rfl, Nat.le_of_ble_eq_true rfl⟩ dX0_liveTo_29
  · skip
    refine lv_aload_n hx hb dX0_liveTo_21 rfl (lv_at hl 0 rfl) ?_
    refine lv_iload_n hx hb dX0_liveTo_22 rfl (lv_at hl 1 rfl) ?_
    refine lv_bipush (v := nI 24) hx hb dX0_liveTo_23 (by decide) ?_
    refine n_idiv hx hb dX0_liveTo_25 (by decide) (pk_div (by omega) (by decide) (by decide)) ?_
    refine w_call (w_runV (n := 1) (As := [.int (nI (h / 24))]) (rest := []) hx hb hml hown hX (c_X0_beginDay l g μ_1 H.size k_3 b9 (by omega)) kw410 kw6 kw407 kw409 kp16 wn_X0_beginDay rfl k_3 rfl ⟨Nat.le_of_ble_eq_true rfl, Nat.le_of_ble_eq_true rfl⟩ hl.1 rfl (Nat.le_of_ble_eq_true rfl) dX0_liveTo_26 ⟨Nat.le_of_ble_eq_true rfl, Nat.le_of_ble_eq_true rfl⟩) hX (fun r_7 μ_5 H locs q_6 hX hz => ?_)
    obtain ⟨rfl, k1, k3⟩ := q_6
    refine W.eq (g2 := F0 m 29 ls []) rfl ?_
    exact w_vret hx hb hr hlocks hX ⟨rfl, by simp only [bstH, if_pos c_4]; exact k1, fun q n1 => by rw [k3 q n1, e_2, va_up_ne _ _ n1]⟩ ⟨Nat.le_of_ble_eq_true rfl, Nat.le_of_ble_eq_true rfl⟩ dX0_liveTo_29
end
section
/-! THE LISTS -/
set_option maxHeartbeats 4000000 in
set_option maxRecDepth 100000 in
/-- nothing -/
theorem c_Jxa1e45_init_da8c8 (l : Launch) (g : wG) (μ : wMu) (zz : Nat) {o : Nat} : wMet l yJxa1e45_init_da8c8 cJxa1e45_init_da8c8 1 none 1 0 0 12 g [.ref o] μ zz (fun r μ' => r = none ∧ μ' = μ) := by
  refine wMet.of (by decide) (Nat.le_of_ble_eq_true rfl) ?_
  intro p e s m below meth c ls hx hb hr hml hown hlocks hin hl hsz hX
  have hl : lv_has ls 1 [(0, .ref o)] := hl
  refine lv_aload_n hx hb dJxa1e45_init_da8c8_0 rfl (lv_at hl 0 rfl) ?_
  refine W.objInit hx hb hown (hX.w kw39) (hX.w kInsObj) (hX.w kCdObj) rfl (by rw [hml]; exact hl.1) rfl dJxa1e45_init_da8c8_1 (Nat.le_of_ble_eq_true rfl) (Nat.le_of_ble_eq_true rfl) ?_
  refine W.eq (g2 := F0 m 4 ls []) rfl ?_
  exact w_vret hx hb hr hlocks hX ⟨rfl, rfl⟩ ⟨Nat.le_of_ble_eq_true rfl, Nat.le_of_ble_eq_true rfl⟩ dJxa1e45_init_da8c8_4

set_option maxHeartbeats 4000000 in
set_option maxRecDepth 100000 in
/-- no changes yet -/
theorem c_Jxc12de_init_da8c8 (l : Launch) (g : wG) (μ : wMu) (zz : Nat) {o : Nat} {z0 z2 : Int32} (h0 : μ o = some (.inr (0, [.int z0, .null, .int z2]))) : wMet l yJxc12de_init_da8c8 cJxc12de_init_da8c8 1 none 2 0 0 32 g [.ref o] μ zz (fun r μ' => r = none ∧ μ' o = some (.inr (0, [.int (nI 0), .null, .int z2])) ∧ ∀ q, q ≠ o → μ' q = μ q) := by
  refine wMet.of (by decide) (Nat.le_of_ble_eq_true rfl) ?_
  intro p e s m below meth c ls hx hb hr hml hown hlocks hin hl hsz hX
  have hl : lv_has ls 1 [(0, .ref o)] := hl
  refine lv_aload_n hx hb dJxc12de_init_da8c8_0 rfl (lv_at hl 0 rfl) ?_
  refine w_call (w_runI (n := 0) (As := []) (rest := []) hx hb hml hown hX (c_Jxa1e45_init_da8c8 l g μ s.heap.size) kw38 kw2 kw36 kw37 rfl wn_Jxa1e45_init_da8c8 rfl ⟨Nat.le_of_ble_eq_true rfl, Nat.le_of_ble_eq_true rfl⟩ hl.1 rfl (Nat.le_of_ble_eq_true rfl) dJxc12de_init_da8c8_1 ⟨Nat.le_of_ble_eq_true rfl, Nat.le_of_ble_eq_true rfl⟩) hX (fun r_3 μ_1 H locs q_2 hX hz => ?_)
  obtain ⟨rfl, e_4⟩ := q_2
  rw [e_4] at hX
  refine W.eq (g2 := F0 m 4 ls []) rfl ?_
  refine lv_aload_n hx hb dJxc12de_init_da8c8_4 rfl (lv_at hl 0 rfl) ?_
  refine lv_iconst (v := nI 0) hx hb dJxc12de_init_da8c8_5 (by decide) ?_
  refine w_put (ref := "java/util/AbstractList") (v := .int (nI 0)) hx hb inJx4a65c tyJx4a65c tyJx4a65c_ok nmJx4a65c rfl 0 (by decide) rfl rfl rfl hX hown h0 (Nat.le_of_ble_eq_true rfl) kw44 (fun _ h => h) dJxc12de_init_da8c8_6 (fun H locs hX => ?_)
  have hX : wX g (wA μ zz) s H locs (va_up μ o (some (.inr (0, [.int (nI 0), .null, .int z2])))) := hX
  obtain ⟨μ_5, e_6⟩ : ∃ z, z = va_up μ o (some (.inr (0, [.int (nI 0), .null, .int z2]))) := ⟨_, rfl⟩
  rw [← e_6] at hX
  have k_7 : μ_5 o = some (.inr (0, [.int (nI 0), .null, .int z2])) := by rw [e_6]; exact va_up_self _ _ _
  exact w_vret hx hb hr hlocks hX ⟨rfl, k_7, fun q n1 => by rw [e_6, va_up_ne _ _ n1]⟩ ⟨Nat.le_of_ble_eq_true rfl, Nat.le_of_ble_eq_true rfl⟩ dJxc12de_init_da8c8_9

set_option maxHeartbeats 4000000 in
set_option maxRecDepth 100000 in
/-- an empty list -/
theorem c_Jx4a65c_init_da8c8 (l : Launch) (g : wG) (μ : wMu) (zz : Nat) {o : Nat} {z0 z2 : Int32} (h0 : μ o = some (.inr (0, [.int z0, .null, .int z2]))) : wMet l yJx4a65c_init_da8c8 cJx4a65c_init_da8c8 1 none 3 0 0 52 g [.ref o] μ zz (fun r μ' => r = none ∧ μ' o = some (.inr (0, [.int (nI 0), .ref (gE g), .int z2])) ∧ ∀ q, q ≠ o → μ' q = μ q) := by
  refine wMet.of (by decide) (Nat.le_of_ble_eq_true rfl) ?_
  intro p e s m below meth c ls hx hb hr hml hown hlocks hin hl hsz hX
  have hl : lv_has ls 1 [(0, .ref o)] := hl
  refine lv_aload_n hx hb dJx4a65c_init_da8c8_0 rfl (lv_at hl 0 rfl) ?_
  refine w_call (w_runI (n := 0) (As := []) (rest := []) hx hb hml hown hX (c_Jxc12de_init_da8c8 l g μ s.heap.size h0) kw35 kw3 kw33 kw34 rfl wn_Jxc12de_init_da8c8 rfl ⟨Nat.le_of_ble_eq_true rfl, Nat.le_of_ble_eq_true rfl⟩ hl.1 rfl (Nat.le_of_ble_eq_true rfl) dJx4a65c_init_da8c8_1 ⟨Nat.le_of_ble_eq_true rfl, Nat.le_of_ble_eq_true rfl⟩) hX (fun r_3 μ_1 H locs q_2 hX hz => ?_)
  obtain ⟨rfl, k1, k2⟩ := q_2
  refine W.eq (g2 := F0 m 4 ls []) rfl ?_
  refine lv_aload_n hx hb dJx4a65c_init_da8c8_4 rfl (lv_at hl 0 rfl) ?_
  refine w_getsE hx hb hX hown kw40 dJx4a65c_init_da8c8_5 ?_
  refine pJx4a65c_1 hx hb hX hown k1 kw42 dJx4a65c_init_da8c8_8 (fun H locs hX => ?_)
  obtain ⟨μ_4, e_5⟩ : ∃ z, z = va_up μ_1 o (some (.inr (0, [.int (nI 0), .ref (gE g), .int z2]))) := ⟨_, rfl⟩
  rw [← e_5] at hX
  have k_6 : μ_4 o = some (.inr (0, [.int (nI 0), .ref (gE g), .int z2])) := by rw [e_5]; exact va_up_self _ _ _
  exact w_vret hx hb hr hlocks hX ⟨rfl, k_6, fun q n1 => by rw [e_5, va_up_ne _ _ n1, k2 q n1]⟩ ⟨Nat.le_of_ble_eq_true rfl, Nat.le_of_ble_eq_true rfl⟩ dJx4a65c_init_da8c8_11

set_option maxHeartbeats 4000000 in
set_option maxRecDepth 100000 in
/-- how many -/
theorem c_Jx4a65c_size_8abf5 (l : Launch) (g : wG) (μ : wMu) (zz : Nat) {o ea sz : Nat} {mc : Int32} (h0 : μ o = some (.inr (0, [.int mc, .ref ea, .int (nI sz)]))) : wMet l yJx4a65c_size_8abf5 cJx4a65c_size_8abf5 1 (some .int) 0 0 0 0 g [.ref o] μ zz (fun r μ' => r = some (.int (nI sz)) ∧ μ' = μ) := by
  refine wMet.of (by decide) (Nat.le_of_ble_eq_true rfl) ?_
  intro p e s m below meth c ls hx hb hr hml hown hlocks hin hl hsz hX
  have hl : lv_has ls 1 [(0, .ref o)] := hl
  refine lv_aload_n hx hb dJx4a65c_size_8abf5_0 rfl (lv_at hl 0 rfl) ?_
  refine gJx4a65c_2 hx hb hX hown h0 kw43 dJx4a65c_size_8abf5_1 ?_
  exact w_iret hx hb hr hlocks hX ⟨rfl, rfl⟩ ⟨Nat.le_of_ble_eq_true rfl, Nat.le_of_ble_eq_true rfl⟩ dJx4a65c_size_8abf5_4

set_option maxHeartbeats 4000000 in
set_option maxRecDepth 100000 in
/-- in range -/
theorem c_J3_checkIndex_8e157 (l : Launch) (g : wG) (μ : wMu) (zz : Nat) {i n : Nat} (b1 : i < n) (b2 : n < 2 ^ 31) : wMet l yJ3_checkIndex_8e157 cJ3_checkIndex_8e157 3 (some .int) 0 0 0 0 g [.int (nI i), .int (nI n), .null] μ zz (fun r μ' => r = some (.int (nI i)) ∧ μ' = μ) := by
  refine wMet.of (by decide) (Nat.le_of_ble_eq_true rfl) ?_
  intro p e s m below meth c ls hx hb hr hml hown hlocks hin hl hsz hX
  have hl : lv_has ls 3 [(0, .int (nI i)), (1, .int (nI n)), (2, .null)] := hl
  refine lv_iload_n hx hb dJ3_checkIndex_8e157_0 rfl (lv_at hl 0 rfl) ?_
  refine lv_if_lt (tgt := 9) hx hb dJ3_checkIndex_8e157_1 (by decide) (fun h => absurd h (nI_pos (by omega))) (fun _ => ?_)
  refine lv_iload_n hx hb dJ3_checkIndex_8e157_4 rfl (lv_at hl 0 rfl) ?_
  refine lv_iload_n hx hb dJ3_checkIndex_8e157_5 rfl (lv_at hl 1 rfl) ?_
  refine n_lt (tgt := 16) hx hb (by omega) (by omega) dJ3_checkIndex_8e157_6 (by decide) (fun _ => ?_) (fun h => absurd h (by omega))
  refine lv_iload_n hx hb dJ3_checkIndex_8e157_16 rfl (lv_at hl 0 rfl) ?_
  exact w_iret hx hb hr hlocks hX ⟨rfl, rfl⟩ ⟨Nat.le_of_ble_eq_true rfl, Nat.le_of_ble_eq_true rfl⟩ dJ3_checkIndex_8e157_17

set_option maxHeartbeats 4000000 in
set_option maxRecDepth 100000 in
/-- in range -/
theorem c_J15_checkIndex_7cf53 (l : Launch) (g : wG) (μ : wMu) (zz : Nat) {i n : Nat} (b1 : i < n) (b2 : n < 2 ^ 31) : wMet l yJ15_checkIndex_7cf53 cJ15_checkIndex_7cf53 2 (some .int) 1 0 0 22 g [.int (nI i), .int (nI n)] μ zz (fun r μ' => r = some (.int (nI i)) ∧ μ' = μ) := by
  refine wMet.of (by decide) (Nat.le_of_ble_eq_true rfl) ?_
  intro p e s m below meth c ls hx hb hr hml hown hlocks hin hl hsz hX
  have hl : lv_has ls 2 [(0, .int (nI i)), (1, .int (nI n))] := hl
  refine lv_iload_n hx hb dJ15_checkIndex_7cf53_0 rfl (lv_at hl 0 rfl) ?_
  refine lv_iload_n hx hb dJ15_checkIndex_7cf53_1 rfl (lv_at hl 1 rfl) ?_
  refine lv_null hx hb dJ15_checkIndex_7cf53_2 ?_
  refine w_call (w_runS (n := 3) (As := [.int (nI i), .int (nI n), .null]) (rest := []) hx hb hml hown hX (c_J3_checkIndex_8e157 l g μ s.heap.size b1 b2) kw171 kw19 kw169 kw170 wn_J3_checkIndex_8e157 rfl ⟨Nat.le_of_ble_eq_true rfl, Nat.le_of_ble_eq_true rfl⟩ hl.1 rfl (Nat.le_of_ble_eq_true rfl) dJ15_checkIndex_7cf53_3 ⟨Nat.le_of_ble_eq_true rfl, Nat.le_of_ble_eq_true rfl⟩) hX (fun r_3 μ_1 H locs q_2 hX hz => ?_)
  obtain ⟨rfl, e_4⟩ := q_2
  rw [e_4] at hX
  refine W.eq (g2 := F0 m 6 ls [.int (nI i)]) rfl ?_
  exact w_iret hx hb hr hlocks hX ⟨rfl, rfl⟩ ⟨Nat.le_of_ble_eq_true rfl, Nat.le_of_ble_eq_true rfl⟩ dJ15_checkIndex_7cf53_6

set_option maxHeartbeats 4000000 in
set_option maxRecDepth 100000 in
/-- an element -/
theorem c_Jx4a65c_elementData_915e3 (l : Launch) (g : wG) (μ : wMu) (zz : Nat) {o ea sz i q : Nat} {mc : Int32} {f : Nat → Option Nat} (h0 : μ o = some (.inr (0, [.int mc, .ref ea, .int (nI sz)]))) (h1 : μ ea = some (.inl (gO g, 10, .inr (.inr (.inr (.inr f)))))) (b1 : i < sz) (b2 : sz ≤ 10) (hf : f i = some q) : wMet l yJx4a65c_elementData_915e3 cJx4a65c_elementData_915e3 2 (some (.object "java/lang/Object")) 0 0 0 0 g [.ref o, .int (nI i)] μ zz (fun r μ' => r = some (.ref q) ∧ μ' = μ) := by
  refine wMet.of (by decide) (Nat.le_of_ble_eq_true rfl) ?_
  intro p e s m below meth c ls hx hb hr hml hown hlocks hin hl hsz hX
  have hl : lv_has ls 2 [(0, .ref o), (1, .int (nI i))] := hl
  refine lv_aload_n hx hb dJx4a65c_elementData_915e3_0 rfl (lv_at hl 0 rfl) ?_
  refine gJx4a65c_1 hx hb hX hown h0 kw42 dJx4a65c_elementData_915e3_1 ?_
  refine lv_iload_n hx hb dJx4a65c_elementData_915e3_4 rfl (lv_at hl 1 rfl) ?_
  refine n_aald hx hb hX h1 (by omega) (by omega) dJx4a65c_elementData_915e3_5 ?_
  rw [hf]
  refine W.eq (g2 := F0 m 6 ls [.ref q]) rfl ?_
  exact w_aret hx hb hr (Or.inl ⟨_, rfl⟩) hlocks hX ⟨rfl, rfl⟩ ⟨Nat.le_of_ble_eq_true rfl, Nat.le_of_ble_eq_true rfl⟩ dJx4a65c_elementData_915e3_6

set_option maxHeartbeats 4000000 in
set_option maxRecDepth 100000 in
/-- an element -/
theorem c_Jx4a65c_get_915e3 (l : Launch) (g : wG) (μ : wMu) (zz : Nat) {o ea sz i q : Nat} {mc : Int32} {f : Nat → Option Nat} (h0 : μ o = some (.inr (0, [.int mc, .ref ea, .int (nI sz)]))) (h1 : μ ea = some (.inl (gO g, 10, .inr (.inr (.inr (.inr f)))))) (b1 : i < sz) (b2 : sz ≤ 10) (hf : f i = some q) : wMet l yJx4a65c_get_915e3 cJx4a65c_get_915e3 2 (some (.object "java/lang/Object")) 2 0 0 43 g [.ref o, .int (nI i)] μ zz (fun r μ' => r = some (.ref q) ∧ μ' = μ) := by
  refine wMet.of (by decide) (Nat.le_of_ble_eq_true rfl) ?_
  intro p e s m below meth c ls hx hb hr hml hown hlocks hin hl hsz hX
  have hl : lv_has ls 2 [(0, .ref o), (1, .int (nI i))] := hl
  refine lv_iload_n hx hb dJx4a65c_get_915e3_0 rfl (lv_at hl 1 rfl) ?_
  refine lv_aload_n hx hb dJx4a65c_get_915e3_1 rfl (lv_at hl 0 rfl) ?_
  refine gJx4a65c_2 hx hb hX hown h0 kw43 dJx4a65c_get_915e3_2 ?_
  refine w_call (w_runS (n := 2) (As := [.int (nI i), .int (nI sz)]) (rest := []) hx hb hml hown hX (c_J15_checkIndex_7cf53 l g μ s.heap.size b1 (by omega)) kw168 kw18 kw166 kw167 wn_J15_checkIndex_7cf53 rfl ⟨Nat.le_of_ble_eq_true rfl, Nat.le_of_ble_eq_true rfl⟩ hl.1 rfl (Nat.le_of_ble_eq_true rfl) dJx4a65c_get_915e3_5 ⟨Nat.le_of_ble_eq_true rfl, Nat.le_of_ble_eq_true rfl⟩) hX (fun r_3 μ_1 H locs q_2 hX hz => ?_)
  obtain ⟨rfl, e_4⟩ := q_2
  rw [e_4] at hX
  refine W.eq (g2 := F0 m 8 ls [.int (nI i)]) rfl ?_
  refine lv_pop hx hb dJx4a65c_get_915e3_8 rfl ?_
  refine lv_aload_n hx hb dJx4a65c_get_915e3_9 rfl (lv_at hl 0 rfl) ?_
  refine lv_iload_n hx hb dJx4a65c_get_915e3_10 rfl (lv_at hl 1 rfl) ?_
  refine w_call (w_runV (n := 1) (As := [.int (nI i)]) (rest := []) hx hb hml hown hX (c_Jx4a65c_elementData_915e3 l g μ H.size h0 h1 b1 b2 hf) kw175 kw4 kw172 kw173 kw174 wn_Jx4a65c_elementData_915e3 rfl h0 rfl ⟨Nat.le_of_ble_eq_true rfl, Nat.le_of_ble_eq_true rfl⟩ hl.1 rfl (Nat.le_of_ble_eq_true rfl) dJx4a65c_get_915e3_11 ⟨Nat.le_of_ble_eq_true rfl, Nat.le_of_ble_eq_true rfl⟩) hX (fun r_7 μ_5 H locs q_6 hX hz => ?_)
  obtain ⟨rfl, e_8⟩ := q_6
  rw [e_8] at hX
  refine W.eq (g2 := F0 m 14 ls [.ref q]) rfl ?_
  exact w_aret hx hb hr (Or.inl ⟨_, rfl⟩) hlocks hX ⟨rfl, rfl⟩ ⟨Nat.le_of_ble_eq_true rfl, Nat.le_of_ble_eq_true rfl⟩ dJx4a65c_get_915e3_14

set_option maxHeartbeats 4000000 in
set_option maxRecDepth 100000 in
/-- the first room: ten places -/
theorem c_Jx4a65c_grow_92f84 (l : Launch) (g : wG) (μ : wMu) (zz : Nat) {o n sz : Nat} {mc : Int32} (h0 : μ o = some (.inr (0, [.int mc, .ref (gE g), .int (nI sz)]))) (b1 : n ≤ 10) : wMet l yJx4a65c_grow_92f84 cJx4a65c_grow_92f84 4 (some (.array (.object "java/lang/Object"))) 1 1 10 21 g [.ref o, .int (nI n)] μ zz (fun r μ' => ∃ q, r = some (.ref q) ∧ μ q = none ∧ q ≠ o ∧ μ' q = some (.inl (gO g, 10, .inr (.inr (.inr (.inr (fun _ => none)))))) ∧ μ' o = some (.inr (0, [.int mc, .ref q, .int (nI sz)])) ∧ ∀ z, z ≠ q → z ≠ o → μ' z = μ z) := by
  refine wMet.of (by decide) (Nat.le_of_ble_eq_true rfl) ?_
  intro p e s m below meth c ls hx hb hr hml hown hlocks hin hl hsz hX
  have hl : lv_has ls 4 [(0, .ref o), (1, .int (nI n))] := hl
  refine lv_aload_n hx hb dJx4a65c_grow_92f84_0 rfl (lv_at hl 0 rfl) ?_
  refine gJx4a65c_1 hx hb hX hown h0 kw42 dJx4a65c_grow_92f84_1 ?_
  refine n_alenE hx hb hX dJx4a65c_grow_92f84_4 ?_
  refine lv_istore_n (lv' := [(2, .int (nI 0)), (0, .ref o), (1, .int (nI n))]) hx hb dJx4a65c_grow_92f84_5 rfl hl (by decide) rfl (fun ls hl => ?_)
  refine lv_iload_n hx hb dJx4a65c_grow_92f84_6 rfl (lv_at hl 0 rfl) ?_
  refine n_if_gt (tgt := 20) hx hb (by omega) dJx4a65c_grow_92f84_7 (by decide) (fun h => absurd h (by omega)) (fun _ => ?_)
  refine lv_aload_n hx hb dJx4a65c_grow_92f84_10 rfl (lv_at hl 1 rfl) ?_
  refine gJx4a65c_1 hx hb hX hown h0 kw42 dJx4a65c_grow_92f84_11 ?_
  refine w_getsE hx hb hX hown kw40 dJx4a65c_grow_92f84_14 ?_
  refine lv_acmp_eq (rx := some (gE g)) (ry := some (gE g)) (tgt := 45) hx hb dJx4a65c_grow_92f84_17 (by decide) (fun _ => ?_) (fun h => absurd rfl h)
  refine lv_aload_n hx hb dJx4a65c_grow_92f84_45 rfl (lv_at hl 1 rfl) ?_
  refine lv_bipush (v := nI 10) hx hb dJx4a65c_grow_92f84_46 (by decide) ?_
  refine lv_iload_n hx hb dJx4a65c_grow_92f84_48 rfl (lv_at hl 2 rfl) ?_
  refine n_mmax hx hb (hml.trans hl.1.symm) hX hown kw512 kStMax kInMath kCdMax ⟨Nat.le_of_ble_eq_true rfl, Nat.le_of_ble_eq_true rfl⟩ ⟨Nat.le_of_ble_eq_true rfl, Nat.le_of_ble_eq_true rfl⟩ dJx4a65c_grow_92f84_49 ((nI_max (by omega) (by omega)).trans (congrArg nI (show max 10 n = 10 by omega))) ?_
  refine n_newO hx hb hX hown kw513 kw506 (by decide) (Nat.le_of_ble_eq_true rfl) (Nat.le_of_ble_eq_true rfl) dJx4a65c_grow_92f84_52 (fun q_1 H hq_2 hX => ?_)
  have ne_3 : o ≠ q_1 := fun z => by rw [z, hq_2] at h0; cases h0
  obtain ⟨μ_4, e_5⟩ : ∃ z, z = va_up μ q_1 (some (.inl (gO g, 10, .inr (.inr (.inr (.inr (fun _ => none))))))) := ⟨_, rfl⟩
  rw [← e_5] at hX
  have k_6 : μ_4 q_1 = some (.inl (gO g, 10, .inr (.inr (.inr (.inr (fun _ => none)))))) := by rw [e_5]; exact va_up_self _ _ _
  have k_7 := (congrFun e_5 o).trans ((va_up_ne _ _ ne_3).trans h0)
  refine lv_dup_x1 hx hb dJx4a65c_grow_92f84_55 rfl rfl ?_
  refine pJx4a65c_1 hx hb hX hown k_7 kw42 dJx4a65c_grow_92f84_56 (fun H locs hX => ?_)
  obtain ⟨μ_8, e_9⟩ : ∃ z, z = va_up μ_4 o (some (.inr (0, [.int mc, .ref q_1, .int (nI sz)]))) := ⟨_, rfl⟩
  rw [← e_9] at hX
  have k_10 : μ_8 o = some (.inr (0, [.int mc, .ref q_1, .int (nI sz)])) := by rw [e_9]; exact va_up_self _ _ _
  have k_11 := (congrFun e_9 q_1).trans ((va_up_ne _ _ (Ne.symm ne_3)).trans k_6)
  exact w_aret hx hb hr (Or.inr ⟨_, rfl⟩) hlocks hX ⟨q_1, rfl, hq_2, Ne.symm ne_3, k_11, k_10, fun q n1 n2 => by rw [e_9, va_up_ne _ _ n2, e_5, va_up_ne _ _ n1]⟩ ⟨Nat.le_of_ble_eq_true rfl, Nat.le_of_ble_eq_true rfl⟩ dJx4a65c_grow_92f84_59

set_option maxHeartbeats 4000000 in
set_option maxRecDepth 100000 in
/-- the first room -/
theorem c_Jx4a65c_grow_d5877 (l : Launch) (g : wG) (μ : wMu) (zz : Nat) {o sz : Nat} {mc : Int32} (h0 : μ o = some (.inr (0, [.int mc, .ref (gE g), .int (nI sz)]))) (b1 : sz ≤ 9) : wMet l yJx4a65c_grow_d5877 cJx4a65c_grow_d5877 1 (some (.array (.object "java/lang/Object"))) 2 1 10 44 g [.ref o] μ zz (fun r μ' => ∃ q, r = some (.ref q) ∧ μ q = none ∧ q ≠ o ∧ μ' q = some (.inl (gO g, 10, .inr (.inr (.inr (.inr (fun _ => none)))))) ∧ μ' o = some (.inr (0, [.int mc, .ref q, .int (nI sz)])) ∧ ∀ z, z ≠ q → z ≠ o → μ' z = μ z) := by
  refine wMet.of (by decide) (Nat.le_of_ble_eq_true rfl) ?_
  intro p e s m below meth c ls hx hb hr hml hown hlocks hin hl hsz hX
  have hl : lv_has ls 1 [(0, .ref o)] := hl
  refine lv_aload_n hx hb dJx4a65c_grow_d5877_0 rfl (lv_at hl 0 rfl) ?_
  refine lv_aload_n hx hb dJx4a65c_grow_d5877_1 rfl (lv_at hl 0 rfl) ?_
  refine gJx4a65c_2 hx hb hX hown h0 kw43 dJx4a65c_grow_d5877_2 ?_
  refine lv_iconst (v := nI 1) hx hb dJx4a65c_grow_d5877_5 (by decide) ?_
  refine n_iadd hx hb dJx4a65c_grow_d5877_6 (nI_add _ _) ?_
  refine w_call (w_runV (n := 1) (As := [.int (nI (sz + 1))]) (rest := []) hx hb hml hown hX (c_Jx4a65c_grow_92f84 l g μ s.heap.size h0 (by omega)) kw478 kw4 kw475 kw477 kp23 wn_Jx4a65c_grow_92f84 rfl h0 rfl ⟨Nat.le_of_ble_eq_true rfl, Nat.le_of_ble_eq_true rfl⟩ hl.1 rfl (Nat.le_of_ble_eq_true rfl) dJx4a65c_grow_d5877_7 ⟨Nat.le_of_ble_eq_true rfl, Nat.le_of_ble_eq_true rfl⟩) hX (fun r_3 μ_1 H locs q_2 hX hz => ?_)
  obtain ⟨qq, rfl, k0, k1, k2, k3, k4⟩ := q_2
  refine W.eq (g2 := F0 m 10 ls [.ref qq]) rfl ?_
  exact w_aret hx hb hr (Or.inr ⟨_, rfl⟩) hlocks hX ⟨qq, rfl, k0, k1, k2, k3, k4⟩ ⟨Nat.le_of_ble_eq_true rfl, Nat.le_of_ble_eq_true rfl⟩ dJx4a65c_grow_d5877_10

set_option maxHeartbeats 4000000 in
set_option maxRecDepth 100000 in
/-- add to an empty list -/
theorem c_Jx4a65c_add_72be8_E (l : Launch) (g : wG) (μ : wMu) (zz : Nat) {o : Nat} {mc : Int32} (h0 : μ o = some (.inr (0, [.int mc, .ref (gE g), .int (nI 0)]))) {v ci : Nat} {vc : vw_C} {vs : List Value} (hv : μ v = some (.inr (ci, vs))) (hc : vwCl[ci]? = some vc) (hca : Cond.castable vc.1 "java/lang/Object" ∈ GW) (hvo : v ≠ o)  : wMet l yJx4a65c_add_72be8 cJx4a65c_add_72be8 4 none 3 1 10 64 g [.ref o, .ref v, .ref (gE g), .int (nI 0)] μ zz (fun r μ' => ∃ q, r = none ∧ μ q = none ∧ q ≠ o ∧ μ' q = some (.inl (gO g, 10, .inr (.inr (.inr (.inr (va_up (fun _ => none) 0 (some v))))))) ∧ μ' o = some (.inr (0, [.int mc, .ref q, .int (nI 1)])) ∧ ∀ z, z ≠ q → z ≠ o → μ' z = μ z) := by
  refine wMet.of (by decide) (Nat.le_of_ble_eq_true rfl) ?_
  intro p e s m below meth c ls hx hb hr hml hown hlocks hin hl hsz hX
  have hl : lv_has ls 4 [(0, .ref o), (1, .ref v), (2, .ref (gE g)), (3, .int (nI 0))] := hl
  refine lv_iload_n hx hb dJx4a65c_add_72be8_0 rfl (lv_at hl 3 rfl) ?_
  refine lv_aload_n hx hb dJx4a65c_add_72be8_1 rfl (lv_at hl 2 rfl) ?_
  refine n_alenE hx hb hX dJx4a65c_add_72be8_2 ?_
  refine n_ne (tgt := 11) hx hb (by omega) (by omega) dJx4a65c_add_72be8_3 (by decide) (fun h => absurd h (by omega)) (fun _ => ?_)
  refine lv_aload_n hx hb dJx4a65c_add_72be8_6 rfl (lv_at hl 0 rfl) ?_
  refine w_call (w_runV (n := 0) (As := []) (rest := []) hx hb hml hown hX (c_Jx4a65c_grow_d5877 l g μ s.heap.size h0 (by omega)) kw474 kw4 kw471 kw473 kp22 wn_Jx4a65c_grow_d5877 rfl h0 rfl ⟨Nat.le_of_ble_eq_true rfl, Nat.le_of_ble_eq_true rfl⟩ hl.1 rfl (Nat.le_of_ble_eq_true rfl) dJx4a65c_add_72be8_7 ⟨Nat.le_of_ble_eq_true rfl, Nat.le_of_ble_eq_true rfl⟩) hX (fun r_3 μ_1 H locs q_2 hX hz => ?_)
  obtain ⟨qq, rfl, k0, k1, k2, k3, k4⟩ := q_2
  have kvq : v ≠ qq := fun z => by rw [z, k0] at hv; cases hv
  have kv := (k4 v kvq hvo).trans hv
  refine W.eq (g2 := F0 m 10 ls [.ref qq]) rfl ?_
  refine lv_astore_n (lv' := [(2, .ref qq), (0, .ref o), (1, .ref v), (3, .int (nI 0))]) hx hb dJx4a65c_add_72be8_10 rfl hl (by decide) rfl (fun ls hl => ?_)
  refine lv_aload_n hx hb dJx4a65c_add_72be8_11 rfl (lv_at hl 0 rfl) ?_
  refine lv_iload_n hx hb dJx4a65c_add_72be8_12 rfl (lv_at hl 3 rfl) ?_
  refine lv_aload_n hx hb dJx4a65c_add_72be8_13 rfl (lv_at hl 2 rfl) ?_
  refine n_aast hx hb hX k2 hca kv hc (by omega) (by omega) dJx4a65c_add_72be8_14 (fun H locs hX => ?_)
  obtain ⟨μ_4, e_5⟩ : ∃ z, z = va_up μ_1 qq (some (.inl (gO g, 10, .inr (.inr (.inr (.inr (va_up (fun _ => none) 0 (some v)))))))) := ⟨_, rfl⟩
  rw [← e_5] at hX
  have k_6 : μ_4 qq = some (.inl (gO g, 10, .inr (.inr (.inr (.inr (va_up (fun _ => none) 0 (some v))))))) := by rw [e_5]; exact va_up_self _ _ _
  have k_7 := (congrFun e_5 o).trans ((va_up_ne _ _ (Ne.symm k1)).trans k3)
  refine lv_aload_n hx hb dJx4a65c_add_72be8_15 rfl (lv_at hl 1 rfl) ?_
  refine lv_iload_n hx hb dJx4a65c_add_72be8_16 rfl (lv_at hl 3 rfl) ?_
  refine lv_iconst (v := nI 1) hx hb dJx4a65c_add_72be8_17 (by decide) ?_
  refine n_iadd hx hb dJx4a65c_add_72be8_18 (nI_add _ _) ?_
  refine pJx4a65c_2 hx hb hX hown k_7 kw43 dJx4a65c_add_72be8_19 (fun H locs hX => ?_)
  obtain ⟨μ_8, e_9⟩ : ∃ z, z = va_up μ_4 o (some (.inr (0, [.int mc, .ref qq, .int (nI (0 + 1))]))) := ⟨_, rfl⟩
  rw [← e_9] at hX
  have k_10 : μ_8 o = some (.inr (0, [.int mc, .ref qq, .int (nI (0 + 1))])) := by rw [e_9]; exact va_up_self _ _ _
  have k_11 := (congrFun e_9 qq).trans ((va_up_ne _ _ k1).trans k_6)
  exact w_vret hx hb hr hlocks hX ⟨qq, rfl, k0, k1, k_11, k_10, fun z n1 n2 => by rw [e_9, va_up_ne _ _ n2, e_5, va_up_ne _ _ n1, k4 z n1 n2]⟩ ⟨Nat.le_of_ble_eq_true rfl, Nat.le_of_ble_eq_true rfl⟩ dJx4a65c_add_72be8_22

set_option maxHeartbeats 4000000 in
set_option maxRecDepth 100000 in
/-- add where there is room -/
theorem c_Jx4a65c_add_72be8_R (l : Launch) (g : wG) (μ : wMu) (zz : Nat) {o ea sz : Nat} {mc : Int32} {f : Nat → Option Nat} (h0 : μ o = some (.inr (0, [.int mc, .ref ea, .int (nI sz)]))) (h1 : μ ea = some (.inl (gO g, 10, .inr (.inr (.inr (.inr f)))))) (heo : ea ≠ o) (b1 : sz < 10) {v ci : Nat} {vc : vw_C} {vs : List Value} (hv : μ v = some (.inr (ci, vs))) (hc : vwCl[ci]? = some vc) (hca : Cond.castable vc.1 "java/lang/Object" ∈ GW) (hvo : v ≠ o)  : wMet l yJx4a65c_add_72be8 cJx4a65c_add_72be8 4 none 3 1 10 64 g [.ref o, .ref v, .ref ea, .int (nI sz)] μ zz (fun r μ' => r = none ∧ μ' ea = some (.inl (gO g, 10, .inr (.inr (.inr (.inr (va_up f sz (some v))))))) ∧ μ' o = some (.inr (0, [.int mc, .ref ea, .int (nI (sz + 1))])) ∧ ∀ z, z ≠ ea → z ≠ o → μ' z = μ z) := by
  refine wMet.of (by decide) (Nat.le_of_ble_eq_true rfl) ?_
  intro p e s m below meth c ls hx hb hr hml hown hlocks hin hl hsz hX
  have hl : lv_has ls 4 [(0, .ref o), (1, .ref v), (2, .ref ea), (3, .int (nI sz))] := hl
  refine lv_iload_n hx hb dJx4a65c_add_72be8_0 rfl (lv_at hl 3 rfl) ?_
  refine lv_aload_n hx hb dJx4a65c_add_72be8_1 rfl (lv_at hl 2 rfl) ?_
  refine n_alenO hx hb hX h1 dJx4a65c_add_72be8_2 ?_
  refine n_ne (tgt := 11) hx hb (by omega) (by omega) dJx4a65c_add_72be8_3 (by decide) (fun _ => ?_) (fun h => absurd h (by omega))
  refine lv_aload_n hx hb dJx4a65c_add_72be8_11 rfl (lv_at hl 2 rfl) ?_
  refine lv_iload_n hx hb dJx4a65c_add_72be8_12 rfl (lv_at hl 3 rfl) ?_
  refine lv_aload_n hx hb dJx4a65c_add_72be8_13 rfl (lv_at hl 1 rfl) ?_
  refine n_aast hx hb hX h1 hca hv hc (by omega) (by omega) dJx4a65c_add_72be8_14 (fun H locs hX => ?_)
  obtain ⟨μ_1, e_2⟩ : ∃ z, z = va_up μ ea (some (.inl (gO g, 10, .inr (.inr (.inr (.inr (va_up f sz (some v)))))))) := ⟨_, rfl⟩
  rw [← e_2] at hX
  have k_3 : μ_1 ea = some (.inl (gO g, 10, .inr (.inr (.inr (.inr (va_up f sz (some v))))))) := by rw [e_2]; exact va_up_self _ _ _
  have k_4 := (congrFun e_2 o).trans ((va_up_ne _ _ (Ne.symm heo)).trans h0)
  refine lv_aload_n hx hb dJx4a65c_add_72be8_15 rfl (lv_at hl 0 rfl) ?_
  refine lv_iload_n hx hb dJx4a65c_add_72be8_16 rfl (lv_at hl 3 rfl) ?_
  refine lv_iconst (v := nI 1) hx hb dJx4a65c_add_72be8_17 (by decide) ?_
  refine n_iadd hx hb dJx4a65c_add_72be8_18 (nI_add _ _) ?_
  refine pJx4a65c_2 hx hb hX hown k_4 kw43 dJx4a65c_add_72be8_19 (fun H locs hX => ?_)
  obtain ⟨μ_5, e_6⟩ : ∃ z, z = va_up μ_1 o (some (.inr (0, [.int mc, .ref ea, .int (nI (sz + 1))]))) := ⟨_, rfl⟩
  rw [← e_6] at hX
  have k_7 : μ_5 o = some (.inr (0, [.int mc, .ref ea, .int (nI (sz + 1))])) := by rw [e_6]; exact va_up_self _ _ _
  have k_8 := (congrFun e_6 ea).trans ((va_up_ne _ _ heo).trans k_3)
  exact w_vret hx hb hr hlocks hX ⟨rfl, k_8, k_7, fun z n1 n2 => by rw [e_6, va_up_ne _ _ n2, e_2, va_up_ne _ _ n1]⟩ ⟨Nat.le_of_ble_eq_true rfl, Nat.le_of_ble_eq_true rfl⟩ dJx4a65c_add_72be8_22

set_option maxHeartbeats 4000000 in
set_option maxRecDepth 100000 in
/-- add to an empty list -/
theorem c_Jx4a65c_add_9ea2d_E (l : Launch) (g : wG) (μ : wMu) (zz : Nat) {o : Nat} {mc : Int32} (h0 : μ o = some (.inr (0, [.int mc, .ref (gE g), .int (nI 0)]))) {v ci : Nat} {vc : vw_C} {vs : List Value} (hv : μ v = some (.inr (ci, vs))) (hc : vwCl[ci]? = some vc) (hca : Cond.castable vc.1 "java/lang/Object" ∈ GW) (hvo : v ≠ o)  : wMet l yJx4a65c_add_9ea2d cJx4a65c_add_9ea2d 2 (some .boolean) 4 1 10 87 g [.ref o, .ref v] μ zz (fun r μ' => ∃ q, r = some (.int (nI 1)) ∧ μ q = none ∧ q ≠ o ∧ μ' q = some (.inl (gO g, 10, .inr (.inr (.inr (.inr (va_up (fun _ => none) 0 (some v))))))) ∧ μ' o = some (.inr (0, [.int (mc + nI 1), .ref q, .int (nI 1)])) ∧ ∀ z, z ≠ q → z ≠ o → μ' z = μ z) := by
  refine wMet.of (by decide) (Nat.le_of_ble_eq_true rfl) ?_
  intro p e s m below meth c ls hx hb hr hml hown hlocks hin hl hsz hX
  have hl : lv_has ls 2 [(0, .ref o), (1, .ref v)] := hl
  refine lv_aload_n hx hb dJx4a65c_add_9ea2d_0 rfl (lv_at hl 0 rfl) ?_
  refine lv_dup hx hb dJx4a65c_add_9ea2d_1 rfl ?_
  refine gJx4a65c_0 hx hb hX hown h0 kw45 dJx4a65c_add_9ea2d_2 ?_
  refine lv_iconst (v := nI 1) hx hb dJx4a65c_add_9ea2d_5 (by decide) ?_
  refine n_iadd (v := mc + (nI 1)) hx hb dJx4a65c_add_9ea2d_6 rfl ?_
  refine pJx4a65c_0 hx hb hX hown h0 kw45 dJx4a65c_add_9ea2d_7 (fun H locs hX => ?_)
  obtain ⟨μ_1, e_2⟩ : ∃ z, z = va_up μ o (some (.inr (0, [.int (mc + (nI 1)), .ref (gE g), .int (nI 0)]))) := ⟨_, rfl⟩
  rw [← e_2] at hX
  have k_3 : μ_1 o = some (.inr (0, [.int (mc + (nI 1)), .ref (gE g), .int (nI 0)])) := by rw [e_2]; exact va_up_self _ _ _
  refine lv_aload_n hx hb dJx4a65c_add_9ea2d_10 rfl (lv_at hl 0 rfl) ?_
  refine lv_aload_n hx hb dJx4a65c_add_9ea2d_11 rfl (lv_at hl 1 rfl) ?_
  refine lv_aload_n hx hb dJx4a65c_add_9ea2d_12 rfl (lv_at hl 0 rfl) ?_
  refine gJx4a65c_1 hx hb hX hown k_3 kw42 dJx4a65c_add_9ea2d_13 ?_
  refine lv_aload_n hx hb dJx4a65c_add_9ea2d_16 rfl (lv_at hl 0 rfl) ?_
  refine gJx4a65c_2 hx hb hX hown k_3 kw43 dJx4a65c_add_9ea2d_17 ?_
  have kv := (congrFun e_2 v).trans ((va_up_ne _ _ hvo).trans hv)
  refine w_call (w_runV (n := 3) (As := [.ref v, .ref (gE g), .int (nI 0)]) (rest := []) hx hb hml hown hX (c_Jx4a65c_add_72be8_E l g μ_1 H.size k_3 kv hc hca hvo) kw470 kw4 kw467 kw469 kp21 wn_Jx4a65c_add_72be8 rfl k_3 rfl ⟨Nat.le_of_ble_eq_true rfl, Nat.le_of_ble_eq_true rfl⟩ hl.1 rfl (Nat.le_of_ble_eq_true rfl) dJx4a65c_add_9ea2d_20 ⟨Nat.le_of_ble_eq_true rfl, Nat.le_of_ble_eq_true rfl⟩) hX (fun r_6 μ_4 H locs q_5 hX hz => ?_)
  obtain ⟨qq, rfl, k0, k1, k2, k3, k4⟩ := q_5
  rw [e_2, va_up_ne _ _ k1] at k0
  refine W.eq (g2 := F0 m 23 ls []) rfl ?_
  refine lv_iconst (v := nI 1) hx hb dJx4a65c_add_9ea2d_23 (by decide) ?_
  exact w_zret hx hb hr hlocks hX (by first | rfl | decide) ⟨qq, rfl, k0, k1, k2, k3, fun z n1 n2 => by rw [k4 z n1 n2, e_2, va_up_ne _ _ n2]⟩ ⟨Nat.le_of_ble_eq_true rfl, Nat.le_of_ble_eq_true rfl⟩ dJx4a65c_add_9ea2d_24

set_option maxHeartbeats 4000000 in
set_option maxRecDepth 100000 in
/-- add where there is room -/
theorem c_Jx4a65c_add_9ea2d_R (l : Launch) (g : wG) (μ : wMu) (zz : Nat) {o ea sz : Nat} {mc : Int32} {f : Nat → Option Nat} (h0 : μ o = some (.inr (0, [.int mc, .ref ea, .int (nI sz)]))) (h1 : μ ea = some (.inl (gO g, 10, .inr (.inr (.inr (.inr f)))))) (heo : ea ≠ o) (b1 : sz < 10) {v ci : Nat} {vc : vw_C} {vs : List Value} (hv : μ v = some (.inr (ci, vs))) (hc : vwCl[ci]? = some vc) (hca : Cond.castable vc.1 "java/lang/Object" ∈ GW) (hvo : v ≠ o)  : wMet l yJx4a65c_add_9ea2d cJx4a65c_add_9ea2d 2 (some .boolean) 4 1 10 87 g [.ref o, .ref v] μ zz (fun r μ' => r = some (.int (nI 1)) ∧ μ' ea = some (.inl (gO g, 10, .inr (.inr (.inr (.inr (va_up f sz (some v))))))) ∧ μ' o = some (.inr (0, [.int (mc + nI 1), .ref ea, .int (nI (sz + 1))])) ∧ ∀ z, z ≠ ea → z ≠ o → μ' z = μ z) := by
  refine wMet.of (by decide) (Nat.le_of_ble_eq_true rfl) ?_
  intro p e s m below meth c ls hx hb hr hml hown hlocks hin hl hsz hX
  have hl : lv_has ls 2 [(0, .ref o), (1, .ref v)] := hl
  refine lv_aload_n hx hb dJx4a65c_add_9ea2d_0 rfl (lv_at hl 0 rfl) ?_
  refine lv_dup hx hb dJx4a65c_add_9ea2d_1 rfl ?_
  refine gJx4a65c_0 hx hb hX hown h0 kw45 dJx4a65c_add_9ea2d_2 ?_
  refine lv_iconst (v := nI 1) hx hb dJx4a65c_add_9ea2d_5 (by decide) ?_
  refine n_iadd (v := mc + (nI 1)) hx hb dJx4a65c_add_9ea2d_6 rfl ?_
  refine pJx4a65c_0 hx hb hX hown h0 kw45 dJx4a65c_add_9ea2d_7 (fun H locs hX => ?_)
  obtain ⟨μ_1, e_2⟩ : ∃ z, z = va_up μ o (some (.inr (0, [.int (mc + (nI 1)), .ref ea, .int (nI sz)]))) := ⟨_, rfl⟩
  rw [← e_2] at hX
  have k_3 : μ_1 o = some (.inr (0, [.int (mc + (nI 1)), .ref ea, .int (nI sz)])) := by rw [e_2]; exact va_up_self _ _ _
  have k_4 := (congrFun e_2 ea).trans ((va_up_ne _ _ heo).trans h1)
  refine lv_aload_n hx hb dJx4a65c_add_9ea2d_10 rfl (lv_at hl 0 rfl) ?_
  refine lv_aload_n hx hb dJx4a65c_add_9ea2d_11 rfl (lv_at hl 1 rfl) ?_
  refine lv_aload_n hx hb dJx4a65c_add_9ea2d_12 rfl (lv_at hl 0 rfl) ?_
  refine gJx4a65c_1 hx hb hX hown k_3 kw42 dJx4a65c_add_9ea2d_13 ?_
  refine lv_aload_n hx hb dJx4a65c_add_9ea2d_16 rfl (lv_at hl 0 rfl) ?_
  refine gJx4a65c_2 hx hb hX hown k_3 kw43 dJx4a65c_add_9ea2d_17 ?_
  have kv := (congrFun e_2 v).trans ((va_up_ne _ _ hvo).trans hv)
  refine w_call (w_runV (n := 3) (As := [.ref v, .ref ea, .int (nI sz)]) (rest := []) hx hb hml hown hX (c_Jx4a65c_add_72be8_R l g μ_1 H.size k_3 k_4 heo b1 kv hc hca hvo) kw470 kw4 kw467 kw469 kp21 wn_Jx4a65c_add_72be8 rfl k_3 rfl ⟨Nat.le_of_ble_eq_true rfl, Nat.le_of_ble_eq_true rfl⟩ hl.1 rfl (Nat.le_of_ble_eq_true rfl) dJx4a65c_add_9ea2d_20 ⟨Nat.le_of_ble_eq_true rfl, Nat.le_of_ble_eq_true rfl⟩) hX (fun r_7 μ_5 H locs q_6 hX hz => ?_)
  obtain ⟨rfl, k2, k3, k4⟩ := q_6
  refine W.eq (g2 := F0 m 23 ls []) rfl ?_
  refine lv_iconst (v := nI 1) hx hb dJx4a65c_add_9ea2d_23 (by decide) ?_
  exact w_zret hx hb hr hlocks hX (by first | rfl | decide) ⟨rfl, k2, k3, fun z n1 n2 => by rw [k4 z n1 n2, e_2, va_up_ne _ _ n2]⟩ ⟨Nat.le_of_ble_eq_true rfl, Nat.le_of_ble_eq_true rfl⟩ dJx4a65c_add_9ea2d_24

theorem fm_neg : ∀ c, c < 2300 → 0 < c → (¬ 0 ≤ (nI 0 - nI c) ^^^ nI 30) ∧ (c % 30 = 0 → (nI 0 - nI c) - (nI 0 - nI c) / nI 30 * nI 30 = 0) ∧ (¬ c % 30 = 0 → ¬ (nI 0 - nI c) - (nI 0 - nI c) / nI 30 * nI 30 = 0 ∧ (nI 0 - nI c) - (nI 0 - nI c) / nI 30 * nI 30 + nI 30 = nI (30 - c % 30)) := by decide +kernel
theorem fm_pos : ∀ c, c < 30 → 0 ≤ nI c ^^^ nI 30 ∧ nI c - nI c / nI 30 * nI 30 = nI c := by decide +kernel
theorem fm_dif {a b : Nat} (h : a ≤ b) (hb : b < 2300) : nI a - nI b = nI 0 - nI (b - a) := Int32.toInt_inj.mp (by rw [pk_sub_toInt (by omega) (by omega), pk_sub_toInt (by omega) (by omega)]; omega)

theorem MetP.ofW {l : Launch} {y : MethodName} {ws ws' : List Cond} {rm : Room} {Pc : Array Value → State → Prop} {Qc : Array Value → State → Outcome → State → Prop} {mc ms : Nat} {free : Addr → Prop} {cc : ByteArray} {maxL : Nat} {ret : Option FieldType}
    (hy : plainFor y = true) (hw : ws = Cond.code y cc maxL ret :: ws')
    (body : ∀ p e s m args below meth c s₁, BodyLoose p l y (headSpec ws rm) cc maxL ret e s m args below meth c s₁ → c.maxLocals = maxL → Pc args s →
      W p l e (headSpec ws rm).room s m args below meth c s.heap [] 0 0 (MQ below Qc args s mc ms free) (entryFrame m args maxL)) : Met l y ws rm Pc Qc mc ms free := by
  refine MetFree.of_bodySF (code := cc) (maxLocals := maxL) (ret := ret) hy ?_ ?_
  · intro args s m h hn
    obtain ⟨meth, c, h1, h2, h3, h4, h5, h6, -, -⟩ := Cond.code_spec hn (atoms_spec (ws := ws) h _ (by rw [hw]; exact List.mem_cons_self))
    exact ⟨meth, c, h1, h2, h3, h4, h5, h6⟩
  · intro p e s m args below meth c s₁ B hml hP _
    have hh0 : s₁.heap = s.heap := by rw [B.state]; rfl
    obtain ⟨t, a1, o, b1, b2, b3⟩ := body p e s m args below meth c s₁ B hml hP s₁ hh0 (Stand.of_body B)
    exact ⟨t, o, a1, b1, b2, ⟨b3.1, b3.2⟩⟩
theorem wMet.ofP {l : Launch} {y : MethodName} {bytes : ByteArray} {maxL : Nat} {ret : Option FieldType} {fr mc ms lo : Nat} {g : wG} {av : List Value} {μ : wMu} {sz : Nat} {post : Option Value → wMu → Prop} (hy : plainFor y = true) (hsl : (lg_sl av).length ≤ maxL)
    (body : ∀ (p : Program) (e : Env) (s : State) (m : MethodId) (below : List Frame) (meth : Method) (c : Code) (ls : Array Slot), p.tables.exec = Jvm.exec → c.code = bytes → meth.sig.returnType = ret → c.maxLocals = maxL → s.vm.findClass y.cls = some m.cls → meth.locks = false → meth.name = y.name → lv_has ls maxL (lv_args 0 av) → s.heap.size = sz → wX g (wA μ sz) s s.heap [] μ →
      W p l e ({ frames := fr, cells := mc, slots := ms, locals := lo } : Room) s m av.toArray below meth c s.heap [] 0 0 (MQ below (wQc g μ sz post) av.toArray s mc ms (wA μ sz)) (F0 m 0 ls [])) : wMet l y bytes maxL ret fr mc ms lo g av μ sz post := by
  refine MetP.ofW (cc := bytes) (maxL := maxL) (ret := ret) (ws' := []) hy rfl ?_
  intro p e s m args below meth c s₁ B hml hv
  have hX := wX.start hv
  obtain ⟨rfl, hsz, -⟩ := hv
  have hl := lv_entry av (n := maxL) hsl
  rw [lg_entry_eq]
  exact body p e s m below meth c _ B.exec B.bytes B.returns hml (findClass_of_methodNamed B.named) B.notSynchronized (name_of_methodNamed B.named B.method).1 hl hsz hX

set_option maxHeartbeats 4000000 in
set_option maxRecDepth 100000 in
/-- the days that are still to come -/
theorem c_J9_floorMod_7cf53 (l : Launch) (g : wG) (μ : wMu) (zz : Nat) {a b : Nat} (h1 : a ≤ 29) (h2 : b < 2300) : wMet l yJ9_floorMod_7cf53 cJ9_floorMod_7cf53 3 (some .int) 0 0 0 0 g [.int (nI a - nI b), .int (nI 30)] μ zz (fun r μ' => r = some (.int (nI ((a + 30 - b % 30) % 30))) ∧ μ' = μ) := by
  refine wMet.ofP (by decide +kernel) (Nat.le_of_ble_eq_true rfl) ?_
  intro p e s m below meth c ls hx hb hr hml hown hlocks hin hl hsz hX
  obtain ⟨x, hxe⟩ : ∃ x, x = nI a - nI b := ⟨_, rfl⟩
  obtain ⟨y, hye⟩ : ∃ y, y = x - x / nI 30 * nI 30 := ⟨_, rfl⟩
  have hl : lv_has ls 3 [(0, .int x), (1, .int (nI 30))] := by rw [hxe]; exact hl
  refine lv_iload_n hx hb dJ9_floorMod_7cf53_0 rfl (lv_at hl 0 rfl) ?_
  refine lv_iload_n hx hb dJ9_floorMod_7cf53_1 rfl (lv_at hl 1 rfl) ?_
  refine n_irem hx hb dJ9_floorMod_7cf53_2 (by decide) hye.symm ?_
  refine lv_istore_n (lv' := [(2, .int y), (0, .int x), (1, .int (nI 30))]) hx hb dJ9_floorMod_7cf53_3 rfl hl (by decide) rfl (fun ls hl => ?_)
  refine lv_iload_n hx hb dJ9_floorMod_7cf53_4 rfl (lv_at hl 1 rfl) ?_
  refine lv_iload_n hx hb dJ9_floorMod_7cf53_5 rfl (lv_at hl 2 rfl) ?_
  refine lv_ixor hx hb dJ9_floorMod_7cf53_6 ?_
  refine lv_if_ge (tgt := 18) hx hb dJ9_floorMod_7cf53_7 (by decide) (fun h => ?_) (fun h => ?_)
  · refine lv_iload_n hx hb dJ9_floorMod_7cf53_18 rfl (lv_at hl 0 rfl) ?_
    refine w_iret hx hb hr hlocks hX ⟨?_, rfl⟩ ⟨Nat.le_of_ble_eq_true rfl, Nat.le_of_ble_eq_true rfl⟩ dJ9_floorMod_7cf53_19
    rcases Nat.lt_or_ge a b with q | q
    · rw [hxe, fm_dif (Nat.le_of_lt q) h2] at h
      exact absurd h (fm_neg (b - a) (by omega) (by omega)).1
    · rw [hye, hxe, pk_sub q, (fm_pos (a - b) (by omega)).2, show (a + 30 - b % 30) % 30 = a - b by omega]
  · refine lv_iload_n hx hb dJ9_floorMod_7cf53_10 rfl (lv_at hl 0 rfl) ?_
    have q : a < b := by
      rcases Nat.lt_or_ge a b with q | q
      · exact q
      · rw [hxe, pk_sub q] at h
        exact absurd (fm_pos (a - b) (by omega)).1 h
    have f := (fm_neg (b - a) (by omega) (by omega)).2
    rw [hxe, fm_dif (Nat.le_of_lt q) h2] at hye
    rw [← hye] at f
    refine lv_if_eq (tgt := 18) hx hb dJ9_floorMod_7cf53_11 (by decide) (fun h3 => ?_) (fun h3 => ?_)
    · refine lv_iload_n hx hb dJ9_floorMod_7cf53_18 rfl (lv_at hl 0 rfl) ?_
      refine w_iret hx hb hr hlocks hX ⟨?_, rfl⟩ ⟨Nat.le_of_ble_eq_true rfl, Nat.le_of_ble_eq_true rfl⟩ dJ9_floorMod_7cf53_19
      by_cases z : (b - a) % 30 = 0
      · rw [h3, show (a + 30 - b % 30) % 30 = 0 by omega, nI_0]
      · exact absurd h3 (f.2 z).1
    · refine lv_iload_n hx hb dJ9_floorMod_7cf53_14 rfl (lv_at hl 0 rfl) ?_
      refine lv_iload_n hx hb dJ9_floorMod_7cf53_15 rfl (lv_at hl 2 rfl) ?_
      refine lv_iadd hx hb dJ9_floorMod_7cf53_16 ?_
      refine w_iret hx hb hr hlocks hX ⟨?_, rfl⟩ ⟨Nat.le_of_ble_eq_true rfl, Nat.le_of_ble_eq_true rfl⟩ dJ9_floorMod_7cf53_17
      by_cases z : (b - a) % 30 = 0
      · exact absurd (f.1 z) h3
      · rw [(f.2 z).2, show (a + 30 - b % 30) % 30 = 30 - (b - a) % 30 by omega]
end
section
/-! WHAT A STATE IS: σ f i, f the field: 0 hour, 1 granted, 2 denied, 3 wands, 4 children; a wand's 5 room, 6 falls, 7 dust; a child's 8 wand, 9 birthday, 10 burst, 11 punished for, 12 marks, 13 next punishment -/
abbrev sSt : Type := Nat → Nat → Nat
def up2 (σ : sSt) (f i v : Nat) : sSt := fun f' i' => if f' = f ∧ i' = i then v else σ f' i'
theorem up2_self (σ : sSt) (f i v : Nat) : up2 σ f i v f i = v := by simp [up2]
theorem up2_nf (σ : sSt) {f i v f' i' : Nat} (h : f' ≠ f) : up2 σ f i v f' i' = σ f' i' := by simp [up2, h]
theorem up2_ni (σ : sSt) {f i v f' i' : Nat} (h : i' ≠ i) : up2 σ f i v f' i' = σ f' i' := by simp [up2, h]
abbrev isI (x : Int32) (a b : Nat) : Prop := (a : Int) ≤ x.toInt ∧ x.toInt ≤ (b : Int)
abbrev isX (x : Int32) (n : Nat) : Prop := 0 ≤ x.toInt ∧ x.toInt < (n : Int)
def toN (x : Int32) : Nat := x.toInt.toNat
theorem nI_of_toInt {x : Int32} (h : 0 ≤ x.toInt) : x = nI (toN x) := by
  have hlt : x.toInt < 2 ^ 31 := Int32.toInt_lt x
  have h2 : toN x < 2 ^ 31 := by unfold toN; omega
  refine Int32.toInt_inj.mp ?_
  rw [nI_toInt h2]
  unfold toN
  omega
theorem isI.nI {x : Int32} {a b : Nat} (h : isI x a b) : x = nI (toN x) ∧ a ≤ toN x ∧ toN x ≤ b := by
  obtain ⟨h1, h2⟩ := h
  refine ⟨nI_of_toInt (by omega), ?_, ?_⟩ <;> unfold toN <;> omega
theorem isX.nI {x : Int32} {n : Nat} (h : isX x n) : x = nI (toN x) ∧ toN x < n := by
  obtain ⟨h1, h2⟩ := h
  refine ⟨nI_of_toInt (by omega), ?_⟩
  unfold toN; omega
theorem toN_nI {n : Nat} (h : n < 2 ^ 31) : toN (nI n) = n := by
  unfold toN; rw [nI_toInt h]; omega
theorem isI_nI {n a b : Nat} (h : n < 2 ^ 31) : isI (nI n) a b ↔ a ≤ n ∧ n ≤ b := by
  unfold isI; rw [nI_toInt h]; omega
theorem isX_nI {n k : Nat} (h : n < 2 ^ 31) : isX (nI n) k ↔ n < k := by
  unfold isX; rw [nI_toInt h]; omega
theorem lt_nI {x : Int32} {n : Nat} (h : n < 2 ^ 31) : x < nI n ↔ x.toInt < (n : Int) := by rw [Int32.lt_iff_toInt_lt, nI_toInt h]
theorem nI_ltx {x : Int32} {n : Nat} (h : n < 2 ^ 31) : nI n < x ↔ (n : Int) < x.toInt := by rw [Int32.lt_iff_toInt_lt, nI_toInt h]
theorem nI_lex {x : Int32} {n : Nat} (h : n < 2 ^ 31) : nI n ≤ x ↔ (n : Int) ≤ x.toInt := by rw [Int32.le_iff_toInt_le, nI_toInt h]
theorem lex_nI {x : Int32} {n : Nat} (h : n < 2 ^ 31) : x ≤ nI n ↔ x.toInt ≤ (n : Int) := by rw [Int32.le_iff_toInt_le, nI_toInt h]
theorem lt_0x {x : Int32} : x < 0 ↔ x.toInt < 0 := by rw [Int32.lt_iff_toInt_lt]; rfl
/-- what holds of every state that is reached -/
def sOk (σ : sSt) : Prop := σ 3 0 ≤ 4 ∧ σ 4 0 ≤ 10 ∧ (∀ i, i < σ 3 0 → 1 ≤ σ 5 i ∧ σ 5 i ≤ 60 ∧ σ 6 i ≤ 9 ∧ σ 7 i ≤ σ 5 i) ∧ (∀ j, j < σ 4 0 → σ 8 j < σ 3 0 ∧ σ 9 j ≤ 29 ∧ σ 10 j ≤ 12 ∧ σ 11 j ≤ 48 ∧ σ 12 j ≤ 2 ∧ σ 13 j ≤ 32) ∧ (∀ j, σ 4 0 ≤ j → σ 11 j = 0 ∧ σ 12 j = 0) ∧ σ 0 0 ≤ 52000 ∧ σ 1 0 + σ 2 0 ≤ 1000
/-! what is answered -/
def bIn (σ : sSt) (j k : Nat) : Nat := if (σ 0 0 + k) / 24 = σ 0 0 / 24 then σ 10 j else bstD (σ 9 j) ((σ 0 0 + k) / 24)
def dIn (σ : sSt) (i k : Nat) : Nat := min (σ 5 i) (σ 7 i + k * σ 6 i)
def utl (σ : sSt) (j sz : Nat) : Nat → Nat → Int32
  | 0, _ => -1
  | n + 1, k => if σ 11 j ≤ k ∧ sz ≤ bIn σ j k + dIn σ (σ 8 j) k then nI k else utl σ j sz n (k + 1)
def twc (sz rm fl bd h0 : Nat) : Nat → Nat → Nat → Nat → Nat → Nat → Nat → Nat
  | 0, _, _, _, _, _, _ => 0
  | n + 1, b, du, bu, he, mr, nx => fwG sz du bu he + twc sz rm fl bd h0 n (b + 1) (min rm (fwD sz du bu he + fl)) (bstH bd (fwB sz du bu he) (h0 + b + 1)) (fwH sz du bu he mr nx - 1) (fwM sz du bu he mr) (fwN sz du bu he mr nx)
def tws (σ : sSt) (j sz n fl : Nat) : Nat := twc sz (σ 5 (σ 8 j)) fl (σ 9 j) (σ 0 0) n 0 (σ 7 (σ 8 j)) (σ 10 j) (σ 11 j) (σ 12 j) (σ 13 j)
def wtd (σ : sSt) (j sz : Nat) : Nat → Nat → Int32
  | 0, _ => -1
  | n + 1, f => if tws σ j sz 24 f = 24 then nI f else wtd σ j sz n (f + 1)
def ufl (lk fl : Nat) : Nat → Nat → Int32
  | 0, _ => -1
  | n + 1, k => if lk ≤ fl * k then nI k else ufl lk fl n (k + 1)
def vFul (σ : sSt) (i : Nat) : Int32 := ufl (σ 5 i - σ 7 i) (σ 6 i) 101 0
abbrev okW (σ : sSt) (j sz : Nat) : Prop := σ 11 j = 0 ∧ sz ≤ σ 10 j + σ 7 (σ 8 j)
def lft (σ : sSt) (j sz : Nat) : Nat := σ 7 (σ 8 j) - (sz - σ 10 j)
def bstC (σ : sSt) (sz : Nat) : Nat → Nat
  | 0 => 0
  | n + 1 => if okW σ n sz ∧ (bstC σ sz n = 0 ∨ lft σ (bstC σ sz n - 1) sz < lft σ n sz) then n + 1 else bstC σ sz n
def vBst (σ : sSt) (sz : Nat) : Int32 := if bstC σ sz (σ 4 0) = 0 then -1 else nI (bstC σ sz (σ 4 0) - 1)
def cHel (σ : sSt) : Nat → Nat
  | 0 => 0
  | n + 1 => cHel σ n + (if 0 < σ 11 n then 1 else 0)
def cUsr (σ : sSt) (i : Nat) : Nat → Nat
  | 0 => 0
  | n + 1 => cUsr σ i n + (if σ 8 n = i then 1 else 0)
def vDay (σ : sSt) (j : Nat) : Nat := (σ 9 j + 30 - σ 0 0 / 24 % 30) % 30
def vGrt (σ : sSt) (j : Nat) : Nat := if 0 < σ 11 j then 0 else min 20 (σ 10 j + σ 7 (σ 8 j))
def mix (d : Int64) (x : Int32) : Int64 := d * 31 + x.toInt64
def dgW (σ : sSt) (d : Int64) : Nat → Int64
  | 0 => d
  | i + 1 => mix (mix (mix (dgW σ d i) (nI (σ 7 i))) (nI (cUsr σ i (σ 4 0)))) (vFul σ i)
def dgC (σ : sSt) (d : Int64) : Nat → Int64
  | 0 => d
  | j + 1 => mix (mix (mix (mix (mix (mix (mix (mix (mix (mix (dgC σ d j) (nI (σ 8 j))) (nI (σ 10 j))) (nI (σ 11 j))) (nI (σ 12 j))) (nI (σ 13 j))) (nI (vDay σ j))) (nI (vGrt σ j))) (utl σ j 10 101 0)) (nI (tws σ j 4 12 (σ 6 (σ 8 j))))) (wtd σ j 3 21 0)
def dg0 (σ : sSt) : Int64 := mix (mix (mix (mix (mix (mix (mix (mix 2267 (nI (σ 0 0))) (nI (σ 0 0 / 24))) (nI (σ 3 0))) (nI (σ 4 0))) (nI (σ 1 0))) (nI (σ 2 0))) (nI (cHel σ (σ 4 0)))) (vBst σ 5)
def vDig (σ : sSt) : Int64 := dgC σ (dgW σ (dg0 σ) (σ 3 0)) (σ 4 0)
def vShr (a b : Nat) : UInt64 := FP.ddiv (FP.i2d (nI a)) (FP.i2d (nI (a + b)))
/-! what comes behind -/
def nAddW (σ : sSt) (a b : Nat) : sSt := up2 (up2 (up2 (up2 σ 5 (σ 3 0) a) 7 (σ 3 0) a) 6 (σ 3 0) b) 3 0 (σ 3 0 + 1)
def nAddC (σ : sSt) (a b : Nat) : sSt := up2 (up2 (up2 (up2 (up2 σ 8 (σ 4 0) a) 9 (σ 4 0) b) 10 (σ 4 0) (bstD b (σ 0 0 / 24))) 13 (σ 4 0) 4) 4 0 (σ 4 0 + 1)
def nWis (σ : sSt) (j sz : Nat) : sSt :=
  let w := σ 8 j
  let s1 := up2 (up2 (up2 (up2 (up2 σ 7 w (fwD sz (σ 7 w) (σ 10 j) (σ 11 j))) 10 j (fwB sz (σ 7 w) (σ 10 j) (σ 11 j))) 11 j (fwH sz (σ 7 w) (σ 10 j) (σ 11 j) (σ 12 j) (σ 13 j))) 12 j (fwM sz (σ 7 w) (σ 10 j) (σ 11 j) (σ 12 j))) 13 j (fwN sz (σ 7 w) (σ 10 j) (σ 11 j) (σ 12 j) (σ 13 j))
  if okW σ j sz then up2 s1 1 0 (σ 1 0 + 1) else up2 s1 2 0 (σ 2 0 + 1)
def nFor (σ : sSt) (j : Nat) : sSt := up2 (up2 σ 11 j 0) 12 j 0
def nPas (σ : sSt) (k : Nat) : sSt := fun f i =>
  if f = 0 ∧ i = 0 then σ 0 0 + k else if f = 7 ∧ i < σ 3 0 then dIn σ i k else if f = 10 ∧ i < σ 4 0 then bIn σ i k else if f = 11 ∧ i < σ 4 0 then σ 11 i - k else σ f i
def sFal (σ : sSt) (k : Nat) : Nat → Nat
  | 0 => 0
  | n + 1 => sFal σ k n + (dIn σ n k - σ 7 n)
/-! the class's cells -/
abbrev cF (Λ σ : sSt) : va_E := .inr (3, [.ref (Λ 1 0), .ref (Λ 2 0), .ref (Λ 5 0), .ref (Λ 6 0), .int (nI (σ 0 0)), .int (nI (σ 1 0)), .int (nI (σ 2 0))])
abbrev cW (σ : sSt) (i : Nat) : va_E := .inr (2, [.int (nI i), .int (nI (σ 5 i)), .int (nI (σ 6 i)), .int (nI (σ 7 i))])
abbrev cC (Λ σ : sSt) (j : Nat) : va_E := .inr (1, [.ref (Λ 7 (σ 8 j)), .int (nI (σ 9 j)), .int (nI (σ 10 j)), .int (nI (σ 11 j)), .int (nI (σ 12 j)), .int (nI (σ 13 j))])
abbrev cO (g : wG) (f : Nat → Option Nat) : va_E := .inl (gO g, 10, .inr (.inr (.inr (.inr f))))
abbrev cJ (g : wG) (v : Int64) : va_E := .inl (gJ g, 1, .inr (.inl (fun _ => v)))
def arrOK (g : wG) (μ : wMu) (e n : Nat) (p : Nat → Nat) : Prop := (n = 0 ∧ e = gE g) ∨ ∃ f : Nat → Option Nat, μ e = some (cO g f) ∧ ∀ i, i < n → f i = some (p i)
def fD (g : wG) (Λ : sSt) (xv : Option Int64) (σ : sSt) (μ : wMu) : Prop :=
  μ (Λ 0 0) = some (cF Λ σ) ∧ (∃ m : Int32, μ (Λ 1 0) = some (.inr (0, [.int m, .ref (Λ 3 0), .int (nI (σ 3 0))]))) ∧ (∃ m : Int32, μ (Λ 2 0) = some (.inr (0, [.int m, .ref (Λ 4 0), .int (nI (σ 4 0))]))) ∧
  arrOK g μ (Λ 3 0) (σ 3 0) (Λ 7) ∧ arrOK g μ (Λ 4 0) (σ 4 0) (Λ 8) ∧
  (∀ i, i < σ 3 0 → μ (Λ 7 i) = some (cW σ i)) ∧ (∀ j, j < σ 4 0 → μ (Λ 8 j) = some (cC Λ σ j)) ∧
  (∃ a b c d : Int32, μ (Λ 5 0) = some (.inr (2, [.int a, .int b, .int c, .int d]))) ∧ (∃ a b c d e : Int32, μ (Λ 6 0) = some (.inr (1, [.ref (Λ 5 0), .int a, .int b, .int c, .int d, .int e]))) ∧
  (Λ 1 0 ≠ Λ 2 0 ∧ (0 < σ 3 0 → 0 < σ 4 0 → Λ 3 0 ≠ Λ 4 0) ∧ (∀ i k, i < σ 3 0 → k < σ 3 0 → Λ 7 i = Λ 7 k → i = k) ∧ (∀ i k, i < σ 4 0 → k < σ 4 0 → Λ 8 i = Λ 8 k → i = k) ∧ (∀ i, i < σ 3 0 → Λ 7 i ≠ Λ 5 0) ∧ (∀ j, j < σ 4 0 → Λ 8 j ≠ Λ 6 0)) ∧
  (∀ v, xv = some v → μ (Λ 9 0) = some (cJ g v))
def kd : va_E → Nat
  | .inl a => match a.2.2 with
    | .inr (.inl _) => 101
    | .inr (.inr _) => 102
    | _ => 100
  | .inr o => o.1
theorem kd_nn {μ : wMu} {a b : Nat} {e1 e2 : va_E} (h1 : μ a = some e1) (h2 : μ b = some e2) (h : kd e1 ≠ kd e2) : a ≠ b := fun z => h (by
  rw [z, h2] at h1
  cases h1
  rfl)
theorem kd_ne {μ : wMu} {a b : Nat} {e1 e2 : va_E} (h1 : μ a = some e1) (h2 : μ b = some e2) (h : Nat.beq (kd e1) (kd e2) = false) : a ≠ b := kd_nn h1 h2 (Nat.ne_of_beq_eq_false h)
section FDL
variable {g : wG} {Λ σ σ' : sSt} {xv : Option Int64} {μ μ' : wMu}
theorem arrOK.same {e n : Nat} {p : Nat → Nat} (h : arrOK g μ e n p) (hq : ∀ f, μ e = some (cO g f) → μ' e = μ e) : arrOK g μ' e n p := by
  rcases h with h | ⟨f, h1, h2⟩
  · exact Or.inl h
  · exact Or.inr ⟨f, (hq f h1).trans h1, h2⟩
/-- another state of the objects, the same lists -/
theorem fD.chg (hF : fD g Λ xv σ μ) (h3 : σ' 3 0 = σ 3 0) (h4 : σ' 4 0 = σ 4 0) (hx : μ' (Λ 0 0) = some (cF Λ σ')) (hw : ∀ i, i < σ 3 0 → μ' (Λ 7 i) = some (cW σ' i)) (hc : ∀ j, j < σ 4 0 → μ' (Λ 8 j) = some (cC Λ σ' j))
    (ht1 : ∃ a b c d : Int32, μ' (Λ 5 0) = some (.inr (2, [.int a, .int b, .int c, .int d]))) (ht2 : ∃ a b c d e : Int32, μ' (Λ 6 0) = some (.inr (1, [.ref (Λ 5 0), .int a, .int b, .int c, .int d, .int e])))
    (hr : ∀ q e, μ q = some e → (kd e = 0 ∨ 100 ≤ kd e) → μ' q = μ q) : fD g Λ xv σ' μ' := by
  obtain ⟨f1, ⟨m1, f2⟩, ⟨m2, f3⟩, f4, f5, f6, f7, f8, f9, f10, f11⟩ := hF
  refine ⟨hx, ⟨m1, ?_⟩, ⟨m2, ?_⟩, ?_, ?_, ?_, ?_, ht1, ht2, ?_, ?_⟩
  · rw [hr _ _ f2 (Or.inl rfl), f2, h3]
  · rw [hr _ _ f3 (Or.inl rfl), f3, h4]
  · rw [h3]; exact f4.same (fun f h => hr _ _ h (Or.inr (Nat.le_of_ble_eq_true rfl)))
  · rw [h4]; exact f5.same (fun f h => hr _ _ h (Or.inr (Nat.le_of_ble_eq_true rfl)))
  · rw [h3]; exact hw
  · rw [h4]; exact hc
  · rw [h3, h4]; exact f10
  · intro v hv; rw [hr _ _ (f11 v hv) (Or.inr (Nat.le_of_ble_eq_true rfl))]; exact f11 v hv
/-- one wand is another -/
theorem fD.w1 (hF : fD g Λ xv σ μ) {i : Nat} (hi : i < σ 3 0) (hn : μ' (Λ 7 i) = some (cW σ' i)) (ho : ∀ q, q ≠ Λ 7 i → μ' q = μ q) (hs : ∀ f k, ¬ (5 ≤ f ∧ f ≤ 7 ∧ k = i) → σ' f k = σ f k) : fD g Λ xv σ' μ' := by
  obtain ⟨f1, ⟨m1, f2⟩, ⟨m2, f3⟩, f4, f5, f6, f7, f8, f9, f10, f11⟩ := id hF
  have hi0 := f6 i hi
  refine hF.chg (hs 3 0 (by omega)) (hs 4 0 (by omega)) ?_ ?_ ?_ ?_ ?_ ?_
  · rw [ho _ (kd_ne f1 hi0 rfl), f1]; simp only [hs 0 0 (by omega), hs 1 0 (by omega), hs 2 0 (by omega), cF]
  · intro k hk
    by_cases e : k = i
    · subst e; exact hn
    · rw [ho _ (fun z => e (f10.2.2.1 k i hk hi z)), f6 k hk]; simp only [cW, hs 5 k (by omega), hs 6 k (by omega), hs 7 k (by omega)]
  · intro j hj
    rw [ho _ (kd_ne (f7 j hj) hi0 rfl), f7 j hj]; simp only [cC, hs 8 j (by omega), hs 9 j (by omega), hs 10 j (by omega), hs 11 j (by omega), hs 12 j (by omega), hs 13 j (by omega)]
  · obtain ⟨a, b, c, d, h⟩ := f8
    exact ⟨a, b, c, d, by rw [ho _ (Ne.symm (f10.2.2.2.2.1 i hi)), h]⟩
  · obtain ⟨a, b, c, d, e, h⟩ := f9
    exact ⟨a, b, c, d, e, by rw [ho _ (kd_ne h hi0 rfl), h]⟩
  · intro q e h1 h2
    exact ho q (kd_nn h1 hi0 (by show kd e ≠ 2; omega))
/-- one child is another -/
theorem fD.c1 (hF : fD g Λ xv σ μ) {j : Nat} (hj : j < σ 4 0) (hn : μ' (Λ 8 j) = some (cC Λ σ' j)) (ho : ∀ q, q ≠ Λ 8 j → μ' q = μ q) (hs : ∀ f k, ¬ (8 ≤ f ∧ f ≤ 13 ∧ k = j) → σ' f k = σ f k) : fD g Λ xv σ' μ' := by
  obtain ⟨f1, ⟨m1, f2⟩, ⟨m2, f3⟩, f4, f5, f6, f7, f8, f9, f10, f11⟩ := id hF
  have hj0 := f7 j hj
  refine hF.chg (hs 3 0 (by omega)) (hs 4 0 (by omega)) ?_ ?_ ?_ ?_ ?_ ?_
  · rw [ho _ (kd_ne f1 hj0 rfl), f1]; simp only [hs 0 0 (by omega), hs 1 0 (by omega), hs 2 0 (by omega), cF]
  · intro k hk
    rw [ho _ (kd_ne (f6 k hk) hj0 rfl), f6 k hk]; simp only [cW, hs 5 k (by omega), hs 6 k (by omega), hs 7 k (by omega)]
  · intro k hk
    by_cases e : k = j
    · subst e; exact hn
    · rw [ho _ (fun z => e (f10.2.2.2.1 k j hk hj z)), f7 k hk]; simp only [cC, hs 8 k (by omega), hs 9 k (by omega), hs 10 k (by omega), hs 11 k (by omega), hs 12 k (by omega), hs 13 k (by omega)]
  · obtain ⟨a, b, c, d, h⟩ := f8
    exact ⟨a, b, c, d, by rw [ho _ (kd_ne h hj0 rfl), h]⟩
  · obtain ⟨a, b, c, d, e, h⟩ := f9
    exact ⟨a, b, c, d, e, by rw [ho _ (Ne.symm (f10.2.2.2.2.2 j hj)), h]⟩
  · intro q e h1 h2
    exact ho q (kd_nn h1 hj0 (by show kd e ≠ 1; omega))
/-- the fairy's own numbers are others -/
theorem fD.x1 (hF : fD g Λ xv σ μ) (hn : μ' (Λ 0 0) = some (cF Λ σ')) (ho : ∀ q, q ≠ Λ 0 0 → μ' q = μ q) (hs : ∀ f k, ¬ (f ≤ 2 ∧ k = 0) → σ' f k = σ f k) : fD g Λ xv σ' μ' := by
  obtain ⟨f1, ⟨m1, f2⟩, ⟨m2, f3⟩, f4, f5, f6, f7, f8, f9, f10, f11⟩ := id hF
  refine hF.chg (hs 3 0 (by omega)) (hs 4 0 (by omega)) hn ?_ ?_ ?_ ?_ ?_
  · intro k hk
    rw [ho _ (kd_ne (f6 k hk) f1 rfl), f6 k hk]; simp only [cW, hs 5 k (by omega), hs 6 k (by omega), hs 7 k (by omega)]
  · intro k hk
    rw [ho _ (kd_ne (f7 k hk) f1 rfl), f7 k hk]; simp only [cC, hs 8 k (by omega), hs 9 k (by omega), hs 10 k (by omega), hs 11 k (by omega), hs 12 k (by omega), hs 13 k (by omega)]
  · obtain ⟨a, b, c, d, h⟩ := f8
    exact ⟨a, b, c, d, by rw [ho _ (kd_ne h f1 rfl), h]⟩
  · obtain ⟨a, b, c, d, e, h⟩ := f9
    exact ⟨a, b, c, d, e, by rw [ho _ (kd_ne h f1 rfl), h]⟩
  · intro q e h1 h2
    exact ho q (kd_nn h1 f1 (by show kd e ≠ 3; omega))
/-- the trial's cells are others -/
theorem fD.t1 (hF : fD g Λ xv σ μ) (ht1 : ∃ a b c d : Int32, μ' (Λ 5 0) = some (.inr (2, [.int a, .int b, .int c, .int d]))) (ht2 : ∃ a b c d e : Int32, μ' (Λ 6 0) = some (.inr (1, [.ref (Λ 5 0), .int a, .int b, .int c, .int d, .int e]))) (ho : ∀ q, q ≠ Λ 5 0 → q ≠ Λ 6 0 → μ' q = μ q) : fD g Λ xv σ μ' := by
  obtain ⟨f1, ⟨m1, f2⟩, ⟨m2, f3⟩, f4, f5, f6, f7, ⟨a, b, c, d, f8⟩, ⟨a1, b1, c1, d1, e1, f9⟩, f10, f11⟩ := id hF
  refine hF.chg rfl rfl ?_ ?_ ?_ ht1 ht2 ?_
  · rw [ho _ (kd_ne f1 f8 rfl) (kd_ne f1 f9 rfl)]; exact f1
  · intro k hk
    rw [ho _ (f10.2.2.2.2.1 k hk) (kd_ne (f6 k hk) f9 rfl)]; exact f6 k hk
  · intro k hk
    rw [ho _ (kd_ne (f7 k hk) f8 rfl) (f10.2.2.2.2.2 k hk)]; exact f7 k hk
  · intro q e h1 h2
    exact ho q (kd_nn h1 f8 (by show kd e ≠ 2; omega)) (kd_nn h1 f9 (by show kd e ≠ 1; omega))
end FDL
end
section
theorem hat_IAE : ∀ w ∈ vx_atS RX2 255 "java/lang/IllegalArgumentException" ["java/lang/RuntimeException", "java/lang/Exception"], w ∈ GW := by decide +kernel
theorem hgd_IAE : ∀ w ∈ Cond.classLink RX2 251 "java/lang/IllegalArgumentException" :: Cond.initialized "java/lang/IllegalArgumentException" :: vx_atS RX2 255 "java/lang/IllegalArgumentException" ["java/lang/RuntimeException", "java/lang/Exception"], vx_ot w = true := by decide +kernel
theorem hat_ISE : ∀ w ∈ vx_atS RX2 48 "java/lang/IllegalStateException" ["java/lang/RuntimeException", "java/lang/Exception"], w ∈ GW := by decide +kernel
theorem hgd_ISE : ∀ w ∈ Cond.classLink RX2 44 "java/lang/IllegalStateException" :: Cond.initialized "java/lang/IllegalStateException" :: vx_atS RX2 48 "java/lang/IllegalStateException" ["java/lang/RuntimeException", "java/lang/Exception"], vx_ot w = true := by decide +kernel
theorem hat_IOB : ∀ w ∈ vx_atS RX2 248 "java/lang/IndexOutOfBoundsException" ["java/lang/RuntimeException", "java/lang/Exception"], w ∈ GW := by decide +kernel
theorem hgd_IOB : ∀ w ∈ Cond.classLink RX2 244 "java/lang/IndexOutOfBoundsException" :: Cond.initialized "java/lang/IndexOutOfBoundsException" :: vx_atS RX2 248 "java/lang/IndexOutOfBoundsException" ["java/lang/RuntimeException", "java/lang/Exception"], vx_ot w = true := by decide +kernel
theorem arrOK.pos {g : wG} {μ : wMu} {e n : Nat} {p : Nat → Nat} (h : arrOK g μ e n p) (hn : 0 < n) : ∃ f : Nat → Option Nat, μ e = some (cO g f) ∧ ∀ i, i < n → f i = some (p i) := by
  rcases h with h | h
  · omega
  · exact h
set_option maxHeartbeats 4000000 in
set_option maxRecDepth 100000 in
/-- in the range, or thrown -/
theorem c_X2_needWithin (l : Launch) (hlt : l.stackTraces = false) (g : wG) (μ : wMu) (zz : Nat) {x : Int32} {a b : Nat} (h1 : a < 2 ^ 30) (h2 : b < 2 ^ 30) : wMetX l yX2_needWithin cX2_needWithin 3 none 6 1 6 90 g [.int x, .int (nI a), .int (nI b)] μ zz (fun r μ' => ∃ k, a ≤ k ∧ k ≤ b ∧ x = nI k ∧ r = none ∧ μ' = μ) (fun E => E = xIAE ∧ ¬ isI x a b) := by
  refine wMetX.of (by decide) (Nat.le_of_ble_eq_true rfl) ?_
  intro p e s m below meth c ls hx hb hr hml hown hlocks hin hl hsz hX hxt
  have hl : lv_has ls 3 [(0, .int x), (1, .int (nI a)), (2, .int (nI b))] := hl
  refine lv_iload_n hx hb dX2_needWithin_0 rfl (lv_at hl 0 rfl) ?_
  refine lv_iload_n hx hb dX2_needWithin_1 rfl (lv_at hl 1 rfl) ?_
  refine lv_icmp_lt (tgt := 10) hx hb dX2_needWithin_2 (by decide) (fun c_1 => ?_) (fun c_1 => ?_)
  · skip
    rw [lt_nI (by omega)] at c_1
    exact w_throw hx hb hlt hown (by decide +kernel) kw210 kw11 hX.1.2.2.1.1 hat_IAE hgd_IAE hX (hl.1.trans hml.symm) dX2_needWithin_10 dX2_needWithin_13 dX2_needWithin_14 dX2_needWithin_16 dX2_needWithin_19 hxt (by decide) (Nat.le_of_ble_eq_true rfl) ⟨Nat.le_of_ble_eq_true rfl, Nat.le_of_ble_eq_true rfl⟩ hlocks ⟨rfl, fun z => absurd z (by unfold isI; omega)⟩ ⟨Nat.le_of_ble_eq_true rfl, Nat.le_of_ble_eq_true rfl⟩
  · skip
    rw [lt_nI (by omega)] at c_1
    refine lv_iload_n hx hb dX2_needWithin_5 rfl (lv_at hl 0 rfl) ?_
    refine lv_iload_n hx hb dX2_needWithin_6 rfl (lv_at hl 2 rfl) ?_
    refine lv_icmp_le (tgt := 20) hx hb dX2_needWithin_7 (by decide) (fun c_2 => ?_) (fun c_2 => ?_)
    · skip
      rw [lex_nI (by omega)] at c_2
      have zI : isI x a b := ⟨by omega, by omega⟩
      exact vx_ret (w_vret hx hb hr hlocks hX ⟨toN x, (isI.nI zI).2.1, (isI.nI zI).2.2, (isI.nI zI).1, rfl, rfl⟩ ⟨Nat.le_of_ble_eq_true rfl, Nat.le_of_ble_eq_true rfl⟩ dX2_needWithin_20)
    · skip
      rw [lex_nI (by omega)] at c_2
      exact w_throw hx hb hlt hown (by decide +kernel) kw210 kw11 hX.1.2.2.1.1 hat_IAE hgd_IAE hX (hl.1.trans hml.symm) dX2_needWithin_10 dX2_needWithin_13 dX2_needWithin_14 dX2_needWithin_16 dX2_needWithin_19 hxt (by decide) (Nat.le_of_ble_eq_true rfl) ⟨Nat.le_of_ble_eq_true rfl, Nat.le_of_ble_eq_true rfl⟩ hlocks ⟨rfl, fun z => absurd z (by unfold isI; omega)⟩ ⟨Nat.le_of_ble_eq_true rfl, Nat.le_of_ble_eq_true rfl⟩

set_option maxHeartbeats 4000000 in
set_option maxRecDepth 100000 in
/-- in the range -/
theorem c_X2_needWithin_g (l : Launch) (g : wG) (μ : wMu) (zz : Nat) {k a b : Nat} (h1 : a ≤ k) (h2 : k ≤ b) (h3 : b < 2 ^ 30) : wMet l yX2_needWithin cX2_needWithin 3 none 0 0 0 0 g [.int (nI k), .int (nI a), .int (nI b)] μ zz (fun r μ' => r = none ∧ μ' = μ) := by
  refine wMet.of (by decide) (Nat.le_of_ble_eq_true rfl) ?_
  intro p e s m below meth c ls hx hb hr hml hown hlocks hin hl hsz hX
  have hl : lv_has ls 3 [(0, .int (nI k)), (1, .int (nI a)), (2, .int (nI b))] := hl
  refine lv_iload_n hx hb dX2_needWithin_0 rfl (lv_at hl 0 rfl) ?_
  refine lv_iload_n hx hb dX2_needWithin_1 rfl (lv_at hl 1 rfl) ?_
  refine n_lt (tgt := 10) hx hb (by omega) (by omega) dX2_needWithin_2 (by decide) (fun h => absurd h (by omega)) (fun _ => ?_)
  refine lv_iload_n hx hb dX2_needWithin_5 rfl (lv_at hl 0 rfl) ?_
  refine lv_iload_n hx hb dX2_needWithin_6 rfl (lv_at hl 2 rfl) ?_
  refine n_le (tgt := 20) hx hb (by omega) (by omega) dX2_needWithin_7 (by decide) (fun _ => ?_) (fun h => absurd h (by omega))
  exact w_vret hx hb hr hlocks hX ⟨rfl, rfl⟩ ⟨Nat.le_of_ble_eq_true rfl, Nat.le_of_ble_eq_true rfl⟩ dX2_needWithin_20

set_option maxHeartbeats 4000000 in
set_option maxRecDepth 100000 in
/-- a size, or thrown -/
theorem c_X2_needSize (l : Launch) (hlt : l.stackTraces = false) (g : wG) (μ : wMu) (zz : Nat) {x : Int32}  : wMetX l yX2_needSize cX2_needSize 1 none 7 1 6 112 g [.int x] μ zz (fun r μ' => ∃ k, 1 ≤ k ∧ k ≤ 20 ∧ x = nI k ∧ r = none ∧ μ' = μ) (fun E => E = xIAE ∧ ¬ isI x 1 20) := by
  refine wMetX.of (by decide) (Nat.le_of_ble_eq_true rfl) ?_
  intro p e s m below meth c ls hx hb hr hml hown hlocks hin hl hsz hX hxt
  have hl : lv_has ls 1 [(0, .int x)] := hl
  refine lv_iload_n hx hb dX2_needSize_0 rfl (lv_at hl 0 rfl) ?_
  refine lv_iconst (v := nI 1) hx hb dX2_needSize_1 (by decide) ?_
  refine lv_bipush (v := nI 20) hx hb dX2_needSize_2 (by decide) ?_
  refine w_callX (w_runSX (n := 3) (As := [.int x, .int (nI 1), .int (nI 20)]) (rest := []) hx hb hml hown hX (c_X2_needWithin l hlt g μ s.heap.size (by omega) (by omega)) kw209 kw1 kw207 kw208 wn_X2_needWithin rfl ⟨Nat.le_of_ble_eq_true rfl, Nat.le_of_ble_eq_true rfl⟩ hl.1 rfl (Nat.le_of_ble_eq_true rfl) dX2_needSize_4 ⟨Nat.le_of_ble_eq_true rfl, Nat.le_of_ble_eq_true rfl⟩) hX (fun E ce q9 H locs hE hX hce hcv hcl => ?_) (fun r_3 μ_1 H locs q_2 hX hz => ?_)
  · skip
    exact w_out hxt hlocks hX (by first | exact hE | exact Or.inl hE | simp_all) hce hcv hcl ⟨Nat.le_of_ble_eq_true rfl, Nat.le_of_ble_eq_true rfl⟩
  obtain ⟨k, hk1, hk2, hxe, rfl, e_4⟩ := q_2
  rw [e_4] at hX
  refine W.eq (g2 := F0 m 7 ls []) rfl ?_
  exact vx_ret (w_vret hx hb hr hlocks hX ⟨k, hk1, hk2, hxe, rfl, rfl⟩ ⟨Nat.le_of_ble_eq_true rfl, Nat.le_of_ble_eq_true rfl⟩ dX2_needSize_7)

set_option maxHeartbeats 4000000 in
set_option maxRecDepth 100000 in
/-- a size -/
theorem c_X2_needSize_g (l : Launch) (g : wG) (μ : wMu) (zz : Nat) {k : Nat} (h1 : 1 ≤ k) (h2 : k ≤ 20) : wMet l yX2_needSize cX2_needSize 1 none 1 0 0 22 g [.int (nI k)] μ zz (fun r μ' => r = none ∧ μ' = μ) := by
  refine wMet.of (by decide) (Nat.le_of_ble_eq_true rfl) ?_
  intro p e s m below meth c ls hx hb hr hml hown hlocks hin hl hsz hX
  have hl : lv_has ls 1 [(0, .int (nI k))] := hl
  refine lv_iload_n hx hb dX2_needSize_0 rfl (lv_at hl 0 rfl) ?_
  refine lv_iconst (v := nI 1) hx hb dX2_needSize_1 (by decide) ?_
  refine lv_bipush (v := nI 20) hx hb dX2_needSize_2 (by decide) ?_
  refine w_call (w_runS (n := 3) (As := [.int (nI k), .int (nI 1), .int (nI 20)]) (rest := []) hx hb hml hown hX (c_X2_needWithin_g l g μ s.heap.size h1 h2 (by omega)) kw209 kw1 kw207 kw208 wn_X2_needWithin rfl ⟨Nat.le_of_ble_eq_true rfl, Nat.le_of_ble_eq_true rfl⟩ hl.1 rfl (Nat.le_of_ble_eq_true rfl) dX2_needSize_4 ⟨Nat.le_of_ble_eq_true rfl, Nat.le_of_ble_eq_true rfl⟩) hX (fun r_3 μ_1 H locs q_2 hX hz => ?_)
  obtain ⟨rfl, e_4⟩ := q_2
  rw [e_4] at hX
  refine W.eq (g2 := F0 m 7 ls []) rfl ?_
  exact w_vret hx hb hr hlocks hX ⟨rfl, rfl⟩ ⟨Nat.le_of_ble_eq_true rfl, Nat.le_of_ble_eq_true rfl⟩ dX2_needSize_7

set_option maxHeartbeats 4000000 in
set_option maxRecDepth 100000 in
/-- the one of that number, or thrown -/
theorem c_X2_wandAt (l : Launch) (hlt : l.stackTraces = false) (g : wG) (μ : wMu) (zz : Nat) {Λ σ : sSt} {xv : Option Int64} (hF : fD g Λ xv σ μ) (hO : sOk σ) {x : Int32} : wMetX l yX2_wandAt cX2_wandAt 2 (some (.object "FairyDust$Wand")) 6 1 6 90 g [.ref (Λ 0 0), .int x] μ zz (fun r μ' => ∃ i, i < σ 3 0 ∧ x = nI i ∧ r = some (.ref (Λ 7 i)) ∧ μ' = μ) (fun E => E = xIOB ∧ ¬ isX x (σ 3 0)) := by
  refine wMetX.of (by decide) (Nat.le_of_ble_eq_true rfl) ?_
  intro p e s m below meth c ls hx hb hr hml hown hlocks hin hl hsz hX hxt
  have hl : lv_has ls 2 [(0, .ref (Λ 0 0)), (1, .int x)] := hl
  obtain ⟨f1, ⟨m1, f2⟩, ⟨m2, f3⟩, f4, f5, f6, f7, ⟨t1, t2, t3, t4, f8⟩, ⟨u1, u2, u3, u4, u5, f9⟩, f10, f11⟩ := id hF
  obtain ⟨o1, o2, o3, o4, o5, o6, o7⟩ := id hO
  refine lv_iload_n hx hb dX2_wandAt_0 rfl (lv_at hl 1 rfl) ?_
  refine lv_if_lt (tgt := 15) hx hb dX2_wandAt_1 (by decide) (fun c_1 => ?_) (fun c_1 => ?_)
  · skip
    rw [lt_0x] at c_1
    exact w_throw hx hb hlt hown (by decide +kernel) kw306 kw17 hX.1.2.2.1.2.1 hat_IOB hgd_IOB hX (hl.1.trans hml.symm) dX2_wandAt_15 dX2_wandAt_18 dX2_wandAt_19 dX2_wandAt_21 dX2_wandAt_24 hxt (by decide) (Nat.le_of_ble_eq_true rfl) ⟨Nat.le_of_ble_eq_true rfl, Nat.le_of_ble_eq_true rfl⟩ hlocks ⟨rfl, fun z => absurd z (by unfold isX; omega)⟩ ⟨Nat.le_of_ble_eq_true rfl, Nat.le_of_ble_eq_true rfl⟩
  · skip
    rw [lt_0x] at c_1
    refine lv_iload_n hx hb dX2_wandAt_4 rfl (lv_at hl 1 rfl) ?_
    refine lv_aload_n hx hb dX2_wandAt_5 rfl (lv_at hl 0 rfl) ?_
    refine gX2_0 hx hb hX hown f1 kw108 dX2_wandAt_6 ?_
    refine w_call (w_runV (n := 0) (As := []) (rest := [.int x]) hx hb hml hown hX (c_Jx4a65c_size_8abf5 l g μ s.heap.size f2) kw145 kw4 kw142 kw143 kw144 wn_Jx4a65c_size_8abf5 rfl f2 rfl ⟨Nat.le_of_ble_eq_true rfl, Nat.le_of_ble_eq_true rfl⟩ hl.1 rfl (Nat.le_of_ble_eq_true rfl) dX2_wandAt_9 ⟨Nat.le_of_ble_eq_true rfl, Nat.le_of_ble_eq_true rfl⟩) hX (fun r_4 μ_2 H locs q_3 hX hz => ?_)
    obtain ⟨rfl, e_5⟩ := q_3
    rw [e_5] at hX
    refine W.eq (g2 := F0 m 12 ls [.int (nI (σ 3 0)), .int x]) rfl ?_
    refine lv_icmp_lt (tgt := 25) hx hb dX2_wandAt_12 (by decide) (fun c_6 => ?_) (fun c_6 => ?_)
    · skip
      rw [lt_nI (by omega)] at c_6
      obtain ⟨i, hi, hxe⟩ : ∃ i, i < σ 3 0 ∧ x = nI i := ⟨toN x, (isX.nI (show isX x (σ 3 0) from ⟨by omega, by omega⟩)).2, (isX.nI (show isX x (σ 3 0) from ⟨by omega, by omega⟩)).1⟩
      rw [hxe] at hl
      refine lv_aload_n hx hb dX2_wandAt_25 rfl (lv_at hl 0 rfl) ?_
      refine gX2_0 hx hb hX hown f1 kw108 dX2_wandAt_26 ?_
      refine lv_iload_n hx hb dX2_wandAt_29 rfl (lv_at hl 1 rfl) ?_
      obtain ⟨fa, fa1, fa2⟩ := f4.pos (by omega)
      refine w_call (w_runV (n := 1) (As := [.int (nI i)]) (rest := []) hx hb hml hown hX (c_Jx4a65c_get_915e3 l g μ H.size f2 fa1 hi (by omega) (fa2 i hi)) kw165 kw4 kw162 kw163 kw164 wn_Jx4a65c_get_915e3 rfl f2 rfl ⟨Nat.le_of_ble_eq_true rfl, Nat.le_of_ble_eq_true rfl⟩ hl.1 rfl (Nat.le_of_ble_eq_true rfl) dX2_wandAt_30 ⟨Nat.le_of_ble_eq_true rfl, Nat.le_of_ble_eq_true rfl⟩) hX (fun r_9 μ_7 H locs q_8 hX hz => ?_)
      obtain ⟨rfl, e_10⟩ := q_8
      rw [e_10] at hX
      refine W.eq (g2 := F0 m 33 ls [.ref (Λ 7 i)]) rfl ?_
      have kw_11 := f6 i hi
      have kw_11b := o3 i hi
      refine w_cast hx hb hX hown kw54 kw_11 rfl dX2_wandAt_33 ?_
      exact vx_ret (w_aret hx hb hr (Or.inl ⟨_, rfl⟩) hlocks hX ⟨i, hi, hxe, rfl, rfl⟩ ⟨Nat.le_of_ble_eq_true rfl, Nat.le_of_ble_eq_true rfl⟩ dX2_wandAt_36)
    · skip
      rw [lt_nI (by omega)] at c_6
      exact w_throw hx hb hlt hown (by decide +kernel) kw306 kw17 hX.1.2.2.1.2.1 hat_IOB hgd_IOB hX (hl.1.trans hml.symm) dX2_wandAt_15 dX2_wandAt_18 dX2_wandAt_19 dX2_wandAt_21 dX2_wandAt_24 hxt (by decide) (Nat.le_of_ble_eq_true rfl) ⟨Nat.le_of_ble_eq_true rfl, Nat.le_of_ble_eq_true rfl⟩ hlocks ⟨rfl, fun z => absurd z (by unfold isX; omega)⟩ ⟨Nat.le_of_ble_eq_true rfl, Nat.le_of_ble_eq_true rfl⟩

set_option maxHeartbeats 4000000 in
set_option maxRecDepth 100000 in
/-- the one of that number, or thrown -/
theorem c_X2_childAt (l : Launch) (hlt : l.stackTraces = false) (g : wG) (μ : wMu) (zz : Nat) {Λ σ : sSt} {xv : Option Int64} (hF : fD g Λ xv σ μ) (hO : sOk σ) {x : Int32} : wMetX l yX2_childAt cX2_childAt 2 (some (.object "FairyDust$Child")) 6 1 6 90 g [.ref (Λ 0 0), .int x] μ zz (fun r μ' => ∃ i, i < σ 4 0 ∧ x = nI i ∧ r = some (.ref (Λ 8 i)) ∧ μ' = μ) (fun E => E = xIOB ∧ ¬ isX x (σ 4 0)) := by
  refine wMetX.of (by decide) (Nat.le_of_ble_eq_true rfl) ?_
  intro p e s m below meth c ls hx hb hr hml hown hlocks hin hl hsz hX hxt
  have hl : lv_has ls 2 [(0, .ref (Λ 0 0)), (1, .int x)] := hl
  obtain ⟨f1, ⟨m1, f2⟩, ⟨m2, f3⟩, f4, f5, f6, f7, ⟨t1, t2, t3, t4, f8⟩, ⟨u1, u2, u3, u4, u5, f9⟩, f10, f11⟩ := id hF
  obtain ⟨o1, o2, o3, o4, o5, o6, o7⟩ := id hO
  refine lv_iload_n hx hb dX2_childAt_0 rfl (lv_at hl 1 rfl) ?_
  refine lv_if_lt (tgt := 15) hx hb dX2_childAt_1 (by decide) (fun c_1 => ?_) (fun c_1 => ?_)
  · skip
    rw [lt_0x] at c_1
    exact w_throw hx hb hlt hown (by decide +kernel) kw306 kw17 hX.1.2.2.1.2.2.1 hat_IOB hgd_IOB hX (hl.1.trans hml.symm) dX2_childAt_15 dX2_childAt_18 dX2_childAt_19 dX2_childAt_21 dX2_childAt_24 hxt (by decide) (Nat.le_of_ble_eq_true rfl) ⟨Nat.le_of_ble_eq_true rfl, Nat.le_of_ble_eq_true rfl⟩ hlocks ⟨rfl, fun z => absurd z (by unfold isX; omega)⟩ ⟨Nat.le_of_ble_eq_true rfl, Nat.le_of_ble_eq_true rfl⟩
  · skip
    rw [lt_0x] at c_1
    refine lv_iload_n hx hb dX2_childAt_4 rfl (lv_at hl 1 rfl) ?_
    refine lv_aload_n hx hb dX2_childAt_5 rfl (lv_at hl 0 rfl) ?_
    refine gX2_1 hx hb hX hown f1 kw109 dX2_childAt_6 ?_
    refine w_call (w_runV (n := 0) (As := []) (rest := [.int x]) hx hb hml hown hX (c_Jx4a65c_size_8abf5 l g μ s.heap.size f3) kw145 kw4 kw142 kw143 kw144 wn_Jx4a65c_size_8abf5 rfl f3 rfl ⟨Nat.le_of_ble_eq_true rfl, Nat.le_of_ble_eq_true rfl⟩ hl.1 rfl (Nat.le_of_ble_eq_true rfl) dX2_childAt_9 ⟨Nat.le_of_ble_eq_true rfl, Nat.le_of_ble_eq_true rfl⟩) hX (fun r_4 μ_2 H locs q_3 hX hz => ?_)
    obtain ⟨rfl, e_5⟩ := q_3
    rw [e_5] at hX
    refine W.eq (g2 := F0 m 12 ls [.int (nI (σ 4 0)), .int x]) rfl ?_
    refine lv_icmp_lt (tgt := 25) hx hb dX2_childAt_12 (by decide) (fun c_6 => ?_) (fun c_6 => ?_)
    · skip
      rw [lt_nI (by omega)] at c_6
      obtain ⟨i, hi, hxe⟩ : ∃ i, i < σ 4 0 ∧ x = nI i := ⟨toN x, (isX.nI (show isX x (σ 4 0) from ⟨by omega, by omega⟩)).2, (isX.nI (show isX x (σ 4 0) from ⟨by omega, by omega⟩)).1⟩
      rw [hxe] at hl
      refine lv_aload_n hx hb dX2_childAt_25 rfl (lv_at hl 0 rfl) ?_
      refine gX2_1 hx hb hX hown f1 kw109 dX2_childAt_26 ?_
      refine lv_iload_n hx hb dX2_childAt_29 rfl (lv_at hl 1 rfl) ?_
      obtain ⟨fa, fa1, fa2⟩ := f5.pos (by omega)
      refine w_call (w_runV (n := 1) (As := [.int (nI i)]) (rest := []) hx hb hml hown hX (c_Jx4a65c_get_915e3 l g μ H.size f3 fa1 hi (by omega) (fa2 i hi)) kw165 kw4 kw162 kw163 kw164 wn_Jx4a65c_get_915e3 rfl f3 rfl ⟨Nat.le_of_ble_eq_true rfl, Nat.le_of_ble_eq_true rfl⟩ hl.1 rfl (Nat.le_of_ble_eq_true rfl) dX2_childAt_30 ⟨Nat.le_of_ble_eq_true rfl, Nat.le_of_ble_eq_true rfl⟩) hX (fun r_9 μ_7 H locs q_8 hX hz => ?_)
      obtain ⟨rfl, e_10⟩ := q_8
      rw [e_10] at hX
      refine W.eq (g2 := F0 m 33 ls [.ref (Λ 8 i)]) rfl ?_
      have kc_11 := f7 i hi
      have kc_11b := o4 i hi
      refine w_cast hx hb hX hown kw77 kc_11 rfl dX2_childAt_33 ?_
      exact vx_ret (w_aret hx hb hr (Or.inl ⟨_, rfl⟩) hlocks hX ⟨i, hi, hxe, rfl, rfl⟩ ⟨Nat.le_of_ble_eq_true rfl, Nat.le_of_ble_eq_true rfl⟩ dX2_childAt_36)
    · skip
      rw [lt_nI (by omega)] at c_6
      exact w_throw hx hb hlt hown (by decide +kernel) kw306 kw17 hX.1.2.2.1.2.2.1 hat_IOB hgd_IOB hX (hl.1.trans hml.symm) dX2_childAt_15 dX2_childAt_18 dX2_childAt_19 dX2_childAt_21 dX2_childAt_24 hxt (by decide) (Nat.le_of_ble_eq_true rfl) ⟨Nat.le_of_ble_eq_true rfl, Nat.le_of_ble_eq_true rfl⟩ hlocks ⟨rfl, fun z => absurd z (by unfold isX; omega)⟩ ⟨Nat.le_of_ble_eq_true rfl, Nat.le_of_ble_eq_true rfl⟩

set_option maxHeartbeats 4000000 in
set_option maxRecDepth 100000 in
/-- the one of that number -/
theorem c_X2_wandAt_g (l : Launch) (g : wG) (μ : wMu) (zz : Nat) {Λ σ : sSt} {xv : Option Int64} (hF : fD g Λ xv σ μ) (hO : sOk σ) {i : Nat} (hi : i < σ 3 0) : wMet l yX2_wandAt cX2_wandAt 2 (some (.object "FairyDust$Wand")) 3 0 0 64 g [.ref (Λ 0 0), .int (nI i)] μ zz (fun r μ' => r = some (.ref (Λ 7 i)) ∧ μ' = μ) := by
  refine wMet.of (by decide) (Nat.le_of_ble_eq_true rfl) ?_
  intro p e s m below meth c ls hx hb hr hml hown hlocks hin hl hsz hX
  have hl : lv_has ls 2 [(0, .ref (Λ 0 0)), (1, .int (nI i))] := hl
  obtain ⟨f1, ⟨m1, f2⟩, ⟨m2, f3⟩, f4, f5, f6, f7, ⟨t1, t2, t3, t4, f8⟩, ⟨u1, u2, u3, u4, u5, f9⟩, f10, f11⟩ := id hF
  obtain ⟨o1, o2, o3, o4, o5, o6, o7⟩ := id hO
  refine lv_iload_n hx hb dX2_wandAt_0 rfl (lv_at hl 1 rfl) ?_
  refine lv_if_lt (tgt := 15) hx hb dX2_wandAt_1 (by decide) (fun h => absurd h (nI_pos (by omega))) (fun _ => ?_)
  refine lv_iload_n hx hb dX2_wandAt_4 rfl (lv_at hl 1 rfl) ?_
  refine lv_aload_n hx hb dX2_wandAt_5 rfl (lv_at hl 0 rfl) ?_
  refine gX2_0 hx hb hX hown f1 kw108 dX2_wandAt_6 ?_
  refine w_call (w_runV (n := 0) (As := []) (rest := [.int (nI i)]) hx hb hml hown hX (c_Jx4a65c_size_8abf5 l g μ s.heap.size f2) kw145 kw4 kw142 kw143 kw144 wn_Jx4a65c_size_8abf5 rfl f2 rfl ⟨Nat.le_of_ble_eq_true rfl, Nat.le_of_ble_eq_true rfl⟩ hl.1 rfl (Nat.le_of_ble_eq_true rfl) dX2_wandAt_9 ⟨Nat.le_of_ble_eq_true rfl, Nat.le_of_ble_eq_true rfl⟩) hX (fun r_3 μ_1 H locs q_2 hX hz => ?_)
  obtain ⟨rfl, e_4⟩ := q_2
  rw [e_4] at hX
  refine W.eq (g2 := F0 m 12 ls [.int (nI (σ 3 0)), .int (nI i)]) rfl ?_
  refine n_lt (tgt := 25) hx hb (by omega) (by omega) dX2_wandAt_12 (by decide) (fun _ => ?_) (fun h => absurd h (by omega))
  refine lv_aload_n hx hb dX2_wandAt_25 rfl (lv_at hl 0 rfl) ?_
  refine gX2_0 hx hb hX hown f1 kw108 dX2_wandAt_26 ?_
  refine lv_iload_n hx hb dX2_wandAt_29 rfl (lv_at hl 1 rfl) ?_
  obtain ⟨fa, fa1, fa2⟩ := f4.pos (by omega)
  refine w_call (w_runV (n := 1) (As := [.int (nI i)]) (rest := []) hx hb hml hown hX (c_Jx4a65c_get_915e3 l g μ H.size f2 fa1 hi (by omega) (fa2 i hi)) kw165 kw4 kw162 kw163 kw164 wn_Jx4a65c_get_915e3 rfl f2 rfl ⟨Nat.le_of_ble_eq_true rfl, Nat.le_of_ble_eq_true rfl⟩ hl.1 rfl (Nat.le_of_ble_eq_true rfl) dX2_wandAt_30 ⟨Nat.le_of_ble_eq_true rfl, Nat.le_of_ble_eq_true rfl⟩) hX (fun r_7 μ_5 H locs q_6 hX hz => ?_)
  obtain ⟨rfl, e_8⟩ := q_6
  rw [e_8] at hX
  refine W.eq (g2 := F0 m 33 ls [.ref (Λ 7 i)]) rfl ?_
  have kw_9 := f6 i hi
  have kw_9b := o3 i hi
  refine w_cast hx hb hX hown kw54 kw_9 rfl dX2_wandAt_33 ?_
  exact w_aret hx hb hr (Or.inl ⟨_, rfl⟩) hlocks hX ⟨rfl, rfl⟩ ⟨Nat.le_of_ble_eq_true rfl, Nat.le_of_ble_eq_true rfl⟩ dX2_wandAt_36

set_option maxHeartbeats 4000000 in
set_option maxRecDepth 100000 in
/-- the one of that number -/
theorem c_X2_childAt_g (l : Launch) (g : wG) (μ : wMu) (zz : Nat) {Λ σ : sSt} {xv : Option Int64} (hF : fD g Λ xv σ μ) (hO : sOk σ) {i : Nat} (hi : i < σ 4 0) : wMet l yX2_childAt cX2_childAt 2 (some (.object "FairyDust$Child")) 3 0 0 64 g [.ref (Λ 0 0), .int (nI i)] μ zz (fun r μ' => r = some (.ref (Λ 8 i)) ∧ μ' = μ) := by
  refine wMet.of (by decide) (Nat.le_of_ble_eq_true rfl) ?_
  intro p e s m below meth c ls hx hb hr hml hown hlocks hin hl hsz hX
  have hl : lv_has ls 2 [(0, .ref (Λ 0 0)), (1, .int (nI i))] := hl
  obtain ⟨f1, ⟨m1, f2⟩, ⟨m2, f3⟩, f4, f5, f6, f7, ⟨t1, t2, t3, t4, f8⟩, ⟨u1, u2, u3, u4, u5, f9⟩, f10, f11⟩ := id hF
  obtain ⟨o1, o2, o3, o4, o5, o6, o7⟩ := id hO
  refine lv_iload_n hx hb dX2_childAt_0 rfl (lv_at hl 1 rfl) ?_
  refine lv_if_lt (tgt := 15) hx hb dX2_childAt_1 (by decide) (fun h => absurd h (nI_pos (by omega))) (fun _ => ?_)
  refine lv_iload_n hx hb dX2_childAt_4 rfl (lv_at hl 1 rfl) ?_
  refine lv_aload_n hx hb dX2_childAt_5 rfl (lv_at hl 0 rfl) ?_
  refine gX2_1 hx hb hX hown f1 kw109 dX2_childAt_6 ?_
  refine w_call (w_runV (n := 0) (As := []) (rest := [.int (nI i)]) hx hb hml hown hX (c_Jx4a65c_size_8abf5 l g μ s.heap.size f3) kw145 kw4 kw142 kw143 kw144 wn_Jx4a65c_size_8abf5 rfl f3 rfl ⟨Nat.le_of_ble_eq_true rfl, Nat.le_of_ble_eq_true rfl⟩ hl.1 rfl (Nat.le_of_ble_eq_true rfl) dX2_childAt_9 ⟨Nat.le_of_ble_eq_true rfl, Nat.le_of_ble_eq_true rfl⟩) hX (fun r_3 μ_1 H locs q_2 hX hz => ?_)
  obtain ⟨rfl, e_4⟩ := q_2
  rw [e_4] at hX
  refine W.eq (g2 := F0 m 12 ls [.int (nI (σ 4 0)), .int (nI i)]) rfl ?_
  refine n_lt (tgt := 25) hx hb (by omega) (by omega) dX2_childAt_12 (by decide) (fun _ => ?_) (fun h => absurd h (by omega))
  refine lv_aload_n hx hb dX2_childAt_25 rfl (lv_at hl 0 rfl) ?_
  refine gX2_1 hx hb hX hown f1 kw109 dX2_childAt_26 ?_
  refine lv_iload_n hx hb dX2_childAt_29 rfl (lv_at hl 1 rfl) ?_
  obtain ⟨fa, fa1, fa2⟩ := f5.pos (by omega)
  refine w_call (w_runV (n := 1) (As := [.int (nI i)]) (rest := []) hx hb hml hown hX (c_Jx4a65c_get_915e3 l g μ H.size f3 fa1 hi (by omega) (fa2 i hi)) kw165 kw4 kw162 kw163 kw164 wn_Jx4a65c_get_915e3 rfl f3 rfl ⟨Nat.le_of_ble_eq_true rfl, Nat.le_of_ble_eq_true rfl⟩ hl.1 rfl (Nat.le_of_ble_eq_true rfl) dX2_childAt_30 ⟨Nat.le_of_ble_eq_true rfl, Nat.le_of_ble_eq_true rfl⟩) hX (fun r_7 μ_5 H locs q_6 hX hz => ?_)
  obtain ⟨rfl, e_8⟩ := q_6
  rw [e_8] at hX
  refine W.eq (g2 := F0 m 33 ls [.ref (Λ 8 i)]) rfl ?_
  have kc_9 := f7 i hi
  have kc_9b := o4 i hi
  refine w_cast hx hb hX hown kw77 kc_9 rfl dX2_childAt_33 ?_
  exact w_aret hx hb hr (Or.inl ⟨_, rfl⟩) hlocks hX ⟨rfl, rfl⟩ ⟨Nat.le_of_ble_eq_true rfl, Nat.le_of_ble_eq_true rfl⟩ dX2_childAt_36

set_option maxHeartbeats 4000000 in
set_option maxRecDepth 100000 in
/-- a number -/
theorem c_X2_hour (l : Launch) (g : wG) (μ : wMu) (zz : Nat) {Λ σ : sSt} {xv : Option Int64} (hF : fD g Λ xv σ μ) (hO : sOk σ)  : wMet l yX2_hour cX2_hour 1 (some .int) 0 0 0 0 g [.ref (Λ 0 0)] μ zz (fun r μ' => r = some (.int (nI (σ 0 0))) ∧ μ' = μ) := by
  refine wMet.of (by decide) (Nat.le_of_ble_eq_true rfl) ?_
  intro p e s m below meth c ls hx hb hr hml hown hlocks hin hl hsz hX
  have hl : lv_has ls 1 [(0, .ref (Λ 0 0))] := hl
  obtain ⟨f1, ⟨m1, f2⟩, ⟨m2, f3⟩, f4, f5, f6, f7, ⟨t1, t2, t3, t4, f8⟩, ⟨u1, u2, u3, u4, u5, f9⟩, f10, f11⟩ := id hF
  obtain ⟨o1, o2, o3, o4, o5, o6, o7⟩ := id hO
  refine lv_aload_n hx hb dX2_hour_0 rfl (lv_at hl 0 rfl) ?_
  refine gX2_4 hx hb hX hown f1 kw112 dX2_hour_1 ?_
  exact w_iret hx hb hr hlocks hX ⟨rfl, rfl⟩ ⟨Nat.le_of_ble_eq_true rfl, Nat.le_of_ble_eq_true rfl⟩ dX2_hour_4

set_option maxHeartbeats 4000000 in
set_option maxRecDepth 100000 in
/-- a number -/
theorem c_X2_day (l : Launch) (g : wG) (μ : wMu) (zz : Nat) {Λ σ : sSt} {xv : Option Int64} (hF : fD g Λ xv σ μ) (hO : sOk σ)  : wMet l yX2_day cX2_day 1 (some .int) 0 0 0 0 g [.ref (Λ 0 0)] μ zz (fun r μ' => r = some (.int (nI (σ 0 0 / 24))) ∧ μ' = μ) := by
  refine wMet.of (by decide) (Nat.le_of_ble_eq_true rfl) ?_
  intro p e s m below meth c ls hx hb hr hml hown hlocks hin hl hsz hX
  have hl : lv_has ls 1 [(0, .ref (Λ 0 0))] := hl
  obtain ⟨f1, ⟨m1, f2⟩, ⟨m2, f3⟩, f4, f5, f6, f7, ⟨t1, t2, t3, t4, f8⟩, ⟨u1, u2, u3, u4, u5, f9⟩, f10, f11⟩ := id hF
  obtain ⟨o1, o2, o3, o4, o5, o6, o7⟩ := id hO
  refine lv_aload_n hx hb dX2_day_0 rfl (lv_at hl 0 rfl) ?_
  refine gX2_4 hx hb hX hown f1 kw112 dX2_day_1 ?_
  refine lv_bipush (v := nI 24) hx hb dX2_day_4 (by decide) ?_
  refine n_idiv hx hb dX2_day_6 (by decide) (pk_div (by omega) (by decide) (by decide)) ?_
  exact w_iret hx hb hr hlocks hX ⟨rfl, rfl⟩ ⟨Nat.le_of_ble_eq_true rfl, Nat.le_of_ble_eq_true rfl⟩ dX2_day_7

set_option maxHeartbeats 4000000 in
set_option maxRecDepth 100000 in
/-- a number -/
theorem c_X2_granted (l : Launch) (g : wG) (μ : wMu) (zz : Nat) {Λ σ : sSt} {xv : Option Int64} (hF : fD g Λ xv σ μ) (hO : sOk σ)  : wMet l yX2_granted cX2_granted 1 (some .int) 0 0 0 0 g [.ref (Λ 0 0)] μ zz (fun r μ' => r = some (.int (nI (σ 1 0))) ∧ μ' = μ) := by
  refine wMet.of (by decide) (Nat.le_of_ble_eq_true rfl) ?_
  intro p e s m below meth c ls hx hb hr hml hown hlocks hin hl hsz hX
  have hl : lv_has ls 1 [(0, .ref (Λ 0 0))] := hl
  obtain ⟨f1, ⟨m1, f2⟩, ⟨m2, f3⟩, f4, f5, f6, f7, ⟨t1, t2, t3, t4, f8⟩, ⟨u1, u2, u3, u4, u5, f9⟩, f10, f11⟩ := id hF
  obtain ⟨o1, o2, o3, o4, o5, o6, o7⟩ := id hO
  refine lv_aload_n hx hb dX2_granted_0 rfl (lv_at hl 0 rfl) ?_
  refine gX2_5 hx hb hX hown f1 kw113 dX2_granted_1 ?_
  exact w_iret hx hb hr hlocks hX ⟨rfl, rfl⟩ ⟨Nat.le_of_ble_eq_true rfl, Nat.le_of_ble_eq_true rfl⟩ dX2_granted_4

set_option maxHeartbeats 4000000 in
set_option maxRecDepth 100000 in
/-- a number -/
theorem c_X2_denied (l : Launch) (g : wG) (μ : wMu) (zz : Nat) {Λ σ : sSt} {xv : Option Int64} (hF : fD g Λ xv σ μ) (hO : sOk σ)  : wMet l yX2_denied cX2_denied 1 (some .int) 0 0 0 0 g [.ref (Λ 0 0)] μ zz (fun r μ' => r = some (.int (nI (σ 2 0))) ∧ μ' = μ) := by
  refine wMet.of (by decide) (Nat.le_of_ble_eq_true rfl) ?_
  intro p e s m below meth c ls hx hb hr hml hown hlocks hin hl hsz hX
  have hl : lv_has ls 1 [(0, .ref (Λ 0 0))] := hl
  obtain ⟨f1, ⟨m1, f2⟩, ⟨m2, f3⟩, f4, f5, f6, f7, ⟨t1, t2, t3, t4, f8⟩, ⟨u1, u2, u3, u4, u5, f9⟩, f10, f11⟩ := id hF
  obtain ⟨o1, o2, o3, o4, o5, o6, o7⟩ := id hO
  refine lv_aload_n hx hb dX2_denied_0 rfl (lv_at hl 0 rfl) ?_
  refine gX2_6 hx hb hX hown f1 kw114 dX2_denied_1 ?_
  exact w_iret hx hb hr hlocks hX ⟨rfl, rfl⟩ ⟨Nat.le_of_ble_eq_true rfl, Nat.le_of_ble_eq_true rfl⟩ dX2_denied_4

set_option maxHeartbeats 4000000 in
set_option maxRecDepth 100000 in
/-- a number -/
theorem c_X2_wands (l : Launch) (g : wG) (μ : wMu) (zz : Nat) {Λ σ : sSt} {xv : Option Int64} (hF : fD g Λ xv σ μ) (hO : sOk σ)  : wMet l yX2_wands cX2_wands 1 (some .int) 1 0 0 20 g [.ref (Λ 0 0)] μ zz (fun r μ' => r = some (.int (nI (σ 3 0))) ∧ μ' = μ) := by
  refine wMet.of (by decide) (Nat.le_of_ble_eq_true rfl) ?_
  intro p e s m below meth c ls hx hb hr hml hown hlocks hin hl hsz hX
  have hl : lv_has ls 1 [(0, .ref (Λ 0 0))] := hl
  obtain ⟨f1, ⟨m1, f2⟩, ⟨m2, f3⟩, f4, f5, f6, f7, ⟨t1, t2, t3, t4, f8⟩, ⟨u1, u2, u3, u4, u5, f9⟩, f10, f11⟩ := id hF
  obtain ⟨o1, o2, o3, o4, o5, o6, o7⟩ := id hO
  refine lv_aload_n hx hb dX2_wands_0 rfl (lv_at hl 0 rfl) ?_
  refine gX2_0 hx hb hX hown f1 kw108 dX2_wands_1 ?_
  refine w_call (w_runV (n := 0) (As := []) (rest := []) hx hb hml hown hX (c_Jx4a65c_size_8abf5 l g μ s.heap.size f2) kw145 kw4 kw142 kw143 kw144 wn_Jx4a65c_size_8abf5 rfl f2 rfl ⟨Nat.le_of_ble_eq_true rfl, Nat.le_of_ble_eq_true rfl⟩ hl.1 rfl (Nat.le_of_ble_eq_true rfl) dX2_wands_4 ⟨Nat.le_of_ble_eq_true rfl, Nat.le_of_ble_eq_true rfl⟩) hX (fun r_3 μ_1 H locs q_2 hX hz => ?_)
  obtain ⟨rfl, e_4⟩ := q_2
  rw [e_4] at hX
  refine W.eq (g2 := F0 m 7 ls [.int (nI (σ 3 0))]) rfl ?_
  exact w_iret hx hb hr hlocks hX ⟨rfl, rfl⟩ ⟨Nat.le_of_ble_eq_true rfl, Nat.le_of_ble_eq_true rfl⟩ dX2_wands_7

set_option maxHeartbeats 4000000 in
set_option maxRecDepth 100000 in
/-- a number -/
theorem c_X2_children (l : Launch) (g : wG) (μ : wMu) (zz : Nat) {Λ σ : sSt} {xv : Option Int64} (hF : fD g Λ xv σ μ) (hO : sOk σ)  : wMet l yX2_children cX2_children 1 (some .int) 1 0 0 20 g [.ref (Λ 0 0)] μ zz (fun r μ' => r = some (.int (nI (σ 4 0))) ∧ μ' = μ) := by
  refine wMet.of (by decide) (Nat.le_of_ble_eq_true rfl) ?_
  intro p e s m below meth c ls hx hb hr hml hown hlocks hin hl hsz hX
  have hl : lv_has ls 1 [(0, .ref (Λ 0 0))] := hl
  obtain ⟨f1, ⟨m1, f2⟩, ⟨m2, f3⟩, f4, f5, f6, f7, ⟨t1, t2, t3, t4, f8⟩, ⟨u1, u2, u3, u4, u5, f9⟩, f10, f11⟩ := id hF
  obtain ⟨o1, o2, o3, o4, o5, o6, o7⟩ := id hO
  refine lv_aload_n hx hb dX2_children_0 rfl (lv_at hl 0 rfl) ?_
  refine gX2_1 hx hb hX hown f1 kw109 dX2_children_1 ?_
  refine w_call (w_runV (n := 0) (As := []) (rest := []) hx hb hml hown hX (c_Jx4a65c_size_8abf5 l g μ s.heap.size f3) kw145 kw4 kw142 kw143 kw144 wn_Jx4a65c_size_8abf5 rfl f3 rfl ⟨Nat.le_of_ble_eq_true rfl, Nat.le_of_ble_eq_true rfl⟩ hl.1 rfl (Nat.le_of_ble_eq_true rfl) dX2_children_4 ⟨Nat.le_of_ble_eq_true rfl, Nat.le_of_ble_eq_true rfl⟩) hX (fun r_3 μ_1 H locs q_2 hX hz => ?_)
  obtain ⟨rfl, e_4⟩ := q_2
  rw [e_4] at hX
  refine W.eq (g2 := F0 m 7 ls [.int (nI (σ 4 0))]) rfl ?_
  exact w_iret hx hb hr hlocks hX ⟨rfl, rfl⟩ ⟨Nat.le_of_ble_eq_true rfl, Nat.le_of_ble_eq_true rfl⟩ dX2_children_7

set_option maxHeartbeats 4000000 in
set_option maxRecDepth 100000 in
/-- an answer, or thrown -/
theorem c_X2_dustIn (l : Launch) (hlt : l.stackTraces = false) (g : wG) (μ : wMu) (zz : Nat) {Λ σ : sSt} {xv : Option Int64} (hF : fD g Λ xv σ μ) (hO : sOk σ) {x : Int32} : wMetX l yX2_dustIn cX2_dustIn 2 (some .int) 7 1 6 111 g [.ref (Λ 0 0), .int x] μ zz (fun r μ' => ∃ i, i < σ 3 0 ∧ x = nI i ∧ r = some (.int (nI (σ 7 i))) ∧ μ' = μ) (fun E => E = xIOB ∧ ¬ isX x (σ 3 0)) := by
  refine wMetX.of (by decide) (Nat.le_of_ble_eq_true rfl) ?_
  intro p e s m below meth c ls hx hb hr hml hown hlocks hin hl hsz hX hxt
  have hl : lv_has ls 2 [(0, .ref (Λ 0 0)), (1, .int x)] := hl
  obtain ⟨f1, ⟨m1, f2⟩, ⟨m2, f3⟩, f4, f5, f6, f7, ⟨t1, t2, t3, t4, f8⟩, ⟨u1, u2, u3, u4, u5, f9⟩, f10, f11⟩ := id hF
  obtain ⟨o1, o2, o3, o4, o5, o6, o7⟩ := id hO
  refine lv_aload_n hx hb dX2_dustIn_0 rfl (lv_at hl 0 rfl) ?_
  refine lv_iload_n hx hb dX2_dustIn_1 rfl (lv_at hl 1 rfl) ?_
  refine w_callX (w_runVX (n := 1) (As := [.int x]) (rest := []) hx hb hml hown hX (c_X2_wandAt l hlt g μ s.heap.size hF hO) kw305 kw1 kw302 kw304 kp6 wn_X2_wandAt rfl f1 rfl ⟨Nat.le_of_ble_eq_true rfl, Nat.le_of_ble_eq_true rfl⟩ hl.1 rfl (Nat.le_of_ble_eq_true rfl) dX2_dustIn_2 ⟨Nat.le_of_ble_eq_true rfl, Nat.le_of_ble_eq_true rfl⟩) hX (fun E ce q9 H locs hE hX hce hcv hcl => ?_) (fun r_3 μ_1 H locs q_2 hX hz => ?_)
  · skip
    exact w_out hxt hlocks hX (by first | exact hE | exact Or.inl hE | simp_all) hce hcv hcl ⟨Nat.le_of_ble_eq_true rfl, Nat.le_of_ble_eq_true rfl⟩
  obtain ⟨i, hi, hxe, rfl, e_4⟩ := q_2
  rw [e_4] at hX
  refine W.eq (g2 := F0 m 5 ls [.ref (Λ 7 i)]) rfl ?_
  have kw_5 := f6 i hi
  have kw_5b := o3 i hi
  refine gnX1_3 hx hb hX hown kw_5 kw67 dX2_dustIn_5 ?_
  exact vx_ret (w_iret hx hb hr hlocks hX ⟨i, hi, hxe, rfl, rfl⟩ ⟨Nat.le_of_ble_eq_true rfl, Nat.le_of_ble_eq_true rfl⟩ dX2_dustIn_8)

set_option maxHeartbeats 4000000 in
set_option maxRecDepth 100000 in
/-- an answer, or thrown -/
theorem c_X2_wandOf (l : Launch) (hlt : l.stackTraces = false) (g : wG) (μ : wMu) (zz : Nat) {Λ σ : sSt} {xv : Option Int64} (hF : fD g Λ xv σ μ) (hO : sOk σ) {x : Int32} : wMetX l yX2_wandOf cX2_wandOf 2 (some .int) 7 1 6 111 g [.ref (Λ 0 0), .int x] μ zz (fun r μ' => ∃ i, i < σ 4 0 ∧ x = nI i ∧ r = some (.int (nI (σ 8 i))) ∧ μ' = μ) (fun E => E = xIOB ∧ ¬ isX x (σ 4 0)) := by
  refine wMetX.of (by decide) (Nat.le_of_ble_eq_true rfl) ?_
  intro p e s m below meth c ls hx hb hr hml hown hlocks hin hl hsz hX hxt
  have hl : lv_has ls 2 [(0, .ref (Λ 0 0)), (1, .int x)] := hl
  obtain ⟨f1, ⟨m1, f2⟩, ⟨m2, f3⟩, f4, f5, f6, f7, ⟨t1, t2, t3, t4, f8⟩, ⟨u1, u2, u3, u4, u5, f9⟩, f10, f11⟩ := id hF
  obtain ⟨o1, o2, o3, o4, o5, o6, o7⟩ := id hO
  refine lv_aload_n hx hb dX2_wandOf_0 rfl (lv_at hl 0 rfl) ?_
  refine lv_iload_n hx hb dX2_wandOf_1 rfl (lv_at hl 1 rfl) ?_
  refine w_callX (w_runVX (n := 1) (As := [.int x]) (rest := []) hx hb hml hown hX (c_X2_childAt l hlt g μ s.heap.size hF hO) kw345 kw1 kw342 kw344 kp9 wn_X2_childAt rfl f1 rfl ⟨Nat.le_of_ble_eq_true rfl, Nat.le_of_ble_eq_true rfl⟩ hl.1 rfl (Nat.le_of_ble_eq_true rfl) dX2_wandOf_2 ⟨Nat.le_of_ble_eq_true rfl, Nat.le_of_ble_eq_true rfl⟩) hX (fun E ce q9 H locs hE hX hce hcv hcl => ?_) (fun r_3 μ_1 H locs q_2 hX hz => ?_)
  · skip
    exact w_out hxt hlocks hX (by first | exact hE | exact Or.inl hE | simp_all) hce hcv hcl ⟨Nat.le_of_ble_eq_true rfl, Nat.le_of_ble_eq_true rfl⟩
  obtain ⟨i, hi, hxe, rfl, e_4⟩ := q_2
  rw [e_4] at hX
  refine W.eq (g2 := F0 m 5 ls [.ref (Λ 8 i)]) rfl ?_
  have kc_5 := f7 i hi
  have kc_5b := o4 i hi
  have kw_6 := f6 (σ 8 i) kc_5b.1
  have kw_6b := o3 (σ 8 i) kc_5b.1
  refine gnX0_0 hx hb hX hown kc_5 kw84 dX2_wandOf_5 ?_
  refine gnX1_0 hx hb hX hown kw_6 kw61 dX2_wandOf_8 ?_
  exact vx_ret (w_iret hx hb hr hlocks hX ⟨i, hi, hxe, rfl, rfl⟩ ⟨Nat.le_of_ble_eq_true rfl, Nat.le_of_ble_eq_true rfl⟩ dX2_wandOf_11)

set_option maxHeartbeats 4000000 in
set_option maxRecDepth 100000 in
/-- an answer, or thrown -/
theorem c_X2_burstOf (l : Launch) (hlt : l.stackTraces = false) (g : wG) (μ : wMu) (zz : Nat) {Λ σ : sSt} {xv : Option Int64} (hF : fD g Λ xv σ μ) (hO : sOk σ) {x : Int32} : wMetX l yX2_burstOf cX2_burstOf 2 (some .int) 7 1 6 111 g [.ref (Λ 0 0), .int x] μ zz (fun r μ' => ∃ i, i < σ 4 0 ∧ x = nI i ∧ r = some (.int (nI (σ 10 i))) ∧ μ' = μ) (fun E => E = xIOB ∧ ¬ isX x (σ 4 0)) := by
  refine wMetX.of (by decide) (Nat.le_of_ble_eq_true rfl) ?_
  intro p e s m below meth c ls hx hb hr hml hown hlocks hin hl hsz hX hxt
  have hl : lv_has ls 2 [(0, .ref (Λ 0 0)), (1, .int x)] := hl
  obtain ⟨f1, ⟨m1, f2⟩, ⟨m2, f3⟩, f4, f5, f6, f7, ⟨t1, t2, t3, t4, f8⟩, ⟨u1, u2, u3, u4, u5, f9⟩, f10, f11⟩ := id hF
  obtain ⟨o1, o2, o3, o4, o5, o6, o7⟩ := id hO
  refine lv_aload_n hx hb dX2_burstOf_0 rfl (lv_at hl 0 rfl) ?_
  refine lv_iload_n hx hb dX2_burstOf_1 rfl (lv_at hl 1 rfl) ?_
  refine w_callX (w_runVX (n := 1) (As := [.int x]) (rest := []) hx hb hml hown hX (c_X2_childAt l hlt g μ s.heap.size hF hO) kw345 kw1 kw342 kw344 kp9 wn_X2_childAt rfl f1 rfl ⟨Nat.le_of_ble_eq_true rfl, Nat.le_of_ble_eq_true rfl⟩ hl.1 rfl (Nat.le_of_ble_eq_true rfl) dX2_burstOf_2 ⟨Nat.le_of_ble_eq_true rfl, Nat.le_of_ble_eq_true rfl⟩) hX (fun E ce q9 H locs hE hX hce hcv hcl => ?_) (fun r_3 μ_1 H locs q_2 hX hz => ?_)
  · skip
    exact w_out hxt hlocks hX (by first | exact hE | exact Or.inl hE | simp_all) hce hcv hcl ⟨Nat.le_of_ble_eq_true rfl, Nat.le_of_ble_eq_true rfl⟩
  obtain ⟨i, hi, hxe, rfl, e_4⟩ := q_2
  rw [e_4] at hX
  refine W.eq (g2 := F0 m 5 ls [.ref (Λ 8 i)]) rfl ?_
  have kc_5 := f7 i hi
  have kc_5b := o4 i hi
  have kw_6 := f6 (σ 8 i) kc_5b.1
  have kw_6b := o3 (σ 8 i) kc_5b.1
  refine gnX0_2 hx hb hX hown kc_5 kw88 dX2_burstOf_5 ?_
  exact vx_ret (w_iret hx hb hr hlocks hX ⟨i, hi, hxe, rfl, rfl⟩ ⟨Nat.le_of_ble_eq_true rfl, Nat.le_of_ble_eq_true rfl⟩ dX2_burstOf_8)

set_option maxHeartbeats 4000000 in
set_option maxRecDepth 100000 in
/-- an answer, or thrown -/
theorem c_X2_punishedFor (l : Launch) (hlt : l.stackTraces = false) (g : wG) (μ : wMu) (zz : Nat) {Λ σ : sSt} {xv : Option Int64} (hF : fD g Λ xv σ μ) (hO : sOk σ) {x : Int32} : wMetX l yX2_punishedFor cX2_punishedFor 2 (some .int) 7 1 6 111 g [.ref (Λ 0 0), .int x] μ zz (fun r μ' => ∃ i, i < σ 4 0 ∧ x = nI i ∧ r = some (.int (nI (σ 11 i))) ∧ μ' = μ) (fun E => E = xIOB ∧ ¬ isX x (σ 4 0)) := by
  refine wMetX.of (by decide) (Nat.le_of_ble_eq_true rfl) ?_
  intro p e s m below meth c ls hx hb hr hml hown hlocks hin hl hsz hX hxt
  have hl : lv_has ls 2 [(0, .ref (Λ 0 0)), (1, .int x)] := hl
  obtain ⟨f1, ⟨m1, f2⟩, ⟨m2, f3⟩, f4, f5, f6, f7, ⟨t1, t2, t3, t4, f8⟩, ⟨u1, u2, u3, u4, u5, f9⟩, f10, f11⟩ := id hF
  obtain ⟨o1, o2, o3, o4, o5, o6, o7⟩ := id hO
  refine lv_aload_n hx hb dX2_punishedFor_0 rfl (lv_at hl 0 rfl) ?_
  refine lv_iload_n hx hb dX2_punishedFor_1 rfl (lv_at hl 1 rfl) ?_
  refine w_callX (w_runVX (n := 1) (As := [.int x]) (rest := []) hx hb hml hown hX (c_X2_childAt l hlt g μ s.heap.size hF hO) kw345 kw1 kw342 kw344 kp9 wn_X2_childAt rfl f1 rfl ⟨Nat.le_of_ble_eq_true rfl, Nat.le_of_ble_eq_true rfl⟩ hl.1 rfl (Nat.le_of_ble_eq_true rfl) dX2_punishedFor_2 ⟨Nat.le_of_ble_eq_true rfl, Nat.le_of_ble_eq_true rfl⟩) hX (fun E ce q9 H locs hE hX hce hcv hcl => ?_) (fun r_3 μ_1 H locs q_2 hX hz => ?_)
  · skip
    exact w_out hxt hlocks hX (by first | exact hE | exact Or.inl hE | simp_all) hce hcv hcl ⟨Nat.le_of_ble_eq_true rfl, Nat.le_of_ble_eq_true rfl⟩
  obtain ⟨i, hi, hxe, rfl, e_4⟩ := q_2
  rw [e_4] at hX
  refine W.eq (g2 := F0 m 5 ls [.ref (Λ 8 i)]) rfl ?_
  have kc_5 := f7 i hi
  have kc_5b := o4 i hi
  have kw_6 := f6 (σ 8 i) kc_5b.1
  have kw_6b := o3 (σ 8 i) kc_5b.1
  refine gnX0_3 hx hb hX hown kc_5 kw90 dX2_punishedFor_5 ?_
  exact vx_ret (w_iret hx hb hr hlocks hX ⟨i, hi, hxe, rfl, rfl⟩ ⟨Nat.le_of_ble_eq_true rfl, Nat.le_of_ble_eq_true rfl⟩ dX2_punishedFor_8)

set_option maxHeartbeats 4000000 in
set_option maxRecDepth 100000 in
/-- an answer, or thrown -/
theorem c_X2_marksOf (l : Launch) (hlt : l.stackTraces = false) (g : wG) (μ : wMu) (zz : Nat) {Λ σ : sSt} {xv : Option Int64} (hF : fD g Λ xv σ μ) (hO : sOk σ) {x : Int32} : wMetX l yX2_marksOf cX2_marksOf 2 (some .int) 7 1 6 111 g [.ref (Λ 0 0), .int x] μ zz (fun r μ' => ∃ i, i < σ 4 0 ∧ x = nI i ∧ r = some (.int (nI (σ 12 i))) ∧ μ' = μ) (fun E => E = xIOB ∧ ¬ isX x (σ 4 0)) := by
  refine wMetX.of (by decide) (Nat.le_of_ble_eq_true rfl) ?_
  intro p e s m below meth c ls hx hb hr hml hown hlocks hin hl hsz hX hxt
  have hl : lv_has ls 2 [(0, .ref (Λ 0 0)), (1, .int x)] := hl
  obtain ⟨f1, ⟨m1, f2⟩, ⟨m2, f3⟩, f4, f5, f6, f7, ⟨t1, t2, t3, t4, f8⟩, ⟨u1, u2, u3, u4, u5, f9⟩, f10, f11⟩ := id hF
  obtain ⟨o1, o2, o3, o4, o5, o6, o7⟩ := id hO
  refine lv_aload_n hx hb dX2_marksOf_0 rfl (lv_at hl 0 rfl) ?_
  refine lv_iload_n hx hb dX2_marksOf_1 rfl (lv_at hl 1 rfl) ?_
  refine w_callX (w_runVX (n := 1) (As := [.int x]) (rest := []) hx hb hml hown hX (c_X2_childAt l hlt g μ s.heap.size hF hO) kw345 kw1 kw342 kw344 kp9 wn_X2_childAt rfl f1 rfl ⟨Nat.le_of_ble_eq_true rfl, Nat.le_of_ble_eq_true rfl⟩ hl.1 rfl (Nat.le_of_ble_eq_true rfl) dX2_marksOf_2 ⟨Nat.le_of_ble_eq_true rfl, Nat.le_of_ble_eq_true rfl⟩) hX (fun E ce q9 H locs hE hX hce hcv hcl => ?_) (fun r_3 μ_1 H locs q_2 hX hz => ?_)
  · skip
    exact w_out hxt hlocks hX (by first | exact hE | exact Or.inl hE | simp_all) hce hcv hcl ⟨Nat.le_of_ble_eq_true rfl, Nat.le_of_ble_eq_true rfl⟩
  obtain ⟨i, hi, hxe, rfl, e_4⟩ := q_2
  rw [e_4] at hX
  refine W.eq (g2 := F0 m 5 ls [.ref (Λ 8 i)]) rfl ?_
  have kc_5 := f7 i hi
  have kc_5b := o4 i hi
  have kw_6 := f6 (σ 8 i) kc_5b.1
  have kw_6b := o3 (σ 8 i) kc_5b.1
  refine gnX0_4 hx hb hX hown kc_5 kw92 dX2_marksOf_5 ?_
  exact vx_ret (w_iret hx hb hr hlocks hX ⟨i, hi, hxe, rfl, rfl⟩ ⟨Nat.le_of_ble_eq_true rfl, Nat.le_of_ble_eq_true rfl⟩ dX2_marksOf_8)

set_option maxHeartbeats 4000000 in
set_option maxRecDepth 100000 in
/-- an answer, or thrown -/
theorem c_X2_nextPunishment (l : Launch) (hlt : l.stackTraces = false) (g : wG) (μ : wMu) (zz : Nat) {Λ σ : sSt} {xv : Option Int64} (hF : fD g Λ xv σ μ) (hO : sOk σ) {x : Int32} : wMetX l yX2_nextPunishment cX2_nextPunishment 2 (some .int) 7 1 6 111 g [.ref (Λ 0 0), .int x] μ zz (fun r μ' => ∃ i, i < σ 4 0 ∧ x = nI i ∧ r = some (.int (nI (σ 13 i))) ∧ μ' = μ) (fun E => E = xIOB ∧ ¬ isX x (σ 4 0)) := by
  refine wMetX.of (by decide) (Nat.le_of_ble_eq_true rfl) ?_
  intro p e s m below meth c ls hx hb hr hml hown hlocks hin hl hsz hX hxt
  have hl : lv_has ls 2 [(0, .ref (Λ 0 0)), (1, .int x)] := hl
  obtain ⟨f1, ⟨m1, f2⟩, ⟨m2, f3⟩, f4, f5, f6, f7, ⟨t1, t2, t3, t4, f8⟩, ⟨u1, u2, u3, u4, u5, f9⟩, f10, f11⟩ := id hF
  obtain ⟨o1, o2, o3, o4, o5, o6, o7⟩ := id hO
  refine lv_aload_n hx hb dX2_nextPunishment_0 rfl (lv_at hl 0 rfl) ?_
  refine lv_iload_n hx hb dX2_nextPunishment_1 rfl (lv_at hl 1 rfl) ?_
  refine w_callX (w_runVX (n := 1) (As := [.int x]) (rest := []) hx hb hml hown hX (c_X2_childAt l hlt g μ s.heap.size hF hO) kw345 kw1 kw342 kw344 kp9 wn_X2_childAt rfl f1 rfl ⟨Nat.le_of_ble_eq_true rfl, Nat.le_of_ble_eq_true rfl⟩ hl.1 rfl (Nat.le_of_ble_eq_true rfl) dX2_nextPunishment_2 ⟨Nat.le_of_ble_eq_true rfl, Nat.le_of_ble_eq_true rfl⟩) hX (fun E ce q9 H locs hE hX hce hcv hcl => ?_) (fun r_3 μ_1 H locs q_2 hX hz => ?_)
  · skip
    exact w_out hxt hlocks hX (by first | exact hE | exact Or.inl hE | simp_all) hce hcv hcl ⟨Nat.le_of_ble_eq_true rfl, Nat.le_of_ble_eq_true rfl⟩
  obtain ⟨i, hi, hxe, rfl, e_4⟩ := q_2
  rw [e_4] at hX
  refine W.eq (g2 := F0 m 5 ls [.ref (Λ 8 i)]) rfl ?_
  have kc_5 := f7 i hi
  have kc_5b := o4 i hi
  have kw_6 := f6 (σ 8 i) kc_5b.1
  have kw_6b := o3 (σ 8 i) kc_5b.1
  refine gnX0_5 hx hb hX hown kc_5 kw94 dX2_nextPunishment_5 ?_
  exact vx_ret (w_iret hx hb hr hlocks hX ⟨i, hi, hxe, rfl, rfl⟩ ⟨Nat.le_of_ble_eq_true rfl, Nat.le_of_ble_eq_true rfl⟩ dX2_nextPunishment_8)

set_option maxHeartbeats 4000000 in
set_option maxRecDepth 100000 in
/-- an answer, or thrown -/
theorem c_X2_daysToBirthday (l : Launch) (hlt : l.stackTraces = false) (g : wG) (μ : wMu) (zz : Nat) {Λ σ : sSt} {xv : Option Int64} (hF : fD g Λ xv σ μ) (hO : sOk σ) {x : Int32} : wMetX l yX2_daysToBirthday cX2_daysToBirthday 2 (some .int) 7 1 6 111 g [.ref (Λ 0 0), .int x] μ zz (fun r μ' => ∃ i, i < σ 4 0 ∧ x = nI i ∧ r = some (.int (nI (vDay σ i))) ∧ μ' = μ) (fun E => E = xIOB ∧ ¬ isX x (σ 4 0)) := by
  refine wMetX.of (by decide) (Nat.le_of_ble_eq_true rfl) ?_
  intro p e s m below meth c ls hx hb hr hml hown hlocks hin hl hsz hX hxt
  have hl : lv_has ls 2 [(0, .ref (Λ 0 0)), (1, .int x)] := hl
  obtain ⟨f1, ⟨m1, f2⟩, ⟨m2, f3⟩, f4, f5, f6, f7, ⟨t1, t2, t3, t4, f8⟩, ⟨u1, u2, u3, u4, u5, f9⟩, f10, f11⟩ := id hF
  obtain ⟨o1, o2, o3, o4, o5, o6, o7⟩ := id hO
  refine lv_aload_n hx hb dX2_daysToBirthday_0 rfl (lv_at hl 0 rfl) ?_
  refine lv_iload_n hx hb dX2_daysToBirthday_1 rfl (lv_at hl 1 rfl) ?_
  refine w_callX (w_runVX (n := 1) (As := [.int x]) (rest := []) hx hb hml hown hX (c_X2_childAt l hlt g μ s.heap.size hF hO) kw345 kw1 kw342 kw344 kp9 wn_X2_childAt rfl f1 rfl ⟨Nat.le_of_ble_eq_true rfl, Nat.le_of_ble_eq_true rfl⟩ hl.1 rfl (Nat.le_of_ble_eq_true rfl) dX2_daysToBirthday_2 ⟨Nat.le_of_ble_eq_true rfl, Nat.le_of_ble_eq_true rfl⟩) hX (fun E ce q9 H locs hE hX hce hcv hcl => ?_) (fun r_3 μ_1 H locs q_2 hX hz => ?_)
  · skip
    exact w_out hxt hlocks hX (by first | exact hE | exact Or.inl hE | simp_all) hce hcv hcl ⟨Nat.le_of_ble_eq_true rfl, Nat.le_of_ble_eq_true rfl⟩
  obtain ⟨i, hi, hxe, rfl, e_4⟩ := q_2
  rw [e_4] at hX
  refine W.eq (g2 := F0 m 5 ls [.ref (Λ 8 i)]) rfl ?_
  have kc_5 := f7 i hi
  have kc_5b := o4 i hi
  have kw_6 := f6 (σ 8 i) kc_5b.1
  have kw_6b := o3 (σ 8 i) kc_5b.1
  refine gnX0_1 hx hb hX hown kc_5 kw86 dX2_daysToBirthday_5 ?_
  refine lv_aload_n hx hb dX2_daysToBirthday_8 rfl (lv_at hl 0 rfl) ?_
  refine w_call (w_runV (n := 0) (As := []) (rest := [.int (nI (σ 9 i))]) hx hb hml hown hX (c_X2_day l g μ H.size hF hO) kw137 kw1 kw194 kw135 kw136 wn_X2_day rfl f1 rfl ⟨Nat.le_of_ble_eq_true rfl, Nat.le_of_ble_eq_true rfl⟩ hl.1 rfl (Nat.le_of_ble_eq_true rfl) dX2_daysToBirthday_9 ⟨Nat.le_of_ble_eq_true rfl, Nat.le_of_ble_eq_true rfl⟩) hX (fun r_9 μ_7 H locs q_8 hX hz => ?_)
  obtain ⟨rfl, e_10⟩ := q_8
  rw [e_10] at hX
  refine W.eq (g2 := F0 m 12 ls [.int (nI (σ 0 0 / 24)), .int (nI (σ 9 i))]) rfl ?_
  refine n_isub hx hb dX2_daysToBirthday_12 rfl ?_
  refine lv_bipush (v := nI 30) hx hb dX2_daysToBirthday_13 (by decide) ?_
  refine w_call (w_runS (n := 2) (As := [.int ((nI (σ 9 i)) - (nI (σ 0 0 / 24))), .int (nI 30)]) (rest := []) hx hb hml hown hX (c_J9_floorMod_7cf53 l g μ H.size (by omega) (by omega)) kw369 kw14 kw367 kw368 wn_J9_floorMod_7cf53 rfl ⟨Nat.le_of_ble_eq_true rfl, Nat.le_of_ble_eq_true rfl⟩ hl.1 rfl (Nat.le_of_ble_eq_true rfl) dX2_daysToBirthday_15 ⟨Nat.le_of_ble_eq_true rfl, Nat.le_of_ble_eq_true rfl⟩) hX (fun r_13 μ_11 H locs q_12 hX hz => ?_)
  obtain ⟨rfl, e_14⟩ := q_12
  rw [e_14] at hX
  refine W.eq (g2 := F0 m 18 ls [.int (nI (vDay σ i))]) rfl ?_
  exact vx_ret (w_iret hx hb hr hlocks hX ⟨i, hi, hxe, rfl, rfl⟩ ⟨Nat.le_of_ble_eq_true rfl, Nat.le_of_ble_eq_true rfl⟩ dX2_daysToBirthday_18)

set_option maxHeartbeats 4000000 in
set_option maxRecDepth 100000 in
/-- an answer, or thrown -/
theorem c_X2_greatestWish (l : Launch) (hlt : l.stackTraces = false) (g : wG) (μ : wMu) (zz : Nat) {Λ σ : sSt} {xv : Option Int64} (hF : fD g Λ xv σ μ) (hO : sOk σ) {x : Int32} : wMetX l yX2_greatestWish cX2_greatestWish 2 (some .int) 7 1 6 111 g [.ref (Λ 0 0), .int x] μ zz (fun r μ' => ∃ i, i < σ 4 0 ∧ x = nI i ∧ r = some (.int (nI (vGrt σ i))) ∧ μ' = μ) (fun E => E = xIOB ∧ ¬ isX x (σ 4 0)) := by
  refine wMetX.of (by decide) (Nat.le_of_ble_eq_true rfl) ?_
  intro p e s m below meth c ls hx hb hr hml hown hlocks hin hl hsz hX hxt
  have hl : lv_has ls 2 [(0, .ref (Λ 0 0)), (1, .int x)] := hl
  obtain ⟨f1, ⟨m1, f2⟩, ⟨m2, f3⟩, f4, f5, f6, f7, ⟨t1, t2, t3, t4, f8⟩, ⟨u1, u2, u3, u4, u5, f9⟩, f10, f11⟩ := id hF
  obtain ⟨o1, o2, o3, o4, o5, o6, o7⟩ := id hO
  refine lv_bipush (v := nI 20) hx hb dX2_greatestWish_0 (by decide) ?_
  refine lv_aload_n hx hb dX2_greatestWish_2 rfl (lv_at hl 0 rfl) ?_
  refine lv_iload_n hx hb dX2_greatestWish_3 rfl (lv_at hl 1 rfl) ?_
  refine w_callX (w_runVX (n := 1) (As := [.int x]) (rest := [.int (nI 20)]) hx hb hml hown hX (c_X2_childAt l hlt g μ s.heap.size hF hO) kw345 kw1 kw342 kw344 kp9 wn_X2_childAt rfl f1 rfl ⟨Nat.le_of_ble_eq_true rfl, Nat.le_of_ble_eq_true rfl⟩ hl.1 rfl (Nat.le_of_ble_eq_true rfl) dX2_greatestWish_4 ⟨Nat.le_of_ble_eq_true rfl, Nat.le_of_ble_eq_true rfl⟩) hX (fun E ce q9 H locs hE hX hce hcv hcl => ?_) (fun r_3 μ_1 H locs q_2 hX hz => ?_)
  · skip
    exact w_out hxt hlocks hX (by first | exact hE | exact Or.inl hE | simp_all) hce hcv hcl ⟨Nat.le_of_ble_eq_true rfl, Nat.le_of_ble_eq_true rfl⟩
  obtain ⟨i, hi, hxe, rfl, e_4⟩ := q_2
  rw [e_4] at hX
  refine W.eq (g2 := F0 m 7 ls [.ref (Λ 8 i), .int (nI 20)]) rfl ?_
  have kc_5 := f7 i hi
  have kc_5b := o4 i hi
  have kw_6 := f6 (σ 8 i) kc_5b.1
  have kw_6b := o3 (σ 8 i) kc_5b.1
  refine w_call (w_runVN (n := 0) (As := []) (rest := [.int (nI 20)]) hx hb hml hown hX (c_X0_grainsAtHand l g μ H.size kc_5 kw_6 (by omega) (by omega) (by omega)) kw285 kw6 kw374 kw284 kp3 wn_X0_grainsAtHand rfl kc_5 rfl ⟨Nat.le_of_ble_eq_true rfl, Nat.le_of_ble_eq_true rfl⟩ hl.1 rfl (Nat.le_of_ble_eq_true rfl) dX2_greatestWish_7 ⟨Nat.le_of_ble_eq_true rfl, Nat.le_of_ble_eq_true rfl⟩) hX (fun r_9 μ_7 H locs q_8 hX hz => ?_)
  obtain ⟨q_11, e_10⟩ := q_8
  rw [e_10] at hX
  obtain ⟨rfl, hp⟩ | ⟨rfl, hp⟩ := q_11
  · skip
    refine W.eq (g2 := F0 m 10 ls [.int (nI 0), .int (nI 20)]) rfl ?_
    refine n_mmin hx hb (hml.trans hl.1.symm) hX hown kw375 kStMin kInMath kCdMin ⟨Nat.le_of_ble_eq_true rfl, Nat.le_of_ble_eq_true rfl⟩ ⟨Nat.le_of_ble_eq_true rfl, Nat.le_of_ble_eq_true rfl⟩ dX2_greatestWish_10 (nI_min (by omega) (by omega)) ?_
    exact vx_ret (w_iret hx hb hr hlocks hX ⟨i, hi, hxe, by rw [vGrt, if_pos hp]; rfl, rfl⟩ ⟨Nat.le_of_ble_eq_true rfl, Nat.le_of_ble_eq_true rfl⟩ dX2_greatestWish_13)
  · skip
    refine W.eq (g2 := F0 m 10 ls [.int (nI (σ 10 i + σ 7 (σ 8 i))), .int (nI 20)]) rfl ?_
    refine n_mmin hx hb (hml.trans hl.1.symm) hX hown kw375 kStMin kInMath kCdMin ⟨Nat.le_of_ble_eq_true rfl, Nat.le_of_ble_eq_true rfl⟩ ⟨Nat.le_of_ble_eq_true rfl, Nat.le_of_ble_eq_true rfl⟩ dX2_greatestWish_10 (nI_min (by omega) (by omega)) ?_
    exact vx_ret (w_iret hx hb hr hlocks hX ⟨i, hi, hxe, by rw [vGrt, if_neg (by omega)], rfl⟩ ⟨Nat.le_of_ble_eq_true rfl, Nat.le_of_ble_eq_true rfl⟩ dX2_greatestWish_13)

set_option maxHeartbeats 4000000 in
set_option maxRecDepth 100000 in
/-- an answer -/
theorem c_X2_dustIn_g (l : Launch) (g : wG) (μ : wMu) (zz : Nat) {Λ σ : sSt} {xv : Option Int64} (hF : fD g Λ xv σ μ) (hO : sOk σ) {i : Nat} (hi : i < σ 3 0) : wMet l yX2_dustIn cX2_dustIn 2 (some .int) 4 0 0 85 g [.ref (Λ 0 0), .int (nI i)] μ zz (fun r μ' => r = some (.int (nI (σ 7 i))) ∧ μ' = μ) := by
  refine wMet.of (by decide) (Nat.le_of_ble_eq_true rfl) ?_
  intro p e s m below meth c ls hx hb hr hml hown hlocks hin hl hsz hX
  have hl : lv_has ls 2 [(0, .ref (Λ 0 0)), (1, .int (nI i))] := hl
  obtain ⟨f1, ⟨m1, f2⟩, ⟨m2, f3⟩, f4, f5, f6, f7, ⟨t1, t2, t3, t4, f8⟩, ⟨u1, u2, u3, u4, u5, f9⟩, f10, f11⟩ := id hF
  obtain ⟨o1, o2, o3, o4, o5, o6, o7⟩ := id hO
  refine lv_aload_n hx hb dX2_dustIn_0 rfl (lv_at hl 0 rfl) ?_
  refine lv_iload_n hx hb dX2_dustIn_1 rfl (lv_at hl 1 rfl) ?_
  refine w_call (w_runV (n := 1) (As := [.int (nI i)]) (rest := []) hx hb hml hown hX (c_X2_wandAt_g l g μ s.heap.size hF hO hi) kw305 kw1 kw302 kw304 kp6 wn_X2_wandAt rfl f1 rfl ⟨Nat.le_of_ble_eq_true rfl, Nat.le_of_ble_eq_true rfl⟩ hl.1 rfl (Nat.le_of_ble_eq_true rfl) dX2_dustIn_2 ⟨Nat.le_of_ble_eq_true rfl, Nat.le_of_ble_eq_true rfl⟩) hX (fun r_3 μ_1 H locs q_2 hX hz => ?_)
  obtain ⟨rfl, e_4⟩ := q_2
  rw [e_4] at hX
  refine W.eq (g2 := F0 m 5 ls [.ref (Λ 7 i)]) rfl ?_
  have kw_5 := f6 i hi
  have kw_5b := o3 i hi
  refine gnX1_3 hx hb hX hown kw_5 kw67 dX2_dustIn_5 ?_
  exact w_iret hx hb hr hlocks hX ⟨rfl, rfl⟩ ⟨Nat.le_of_ble_eq_true rfl, Nat.le_of_ble_eq_true rfl⟩ dX2_dustIn_8

set_option maxHeartbeats 4000000 in
set_option maxRecDepth 100000 in
/-- an answer -/
theorem c_X2_wandOf_g (l : Launch) (g : wG) (μ : wMu) (zz : Nat) {Λ σ : sSt} {xv : Option Int64} (hF : fD g Λ xv σ μ) (hO : sOk σ) {i : Nat} (hi : i < σ 4 0) : wMet l yX2_wandOf cX2_wandOf 2 (some .int) 4 0 0 85 g [.ref (Λ 0 0), .int (nI i)] μ zz (fun r μ' => r = some (.int (nI (σ 8 i))) ∧ μ' = μ) := by
  refine wMet.of (by decide) (Nat.le_of_ble_eq_true rfl) ?_
  intro p e s m below meth c ls hx hb hr hml hown hlocks hin hl hsz hX
  have hl : lv_has ls 2 [(0, .ref (Λ 0 0)), (1, .int (nI i))] := hl
  obtain ⟨f1, ⟨m1, f2⟩, ⟨m2, f3⟩, f4, f5, f6, f7, ⟨t1, t2, t3, t4, f8⟩, ⟨u1, u2, u3, u4, u5, f9⟩, f10, f11⟩ := id hF
  obtain ⟨o1, o2, o3, o4, o5, o6, o7⟩ := id hO
  refine lv_aload_n hx hb dX2_wandOf_0 rfl (lv_at hl 0 rfl) ?_
  refine lv_iload_n hx hb dX2_wandOf_1 rfl (lv_at hl 1 rfl) ?_
  refine w_call (w_runV (n := 1) (As := [.int (nI i)]) (rest := []) hx hb hml hown hX (c_X2_childAt_g l g μ s.heap.size hF hO hi) kw345 kw1 kw342 kw344 kp9 wn_X2_childAt rfl f1 rfl ⟨Nat.le_of_ble_eq_true rfl, Nat.le_of_ble_eq_true rfl⟩ hl.1 rfl (Nat.le_of_ble_eq_true rfl) dX2_wandOf_2 ⟨Nat.le_of_ble_eq_true rfl, Nat.le_of_ble_eq_true rfl⟩) hX (fun r_3 μ_1 H locs q_2 hX hz => ?_)
  obtain ⟨rfl, e_4⟩ := q_2
  rw [e_4] at hX
  refine W.eq (g2 := F0 m 5 ls [.ref (Λ 8 i)]) rfl ?_
  have kc_5 := f7 i hi
  have kc_5b := o4 i hi
  have kw_6 := f6 (σ 8 i) kc_5b.1
  have kw_6b := o3 (σ 8 i) kc_5b.1
  refine gnX0_0 hx hb hX hown kc_5 kw84 dX2_wandOf_5 ?_
  refine gnX1_0 hx hb hX hown kw_6 kw61 dX2_wandOf_8 ?_
  exact w_iret hx hb hr hlocks hX ⟨rfl, rfl⟩ ⟨Nat.le_of_ble_eq_true rfl, Nat.le_of_ble_eq_true rfl⟩ dX2_wandOf_11

set_option maxHeartbeats 4000000 in
set_option maxRecDepth 100000 in
/-- an answer -/
theorem c_X2_burstOf_g (l : Launch) (g : wG) (μ : wMu) (zz : Nat) {Λ σ : sSt} {xv : Option Int64} (hF : fD g Λ xv σ μ) (hO : sOk σ) {i : Nat} (hi : i < σ 4 0) : wMet l yX2_burstOf cX2_burstOf 2 (some .int) 4 0 0 85 g [.ref (Λ 0 0), .int (nI i)] μ zz (fun r μ' => r = some (.int (nI (σ 10 i))) ∧ μ' = μ) := by
  refine wMet.of (by decide) (Nat.le_of_ble_eq_true rfl) ?_
  intro p e s m below meth c ls hx hb hr hml hown hlocks hin hl hsz hX
  have hl : lv_has ls 2 [(0, .ref (Λ 0 0)), (1, .int (nI i))] := hl
  obtain ⟨f1, ⟨m1, f2⟩, ⟨m2, f3⟩, f4, f5, f6, f7, ⟨t1, t2, t3, t4, f8⟩, ⟨u1, u2, u3, u4, u5, f9⟩, f10, f11⟩ := id hF
  obtain ⟨o1, o2, o3, o4, o5, o6, o7⟩ := id hO
  refine lv_aload_n hx hb dX2_burstOf_0 rfl (lv_at hl 0 rfl) ?_
  refine lv_iload_n hx hb dX2_burstOf_1 rfl (lv_at hl 1 rfl) ?_
  refine w_call (w_runV (n := 1) (As := [.int (nI i)]) (rest := []) hx hb hml hown hX (c_X2_childAt_g l g μ s.heap.size hF hO hi) kw345 kw1 kw342 kw344 kp9 wn_X2_childAt rfl f1 rfl ⟨Nat.le_of_ble_eq_true rfl, Nat.le_of_ble_eq_true rfl⟩ hl.1 rfl (Nat.le_of_ble_eq_true rfl) dX2_burstOf_2 ⟨Nat.le_of_ble_eq_true rfl, Nat.le_of_ble_eq_true rfl⟩) hX (fun r_3 μ_1 H locs q_2 hX hz => ?_)
  obtain ⟨rfl, e_4⟩ := q_2
  rw [e_4] at hX
  refine W.eq (g2 := F0 m 5 ls [.ref (Λ 8 i)]) rfl ?_
  have kc_5 := f7 i hi
  have kc_5b := o4 i hi
  have kw_6 := f6 (σ 8 i) kc_5b.1
  have kw_6b := o3 (σ 8 i) kc_5b.1
  refine gnX0_2 hx hb hX hown kc_5 kw88 dX2_burstOf_5 ?_
  exact w_iret hx hb hr hlocks hX ⟨rfl, rfl⟩ ⟨Nat.le_of_ble_eq_true rfl, Nat.le_of_ble_eq_true rfl⟩ dX2_burstOf_8

set_option maxHeartbeats 4000000 in
set_option maxRecDepth 100000 in
/-- an answer -/
theorem c_X2_punishedFor_g (l : Launch) (g : wG) (μ : wMu) (zz : Nat) {Λ σ : sSt} {xv : Option Int64} (hF : fD g Λ xv σ μ) (hO : sOk σ) {i : Nat} (hi : i < σ 4 0) : wMet l yX2_punishedFor cX2_punishedFor 2 (some .int) 4 0 0 85 g [.ref (Λ 0 0), .int (nI i)] μ zz (fun r μ' => r = some (.int (nI (σ 11 i))) ∧ μ' = μ) := by
  refine wMet.of (by decide) (Nat.le_of_ble_eq_true rfl) ?_
  intro p e s m below meth c ls hx hb hr hml hown hlocks hin hl hsz hX
  have hl : lv_has ls 2 [(0, .ref (Λ 0 0)), (1, .int (nI i))] := hl
  obtain ⟨f1, ⟨m1, f2⟩, ⟨m2, f3⟩, f4, f5, f6, f7, ⟨t1, t2, t3, t4, f8⟩, ⟨u1, u2, u3, u4, u5, f9⟩, f10, f11⟩ := id hF
  obtain ⟨o1, o2, o3, o4, o5, o6, o7⟩ := id hO
  refine lv_aload_n hx hb dX2_punishedFor_0 rfl (lv_at hl 0 rfl) ?_
  refine lv_iload_n hx hb dX2_punishedFor_1 rfl (lv_at hl 1 rfl) ?_
  refine w_call (w_runV (n := 1) (As := [.int (nI i)]) (rest := []) hx hb hml hown hX (c_X2_childAt_g l g μ s.heap.size hF hO hi) kw345 kw1 kw342 kw344 kp9 wn_X2_childAt rfl f1 rfl ⟨Nat.le_of_ble_eq_true rfl, Nat.le_of_ble_eq_true rfl⟩ hl.1 rfl (Nat.le_of_ble_eq_true rfl) dX2_punishedFor_2 ⟨Nat.le_of_ble_eq_true rfl, Nat.le_of_ble_eq_true rfl⟩) hX (fun r_3 μ_1 H locs q_2 hX hz => ?_)
  obtain ⟨rfl, e_4⟩ := q_2
  rw [e_4] at hX
  refine W.eq (g2 := F0 m 5 ls [.ref (Λ 8 i)]) rfl ?_
  have kc_5 := f7 i hi
  have kc_5b := o4 i hi
  have kw_6 := f6 (σ 8 i) kc_5b.1
  have kw_6b := o3 (σ 8 i) kc_5b.1
  refine gnX0_3 hx hb hX hown kc_5 kw90 dX2_punishedFor_5 ?_
  exact w_iret hx hb hr hlocks hX ⟨rfl, rfl⟩ ⟨Nat.le_of_ble_eq_true rfl, Nat.le_of_ble_eq_true rfl⟩ dX2_punishedFor_8

set_option maxHeartbeats 4000000 in
set_option maxRecDepth 100000 in
/-- an answer -/
theorem c_X2_marksOf_g (l : Launch) (g : wG) (μ : wMu) (zz : Nat) {Λ σ : sSt} {xv : Option Int64} (hF : fD g Λ xv σ μ) (hO : sOk σ) {i : Nat} (hi : i < σ 4 0) : wMet l yX2_marksOf cX2_marksOf 2 (some .int) 4 0 0 85 g [.ref (Λ 0 0), .int (nI i)] μ zz (fun r μ' => r = some (.int (nI (σ 12 i))) ∧ μ' = μ) := by
  refine wMet.of (by decide) (Nat.le_of_ble_eq_true rfl) ?_
  intro p e s m below meth c ls hx hb hr hml hown hlocks hin hl hsz hX
  have hl : lv_has ls 2 [(0, .ref (Λ 0 0)), (1, .int (nI i))] := hl
  obtain ⟨f1, ⟨m1, f2⟩, ⟨m2, f3⟩, f4, f5, f6, f7, ⟨t1, t2, t3, t4, f8⟩, ⟨u1, u2, u3, u4, u5, f9⟩, f10, f11⟩ := id hF
  obtain ⟨o1, o2, o3, o4, o5, o6, o7⟩ := id hO
  refine lv_aload_n hx hb dX2_marksOf_0 rfl (lv_at hl 0 rfl) ?_
  refine lv_iload_n hx hb dX2_marksOf_1 rfl (lv_at hl 1 rfl) ?_
  refine w_call (w_runV (n := 1) (As := [.int (nI i)]) (rest := []) hx hb hml hown hX (c_X2_childAt_g l g μ s.heap.size hF hO hi) kw345 kw1 kw342 kw344 kp9 wn_X2_childAt rfl f1 rfl ⟨Nat.le_of_ble_eq_true rfl, Nat.le_of_ble_eq_true rfl⟩ hl.1 rfl (Nat.le_of_ble_eq_true rfl) dX2_marksOf_2 ⟨Nat.le_of_ble_eq_true rfl, Nat.le_of_ble_eq_true rfl⟩) hX (fun r_3 μ_1 H locs q_2 hX hz => ?_)
  obtain ⟨rfl, e_4⟩ := q_2
  rw [e_4] at hX
  refine W.eq (g2 := F0 m 5 ls [.ref (Λ 8 i)]) rfl ?_
  have kc_5 := f7 i hi
  have kc_5b := o4 i hi
  have kw_6 := f6 (σ 8 i) kc_5b.1
  have kw_6b := o3 (σ 8 i) kc_5b.1
  refine gnX0_4 hx hb hX hown kc_5 kw92 dX2_marksOf_5 ?_
  exact w_iret hx hb hr hlocks hX ⟨rfl, rfl⟩ ⟨Nat.le_of_ble_eq_true rfl, Nat.le_of_ble_eq_true rfl⟩ dX2_marksOf_8

set_option maxHeartbeats 4000000 in
set_option maxRecDepth 100000 in
/-- an answer -/
theorem c_X2_nextPunishment_g (l : Launch) (g : wG) (μ : wMu) (zz : Nat) {Λ σ : sSt} {xv : Option Int64} (hF : fD g Λ xv σ μ) (hO : sOk σ) {i : Nat} (hi : i < σ 4 0) : wMet l yX2_nextPunishment cX2_nextPunishment 2 (some .int) 4 0 0 85 g [.ref (Λ 0 0), .int (nI i)] μ zz (fun r μ' => r = some (.int (nI (σ 13 i))) ∧ μ' = μ) := by
  refine wMet.of (by decide) (Nat.le_of_ble_eq_true rfl) ?_
  intro p e s m below meth c ls hx hb hr hml hown hlocks hin hl hsz hX
  have hl : lv_has ls 2 [(0, .ref (Λ 0 0)), (1, .int (nI i))] := hl
  obtain ⟨f1, ⟨m1, f2⟩, ⟨m2, f3⟩, f4, f5, f6, f7, ⟨t1, t2, t3, t4, f8⟩, ⟨u1, u2, u3, u4, u5, f9⟩, f10, f11⟩ := id hF
  obtain ⟨o1, o2, o3, o4, o5, o6, o7⟩ := id hO
  refine lv_aload_n hx hb dX2_nextPunishment_0 rfl (lv_at hl 0 rfl) ?_
  refine lv_iload_n hx hb dX2_nextPunishment_1 rfl (lv_at hl 1 rfl) ?_
  refine w_call (w_runV (n := 1) (As := [.int (nI i)]) (rest := []) hx hb hml hown hX (c_X2_childAt_g l g μ s.heap.size hF hO hi) kw345 kw1 kw342 kw344 kp9 wn_X2_childAt rfl f1 rfl ⟨Nat.le_of_ble_eq_true rfl, Nat.le_of_ble_eq_true rfl⟩ hl.1 rfl (Nat.le_of_ble_eq_true rfl) dX2_nextPunishment_2 ⟨Nat.le_of_ble_eq_true rfl, Nat.le_of_ble_eq_true rfl⟩) hX (fun r_3 μ_1 H locs q_2 hX hz => ?_)
  obtain ⟨rfl, e_4⟩ := q_2
  rw [e_4] at hX
  refine W.eq (g2 := F0 m 5 ls [.ref (Λ 8 i)]) rfl ?_
  have kc_5 := f7 i hi
  have kc_5b := o4 i hi
  have kw_6 := f6 (σ 8 i) kc_5b.1
  have kw_6b := o3 (σ 8 i) kc_5b.1
  refine gnX0_5 hx hb hX hown kc_5 kw94 dX2_nextPunishment_5 ?_
  exact w_iret hx hb hr hlocks hX ⟨rfl, rfl⟩ ⟨Nat.le_of_ble_eq_true rfl, Nat.le_of_ble_eq_true rfl⟩ dX2_nextPunishment_8

set_option maxHeartbeats 4000000 in
set_option maxRecDepth 100000 in
/-- an answer -/
theorem c_X2_daysToBirthday_g (l : Launch) (g : wG) (μ : wMu) (zz : Nat) {Λ σ : sSt} {xv : Option Int64} (hF : fD g Λ xv σ μ) (hO : sOk σ) {i : Nat} (hi : i < σ 4 0) : wMet l yX2_daysToBirthday cX2_daysToBirthday 2 (some .int) 4 0 0 85 g [.ref (Λ 0 0), .int (nI i)] μ zz (fun r μ' => r = some (.int (nI (vDay σ i))) ∧ μ' = μ) := by
  refine wMet.of (by decide) (Nat.le_of_ble_eq_true rfl) ?_
  intro p e s m below meth c ls hx hb hr hml hown hlocks hin hl hsz hX
  have hl : lv_has ls 2 [(0, .ref (Λ 0 0)), (1, .int (nI i))] := hl
  obtain ⟨f1, ⟨m1, f2⟩, ⟨m2, f3⟩, f4, f5, f6, f7, ⟨t1, t2, t3, t4, f8⟩, ⟨u1, u2, u3, u4, u5, f9⟩, f10, f11⟩ := id hF
  obtain ⟨o1, o2, o3, o4, o5, o6, o7⟩ := id hO
  refine lv_aload_n hx hb dX2_daysToBirthday_0 rfl (lv_at hl 0 rfl) ?_
  refine lv_iload_n hx hb dX2_daysToBirthday_1 rfl (lv_at hl 1 rfl) ?_
  refine w_call (w_runV (n := 1) (As := [.int (nI i)]) (rest := []) hx hb hml hown hX (c_X2_childAt_g l g μ s.heap.size hF hO hi) kw345 kw1 kw342 kw344 kp9 wn_X2_childAt rfl f1 rfl ⟨Nat.le_of_ble_eq_true rfl, Nat.le_of_ble_eq_true rfl⟩ hl.1 rfl (Nat.le_of_ble_eq_true rfl) dX2_daysToBirthday_2 ⟨Nat.le_of_ble_eq_true rfl, Nat.le_of_ble_eq_true rfl⟩) hX (fun r_3 μ_1 H locs q_2 hX hz => ?_)
  obtain ⟨rfl, e_4⟩ := q_2
  rw [e_4] at hX
  refine W.eq (g2 := F0 m 5 ls [.ref (Λ 8 i)]) rfl ?_
  have kc_5 := f7 i hi
  have kc_5b := o4 i hi
  have kw_6 := f6 (σ 8 i) kc_5b.1
  have kw_6b := o3 (σ 8 i) kc_5b.1
  refine gnX0_1 hx hb hX hown kc_5 kw86 dX2_daysToBirthday_5 ?_
  refine lv_aload_n hx hb dX2_daysToBirthday_8 rfl (lv_at hl 0 rfl) ?_
  refine w_call (w_runV (n := 0) (As := []) (rest := [.int (nI (σ 9 i))]) hx hb hml hown hX (c_X2_day l g μ H.size hF hO) kw137 kw1 kw194 kw135 kw136 wn_X2_day rfl f1 rfl ⟨Nat.le_of_ble_eq_true rfl, Nat.le_of_ble_eq_true rfl⟩ hl.1 rfl (Nat.le_of_ble_eq_true rfl) dX2_daysToBirthday_9 ⟨Nat.le_of_ble_eq_true rfl, Nat.le_of_ble_eq_true rfl⟩) hX (fun r_9 μ_7 H locs q_8 hX hz => ?_)
  obtain ⟨rfl, e_10⟩ := q_8
  rw [e_10] at hX
  refine W.eq (g2 := F0 m 12 ls [.int (nI (σ 0 0 / 24)), .int (nI (σ 9 i))]) rfl ?_
  refine n_isub hx hb dX2_daysToBirthday_12 rfl ?_
  refine lv_bipush (v := nI 30) hx hb dX2_daysToBirthday_13 (by decide) ?_
  refine w_call (w_runS (n := 2) (As := [.int ((nI (σ 9 i)) - (nI (σ 0 0 / 24))), .int (nI 30)]) (rest := []) hx hb hml hown hX (c_J9_floorMod_7cf53 l g μ H.size (by omega) (by omega)) kw369 kw14 kw367 kw368 wn_J9_floorMod_7cf53 rfl ⟨Nat.le_of_ble_eq_true rfl, Nat.le_of_ble_eq_true rfl⟩ hl.1 rfl (Nat.le_of_ble_eq_true rfl) dX2_daysToBirthday_15 ⟨Nat.le_of_ble_eq_true rfl, Nat.le_of_ble_eq_true rfl⟩) hX (fun r_13 μ_11 H locs q_12 hX hz => ?_)
  obtain ⟨rfl, e_14⟩ := q_12
  rw [e_14] at hX
  refine W.eq (g2 := F0 m 18 ls [.int (nI (vDay σ i))]) rfl ?_
  exact w_iret hx hb hr hlocks hX ⟨rfl, rfl⟩ ⟨Nat.le_of_ble_eq_true rfl, Nat.le_of_ble_eq_true rfl⟩ dX2_daysToBirthday_18

set_option maxHeartbeats 4000000 in
set_option maxRecDepth 100000 in
/-- an answer -/
theorem c_X2_greatestWish_g (l : Launch) (g : wG) (μ : wMu) (zz : Nat) {Λ σ : sSt} {xv : Option Int64} (hF : fD g Λ xv σ μ) (hO : sOk σ) {i : Nat} (hi : i < σ 4 0) : wMet l yX2_greatestWish cX2_greatestWish 2 (some .int) 4 0 0 85 g [.ref (Λ 0 0), .int (nI i)] μ zz (fun r μ' => r = some (.int (nI (vGrt σ i))) ∧ μ' = μ) := by
  refine wMet.of (by decide) (Nat.le_of_ble_eq_true rfl) ?_
  intro p e s m below meth c ls hx hb hr hml hown hlocks hin hl hsz hX
  have hl : lv_has ls 2 [(0, .ref (Λ 0 0)), (1, .int (nI i))] := hl
  obtain ⟨f1, ⟨m1, f2⟩, ⟨m2, f3⟩, f4, f5, f6, f7, ⟨t1, t2, t3, t4, f8⟩, ⟨u1, u2, u3, u4, u5, f9⟩, f10, f11⟩ := id hF
  obtain ⟨o1, o2, o3, o4, o5, o6, o7⟩ := id hO
  refine lv_bipush (v := nI 20) hx hb dX2_greatestWish_0 (by decide) ?_
  refine lv_aload_n hx hb dX2_greatestWish_2 rfl (lv_at hl 0 rfl) ?_
  refine lv_iload_n hx hb dX2_greatestWish_3 rfl (lv_at hl 1 rfl) ?_
  refine w_call (w_runV (n := 1) (As := [.int (nI i)]) (rest := [.int (nI 20)]) hx hb hml hown hX (c_X2_childAt_g l g μ s.heap.size hF hO hi) kw345 kw1 kw342 kw344 kp9 wn_X2_childAt rfl f1 rfl ⟨Nat.le_of_ble_eq_true rfl, Nat.le_of_ble_eq_true rfl⟩ hl.1 rfl (Nat.le_of_ble_eq_true rfl) dX2_greatestWish_4 ⟨Nat.le_of_ble_eq_true rfl, Nat.le_of_ble_eq_true rfl⟩) hX (fun r_3 μ_1 H locs q_2 hX hz => ?_)
  obtain ⟨rfl, e_4⟩ := q_2
  rw [e_4] at hX
  refine W.eq (g2 := F0 m 7 ls [.ref (Λ 8 i), .int (nI 20)]) rfl ?_
  have kc_5 := f7 i hi
  have kc_5b := o4 i hi
  have kw_6 := f6 (σ 8 i) kc_5b.1
  have kw_6b := o3 (σ 8 i) kc_5b.1
  refine w_call (w_runVN (n := 0) (As := []) (rest := [.int (nI 20)]) hx hb hml hown hX (c_X0_grainsAtHand l g μ H.size kc_5 kw_6 (by omega) (by omega) (by omega)) kw285 kw6 kw374 kw284 kp3 wn_X0_grainsAtHand rfl kc_5 rfl ⟨Nat.le_of_ble_eq_true rfl, Nat.le_of_ble_eq_true rfl⟩ hl.1 rfl (Nat.le_of_ble_eq_true rfl) dX2_greatestWish_7 ⟨Nat.le_of_ble_eq_true rfl, Nat.le_of_ble_eq_true rfl⟩) hX (fun r_9 μ_7 H locs q_8 hX hz => ?_)
  obtain ⟨q_11, e_10⟩ := q_8
  rw [e_10] at hX
  obtain ⟨rfl, hp⟩ | ⟨rfl, hp⟩ := q_11
  · skip
    refine W.eq (g2 := F0 m 10 ls [.int (nI 0), .int (nI 20)]) rfl ?_
    refine n_mmin hx hb (hml.trans hl.1.symm) hX hown kw375 kStMin kInMath kCdMin ⟨Nat.le_of_ble_eq_true rfl, Nat.le_of_ble_eq_true rfl⟩ ⟨Nat.le_of_ble_eq_true rfl, Nat.le_of_ble_eq_true rfl⟩ dX2_greatestWish_10 (nI_min (by omega) (by omega)) ?_
    exact w_iret hx hb hr hlocks hX ⟨by rw [vGrt, if_pos hp]; rfl, rfl⟩ ⟨Nat.le_of_ble_eq_true rfl, Nat.le_of_ble_eq_true rfl⟩ dX2_greatestWish_13
  · skip
    refine W.eq (g2 := F0 m 10 ls [.int (nI (σ 10 i + σ 7 (σ 8 i))), .int (nI 20)]) rfl ?_
    refine n_mmin hx hb (hml.trans hl.1.symm) hX hown kw375 kStMin kInMath kCdMin ⟨Nat.le_of_ble_eq_true rfl, Nat.le_of_ble_eq_true rfl⟩ ⟨Nat.le_of_ble_eq_true rfl, Nat.le_of_ble_eq_true rfl⟩ dX2_greatestWish_10 (nI_min (by omega) (by omega)) ?_
    exact w_iret hx hb hr hlocks hX ⟨by rw [vGrt, if_neg (by omega)], rfl⟩ ⟨Nat.le_of_ble_eq_true rfl, Nat.le_of_ble_eq_true rfl⟩ dX2_greatestWish_13
end
