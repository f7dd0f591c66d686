section
-- ===== PART A: goes FIRST, ahead of the names: the tables' words, and 'selects' of the private methods out of them =====
/-- a private method of a class that the tables say can be made, by its rows of tables_1 -/
def lw_okq (q : MethodName × Nat) : Prop := (q.1.cls ≠ "java/lang/invoke/MethodHandle" ∧ q.1.cls ≠ "java/lang/invoke/VarHandle") ∧ Cond.instantiable q.1.cls q.2 ∈ tables_1 ∧ Cond.privateMethod q.1 ∈ tables_1 ∧ Cond.instanceMethod q.1 ∈ tables_1
theorem lw_p0 : lw_okq (⟨"FarStore", "commitsHeld", "()I"⟩, 6) := ⟨⟨by decide +kernel, by decide +kernel⟩, List.mem_of_getElem? (i := 26) (by decide +kernel), List.mem_of_getElem? (i := 107) (by decide +kernel), List.mem_of_getElem? (i := 108) (by decide +kernel)⟩
theorem lw_p1 : lw_okq (⟨"FarStore", "messagesWaiting", "()I"⟩, 6) := ⟨⟨by decide +kernel, by decide +kernel⟩, List.mem_of_getElem? (i := 26) (by decide +kernel), List.mem_of_getElem? (i := 111) (by decide +kernel), List.mem_of_getElem? (i := 112) (by decide +kernel)⟩
theorem lw_p2 : lw_okq (⟨"java/lang/Throwable", "fillInStackTrace", "(I)Ljava/lang/Throwable;"⟩, 6) := ⟨⟨by decide +kernel, by decide +kernel⟩, List.mem_of_getElem? (i := 162) (by decide +kernel), List.mem_of_getElem? (i := 160) (by decide +kernel), List.mem_of_getElem? (i := 161) (by decide +kernel)⟩
theorem lw_p3 : lw_okq (⟨"FarStore", "needSite", "(I)V"⟩, 6) := ⟨⟨by decide +kernel, by decide +kernel⟩, List.mem_of_getElem? (i := 26) (by decide +kernel), List.mem_of_getElem? (i := 240) (by decide +kernel), List.mem_of_getElem? (i := 241) (by decide +kernel)⟩
theorem lw_p4 : lw_okq (⟨"java/util/ArrayList", "add", "(Ljava/lang/Object;[Ljava/lang/Object;I)V"⟩, 3) := ⟨⟨by decide +kernel, by decide +kernel⟩, List.mem_of_getElem? (i := 36) (by decide +kernel), List.mem_of_getElem? (i := 280) (by decide +kernel), List.mem_of_getElem? (i := 281) (by decide +kernel)⟩
theorem lw_p5 : lw_okq (⟨"java/util/ArrayList", "grow", "()[Ljava/lang/Object;"⟩, 3) := ⟨⟨by decide +kernel, by decide +kernel⟩, List.mem_of_getElem? (i := 36) (by decide +kernel), List.mem_of_getElem? (i := 284) (by decide +kernel), List.mem_of_getElem? (i := 285) (by decide +kernel)⟩
theorem lw_p6 : lw_okq (⟨"java/util/ArrayList", "grow", "(I)[Ljava/lang/Object;"⟩, 3) := ⟨⟨by decide +kernel, by decide +kernel⟩, List.mem_of_getElem? (i := 36) (by decide +kernel), List.mem_of_getElem? (i := 288) (by decide +kernel), List.mem_of_getElem? (i := 289) (by decide +kernel)⟩
theorem lw_p7 : lw_okq (⟨"FarStore", "transactionOf", "(I)LFarStore$Transaction;"⟩, 6) := ⟨⟨by decide +kernel, by decide +kernel⟩, List.mem_of_getElem? (i := 26) (by decide +kernel), List.mem_of_getElem? (i := 400) (by decide +kernel), List.mem_of_getElem? (i := 401) (by decide +kernel)⟩
theorem lw_p8 : lw_okq (⟨"FarStore", "plainItem", "(I)LFarStore$Item;"⟩, 6) := ⟨⟨by decide +kernel, by decide +kernel⟩, List.mem_of_getElem? (i := 26) (by decide +kernel), List.mem_of_getElem? (i := 419) (by decide +kernel), List.mem_of_getElem? (i := 420) (by decide +kernel)⟩
theorem lw_p9 : lw_okq (⟨"FarStore", "itemOf", "(I)LFarStore$Item;"⟩, 6) := ⟨⟨by decide +kernel, by decide +kernel⟩, List.mem_of_getElem? (i := 26) (by decide +kernel), List.mem_of_getElem? (i := 423) (by decide +kernel), List.mem_of_getElem? (i := 424) (by decide +kernel)⟩
theorem lw_p10 : lw_okq (⟨"FarStore", "needOpen", "(LFarStore$Transaction;)V"⟩, 6) := ⟨⟨by decide +kernel, by decide +kernel⟩, List.mem_of_getElem? (i := 26) (by decide +kernel), List.mem_of_getElem? (i := 429) (by decide +kernel), List.mem_of_getElem? (i := 430) (by decide +kernel)⟩
theorem lw_p11 : lw_okq (⟨"FarStore$Transaction", "ownWrite", "(LFarStore$Item;)LFarStore$Write;"⟩, 8) := ⟨⟨by decide +kernel, by decide +kernel⟩, List.mem_of_getElem? (i := 344) (by decide +kernel), List.mem_of_getElem? (i := 438) (by decide +kernel), List.mem_of_getElem? (i := 439) (by decide +kernel)⟩
theorem lw_p12 : lw_okq (⟨"FarStore", "setItem", "(I)LFarStore$Item;"⟩, 6) := ⟨⟨by decide +kernel, by decide +kernel⟩, List.mem_of_getElem? (i := 26) (by decide +kernel), List.mem_of_getElem? (i := 487) (by decide +kernel), List.mem_of_getElem? (i := 488) (by decide +kernel)⟩
theorem lw_p13 : lw_okq (⟨"FarStore$Tally", "firstNotBelow", "(I)I"⟩, 3) := ⟨⟨by decide +kernel, by decide +kernel⟩, List.mem_of_getElem? (i := 62) (by decide +kernel), List.mem_of_getElem? (i := 550) (by decide +kernel), List.mem_of_getElem? (i := 551) (by decide +kernel)⟩
theorem lw_p14 : lw_okq (⟨"FarStore$Tally", "makeRoomAt", "(I)V"⟩, 3) := ⟨⟨by decide +kernel, by decide +kernel⟩, List.mem_of_getElem? (i := 62) (by decide +kernel), List.mem_of_getElem? (i := 554) (by decide +kernel), List.mem_of_getElem? (i := 555) (by decide +kernel)⟩
theorem lw_p15 : lw_okq (⟨"FarStore", "tryToCommit", "(LFarStore$Transaction;)V"⟩, 6) := ⟨⟨by decide +kernel, by decide +kernel⟩, List.mem_of_getElem? (i := 26) (by decide +kernel), List.mem_of_getElem? (i := 591) (by decide +kernel), List.mem_of_getElem? (i := 592) (by decide +kernel)⟩
def lw_privs_1 : List (MethodName × Nat) := [(⟨"FarStore", "commitsHeld", "()I"⟩, 6), (⟨"FarStore", "messagesWaiting", "()I"⟩, 6), (⟨"java/lang/Throwable", "fillInStackTrace", "(I)Ljava/lang/Throwable;"⟩, 6), (⟨"FarStore", "needSite", "(I)V"⟩, 6), (⟨"java/util/ArrayList", "add", "(Ljava/lang/Object;[Ljava/lang/Object;I)V"⟩, 3), (⟨"java/util/ArrayList", "grow", "()[Ljava/lang/Object;"⟩, 3), (⟨"java/util/ArrayList", "grow", "(I)[Ljava/lang/Object;"⟩, 3), (⟨"FarStore", "transactionOf", "(I)LFarStore$Transaction;"⟩, 6), (⟨"FarStore", "plainItem", "(I)LFarStore$Item;"⟩, 6), (⟨"FarStore", "itemOf", "(I)LFarStore$Item;"⟩, 6), (⟨"FarStore", "needOpen", "(LFarStore$Transaction;)V"⟩, 6), (⟨"FarStore$Transaction", "ownWrite", "(LFarStore$Item;)LFarStore$Write;"⟩, 8), (⟨"FarStore", "setItem", "(I)LFarStore$Item;"⟩, 6), (⟨"FarStore$Tally", "firstNotBelow", "(I)I"⟩, 3), (⟨"FarStore$Tally", "makeRoomAt", "(I)V"⟩, 3), (⟨"FarStore", "tryToCommit", "(LFarStore$Transaction;)V"⟩, 6)]
theorem lw_r1 : ∀ q ∈ lw_privs_1, lw_okq q := List.forall_mem_cons.mpr ⟨lw_p0, List.forall_mem_cons.mpr ⟨lw_p1, List.forall_mem_cons.mpr ⟨lw_p2, List.forall_mem_cons.mpr ⟨lw_p3, List.forall_mem_cons.mpr ⟨lw_p4, List.forall_mem_cons.mpr ⟨lw_p5, List.forall_mem_cons.mpr ⟨lw_p6, List.forall_mem_cons.mpr ⟨lw_p7, List.forall_mem_cons.mpr ⟨lw_p8, List.forall_mem_cons.mpr ⟨lw_p9, List.forall_mem_cons.mpr ⟨lw_p10, List.forall_mem_cons.mpr ⟨lw_p11, List.forall_mem_cons.mpr ⟨lw_p12, List.forall_mem_cons.mpr ⟨lw_p13, List.forall_mem_cons.mpr ⟨lw_p14, List.forall_mem_cons.mpr ⟨lw_p15, fun _ h => absurd h List.not_mem_nil⟩⟩⟩⟩⟩⟩⟩⟩⟩⟩⟩⟩⟩⟩⟩⟩
theorem lw_p16 : lw_okq (⟨"FarStore", "otherHomes", "(LFarStore$Transaction;)I"⟩, 6) := ⟨⟨by decide +kernel, by decide +kernel⟩, List.mem_of_getElem? (i := 26) (by decide +kernel), List.mem_of_getElem? (i := 615) (by decide +kernel), List.mem_of_getElem? (i := 616) (by decide +kernel)⟩
theorem lw_p17 : lw_okq (⟨"FarStore", "makeCommit", "(LFarStore$Transaction;)V"⟩, 6) := ⟨⟨by decide +kernel, by decide +kernel⟩, List.mem_of_getElem? (i := 26) (by decide +kernel), List.mem_of_getElem? (i := 623) (by decide +kernel), List.mem_of_getElem? (i := 624) (by decide +kernel)⟩
theorem lw_p18 : lw_okq (⟨"FarStore", "sendToOtherHomes", "(LFarStore$Transaction;II)V"⟩, 6) := ⟨⟨by decide +kernel, by decide +kernel⟩, List.mem_of_getElem? (i := 26) (by decide +kernel), List.mem_of_getElem? (i := 663) (by decide +kernel), List.mem_of_getElem? (i := 664) (by decide +kernel)⟩
theorem lw_p19 : lw_okq (⟨"FarStore", "needTwoSites", "(II)V"⟩, 6) := ⟨⟨by decide +kernel, by decide +kernel⟩, List.mem_of_getElem? (i := 26) (by decide +kernel), List.mem_of_getElem? (i := 681) (by decide +kernel), List.mem_of_getElem? (i := 682) (by decide +kernel)⟩
theorem lw_p20 : lw_okq (⟨"java/util/ArrayList", "fastRemove", "([Ljava/lang/Object;I)V"⟩, 3) := ⟨⟨by decide +kernel, by decide +kernel⟩, List.mem_of_getElem? (i := 36) (by decide +kernel), List.mem_of_getElem? (i := 697) (by decide +kernel), List.mem_of_getElem? (i := 698) (by decide +kernel)⟩
theorem lw_p21 : lw_okq (⟨"FarStore", "arrive", "(LFarStore$Message;LFarStore$Site;)V"⟩, 6) := ⟨⟨by decide +kernel, by decide +kernel⟩, List.mem_of_getElem? (i := 26) (by decide +kernel), List.mem_of_getElem? (i := 702) (by decide +kernel), List.mem_of_getElem? (i := 703) (by decide +kernel)⟩
theorem lw_p22 : lw_okq (⟨"FarStore", "answer", "(LFarStore$Transaction;LFarStore$Site;)V"⟩, 6) := ⟨⟨by decide +kernel, by decide +kernel⟩, List.mem_of_getElem? (i := 26) (by decide +kernel), List.mem_of_getElem? (i := 706) (by decide +kernel), List.mem_of_getElem? (i := 707) (by decide +kernel)⟩
theorem lw_p23 : lw_okq (⟨"FarStore", "hearYes", "(LFarStore$Transaction;)V"⟩, 6) := ⟨⟨by decide +kernel, by decide +kernel⟩, List.mem_of_getElem? (i := 26) (by decide +kernel), List.mem_of_getElem? (i := 710) (by decide +kernel), List.mem_of_getElem? (i := 711) (by decide +kernel)⟩
theorem lw_p24 : lw_okq (⟨"FarStore", "hearNo", "(LFarStore$Transaction;I)V"⟩, 6) := ⟨⟨by decide +kernel, by decide +kernel⟩, List.mem_of_getElem? (i := 26) (by decide +kernel), List.mem_of_getElem? (i := 714) (by decide +kernel), List.mem_of_getElem? (i := 715) (by decide +kernel)⟩
theorem lw_p25 : lw_okq (⟨"FarStore$Site", "canApply", "(LFarStore$Transaction;)Z"⟩, 4) := ⟨⟨by decide +kernel, by decide +kernel⟩, List.mem_of_getElem? (i := 207) (by decide +kernel), List.mem_of_getElem? (i := 723) (by decide +kernel), List.mem_of_getElem? (i := 724) (by decide +kernel)⟩
theorem lw_p26 : lw_okq (⟨"FarStore$Site", "applyHeld", "()V"⟩, 4) := ⟨⟨by decide +kernel, by decide +kernel⟩, List.mem_of_getElem? (i := 207) (by decide +kernel), List.mem_of_getElem? (i := 728) (by decide +kernel), List.mem_of_getElem? (i := 729) (by decide +kernel)⟩
theorem lw_p27 : lw_okq (⟨"FarStore$Site", "firstThatCanBeApplied", "()I"⟩, 4) := ⟨⟨by decide +kernel, by decide +kernel⟩, List.mem_of_getElem? (i := 207) (by decide +kernel), List.mem_of_getElem? (i := 732) (by decide +kernel), List.mem_of_getElem? (i := 733) (by decide +kernel)⟩
theorem lw_p28 : lw_okq (⟨"FarStore", "sitesThatApplied", "(LFarStore$Transaction;)I"⟩, 6) := ⟨⟨by decide +kernel, by decide +kernel⟩, List.mem_of_getElem? (i := 26) (by decide +kernel), List.mem_of_getElem? (i := 763) (by decide +kernel), List.mem_of_getElem? (i := 764) (by decide +kernel)⟩
theorem lw_p29 : lw_okq (⟨"FarStoreModel", "fails", "(ZZ)Z"⟩, 29) := ⟨⟨by decide +kernel, by decide +kernel⟩, List.mem_of_getElem? (i := 776) (by decide +kernel), List.mem_of_getElem? (i := 880) (by decide +kernel), List.mem_of_getElem? (i := 881) (by decide +kernel)⟩
theorem lw_p30 : lw_okq (⟨"FarStoreModel", "isSite", "(I)Z"⟩, 29) := ⟨⟨by decide +kernel, by decide +kernel⟩, List.mem_of_getElem? (i := 776) (by decide +kernel), List.mem_of_getElem? (i := 888) (by decide +kernel), List.mem_of_getElem? (i := 889) (by decide +kernel)⟩
theorem lw_p31 : lw_okq (⟨"FarStoreModel", "isWrong", "(IIZ)Z"⟩, 29) := ⟨⟨by decide +kernel, by decide +kernel⟩, List.mem_of_getElem? (i := 776) (by decide +kernel), List.mem_of_getElem? (i := 900) (by decide +kernel), List.mem_of_getElem? (i := 901) (by decide +kernel)⟩
def lw_privs_2 : List (MethodName × Nat) := [(⟨"FarStore", "otherHomes", "(LFarStore$Transaction;)I"⟩, 6), (⟨"FarStore", "makeCommit", "(LFarStore$Transaction;)V"⟩, 6), (⟨"FarStore", "sendToOtherHomes", "(LFarStore$Transaction;II)V"⟩, 6), (⟨"FarStore", "needTwoSites", "(II)V"⟩, 6), (⟨"java/util/ArrayList", "fastRemove", "([Ljava/lang/Object;I)V"⟩, 3), (⟨"FarStore", "arrive", "(LFarStore$Message;LFarStore$Site;)V"⟩, 6), (⟨"FarStore", "answer", "(LFarStore$Transaction;LFarStore$Site;)V"⟩, 6), (⟨"FarStore", "hearYes", "(LFarStore$Transaction;)V"⟩, 6), (⟨"FarStore", "hearNo", "(LFarStore$Transaction;I)V"⟩, 6), (⟨"FarStore$Site", "canApply", "(LFarStore$Transaction;)Z"⟩, 4), (⟨"FarStore$Site", "applyHeld", "()V"⟩, 4), (⟨"FarStore$Site", "firstThatCanBeApplied", "()I"⟩, 4), (⟨"FarStore", "sitesThatApplied", "(LFarStore$Transaction;)I"⟩, 6), (⟨"FarStoreModel", "fails", "(ZZ)Z"⟩, 29), (⟨"FarStoreModel", "isSite", "(I)Z"⟩, 29), (⟨"FarStoreModel", "isWrong", "(IIZ)Z"⟩, 29)]
theorem lw_r2 : ∀ q ∈ lw_privs_2, lw_okq q := List.forall_mem_cons.mpr ⟨lw_p16, List.forall_mem_cons.mpr ⟨lw_p17, List.forall_mem_cons.mpr ⟨lw_p18, List.forall_mem_cons.mpr ⟨lw_p19, List.forall_mem_cons.mpr ⟨lw_p20, List.forall_mem_cons.mpr ⟨lw_p21, List.forall_mem_cons.mpr ⟨lw_p22, List.forall_mem_cons.mpr ⟨lw_p23, List.forall_mem_cons.mpr ⟨lw_p24, List.forall_mem_cons.mpr ⟨lw_p25, List.forall_mem_cons.mpr ⟨lw_p26, List.forall_mem_cons.mpr ⟨lw_p27, List.forall_mem_cons.mpr ⟨lw_p28, List.forall_mem_cons.mpr ⟨lw_p29, List.forall_mem_cons.mpr ⟨lw_p30, List.forall_mem_cons.mpr ⟨lw_p31, fun _ h => absurd h List.not_mem_nil⟩⟩⟩⟩⟩⟩⟩⟩⟩⟩⟩⟩⟩⟩⟩⟩
theorem lw_p32 : lw_okq (⟨"FarStoreModel", "isTran", "(I)Z"⟩, 29) := ⟨⟨by decide +kernel, by decide +kernel⟩, List.mem_of_getElem? (i := 776) (by decide +kernel), List.mem_of_getElem? (i := 904) (by decide +kernel), List.mem_of_getElem? (i := 905) (by decide +kernel)⟩
theorem lw_p33 : lw_okq (⟨"FarStoreModel", "isObject", "(I)Z"⟩, 29) := ⟨⟨by decide +kernel, by decide +kernel⟩, List.mem_of_getElem? (i := 776) (by decide +kernel), List.mem_of_getElem? (i := 908) (by decide +kernel), List.mem_of_getElem? (i := 909) (by decide +kernel)⟩
theorem lw_p34 : lw_okq (⟨"FarStoreModel", "wrote", "(II)Z"⟩, 29) := ⟨⟨by decide +kernel, by decide +kernel⟩, List.mem_of_getElem? (i := 776) (by decide +kernel), List.mem_of_getElem? (i := 912) (by decide +kernel), List.mem_of_getElem? (i := 913) (by decide +kernel)⟩
theorem lw_p35 : lw_okq (⟨"FarStoreModel", "lastOf", "(II)J"⟩, 29) := ⟨⟨by decide +kernel, by decide +kernel⟩, List.mem_of_getElem? (i := 776) (by decide +kernel), List.mem_of_getElem? (i := 916) (by decide +kernel), List.mem_of_getElem? (i := 917) (by decide +kernel)⟩
theorem lw_p36 : lw_okq (⟨"FarStoreModel", "visible", "(II)Z"⟩, 29) := ⟨⟨by decide +kernel, by decide +kernel⟩, List.mem_of_getElem? (i := 776) (by decide +kernel), List.mem_of_getElem? (i := 920) (by decide +kernel), List.mem_of_getElem? (i := 921) (by decide +kernel)⟩
theorem lw_p37 : lw_okq (⟨"FarStoreModel", "did", "(IIJI)V"⟩, 29) := ⟨⟨by decide +kernel, by decide +kernel⟩, List.mem_of_getElem? (i := 776) (by decide +kernel), List.mem_of_getElem? (i := 928) (by decide +kernel), List.mem_of_getElem? (i := 929) (by decide +kernel)⟩
theorem lw_p38 : lw_okq (⟨"FarStoreModel", "countOf", "(IIJ)I"⟩, 29) := ⟨⟨by decide +kernel, by decide +kernel⟩, List.mem_of_getElem? (i := 776) (by decide +kernel), List.mem_of_getElem? (i := 940) (by decide +kernel), List.mem_of_getElem? (i := 941) (by decide +kernel)⟩
theorem lw_p39 : lw_okq (⟨"FarStoreModel", "no", "(I)I"⟩, 29) := ⟨⟨by decide +kernel, by decide +kernel⟩, List.mem_of_getElem? (i := 776) (by decide +kernel), List.mem_of_getElem? (i := 950) (by decide +kernel), List.mem_of_getElem? (i := 951) (by decide +kernel)⟩
theorem lw_p40 : lw_okq (⟨"FarStoreModel", "commits", "(I)V"⟩, 29) := ⟨⟨by decide +kernel, by decide +kernel⟩, List.mem_of_getElem? (i := 776) (by decide +kernel), List.mem_of_getElem? (i := 958) (by decide +kernel), List.mem_of_getElem? (i := 959) (by decide +kernel)⟩
theorem lw_p41 : lw_okq (⟨"FarStoreModel", "unlock", "(II)V"⟩, 29) := ⟨⟨by decide +kernel, by decide +kernel⟩, List.mem_of_getElem? (i := 776) (by decide +kernel), List.mem_of_getElem? (i := 962) (by decide +kernel), List.mem_of_getElem? (i := 963) (by decide +kernel)⟩
theorem lw_p42 : lw_okq (⟨"FarStoreModel", "send", "(IIII)V"⟩, 29) := ⟨⟨by decide +kernel, by decide +kernel⟩, List.mem_of_getElem? (i := 776) (by decide +kernel), List.mem_of_getElem? (i := 966) (by decide +kernel), List.mem_of_getElem? (i := 967) (by decide +kernel)⟩
theorem lw_p43 : lw_okq (⟨"FarStoreModel", "release", "(I)V"⟩, 29) := ⟨⟨by decide +kernel, by decide +kernel⟩, List.mem_of_getElem? (i := 776) (by decide +kernel), List.mem_of_getElem? (i := 970) (by decide +kernel), List.mem_of_getElem? (i := 971) (by decide +kernel)⟩
theorem lw_p44 : lw_okq (⟨"FarStoreModel", "canBe", "(II)Z"⟩, 29) := ⟨⟨by decide +kernel, by decide +kernel⟩, List.mem_of_getElem? (i := 776) (by decide +kernel), List.mem_of_getElem? (i := 974) (by decide +kernel), List.mem_of_getElem? (i := 975) (by decide +kernel)⟩
theorem lw_p45 : lw_okq (⟨"FarStoreModel", "anyConflict", "(II)Z"⟩, 29) := ⟨⟨by decide +kernel, by decide +kernel⟩, List.mem_of_getElem? (i := 776) (by decide +kernel), List.mem_of_getElem? (i := 978) (by decide +kernel), List.mem_of_getElem? (i := 979) (by decide +kernel)⟩
theorem lw_p46 : lw_okq (⟨"FarStoreModel", "conflict", "(II)Z"⟩, 29) := ⟨⟨by decide +kernel, by decide +kernel⟩, List.mem_of_getElem? (i := 776) (by decide +kernel), List.mem_of_getElem? (i := 982) (by decide +kernel), List.mem_of_getElem? (i := 983) (by decide +kernel)⟩
theorem lw_p47 : lw_okq (⟨"FarStoreModel", "locks", "(II)V"⟩, 29) := ⟨⟨by decide +kernel, by decide +kernel⟩, List.mem_of_getElem? (i := 776) (by decide +kernel), List.mem_of_getElem? (i := 986) (by decide +kernel), List.mem_of_getElem? (i := 987) (by decide +kernel)⟩
def lw_privs_3 : List (MethodName × Nat) := [(⟨"FarStoreModel", "isTran", "(I)Z"⟩, 29), (⟨"FarStoreModel", "isObject", "(I)Z"⟩, 29), (⟨"FarStoreModel", "wrote", "(II)Z"⟩, 29), (⟨"FarStoreModel", "lastOf", "(II)J"⟩, 29), (⟨"FarStoreModel", "visible", "(II)Z"⟩, 29), (⟨"FarStoreModel", "did", "(IIJI)V"⟩, 29), (⟨"FarStoreModel", "countOf", "(IIJ)I"⟩, 29), (⟨"FarStoreModel", "no", "(I)I"⟩, 29), (⟨"FarStoreModel", "commits", "(I)V"⟩, 29), (⟨"FarStoreModel", "unlock", "(II)V"⟩, 29), (⟨"FarStoreModel", "send", "(IIII)V"⟩, 29), (⟨"FarStoreModel", "release", "(I)V"⟩, 29), (⟨"FarStoreModel", "canBe", "(II)Z"⟩, 29), (⟨"FarStoreModel", "anyConflict", "(II)Z"⟩, 29), (⟨"FarStoreModel", "conflict", "(II)Z"⟩, 29), (⟨"FarStoreModel", "locks", "(II)V"⟩, 29)]
theorem lw_r3 : ∀ q ∈ lw_privs_3, lw_okq q := List.forall_mem_cons.mpr ⟨lw_p32, List.forall_mem_cons.mpr ⟨lw_p33, List.forall_mem_cons.mpr ⟨lw_p34, List.forall_mem_cons.mpr ⟨lw_p35, List.forall_mem_cons.mpr ⟨lw_p36, List.forall_mem_cons.mpr ⟨lw_p37, List.forall_mem_cons.mpr ⟨lw_p38, List.forall_mem_cons.mpr ⟨lw_p39, List.forall_mem_cons.mpr ⟨lw_p40, List.forall_mem_cons.mpr ⟨lw_p41, List.forall_mem_cons.mpr ⟨lw_p42, List.forall_mem_cons.mpr ⟨lw_p43, List.forall_mem_cons.mpr ⟨lw_p44, List.forall_mem_cons.mpr ⟨lw_p45, List.forall_mem_cons.mpr ⟨lw_p46, List.forall_mem_cons.mpr ⟨lw_p47, fun _ h => absurd h List.not_mem_nil⟩⟩⟩⟩⟩⟩⟩⟩⟩⟩⟩⟩⟩⟩⟩⟩
theorem lw_p48 : lw_okq (⟨"FarStoreModel", "writesAt", "(II)Z"⟩, 29) := ⟨⟨by decide +kernel, by decide +kernel⟩, List.mem_of_getElem? (i := 776) (by decide +kernel), List.mem_of_getElem? (i := 990) (by decide +kernel), List.mem_of_getElem? (i := 991) (by decide +kernel)⟩
theorem lw_p49 : lw_okq (⟨"FarStoreModel", "arrives", "(IIII)V"⟩, 29) := ⟨⟨by decide +kernel, by decide +kernel⟩, List.mem_of_getElem? (i := 776) (by decide +kernel), List.mem_of_getElem? (i := 1002) (by decide +kernel), List.mem_of_getElem? (i := 1003) (by decide +kernel)⟩
def lw_privs_4 : List (MethodName × Nat) := [(⟨"FarStoreModel", "writesAt", "(II)Z"⟩, 29), (⟨"FarStoreModel", "arrives", "(IIII)V"⟩, 29)]
theorem lw_r4 : ∀ q ∈ lw_privs_4, lw_okq q := List.forall_mem_cons.mpr ⟨lw_p48, List.forall_mem_cons.mpr ⟨lw_p49, fun _ h => absurd h List.not_mem_nil⟩⟩
def lw_privs : List (MethodName × Nat) := lw_privs_1 ++ (lw_privs_2 ++ (lw_privs_3 ++ (lw_privs_4)))
def lw_tbl : List Cond := k2_sels lw_privs ++ tables_1
theorem lw_privs_ok : ∀ q ∈ lw_privs, lw_okq q := by
  show ∀ q ∈ lw_privs_1 ++ (lw_privs_2 ++ (lw_privs_3 ++ (lw_privs_4))), lw_okq q
  exact List.forall_mem_append.mpr ⟨lw_r1, List.forall_mem_append.mpr ⟨lw_r2, List.forall_mem_append.mpr ⟨lw_r3, lw_r4⟩⟩⟩
end
section
/-! ===== BEGIN exceptions that leave a method, and their catching by the caller (launches without stack traces) ===== -/
section VXA
/-! The laws vx_back, vx_callV, vx_callS, vx_callSW, vx_throw0, vx_throwS follow proofs of the library, with one case more: JvmDerived/Free/Laws.lean (Back.of_free), Shelf42/LK1.lean (callV, callS), Shelf/KitTraced.lean (throwNew0V, throwNewS). -/
/-- where a method has thrown q: the class by its name, the cell, what was written, the world -/
def vx_T (XC : String → State → State → Prop) (st : State) (q : Addr) (t : State) (mc ms : Nat) (free : Addr → Prop) : Prop :=
  ∃ (E : String) (ce : Cell) (L : List Loc), XC E st t ∧ t.heap[q]? = some ce ∧ ce.vm = .none ∧ st.vm.findClass E = some ce.cls ∧ st.WarmedH t.vm ∧ st.sameButNew ({ t with vm := st.vm } : State) L mc ms ∧ ∀ z ∈ L, free z.base
def vx_Q (Qc : Array Value → State → Outcome → State → Prop) (XC : String → State → State → Prop) (mc ms : Nat) (free : Addr → Prop) : Array Value → State → Outcome → State → Prop := fun a st o t =>
  (Qc a st o t ∧ ∃ L, FrameEnd st o t L mc ms ∧ ∀ q ∈ L, free q.base) ∨ ∃ q, o = .threw q ∧ vx_T XC st q t mc ms free
/-- a callee that returns or throws -/
def vx_Met (l : Launch) (y : MethodName) (ws : List Cond) (rm : Room) (Pc : Array Value → State → Prop) (Qc : Array Value → State → Outcome → State → Prop) (XC : String → State → State → Prop) (mc ms : Nat) (free : Addr → Prop) : Prop :=
  MetFree l y (headSpec ws rm) Pc (fun _ _ _ _ _ => True) (vx_Q Qc XC mc ms free)
def vx_Post (XC : String → State → State → Prop) (mc ms : Nat) (free : Addr → Prop) : Pt → Array Value → Addr → Pt → Prop := fun A a q B =>
  ∃ (g : JFrame) (mk : MethodId) (t : State) (L : List Loc) (E : String) (ce : Cell), B.U.heap = t.heap ∧ B.U.vm = t.vm ∧ XC E (A.U.calling g mk a) t ∧ t.heap[q]? = some ce ∧ ce.vm = .none ∧ A.U.vm.findClass E = some ce.cls ∧ B.locs = A.locs ++ L ∧ (∀ z ∈ L, free z.base) ∧ B.cells = A.cells + mc ∧ B.slots = A.slots + ms
def vx_Back (l : Launch) (R : Room) (p : Program) (e : Env) (below : List Frame) (s : State) (sargs : Array Value) (y : MethodName) (len W9 : Nat)
    (Pre : Pt → Array Value → Prop) (Post : Pt → Array Value → Option Value → Pt → Prop) (PostX : Pt → Array Value → Addr → Pt → Prop) : Prop :=
  ∀ (m : MethodId) (meth : Method) (c : Code) (A : Pt) (g : JFrame) (ig : Instr) (mk : MethodId) (a : Array Value),
    Stand p l e R s m sargs below meth c A.U A.locs A.cells A.slots → g.method = m → g.locals.size = c.maxLocals → decode c.code g.pc = .ok (ig, len) →
    2 * g.monitorRoom + (g.stack.map fun v => v.category).sum ≤ W9 → A.U.methodNamed? y = some mk → Pre A a →
    (∃ (v : Option Value) (B : Pt), Stand p l e R s m sargs below meth c B.U B.locs B.cells B.slots ∧ Post A a v B ∧
      Steps p.tables e below (doInvoke e (A.U.setTop g) [] mk a).1 (B.U.setTop { g with pc := g.pc + len, stack := v.toList ++ g.stack })) ∨
    (∃ (q : Addr) (B : Pt), Stand p l e R s m sargs below meth c B.U B.locs B.cells B.slots ∧ PostX A a q B ∧
      Steps p.tables e below (doInvoke e (A.U.setTop g) [] mk a).1 ((B.U.setTop g).pushFrame (.throwing q)))
section Payer
variable {l : Launch} {R : Room} {p : Program} {e : Env} {below : List Frame} {s : State} {sargs : Array Value} {y : MethodName} {len W9 : Nat}
theorem vx_back {ws : List Cond} {rm : Room} {Pc : Array Value → State → Prop} {Qc : Array Value → State → Outcome → State → Prop} {XC : String → State → State → Prop} {mc ms : Nat} {free : Addr → Prop} {bytes : ByteArray} {maxL : Nat} {ret : Option FieldType}
    (hM : vx_Met l y ws rm Pc Qc XC mc ms free) (hblind : FrameBlind Pc) (hrc : rm.cells = mc) (hrs : rm.slots = ms)
    (hframes : rm.frames + 1 ≤ R.frames) (hlocals : W9 + (maxL + 11) + rm.locals ≤ R.locals)
    (hws : ∀ w ∈ ws, ∀ a' U, s.WarmedH U.vm → w.before a' U = true) (hcode : Cond.code y bytes maxL ret ∈ ws) (hinit : ∀ a' U, s.WarmedH U.vm → (Cond.initialized y.cls).before a' U = true) :
    vx_Back l R p e below s sargs y len W9 (PreOf R mc ms Pc) (PostOf Qc mc ms free) (vx_Post XC mc ms free) := by
  intro m meth c A g ig mk a X hg hsize hdg hW hn hp
  have h1 : (headSpec ws rm).pre.before a A.U = true := atoms_intro fun w hw => hws w hw _ _ X.warmed
  have h2 : (Cond.code y bytes maxL ret).before a A.U = true := hws _ hcode _ _ X.warmed
  have h3 : (Cond.initialized y.cls).before a A.U = true := hinit _ _ X.warmed
  have h4 : A.cells + (headSpec ws rm).room.cells ≤ R.cells := by rw [show (headSpec ws rm).room.cells = mc from hrc]; exact hp.1
  have h5 : A.slots + (headSpec ws rm).room.slots ≤ R.slots := by rw [show (headSpec ws rm).room.slots = ms from hrs]; exact hp.2.1
  have hPc : Pc a (A.U.calling g mk a) := hblind _ _ _ _ hp.2.2
  obtain ⟨U, Ls, c0, s0⟩ := A
  dsimp only [Pt.U, Pt.locs, Pt.cells, Pt.slots] at h1 h2 h3 h4 h5 X hn hPc ⊢
  obtain ⟨methY, cY, hmY, hcY, -, hlY, -, -, -, -⟩ := Cond.code_spec hn h2
  obtain ⟨kY, hkY, -⟩ := className_of_methodNamed hn
  have hinitY : kY.init = .initialized := Cond.initialized_spec (findClass_of_methodNamed hn) hkY h3
  have h : At U g.method c below := by rw [hg]; exact X.here
  have hlocals9 : W9 + (maxL + 11) + (headSpec ws rm).room.locals ≤ R.locals := hlocals
  have happ : (headSpec ws rm).appliesLoose y e.platform (U.calling g mk a) = true :=
    Spec.appliesLoose_calling (g := g) h hdg hn hkY hinitY
      (X.room_calling (g := g) (R' := (headSpec ws rm).room) hsize hmY hcY hframes (by rw [hlY]; omega) h4 h5) h1
  obtain ⟨mid, hmid⟩ := h.above
  have hfr : (U.setTop g).frames = (.java g :: mid) ++ below := by rw [State.frames_setTop' g h.top, hmid]; rfl
  obtain ⟨o, s₂, hsteps, -, hend, hq⟩ := Steps.callFree hM p X.admits X.cas X.clock (acts := []) hfr happ hPc trivial
  have hq' : vx_Q Qc XC mc ms free a (U.calling g mk a) o s₂ := hq
  rw [State.frames_setTop' g h.top] at hend
  obtain ⟨g₀, hg0⟩ := Option.isSome_iff_exists.mp h.top
  obtain ⟨r, hr⟩ := State.topJava?_eq_some.mp hg0
  have hr' : (({ U with heap := s₂.heap, slotsUsed := s₂.slotsUsed } : State).setVm s₂.vm).frames = .java g₀ :: r := hr
  rcases hq' with ⟨hqc, L, hfe, hL⟩ | ⟨q, rfl, E, ce, L, hx, hce, hcv, hcl, hW₂, hsm, hL⟩
  · obtain ⟨⟨v, rfl⟩, hW₂, e2, q2, q3, q4, q5, q6⟩ := id hfe
    have e3 : s₂ = ({ (U.calling g mk a).setFrames s₂.frames with heap := s₂.heap, slotsUsed := s₂.slotsUsed } : State).setVm s₂.vm := by
      have : s₂ = ({ s₂ with vm := (U.calling g mk a).vm } : State).setVm s₂.vm := rfl
      rw [e2] at this
      exact this
    obtain ⟨c₂, i₂, len₂, hc₂, hd₂, hf₂⟩ := hend
    have hW' : U.WarmedH s₂.vm := hW₂
    have hcc : c₂ = c := by
      have h1 : s₂.code? g.method = U.code? g.method := by
        rw [State.code?_eq, State.code?_eq, hW'.alike.method?]
      exact Option.some.inj (hc₂.symm.trans (h1.trans h.code))
    subst hcc
    have hlen : len₂ = len := by rw [hdg] at hd₂; cases hd₂; rfl
    subst hlen
    have hs₂ : s₂ = (({ U with heap := s₂.heap, slotsUsed := s₂.slotsUsed } : State).setVm s₂.vm).setTop { g with pc := g.pc + len₂, stack := v.toList ++ g.stack } := by
      refine e3.trans ?_
      rw [hf₂, State.calling_eq h.top, State.setFrames_setFrames, State.setTop_of_frames _ hr', hr]
      rfl
    have hsame : U.sameButNew ({ U with heap := s₂.heap, slotsUsed := s₂.slotsUsed } : State) L mc ms := by
      refine ⟨?_, q2, q3, q4, q5, q6⟩
      obtain ⟨t, ht, -⟩ := State.frames_cons hr
      show ({ U with heap := s₂.heap, slotsUsed := s₂.slotsUsed } : State) = { U.setFrames U.frames with heap := s₂.heap, slotsUsed := s₂.slotsUsed }
      rw [State.setFrames_self ht]
    subst hg
    refine Or.inl ⟨v, ⟨(({ U with heap := s₂.heap, slotsUsed := s₂.slotsUsed } : State).setVm s₂.vm), Ls ++ L, c0 + mc, s0 + ms⟩,
      ⟨X.admits, X.cas, X.clock, X.frames, X.room, X.hears, X.method, X.code, (X.here.setHeapUsed s₂.heap s₂.slotsUsed).setVm hW'.alike, X.tail, State.WarmedH.trans X.warmed hW', X.limits, X.bytes, X.same.trans (hsame.setVm s.vm)⟩,
      ⟨g, mk, s₂, L, rfl, rfl, hqc, rfl, hL, rfl, rfl⟩, ?_⟩
    show Steps p.tables e below _ ((({ U with heap := s₂.heap, slotsUsed := s₂.slotsUsed } : State).setVm s₂.vm).setTop { g with pc := g.pc + len₂, stack := v.toList ++ g.stack })
    rw [← hs₂]
    exact hsteps
  · obtain ⟨e2, q2, q3, q4, q5, q6⟩ := id hsm
    have e3 : s₂ = ({ (U.calling g mk a).setFrames s₂.frames with heap := s₂.heap, slotsUsed := s₂.slotsUsed } : State).setVm s₂.vm := by
      have : s₂ = ({ s₂ with vm := (U.calling g mk a).vm } : State).setVm s₂.vm := rfl
      rw [e2] at this
      exact this
    have hf₂ : s₂.frames = .throwing q :: .java g :: U.frames.tail := hend
    have hW' : U.WarmedH s₂.vm := hW₂
    have hs₂ : s₂ = ((({ U with heap := s₂.heap, slotsUsed := s₂.slotsUsed } : State).setVm s₂.vm).setTop g).pushFrame (.throwing q) := by
      refine e3.trans ?_
      rw [hf₂, State.calling_eq h.top, State.setFrames_setFrames, State.pushFrame, State.frames_setTop _ hr', State.setTop_of_frames _ hr', State.setFrames_setFrames, hr]
      rfl
    have hsame : U.sameButNew ({ U with heap := s₂.heap, slotsUsed := s₂.slotsUsed } : State) L mc ms := by
      refine ⟨?_, q2, q3, q4, q5, q6⟩
      obtain ⟨t, ht, -⟩ := State.frames_cons hr
      show ({ U with heap := s₂.heap, slotsUsed := s₂.slotsUsed } : State) = { U.setFrames U.frames with heap := s₂.heap, slotsUsed := s₂.slotsUsed }
      rw [State.setFrames_self ht]
    subst hg
    refine Or.inr ⟨q, ⟨(({ U with heap := s₂.heap, slotsUsed := s₂.slotsUsed } : State).setVm s₂.vm), Ls ++ L, c0 + mc, s0 + ms⟩,
      ⟨X.admits, X.cas, X.clock, X.frames, X.room, X.hears, X.method, X.code, (X.here.setHeapUsed s₂.heap s₂.slotsUsed).setVm hW'.alike, X.tail, State.WarmedH.trans X.warmed hW', X.limits, X.bytes, X.same.trans (hsame.setVm s.vm)⟩,
      ⟨g, mk, s₂, L, E, ce, rfl, rfl, hx, hce, hcv, hcl, rfl, hL, rfl, rfl⟩, ?_⟩
    show Steps p.tables e below _ (((({ U with heap := s₂.heap, slotsUsed := s₂.slotsUsed } : State).setVm s₂.vm).setTop g).pushFrame (.throwing q))
    rw [← hs₂]
    exact hsteps
end Payer
section Calls
variable {p : Program} {l : Launch} {e : Env} {R : Room} {s : State} {m : MethodId} {args : Array Value} {below : List Frame} {meth : Method} {c : Code} {T : State} {locs : List Loc} {cells slots : Nat}
theorem vx_callV (X : Stand p l e R s m args below meth c T locs cells slots) (hexec : p.tables.exec = Jvm.exec) {own C : String} {index : Nat} {y : MethodName} {bytes : ByteArray} {maxL : Nat} {ret : Option FieldType}
    (hown : s.vm.findClass own = some m.cls) (hlink : (Cond.methodLink own index y).before args s = true) (hinst : (Cond.instanceMethod y).before args s = true) (hsel : (Cond.selects C y y).before args s = true)
    (hcode : (Cond.code y bytes maxL ret).before args s = true) (hy : y.cls ≠ "java/lang/invoke/MethodHandle" ∧ y.cls ≠ "java/lang/invoke/VarHandle")
    {W9 : Nat} {Pre : Pt → Array Value → Prop} {Post : Pt → Array Value → Option Value → Pt → Prop} {PostX : Pt → Array Value → Addr → Pt → Prop} (hK : vx_Back l R p e below s args y 3 W9 Pre Post PostX)
    {b : Addr} {cellB : Cell} (hcell : T.heap[b]? = some cellB) (hobj : cellB.vm.isStatics = false) (hcls : s.vm.findClass C = some cellB.cls)
    {g : JFrame} (hg : g.method = m) (hsize : g.locals.size = c.maxLocals) {argsL rest : List Value} (hlen : ∀ sig, parseMethodDescriptor y.desc = some sig → argsL.length = sig.parameters.length)
    (hstack : g.stack = argsL.reverse ++ .ref b :: rest) (hW : 2 * g.monitorRoom + (rest.map fun v => v.category).sum ≤ W9) (hdg : decode c.code g.pc = .ok (.invokevirtual index, 3))
    (hpre : ∀ vm₁, s.WarmedH vm₁ → Pre ⟨T.setVm vm₁, locs, cells, slots⟩ (Value.ref b :: argsL).toArray) :
    (∃ (v : Option Value) (vm₁ : Vm) (B : Pt), s.WarmedH vm₁ ∧ Stand p l e R s m args below meth c B.U B.locs B.cells B.slots ∧ Post ⟨T.setVm vm₁, locs, cells, slots⟩ (Value.ref b :: argsL).toArray v B ∧
      ∀ target, Steps p.tables e below (B.U.setTop { g with pc := g.pc + 3, stack := v.toList ++ rest }) target → Steps p.tables e below (T.setTop g) target) ∨
    (∃ (q : Addr) (vm₁ : Vm) (B : Pt), s.WarmedH vm₁ ∧ Stand p l e R s m args below meth c B.U B.locs B.cells B.slots ∧ PostX ⟨T.setVm vm₁, locs, cells, slots⟩ (Value.ref b :: argsL).toArray q B ∧
      Steps p.tables e below (T.setTop g) ((B.U.setTop { g with stack := rest }).pushFrame (.throwing q))) := by
  obtain ⟨mk, methM, hnamed, hmethM, hstM, habM⟩ := Cond.instanceMethod_spec hinst
  obtain ⟨methM', cM, hmethM', -, -, -, -, -, -, hsigM⟩ := Cond.code_spec hnamed hcode
  cases hmethM.symm.trans hmethM'
  obtain ⟨c2, r2, m2, q1, q2, q3, q4, kP, hkP, hkPi⟩ := Cond.selects_spec hsel
  cases hcls.symm.trans q1
  cases (State.methodFound?_of_named hnamed hy).symm.trans q2
  cases hnamed.symm.trans q3
  have hselP : selectMethod e.platform s.vm cellB.cls mk = .method mk := by rw [Launch.admits_selectMethod X.admits]; exact q4
  obtain ⟨vm₁, X₁, hstep₁⟩ := X.invokevirtual hexec hown hlink hnamed hmethM hstM hkP hkPi hy (a := b) (cell := cellB) hcell
    (fun z h => by rw [h] at hobj; cases hobj) hselP hmethM habM hkP hkPi (g := g) hg (argsL := argsL) (rest := rest) (hlen _ hsigM) hstack hdg
  rcases hK m meth c ⟨T.setVm vm₁, locs, cells, slots⟩ { g with stack := rest } (.invokevirtual index) mk (Value.ref b :: argsL).toArray X₁ hg hsize hdg hW (X₁.named hnamed) (hpre vm₁ X₁.warmed) with ⟨v, B, X', hpost, hsteps⟩ | ⟨q, B, X', hpost, hsteps⟩
  · exact Or.inl ⟨v, vm₁, B, X₁.warmed, X', hpost, fun target h => hstep₁ _ fun acts => by rw [doInvoke_state]; exact hsteps.trans h⟩
  · exact Or.inr ⟨q, vm₁, B, X₁.warmed, X', hpost, hstep₁ _ fun acts => by rw [doInvoke_state]; exact hsteps⟩
theorem vx_callS (X : Stand p l e R s m args below meth c T locs cells slots) (hexec : p.tables.exec = Jvm.exec) {own : String} {index : Nat} {y : MethodName} {bytes : ByteArray} {maxL : Nat} {ret : Option FieldType}
    (hown : s.vm.findClass own = some m.cls) (hlink : (Cond.methodLink own index y).before args s = true) (hstat : (Cond.static y).before args s = true) (hinit : (Cond.initialized y.cls).before args s = true)
    (hcode : (Cond.code y bytes maxL ret).before args s = true) (hy : y.cls ≠ "java/lang/invoke/MethodHandle" ∧ y.cls ≠ "java/lang/invoke/VarHandle")
    {W9 : Nat} {Pre : Pt → Array Value → Prop} {Post : Pt → Array Value → Option Value → Pt → Prop} {PostX : Pt → Array Value → Addr → Pt → Prop} (hK : vx_Back l R p e below s args y 3 W9 Pre Post PostX)
    {g : JFrame} (hg : g.method = m) (hsize : g.locals.size = c.maxLocals) {argsL rest : List Value} (hlen : ∀ sig, parseMethodDescriptor y.desc = some sig → argsL.length = sig.parameters.length)
    (hstack : g.stack = argsL.reverse ++ rest) (hW : 2 * g.monitorRoom + (rest.map fun v => v.category).sum ≤ W9) (hdg : decode c.code g.pc = .ok (.invokestatic index, 3))
    (hpre : ∀ vm₁, s.WarmedH vm₁ → Pre ⟨T.setVm vm₁, locs, cells, slots⟩ argsL.toArray) :
    (∃ (v : Option Value) (vm₁ : Vm) (B : Pt), s.WarmedH vm₁ ∧ Stand p l e R s m args below meth c B.U B.locs B.cells B.slots ∧ Post ⟨T.setVm vm₁, locs, cells, slots⟩ argsL.toArray v B ∧
      ∀ target, Steps p.tables e below (B.U.setTop { g with pc := g.pc + 3, stack := v.toList ++ rest }) target → Steps p.tables e below (T.setTop g) target) ∨
    (∃ (q : Addr) (vm₁ : Vm) (B : Pt), s.WarmedH vm₁ ∧ Stand p l e R s m args below meth c B.U B.locs B.cells B.slots ∧ PostX ⟨T.setVm vm₁, locs, cells, slots⟩ argsL.toArray q B ∧
      Steps p.tables e below (T.setTop g) ((B.U.setTop { g with stack := rest }).pushFrame (.throwing q))) := by
  obtain ⟨mk, hnamed⟩ := Cond.code_named hcode
  obtain ⟨methM, cM, hmethM, -, -, -, -, -, -, hsigM⟩ := Cond.code_spec hnamed hcode
  have hstatic : methM.isStatic = true := Cond.static_spec hnamed hmethM hstat
  obtain ⟨kP, hkP, -⟩ := className_of_methodNamed hnamed
  have hinitP : kP.init = .initialized := Cond.initialized_spec (findClass_of_methodNamed hnamed) hkP hinit
  obtain ⟨vm₁, X₁, hstep₁⟩ := X.invokestatic hexec hown hlink hnamed hmethM hstatic hkP hinitP hy (g := g) hg (argsL := argsL) (rest := rest) (hlen _ hsigM) hstack hdg
  rcases hK m meth c ⟨T.setVm vm₁, locs, cells, slots⟩ { g with stack := rest } (.invokestatic index) mk argsL.toArray X₁ hg hsize hdg hW (X₁.named hnamed) (hpre vm₁ X₁.warmed) with ⟨v, B, X', hpost, hsteps⟩ | ⟨q, B, X', hpost, hsteps⟩
  · exact Or.inl ⟨v, vm₁, B, X₁.warmed, X', hpost, fun target h => hstep₁ _ fun acts => by rw [doInvoke_state]; exact hsteps.trans h⟩
  · exact Or.inr ⟨q, vm₁, B, X₁.warmed, X', hpost, hstep₁ _ fun acts => by rw [doInvoke_state]; exact hsteps⟩
end Calls
theorem vx_cls {s : State} {T : State} {vm₁ : Vm} {E : String} {k : ClassId} (hW : s.WarmedH vm₁) (h : (T.setVm vm₁).vm.findClass E = some k) : s.vm.findClass E = some k := by
  have h1 : vm₁.findClass E = some k := h
  rw [hW.alike.findClass] at h1
  exact h1
/-- the method's frame g, with q thrown over it -/
def vx_W (p : Program) (l : Launch) (e : Env) (R : Room) (s : State) (m : MethodId) (args : Array Value) (below : List Frame) (meth : Method) (c : Code) (H : Heap) (locs : List Loc) (cells slots : Nat) (Q : State → Prop) (g : JFrame) (q : Addr) : Prop :=
  ∀ T : State, T.heap = H → Stand p l e R s m args below meth c T locs cells slots → ∃ t, Steps p.tables e below ((T.setTop g).pushFrame (.throwing q)) t ∧ Q t
def vx_Run (p : Program) (l : Launch) (e : Env) (R : Room) (s : State) (m : MethodId) (args : Array Value) (below : List Frame) (meth : Method) (c : Code) (H : Heap) (locs : List Loc) (cells slots mc ms : Nat) (g : JFrame) (rest : List Value) (Qa : State → Outcome → State → Prop) (XC : String → State → State → Prop) (free : Addr → Prop) : Prop :=
  ∀ T : State, T.heap = H → Stand p l e R s m args below meth c T locs cells slots →
    (∃ (v : Option Value) (st₀ t T' : State) (L : List Loc), st₀.heap = H ∧ Stand p l e R s m args below meth c T' (locs ++ L) (cells + mc) (slots + ms) ∧ (∀ q ∈ L, free q.base) ∧ T'.heap = t.heap ∧ T'.vm = t.vm ∧ Qa st₀ (.returned v) t ∧
      Goes p e below T g T' { g with pc := g.pc + 3, stack := v.toList ++ rest }) ∨
    (∃ (q : Addr) (st₀ t T' : State) (L : List Loc) (E : String) (ce : Cell), st₀.heap = H ∧ Stand p l e R s m args below meth c T' (locs ++ L) (cells + mc) (slots + ms) ∧ (∀ z ∈ L, free z.base) ∧ T'.heap = t.heap ∧ T'.vm = t.vm ∧ XC E st₀ t ∧ t.heap[q]? = some ce ∧ ce.vm = .none ∧ s.vm.findClass E = some ce.cls ∧
      Steps p.tables e below (T.setTop g) ((T'.setTop { g with stack := rest }).pushFrame (.throwing q)))
def vx_X {S : Type} (px : S → Prop) (B : String → S → State → Prop) (A : Nat → Prop) : String → State → State → Prop := fun E st t => ∃ u : S, px u ∧ B E u t ∧ va_F A st t
section Runs
variable {p : Program} {l : Launch} {e : Env} {R : Room} {s : State} {m : MethodId} {args : Array Value} {below : List Frame} {meth : Method} {c : Code} {H : Heap} {locs : List Loc} {cells slots : Nat}
variable {y : MethodName} {bytes cc : ByteArray} {maxL nL mc ms n index : Nat} {ret : Option FieldType} {ws : List Cond} {rm : Room} {Pc : Array Value → State → Prop} {Qc : Array Value → State → Outcome → State → Prop} {XC : String → State → State → Prop} {free : Addr → Prop} {Ts : List Cond} {own C : String} {b : Addr} {As rest : List Value} {g : JFrame}
theorem vx_callBack (cb : CallB R s args own index y bytes maxL ret ws rm mc ms n) (hM : vx_Met l y ws rm Pc Qc XC mc ms free) (hbl : FrameBlind Pc) : vx_Back l R p e below s args y 3 8 (PreOf R mc ms Pc) (PostOf Qc mc ms free) (vx_Post XC mc ms free) := by
  obtain ⟨hrc, hrs, hfr, hlo, hws, hcw, -, hini, -⟩ := cb
  exact vx_back (bytes := bytes) (maxL := maxL) (ret := ret) hM hbl hrc hrs hfr hlo hws hcw (fun a' U hW => word_at hW (Or.inl (by first | rfl | simp [Cond.onTables, Cond.keeps, Cond.steady])) hini)
theorem vx_runV (S : CallFix p m c cc nL s args Ts own) (hM : vx_Met l y ws rm Pc Qc XC mc ms free) (cw : CallW R s args own C index y bytes maxL ret ws rm mc ms n) (hp : PreV s H C b Pc As)
    (hg : g.method = m) (hn : As.length = n) (hsize : g.locals.size = nL) (hstack : g.stack = As.reverse ++ .ref b :: rest) (hW : 2 * g.monitorRoom + (rest.map fun v => v.category).sum ≤ 8) (hdg : decode cc g.pc = .ok (.invokevirtual index, 3)) (hf : cells + mc ≤ R.cells ∧ slots + ms ≤ R.slots) :
    vx_Run p l e R s m args below meth c H locs cells slots mc ms g rest (Qc (Value.ref b :: As).toArray) XC free := by
  have hK : vx_Back l R p e below s args y 3 8 (PreOf R mc ms Pc) (PostOf Qc mc ms free) (vx_Post XC mc ms free) := vx_callBack cw.1 hM hp.1
  obtain ⟨⟨-, -, -, -, -, -, hcode, -, hy, hlen, hl⟩, hin, hse⟩ := cw
  obtain ⟨hx, hb, hml, ho, -⟩ := S
  obtain ⟨-, ⟨cellB, hcB, hoB, hclB⟩, hPc⟩ := hp
  intro T hT X
  rcases vx_callV X hx (C := C) (bytes := bytes) (maxL := maxL) (ret := ret) ho hl hin hse hcode hy hK (by rw [hT]; exact hcB) hoB hclB hg (hsize.trans hml.symm) (argsL := As) (rest := rest) (fun sig h => hn.trans (hlen sig h)) hstack hW (by rw [hb]; exact hdg)
    (fun vm₁ hW₁ => ⟨hf.1, hf.2, hPc (T.setVm vm₁) hT hW₁⟩) with ⟨v, vm₁, ⟨U', l2, c2, s2⟩, hW₁, X', ⟨g', mk, t, L, e1, e2, hq, h1, hL, h2, h3⟩, st⟩ | ⟨q, vm₁, ⟨U', l2, c2, s2⟩, hW₁, X', ⟨g', mk, t, L, E, ce, e1, e2, hq, hce, hcv, hcl, h1, hL, h2, h3⟩, st⟩
  · dsimp only [Pt.U, Pt.locs, Pt.cells, Pt.slots] at X' e1 e2 h1 h2 h3 st
    subst h1; subst h2; subst h3
    exact Or.inl ⟨v, (T.setVm vm₁).calling g' mk (Value.ref b :: As).toArray, t, U', L, hT, X', hL, e1, e2, hq, st⟩
  · dsimp only [Pt.U, Pt.locs, Pt.cells, Pt.slots] at X' e1 e2 h1 h2 h3 st hcl
    subst h1; subst h2; subst h3
    exact Or.inr ⟨q, (T.setVm vm₁).calling g' mk (Value.ref b :: As).toArray, t, U', L, E, ce, hT, X', hL, e1, e2, hq, hce, hcv, vx_cls hW₁ hcl, st⟩
theorem vx_runS (S : CallFix p m c cc nL s args Ts own) (hM : vx_Met l y ws rm Pc Qc XC mc ms free) (cw : CallB R s args own index y bytes maxL ret ws rm mc ms n ∧ (Cond.static y).before args s = true) (hp : PreS s H Pc As)
    (hg : g.method = m) (hn : As.length = n) (hsize : g.locals.size = nL) (hstack : g.stack = As.reverse ++ rest) (hW : 2 * g.monitorRoom + (rest.map fun v => v.category).sum ≤ 8) (hdg : decode cc g.pc = .ok (.invokestatic index, 3)) (hf : cells + mc ≤ R.cells ∧ slots + ms ≤ R.slots) :
    vx_Run p l e R s m args below meth c H locs cells slots mc ms g rest (Qc As.toArray) XC free := by
  have hK : vx_Back l R p e below s args y 3 8 (PreOf R mc ms Pc) (PostOf Qc mc ms free) (vx_Post XC mc ms free) := vx_callBack cw.1 hM hp.1
  obtain ⟨⟨-, -, -, -, -, -, hcode, hini, hy, hlen, hl⟩, hstt⟩ := cw
  obtain ⟨hx, hb, hml, ho, -⟩ := S
  intro T hT X
  rcases vx_callS X hx (bytes := bytes) (maxL := maxL) (ret := ret) ho hl hstt hini hcode hy hK hg (hsize.trans hml.symm) (argsL := As) (rest := rest) (fun sig h => hn.trans (hlen sig h)) hstack hW (by rw [hb]; exact hdg)
    (fun vm₁ hW₁ => ⟨hf.1, hf.2, hp.2 (T.setVm vm₁) hT hW₁⟩) with ⟨v, vm₁, ⟨U', l2, c2, s2⟩, hW₁, X', ⟨g', mk, t, L, e1, e2, hq, h1, hL, h2, h3⟩, st⟩ | ⟨q, vm₁, ⟨U', l2, c2, s2⟩, hW₁, X', ⟨g', mk, t, L, E, ce, e1, e2, hq, hce, hcv, hcl, h1, hL, h2, h3⟩, st⟩
  · dsimp only [Pt.U, Pt.locs, Pt.cells, Pt.slots] at X' e1 e2 h1 h2 h3 st
    subst h1; subst h2; subst h3
    exact Or.inl ⟨v, (T.setVm vm₁).calling g' mk As.toArray, t, U', L, hT, X', hL, e1, e2, hq, st⟩
  · dsimp only [Pt.U, Pt.locs, Pt.cells, Pt.slots] at X' e1 e2 h1 h2 h3 st hcl
    subst h1; subst h2; subst h3
    exact Or.inr ⟨q, (T.setVm vm₁).calling g' mk As.toArray, t, U', L, E, ce, hT, X', hL, e1, e2, hq, hce, hcv, vx_cls hW₁ hcl, st⟩
end Runs
section Rows
variable {p : Program} {l : Launch} {e : Env} {R : Room} {s : State} {m : MethodId} {args : Array Value} {below : List Frame} {meth : Method} {c : Code} {H : Heap} {locs : List Loc} {cells slots : Nat} {Q : State → Prop}
variable {mc ms : Nat} {free : Addr → Prop} {A0 A1 : Nat → Prop} {H0 : Heap} {a : Array Value} {pc : Nat} {ls : Array Slot} {st0 rest : List Value}
theorem vx_keep {st₀ t T' : State} {L : List Loc} (h0 : st₀.heap = H) (e1 : T'.heap = t.heap) (hS : va_S A0 H0 H locs) (hA : ∀ q, q < H.size → A1 q → A0 q) (hf : ∀ q, free q → A0 q) (hL : ∀ q ∈ L, free q.base) (hF : va_F A1 st₀ t) :
    H.size ≤ T'.heap.size ∧ (∀ q : Nat, q < H.size → ¬ A1 q → T'.heap[q]? = H[q]?) ∧ va_S A0 H0 T'.heap (locs ++ L) := by
  obtain ⟨hz, hk⟩ := hF
  rw [h0] at hz hk
  exact ⟨by rw [e1]; exact hz, fun q h1 h2 => by rw [e1]; exact hk q h1 h2,
    ⟨Nat.le_trans hS.1 (by rw [e1]; exact hz), fun q h1 h2 => by rw [e1, hk q (Nat.lt_of_lt_of_le h1 hS.1) (fun z => h2 (hA q (Nat.lt_of_lt_of_le h1 hS.1) z))]; exact hS.2.1 q h1 h2, fun q hq => by
      rcases List.mem_append.mp hq with h | h
      · exact hS.2.2 q h
      · exact hf _ (hL q h)⟩⟩
theorem vx_calli {S SX : Type} {post : Int32 → S → Prop} {px : SX → Prop} {B : S → State → Prop} {BX : String → SX → State → Prop} {AX : Nat → Prop} (hr : vx_Run p l e R s m args below meth c H locs cells slots mc ms (F0 m pc ls st0) rest (va_Qi post B A1 a) (vx_X px BX AX) free) (hS : va_S A0 H0 H locs) (hA : ∀ q, q < H.size → A1 q → A0 q) (hf : ∀ q, free q → A0 q) (hAX : ∀ q, q < H.size → AX q → A0 q)
    (kx : ∀ (E : String) (ce : Cell) (q9 : Addr) (u : SX) (t : State) (H1 : Heap) (locs1 : List Loc), t.heap = H1 → s.vm.Alike t.vm → px u → BX E u t → H.size ≤ H1.size → (∀ q : Nat, q < H.size → ¬ AX q → H1[q]? = H[q]?) → va_S A0 H0 H1 locs1 → H1[q9]? = some ce → ce.vm = .none → s.vm.findClass E = some ce.cls → vx_W p l e R s m args below meth c H1 locs1 (cells + mc) (slots + ms) Q (F0 m pc ls rest) q9)
    (kk : ∀ (r : Int32) (u : S) (t : State) (H1 : Heap) (locs1 : List Loc), t.heap = H1 → s.vm.Alike t.vm → post r u → B u t → H.size ≤ H1.size → (∀ q : Nat, q < H.size → ¬ A1 q → H1[q]? = H[q]?) → va_S A0 H0 H1 locs1 → W p l e R s m args below meth c H1 locs1 (cells + mc) (slots + ms) Q (F0 m (pc + 3) ls (.int r :: rest))) : W p l e R s m args below meth c H locs cells slots Q (F0 m pc ls st0) := by
  intro T hT X
  rcases hr T hT X with ⟨v, st₀, t, T', L, h0, X', hL, e1, e2, ⟨⟨r, u, hv, hp, hb⟩, hF⟩, st⟩ | ⟨q, st₀, t, T', L, E, ce, h0, X', hL, e1, e2, ⟨u, hp, hb, hF⟩, hce, hcv, hcl, st⟩
  · cases hv
    obtain ⟨k1, k2, k3⟩ := vx_keep h0 e1 hS hA hf hL hF
    obtain ⟨t2, a1, b1⟩ := kk r u t T'.heap (locs ++ L) e1.symm (by rw [← e2]; exact X'.warmed.alike) hp hb k1 k2 k3 T' rfl X'
    exact ⟨t2, st t2 a1, b1⟩
  · obtain ⟨k1, k2, k3⟩ := vx_keep h0 e1 hS hAX hf hL hF
    obtain ⟨t2, a1, b1⟩ := kx E ce q u t T'.heap (locs ++ L) e1.symm (by rw [← e2]; exact X'.warmed.alike) hp hb k1 k2 k3 (by rw [e1]; exact hce) hcv hcl T' rfl X'
    exact ⟨t2, st.trans a1, b1⟩
theorem vx_calll {S SX : Type} {post : Int64 → S → Prop} {px : SX → Prop} {B : S → State → Prop} {BX : String → SX → State → Prop} {AX : Nat → Prop} (hr : vx_Run p l e R s m args below meth c H locs cells slots mc ms (F0 m pc ls st0) rest (va_Ql post B A1 a) (vx_X px BX AX) free) (hS : va_S A0 H0 H locs) (hA : ∀ q, q < H.size → A1 q → A0 q) (hf : ∀ q, free q → A0 q) (hAX : ∀ q, q < H.size → AX q → A0 q)
    (kx : ∀ (E : String) (ce : Cell) (q9 : Addr) (u : SX) (t : State) (H1 : Heap) (locs1 : List Loc), t.heap = H1 → s.vm.Alike t.vm → px u → BX E u t → H.size ≤ H1.size → (∀ q : Nat, q < H.size → ¬ AX q → H1[q]? = H[q]?) → va_S A0 H0 H1 locs1 → H1[q9]? = some ce → ce.vm = .none → s.vm.findClass E = some ce.cls → vx_W p l e R s m args below meth c H1 locs1 (cells + mc) (slots + ms) Q (F0 m pc ls rest) q9)
    (kk : ∀ (r : Int64) (u : S) (t : State) (H1 : Heap) (locs1 : List Loc), t.heap = H1 → s.vm.Alike t.vm → post r u → B u t → H.size ≤ H1.size → (∀ q : Nat, q < H.size → ¬ A1 q → H1[q]? = H[q]?) → va_S A0 H0 H1 locs1 → W p l e R s m args below meth c H1 locs1 (cells + mc) (slots + ms) Q (F0 m (pc + 3) ls (.long r :: rest))) : W p l e R s m args below meth c H locs cells slots Q (F0 m pc ls st0) := by
  intro T hT X
  rcases hr T hT X with ⟨v, st₀, t, T', L, h0, X', hL, e1, e2, ⟨⟨r, u, hv, hp, hb⟩, hF⟩, st⟩ | ⟨q, st₀, t, T', L, E, ce, h0, X', hL, e1, e2, ⟨u, hp, hb, hF⟩, hce, hcv, hcl, st⟩
  · cases hv
    obtain ⟨k1, k2, k3⟩ := vx_keep h0 e1 hS hA hf hL hF
    obtain ⟨t2, a1, b1⟩ := kk r u t T'.heap (locs ++ L) e1.symm (by rw [← e2]; exact X'.warmed.alike) hp hb k1 k2 k3 T' rfl X'
    exact ⟨t2, st t2 a1, b1⟩
  · obtain ⟨k1, k2, k3⟩ := vx_keep h0 e1 hS hAX hf hL hF
    obtain ⟨t2, a1, b1⟩ := kx E ce q u t T'.heap (locs ++ L) e1.symm (by rw [← e2]; exact X'.warmed.alike) hp hb k1 k2 k3 (by rw [e1]; exact hce) hcv hcl T' rfl X'
    exact ⟨t2, st.trans a1, b1⟩
theorem vx_callf {S SX : Type} {post : UInt32 → S → Prop} {px : SX → Prop} {B : S → State → Prop} {BX : String → SX → State → Prop} {AX : Nat → Prop} (hr : vx_Run p l e R s m args below meth c H locs cells slots mc ms (F0 m pc ls st0) rest (va_Qf post B A1 a) (vx_X px BX AX) free) (hS : va_S A0 H0 H locs) (hA : ∀ q, q < H.size → A1 q → A0 q) (hf : ∀ q, free q → A0 q) (hAX : ∀ q, q < H.size → AX q → A0 q)
    (kx : ∀ (E : String) (ce : Cell) (q9 : Addr) (u : SX) (t : State) (H1 : Heap) (locs1 : List Loc), t.heap = H1 → s.vm.Alike t.vm → px u → BX E u t → H.size ≤ H1.size → (∀ q : Nat, q < H.size → ¬ AX q → H1[q]? = H[q]?) → va_S A0 H0 H1 locs1 → H1[q9]? = some ce → ce.vm = .none → s.vm.findClass E = some ce.cls → vx_W p l e R s m args below meth c H1 locs1 (cells + mc) (slots + ms) Q (F0 m pc ls rest) q9)
    (kk : ∀ (r : UInt32) (u : S) (t : State) (H1 : Heap) (locs1 : List Loc), t.heap = H1 → s.vm.Alike t.vm → post r u → B u t → H.size ≤ H1.size → (∀ q : Nat, q < H.size → ¬ A1 q → H1[q]? = H[q]?) → va_S A0 H0 H1 locs1 → W p l e R s m args below meth c H1 locs1 (cells + mc) (slots + ms) Q (F0 m (pc + 3) ls (.float r :: rest))) : W p l e R s m args below meth c H locs cells slots Q (F0 m pc ls st0) := by
  intro T hT X
  rcases hr T hT X with ⟨v, st₀, t, T', L, h0, X', hL, e1, e2, ⟨⟨r, u, hv, hp, hb⟩, hF⟩, st⟩ | ⟨q, st₀, t, T', L, E, ce, h0, X', hL, e1, e2, ⟨u, hp, hb, hF⟩, hce, hcv, hcl, st⟩
  · cases hv
    obtain ⟨k1, k2, k3⟩ := vx_keep h0 e1 hS hA hf hL hF
    obtain ⟨t2, a1, b1⟩ := kk r u t T'.heap (locs ++ L) e1.symm (by rw [← e2]; exact X'.warmed.alike) hp hb k1 k2 k3 T' rfl X'
    exact ⟨t2, st t2 a1, b1⟩
  · obtain ⟨k1, k2, k3⟩ := vx_keep h0 e1 hS hAX hf hL hF
    obtain ⟨t2, a1, b1⟩ := kx E ce q u t T'.heap (locs ++ L) e1.symm (by rw [← e2]; exact X'.warmed.alike) hp hb k1 k2 k3 (by rw [e1]; exact hce) hcv hcl T' rfl X'
    exact ⟨t2, st.trans a1, b1⟩
theorem vx_calld {S SX : Type} {post : UInt64 → S → Prop} {px : SX → Prop} {B : S → State → Prop} {BX : String → SX → State → Prop} {AX : Nat → Prop} (hr : vx_Run p l e R s m args below meth c H locs cells slots mc ms (F0 m pc ls st0) rest (va_Qd post B A1 a) (vx_X px BX AX) free) (hS : va_S A0 H0 H locs) (hA : ∀ q, q < H.size → A1 q → A0 q) (hf : ∀ q, free q → A0 q) (hAX : ∀ q, q < H.size → AX q → A0 q)
    (kx : ∀ (E : String) (ce : Cell) (q9 : Addr) (u : SX) (t : State) (H1 : Heap) (locs1 : List Loc), t.heap = H1 → s.vm.Alike t.vm → px u → BX E u t → H.size ≤ H1.size → (∀ q : Nat, q < H.size → ¬ AX q → H1[q]? = H[q]?) → va_S A0 H0 H1 locs1 → H1[q9]? = some ce → ce.vm = .none → s.vm.findClass E = some ce.cls → vx_W p l e R s m args below meth c H1 locs1 (cells + mc) (slots + ms) Q (F0 m pc ls rest) q9)
    (kk : ∀ (r : UInt64) (u : S) (t : State) (H1 : Heap) (locs1 : List Loc), t.heap = H1 → s.vm.Alike t.vm → post r u → B u t → H.size ≤ H1.size → (∀ q : Nat, q < H.size → ¬ A1 q → H1[q]? = H[q]?) → va_S A0 H0 H1 locs1 → W p l e R s m args below meth c H1 locs1 (cells + mc) (slots + ms) Q (F0 m (pc + 3) ls (.double r :: rest))) : W p l e R s m args below meth c H locs cells slots Q (F0 m pc ls st0) := by
  intro T hT X
  rcases hr T hT X with ⟨v, st₀, t, T', L, h0, X', hL, e1, e2, ⟨⟨r, u, hv, hp, hb⟩, hF⟩, st⟩ | ⟨q, st₀, t, T', L, E, ce, h0, X', hL, e1, e2, ⟨u, hp, hb, hF⟩, hce, hcv, hcl, st⟩
  · cases hv
    obtain ⟨k1, k2, k3⟩ := vx_keep h0 e1 hS hA hf hL hF
    obtain ⟨t2, a1, b1⟩ := kk r u t T'.heap (locs ++ L) e1.symm (by rw [← e2]; exact X'.warmed.alike) hp hb k1 k2 k3 T' rfl X'
    exact ⟨t2, st t2 a1, b1⟩
  · obtain ⟨k1, k2, k3⟩ := vx_keep h0 e1 hS hAX hf hL hF
    obtain ⟨t2, a1, b1⟩ := kx E ce q u t T'.heap (locs ++ L) e1.symm (by rw [← e2]; exact X'.warmed.alike) hp hb k1 k2 k3 (by rw [e1]; exact hce) hcv hcl T' rfl X'
    exact ⟨t2, st.trans a1, b1⟩
theorem vx_callv {S SX : Type} {post : S → Prop} {px : SX → Prop} {B : S → State → Prop} {BX : String → SX → State → Prop} {AX : Nat → Prop} (hr : vx_Run p l e R s m args below meth c H locs cells slots mc ms (F0 m pc ls st0) rest (va_Qv post B A1 a) (vx_X px BX AX) free) (hS : va_S A0 H0 H locs) (hA : ∀ q, q < H.size → A1 q → A0 q) (hf : ∀ q, free q → A0 q) (hAX : ∀ q, q < H.size → AX q → A0 q)
    (kx : ∀ (E : String) (ce : Cell) (q9 : Addr) (u : SX) (t : State) (H1 : Heap) (locs1 : List Loc), t.heap = H1 → s.vm.Alike t.vm → px u → BX E u t → H.size ≤ H1.size → (∀ q : Nat, q < H.size → ¬ AX q → H1[q]? = H[q]?) → va_S A0 H0 H1 locs1 → H1[q9]? = some ce → ce.vm = .none → s.vm.findClass E = some ce.cls → vx_W p l e R s m args below meth c H1 locs1 (cells + mc) (slots + ms) Q (F0 m pc ls rest) q9)
    (kk : ∀ (u : S) (t : State) (H1 : Heap) (locs1 : List Loc), t.heap = H1 → s.vm.Alike t.vm → post u → B u t → H.size ≤ H1.size → (∀ q : Nat, q < H.size → ¬ A1 q → H1[q]? = H[q]?) → va_S A0 H0 H1 locs1 → W p l e R s m args below meth c H1 locs1 (cells + mc) (slots + ms) Q (F0 m (pc + 3) ls (rest))) : W p l e R s m args below meth c H locs cells slots Q (F0 m pc ls st0) := by
  intro T hT X
  rcases hr T hT X with ⟨v, st₀, t, T', L, h0, X', hL, e1, e2, ⟨⟨u, hv, hp, hb⟩, hF⟩, st⟩ | ⟨q, st₀, t, T', L, E, ce, h0, X', hL, e1, e2, ⟨u, hp, hb, hF⟩, hce, hcv, hcl, st⟩
  · cases hv
    obtain ⟨k1, k2, k3⟩ := vx_keep h0 e1 hS hA hf hL hF
    obtain ⟨t2, a1, b1⟩ := kk u t T'.heap (locs ++ L) e1.symm (by rw [← e2]; exact X'.warmed.alike) hp hb k1 k2 k3 T' rfl X'
    exact ⟨t2, st t2 a1, b1⟩
  · obtain ⟨k1, k2, k3⟩ := vx_keep h0 e1 hS hAX hf hL hF
    obtain ⟨t2, a1, b1⟩ := kx E ce q u t T'.heap (locs ++ L) e1.symm (by rw [← e2]; exact X'.warmed.alike) hp hb k1 k2 k3 (by rw [e1]; exact hce) hcv hcl T' rfl X'
    exact ⟨t2, st.trans a1, b1⟩
/-- caught by the row x of this method's table; the rows ahead don't take it -/
theorem vx_catch {own name : String} {E : String} {ce : Cell} {q : Addr} (hown : s.vm.findClass own = some m.cls) (pre : List ExceptionTableEntry) (x : ExceptionTableEntry) (suf : List ExceptionTableEntry) (hsplit : c.exceptionTable.toList = pre ++ x :: suf)
    (hpass : ∀ z ∈ pre, covers z pc = false ∨ (z.catchType ≠ 0 ∧ ∃ nm : String, (Cond.classLink own z.catchType nm).before args s = true ∧ va_Nc E nm s)) (hx : covers x pc = true) (h0 : x.catchType ≠ 0)
    (hlink : (Cond.classLink own x.catchType name).before args s = true) (hcast : (Cond.castable E name).before args s = true) (hcell : H[q]? = some ce) (hv : ce.vm = .none) (hcl : s.vm.findClass E = some ce.cls)
    (kk : W p l e R s m args below meth c H locs cells slots Q (F0 m x.handlerPc ls [.ref q])) : vx_W p l e R s m args below meth c H locs cells slots Q (F0 m pc ls rest) q := by
  intro T hT X
  have hpl : e.platform.magicAccessors = ({} : Platform).magicAccessors := by rw [X.admits.platform]
  obtain ⟨c3, c4, hc3, hc4, hasg⟩ := Cond.castable_spec hcast
  cases Option.some.inj (hc3.symm.trans hcl)
  obtain ⟨c5, hc5, hcl5⟩ := Cond.classLink_spec hown hlink e.platform hpl
  cases Option.some.inj (hc4.symm.trans hc5)
  obtain ⟨vm', X', st⟩ := X.thenCaughtThrough q (g := F0 m pc ls rest) rfl (Steps.refl _) (by rw [hT]; exact hcell) (by rw [hv]; rfl) (by obtain ⟨k9, h9, -⟩ := Vm.findClass_spec hcl; exact ⟨k9, h9⟩) pre x suf hsplit
    (fun z hz => by
      rcases hpass z hz with h | ⟨hz0, nm, hl1, hn1⟩
      · exact Or.inl h
      · obtain ⟨c6, hc6, hcl6⟩ := Cond.classLink_spec hown hl1 e.platform hpl
        obtain ⟨a8, b8, h1, h2, h3⟩ := hn1
        cases Option.some.inj (h1.symm.trans hcl)
        cases Option.some.inj (h2.symm.trans hc6)
        exact Or.inr ⟨hz0, _, hcl6, h3⟩) hx (Or.inr ⟨h0, c4, hcl5, hasg⟩)
  obtain ⟨t, a1, b1⟩ := kk (T.setVm vm') hT X'
  exact ⟨t, st.trans a1, b1⟩
end Rows
section Ends
variable {p : Program} {l : Launch} {e : Env} {R : Room} {s : State} {m : MethodId} {args : Array Value} {below : List Frame} {meth : Method} {c : Code} {H : Heap} {locs : List Loc} {cells slots : Nat} {Q : State → Prop}
variable {mc ms : Nat} {free : Addr → Prop} {A0 A1 : Nat → Prop} {H0 : Heap} {a : Array Value} {ls : Array Slot} {st0 rest : List Value}
variable {Qc : Array Value → State → Outcome → State → Prop} {XC : String → State → State → Prop}
/-- what a body that may throw owes at its end -/
def vx_MQ (below : List Frame) (Qc : Array Value → State → Outcome → State → Prop) (XC : String → State → State → Prop) (a : Array Value) (s : State) (mc ms : Nat) (free : Addr → Prop) : State → Prop := fun t =>
  ∃ o, t.status = .running ∧ Ended t below o ∧ vx_Q Qc XC mc ms free a s o t
theorem vx_ret {g : JFrame} {mc ms : Nat} (k : W p l e R s m args below meth c H locs cells slots (MQ below Qc args s mc ms free) g) : W p l e R s m args below meth c H locs cells slots (vx_MQ below Qc XC args s mc ms free) g := by
  intro T hT X
  obtain ⟨t, a1, o, b1, b2, b3, b4⟩ := k T hT X
  exact ⟨t, a1, o, b1, b2, Or.inl ⟨b3, b4⟩⟩
/-- not caught here: it goes on to the caller -/
theorem vx_widen {g : JFrame} {q : Addr} {k n : Nat} (h1 : cells ≤ k) (h2 : slots ≤ n) (kk : vx_W p l e R s m args below meth c H locs k n Q g q) : vx_W p l e R s m args below meth c H locs cells slots Q g q := fun T hT X => kk T hT (stand_widen X h1 h2)
theorem vx_out {pc : Nat} {E : String} {ce : Cell} {q : Addr} {mc ms : Nat} (hout : ∀ x ∈ c.exceptionTable.toList, covers x pc = false) (hlocks : meth.locks = false) (hcell : H[q]? = some ce) (hv : ce.vm = .none) (hcl : s.vm.findClass E = some ce.cls)
    (hx : ∀ t : State, t.heap = H → s.vm.Alike t.vm → XC E s t) (hf : ∀ z ∈ locs, free z.base) (hc : cells ≤ mc) (hs : slots ≤ ms) :
    vx_W p l e R s m args below meth c H locs cells slots (vx_MQ below Qc XC args s mc ms free) (F0 m pc ls rest) q := by
  intro T hT X
  obtain ⟨st1, hrun, hend, hW, hsm⟩ := X.leaveThrown q (g := F0 m pc ls rest) rfl rfl rfl hout hlocks
  have hcell9 : (T.setFrames (.throwing q :: below)).heap[q]? = some ce := by
    show T.heap[q]? = some ce
    rw [hT]; exact hcell
  exact ⟨_, st1, .threw q, hrun, hend, Or.inr ⟨q, rfl, E, ce, locs, hx _ hT hW.alike, hcell9, hv, hcl, hW, hsm.mono hc hs, hf⟩⟩
theorem vx_frame {U : State} {k n : Nat} (h : s.sameButNew ({ U with vm := s.vm } : State) locs k n) : s.heap.size ≤ U.heap.size ∧ ∀ q : Nat, q < s.heap.size → (∀ z ∈ locs, z.base ≠ q) → U.heap[q]? = s.heap[q]? := by
  obtain ⟨-, h2, -, -, -, h6⟩ := h
  refine ⟨h2, fun q hq hz => ?_⟩
  obtain ⟨c9, e1, e2, e3, e4⟩ := h6 q _ (Array.getElem?_eq_getElem hq)
  have hs : c9.slots = (s.heap[q]).slots := Array.ext_getElem? fun i => e4 i fun hm => hz _ hm rfl
  have h9 : c9 = s.heap[q] := by
    rw [hs] at e2
    exact e2
  have e5 : U.heap[q]? = some c9 := e1
  rw [e5, h9, Array.getElem?_eq_getElem hq]
/-- the words of a throw but the four that speak of the heap -/
def vx_no (w : Cond) : Bool := decide (w ≠ .isRef (.static Bundle.tN "UNASSIGNED_STACK" Bundle.steD)) && decide (w ≠ .isRef (.static Bundle.tN "SUPPRESSED_SENTINEL" Bundle.listD)) && decide (w ≠ .laysStatic Bundle.tN "UNASSIGNED_STACK" Bundle.steD) && decide (w ≠ .laysStatic Bundle.tN "SUPPRESSED_SENTINEL" Bundle.listD)
def vx_at0 (own : String) (ic : Nat) (X : String) (names : List String) : List Cond := (Bundle.ownAtoms0 own ic X names).filter vx_no
def vx_atS (own : String) (ic : Nat) (X : String) (names : List String) : List Cond := (Bundle.ownAtoms own ic X names).filter vx_no
/-- a word that the tables alone decide, or a good one -/
def vx_ot (w : Cond) : Bool := w.onTables || goodWord w
theorem vx_ot_at {args a' : Array Value} {s U : State} {w : Cond} (hW : s.WarmedH U.vm) (hvm : s.vm = U.vm) (hg : vx_ot w = true) (h : w.before args s = true) : w.before a' U = true := by
  simp only [vx_ot, Bool.or_eq_true] at hg
  rcases hg with hg | hg
  · exact va_tabs hg hvm h
  · exact word_at hW (good_of_word hg) h
/-- a list's words: the good ones out of the method's own list, the others by premises of their own -/
theorem vx_hat {args : Array Value} {s : State} {L B : List Cond} (h1 : ∀ w ∈ L.filter goodWord, w.before args s = true) (h2 : ∀ w ∈ L.filter (fun w => !goodWord w), w ∈ B) (h3 : ∀ w ∈ B, w.before args s = true) : ∀ w ∈ L, w.before args s = true := by
  intro w hw
  by_cases g : goodWord w = true
  · exact h1 w (List.mem_filter.mpr ⟨hw, g⟩)
  · refine h3 w (h2 w (List.mem_filter.mpr ⟨hw, ?_⟩))
    show (!goodWord w) = true
    cases hgw : goodWord w
    · rfl
    · exact absurd hgw g
theorem vx_c {args : Array Value} {s : State} {w : Cond} {B : List Cond} (h : w.before args s = true) (t : ∀ w ∈ B, w.before args s = true) : ∀ w' ∈ w :: B, w'.before args s = true := fun w' h' => (List.mem_cons.mp h').elim (fun e => by rw [e]; exact h) (t w')
theorem vx_n {args : Array Value} {s : State} : ∀ w ∈ ([] : List Cond), w.before args s = true := fun _ h => nomatch h
theorem vx_own {args : Array Value} {s : State} {L : List Cond} (h1 : ∀ w ∈ L.filter vx_no, w.before args s = true)
    (hU : (Cond.isRef (.static Bundle.tN "UNASSIGNED_STACK" Bundle.steD)).before args s = true) (hN : (Cond.isRef (.static Bundle.tN "SUPPRESSED_SENTINEL" Bundle.listD)).before args s = true)
    (lU : (Cond.laysStatic Bundle.tN "UNASSIGNED_STACK" Bundle.steD).before args s = true) (lN : (Cond.laysStatic Bundle.tN "SUPPRESSED_SENTINEL" Bundle.listD).before args s = true) : ∀ w ∈ L, w.before args s = true := by
  intro w hw
  by_cases e1 : w = .isRef (.static Bundle.tN "UNASSIGNED_STACK" Bundle.steD)
  · rw [e1]; exact hU
  · by_cases e2 : w = .isRef (.static Bundle.tN "SUPPRESSED_SENTINEL" Bundle.listD)
    · rw [e2]; exact hN
    · by_cases e3 : w = .laysStatic Bundle.tN "UNASSIGNED_STACK" Bundle.steD
      · rw [e3]; exact lU
      · by_cases e4 : w = .laysStatic Bundle.tN "SUPPRESSED_SENTINEL" Bundle.listD
        · rw [e4]; exact lN
        · exact h1 w (List.mem_filter.mpr ⟨hw, by unfold vx_no; rw [decide_eq_true e1, decide_eq_true e2, decide_eq_true e3, decide_eq_true e4]; rfl⟩)
/-- where a static field lies, its class's statics cell in H -/
def vx_L (C n d : String) (A : Nat → Prop) (U : State) (H : Heap) : Prop := ∃ (c : ClassId) (k : Class) (i : Nat) (f : Field) (a : Nat) (cell : Cell), U.vm.findClass C = some c ∧ U.fieldFound? C n d = some (c, k, i, f) ∧ f.isStatic = true ∧ k.statics = some a ∧ H[a]? = some cell ∧ cell.vm.isStatics = true ∧ cell.cls = c ∧ f.slot < cell.slots.size ∧ k.staticTypes[f.slot]? = some f.type ∧ ¬ A a
theorem vx_L.moved {C n d : String} {A : Nat → Prop} {u U : State} {H : Heap} (hvm : u.vm.Alike U.vm) (h : vx_L C n d A u H) : vx_L C n d A U H := by
  obtain ⟨c, k, i, f, a, cell, h1, h2, h3, h4, h5, h6, h7, h8, h9, h10⟩ := h
  obtain ⟨k', hi', he⟩ := State.fieldFound?_setVm hvm h2
  exact ⟨c, k', i, f, a, cell, by rw [hvm.findClass]; exact h1, hi', h3, by rw [he]; exact h4, h5, h6, h7, h8, by rw [he]; exact h9, h10⟩
theorem vx_L.kept {C n d : String} {A : Nat → Prop} {U : State} {H H1 : Heap} (h : vx_L C n d A U H) (hq : ∀ a : Nat, a < H.size → ¬ A a → H1[a]? = H[a]?) : vx_L C n d A U H1 := by
  obtain ⟨c, k, i, f, a, cell, h1, h2, h3, h4, h5, h6, h7, h8, h9, h10⟩ := h
  exact ⟨c, k, i, f, a, cell, h1, h2, h3, h4, by rw [hq a (Array.getElem?_eq_some_iff.mp h5).1 h10]; exact h5, h6, h7, h8, h9, h10⟩
theorem vx_L.narrow {C n d : String} {A B : Nat → Prop} {U : State} {H : Heap} (h : vx_L C n d A U H) (hAB : ∀ q, B q → A q) : vx_L C n d B U H := by
  obtain ⟨c, k, i, f, a, cell, h1, h2, h3, h4, h5, h6, h7, h8, h9, h10⟩ := h
  exact ⟨c, k, i, f, a, cell, h1, h2, h3, h4, h5, h6, h7, h8, h9, fun z => h10 (hAB _ z)⟩
theorem vx_L.word {C n d : String} {A : Nat → Prop} {s : State} {args : Array Value} (h : vx_L C n d A s s.heap) : (Cond.laysStatic C n d).before args s = true := by
  obtain ⟨c, k, i, f, a, cell, h1, h2, h3, h4, h5, h6, h7, h8, h9, -⟩ := h
  show (Cond.laysStatic C n d).holds args s none s [] = true
  exact Cond.laysStatic_of h1 h2 h3 h4 h5 h6 h7 h8 h9
/-- .. and what it holds: null or some reference -/
def vx_Zq (C n d : String) (A : Nat → Prop) (U : State) (H : Heap) : Prop := va_Zq C n d A U H ∧ vx_L C n d A U H
theorem vx_Zq.moved {C n d : String} {A : Nat → Prop} {u U : State} {H : Heap} (hvm : u.vm.Alike U.vm) (h : vx_Zq C n d A u H) : vx_Zq C n d A U H := ⟨va_Zq.moved hvm h.1, vx_L.moved hvm h.2⟩
theorem vx_Zq.kept {C n d : String} {A : Nat → Prop} {U : State} {H H1 : Heap} (h : vx_Zq C n d A U H) (hq : ∀ a : Nat, a < H.size → ¬ A a → H1[a]? = H[a]?) : vx_Zq C n d A U H1 := ⟨va_Zq.kept h.1 hq, vx_L.kept h.2 hq⟩
theorem vx_Zq.narrow {C n d : String} {A B : Nat → Prop} {U : State} {H : Heap} (h : vx_Zq C n d A U H) (hAB : ∀ q, B q → A q) : vx_Zq C n d B U H := ⟨va_Zq.narrow h.1 hAB, vx_L.narrow h.2 hAB⟩
theorem vx_Zqof {args : Array Value} {s : State} {C n d : String} {A : Nat → Prop} (hl : (Cond.laysStatic C n d).before args s = true) (hini : (Cond.initialized C).before args s = true) (h : (Cond.isRef (.static C n d)).before args s = true) (hA : ∀ a : Nat, a < s.heap.size → ¬ A a) : vx_Zq C n d A s s.heap := by
  refine ⟨va_Zqof hl hini h hA, ?_⟩
  obtain ⟨c, k, i, f, a, cell, h1, h2, h3, h4, h5, h6, h7, h8, h9⟩ := Cond.laysStatic_spec hl
  exact ⟨c, k, i, f, a, cell, h1, h2, h3, h4, h5, h6, h7, h8, h9, hA a (Array.getElem?_eq_some_iff.mp h5).1⟩
theorem vx_isRef {C n d : String} {v : Value} {A : Nat → Prop} {s : State} {args : Array Value} (h : va_Z C n d v A s s.heap) (hv : v.isRef = true) : (Cond.isRef (.static C n d)).before args s = true := by
  obtain ⟨cf, kf, fi, f, a, cell, h1, h2, h3, h4, h5, h6, h7, -⟩ := h
  have he : (Term.static C n d).eval args s none [] s = some v := by
    simp [Term.eval, State.fieldNamed?, h1, h2, h4, h5, h6, h7]
  simp only [Cond.before, Cond.holds, Cond.value, he]
  cases v <;> simp_all [Value.isRef]
theorem vx_isRefq {C n d : String} {A : Nat → Prop} {s : State} {args : Array Value} (h : va_Zq C n d A s s.heap) : (Cond.isRef (.static C n d)).before args s = true := by
  rcases h with h | ⟨t, h⟩
  · exact vx_isRef h rfl
  · exact vx_isRef h rfl
/-- the same frame, seen from here: as if the method were called anew in this heap -/
theorem vx_rebase {T : State} (X : Stand p l e R s m args below meth c T locs cells slots) {R' : Room} (hf : R'.frames ≤ R.frames) (hl : R'.locals ≤ R.locals) (hc : cells + R'.cells ≤ R.cells) (hs : slots + R'.slots ≤ R.slots) :
    Stand p l e R' ((T.setVm s.vm).setFrames (.invoking m args :: below)) m args below meth c T [] 0 0 := by
  have htop : (T.setVm s.vm).topJava?.isSome := X.here.top
  have hF : ((T.setVm s.vm).setFrames (.invoking m args :: below)).frames = .invoking m args :: below := State.frames_setFrames _ (State.cur_lt_of_top htop)
  obtain ⟨g₀, hg0⟩ := Option.isSome_iff_exists.mp htop
  obtain ⟨r, hr⟩ := State.topJava?_eq_some.mp hg0
  have hl9 : e.platform.stackLimits (T.setVm s.vm).me = e.platform.stackLimits s.me := X.limits
  have hb9 : (T.setVm s.vm).me.stackBytes = s.me.stackBytes := X.bytes
  refine ⟨X.admits, X.cas, X.clock, hF, ?_, X.hears, X.method, X.code, X.here, X.tail, X.warmed, ?_, ?_, ?_⟩
  · have h := X.room
    have hU : ((T.setVm s.vm).setFrames (.invoking m args :: below)).localsInUse = s.localsInUse := by
      rw [State.localsInUse_invoking hF (meth := meth) (c := c) X.method X.code, State.localsInUse_invoking X.frames X.method X.code]
    simp only [State.hasRoom, Bool.and_eq_true, decide_eq_true_eq] at h ⊢
    obtain ⟨⟨⟨⟨h1, h2, h3, h4, h5, h6⟩, h7⟩, h8⟩, h9⟩ := h
    rw [X.frames, List.length_cons] at h2 h3
    have q1 := X.heapSize
    have q2 := X.used
    simp only [hF, hU, List.length_cons, State.stackLimits_setFrames, State.stackBytes_setFrames, hl9, hb9]
    refine ⟨⟨⟨⟨by omega, by omega, by omega, by omega, by omega, h6⟩, ?_⟩, ?_⟩, X.book⟩
    · show T.heap.size + R'.cells ≤ e.platform.maxCells
      omega
    · show T.slotsUsed + R'.slots ≤ e.platform.maxSlots
      omega
  · rw [State.stackLimits_setFrames]; rfl
  · rw [State.stackBytes_setFrames]; rfl
  · refine ⟨?_, Nat.le_refl _, Nat.le_refl _, ?_, ?_, fun a c9 h9 => ⟨c9, h9, rfl, rfl, fun _ _ => rfl⟩⟩
    · obtain ⟨t, ht, -⟩ := State.frames_cons hr
      show T.setVm s.vm = { ((T.setVm s.vm).setFrames (.invoking m args :: below)).setFrames (T.setVm s.vm).frames with heap := T.heap, slotsUsed := T.slotsUsed }
      rw [State.setFrames_setFrames, State.setFrames_self ht]
      rfl
    · show T.slotsUsed = T.slotsUsed + ((T.heap.toList.drop T.heap.size).map (·.slots.size)).sum
      rw [List.drop_eq_nil_of_le (Nat.le_of_eq Array.length_toList)]
      rfl
    · show ((T.heap.toList.drop T.heap.size).map (·.slots.size)).sum ≤ 0
      rw [List.drop_eq_nil_of_le (Nat.le_of_eq Array.length_toList)]
      exact Nat.le_refl _
/-- 'throw new E()': new; dup; invokespecial; athrow -/
theorem vx_throw0 {cc : ByteArray} {pc : Nat} (hexec : p.tables.exec = Jvm.exec) (hb : c.code = cc) (hl : l.stackTraces = false) {own cls : String} {names : List String} {ik ic mc ms : Nat} {A : Nat → Prop}
    (hown : s.vm.findClass own = some m.cls) (hcls : Bundle.fit cls = true) (hnames : ∀ n ∈ names, Bundle.fit n = true)
    (hk : (Cond.classLink own ik cls).before args s = true) (hini : (Cond.initialized cls).before args s = true) (hat : ∀ w ∈ vx_at0 own ic cls names, w.before args s = true)
    (hgood : ∀ w ∈ Cond.classLink own ik cls :: Cond.initialized cls :: vx_at0 own ic cls names, vx_ot w = true)
    (hU : vx_Zq Bundle.tN "UNASSIGNED_STACK" Bundle.steD A s s.heap) (hN : vx_Zq Bundle.tN "SUPPRESSED_SENTINEL" Bundle.listD A s s.heap) (hS : va_S A s.heap H locs) (hsize : ls.size = c.maxLocals)
    (d0 : decode cc pc = .ok (.new ik, 3)) (d3 : decode cc (pc + 3) = .ok (.dup, 1)) (d4 : decode cc (pc + 4) = .ok (.invokespecial ic, 3)) (d7 : decode cc (pc + 7) = .ok (.athrow, 1))
    (hout : ∀ x ∈ c.exceptionTable.toList, covers x (pc + 7) = false)
    (hRframes : names.length + 3 < R.frames) (hRlocals : (rest.map fun v => v.category).sum + (13 * (names.length + 1) + 42) ≤ R.locals) (hRcells : cells + 1 ≤ R.cells) (hRslots : slots + 6 ≤ R.slots) (hlocks : meth.locks = false)
    (hx : ∀ t : State, s.vm.Alike t.vm → H.size ≤ t.heap.size → (∀ q : Nat, q < H.size → t.heap[q]? = H[q]?) → XC cls s t)
    (hf : ∀ z ∈ locs, free z.base) (hc : cells + 1 ≤ mc) (hs : slots + 6 ≤ ms) :
    W p l e R s m args below meth c H locs cells slots (vx_MQ below Qc XC args s mc ms free) (F0 m pc ls rest) := by
  intro T hT X
  have htr : e.platform.stackTraces = false := (show e.platform.stackTraces = l.stackTraces by rw [X.admits.platform]).trans hl
  have Y := vx_rebase X (R' := { frames := R.frames, locals := R.locals, cells := 1, slots := 6 }) (Nat.le_refl _) (Nat.le_refl _) hRcells hRslots
  obtain ⟨s', hA⟩ : ∃ z, z = (T.setVm s.vm).setFrames (.invoking m args :: below) := ⟨_, rfl⟩
  rw [← hA] at Y
  have hvm : s'.vm = s.vm := by rw [hA]; rfl
  have hhp : s'.heap = H := by rw [hA]; exact hT
  have hW0 : s.WarmedH s'.vm := by rw [hvm]; exact State.WarmedH.refl s
  have hat' : ∀ w ∈ vx_at0 own ic cls names, w.before args s' = true := fun w hw => vx_ot_at hW0 hvm.symm (hgood w (List.mem_cons_of_mem _ (List.mem_cons_of_mem _ hw))) (hat w hw)
  have hk' : (Cond.classLink own ik cls).before args s' = true := vx_ot_at hW0 hvm.symm (hgood _ List.mem_cons_self) hk
  have hini' : (Cond.initialized cls).before args s' = true := vx_ot_at hW0 hvm.symm (hgood _ (List.mem_cons_of_mem _ List.mem_cons_self)) hini
  have hU' : vx_Zq Bundle.tN "UNASSIGNED_STACK" Bundle.steD A s' s'.heap := by rw [hhp]; exact vx_Zq.moved hW0.alike (hU.kept hS.2.1)
  have hN' : vx_Zq Bundle.tN "SUPPRESSED_SENTINEL" Bundle.listD A s' s'.heap := by rw [hhp]; exact vx_Zq.moved hW0.alike (hN.kept hS.2.1)
  have h : ∀ w ∈ Bundle.ownAtoms0 own ic cls names, w.before args s' = true := vx_own hat' (vx_isRefq hU'.1) (vx_isRefq hN'.1) hU'.2.word hN'.2.word
  have hown' : s'.vm.findClass own = some m.cls := by rw [hvm]; exact hown
  have hins : (Cond.instantiable cls 6).before args s' = true := h _ (by simp [Bundle.ownAtoms0])
  obtain ⟨vm₁, cX, kX, hfX, hkX, -, -, X₁, st1⟩ := Y.newCold hexec (own := own) (C := cls) (index := ik) (n := 6) hown' hk' hins hini'
    (g := F0 m pc ls rest) rfl (by rw [hb]; exact d0) (Nat.le_refl _) (Nat.le_refl _)
  generalize hT1 : (T.setVm vm₁).pushCell { cls := cX, slots := kX.instanceTypes.map defaultValue, vm := .none } = T1 at X₁ st1
  have hcat : (Value.ref T.heap.size).category = 1 := rfl
  have hcellA : T1.heap[T.heap.size]? = some (freshCell cX kX) := by rw [← hT1]; exact State.heap_pushCell_size _ _
  have d3' : decode c.code (pc + 3) = .ok (.dup, 1) := by rw [hb]; exact d3
  obtain ⟨U, hsteps, hrun, hend, hW, hsame, ce, hce, hO⟩ := X₁.ctorThrow0 hexec htr (own := own) (cls := cls) (names := names) (ic := ic) hown' hcls hnames h (fun x hx => nomatch hx) hfX hkX hcellA (by rw [hhp, hT]; exact Nat.le_refl _)
    (g := { method := m, pc := pc + 4, locals := ls, stack := .ref T.heap.size :: .ref T.heap.size :: rest, locked := none }) rfl hsize rfl rfl (rest := rest) rfl
    (by rw [hb]; exact d4) (by rw [hb]; exact d7) hout hRframes (by simp only [List.map_cons, List.sum_cons, hcat]; omega) hlocks
  obtain ⟨f1, f2⟩ := vx_frame hsame
  rw [hhp] at f1 f2
  have hWs : s.WarmedH U.vm := State.WarmedH.trans hW0 hW
  have hcl : s.vm.findClass cls = some ce.cls := by
    have h9 := hO.cls
    rw [hvm] at h9
    exact h9
  have hall : s.sameButNew ({ U with vm := s.vm } : State) locs mc ms := by
    subst hA
    obtain ⟨e1, e2⟩ := hsame
    rw [State.setFrames_setFrames] at e1
    have h2 : (T.setVm s.vm).sameButNew ({ U with vm := s.vm } : State) [] (0 + 1) (0 + 6) := ⟨e1, e2⟩
    have h3 := X.same.trans h2
    rw [List.append_nil] at h3
    exact h3.mono hc hs
  refine ⟨U, ?_, .threw T.heap.size, hrun, hend, Or.inr ⟨T.heap.size, rfl, cls, ce, locs, hx U hWs.alike f1 (fun q hq => f2 q hq (fun z hz => nomatch hz)), hce, hO.vm, hcl, hWs, hall, hf⟩⟩
  refine st1 _ ?_
  show Steps p.tables e below (T1.setTop { method := m, pc := pc + 3, locals := ls, stack := .ref T.heap.size :: rest, locked := none }) _
  jvm_step X₁.here [X₁.here.top, hexec, d3', Value.category]
  exact hsteps
/-- 'throw new E("text")': new; dup; ldc; invokespecial; athrow -/
theorem vx_throwS {cc : ByteArray} {pc : Nat} (hexec : p.tables.exec = Jvm.exec) (hb : c.code = cc) (hl : l.stackTraces = false) {own cls text : String} {names : List String} {ik is ic mc ms sa : Nat} {A : Nat → Prop}
    (hown : s.vm.findClass own = some m.cls) (hcls : Bundle.fit cls = true) (hnames : ∀ n ∈ names, Bundle.fit n = true)
    (hk : (Cond.classLink own ik cls).before args s = true) (hini : (Cond.initialized cls).before args s = true) (hstr : vk_R own is text sa s) (hat : ∀ w ∈ vx_atS own ic cls names, w.before args s = true)
    (hgood : ∀ w ∈ Cond.classLink own ik cls :: Cond.initialized cls :: vx_atS own ic cls names, vx_ot w = true)
    (hU : vx_Zq Bundle.tN "UNASSIGNED_STACK" Bundle.steD A s s.heap) (hN : vx_Zq Bundle.tN "SUPPRESSED_SENTINEL" Bundle.listD A s s.heap) (hS : va_S A s.heap H locs) (hsize : ls.size = c.maxLocals)
    (d0 : decode cc pc = .ok (.new ik, 3)) (d3 : decode cc (pc + 3) = .ok (.dup, 1)) (d4 : decode cc (pc + 4) = .ok (.ldc is, 2)) (d6 : decode cc (pc + 6) = .ok (.invokespecial ic, 3)) (d9 : decode cc (pc + 9) = .ok (.athrow, 1))
    (hout : ∀ x ∈ c.exceptionTable.toList, covers x (pc + 9) = false)
    (hRframes : names.length + 3 < R.frames) (hRlocals : (rest.map fun v => v.category).sum + (13 * (names.length + 1) + 43) ≤ R.locals) (hRcells : cells + 1 ≤ R.cells) (hRslots : slots + 6 ≤ R.slots) (hlocks : meth.locks = false)
    (hx : ∀ t : State, s.vm.Alike t.vm → H.size ≤ t.heap.size → (∀ q : Nat, q < H.size → t.heap[q]? = H[q]?) → XC cls s t)
    (hf : ∀ z ∈ locs, free z.base) (hc : cells + 1 ≤ mc) (hs : slots + 6 ≤ ms) :
    W p l e R s m args below meth c H locs cells slots (vx_MQ below Qc XC args s mc ms free) (F0 m pc ls rest) := by
  intro T hT X
  have htr : e.platform.stackTraces = false := (show e.platform.stackTraces = l.stackTraces by rw [X.admits.platform]).trans hl
  have Y := vx_rebase X (R' := { frames := R.frames, locals := R.locals, cells := 1, slots := 6 }) (Nat.le_refl _) (Nat.le_refl _) hRcells hRslots
  obtain ⟨s', hA⟩ : ∃ z, z = (T.setVm s.vm).setFrames (.invoking m args :: below) := ⟨_, rfl⟩
  rw [← hA] at Y
  have hvm : s'.vm = s.vm := by rw [hA]; rfl
  have hhp : s'.heap = H := by rw [hA]; exact hT
  have hW0 : s.WarmedH s'.vm := by rw [hvm]; exact State.WarmedH.refl s
  have hat' : ∀ w ∈ vx_atS own ic cls names, w.before args s' = true := fun w hw => vx_ot_at hW0 hvm.symm (hgood w (List.mem_cons_of_mem _ (List.mem_cons_of_mem _ hw))) (hat w hw)
  have hk' : (Cond.classLink own ik cls).before args s' = true := vx_ot_at hW0 hvm.symm (hgood _ List.mem_cons_self) hk
  have hini' : (Cond.initialized cls).before args s' = true := vx_ot_at hW0 hvm.symm (hgood _ (List.mem_cons_of_mem _ List.mem_cons_self)) hini
  have hU' : vx_Zq Bundle.tN "UNASSIGNED_STACK" Bundle.steD A s' s'.heap := by rw [hhp]; exact vx_Zq.moved hW0.alike (hU.kept hS.2.1)
  have hN' : vx_Zq Bundle.tN "SUPPRESSED_SENTINEL" Bundle.listD A s' s'.heap := by rw [hhp]; exact vx_Zq.moved hW0.alike (hN.kept hS.2.1)
  have h : ∀ w ∈ Bundle.ownAtoms own ic cls names, w.before args s' = true := vx_own hat' (vx_isRefq hU'.1) (vx_isRefq hN'.1) hU'.2.word hN'.2.word
  have hown' : s'.vm.findClass own = some m.cls := by rw [hvm]; exact hown
  have hins : (Cond.instantiable cls 6).before args s' = true := h _ (by simp [Bundle.ownAtoms])
  obtain ⟨vm₁, cX, kX, hfX, hkX, -, -, X₁, st1⟩ := Y.newCold hexec (own := own) (C := cls) (index := ik) (n := 6) hown' hk' hins hini'
    (g := F0 m pc ls rest) rfl (by rw [hb]; exact d0) (Nat.le_refl _) (Nat.le_refl _)
  generalize hT1 : (T.setVm vm₁).pushCell { cls := cX, slots := kX.instanceTypes.map defaultValue, vm := .none } = T1 at X₁ st1
  have hcat : (Value.ref T.heap.size).category = 1 := rfl
  have hcellA : T1.heap[T.heap.size]? = some (freshCell cX kX) := by rw [← hT1]; exact State.heap_pushCell_size _ _
  have d3' : decode c.code (pc + 3) = .ok (.dup, 1) := by rw [hb]; exact d3
  have d4' : decode c.code (pc + 4) = .ok (.ldc is, 2) := by rw [hb]; exact d4
  have hstr' : vk_R own is text sa s' := vk_R.warm hW0 hstr
  obtain ⟨U, hsteps, hrun, hend, hW, hsame, ce, hce, hO⟩ := X₁.ctorThrowS hexec htr (own := own) (cls := cls) (names := names) (ic := ic) hown' hcls hnames h (fun x hx => nomatch hx) hfX hkX hcellA (by rw [hhp, hT]; exact Nat.le_refl _) (msg := .ref sa) rfl
    (g := { method := m, pc := pc + 6, locals := ls, stack := .ref sa :: .ref T.heap.size :: .ref T.heap.size :: rest, locked := none }) rfl hsize rfl rfl (rest := rest) rfl
    (by rw [hb]; exact d6) (by rw [hb]; exact d9) hout hRframes (by simp only [List.map_cons, List.sum_cons, hcat]; omega) hlocks
  obtain ⟨f1, f2⟩ := vx_frame hsame
  rw [hhp] at f1 f2
  have hWs : s.WarmedH U.vm := State.WarmedH.trans hW0 hW
  have hcl : s.vm.findClass cls = some ce.cls := by
    have h9 := hO.cls
    rw [hvm] at h9
    exact h9
  have hall : s.sameButNew ({ U with vm := s.vm } : State) locs mc ms := by
    subst hA
    obtain ⟨e1, e2⟩ := hsame
    rw [State.setFrames_setFrames] at e1
    have h2 : (T.setVm s.vm).sameButNew ({ U with vm := s.vm } : State) [] (0 + 1) (0 + 6) := ⟨e1, e2⟩
    have h3 := X.same.trans h2
    rw [List.append_nil] at h3
    exact h3.mono hc hs
  refine ⟨U, ?_, .threw T.heap.size, hrun, hend, Or.inr ⟨T.heap.size, rfl, cls, ce, locs, hx U hWs.alike f1 (fun q hq => f2 q hq (fun z hz => nomatch hz)), hce, hO.vm, hcl, hWs, hall, hf⟩⟩
  refine st1 _ ?_
  show Steps p.tables e below (T1.setTop { method := m, pc := pc + 3, locals := ls, stack := .ref T.heap.size :: rest, locked := none }) _
  jvm_step X₁.here [X₁.here.top, hexec, d3', Value.category]
  exact X₁.ldcString hexec (own := own) (text := text) (index := is) (a := sa) hown' hstr'.1 hstr'.2
    (g := { method := m, pc := pc + 4, locals := ls, stack := .ref T.heap.size :: .ref T.heap.size :: rest, locked := none }) rfl d4' _ hsteps
/-- 'throw new E("text")', the text by a wide index -/
theorem vx_throwSW {cc : ByteArray} {pc : Nat} (hexec : p.tables.exec = Jvm.exec) (hb : c.code = cc) (hl : l.stackTraces = false) {own cls text : String} {names : List String} {ik is ic mc ms sa : Nat} {A : Nat → Prop}
    (hown : s.vm.findClass own = some m.cls) (hcls : Bundle.fit cls = true) (hnames : ∀ n ∈ names, Bundle.fit n = true)
    (hk : (Cond.classLink own ik cls).before args s = true) (hini : (Cond.initialized cls).before args s = true) (hstr : vk_R own is text sa s) (hat : ∀ w ∈ vx_atS own ic cls names, w.before args s = true)
    (hgood : ∀ w ∈ Cond.classLink own ik cls :: Cond.initialized cls :: vx_atS own ic cls names, vx_ot w = true)
    (hU : vx_Zq Bundle.tN "UNASSIGNED_STACK" Bundle.steD A s s.heap) (hN : vx_Zq Bundle.tN "SUPPRESSED_SENTINEL" Bundle.listD A s s.heap) (hS : va_S A s.heap H locs) (hsize : ls.size = c.maxLocals)
    (d0 : decode cc pc = .ok (.new ik, 3)) (d3 : decode cc (pc + 3) = .ok (.dup, 1)) (d4 : decode cc (pc + 4) = .ok (.ldc_w is, 3)) (d7 : decode cc (pc + 7) = .ok (.invokespecial ic, 3)) (d10 : decode cc (pc + 10) = .ok (.athrow, 1))
    (hout : ∀ x ∈ c.exceptionTable.toList, covers x (pc + 10) = false)
    (hRframes : names.length + 3 < R.frames) (hRlocals : (rest.map fun v => v.category).sum + (13 * (names.length + 1) + 43) ≤ R.locals) (hRcells : cells + 1 ≤ R.cells) (hRslots : slots + 6 ≤ R.slots) (hlocks : meth.locks = false)
    (hx : ∀ t : State, s.vm.Alike t.vm → H.size ≤ t.heap.size → (∀ q : Nat, q < H.size → t.heap[q]? = H[q]?) → XC cls s t)
    (hf : ∀ z ∈ locs, free z.base) (hc : cells + 1 ≤ mc) (hs : slots + 6 ≤ ms) :
    W p l e R s m args below meth c H locs cells slots (vx_MQ below Qc XC args s mc ms free) (F0 m pc ls rest) := by
  intro T hT X
  have htr : e.platform.stackTraces = false := (show e.platform.stackTraces = l.stackTraces by rw [X.admits.platform]).trans hl
  have Y := vx_rebase X (R' := { frames := R.frames, locals := R.locals, cells := 1, slots := 6 }) (Nat.le_refl _) (Nat.le_refl _) hRcells hRslots
  obtain ⟨s', hA⟩ : ∃ z, z = (T.setVm s.vm).setFrames (.invoking m args :: below) := ⟨_, rfl⟩
  rw [← hA] at Y
  have hvm : s'.vm = s.vm := by rw [hA]; rfl
  have hhp : s'.heap = H := by rw [hA]; exact hT
  have hW0 : s.WarmedH s'.vm := by rw [hvm]; exact State.WarmedH.refl s
  have hat' : ∀ w ∈ vx_atS own ic cls names, w.before args s' = true := fun w hw => vx_ot_at hW0 hvm.symm (hgood w (List.mem_cons_of_mem _ (List.mem_cons_of_mem _ hw))) (hat w hw)
  have hk' : (Cond.classLink own ik cls).before args s' = true := vx_ot_at hW0 hvm.symm (hgood _ List.mem_cons_self) hk
  have hini' : (Cond.initialized cls).before args s' = true := vx_ot_at hW0 hvm.symm (hgood _ (List.mem_cons_of_mem _ List.mem_cons_self)) hini
  have hU' : vx_Zq Bundle.tN "UNASSIGNED_STACK" Bundle.steD A s' s'.heap := by rw [hhp]; exact vx_Zq.moved hW0.alike (hU.kept hS.2.1)
  have hN' : vx_Zq Bundle.tN "SUPPRESSED_SENTINEL" Bundle.listD A s' s'.heap := by rw [hhp]; exact vx_Zq.moved hW0.alike (hN.kept hS.2.1)
  have h : ∀ w ∈ Bundle.ownAtoms own ic cls names, w.before args s' = true := vx_own hat' (vx_isRefq hU'.1) (vx_isRefq hN'.1) hU'.2.word hN'.2.word
  have hown' : s'.vm.findClass own = some m.cls := by rw [hvm]; exact hown
  have hins : (Cond.instantiable cls 6).before args s' = true := h _ (by simp [Bundle.ownAtoms])
  obtain ⟨vm₁, cX, kX, hfX, hkX, -, -, X₁, st1⟩ := Y.newCold hexec (own := own) (C := cls) (index := ik) (n := 6) hown' hk' hins hini'
    (g := F0 m pc ls rest) rfl (by rw [hb]; exact d0) (Nat.le_refl _) (Nat.le_refl _)
  generalize hT1 : (T.setVm vm₁).pushCell { cls := cX, slots := kX.instanceTypes.map defaultValue, vm := .none } = T1 at X₁ st1
  have hcat : (Value.ref T.heap.size).category = 1 := rfl
  have hcellA : T1.heap[T.heap.size]? = some (freshCell cX kX) := by rw [← hT1]; exact State.heap_pushCell_size _ _
  have d3' : decode c.code (pc + 3) = .ok (.dup, 1) := by rw [hb]; exact d3
  have d4' : decode c.code (pc + 4) = .ok (.ldc_w is, 3) := by rw [hb]; exact d4
  have hstr' : vk_R own is text sa s' := vk_R.warm hW0 hstr
  obtain ⟨U, hsteps, hrun, hend, hW, hsame, ce, hce, hO⟩ := X₁.ctorThrowS hexec htr (own := own) (cls := cls) (names := names) (ic := ic) hown' hcls hnames h (fun x hx => nomatch hx) hfX hkX hcellA (by rw [hhp, hT]; exact Nat.le_refl _) (msg := .ref sa) rfl
    (g := { method := m, pc := pc + 7, locals := ls, stack := .ref sa :: .ref T.heap.size :: .ref T.heap.size :: rest, locked := none }) rfl hsize rfl rfl (rest := rest) rfl
    (by rw [hb]; exact d7) (by rw [hb]; exact d10) hout hRframes (by simp only [List.map_cons, List.sum_cons, hcat]; omega) hlocks
  obtain ⟨f1, f2⟩ := vx_frame hsame
  rw [hhp] at f1 f2
  have hWs : s.WarmedH U.vm := State.WarmedH.trans hW0 hW
  have hcl : s.vm.findClass cls = some ce.cls := by
    have h9 := hO.cls
    rw [hvm] at h9
    exact h9
  have hall : s.sameButNew ({ U with vm := s.vm } : State) locs mc ms := by
    subst hA
    obtain ⟨e1, e2⟩ := hsame
    rw [State.setFrames_setFrames] at e1
    have h2 : (T.setVm s.vm).sameButNew ({ U with vm := s.vm } : State) [] (0 + 1) (0 + 6) := ⟨e1, e2⟩
    have h3 := X.same.trans h2
    rw [List.append_nil] at h3
    exact h3.mono hc hs
  refine ⟨U, ?_, .threw T.heap.size, hrun, hend, Or.inr ⟨T.heap.size, rfl, cls, ce, locs, hx U hWs.alike f1 (fun q hq => f2 q hq (fun z hz => nomatch hz)), hce, hO.vm, hcl, hWs, hall, hf⟩⟩
  refine st1 _ ?_
  show Steps p.tables e below (T1.setTop { method := m, pc := pc + 3, locals := ls, stack := .ref T.heap.size :: rest, locked := none }) _
  jvm_step X₁.here [X₁.here.top, hexec, d3', Value.category]
  exact X₁.ldcStringW hexec (own := own) (text := text) (index := is) (a := sa) hown' hstr'.1 hstr'.2
    (g := { method := m, pc := pc + 4, locals := ls, stack := .ref T.heap.size :: .ref T.heap.size :: rest, locked := none }) rfl d4' _ hsteps
end Ends
section Bodies
variable {l : Launch}
theorem vx_ofW {y : MethodName} {ws ws' : List Cond} {rm : Room} {Pc : Array Value → State → Prop} {Qc : Array Value → State → Outcome → State → Prop} {XC : String → State → State → Prop} {mc ms : Nat} {free : Addr → Prop} {cc : ByteArray} {maxL : Nat} {ret : Option FieldType}
    (hy : plainName y.cls = true) (hw : ws = Cond.code y cc maxL ret :: ws')
    (body : ∀ p e s m args below meth c s₁, BodyLoose p l y (headSpec ws rm) cc maxL ret e s m args below meth c s₁ → c.maxLocals = maxL → (∀ x ∈ c.exceptionTable.toList, False) → Pc args s →
      W p l e (headSpec ws rm).room s m args below meth c s.heap [] 0 0 (vx_MQ below Qc XC args s mc ms free) (entryFrame m args maxL)) : vx_Met l y ws rm Pc Qc XC mc ms free := by
  refine MetFree.of_bodyS (code := cc) (maxLocals := maxL) (ret := ret) hy ?_ ?_
  · intro args s m h hn
    obtain ⟨meth, c, h1, h2, h3, h4, h5, h6, -, -⟩ := Cond.code_spec hn (atoms_spec (ws := ws) h _ (by rw [hw]; exact List.mem_cons_self))
    exact ⟨meth, c, h1, h2, h3, h4, h5, h6⟩
  · intro p e s m args below meth c s₁ B hml hP _
    have hh0 : s₁.heap = s.heap := by rw [B.state]; rfl
    have ht : ∀ x ∈ c.exceptionTable.toList, False := by
      obtain ⟨meth9, c9, h1, h2, -, -, -, -, h7, -⟩ := Cond.code_spec B.named (atoms_spec (ws := ws) B.pre _ (by rw [hw]; exact List.mem_cons_self))
      cases Option.some.inj (h1.symm.trans B.method)
      cases Option.some.inj (h2.symm.trans (Stand.of_body B).code)
      intro x hx
      rw [Array.isEmpty_iff.mp h7] at hx
      cases hx
    obtain ⟨t, a1, o, b1, b2, b3⟩ := body p e s m args below meth c s₁ B hml ht hP s₁ hh0 (Stand.of_body B)
    exact ⟨t, o, a1, b1, b2, b3⟩
/-- the table of a body with handlers -/
theorem vx_table {p : Program} {x y : MethodName} {S : Spec} {cc bytes : ByteArray} {maxL maxL' : Nat} {ret ret' : Option FieldType} {e : Env} {s s₁ : State} {m : MethodId} {args : Array Value} {below : List Frame} {meth : Method} {c : Code} {hh : List (Nat × Nat × Nat × Nat)}
    (B : BodyLoose p l y S cc maxL ret e s m args below meth c s₁) (h : (Cond.codeWith y bytes maxL' ret' hh).before args s = true) : c.exceptionTable.toList = tableOf hh := by
  obtain ⟨m9, meth9, c9, hn9, h1, h2, -, -, h6, -⟩ := Cond.codeWith_spec h
  cases Option.some.inj (hn9.symm.trans B.named)
  cases Option.some.inj (h1.symm.trans B.method)
  cases Option.some.inj (h2.symm.trans (Stand.of_body B).code)
  rw [← h6, table_eq]
end Bodies
end VXA
/-! ===== END ===== -/
/-! ===== BEGIN a static call of a method with an exception table ===== -/
section VXS
variable {p : Program} {l : Launch} {e : Env} {R : Room} {s : State} {m : MethodId} {args : Array Value} {below : List Frame} {meth : Method} {c : Code} {T : State} {H : Heap} {locs : List Loc} {cells slots : Nat}
abbrev vx_CSW (R : Room) (s : State) (args : Array Value) (own : String) (index : Nat) (y : MethodName) (bytes : ByteArray) (maxL : Nat) (ret : Option FieldType) (hh : List (Nat × Nat × Nat × Nat)) (ws : List Cond) (rm : Room) (mc ms n : Nat) : Prop :=
  (rm.cells = mc ∧ rm.slots = ms ∧ rm.frames + 1 ≤ R.frames ∧ 8 + (maxL + 11) + rm.locals ≤ R.locals ∧ (∀ w ∈ ws, ∀ (a' : Array Value) (U : State), s.WarmedH U.vm → w.before a' U = true) ∧ Cond.codeWith y bytes maxL ret hh ∈ ws) ∧
  (Cond.codeWith y bytes maxL ret hh).before args s = true ∧ (Cond.initialized y.cls).before args s = true ∧ (y.cls ≠ "java/lang/invoke/MethodHandle" ∧ y.cls ≠ "java/lang/invoke/VarHandle") ∧
  (∀ sig, parseMethodDescriptor y.desc = some sig → n = sig.parameters.length) ∧ (Cond.methodLink own index y).before args s = true ∧ (Cond.static y).before args s = true
theorem vx_cwSW {own : String} {index maxL mc ms : Nat} {y : MethodName} {bytes : ByteArray} {ret : Option FieldType} {hh : List (Nat × Nat × Nat × Nat)} {Ts ws ws' : List Cond} {rm : Room} (n : Nat) (ht : ∀ w ∈ Ts, w.before args s = true) (hT : GoodIn Ts (va_wsS own index y ws)) (hw : ws = Cond.codeWith y bytes maxL ret hh :: ws') (hrc : rm.cells = mc) (hrs : rm.slots = ms)
    (hd : y.cls ≠ "java/lang/invoke/MethodHandle" ∧ y.cls ≠ "java/lang/invoke/VarHandle" ∧ (parseMethodDescriptor y.desc).map (fun d => d.parameters.length) = some n) (hR : rm.frames + 1 ≤ R.frames ∧ 8 + (maxL + 11) + rm.locals ≤ R.locals) :
    vx_CSW R s args own index y bytes maxL ret hh ws rm mc ms n := by
  have ok : ∀ w ∈ va_wsS own index y ws, w.before args s = true := fun w h => ht w (hT w h).1
  have hG : GoodIn Ts ws := fun w h => hT w (by unfold va_wsS; exact List.mem_append_right _ h)
  have hc : Cond.codeWith y bytes maxL ret hh ∈ ws := by rw [hw]; exact List.mem_cons_self
  refine ⟨⟨hrc, hrs, hR.1, hR.2, pay_in ht hG, hc⟩, ht _ (hG _ hc).1, ok _ (by simp [va_wsS]), ⟨hd.1, hd.2.1⟩, fun sig h => ?_, ok _ (by simp [va_wsS]), ok _ (by simp [va_wsS])⟩
  have h2 := hd.2.2
  rw [h] at h2
  exact (Option.some.inj h2).symm
theorem vx_callSW (X : Stand p l e R s m args below meth c T locs cells slots) (hexec : p.tables.exec = Jvm.exec) {own : String} {index : Nat} {y : MethodName} {bytes : ByteArray} {maxL : Nat} {ret : Option FieldType} {hh : List (Nat × Nat × Nat × Nat)}
    (hown : s.vm.findClass own = some m.cls) (hlink : (Cond.methodLink own index y).before args s = true) (hstat : (Cond.static y).before args s = true) (hinit : (Cond.initialized y.cls).before args s = true)
    (hcode : (Cond.codeWith y bytes maxL ret hh).before args s = true) (hy : y.cls ≠ "java/lang/invoke/MethodHandle" ∧ y.cls ≠ "java/lang/invoke/VarHandle")
    {W9 : Nat} {Pre : Pt → Array Value → Prop} {Post : Pt → Array Value → Option Value → Pt → Prop} (hK : Back l R p e below s args y 3 W9 Pre Post)
    {g : JFrame} (hg : g.method = m) (hsize : g.locals.size = c.maxLocals) {argsL rest : List Value} (hlen : ∀ sig, parseMethodDescriptor y.desc = some sig → argsL.length = sig.parameters.length)
    (hstack : g.stack = argsL.reverse ++ rest) (hW : 2 * g.monitorRoom + (rest.map fun v => v.category).sum ≤ W9) (hdg : decode c.code g.pc = .ok (.invokestatic index, 3))
    (hpre : ∀ vm₁, s.WarmedH vm₁ → Pre ⟨T.setVm vm₁, locs, cells, slots⟩ argsL.toArray) :
    ∃ (v : Option Value) (vm₁ : Vm) (B : Pt), s.WarmedH vm₁ ∧ Stand p l e R s m args below meth c B.U B.locs B.cells B.slots ∧ Post ⟨T.setVm vm₁, locs, cells, slots⟩ argsL.toArray v B ∧
      ∀ target, Steps p.tables e below (B.U.setTop { g with pc := g.pc + 3, stack := v.toList ++ rest }) target → Steps p.tables e below (T.setTop g) target := by
  obtain ⟨mk, methM, cM, hnamed, hmethM, -, -, -, -, -, -, hsigM⟩ := Cond.codeWith_spec hcode
  have hstatic : methM.isStatic = true := Cond.static_spec hnamed hmethM hstat
  obtain ⟨kP, hkP, -⟩ := className_of_methodNamed hnamed
  have hinitP : kP.init = .initialized := Cond.initialized_spec (findClass_of_methodNamed hnamed) hkP hinit
  obtain ⟨vm₁, X₁, hstep₁⟩ := X.invokestatic hexec hown hlink hnamed hmethM hstatic hkP hinitP hy (g := g) hg (argsL := argsL) (rest := rest) (hlen _ hsigM) hstack hdg
  obtain ⟨v, B, X', hpost, hsteps⟩ := hK m meth c ⟨T.setVm vm₁, locs, cells, slots⟩ { g with stack := rest } (.invokestatic index) mk argsL.toArray X₁ hg hsize hdg hW (X₁.named hnamed) (hpre vm₁ X₁.warmed)
  exact ⟨v, vm₁, B, X₁.warmed, X', hpost, fun target h => hstep₁ _ fun acts => by rw [doInvoke_state]; exact hsteps.trans h⟩
theorem vx_runSW {y : MethodName} {bytes cc : ByteArray} {maxL nL mc ms n index : Nat} {ret : Option FieldType} {hh : List (Nat × Nat × Nat × Nat)} {ws : List Cond} {rm : Room} {Pc : Array Value → State → Prop} {Qc : Array Value → State → Outcome → State → Prop} {free : Addr → Prop} {Ts : List Cond} {own : String} {As rest : List Value} {g : JFrame}
    (S : CallFix p m c cc nL s args Ts own) (hM : Met l y ws rm Pc Qc mc ms free) (cw : vx_CSW R s args own index y bytes maxL ret hh ws rm mc ms n) (hp : PreS s H Pc As)
    (hg : g.method = m) (hn : As.length = n) (hsize : g.locals.size = nL) (hstack : g.stack = As.reverse ++ rest) (hW : 2 * g.monitorRoom + (rest.map fun v => v.category).sum ≤ 8) (hdg : decode cc g.pc = .ok (.invokestatic index, 3)) (hf : cells + mc ≤ R.cells ∧ slots + ms ≤ R.slots) :
    va_Run p l e R s m args below meth c H locs cells slots mc ms g rest (Qc As.toArray) (free) := by
  obtain ⟨⟨hrc, hrs, hfr, hlo, hws, hcw⟩, hcode, hini, hy, hlen, hl, hstt⟩ := cw
  have hK : Back l R p e below s args y 3 8 (PreOf R mc ms Pc) (PostOf Qc mc ms free) := va_backW (hh := hh) (bytes := bytes) (maxL := maxL) (ret := ret) hM hp.1 hrc hrs hfr hlo hws hcw (fun a' U hW => word_at hW (Or.inl (by first | rfl | simp [Cond.onTables, Cond.keeps, Cond.steady])) hini)
  obtain ⟨hx, hb, hml, ho, -⟩ := S
  intro T hT X
  obtain ⟨v, vm₁, ⟨U', l2, c2, s2⟩, hW₁, X', ⟨g', mk, t, L, e1, e2, hq, h1, hL, h2, h3⟩, st⟩ := vx_callSW X hx (hh := hh) (bytes := bytes) (maxL := maxL) (ret := ret) ho hl hstt hini hcode hy hK hg (hsize.trans hml.symm) (argsL := As) (rest := rest) (fun sig h => hn.trans (hlen sig h)) hstack hW (by rw [hb]; exact hdg)
    (fun vm₁ hW₁ => ⟨hf.1, hf.2, hp.2 (T.setVm vm₁) hT hW₁⟩)
  dsimp only [Pt.U, Pt.locs, Pt.cells, Pt.slots] at X' e1 e2 h1 h2 h3 st
  subst h1; subst h2; subst h3
  exact ⟨v, (T.setVm vm₁).calling g' mk As.toArray, t, U', L, hT, X', hL, e1, e2, hq, st⟩
/-- not caught here, past rows that name other classes: it goes on to the caller -/
theorem vx_outP {p : Program} {l : Launch} {e : Env} {R : Room} {s : State} {m : MethodId} {args : Array Value} {below : List Frame} {meth : Method} {c : Code} {H : Heap} {locs : List Loc} {cells slots : Nat} {free : Addr → Prop} {ls : Array Slot} {rest : List Value} {Qc : Array Value → State → Outcome → State → Prop} {XC : String → State → State → Prop}
    {pc : Nat} {own E : String} {ce : Cell} {q : Addr} {mc ms : Nat} (hown : s.vm.findClass own = some m.cls) (hlocks : meth.locks = false)
    (hpass : ∀ z ∈ c.exceptionTable.toList, covers z pc = false ∨ (z.catchType ≠ 0 ∧ ∃ nm : String, (Cond.classLink own z.catchType nm).before args s = true ∧ va_Nc E nm s)) (hcell : H[q]? = some ce) (hv : ce.vm = .none) (hcl : s.vm.findClass E = some ce.cls)
    (hx : ∀ t : State, t.heap = H → s.vm.Alike t.vm → XC E s t) (hf : ∀ z ∈ locs, free z.base) (hc : cells ≤ mc) (hs : slots ≤ ms) :
    vx_W p l e R s m args below meth c H locs cells slots (vx_MQ below Qc XC args s mc ms free) (F0 m pc ls rest) q := by
  intro T hT X
  have hpl : e.platform.magicAccessors = ({} : Platform).magicAccessors := by rw [X.admits.platform]
  obtain ⟨vm', hW', X', st⟩ := X.outThrough hlocks q (g := F0 m pc ls rest) rfl rfl rfl (cell := ce) (by rw [hT]; exact hcell) (by rw [hv]; rfl)
    (by obtain ⟨k9, h9, -⟩ := Vm.findClass_spec hcl; exact ⟨k9, h9⟩) (fun z hz => by
      rcases hpass z hz with h | ⟨hz0, nm, hl1, hn1⟩
      · exact Or.inl h
      · obtain ⟨c6, hc6, hcl6⟩ := Cond.classLink_spec hown hl1 e.platform hpl
        obtain ⟨a8, b8, h1, h2, h3⟩ := hn1
        cases Option.some.inj (h1.symm.trans hcl)
        cases Option.some.inj (h2.symm.trans hc6)
        exact Or.inr ⟨hz0, _, hcl6, h3⟩)
  obtain ⟨g₀, hfr⟩ := X'.frames_eq
  have hcell9 : ((T.setVm vm').setFrames (.throwing q :: below)).heap[q]? = some ce := by
    show T.heap[q]? = some ce
    rw [hT]; exact hcell
  have hend : Ended ((T.setVm vm').setFrames (.throwing q :: below)) below (.threw q) := State.frames_setFrames _ (State.cur_lt_of_frames hfr)
  refine ⟨(T.setVm vm').setFrames (.throwing q :: below), ?_, .threw q, X'.here.running, hend, Or.inr ⟨q, rfl, E, ce, locs, hx _ hT (X'.ends _).1.alike, hcell9, hv, hcl, (X'.ends _).1, (X'.ends _).2.mono hc hs, hf⟩⟩
  rw [X.pushThrowing_eq]
  exact st
/-- a thing of a world lies in the heap -/
theorem vx_lt {D : va_G} {cl : List vw_C} {ws : va_W} {H1 : Heap} (h : va_P D cl ws H1) {k : Nat} {q : Nat × va_E} (hk : ws[k]? = some q) : q.1 < H1.size := (h k q hk).lt
end VXS
/-! ===== END ===== -/
/-! ===== BEGIN methods with a table of their own: called by a name, returning or throwing ===== -/
section VXH
/-! vx_backW, vx_callVX, vx_callSX, vx_callVW, vx_runVW, vx_runVX, vx_runSX, vx_ofWH follow the same proofs as their sisters above (Free/Laws.lean, Shelf42/LK1.lean); vx_outP calls Shelf42/NT130.lean (outThrough). -/
section
variable {l : Launch} {R : Room} {p : Program} {e : Env} {below : List Frame} {s : State} {sargs : Array Value} {y : MethodName} {len W9 : Nat}
theorem vx_backW {ws : List Cond} {rm : Room} {Pc : Array Value → State → Prop} {Qc : Array Value → State → Outcome → State → Prop} {XC : String → State → State → Prop} {mc ms : Nat} {free : Addr → Prop} {bytes : ByteArray} {maxL : Nat} {ret : Option FieldType} {hh : List (Nat × Nat × Nat × Nat)}
    (hM : vx_Met l y ws rm Pc Qc XC mc ms free) (hblind : FrameBlind Pc) (hrc : rm.cells = mc) (hrs : rm.slots = ms)
    (hframes : rm.frames + 1 ≤ R.frames) (hlocals : W9 + (maxL + 11) + rm.locals ≤ R.locals)
    (hws : ∀ w ∈ ws, ∀ a' U, s.WarmedH U.vm → w.before a' U = true) (hcode : Cond.codeWith y bytes maxL ret hh ∈ ws) (hinit : ∀ a' U, s.WarmedH U.vm → (Cond.initialized y.cls).before a' U = true) :
    vx_Back l R p e below s sargs y len W9 (PreOf R mc ms Pc) (PostOf Qc mc ms free) (vx_Post XC mc ms free) := by
  intro m meth c A g ig mk a X hg hsize hdg hW hn hp
  have h1 : (headSpec ws rm).pre.before a A.U = true := atoms_intro fun w hw => hws w hw _ _ X.warmed
  have h2 : (Cond.codeWith y bytes maxL ret hh).before a A.U = true := hws _ hcode _ _ X.warmed
  have h3 : (Cond.initialized y.cls).before a A.U = true := hinit _ _ X.warmed
  have h4 : A.cells + (headSpec ws rm).room.cells ≤ R.cells := by rw [show (headSpec ws rm).room.cells = mc from hrc]; exact hp.1
  have h5 : A.slots + (headSpec ws rm).room.slots ≤ R.slots := by rw [show (headSpec ws rm).room.slots = ms from hrs]; exact hp.2.1
  have hPc : Pc a (A.U.calling g mk a) := hblind _ _ _ _ hp.2.2
  obtain ⟨U, Ls, c0, s0⟩ := A
  dsimp only [Pt.U, Pt.locs, Pt.cells, Pt.slots] at h1 h2 h3 h4 h5 X hn hPc ⊢
  obtain ⟨m9, methY, cY, hn9, hmY, hcY, -, hlY, -⟩ := Cond.codeWith_spec h2
  cases Option.some.inj (hn9.symm.trans hn)
  obtain ⟨kY, hkY, -⟩ := className_of_methodNamed hn
  have hinitY : kY.init = .initialized := Cond.initialized_spec (findClass_of_methodNamed hn) hkY h3
  have h : At U g.method c below := by rw [hg]; exact X.here
  have hlocals9 : W9 + (maxL + 11) + (headSpec ws rm).room.locals ≤ R.locals := hlocals
  have happ : (headSpec ws rm).appliesLoose y e.platform (U.calling g mk a) = true :=
    Spec.appliesLoose_calling (g := g) h hdg hn hkY hinitY
      (X.room_calling (g := g) (R' := (headSpec ws rm).room) hsize hmY hcY hframes (by rw [hlY]; omega) h4 h5) h1
  obtain ⟨mid, hmid⟩ := h.above
  have hfr : (U.setTop g).frames = (.java g :: mid) ++ below := by rw [State.frames_setTop' g h.top, hmid]; rfl
  obtain ⟨o, s₂, hsteps, -, hend, hq⟩ := Steps.callFree hM p X.admits X.cas X.clock (acts := []) hfr happ hPc trivial
  have hq' : vx_Q Qc XC mc ms free a (U.calling g mk a) o s₂ := hq
  rw [State.frames_setTop' g h.top] at hend
  obtain ⟨g₀, hg0⟩ := Option.isSome_iff_exists.mp h.top
  obtain ⟨r, hr⟩ := State.topJava?_eq_some.mp hg0
  have hr' : (({ U with heap := s₂.heap, slotsUsed := s₂.slotsUsed } : State).setVm s₂.vm).frames = .java g₀ :: r := hr
  rcases hq' with ⟨hqc, L, hfe, hL⟩ | ⟨q, rfl, E, ce, L, hx, hce, hcv, hcl, hW₂, hsm, hL⟩
  · obtain ⟨⟨v, rfl⟩, hW₂, e2, q2, q3, q4, q5, q6⟩ := id hfe
    have e3 : s₂ = ({ (U.calling g mk a).setFrames s₂.frames with heap := s₂.heap, slotsUsed := s₂.slotsUsed } : State).setVm s₂.vm := by
      have : s₂ = ({ s₂ with vm := (U.calling g mk a).vm } : State).setVm s₂.vm := rfl
      rw [e2] at this
      exact this
    obtain ⟨c₂, i₂, len₂, hc₂, hd₂, hf₂⟩ := hend
    have hW' : U.WarmedH s₂.vm := hW₂
    have hcc : c₂ = c := by
      have h1 : s₂.code? g.method = U.code? g.method := by
        rw [State.code?_eq, State.code?_eq, hW'.alike.method?]
      exact Option.some.inj (hc₂.symm.trans (h1.trans h.code))
    subst hcc
    have hlen : len₂ = len := by rw [hdg] at hd₂; cases hd₂; rfl
    subst hlen
    have hs₂ : s₂ = (({ U with heap := s₂.heap, slotsUsed := s₂.slotsUsed } : State).setVm s₂.vm).setTop { g with pc := g.pc + len₂, stack := v.toList ++ g.stack } := by
      refine e3.trans ?_
      rw [hf₂, State.calling_eq h.top, State.setFrames_setFrames, State.setTop_of_frames _ hr', hr]
      rfl
    have hsame : U.sameButNew ({ U with heap := s₂.heap, slotsUsed := s₂.slotsUsed } : State) L mc ms := by
      refine ⟨?_, q2, q3, q4, q5, q6⟩
      obtain ⟨t, ht, -⟩ := State.frames_cons hr
      show ({ U with heap := s₂.heap, slotsUsed := s₂.slotsUsed } : State) = { U.setFrames U.frames with heap := s₂.heap, slotsUsed := s₂.slotsUsed }
      rw [State.setFrames_self ht]
    subst hg
    refine Or.inl ⟨v, ⟨(({ U with heap := s₂.heap, slotsUsed := s₂.slotsUsed } : State).setVm s₂.vm), Ls ++ L, c0 + mc, s0 + ms⟩,
      ⟨X.admits, X.cas, X.clock, X.frames, X.room, X.hears, X.method, X.code, (X.here.setHeapUsed s₂.heap s₂.slotsUsed).setVm hW'.alike, X.tail, State.WarmedH.trans X.warmed hW', X.limits, X.bytes, X.same.trans (hsame.setVm s.vm)⟩,
      ⟨g, mk, s₂, L, rfl, rfl, hqc, rfl, hL, rfl, rfl⟩, ?_⟩
    show Steps p.tables e below _ ((({ U with heap := s₂.heap, slotsUsed := s₂.slotsUsed } : State).setVm s₂.vm).setTop { g with pc := g.pc + len₂, stack := v.toList ++ g.stack })
    rw [← hs₂]
    exact hsteps
  · obtain ⟨e2, q2, q3, q4, q5, q6⟩ := id hsm
    have e3 : s₂ = ({ (U.calling g mk a).setFrames s₂.frames with heap := s₂.heap, slotsUsed := s₂.slotsUsed } : State).setVm s₂.vm := by
      have : s₂ = ({ s₂ with vm := (U.calling g mk a).vm } : State).setVm s₂.vm := rfl
      rw [e2] at this
      exact this
    have hf₂ : s₂.frames = .throwing q :: .java g :: U.frames.tail := hend
    have hW' : U.WarmedH s₂.vm := hW₂
    have hs₂ : s₂ = ((({ U with heap := s₂.heap, slotsUsed := s₂.slotsUsed } : State).setVm s₂.vm).setTop g).pushFrame (.throwing q) := by
      refine e3.trans ?_
      rw [hf₂, State.calling_eq h.top, State.setFrames_setFrames, State.pushFrame, State.frames_setTop _ hr', State.setTop_of_frames _ hr', State.setFrames_setFrames, hr]
      rfl
    have hsame : U.sameButNew ({ U with heap := s₂.heap, slotsUsed := s₂.slotsUsed } : State) L mc ms := by
      refine ⟨?_, q2, q3, q4, q5, q6⟩
      obtain ⟨t, ht, -⟩ := State.frames_cons hr
      show ({ U with heap := s₂.heap, slotsUsed := s₂.slotsUsed } : State) = { U.setFrames U.frames with heap := s₂.heap, slotsUsed := s₂.slotsUsed }
      rw [State.setFrames_self ht]
    subst hg
    refine Or.inr ⟨q, ⟨(({ U with heap := s₂.heap, slotsUsed := s₂.slotsUsed } : State).setVm s₂.vm), Ls ++ L, c0 + mc, s0 + ms⟩,
      ⟨X.admits, X.cas, X.clock, X.frames, X.room, X.hears, X.method, X.code, (X.here.setHeapUsed s₂.heap s₂.slotsUsed).setVm hW'.alike, X.tail, State.WarmedH.trans X.warmed hW', X.limits, X.bytes, X.same.trans (hsame.setVm s.vm)⟩,
      ⟨g, mk, s₂, L, E, ce, rfl, rfl, hx, hce, hcv, hcl, rfl, hL, rfl, rfl⟩, ?_⟩
    show Steps p.tables e below _ (((({ U with heap := s₂.heap, slotsUsed := s₂.slotsUsed } : State).setVm s₂.vm).setTop g).pushFrame (.throwing q))
    rw [← hs₂]
    exact hsteps
end
variable {p : Program} {l : Launch} {e : Env} {R : Room} {s : State} {m : MethodId} {args : Array Value} {below : List Frame} {meth : Method} {c : Code} {T : State} {H : Heap} {locs : List Loc} {cells slots : Nat}
theorem vx_callVX (X : Stand p l e R s m args below meth c T locs cells slots) (hexec : p.tables.exec = Jvm.exec) {own C : String} {index : Nat} {y : MethodName} {bytes : ByteArray} {maxL : Nat} {ret : Option FieldType} {hh : List (Nat × Nat × Nat × Nat)}
    (hown : s.vm.findClass own = some m.cls) (hlink : (Cond.methodLink own index y).before args s = true) (hinst : (Cond.instanceMethod y).before args s = true) (hsel : (Cond.selects C y y).before args s = true)
    (hcode : (Cond.codeWith y bytes maxL ret hh).before args s = true) (hy : y.cls ≠ "java/lang/invoke/MethodHandle" ∧ y.cls ≠ "java/lang/invoke/VarHandle")
    {W9 : Nat} {Pre : Pt → Array Value → Prop} {Post : Pt → Array Value → Option Value → Pt → Prop} {PostX : Pt → Array Value → Addr → Pt → Prop} (hK : vx_Back l R p e below s args y 3 W9 Pre Post PostX)
    {b : Addr} {cellB : Cell} (hcell : T.heap[b]? = some cellB) (hobj : cellB.vm.isStatics = false) (hcls : s.vm.findClass C = some cellB.cls)
    {g : JFrame} (hg : g.method = m) (hsize : g.locals.size = c.maxLocals) {argsL rest : List Value} (hlen : ∀ sig, parseMethodDescriptor y.desc = some sig → argsL.length = sig.parameters.length)
    (hstack : g.stack = argsL.reverse ++ .ref b :: rest) (hW : 2 * g.monitorRoom + (rest.map fun v => v.category).sum ≤ W9) (hdg : decode c.code g.pc = .ok (.invokevirtual index, 3))
    (hpre : ∀ vm₁, s.WarmedH vm₁ → Pre ⟨T.setVm vm₁, locs, cells, slots⟩ (Value.ref b :: argsL).toArray) :
    (∃ (v : Option Value) (vm₁ : Vm) (B : Pt), s.WarmedH vm₁ ∧ Stand p l e R s m args below meth c B.U B.locs B.cells B.slots ∧ Post ⟨T.setVm vm₁, locs, cells, slots⟩ (Value.ref b :: argsL).toArray v B ∧
      ∀ target, Steps p.tables e below (B.U.setTop { g with pc := g.pc + 3, stack := v.toList ++ rest }) target → Steps p.tables e below (T.setTop g) target) ∨
    (∃ (q : Addr) (vm₁ : Vm) (B : Pt), s.WarmedH vm₁ ∧ Stand p l e R s m args below meth c B.U B.locs B.cells B.slots ∧ PostX ⟨T.setVm vm₁, locs, cells, slots⟩ (Value.ref b :: argsL).toArray q B ∧
      Steps p.tables e below (T.setTop g) ((B.U.setTop { g with stack := rest }).pushFrame (.throwing q))) := by
  obtain ⟨mk, methM, hnamed, hmethM, hstM, habM⟩ := Cond.instanceMethod_spec hinst
  obtain ⟨m8, methM', cM, hn8, hmethM', -, -, -, -, -, -, hsigM⟩ := Cond.codeWith_spec hcode
  cases Option.some.inj (hn8.symm.trans hnamed)
  cases hmethM.symm.trans hmethM'
  obtain ⟨c2, r2, m2, q1, q2, q3, q4, kP, hkP, hkPi⟩ := Cond.selects_spec hsel
  cases hcls.symm.trans q1
  cases (State.methodFound?_of_named hnamed hy).symm.trans q2
  cases hnamed.symm.trans q3
  have hselP : selectMethod e.platform s.vm cellB.cls mk = .method mk := by rw [Launch.admits_selectMethod X.admits]; exact q4
  obtain ⟨vm₁, X₁, hstep₁⟩ := X.invokevirtual hexec hown hlink hnamed hmethM hstM hkP hkPi hy (a := b) (cell := cellB) hcell
    (fun z h => by rw [h] at hobj; cases hobj) hselP hmethM habM hkP hkPi (g := g) hg (argsL := argsL) (rest := rest) (hlen _ hsigM) hstack hdg
  rcases hK m meth c ⟨T.setVm vm₁, locs, cells, slots⟩ { g with stack := rest } (.invokevirtual index) mk (Value.ref b :: argsL).toArray X₁ hg hsize hdg hW (X₁.named hnamed) (hpre vm₁ X₁.warmed) with ⟨v, B, X', hpost, hsteps⟩ | ⟨q, B, X', hpost, hsteps⟩
  · exact Or.inl ⟨v, vm₁, B, X₁.warmed, X', hpost, fun target h => hstep₁ _ fun acts => by rw [doInvoke_state]; exact hsteps.trans h⟩
  · exact Or.inr ⟨q, vm₁, B, X₁.warmed, X', hpost, hstep₁ _ fun acts => by rw [doInvoke_state]; exact hsteps⟩
theorem vx_callSX (X : Stand p l e R s m args below meth c T locs cells slots) (hexec : p.tables.exec = Jvm.exec) {own : String} {index : Nat} {y : MethodName} {bytes : ByteArray} {maxL : Nat} {ret : Option FieldType} {hh : List (Nat × Nat × Nat × Nat)}
    (hown : s.vm.findClass own = some m.cls) (hlink : (Cond.methodLink own index y).before args s = true) (hstat : (Cond.static y).before args s = true) (hinit : (Cond.initialized y.cls).before args s = true)
    (hcode : (Cond.codeWith y bytes maxL ret hh).before args s = true) (hy : y.cls ≠ "java/lang/invoke/MethodHandle" ∧ y.cls ≠ "java/lang/invoke/VarHandle")
    {W9 : Nat} {Pre : Pt → Array Value → Prop} {Post : Pt → Array Value → Option Value → Pt → Prop} {PostX : Pt → Array Value → Addr → Pt → Prop} (hK : vx_Back l R p e below s args y 3 W9 Pre Post PostX)
    {g : JFrame} (hg : g.method = m) (hsize : g.locals.size = c.maxLocals) {argsL rest : List Value} (hlen : ∀ sig, parseMethodDescriptor y.desc = some sig → argsL.length = sig.parameters.length)
    (hstack : g.stack = argsL.reverse ++ rest) (hW : 2 * g.monitorRoom + (rest.map fun v => v.category).sum ≤ W9) (hdg : decode c.code g.pc = .ok (.invokestatic index, 3))
    (hpre : ∀ vm₁, s.WarmedH vm₁ → Pre ⟨T.setVm vm₁, locs, cells, slots⟩ argsL.toArray) :
    (∃ (v : Option Value) (vm₁ : Vm) (B : Pt), s.WarmedH vm₁ ∧ Stand p l e R s m args below meth c B.U B.locs B.cells B.slots ∧ Post ⟨T.setVm vm₁, locs, cells, slots⟩ argsL.toArray v B ∧
      ∀ target, Steps p.tables e below (B.U.setTop { g with pc := g.pc + 3, stack := v.toList ++ rest }) target → Steps p.tables e below (T.setTop g) target) ∨
    (∃ (q : Addr) (vm₁ : Vm) (B : Pt), s.WarmedH vm₁ ∧ Stand p l e R s m args below meth c B.U B.locs B.cells B.slots ∧ PostX ⟨T.setVm vm₁, locs, cells, slots⟩ argsL.toArray q B ∧
      Steps p.tables e below (T.setTop g) ((B.U.setTop { g with stack := rest }).pushFrame (.throwing q))) := by
  obtain ⟨mk, methM, cM, hnamed, hmethM, -, -, -, -, -, -, hsigM⟩ := Cond.codeWith_spec hcode
  have hstatic : methM.isStatic = true := Cond.static_spec hnamed hmethM hstat
  obtain ⟨kP, hkP, -⟩ := className_of_methodNamed hnamed
  have hinitP : kP.init = .initialized := Cond.initialized_spec (findClass_of_methodNamed hnamed) hkP hinit
  obtain ⟨vm₁, X₁, hstep₁⟩ := X.invokestatic hexec hown hlink hnamed hmethM hstatic hkP hinitP hy (g := g) hg (argsL := argsL) (rest := rest) (hlen _ hsigM) hstack hdg
  rcases hK m meth c ⟨T.setVm vm₁, locs, cells, slots⟩ { g with stack := rest } (.invokestatic index) mk argsL.toArray X₁ hg hsize hdg hW (X₁.named hnamed) (hpre vm₁ X₁.warmed) with ⟨v, B, X', hpost, hsteps⟩ | ⟨q, B, X', hpost, hsteps⟩
  · exact Or.inl ⟨v, vm₁, B, X₁.warmed, X', hpost, fun target h => hstep₁ _ fun acts => by rw [doInvoke_state]; exact hsteps.trans h⟩
  · exact Or.inr ⟨q, vm₁, B, X₁.warmed, X', hpost, hstep₁ _ fun acts => by rw [doInvoke_state]; exact hsteps⟩
theorem vx_callVW (X : Stand p l e R s m args below meth c T locs cells slots) (hexec : p.tables.exec = Jvm.exec) {own C : String} {index : Nat} {y : MethodName} {bytes : ByteArray} {maxL : Nat} {ret : Option FieldType} {hh : List (Nat × Nat × Nat × Nat)}
    (hown : s.vm.findClass own = some m.cls) (hlink : (Cond.methodLink own index y).before args s = true) (hinst : (Cond.instanceMethod y).before args s = true) (hsel : (Cond.selects C y y).before args s = true)
    (hcode : (Cond.codeWith y bytes maxL ret hh).before args s = true) (hy : y.cls ≠ "java/lang/invoke/MethodHandle" ∧ y.cls ≠ "java/lang/invoke/VarHandle")
    {W9 : Nat} {Pre : Pt → Array Value → Prop} {Post : Pt → Array Value → Option Value → Pt → Prop} (hK : Back l R p e below s args y 3 W9 Pre Post)
    {b : Addr} {cellB : Cell} (hcell : T.heap[b]? = some cellB) (hobj : cellB.vm.isStatics = false) (hcls : s.vm.findClass C = some cellB.cls)
    {g : JFrame} (hg : g.method = m) (hsize : g.locals.size = c.maxLocals) {argsL rest : List Value} (hlen : ∀ sig, parseMethodDescriptor y.desc = some sig → argsL.length = sig.parameters.length)
    (hstack : g.stack = argsL.reverse ++ .ref b :: rest) (hW : 2 * g.monitorRoom + (rest.map fun v => v.category).sum ≤ W9) (hdg : decode c.code g.pc = .ok (.invokevirtual index, 3))
    (hpre : ∀ vm₁, s.WarmedH vm₁ → Pre ⟨T.setVm vm₁, locs, cells, slots⟩ (Value.ref b :: argsL).toArray) :
    ∃ (v : Option Value) (vm₁ : Vm) (B : Pt), s.WarmedH vm₁ ∧ Stand p l e R s m args below meth c B.U B.locs B.cells B.slots ∧ Post ⟨T.setVm vm₁, locs, cells, slots⟩ (Value.ref b :: argsL).toArray v B ∧
      ∀ target, Steps p.tables e below (B.U.setTop { g with pc := g.pc + 3, stack := v.toList ++ rest }) target → Steps p.tables e below (T.setTop g) target := by
  obtain ⟨mk, methM, hnamed, hmethM, hstM, habM⟩ := Cond.instanceMethod_spec hinst
  obtain ⟨m8, methM', cM, hn8, hmethM', -, -, -, -, -, -, hsigM⟩ := Cond.codeWith_spec hcode
  cases Option.some.inj (hn8.symm.trans hnamed)
  cases hmethM.symm.trans hmethM'
  obtain ⟨c2, r2, m2, q1, q2, q3, q4, kP, hkP, hkPi⟩ := Cond.selects_spec hsel
  cases hcls.symm.trans q1
  cases (State.methodFound?_of_named hnamed hy).symm.trans q2
  cases hnamed.symm.trans q3
  have hselP : selectMethod e.platform s.vm cellB.cls mk = .method mk := by rw [Launch.admits_selectMethod X.admits]; exact q4
  obtain ⟨vm₁, X₁, hstep₁⟩ := X.invokevirtual hexec hown hlink hnamed hmethM hstM hkP hkPi hy (a := b) (cell := cellB) hcell
    (fun z h => by rw [h] at hobj; cases hobj) hselP hmethM habM hkP hkPi (g := g) hg (argsL := argsL) (rest := rest) (hlen _ hsigM) hstack hdg
  obtain ⟨v, B, X', hpost, hsteps⟩ := hK m meth c ⟨T.setVm vm₁, locs, cells, slots⟩ { g with stack := rest } (.invokevirtual index) mk (Value.ref b :: argsL).toArray X₁ hg hsize hdg hW (X₁.named hnamed) (hpre vm₁ X₁.warmed)
  exact ⟨v, vm₁, B, X₁.warmed, X', hpost, fun target h => hstep₁ _ fun acts => by rw [doInvoke_state]; exact hsteps.trans h⟩
abbrev vx_CVW (R : Room) (s : State) (args : Array Value) (own C : String) (index : Nat) (y : MethodName) (bytes : ByteArray) (maxL : Nat) (ret : Option FieldType) (hh : List (Nat × Nat × Nat × Nat)) (ws : List Cond) (rm : Room) (mc ms n : Nat) : Prop :=
  (rm.cells = mc ∧ rm.slots = ms ∧ rm.frames + 1 ≤ R.frames ∧ 8 + (maxL + 11) + rm.locals ≤ R.locals ∧ (∀ w ∈ ws, ∀ (a' : Array Value) (U : State), s.WarmedH U.vm → w.before a' U = true) ∧ Cond.codeWith y bytes maxL ret hh ∈ ws) ∧
  (Cond.codeWith y bytes maxL ret hh).before args s = true ∧ (Cond.initialized y.cls).before args s = true ∧ (y.cls ≠ "java/lang/invoke/MethodHandle" ∧ y.cls ≠ "java/lang/invoke/VarHandle") ∧
  (∀ sig, parseMethodDescriptor y.desc = some sig → n = sig.parameters.length) ∧ (Cond.methodLink own index y).before args s = true ∧ (Cond.instanceMethod y).before args s = true ∧ (Cond.selects C y y).before args s = true
theorem vx_cwVW {own C : String} {index maxL mc ms : Nat} {y : MethodName} {bytes : ByteArray} {ret : Option FieldType} {hh : List (Nat × Nat × Nat × Nat)} {Ts ws ws' : List Cond} {rm : Room} (n : Nat) (ht : ∀ w ∈ Ts, w.before args s = true) (hT : GoodIn Ts (wsV own index C y ws)) (hw : ws = Cond.codeWith y bytes maxL ret hh :: ws') (hrc : rm.cells = mc) (hrs : rm.slots = ms)
    (hd : y.cls = C ∧ y.cls ≠ "java/lang/invoke/MethodHandle" ∧ y.cls ≠ "java/lang/invoke/VarHandle" ∧ (parseMethodDescriptor y.desc).map (fun d => d.parameters.length) = some n) (hR : rm.frames + 1 ≤ R.frames ∧ 8 + (maxL + 11) + rm.locals ≤ R.locals) :
    vx_CVW R s args own C index y bytes maxL ret hh ws rm mc ms n := by
  obtain ⟨hC, hd⟩ := hd
  subst hC
  have ok : ∀ w ∈ wsV own index y.cls y ws, w.before args s = true := fun w h => ht w (hT w h).1
  have hG : GoodIn Ts ws := fun w h => hT w (by unfold wsV; exact List.mem_append_right _ h)
  have hc : Cond.codeWith y bytes maxL ret hh ∈ ws := by rw [hw]; exact List.mem_cons_self
  refine ⟨⟨hrc, hrs, hR.1, hR.2, pay_in ht hG, hc⟩, ht _ (hG _ hc).1, ok _ (by simp [wsV]), ⟨hd.1, hd.2.1⟩, fun sig h => ?_, ok _ (by simp [wsV]), ok _ (by simp [wsV]), ok _ (by simp [wsV])⟩
  have h2 := hd.2.2
  rw [h] at h2
  exact (Option.some.inj h2).symm
theorem vx_runVW {y : MethodName} {bytes cc : ByteArray} {maxL nL mc ms n index : Nat} {ret : Option FieldType} {hh : List (Nat × Nat × Nat × Nat)} {ws : List Cond} {rm : Room} {Pc : Array Value → State → Prop} {Qc : Array Value → State → Outcome → State → Prop} {free : Addr → Prop} {Ts : List Cond} {own C : String} {b : Addr} {As rest : List Value} {g : JFrame}
    (S : CallFix p m c cc nL s args Ts own) (hM : Met l y ws rm Pc Qc mc ms free) (cw : vx_CVW R s args own C index y bytes maxL ret hh ws rm mc ms n) (hp : PreV s H C b Pc As)
    (hg : g.method = m) (hn : As.length = n) (hsize : g.locals.size = nL) (hstack : g.stack = As.reverse ++ .ref b :: rest) (hW : 2 * g.monitorRoom + (rest.map fun v => v.category).sum ≤ 8) (hdg : decode cc g.pc = .ok (.invokevirtual index, 3)) (hf : cells + mc ≤ R.cells ∧ slots + ms ≤ R.slots) :
    va_Run p l e R s m args below meth c H locs cells slots mc ms g rest (Qc (Value.ref b :: As).toArray) free := by
  obtain ⟨⟨hrc, hrs, hfr, hlo, hws, hcw⟩, hcode, hini, hy, hlen, hl, hin, hse⟩ := cw
  have hK : Back l R p e below s args y 3 8 (PreOf R mc ms Pc) (PostOf Qc mc ms free) := va_backW (hh := hh) (bytes := bytes) (maxL := maxL) (ret := ret) hM hp.1 hrc hrs hfr hlo hws hcw (fun a' U hW => word_at hW (Or.inl (by first | rfl | simp [Cond.onTables, Cond.keeps, Cond.steady])) hini)
  obtain ⟨hx, hb, hml, ho, -⟩ := S
  obtain ⟨-, ⟨cellB, hcB, hoB, hclB⟩, hPc⟩ := hp
  intro T hT X
  obtain ⟨v, vm₁, ⟨U', l2, c2, s2⟩, hW₁, X', ⟨g', mk, t, L, e1, e2, hq, h1, hL, h2, h3⟩, st⟩ := vx_callVW X hx (C := C) (hh := hh) (bytes := bytes) (maxL := maxL) (ret := ret) ho hl hin hse hcode hy hK (by rw [hT]; exact hcB) hoB hclB hg (hsize.trans hml.symm) (argsL := As) (rest := rest) (fun sig h => hn.trans (hlen sig h)) hstack hW (by rw [hb]; exact hdg)
    (fun vm₁ hW₁ => ⟨hf.1, hf.2, hPc (T.setVm vm₁) hT hW₁⟩)
  dsimp only [Pt.U, Pt.locs, Pt.cells, Pt.slots] at X' e1 e2 h1 h2 h3 st
  subst h1; subst h2; subst h3
  exact ⟨v, (T.setVm vm₁).calling g' mk (Value.ref b :: As).toArray, t, U', L, hT, X', hL, e1, e2, hq, st⟩
section
variable {y : MethodName} {bytes cc : ByteArray} {maxL nL mc ms n index : Nat} {ret : Option FieldType} {ws : List Cond} {rm : Room} {Pc : Array Value → State → Prop} {Qc : Array Value → State → Outcome → State → Prop} {XC : String → State → State → Prop} {free : Addr → Prop} {Ts : List Cond} {own C : String} {b : Addr} {As rest : List Value} {g : JFrame}
theorem vx_runVX {hh : List (Nat × Nat × Nat × Nat)} (S : CallFix p m c cc nL s args Ts own) (hM : vx_Met l y ws rm Pc Qc XC mc ms free) (cw : vx_CVW R s args own C index y bytes maxL ret hh ws rm mc ms n) (hp : PreV s H C b Pc As)
    (hg : g.method = m) (hn : As.length = n) (hsize : g.locals.size = nL) (hstack : g.stack = As.reverse ++ .ref b :: rest) (hW : 2 * g.monitorRoom + (rest.map fun v => v.category).sum ≤ 8) (hdg : decode cc g.pc = .ok (.invokevirtual index, 3)) (hf : cells + mc ≤ R.cells ∧ slots + ms ≤ R.slots) :
    vx_Run p l e R s m args below meth c H locs cells slots mc ms g rest (Qc (Value.ref b :: As).toArray) XC free := by
  obtain ⟨⟨hrc, hrs, hfr, hlo, hws, hcw⟩, hcode, hini, hy, hlen, hl, hin, hse⟩ := cw
  have hK : vx_Back l R p e below s args y 3 8 (PreOf R mc ms Pc) (PostOf Qc mc ms free) (vx_Post XC mc ms free) := vx_backW (hh := hh) (bytes := bytes) (maxL := maxL) (ret := ret) hM hp.1 hrc hrs hfr hlo hws hcw (fun a' U hW => word_at hW (Or.inl (by first | rfl | simp [Cond.onTables, Cond.keeps, Cond.steady])) hini)
  obtain ⟨hx, hb, hml, ho, -⟩ := S
  obtain ⟨-, ⟨cellB, hcB, hoB, hclB⟩, hPc⟩ := hp
  intro T hT X
  rcases vx_callVX X hx (C := C) (hh := hh) (bytes := bytes) (maxL := maxL) (ret := ret) ho hl hin hse hcode hy hK (by rw [hT]; exact hcB) hoB hclB hg (hsize.trans hml.symm) (argsL := As) (rest := rest) (fun sig h => hn.trans (hlen sig h)) hstack hW (by rw [hb]; exact hdg)
    (fun vm₁ hW₁ => ⟨hf.1, hf.2, hPc (T.setVm vm₁) hT hW₁⟩) with ⟨v, vm₁, ⟨U', l2, c2, s2⟩, hW₁, X', ⟨g', mk, t, L, e1, e2, hq, h1, hL, h2, h3⟩, st⟩ | ⟨q, vm₁, ⟨U', l2, c2, s2⟩, hW₁, X', ⟨g', mk, t, L, E, ce, e1, e2, hq, hce, hcv, hcl, h1, hL, h2, h3⟩, st⟩
  · dsimp only [Pt.U, Pt.locs, Pt.cells, Pt.slots] at X' e1 e2 h1 h2 h3 st
    subst h1; subst h2; subst h3
    exact Or.inl ⟨v, (T.setVm vm₁).calling g' mk (Value.ref b :: As).toArray, t, U', L, hT, X', hL, e1, e2, hq, st⟩
  · dsimp only [Pt.U, Pt.locs, Pt.cells, Pt.slots] at X' e1 e2 h1 h2 h3 st hcl
    subst h1; subst h2; subst h3
    exact Or.inr ⟨q, (T.setVm vm₁).calling g' mk (Value.ref b :: As).toArray, t, U', L, E, ce, hT, X', hL, e1, e2, hq, hce, hcv, vx_cls hW₁ hcl, st⟩
theorem vx_runSX {hh : List (Nat × Nat × Nat × Nat)} (S : CallFix p m c cc nL s args Ts own) (hM : vx_Met l y ws rm Pc Qc XC mc ms free) (cw : vx_CSW R s args own index y bytes maxL ret hh ws rm mc ms n) (hp : PreS s H Pc As)
    (hg : g.method = m) (hn : As.length = n) (hsize : g.locals.size = nL) (hstack : g.stack = As.reverse ++ rest) (hW : 2 * g.monitorRoom + (rest.map fun v => v.category).sum ≤ 8) (hdg : decode cc g.pc = .ok (.invokestatic index, 3)) (hf : cells + mc ≤ R.cells ∧ slots + ms ≤ R.slots) :
    vx_Run p l e R s m args below meth c H locs cells slots mc ms g rest (Qc As.toArray) XC free := by
  obtain ⟨⟨hrc, hrs, hfr, hlo, hws, hcw⟩, hcode, hini, hy, hlen, hl, hstt⟩ := cw
  have hK : vx_Back l R p e below s args y 3 8 (PreOf R mc ms Pc) (PostOf Qc mc ms free) (vx_Post XC mc ms free) := vx_backW (hh := hh) (bytes := bytes) (maxL := maxL) (ret := ret) hM hp.1 hrc hrs hfr hlo hws hcw (fun a' U hW => word_at hW (Or.inl (by first | rfl | simp [Cond.onTables, Cond.keeps, Cond.steady])) hini)
  obtain ⟨hx, hb, hml, ho, -⟩ := S
  intro T hT X
  rcases vx_callSX X hx (hh := hh) (bytes := bytes) (maxL := maxL) (ret := ret) ho hl hstt hini hcode hy hK hg (hsize.trans hml.symm) (argsL := As) (rest := rest) (fun sig h => hn.trans (hlen sig h)) hstack hW (by rw [hb]; exact hdg)
    (fun vm₁ hW₁ => ⟨hf.1, hf.2, hp.2 (T.setVm vm₁) hT hW₁⟩) with ⟨v, vm₁, ⟨U', l2, c2, s2⟩, hW₁, X', ⟨g', mk, t, L, e1, e2, hq, h1, hL, h2, h3⟩, st⟩ | ⟨q, vm₁, ⟨U', l2, c2, s2⟩, hW₁, X', ⟨g', mk, t, L, E, ce, e1, e2, hq, hce, hcv, hcl, h1, hL, h2, h3⟩, st⟩
  · dsimp only [Pt.U, Pt.locs, Pt.cells, Pt.slots] at X' e1 e2 h1 h2 h3 st
    subst h1; subst h2; subst h3
    exact Or.inl ⟨v, (T.setVm vm₁).calling g' mk As.toArray, t, U', L, hT, X', hL, e1, e2, hq, st⟩
  · dsimp only [Pt.U, Pt.locs, Pt.cells, Pt.slots] at X' e1 e2 h1 h2 h3 st hcl
    subst h1; subst h2; subst h3
    exact Or.inr ⟨q, (T.setVm vm₁).calling g' mk As.toArray, t, U', L, E, ce, hT, X', hL, e1, e2, hq, hce, hcv, vx_cls hW₁ hcl, st⟩
end
end VXH
theorem vx_ofWH {l : Launch} {y : MethodName} {ws ws' : List Cond} {rm : Room} {Pc : Array Value → State → Prop} {Qc : Array Value → State → Outcome → State → Prop} {XC : String → State → State → Prop} {mc ms : Nat} {free : Addr → Prop} {cc : ByteArray} {maxL : Nat} {ret : Option FieldType} {hh : List (Nat × Nat × Nat × Nat)}
    (hy : plainName y.cls = true) (hw : ws = Cond.codeWith y cc maxL ret hh :: ws')
    (body : ∀ p e s m args below meth c s₁, BodyLoose p l y (headSpec ws rm) cc maxL ret e s m args below meth c s₁ → c.maxLocals = maxL → Pc args s →
      W p l e (headSpec ws rm).room s m args below meth c s.heap [] 0 0 (vx_MQ below Qc XC args s mc ms free) (entryFrame m args maxL)) : vx_Met l y ws rm Pc Qc XC mc ms free := by
  refine MetFree.of_bodyS (code := cc) (maxLocals := maxL) (ret := ret) hy ?_ ?_
  · intro args s m h hn
    obtain ⟨m9, meth, c, hn9, h1, h2, h3, h4, -, h5, h6, -⟩ := Cond.codeWith_spec (atoms_spec (ws := ws) h _ (by rw [hw]; exact List.mem_cons_self))
    cases hn.symm.trans hn9
    exact ⟨meth, c, h1, h2, h3, h4, h5, h6⟩
  · intro p e s m args below meth c s₁ B hml hP _
    have hh0 : s₁.heap = s.heap := by rw [B.state]; rfl
    obtain ⟨t, a1, o, b1, b2, b3⟩ := body p e s m args below meth c s₁ B hml hP s₁ hh0 (Stand.of_body B)
    exact ⟨t, o, a1, b1, b2, b3⟩
/-! ===== END ===== -/
end
section
/-! THE PROGRAM of the abstract machine, out of the Statement (by gen/out.py) -/
abbrev OI : Type := Instr ⊕ (Nat × Nat × Nat × Nat × Nat)
def R_Store : String := "FarStore"
def F_Store : u_T := fun k => match k with
  | 0 => ("FarStore", "siteRow", "[LFarStore$Site;", false)
  | 1 => ("FarStore", "items", "Ljava/util/ArrayList;", true)
  | 2 => ("FarStore", "transactions", "Ljava/util/ArrayList;", true)
  | 3 => ("FarStore", "tally", "LFarStore$Tally;", true)
  | 4 => ("FarStore", "changesKept", "I", false)
  | _ => ("FarStore", "commitsMade", "I", false)
def R_Tally : String := "FarStore$Tally"
def F_Tally : u_T := fun k => match k with
  | 0 => ("FarStore$Tally", "elements", "[I", false)
  | 1 => ("FarStore$Tally", "counts", "[I", false)
  | _ => ("FarStore$Tally", "size", "I", false)
def R_Site : String := "FarStore$Site"
def F_Site : u_T := fun k => match k with
  | 0 => ("FarStore$Site", "number", "I", true)
  | 1 => ("FarStore$Site", "seenOf", "[I", true)
  | 2 => ("FarStore$Site", "held", "Ljava/util/ArrayList;", true)
  | _ => ("FarStore$Site", "inbox", "Ljava/util/ArrayList;", true)
def R_Item : String := "FarStore$Item"
def F_Item : u_T := fun k => match k with
  | 0 => ("FarStore$Item", "home", "I", true)
  | 1 => ("FarStore$Item", "isSet", "Z", true)
  | 2 => ("FarStore$Item", "writes", "Ljava/util/ArrayList;", true)
  | 3 => ("FarStore$Item", "changes", "Ljava/util/ArrayList;", true)
  | _ => ("FarStore$Item", "lockedBy", "I", false)
def R_Tran : String := "FarStore$Transaction"
def F_Tran : u_T := fun k => match k with
  | 0 => ("FarStore$Transaction", "number", "I", true)
  | 1 => ("FarStore$Transaction", "site", "I", true)
  | 2 => ("FarStore$Transaction", "start", "[I", true)
  | 3 => ("FarStore$Transaction", "writes", "Ljava/util/ArrayList;", true)
  | 4 => ("FarStore$Transaction", "changes", "Ljava/util/ArrayList;", true)
  | 5 => ("FarStore$Transaction", "phase", "I", false)
  | 6 => ("FarStore$Transaction", "commitNumber", "I", false)
  | _ => ("FarStore$Transaction", "yesesDue", "I", false)
def R_Write : String := "FarStore$Write"
def F_Write : u_T := fun k => match k with
  | 0 => ("FarStore$Write", "by", "LFarStore$Transaction;", true)
  | 1 => ("FarStore$Write", "item", "LFarStore$Item;", true)
  | _ => ("FarStore$Write", "value", "J", false)
def R_Change : String := "FarStore$Change"
def F_Change : u_T := fun k => match k with
  | 0 => ("FarStore$Change", "by", "LFarStore$Transaction;", true)
  | 1 => ("FarStore$Change", "item", "LFarStore$Item;", true)
  | 2 => ("FarStore$Change", "element", "I", true)
  | _ => ("FarStore$Change", "amount", "I", true)
def R_Msg : String := "FarStore$Message"
def F_Msg : u_T := fun k => match k with
  | 0 => ("FarStore$Message", "sort", "I", true)
  | 1 => ("FarStore$Message", "from", "I", true)
  | _ => ("FarStore$Message", "about", "LFarStore$Transaction;", true)
def R_List : String := "java/util/ArrayList"
def F_List : u_T := fun k => match k with
  | 0 => ("java/util/ArrayList", "elementData", "[Ljava/lang/Object;", false)
  | 1 => ("java/util/ArrayList", "size", "I", false)
  | _ => ("java/util/AbstractList", "modCount", "I", false)
def R_Model : String := "FarStoreModel"
def F_Model : u_T := fun k => match k with
  | 0 => ("FarStoreModel", "thrown", "I", false)
  | 1 => ("FarStoreModel", "sites", "I", false)
  | 2 => ("FarStoreModel", "objects", "I", false)
  | 3 => ("FarStoreModel", "transactions", "I", false)
  | 4 => ("FarStoreModel", "ops", "I", false)
  | 5 => ("FarStoreModel", "messages", "I", false)
  | 6 => ("FarStoreModel", "commits", "I", false)
  | 7 => ("FarStoreModel", "home", "[I", true)
  | 8 => ("FarStoreModel", "lock", "[I", true)
  | 9 => ("FarStoreModel", "isSet", "[Z", true)
  | 10 => ("FarStoreModel", "siteOf", "[I", true)
  | 11 => ("FarStoreModel", "state", "[I", true)
  | 12 => ("FarStoreModel", "number", "[I", true)
  | 13 => ("FarStoreModel", "start", "[I", true)
  | 14 => ("FarStoreModel", "yes", "[I", true)
  | 15 => ("FarStoreModel", "asked", "[I", true)
  | 16 => ("FarStoreModel", "opTran", "[I", true)
  | 17 => ("FarStoreModel", "opObject", "[I", true)
  | 18 => ("FarStoreModel", "opSign", "[I", true)
  | 19 => ("FarStoreModel", "opValue", "[J", true)
  | 20 => ("FarStoreModel", "applied", "[I", true)
  | 21 => ("FarStoreModel", "made", "[I", true)
  | 22 => ("FarStoreModel", "committed", "[I", true)
  | 23 => ("FarStoreModel", "from", "[I", true)
  | 24 => ("FarStoreModel", "to", "[I", true)
  | 25 => ("FarStoreModel", "sort", "[I", true)
  | 26 => ("FarStoreModel", "of", "[I", true)
  | 27 => ("FarStoreModel", "held", "[I", true)
  | _ => ("FarStoreModel", "heldMany", "[I", true)
def R_Iae : String := "java/lang/IllegalArgumentException"
def F_Iae : u_T := fun _ => ("", "", "", false)
def R_Ise : String := "java/lang/IllegalStateException"
def F_Ise : u_T := fun _ => ("", "", "", false)
def R_Nse : String := "java/util/NoSuchElementException"
def F_Nse : u_T := fun _ => ("", "", "", false)
def t_Store : Nat → FieldType := fun k => match k with
  | 0 => .array (.object "FarStore$Site")
  | 1 => .object "java/util/ArrayList"
  | 2 => .object "java/util/ArrayList"
  | 3 => .object "FarStore$Tally"
  | 4 => .int
  | _ => .int
def t_Tally : Nat → FieldType := fun k => match k with
  | 0 => .array (.int)
  | 1 => .array (.int)
  | _ => .int
def t_Site : Nat → FieldType := fun k => match k with
  | 0 => .int
  | 1 => .array (.int)
  | 2 => .object "java/util/ArrayList"
  | _ => .object "java/util/ArrayList"
def t_Item : Nat → FieldType := fun k => match k with
  | 0 => .int
  | 1 => .boolean
  | 2 => .object "java/util/ArrayList"
  | 3 => .object "java/util/ArrayList"
  | _ => .int
def t_Tran : Nat → FieldType := fun k => match k with
  | 0 => .int
  | 1 => .int
  | 2 => .array (.int)
  | 3 => .object "java/util/ArrayList"
  | 4 => .object "java/util/ArrayList"
  | 5 => .int
  | 6 => .int
  | _ => .int
def t_Write : Nat → FieldType := fun k => match k with
  | 0 => .object "FarStore$Transaction"
  | 1 => .object "FarStore$Item"
  | _ => .long
def t_Change : Nat → FieldType := fun k => match k with
  | 0 => .object "FarStore$Transaction"
  | 1 => .object "FarStore$Item"
  | 2 => .int
  | _ => .int
def t_Msg : Nat → FieldType := fun k => match k with
  | 0 => .int
  | 1 => .int
  | _ => .object "FarStore$Transaction"
def t_List : Nat → FieldType := fun k => match k with
  | 0 => .array (.object "java/lang/Object")
  | 1 => .int
  | _ => .int
def t_Model : Nat → FieldType := fun k => match k with
  | 0 => .int
  | 1 => .int
  | 2 => .int
  | 3 => .int
  | 4 => .int
  | 5 => .int
  | 6 => .int
  | 7 => .array (.int)
  | 8 => .array (.int)
  | 9 => .array (.boolean)
  | 10 => .array (.int)
  | 11 => .array (.int)
  | 12 => .array (.int)
  | 13 => .array (.int)
  | 14 => .array (.int)
  | 15 => .array (.int)
  | 16 => .array (.int)
  | 17 => .array (.int)
  | 18 => .array (.int)
  | 19 => .array (.long)
  | 20 => .array (.int)
  | 21 => .array (.int)
  | 22 => .array (.int)
  | 23 => .array (.int)
  | 24 => .array (.int)
  | 25 => .array (.int)
  | 26 => .array (.int)
  | 27 => .array (.int)
  | _ => .array (.int)
def t_Iae : Nat → FieldType := fun _ => .int
def t_Ise : Nat → FieldType := fun _ => .int
def t_Nse : Nat → FieldType := fun _ => .int
abbrev classes : List vw_C := [(R_Store, F_Store, 6), (R_Tally, F_Tally, 3), (R_Site, F_Site, 4), (R_Item, F_Item, 5), (R_Tran, F_Tran, 8), (R_Write, F_Write, 3), (R_Change, F_Change, 4), (R_Msg, F_Msg, 3), (R_List, F_List, 3), (R_Model, F_Model, 29), (R_Iae, F_Iae, 0), (R_Ise, F_Ise, 0), (R_Nse, F_Nse, 0)]
def tyF : Nat → Nat → FieldType := fun ci => match ci with
  | 0 => t_Store
  | 1 => t_Tally
  | 2 => t_Site
  | 3 => t_Item
  | 4 => t_Tran
  | 5 => t_Write
  | 6 => t_Change
  | 7 => t_Msg
  | 8 => t_List
  | 9 => t_Model
  | 10 => t_Iae
  | 11 => t_Ise
  | _ => t_Nse
def ciSite : Nat := 2
def nSite : String := R_Site
/-- the kinds of the fields: 0 int, 1 boolean, 2 long, 3 reference -/
def fkind : Nat → List Nat := fun ci => match ci with
  | 0 => [3, 3, 3, 3, 0, 0]
  | 1 => [3, 3, 0]
  | 2 => [0, 3, 3, 3]
  | 3 => [0, 1, 3, 3, 0]
  | 4 => [0, 0, 3, 3, 3, 0, 0, 0]
  | 5 => [3, 3, 2]
  | 6 => [3, 3, 0, 0]
  | 7 => [0, 0, 3]
  | 8 => [3, 0, 0]
  | 9 => [0, 0, 0, 0, 0, 0, 0, 3, 3, 3, 3, 3, 3, 3, 3, 3, 3, 3, 3, 3, 3, 3, 3, 3, 3, 3, 3, 3, 3]
  | 10 => []
  | 11 => []
  | _ => []
def nam : Nat → MethodName := fun i => match i with
  | 0 => ⟨"FarStore", "<init>", "()V"⟩
  | 1 => ⟨"java/util/ArrayList", "<init>", "()V"⟩
  | 2 => ⟨"java/util/AbstractList", "<init>", "()V"⟩
  | 3 => ⟨"java/util/AbstractCollection", "<init>", "()V"⟩
  | 4 => ⟨"FarStore$Tally", "<init>", "()V"⟩
  | 5 => ⟨"FarStore", "count", "(I)I"⟩
  | 6 => ⟨"java/util/ArrayList", "size", "()I"⟩
  | 7 => ⟨"FarStore", "commitsHeld", "()I"⟩
  | 8 => ⟨"FarStore", "messagesWaiting", "()I"⟩
  | 9 => ⟨"FarStoreLaw", "sites", "(LFarStore;I)I"⟩
  | 10 => ⟨"FarStore", "sites", "(I)V"⟩
  | 11 => ⟨"FarStore$Site", "<init>", "(II)V"⟩
  | 12 => ⟨"FarStoreLaw", "object", "(LFarStore;IZ[J)I"⟩
  | 13 => ⟨"FarStore", "object", "(IZ)I"⟩
  | 14 => ⟨"FarStore", "needSite", "(I)V"⟩
  | 15 => ⟨"FarStore$Item", "<init>", "(IZ)V"⟩
  | 16 => ⟨"java/util/ArrayList", "add", "(Ljava/lang/Object;)Z"⟩
  | 17 => ⟨"java/util/ArrayList", "add", "(Ljava/lang/Object;[Ljava/lang/Object;I)V"⟩
  | 18 => ⟨"java/util/ArrayList", "grow", "()[Ljava/lang/Object;"⟩
  | 19 => ⟨"java/util/ArrayList", "grow", "(I)[Ljava/lang/Object;"⟩
  | 20 => ⟨"jdk/internal/util/ArraysSupport", "newLength", "(III)I"⟩
  | 21 => ⟨"java/util/Arrays", "copyOf", "([Ljava/lang/Object;I)[Ljava/lang/Object;"⟩
  | 22 => ⟨"java/util/Arrays", "copyOf", "([Ljava/lang/Object;ILjava/lang/Class;)[Ljava/lang/Object;"⟩
  | 23 => ⟨"FarStoreLaw", "begin", "(LFarStore;I[J)I"⟩
  | 24 => ⟨"FarStore", "begin", "(I)I"⟩
  | 25 => ⟨"FarStore$Transaction", "<init>", "(II[I)V"⟩
  | 26 => ⟨"FarStoreLaw", "read", "(LFarStore;II[J)I"⟩
  | 27 => ⟨"FarStore", "read", "(II)J"⟩
  | 28 => ⟨"FarStore", "transactionOf", "(I)LFarStore$Transaction;"⟩
  | 29 => ⟨"java/util/ArrayList", "get", "(I)Ljava/lang/Object;"⟩
  | 30 => ⟨"java/util/Objects", "checkIndex", "(II)I"⟩
  | 31 => ⟨"jdk/internal/util/Preconditions", "checkIndex", "(IILjava/util/function/BiFunction;)I"⟩
  | 32 => ⟨"java/util/ArrayList", "elementData", "(I)Ljava/lang/Object;"⟩
  | 33 => ⟨"FarStore", "plainItem", "(I)LFarStore$Item;"⟩
  | 34 => ⟨"FarStore", "itemOf", "(I)LFarStore$Item;"⟩
  | 35 => ⟨"FarStore", "needOpen", "(LFarStore$Transaction;)V"⟩
  | 36 => ⟨"FarStore$Transaction", "valueOf", "(LFarStore$Item;)J"⟩
  | 37 => ⟨"FarStore$Transaction", "ownWrite", "(LFarStore$Item;)LFarStore$Write;"⟩
  | 38 => ⟨"FarStore$Transaction", "sees", "(LFarStore$Transaction;)Z"⟩
  | 39 => ⟨"FarStoreLaw", "write", "(LFarStore;IIJ)I"⟩
  | 40 => ⟨"FarStore", "write", "(IIJ)V"⟩
  | 41 => ⟨"FarStore$Transaction", "keepWrite", "(LFarStore$Item;J)V"⟩
  | 42 => ⟨"FarStore$Write", "<init>", "(LFarStore$Transaction;LFarStore$Item;J)V"⟩
  | 43 => ⟨"FarStoreLaw", "change", "(LFarStore;IIIZ)I"⟩
  | 44 => ⟨"FarStore", "change", "(IIIZ)V"⟩
  | 45 => ⟨"FarStore", "setItem", "(I)LFarStore$Item;"⟩
  | 46 => ⟨"FarStore$Change", "<init>", "(LFarStore$Transaction;LFarStore$Item;II)V"⟩
  | 47 => ⟨"FarStoreLaw", "count", "(LFarStore;III[J)I"⟩
  | 48 => ⟨"FarStore", "count", "(III)I"⟩
  | 49 => ⟨"FarStore$Transaction", "countOf", "(LFarStore$Item;I)I"⟩
  | 50 => ⟨"FarStoreLaw", "element", "(LFarStore;III[J)I"⟩
  | 51 => ⟨"FarStore", "element", "(III)I"⟩
  | 52 => ⟨"FarStore$Transaction", "countAll", "(LFarStore$Item;LFarStore$Tally;)V"⟩
  | 53 => ⟨"FarStore$Tally", "clear", "()V"⟩
  | 54 => ⟨"FarStore$Tally", "take", "(LFarStore$Change;)V"⟩
  | 55 => ⟨"FarStore$Tally", "firstNotBelow", "(I)I"⟩
  | 56 => ⟨"FarStore$Tally", "makeRoomAt", "(I)V"⟩
  | 57 => ⟨"java/util/Arrays", "copyOf", "([II)[I"⟩
  | 58 => ⟨"FarStore$Tally", "placeOf", "(I)I"⟩
  | 59 => ⟨"FarStoreLaw", "commit", "(LFarStore;I[J)I"⟩
  | 60 => ⟨"FarStore", "commit", "(I)I"⟩
  | 61 => ⟨"FarStore", "tryToCommit", "(LFarStore$Transaction;)V"⟩
  | 62 => ⟨"java/util/ArrayList", "isEmpty", "()Z"⟩
  | 63 => ⟨"FarStore$Transaction", "hasConflictAt", "(LFarStore$Site;)Z"⟩
  | 64 => ⟨"FarStore$Item", "hasConflict", "(LFarStore$Transaction;LFarStore$Site;)Z"⟩
  | 65 => ⟨"FarStore$Site", "hasApplied", "(LFarStore$Transaction;)Z"⟩
  | 66 => ⟨"FarStore", "otherHomes", "(LFarStore$Transaction;)I"⟩
  | 67 => ⟨"FarStore$Transaction", "asks", "(I)Z"⟩
  | 68 => ⟨"FarStore", "makeCommit", "(LFarStore$Transaction;)V"⟩
  | 69 => ⟨"FarStore$Transaction", "handToItems", "()V"⟩
  | 70 => ⟨"FarStore$Site", "apply", "(LFarStore$Transaction;)V"⟩
  | 71 => ⟨"FarStore$Transaction", "unlockAt", "(LFarStore$Site;)V"⟩
  | 72 => ⟨"FarStore$Message", "<init>", "(IILFarStore$Transaction;)V"⟩
  | 73 => ⟨"FarStore$Transaction", "lockAt", "(LFarStore$Site;)V"⟩
  | 74 => ⟨"FarStore", "sendToOtherHomes", "(LFarStore$Transaction;II)V"⟩
  | 75 => ⟨"FarStoreLaw", "abort", "(LFarStore;I)I"⟩
  | 76 => ⟨"FarStore", "abort", "(I)V"⟩
  | 77 => ⟨"FarStoreLaw", "deliver", "(LFarStore;II[J)I"⟩
  | 78 => ⟨"FarStore", "deliver", "(II)I"⟩
  | 79 => ⟨"FarStore", "needTwoSites", "(II)V"⟩
  | 80 => ⟨"FarStore$Site", "takeFrom", "(I)LFarStore$Message;"⟩
  | 81 => ⟨"java/util/ArrayList", "remove", "(I)Ljava/lang/Object;"⟩
  | 82 => ⟨"java/util/ArrayList", "fastRemove", "([Ljava/lang/Object;I)V"⟩
  | 83 => ⟨"FarStore", "arrive", "(LFarStore$Message;LFarStore$Site;)V"⟩
  | 84 => ⟨"FarStore", "answer", "(LFarStore$Transaction;LFarStore$Site;)V"⟩
  | 85 => ⟨"FarStore", "hearYes", "(LFarStore$Transaction;)V"⟩
  | 86 => ⟨"FarStore", "hearNo", "(LFarStore$Transaction;I)V"⟩
  | 87 => ⟨"FarStore$Site", "receive", "(LFarStore$Transaction;)V"⟩
  | 88 => ⟨"FarStore$Site", "canApply", "(LFarStore$Transaction;)Z"⟩
  | 89 => ⟨"FarStore$Site", "applyHeld", "()V"⟩
  | 90 => ⟨"FarStore$Site", "firstThatCanBeApplied", "()I"⟩
  | 91 => ⟨"FarStoreLaw", "waiting", "(LFarStore;II[J)I"⟩
  | 92 => ⟨"FarStore", "waiting", "(II)I"⟩
  | 93 => ⟨"FarStore$Site", "waitingFrom", "(I)I"⟩
  | 94 => ⟨"FarStoreLaw", "seen", "(LFarStore;II[J)I"⟩
  | 95 => ⟨"FarStore", "seen", "(II)I"⟩
  | 96 => ⟨"FarStoreLaw", "state", "(LFarStore;II[J)I"⟩
  | 97 => ⟨"FarStore", "state", "(II)I"⟩
  | 98 => ⟨"FarStore", "sitesThatApplied", "(LFarStore$Transaction;)I"⟩
  | 99 => ⟨"FarStoreLaw", "locked", "(LFarStore;I[J)I"⟩
  | 100 => ⟨"FarStore", "locked", "(I)I"⟩
  | 101 => ⟨"FarStoreModel", "<init>", "()V"⟩
  | 102 => ⟨"FarStoreModel", "thrown", "()I"⟩
  | 103 => ⟨"FarStoreModel", "sites", "(I)V"⟩
  | 104 => ⟨"FarStoreModel", "fails", "(ZZ)Z"⟩
  | 105 => ⟨"FarStoreModel", "object", "(IZ)I"⟩
  | 106 => ⟨"FarStoreModel", "isSite", "(I)Z"⟩
  | 107 => ⟨"FarStoreModel", "begin", "(I)I"⟩
  | 108 => ⟨"FarStoreModel", "read", "(II)J"⟩
  | 109 => ⟨"FarStoreModel", "isWrong", "(IIZ)Z"⟩
  | 110 => ⟨"FarStoreModel", "isTran", "(I)Z"⟩
  | 111 => ⟨"FarStoreModel", "isObject", "(I)Z"⟩
  | 112 => ⟨"FarStoreModel", "wrote", "(II)Z"⟩
  | 113 => ⟨"FarStoreModel", "lastOf", "(II)J"⟩
  | 114 => ⟨"FarStoreModel", "visible", "(II)Z"⟩
  | 115 => ⟨"FarStoreModel", "write", "(IIJ)V"⟩
  | 116 => ⟨"FarStoreModel", "did", "(IIJI)V"⟩
  | 117 => ⟨"FarStoreModel", "change", "(IIIZ)V"⟩
  | 118 => ⟨"FarStoreModel", "count", "(III)I"⟩
  | 119 => ⟨"FarStoreModel", "countOf", "(IIJ)I"⟩
  | 120 => ⟨"FarStoreModel", "element", "(III)I"⟩
  | 121 => ⟨"FarStoreModel", "no", "(I)I"⟩
  | 122 => ⟨"FarStoreModel", "commit", "(I)I"⟩
  | 123 => ⟨"FarStoreModel", "commits", "(I)V"⟩
  | 124 => ⟨"FarStoreModel", "unlock", "(II)V"⟩
  | 125 => ⟨"FarStoreModel", "send", "(IIII)V"⟩
  | 126 => ⟨"FarStoreModel", "release", "(I)V"⟩
  | 127 => ⟨"FarStoreModel", "canBe", "(II)Z"⟩
  | 128 => ⟨"FarStoreModel", "anyConflict", "(II)Z"⟩
  | 129 => ⟨"FarStoreModel", "conflict", "(II)Z"⟩
  | 130 => ⟨"FarStoreModel", "locks", "(II)V"⟩
  | 131 => ⟨"FarStoreModel", "writesAt", "(II)Z"⟩
  | 132 => ⟨"FarStoreModel", "abort", "(I)V"⟩
  | 133 => ⟨"FarStoreModel", "deliver", "(II)I"⟩
  | 134 => ⟨"FarStoreModel", "arrives", "(IIII)V"⟩
  | 135 => ⟨"FarStoreModel", "waiting", "(II)I"⟩
  | 136 => ⟨"FarStoreModel", "seen", "(II)I"⟩
  | 137 => ⟨"FarStoreModel", "state", "(II)I"⟩
  | 138 => ⟨"FarStoreModel", "locked", "(I)I"⟩
  | 139 => ⟨"FarStoreModel", "count", "(I)I"⟩
  | _ => ⟨"FarStoreLaw", "law", "([I)Z"⟩
def bts : Nat → ByteArray := fun i => match i with
  | 0 => prog_1_method_1_code
  | 1 => prog_24_method_2_code
  | 2 => prog_23_method_1_code
  | 3 => prog_22_method_1_code
  | 4 => prog_6_method_1_code
  | 5 => prog_1_method_17_code
  | 6 => prog_24_method_8_code
  | 7 => prog_1_method_34_code
  | 8 => prog_1_method_35_code
  | 9 => method_3_code
  | 10 => prog_1_method_2_code
  | 11 => prog_5_method_1_code
  | 12 => method_4_code
  | 13 => prog_1_method_3_code
  | 14 => prog_1_method_18_code
  | 15 => prog_3_method_1_code
  | 16 => prog_24_method_25_code
  | 17 => prog_24_method_24_code
  | 18 => prog_24_method_7_code
  | 19 => prog_24_method_6_code
  | 20 => prog_32_method_27_code
  | 21 => prog_25_method_119_code
  | 22 => prog_25_method_120_code
  | 23 => method_5_code
  | 24 => prog_1_method_4_code
  | 25 => prog_7_method_1_code
  | 26 => method_6_code
  | 27 => prog_1_method_5_code
  | 28 => prog_1_method_20_code
  | 29 => prog_24_method_20_code
  | 30 => prog_29_method_17_code
  | 31 => prog_33_method_11_code
  | 32 => prog_24_method_18_code
  | 33 => prog_1_method_22_code
  | 34 => prog_1_method_21_code
  | 35 => prog_1_method_24_code
  | 36 => prog_7_method_4_code
  | 37 => prog_7_method_12_code
  | 38 => prog_7_method_2_code
  | 39 => method_7_code
  | 40 => prog_1_method_6_code
  | 41 => prog_7_method_3_code
  | 42 => prog_8_method_1_code
  | 43 => method_8_code
  | 44 => prog_1_method_7_code
  | 45 => prog_1_method_23_code
  | 46 => prog_2_method_1_code
  | 47 => method_9_code
  | 48 => prog_1_method_8_code
  | 49 => prog_7_method_5_code
  | 50 => method_10_code
  | 51 => prog_1_method_9_code
  | 52 => prog_7_method_6_code
  | 53 => prog_6_method_2_code
  | 54 => prog_6_method_3_code
  | 55 => prog_6_method_5_code
  | 56 => prog_6_method_6_code
  | 57 => prog_25_method_123_code
  | 58 => prog_6_method_4_code
  | 59 => method_11_code
  | 60 => prog_1_method_10_code
  | 61 => prog_1_method_25_code
  | 62 => prog_24_method_9_code
  | 63 => prog_7_method_8_code
  | 64 => prog_3_method_2_code
  | 65 => prog_5_method_4_code
  | 66 => prog_1_method_26_code
  | 67 => prog_7_method_7_code
  | 68 => prog_1_method_28_code
  | 69 => prog_7_method_11_code
  | 70 => prog_5_method_6_code
  | 71 => prog_7_method_10_code
  | 72 => prog_4_method_1_code
  | 73 => prog_7_method_9_code
  | 74 => prog_1_method_27_code
  | 75 => method_12_code
  | 76 => prog_1_method_11_code
  | 77 => method_13_code
  | 78 => prog_1_method_12_code
  | 79 => prog_1_method_19_code
  | 80 => prog_5_method_2_code
  | 81 => prog_24_method_29_code
  | 82 => prog_24_method_39_code
  | 83 => prog_1_method_29_code
  | 84 => prog_1_method_30_code
  | 85 => prog_1_method_31_code
  | 86 => prog_1_method_32_code
  | 87 => prog_5_method_5_code
  | 88 => prog_5_method_7_code
  | 89 => prog_5_method_8_code
  | 90 => prog_5_method_9_code
  | 91 => method_14_code
  | 92 => prog_1_method_13_code
  | 93 => prog_5_method_3_code
  | 94 => method_15_code
  | 95 => prog_1_method_14_code
  | 96 => method_16_code
  | 97 => prog_1_method_15_code
  | 98 => prog_1_method_33_code
  | 99 => method_17_code
  | 100 => prog_1_method_16_code
  | 101 => prog_10_method_1_code
  | 102 => prog_10_method_2_code
  | 103 => prog_10_method_8_code
  | 104 => prog_10_method_4_code
  | 105 => prog_10_method_9_code
  | 106 => prog_10_method_5_code
  | 107 => prog_10_method_10_code
  | 108 => prog_10_method_15_code
  | 109 => prog_10_method_14_code
  | 110 => prog_10_method_7_code
  | 111 => prog_10_method_6_code
  | 112 => prog_10_method_12_code
  | 113 => prog_10_method_13_code
  | 114 => prog_10_method_11_code
  | 115 => prog_10_method_17_code
  | 116 => prog_10_method_16_code
  | 117 => prog_10_method_18_code
  | 118 => prog_10_method_20_code
  | 119 => prog_10_method_19_code
  | 120 => prog_10_method_21_code
  | 121 => prog_10_method_3_code
  | 122 => prog_10_method_29_code
  | 123 => prog_10_method_28_code
  | 124 => prog_10_method_26_code
  | 125 => prog_10_method_27_code
  | 126 => prog_10_method_32_code
  | 127 => prog_10_method_31_code
  | 128 => prog_10_method_23_code
  | 129 => prog_10_method_22_code
  | 130 => prog_10_method_25_code
  | 131 => prog_10_method_24_code
  | 132 => prog_10_method_30_code
  | 133 => prog_10_method_33_code
  | 134 => prog_10_method_34_code
  | 135 => prog_10_method_35_code
  | 136 => prog_10_method_36_code
  | 137 => prog_10_method_37_code
  | 138 => prog_10_method_38_code
  | 139 => prog_10_method_39_code
  | _ => code
def mxl : Nat → Nat := fun i => match i with
  | 0 => 1
  | 1 => 1
  | 2 => 1
  | 3 => 1
  | 4 => 1
  | 5 => 2
  | 6 => 1
  | 7 => 3
  | 8 => 3
  | 9 => 3
  | 10 => 4
  | 11 => 3
  | 12 => 5
  | 13 => 3
  | 14 => 2
  | 15 => 3
  | 16 => 2
  | 17 => 4
  | 18 => 1
  | 19 => 4
  | 20 => 4
  | 21 => 2
  | 22 => 4
  | 23 => 4
  | 24 => 3
  | 25 => 4
  | 26 => 5
  | 27 => 5
  | 28 => 2
  | 29 => 2
  | 30 => 2
  | 31 => 3
  | 32 => 2
  | 33 => 3
  | 34 => 2
  | 35 => 2
  | 36 => 5
  | 37 => 3
  | 38 => 2
  | 39 => 6
  | 40 => 7
  | 41 => 5
  | 42 => 5
  | 43 => 6
  | 44 => 7
  | 45 => 3
  | 46 => 5
  | 47 => 6
  | 48 => 6
  | 49 => 6
  | 50 => 6
  | 51 => 7
  | 52 => 5
  | 53 => 1
  | 54 => 3
  | 55 => 6
  | 56 => 2
  | 57 => 3
  | 58 => 4
  | 59 => 4
  | 60 => 3
  | 61 => 4
  | 62 => 1
  | 63 => 4
  | 64 => 5
  | 65 => 2
  | 66 => 4
  | 67 => 3
  | 68 => 4
  | 69 => 2
  | 70 => 2
  | 71 => 4
  | 72 => 4
  | 73 => 4
  | 74 => 5
  | 75 => 3
  | 76 => 3
  | 77 => 5
  | 78 => 4
  | 79 => 3
  | 80 => 3
  | 81 => 4
  | 82 => 4
  | 83 => 4
  | 84 => 4
  | 85 => 2
  | 86 => 3
  | 87 => 2
  | 88 => 3
  | 89 => 3
  | 90 => 2
  | 91 => 5
  | 92 => 3
  | 93 => 4
  | 94 => 5
  | 95 => 3
  | 96 => 5
  | 97 => 4
  | 98 => 4
  | 99 => 4
  | 100 => 2
  | 101 => 1
  | 102 => 1
  | 103 => 2
  | 104 => 3
  | 105 => 3
  | 106 => 2
  | 107 => 4
  | 108 => 5
  | 109 => 4
  | 110 => 2
  | 111 => 2
  | 112 => 4
  | 113 => 6
  | 114 => 3
  | 115 => 5
  | 116 => 6
  | 117 => 5
  | 118 => 4
  | 119 => 7
  | 120 => 10
  | 121 => 2
  | 122 => 7
  | 123 => 4
  | 124 => 4
  | 125 => 5
  | 126 => 6
  | 127 => 4
  | 128 => 4
  | 129 => 6
  | 130 => 4
  | 131 => 4
  | 132 => 2
  | 133 => 5
  | 134 => 6
  | 135 => 5
  | 136 => 3
  | 137 => 5
  | 138 => 2
  | 139 => 4
  | _ => 8
def rty : Nat → Option FieldType := fun i => match i with
  | 0 => none
  | 1 => none
  | 2 => none
  | 3 => none
  | 4 => none
  | 5 => some (.int)
  | 6 => some (.int)
  | 7 => some (.int)
  | 8 => some (.int)
  | 9 => some (.int)
  | 10 => none
  | 11 => none
  | 12 => some (.int)
  | 13 => some (.int)
  | 14 => none
  | 15 => none
  | 16 => some (.boolean)
  | 17 => none
  | 18 => some ((.array (.object "java/lang/Object")))
  | 19 => some ((.array (.object "java/lang/Object")))
  | 20 => some (.int)
  | 21 => some ((.array (.object "java/lang/Object")))
  | 22 => some ((.array (.object "java/lang/Object")))
  | 23 => some (.int)
  | 24 => some (.int)
  | 25 => none
  | 26 => some (.int)
  | 27 => some (.long)
  | 28 => some ((.object "FarStore$Transaction"))
  | 29 => some ((.object "java/lang/Object"))
  | 30 => some (.int)
  | 31 => some (.int)
  | 32 => some ((.object "java/lang/Object"))
  | 33 => some ((.object "FarStore$Item"))
  | 34 => some ((.object "FarStore$Item"))
  | 35 => none
  | 36 => some (.long)
  | 37 => some ((.object "FarStore$Write"))
  | 38 => some (.boolean)
  | 39 => some (.int)
  | 40 => none
  | 41 => none
  | 42 => none
  | 43 => some (.int)
  | 44 => none
  | 45 => some ((.object "FarStore$Item"))
  | 46 => none
  | 47 => some (.int)
  | 48 => some (.int)
  | 49 => some (.int)
  | 50 => some (.int)
  | 51 => some (.int)
  | 52 => none
  | 53 => none
  | 54 => none
  | 55 => some (.int)
  | 56 => none
  | 57 => some ((.array .int))
  | 58 => some (.int)
  | 59 => some (.int)
  | 60 => some (.int)
  | 61 => none
  | 62 => some (.boolean)
  | 63 => some (.boolean)
  | 64 => some (.boolean)
  | 65 => some (.boolean)
  | 66 => some (.int)
  | 67 => some (.boolean)
  | 68 => none
  | 69 => none
  | 70 => none
  | 71 => none
  | 72 => none
  | 73 => none
  | 74 => none
  | 75 => some (.int)
  | 76 => none
  | 77 => some (.int)
  | 78 => some (.int)
  | 79 => none
  | 80 => some ((.object "FarStore$Message"))
  | 81 => some ((.object "java/lang/Object"))
  | 82 => none
  | 83 => none
  | 84 => none
  | 85 => none
  | 86 => none
  | 87 => none
  | 88 => some (.boolean)
  | 89 => none
  | 90 => some (.int)
  | 91 => some (.int)
  | 92 => some (.int)
  | 93 => some (.int)
  | 94 => some (.int)
  | 95 => some (.int)
  | 96 => some (.int)
  | 97 => some (.int)
  | 98 => some (.int)
  | 99 => some (.int)
  | 100 => some (.int)
  | 101 => none
  | 102 => some (.int)
  | 103 => none
  | 104 => some (.boolean)
  | 105 => some (.int)
  | 106 => some (.boolean)
  | 107 => some (.int)
  | 108 => some (.long)
  | 109 => some (.boolean)
  | 110 => some (.boolean)
  | 111 => some (.boolean)
  | 112 => some (.boolean)
  | 113 => some (.long)
  | 114 => some (.boolean)
  | 115 => none
  | 116 => none
  | 117 => none
  | 118 => some (.int)
  | 119 => some (.int)
  | 120 => some (.int)
  | 121 => some (.int)
  | 122 => some (.int)
  | 123 => none
  | 124 => none
  | 125 => none
  | 126 => none
  | 127 => some (.boolean)
  | 128 => some (.boolean)
  | 129 => some (.boolean)
  | 130 => none
  | 131 => some (.boolean)
  | 132 => none
  | 133 => some (.int)
  | 134 => none
  | 135 => some (.int)
  | 136 => some (.int)
  | 137 => some (.int)
  | 138 => some (.int)
  | 139 => some (.int)
  | _ => some (.boolean)
/-- the answer is a boolean -/
def rtb (i : Nat) : Bool := match rty i with
  | some .boolean => true
  | _ => false
/-- exception tables: as the class file has them, and with the numbers of the classes -/
def tbl : Nat → List (Nat × Nat × Nat × Nat) := fun i => match i with
  | 9 => [(0, 5, 8, 13), (0, 5, 11, 15)]
  | 12 => [(0, 10, 13, 13), (0, 10, 17, 15)]
  | 23 => [(0, 9, 12, 13), (0, 9, 15, 15)]
  | 26 => [(0, 9, 12, 13), (0, 9, 16, 15)]
  | 39 => [(0, 7, 10, 13), (0, 7, 14, 15)]
  | 43 => [(0, 9, 12, 13), (0, 9, 16, 15)]
  | 47 => [(0, 12, 15, 13), (0, 12, 19, 15)]
  | 50 => [(0, 12, 15, 13), (0, 12, 19, 15), (0, 12, 23, 44)]
  | 59 => [(0, 9, 12, 13), (0, 9, 15, 15)]
  | 75 => [(0, 5, 8, 13), (0, 5, 11, 15)]
  | 77 => [(0, 10, 13, 13), (0, 10, 17, 15)]
  | 91 => [(0, 10, 13, 13), (0, 10, 17, 15)]
  | 94 => [(0, 10, 13, 13), (0, 10, 17, 15)]
  | 96 => [(0, 10, 13, 13), (0, 10, 17, 15)]
  | 99 => [(0, 9, 12, 13), (0, 9, 15, 15)]
  | _ => []
def hdl : Nat → List (Nat × Nat × Nat × Nat) := fun i => match i with
  | 9 => [(0, 5, 8, 10), (0, 5, 11, 11)]
  | 12 => [(0, 10, 13, 10), (0, 10, 17, 11)]
  | 23 => [(0, 9, 12, 10), (0, 9, 15, 11)]
  | 26 => [(0, 9, 12, 10), (0, 9, 16, 11)]
  | 39 => [(0, 7, 10, 10), (0, 7, 14, 11)]
  | 43 => [(0, 9, 12, 10), (0, 9, 16, 11)]
  | 47 => [(0, 12, 15, 10), (0, 12, 19, 11)]
  | 50 => [(0, 12, 15, 10), (0, 12, 19, 11), (0, 12, 23, 12)]
  | 59 => [(0, 9, 12, 10), (0, 9, 15, 11)]
  | 75 => [(0, 5, 8, 10), (0, 5, 11, 11)]
  | 77 => [(0, 10, 13, 10), (0, 10, 17, 11)]
  | 91 => [(0, 10, 13, 10), (0, 10, 17, 11)]
  | 94 => [(0, 10, 13, 10), (0, 10, 17, 11)]
  | 96 => [(0, 10, 13, 10), (0, 10, 17, 11)]
  | 99 => [(0, 9, 12, 10), (0, 9, 15, 11)]
  | _ => []
/-- the frames and the words of locals that a method wants above its own -/
def frs : Nat → Nat := fun i => match i with
  | 0 => 4
  | 1 => 3
  | 2 => 2
  | 3 => 1
  | 4 => 1
  | 5 => 3
  | 6 => 1
  | 7 => 2
  | 8 => 2
  | 9 => 7
  | 10 => 6
  | 11 => 4
  | 12 => 8
  | 13 => 7
  | 14 => 6
  | 15 => 4
  | 16 => 6
  | 17 => 5
  | 18 => 4
  | 19 => 3
  | 20 => 1
  | 21 => 2
  | 22 => 1
  | 23 => 8
  | 24 => 7
  | 25 => 4
  | 26 => 9
  | 27 => 8
  | 28 => 6
  | 29 => 3
  | 30 => 2
  | 31 => 1
  | 32 => 1
  | 33 => 7
  | 34 => 6
  | 35 => 6
  | 36 => 5
  | 37 => 4
  | 38 => 1
  | 39 => 9
  | 40 => 8
  | 41 => 7
  | 42 => 1
  | 43 => 9
  | 44 => 8
  | 45 => 7
  | 46 => 1
  | 47 => 9
  | 48 => 8
  | 49 => 4
  | 50 => 9
  | 51 => 8
  | 52 => 4
  | 53 => 1
  | 54 => 3
  | 55 => 1
  | 56 => 2
  | 57 => 1
  | 58 => 1
  | 59 => 11
  | 60 => 10
  | 61 => 9
  | 62 => 1
  | 63 => 5
  | 64 => 4
  | 65 => 1
  | 66 => 5
  | 67 => 4
  | 68 => 8
  | 69 => 7
  | 70 => 5
  | 71 => 4
  | 72 => 1
  | 73 => 4
  | 74 => 7
  | 75 => 8
  | 76 => 7
  | 77 => 12
  | 78 => 11
  | 79 => 7
  | 80 => 4
  | 81 => 3
  | 82 => 1
  | 83 => 10
  | 84 => 7
  | 85 => 9
  | 86 => 8
  | 87 => 7
  | 88 => 1
  | 89 => 6
  | 90 => 4
  | 91 => 9
  | 92 => 8
  | 93 => 4
  | 94 => 8
  | 95 => 7
  | 96 => 8
  | 97 => 7
  | 98 => 2
  | 99 => 8
  | 100 => 7
  | 101 => 1
  | 102 => 1
  | 103 => 2
  | 104 => 1
  | 105 => 2
  | 106 => 1
  | 107 => 2
  | 108 => 3
  | 109 => 2
  | 110 => 1
  | 111 => 1
  | 112 => 1
  | 113 => 1
  | 114 => 1
  | 115 => 3
  | 116 => 1
  | 117 => 3
  | 118 => 3
  | 119 => 2
  | 120 => 3
  | 121 => 1
  | 122 => 4
  | 123 => 3
  | 124 => 1
  | 125 => 1
  | 126 => 2
  | 127 => 1
  | 128 => 3
  | 129 => 2
  | 130 => 2
  | 131 => 2
  | 132 => 2
  | 133 => 5
  | 134 => 4
  | 135 => 2
  | 136 => 2
  | 137 => 2
  | 138 => 2
  | 139 => 1
  | _ => 13
def lcs : Nat → Nat := fun i => match i with
  | 0 => 80
  | 1 => 60
  | 2 => 40
  | 3 => 20
  | 4 => 20
  | 5 => 62
  | 6 => 20
  | 7 => 40
  | 8 => 40
  | 9 => 125
  | 10 => 102
  | 11 => 80
  | 12 => 193
  | 13 => 171
  | 14 => 90
  | 15 => 80
  | 16 => 150
  | 17 => 127
  | 18 => 107
  | 19 => 84
  | 20 => 40
  | 21 => 63
  | 22 => 40
  | 23 => 193
  | 24 => 171
  | 25 => 80
  | 26 => 157
  | 27 => 133
  | 28 => 90
  | 29 => 63
  | 30 => 42
  | 31 => 20
  | 32 => 20
  | 33 => 111
  | 34 => 90
  | 35 => 90
  | 36 => 106
  | 37 => 84
  | 38 => 20
  | 39 => 221
  | 40 => 195
  | 41 => 171
  | 42 => 20
  | 43 => 197
  | 44 => 171
  | 45 => 111
  | 46 => 20
  | 47 => 158
  | 48 => 133
  | 49 => 84
  | 50 => 159
  | 51 => 133
  | 52 => 105
  | 53 => 20
  | 54 => 83
  | 55 => 20
  | 56 => 62
  | 57 => 40
  | 58 => 20
  | 59 => 260
  | 60 => 238
  | 61 => 215
  | 62 => 20
  | 63 => 108
  | 64 => 84
  | 65 => 20
  | 66 => 106
  | 67 => 84
  | 68 => 192
  | 69 => 171
  | 70 => 107
  | 71 => 84
  | 72 => 20
  | 73 => 84
  | 74 => 171
  | 75 => 133
  | 76 => 111
  | 77 => 282
  | 78 => 259
  | 79 => 111
  | 80 => 86
  | 81 => 63
  | 82 => 40
  | 83 => 236
  | 84 => 171
  | 85 => 215
  | 86 => 195
  | 87 => 171
  | 88 => 20
  | 89 => 128
  | 90 => 84
  | 91 => 155
  | 92 => 133
  | 93 => 84
  | 94 => 133
  | 95 => 111
  | 96 => 134
  | 97 => 111
  | 98 => 41
  | 99 => 132
  | 100 => 111
  | 101 => 20
  | 102 => 20
  | 103 => 42
  | 104 => 20
  | 105 => 42
  | 106 => 20
  | 107 => 42
  | 108 => 65
  | 109 => 42
  | 110 => 20
  | 111 => 20
  | 112 => 20
  | 113 => 20
  | 114 => 20
  | 115 => 65
  | 116 => 20
  | 117 => 65
  | 118 => 68
  | 119 => 42
  | 120 => 68
  | 121 => 20
  | 122 => 91
  | 123 => 68
  | 124 => 20
  | 125 => 20
  | 126 => 43
  | 127 => 20
  | 128 => 68
  | 129 => 43
  | 130 => 43
  | 131 => 43
  | 132 => 42
  | 133 => 116
  | 134 => 91
  | 135 => 42
  | 136 => 42
  | 137 => 42
  | 138 => 42
  | 139 => 20
  | _ => 306
/-- FarStore.<init>()V -/
def cd_0 : List (Nat × (OI × Nat)) := [(0, (.inl (.aload_n 0), 1)), (1, (.inr (7, 0, 0, 0, 0), 3)), (4, (.inl (.aload_n 0), 1)), (5, (.inl (.iconst 0), 1)), (6, (.inr (3, 3, 0, 0, 0), 3)), (9, (.inr (1, 0, 0, 3, 0), 3)), (12, (.inl (.aload_n 0), 1)), (13, (.inr (2, 8, 3, 0, 0), 3)), (16, (.inl .dup, 1)), (17, (.inr (17, 1, 1, 2, 0), 3)), (20, (.inr (1, 0, 1, 3, 0), 3)), (23, (.inl (.aload_n 0), 1)), (24, (.inr (2, 8, 3, 0, 0), 3)), (27, (.inl .dup, 1)), (28, (.inr (17, 1, 1, 2, 0), 3)), (31, (.inr (1, 0, 2, 3, 0), 3)), (34, (.inl (.aload_n 0), 1)), (35, (.inr (2, 1, 3, 0, 0), 3)), (38, (.inl .dup, 1)), (39, (.inr (17, 4, 1, 2, 0), 3)), (42, (.inr (1, 0, 3, 3, 0), 3)), (45, (.inl .return_, 1))]
/-- java/util/ArrayList.<init>()V -/
def cd_1 : List (Nat × (OI × Nat)) := [(0, (.inl (.aload_n 0), 1)), (1, (.inr (17, 2, 1, 2, 0), 3)), (4, (.inl (.aload_n 0), 1)), (5, (.inr (6, 0, 0, 0, 0), 3)), (8, (.inr (1, 8, 0, 3, 0), 3)), (11, (.inl .return_, 1))]
/-- java/util/AbstractList.<init>()V -/
def cd_2 : List (Nat × (OI × Nat)) := [(0, (.inl (.aload_n 0), 1)), (1, (.inr (17, 3, 1, 2, 0), 3)), (4, (.inl (.aload_n 0), 1)), (5, (.inl (.iconst 0), 1)), (6, (.inr (1, 8, 2, 0, 0), 3)), (9, (.inl .return_, 1))]
/-- java/util/AbstractCollection.<init>()V -/
def cd_3 : List (Nat × (OI × Nat)) := [(0, (.inl (.aload_n 0), 1)), (1, (.inr (7, 0, 0, 0, 0), 3)), (4, (.inl .return_, 1))]
/-- FarStore$Tally.<init>()V -/
def cd_4 : List (Nat × (OI × Nat)) := [(0, (.inl (.aload_n 0), 1)), (1, (.inr (7, 0, 0, 0, 0), 3)), (4, (.inl (.aload_n 0), 1)), (5, (.inl (.bipush 16), 2)), (7, (.inl (.newarray .int), 2)), (9, (.inr (1, 1, 0, 3, 0), 3)), (12, (.inl (.aload_n 0), 1)), (13, (.inl (.bipush 16), 2)), (15, (.inl (.newarray .int), 2)), (17, (.inr (1, 1, 1, 3, 0), 3)), (20, (.inl .return_, 1))]
/-- FarStore.count(I)I -/
def cd_5 : List (Nat × (OI × Nat)) := [(0, (.inl (.iload_n 1), 1)), (1, (.inl (.tableswitch 76 0 5 #[39, 45, 53, 61, 66, 71]), 39)), (40, (.inl (.aload_n 0), 1)), (41, (.inr (0, 0, 0, 0, 0), 3)), (44, (.inl .arraylength, 1)), (45, (.inl .ireturn, 1)), (46, (.inl (.aload_n 0), 1)), (47, (.inr (0, 0, 1, 0, 0), 3)), (50, (.inr (17, 6, 1, 1, 8), 3)), (53, (.inl .ireturn, 1)), (54, (.inl (.aload_n 0), 1)), (55, (.inr (0, 0, 2, 0, 0), 3)), (58, (.inr (17, 6, 1, 1, 8), 3)), (61, (.inl .ireturn, 1)), (62, (.inl (.aload_n 0), 1)), (63, (.inr (0, 0, 5, 0, 0), 3)), (66, (.inl .ireturn, 1)), (67, (.inl (.aload_n 0), 1)), (68, (.inr (17, 7, 1, 1, 0), 3)), (71, (.inl .ireturn, 1)), (72, (.inl (.aload_n 0), 1)), (73, (.inr (17, 8, 1, 1, 0), 3)), (76, (.inl .ireturn, 1)), (77, (.inl (.iconst (-1)), 1)), (78, (.inl .ireturn, 1))]
/-- java/util/ArrayList.size()I -/
def cd_6 : List (Nat × (OI × Nat)) := [(0, (.inl (.aload_n 0), 1)), (1, (.inr (0, 8, 1, 0, 0), 3)), (4, (.inl .ireturn, 1))]
/-- FarStore.commitsHeld()I -/
def cd_7 : List (Nat × (OI × Nat)) := [(0, (.inl (.iconst 0), 1)), (1, (.inl (.istore_n 1), 1)), (2, (.inl (.iconst 0), 1)), (3, (.inl (.istore_n 2), 1)), (4, (.inl (.iload_n 2), 1)), (5, (.inl (.aload_n 0), 1)), (6, (.inr (0, 0, 0, 0, 0), 3)), (9, (.inl .arraylength, 1)), (10, (.inl (.if_icmp .ge 24), 3)), (13, (.inl (.iload_n 1), 1)), (14, (.inl (.aload_n 0), 1)), (15, (.inr (0, 0, 0, 0, 0), 3)), (18, (.inl (.iload_n 2), 1)), (19, (.inl .aaload, 1)), (20, (.inr (0, 2, 2, 0, 0), 3)), (23, (.inr (17, 6, 1, 1, 8), 3)), (26, (.inl .iadd, 1)), (27, (.inl (.istore_n 1), 1)), (28, (.inl (.iinc 2 1), 3)), (31, (.inl (.goto (-27)), 3)), (34, (.inl (.iload_n 1), 1)), (35, (.inl .ireturn, 1))]
/-- FarStore.messagesWaiting()I -/
def cd_8 : List (Nat × (OI × Nat)) := [(0, (.inl (.iconst 0), 1)), (1, (.inl (.istore_n 1), 1)), (2, (.inl (.iconst 0), 1)), (3, (.inl (.istore_n 2), 1)), (4, (.inl (.iload_n 2), 1)), (5, (.inl (.aload_n 0), 1)), (6, (.inr (0, 0, 0, 0, 0), 3)), (9, (.inl .arraylength, 1)), (10, (.inl (.if_icmp .ge 24), 3)), (13, (.inl (.iload_n 1), 1)), (14, (.inl (.aload_n 0), 1)), (15, (.inr (0, 0, 0, 0, 0), 3)), (18, (.inl (.iload_n 2), 1)), (19, (.inl .aaload, 1)), (20, (.inr (0, 2, 3, 0, 0), 3)), (23, (.inr (17, 6, 1, 1, 8), 3)), (26, (.inl .iadd, 1)), (27, (.inl (.istore_n 1), 1)), (28, (.inl (.iinc 2 1), 3)), (31, (.inl (.goto (-27)), 3)), (34, (.inl (.iload_n 1), 1)), (35, (.inl .ireturn, 1))]
/-- FarStoreLaw.sites(LFarStore;I)I -/
def cd_9 : List (Nat × (OI × Nat)) := [(0, (.inl (.aload_n 0), 1)), (1, (.inl (.iload_n 1), 1)), (2, (.inr (17, 10, 2, 1, 0), 3)), (5, (.inl (.goto 9), 3)), (8, (.inl (.astore_n 2), 1)), (9, (.inl (.iconst 1), 1)), (10, (.inl .ireturn, 1)), (11, (.inl (.astore_n 2), 1)), (12, (.inl (.iconst 2), 1)), (13, (.inl .ireturn, 1)), (14, (.inl (.iconst 0), 1)), (15, (.inl .ireturn, 1))]
/-- FarStore.sites(I)V -/
def cd_10 : List (Nat × (OI × Nat)) := [(0, (.inl (.iload_n 1), 1)), (1, (.inl (.iconst 1), 1)), (2, (.inl (.if_icmp .lt 9), 3)), (5, (.inl (.iload_n 1), 1)), (6, (.inl (.bipush 6), 2)), (8, (.inl (.if_icmp .le 13), 3)), (11, (.inr (16, 10, 0, 0, 0), 10)), (21, (.inl (.aload_n 0), 1)), (22, (.inr (0, 0, 0, 0, 0), 3)), (25, (.inl .arraylength, 1)), (26, (.inl (.ifCond .le 13), 3)), (29, (.inr (16, 11, 0, 0, 0), 10)), (39, (.inl (.iload_n 1), 1)), (40, (.inr (3, 3, 0, 0, 0), 3)), (43, (.inl (.astore_n 2), 1)), (44, (.inl (.iconst 0), 1)), (45, (.inl (.istore_n 3), 1)), (46, (.inl (.iload_n 3), 1)), (47, (.inl (.iload_n 1), 1)), (48, (.inl (.if_icmp .ge 21), 3)), (51, (.inl (.aload_n 2), 1)), (52, (.inl (.iload_n 3), 1)), (53, (.inr (2, 2, 4, 0, 0), 3)), (56, (.inl .dup, 1)), (57, (.inl (.iload_n 3), 1)), (58, (.inl (.iload_n 1), 1)), (59, (.inr (17, 11, 3, 2, 0), 3)), (62, (.inl .aastore, 1)), (63, (.inl (.iinc 3 1), 3)), (66, (.inl (.goto (-20)), 3)), (69, (.inl (.aload_n 0), 1)), (70, (.inl (.aload_n 2), 1)), (71, (.inr (1, 0, 0, 3, 0), 3)), (74, (.inl .return_, 1))]
/-- FarStore$Site.<init>(II)V -/
def cd_11 : List (Nat × (OI × Nat)) := [(0, (.inl (.aload_n 0), 1)), (1, (.inr (7, 0, 0, 0, 0), 3)), (4, (.inl (.aload_n 0), 1)), (5, (.inl (.iload_n 1), 1)), (6, (.inr (1, 2, 0, 0, 0), 3)), (9, (.inl (.aload_n 0), 1)), (10, (.inl (.iload_n 2), 1)), (11, (.inl (.newarray .int), 2)), (13, (.inr (1, 2, 1, 3, 0), 3)), (16, (.inl (.aload_n 0), 1)), (17, (.inr (2, 8, 3, 0, 0), 3)), (20, (.inl .dup, 1)), (21, (.inr (17, 1, 1, 2, 0), 3)), (24, (.inr (1, 2, 2, 3, 0), 3)), (27, (.inl (.aload_n 0), 1)), (28, (.inr (2, 8, 3, 0, 0), 3)), (31, (.inl .dup, 1)), (32, (.inr (17, 1, 1, 2, 0), 3)), (35, (.inr (1, 2, 3, 3, 0), 3)), (38, (.inl .return_, 1))]
/-- FarStoreLaw.object(LFarStore;IZ[J)I -/
def cd_12 : List (Nat × (OI × Nat)) := [(0, (.inl (.aload_n 3), 1)), (1, (.inl (.iconst 0), 1)), (2, (.inl (.aload_n 0), 1)), (3, (.inl (.iload_n 1), 1)), (4, (.inl (.iload_n 2), 1)), (5, (.inr (17, 13, 3, 1, 0), 3)), (8, (.inl .i2l, 1)), (9, (.inl .lastore, 1)), (10, (.inl (.goto 11), 3)), (13, (.inl (.astore 4), 2)), (15, (.inl (.iconst 1), 1)), (16, (.inl .ireturn, 1)), (17, (.inl (.astore 4), 2)), (19, (.inl (.iconst 2), 1)), (20, (.inl .ireturn, 1)), (21, (.inl (.iconst 0), 1)), (22, (.inl .ireturn, 1))]
/-- FarStore.object(IZ)I -/
def cd_13 : List (Nat × (OI × Nat)) := [(0, (.inl (.aload_n 0), 1)), (1, (.inl (.iload_n 1), 1)), (2, (.inr (17, 14, 2, 1, 0), 3)), (5, (.inl (.aload_n 0), 1)), (6, (.inr (0, 0, 1, 0, 0), 3)), (9, (.inr (17, 6, 1, 1, 8), 3)), (12, (.inl (.sipush 200), 3)), (15, (.inl (.if_icmp .lt 13), 3)), (18, (.inr (16, 11, 0, 0, 0), 10)), (28, (.inl (.aload_n 0), 1)), (29, (.inr (0, 0, 1, 0, 0), 3)), (32, (.inr (2, 3, 5, 0, 0), 3)), (35, (.inl .dup, 1)), (36, (.inl (.iload_n 1), 1)), (37, (.inl (.iload_n 2), 1)), (38, (.inr (17, 15, 3, 2, 0), 3)), (41, (.inr (17, 16, 2, 1, 8), 3)), (44, (.inl .pop, 1)), (45, (.inl (.aload_n 0), 1)), (46, (.inr (0, 0, 1, 0, 0), 3)), (49, (.inr (17, 6, 1, 1, 8), 3)), (52, (.inl (.iconst 1), 1)), (53, (.inl .isub, 1)), (54, (.inl .ireturn, 1))]
/-- FarStore.needSite(I)V -/
def cd_14 : List (Nat × (OI × Nat)) := [(0, (.inl (.iload_n 1), 1)), (1, (.inl (.ifCond .lt 12), 3)), (4, (.inl (.iload_n 1), 1)), (5, (.inl (.aload_n 0), 1)), (6, (.inr (0, 0, 0, 0, 0), 3)), (9, (.inl .arraylength, 1)), (10, (.inl (.if_icmp .lt 13), 3)), (13, (.inr (16, 10, 0, 0, 0), 10)), (23, (.inl .return_, 1))]
/-- FarStore$Item.<init>(IZ)V -/
def cd_15 : List (Nat × (OI × Nat)) := [(0, (.inl (.aload_n 0), 1)), (1, (.inr (7, 0, 0, 0, 0), 3)), (4, (.inl (.aload_n 0), 1)), (5, (.inl (.iload_n 1), 1)), (6, (.inr (1, 3, 0, 0, 0), 3)), (9, (.inl (.aload_n 0), 1)), (10, (.inl (.iload_n 2), 1)), (11, (.inr (1, 3, 1, 1, 0), 3)), (14, (.inl (.aload_n 0), 1)), (15, (.inr (2, 8, 3, 0, 0), 3)), (18, (.inl .dup, 1)), (19, (.inr (17, 1, 1, 2, 0), 3)), (22, (.inr (1, 3, 2, 3, 0), 3)), (25, (.inl (.aload_n 0), 1)), (26, (.inr (2, 8, 3, 0, 0), 3)), (29, (.inl .dup, 1)), (30, (.inr (17, 1, 1, 2, 0), 3)), (33, (.inr (1, 3, 3, 3, 0), 3)), (36, (.inl (.aload_n 0), 1)), (37, (.inl (.iconst (-1)), 1)), (38, (.inr (1, 3, 4, 0, 0), 3)), (41, (.inl .return_, 1))]
/-- java/util/ArrayList.add(Ljava/lang/Object;)Z -/
def cd_16 : List (Nat × (OI × Nat)) := [(0, (.inl (.aload_n 0), 1)), (1, (.inl .dup, 1)), (2, (.inr (0, 8, 2, 0, 0), 3)), (5, (.inl (.iconst 1), 1)), (6, (.inl .iadd, 1)), (7, (.inr (1, 8, 2, 0, 0), 3)), (10, (.inl (.aload_n 0), 1)), (11, (.inl (.aload_n 1), 1)), (12, (.inl (.aload_n 0), 1)), (13, (.inr (0, 8, 0, 0, 0), 3)), (16, (.inl (.aload_n 0), 1)), (17, (.inr (0, 8, 1, 0, 0), 3)), (20, (.inr (17, 17, 4, 1, 8), 3)), (23, (.inl (.iconst 1), 1)), (24, (.inl .ireturn, 1))]
/-- java/util/ArrayList.add(Ljava/lang/Object;[Ljava/lang/Object;I)V -/
def cd_17 : List (Nat × (OI × Nat)) := [(0, (.inl (.iload_n 3), 1)), (1, (.inl (.aload_n 2), 1)), (2, (.inl .arraylength, 1)), (3, (.inl (.if_icmp .ne 8), 3)), (6, (.inl (.aload_n 0), 1)), (7, (.inr (17, 18, 1, 1, 8), 3)), (10, (.inl (.astore_n 2), 1)), (11, (.inl (.aload_n 2), 1)), (12, (.inl (.iload_n 3), 1)), (13, (.inl (.aload_n 1), 1)), (14, (.inl .aastore, 1)), (15, (.inl (.aload_n 0), 1)), (16, (.inl (.iload_n 3), 1)), (17, (.inl (.iconst 1), 1)), (18, (.inl .iadd, 1)), (19, (.inr (1, 8, 1, 0, 0), 3)), (22, (.inl .return_, 1))]
/-- java/util/ArrayList.grow()[Ljava/lang/Object; -/
def cd_18 : List (Nat × (OI × Nat)) := [(0, (.inl (.aload_n 0), 1)), (1, (.inl (.aload_n 0), 1)), (2, (.inr (0, 8, 1, 0, 0), 3)), (5, (.inl (.iconst 1), 1)), (6, (.inl .iadd, 1)), (7, (.inr (17, 19, 2, 1, 8), 3)), (10, (.inl .areturn, 1))]
/-- java/util/ArrayList.grow(I)[Ljava/lang/Object; -/
def cd_19 : List (Nat × (OI × Nat)) := [(0, (.inl (.aload_n 0), 1)), (1, (.inr (0, 8, 0, 0, 0), 3)), (4, (.inl .arraylength, 1)), (5, (.inl (.istore_n 2), 1)), (6, (.inl (.iload_n 2), 1)), (7, (.inl (.ifCond .gt 13), 3)), (10, (.inl (.aload_n 0), 1)), (11, (.inr (0, 8, 0, 0, 0), 3)), (14, (.inr (6, 0, 0, 0, 0), 3)), (17, (.inl (.if_acmp .eq 28), 3)), (20, (.inl (.iload_n 2), 1)), (21, (.inl (.iload_n 1), 1)), (22, (.inl (.iload_n 2), 1)), (23, (.inl .isub, 1)), (24, (.inl (.iload_n 2), 1)), (25, (.inl (.iconst 1), 1)), (26, (.inl .ishr, 1)), (27, (.inr (17, 20, 3, 0, 0), 3)), (30, (.inl (.istore_n 3), 1)), (31, (.inl (.aload_n 0), 1)), (32, (.inl (.aload_n 0), 1)), (33, (.inr (0, 8, 0, 0, 0), 3)), (36, (.inl (.iload_n 3), 1)), (37, (.inr (17, 21, 2, 0, 0), 3)), (40, (.inl .dup_x1, 1)), (41, (.inr (1, 8, 0, 3, 0), 3)), (44, (.inl .areturn, 1)), (45, (.inl (.aload_n 0), 1)), (46, (.inl (.bipush 10), 2)), (48, (.inl (.iload_n 1), 1)), (49, (.inr (11, 0, 0, 0, 0), 3)), (52, (.inr (3, 4, 0, 0, 0), 3)), (55, (.inl .dup_x1, 1)), (56, (.inr (1, 8, 0, 3, 0), 3)), (59, (.inl .areturn, 1))]
/-- jdk/internal/util/ArraysSupport.newLength(III)I -/
def cd_20 : List (Nat × (OI × Nat)) := [(0, (.inl (.iload_n 0), 1)), (1, (.inl (.iload_n 1), 1)), (2, (.inl (.iload_n 2), 1)), (3, (.inr (11, 0, 0, 0, 0), 3)), (6, (.inl .iadd, 1)), (7, (.inl (.istore_n 3), 1)), (8, (.inl (.iconst 0), 1)), (9, (.inl (.iload_n 3), 1)), (10, (.inl (.if_icmp .ge 11), 3)), (13, (.inl (.iload_n 3), 1)), (14, (.inr (18, 2147483639, 0, 0, 0), 2)), (16, (.inl (.if_icmp .gt 5), 3)), (19, (.inl (.iload_n 3), 1)), (20, (.inl .ireturn, 1)), (21, (.inl (.iload_n 0), 1)), (22, (.inl (.iload_n 1), 1)), (26, (.inl .ireturn, 1))]
/-- java/util/Arrays.copyOf([Ljava/lang/Object;I)[Ljava/lang/Object; -/
def cd_21 : List (Nat × (OI × Nat)) := [(0, (.inl (.aload_n 0), 1)), (1, (.inl (.iload_n 1), 1)), (2, (.inl (.aload_n 0), 1)), (3, (.inr (13, 0, 0, 0, 0), 3)), (6, (.inr (17, 22, 3, 0, 0), 3)), (9, (.inl .areturn, 1))]
/-- java/util/Arrays.copyOf([Ljava/lang/Object;ILjava/lang/Class;)[Ljava/lang/Object; -/
def cd_22 : List (Nat × (OI × Nat)) := [(0, (.inl (.aload_n 2), 1)), (1, (.inr (14, 0, 0, 0, 0), 2)), (3, (.inl (.if_acmp .ne 10), 3)), (6, (.inl (.iload_n 1), 1)), (7, (.inr (3, 4, 0, 0, 0), 3)), (10, (.inl (.goto 14), 3)), (13, (.inl (.aload_n 2), 1)), (17, (.inl (.iload_n 1), 1)), (21, (.inr (5, 4, 0, 0, 0), 3)), (24, (.inl (.astore_n 3), 1)), (25, (.inl (.aload_n 0), 1)), (26, (.inl (.iconst 0), 1)), (27, (.inl (.aload_n 3), 1)), (28, (.inl (.iconst 0), 1)), (29, (.inl (.aload_n 0), 1)), (30, (.inl .arraylength, 1)), (31, (.inl (.iload_n 1), 1)), (32, (.inr (12, 0, 0, 0, 0), 3)), (35, (.inr (9, 0, 0, 0, 0), 3)), (38, (.inl (.aload_n 3), 1)), (39, (.inl .areturn, 1))]
/-- FarStoreLaw.begin(LFarStore;I[J)I -/
def cd_23 : List (Nat × (OI × Nat)) := [(0, (.inl (.aload_n 2), 1)), (1, (.inl (.iconst 0), 1)), (2, (.inl (.aload_n 0), 1)), (3, (.inl (.iload_n 1), 1)), (4, (.inr (17, 24, 2, 1, 0), 3)), (7, (.inl .i2l, 1)), (8, (.inl .lastore, 1)), (9, (.inl (.goto 9), 3)), (12, (.inl (.astore_n 3), 1)), (13, (.inl (.iconst 1), 1)), (14, (.inl .ireturn, 1)), (15, (.inl (.astore_n 3), 1)), (16, (.inl (.iconst 2), 1)), (17, (.inl .ireturn, 1)), (18, (.inl (.iconst 0), 1)), (19, (.inl .ireturn, 1))]
/-- FarStore.begin(I)I -/
def cd_24 : List (Nat × (OI × Nat)) := [(0, (.inl (.aload_n 0), 1)), (1, (.inl (.iload_n 1), 1)), (2, (.inr (17, 14, 2, 1, 0), 3)), (5, (.inl (.aload_n 0), 1)), (6, (.inr (0, 0, 2, 0, 0), 3)), (9, (.inr (17, 6, 1, 1, 8), 3)), (12, (.inl (.istore_n 2), 1)), (13, (.inl (.iload_n 2), 1)), (14, (.inl (.sipush 500), 3)), (17, (.inl (.if_icmp .lt 13), 3)), (20, (.inr (16, 11, 0, 0, 0), 10)), (30, (.inl (.aload_n 0), 1)), (31, (.inr (0, 0, 2, 0, 0), 3)), (34, (.inr (2, 4, 8, 0, 0), 3)), (37, (.inl .dup, 1)), (38, (.inl (.iload_n 2), 1)), (39, (.inl (.iload_n 1), 1)), (40, (.inl (.aload_n 0), 1)), (41, (.inr (0, 0, 0, 0, 0), 3)), (44, (.inl (.iload_n 1), 1)), (45, (.inl .aaload, 1)), (46, (.inr (0, 2, 1, 0, 0), 3)), (49, (.inr (17, 25, 4, 2, 0), 3)), (52, (.inr (17, 16, 2, 1, 8), 3)), (55, (.inl .pop, 1)), (56, (.inl (.iload_n 2), 1)), (57, (.inl .ireturn, 1))]
/-- FarStore$Transaction.<init>(II[I)V -/
def cd_25 : List (Nat × (OI × Nat)) := [(0, (.inl (.aload_n 0), 1)), (1, (.inr (7, 0, 0, 0, 0), 3)), (4, (.inl (.aload_n 0), 1)), (5, (.inl (.iload_n 1), 1)), (6, (.inr (1, 4, 0, 0, 0), 3)), (9, (.inl (.aload_n 0), 1)), (10, (.inl (.iload_n 2), 1)), (11, (.inr (1, 4, 1, 0, 0), 3)), (14, (.inl (.aload_n 0), 1)), (15, (.inl (.aload_n 3), 1)), (16, (.inr (10, 0, 0, 0, 0), 3)), (19, (.inr (5, 0, 0, 0, 0), 3)), (22, (.inr (1, 4, 2, 3, 0), 3)), (25, (.inl (.aload_n 0), 1)), (26, (.inr (2, 8, 3, 0, 0), 3)), (29, (.inl .dup, 1)), (30, (.inr (17, 1, 1, 2, 0), 3)), (33, (.inr (1, 4, 3, 3, 0), 3)), (36, (.inl (.aload_n 0), 1)), (37, (.inr (2, 8, 3, 0, 0), 3)), (40, (.inl .dup, 1)), (41, (.inr (17, 1, 1, 2, 0), 3)), (44, (.inr (1, 4, 4, 3, 0), 3)), (47, (.inl (.aload_n 0), 1)), (48, (.inl (.iconst 0), 1)), (49, (.inr (1, 4, 5, 0, 0), 3)), (52, (.inl .return_, 1))]
/-- FarStoreLaw.read(LFarStore;II[J)I -/
def cd_26 : List (Nat × (OI × Nat)) := [(0, (.inl (.aload_n 3), 1)), (1, (.inl (.iconst 0), 1)), (2, (.inl (.aload_n 0), 1)), (3, (.inl (.iload_n 1), 1)), (4, (.inl (.iload_n 2), 1)), (5, (.inr (17, 27, 3, 1, 0), 3)), (8, (.inl .lastore, 1)), (9, (.inl (.goto 11), 3)), (12, (.inl (.astore 4), 2)), (14, (.inl (.iconst 1), 1)), (15, (.inl .ireturn, 1)), (16, (.inl (.astore 4), 2)), (18, (.inl (.iconst 2), 1)), (19, (.inl .ireturn, 1)), (20, (.inl (.iconst 0), 1)), (21, (.inl .ireturn, 1))]
/-- FarStore.read(II)J -/
def cd_27 : List (Nat × (OI × Nat)) := [(0, (.inl (.aload_n 0), 1)), (1, (.inl (.iload_n 1), 1)), (2, (.inr (17, 28, 2, 1, 0), 3)), (5, (.inl (.astore_n 3), 1)), (6, (.inl (.aload_n 0), 1)), (7, (.inl (.iload_n 2), 1)), (8, (.inr (17, 33, 2, 1, 0), 3)), (11, (.inl (.astore 4), 2)), (13, (.inl (.aload_n 0), 1)), (14, (.inl (.aload_n 3), 1)), (15, (.inr (17, 35, 2, 1, 0), 3)), (18, (.inl (.aload_n 3), 1)), (19, (.inl (.aload 4), 2)), (21, (.inr (17, 36, 2, 1, 4), 3)), (24, (.inl .lreturn, 1))]
/-- FarStore.transactionOf(I)LFarStore$Transaction; -/
def cd_28 : List (Nat × (OI × Nat)) := [(0, (.inl (.iload_n 1), 1)), (1, (.inl (.ifCond .lt 14), 3)), (4, (.inl (.iload_n 1), 1)), (5, (.inl (.aload_n 0), 1)), (6, (.inr (0, 0, 2, 0, 0), 3)), (9, (.inr (17, 6, 1, 1, 8), 3)), (12, (.inl (.if_icmp .lt 13), 3)), (15, (.inr (16, 10, 0, 0, 0), 10)), (25, (.inl (.aload_n 0), 1)), (26, (.inr (0, 0, 2, 0, 0), 3)), (29, (.inl (.iload_n 1), 1)), (30, (.inr (17, 29, 2, 1, 8), 3)), (33, (.inr (4, 4, 0, 0, 0), 3)), (36, (.inl .areturn, 1))]
/-- java/util/ArrayList.get(I)Ljava/lang/Object; -/
def cd_29 : List (Nat × (OI × Nat)) := [(0, (.inl (.iload_n 1), 1)), (1, (.inl (.aload_n 0), 1)), (2, (.inr (0, 8, 1, 0, 0), 3)), (5, (.inr (17, 30, 2, 0, 0), 3)), (8, (.inl .pop, 1)), (9, (.inl (.aload_n 0), 1)), (10, (.inl (.iload_n 1), 1)), (11, (.inr (17, 32, 2, 1, 8), 3)), (14, (.inl .areturn, 1))]
/-- java/util/Objects.checkIndex(II)I -/
def cd_30 : List (Nat × (OI × Nat)) := [(0, (.inl (.iload_n 0), 1)), (1, (.inl (.iload_n 1), 1)), (2, (.inl .aconst_null, 1)), (3, (.inr (17, 31, 3, 0, 0), 3)), (6, (.inl .ireturn, 1))]
/-- jdk/internal/util/Preconditions.checkIndex(IILjava/util/function/BiFunction;)I -/
def cd_31 : List (Nat × (OI × Nat)) := [(0, (.inl (.iload_n 0), 1)), (1, (.inl (.ifCond .lt 8), 3)), (4, (.inl (.iload_n 0), 1)), (5, (.inl (.iload_n 1), 1)), (6, (.inl (.if_icmp .lt 10), 3)), (9, (.inl (.aload_n 2), 1)), (10, (.inl (.iload_n 0), 1)), (11, (.inl (.iload_n 1), 1)), (16, (.inl (.iload_n 0), 1)), (17, (.inl .ireturn, 1))]
/-- java/util/ArrayList.elementData(I)Ljava/lang/Object; -/
def cd_32 : List (Nat × (OI × Nat)) := [(0, (.inl (.aload_n 0), 1)), (1, (.inr (0, 8, 0, 0, 0), 3)), (4, (.inl (.iload_n 1), 1)), (5, (.inl .aaload, 1)), (6, (.inl .areturn, 1))]
/-- FarStore.plainItem(I)LFarStore$Item; -/
def cd_33 : List (Nat × (OI × Nat)) := [(0, (.inl (.aload_n 0), 1)), (1, (.inl (.iload_n 1), 1)), (2, (.inr (17, 34, 2, 1, 0), 3)), (5, (.inl (.astore_n 2), 1)), (6, (.inl (.aload_n 2), 1)), (7, (.inr (0, 3, 1, 0, 0), 3)), (10, (.inl (.ifCond .eq 13), 3)), (13, (.inr (16, 10, 0, 0, 0), 10)), (23, (.inl (.aload_n 2), 1)), (24, (.inl .areturn, 1))]
/-- FarStore.itemOf(I)LFarStore$Item; -/
def cd_34 : List (Nat × (OI × Nat)) := [(0, (.inl (.iload_n 1), 1)), (1, (.inl (.ifCond .lt 14), 3)), (4, (.inl (.iload_n 1), 1)), (5, (.inl (.aload_n 0), 1)), (6, (.inr (0, 0, 1, 0, 0), 3)), (9, (.inr (17, 6, 1, 1, 8), 3)), (12, (.inl (.if_icmp .lt 13), 3)), (15, (.inr (16, 10, 0, 0, 0), 10)), (25, (.inl (.aload_n 0), 1)), (26, (.inr (0, 0, 1, 0, 0), 3)), (29, (.inl (.iload_n 1), 1)), (30, (.inr (17, 29, 2, 1, 8), 3)), (33, (.inr (4, 3, 0, 0, 0), 3)), (36, (.inl .areturn, 1))]
/-- FarStore.needOpen(LFarStore$Transaction;)V -/
def cd_35 : List (Nat × (OI × Nat)) := [(0, (.inl (.aload_n 1), 1)), (1, (.inr (0, 4, 5, 0, 0), 3)), (4, (.inl (.ifCond .eq 13), 3)), (7, (.inr (16, 11, 0, 0, 0), 10)), (17, (.inl .return_, 1))]
/-- FarStore$Transaction.valueOf(LFarStore$Item;)J -/
def cd_36 : List (Nat × (OI × Nat)) := [(0, (.inl (.aload_n 0), 1)), (1, (.inl (.aload_n 1), 1)), (2, (.inr (17, 37, 2, 1, 4), 3)), (5, (.inl (.astore_n 2), 1)), (6, (.inl (.aload_n 2), 1)), (7, (.inl (.ifnull 8), 3)), (10, (.inl (.aload_n 2), 1)), (11, (.inr (0, 5, 2, 0, 0), 3)), (14, (.inl .lreturn, 1)), (15, (.inl (.aload_n 1), 1)), (16, (.inr (0, 3, 2, 0, 0), 3)), (19, (.inr (17, 6, 1, 1, 8), 3)), (22, (.inl (.iconst 1), 1)), (23, (.inl .isub, 1)), (24, (.inl (.istore_n 3), 1)), (25, (.inl (.iload_n 3), 1)), (26, (.inl (.ifCond .lt 40), 3)), (29, (.inl (.aload_n 1), 1)), (30, (.inr (0, 3, 2, 0, 0), 3)), (33, (.inl (.iload_n 3), 1)), (34, (.inr (17, 29, 2, 1, 8), 3)), (37, (.inr (4, 5, 0, 0, 0), 3)), (40, (.inl (.astore 4), 2)), (42, (.inl (.aload_n 0), 1)), (43, (.inl (.aload 4), 2)), (45, (.inr (0, 5, 0, 0, 0), 3)), (48, (.inr (17, 38, 2, 1, 4), 3)), (51, (.inl (.ifCond .eq 9), 3)), (54, (.inl (.aload 4), 2)), (56, (.inr (0, 5, 2, 0, 0), 3)), (59, (.inl .lreturn, 1)), (60, (.inl (.iinc 3 (-1)), 3)), (63, (.inl (.goto (-38)), 3)), (66, (.inl (.lconst 0), 1)), (67, (.inl .lreturn, 1))]
/-- FarStore$Transaction.ownWrite(LFarStore$Item;)LFarStore$Write; -/
def cd_37 : List (Nat × (OI × Nat)) := [(0, (.inl (.iconst 0), 1)), (1, (.inl (.istore_n 2), 1)), (2, (.inl (.iload_n 2), 1)), (3, (.inl (.aload_n 0), 1)), (4, (.inr (0, 4, 3, 0, 0), 3)), (7, (.inr (17, 6, 1, 1, 8), 3)), (10, (.inl (.if_icmp .ge 39), 3)), (13, (.inl (.aload_n 0), 1)), (14, (.inr (0, 4, 3, 0, 0), 3)), (17, (.inl (.iload_n 2), 1)), (18, (.inr (17, 29, 2, 1, 8), 3)), (21, (.inr (4, 5, 0, 0, 0), 3)), (24, (.inr (0, 5, 1, 0, 0), 3)), (27, (.inl (.aload_n 1), 1)), (28, (.inl (.if_acmp .ne 15), 3)), (31, (.inl (.aload_n 0), 1)), (32, (.inr (0, 4, 3, 0, 0), 3)), (35, (.inl (.iload_n 2), 1)), (36, (.inr (17, 29, 2, 1, 8), 3)), (39, (.inr (4, 5, 0, 0, 0), 3)), (42, (.inl .areturn, 1)), (43, (.inl (.iinc 2 1), 3)), (46, (.inl (.goto (-44)), 3)), (49, (.inl .aconst_null, 1)), (50, (.inl .areturn, 1))]
/-- FarStore$Transaction.sees(LFarStore$Transaction;)Z -/
def cd_38 : List (Nat × (OI × Nat)) := [(0, (.inl (.aload_n 1), 1)), (1, (.inr (0, 4, 6, 0, 0), 3)), (4, (.inl (.ifCond .le 23), 3)), (7, (.inl (.aload_n 1), 1)), (8, (.inr (0, 4, 6, 0, 0), 3)), (11, (.inl (.aload_n 0), 1)), (12, (.inr (0, 4, 2, 0, 0), 3)), (15, (.inl (.aload_n 1), 1)), (16, (.inr (0, 4, 1, 0, 0), 3)), (19, (.inl .iaload, 1)), (20, (.inl (.if_icmp .gt 7), 3)), (23, (.inl (.iconst 1), 1)), (24, (.inl (.goto 4), 3)), (27, (.inl (.iconst 0), 1)), (28, (.inl .ireturn, 1))]
/-- FarStoreLaw.write(LFarStore;IIJ)I -/
def cd_39 : List (Nat × (OI × Nat)) := [(0, (.inl (.aload_n 0), 1)), (1, (.inl (.iload_n 1), 1)), (2, (.inl (.iload_n 2), 1)), (3, (.inl (.lload_n 3), 1)), (4, (.inr (17, 40, 4, 1, 0), 3)), (7, (.inl (.goto 11), 3)), (10, (.inl (.astore 5), 2)), (12, (.inl (.iconst 1), 1)), (13, (.inl .ireturn, 1)), (14, (.inl (.astore 5), 2)), (16, (.inl (.iconst 2), 1)), (17, (.inl .ireturn, 1)), (18, (.inl (.iconst 0), 1)), (19, (.inl .ireturn, 1))]
/-- FarStore.write(IIJ)V -/
def cd_40 : List (Nat × (OI × Nat)) := [(0, (.inl (.aload_n 0), 1)), (1, (.inl (.iload_n 1), 1)), (2, (.inr (17, 28, 2, 1, 0), 3)), (5, (.inl (.astore 5), 2)), (7, (.inl (.aload_n 0), 1)), (8, (.inl (.iload_n 2), 1)), (9, (.inr (17, 33, 2, 1, 0), 3)), (12, (.inl (.astore 6), 2)), (14, (.inl (.aload_n 0), 1)), (15, (.inl (.aload 5), 2)), (17, (.inr (17, 35, 2, 1, 0), 3)), (20, (.inl (.aload 5), 2)), (22, (.inl (.aload 6), 2)), (24, (.inl (.lload_n 3), 1)), (25, (.inr (17, 41, 3, 1, 4), 3)), (28, (.inl .return_, 1))]
/-- FarStore$Transaction.keepWrite(LFarStore$Item;J)V -/
def cd_41 : List (Nat × (OI × Nat)) := [(0, (.inl (.aload_n 0), 1)), (1, (.inl (.aload_n 1), 1)), (2, (.inr (17, 37, 2, 1, 4), 3)), (5, (.inl (.astore 4), 2)), (7, (.inl (.aload 4), 2)), (9, (.inl (.ifnonnull 24), 3)), (12, (.inl (.aload_n 0), 1)), (13, (.inr (0, 4, 3, 0, 0), 3)), (16, (.inr (2, 5, 3, 0, 0), 3)), (19, (.inl .dup, 1)), (20, (.inl (.aload_n 0), 1)), (21, (.inl (.aload_n 1), 1)), (22, (.inl (.lload_n 2), 1)), (23, (.inr (17, 42, 4, 2, 0), 3)), (26, (.inr (17, 16, 2, 1, 8), 3)), (29, (.inl .pop, 1)), (30, (.inl (.goto 9), 3)), (33, (.inl (.aload 4), 2)), (35, (.inl (.lload_n 2), 1)), (36, (.inr (1, 5, 2, 2, 0), 3)), (39, (.inl .return_, 1))]
/-- FarStore$Write.<init>(LFarStore$Transaction;LFarStore$Item;J)V -/
def cd_42 : List (Nat × (OI × Nat)) := [(0, (.inl (.aload_n 0), 1)), (1, (.inr (7, 0, 0, 0, 0), 3)), (4, (.inl (.aload_n 0), 1)), (5, (.inl (.aload_n 1), 1)), (6, (.inr (1, 5, 0, 3, 0), 3)), (9, (.inl (.aload_n 0), 1)), (10, (.inl (.aload_n 2), 1)), (11, (.inr (1, 5, 1, 3, 0), 3)), (14, (.inl (.aload_n 0), 1)), (15, (.inl (.lload_n 3), 1)), (16, (.inr (1, 5, 2, 2, 0), 3)), (19, (.inl .return_, 1))]
/-- FarStoreLaw.change(LFarStore;IIIZ)I -/
def cd_43 : List (Nat × (OI × Nat)) := [(0, (.inl (.aload_n 0), 1)), (1, (.inl (.iload_n 1), 1)), (2, (.inl (.iload_n 2), 1)), (3, (.inl (.iload_n 3), 1)), (4, (.inl (.iload 4), 2)), (6, (.inr (17, 44, 5, 1, 0), 3)), (9, (.inl (.goto 11), 3)), (12, (.inl (.astore 5), 2)), (14, (.inl (.iconst 1), 1)), (15, (.inl .ireturn, 1)), (16, (.inl (.astore 5), 2)), (18, (.inl (.iconst 2), 1)), (19, (.inl .ireturn, 1)), (20, (.inl (.iconst 0), 1)), (21, (.inl .ireturn, 1))]
/-- FarStore.change(IIIZ)V -/
def cd_44 : List (Nat × (OI × Nat)) := [(0, (.inl (.aload_n 0), 1)), (1, (.inl (.iload_n 1), 1)), (2, (.inr (17, 28, 2, 1, 0), 3)), (5, (.inl (.astore 5), 2)), (7, (.inl (.aload_n 0), 1)), (8, (.inl (.iload_n 2), 1)), (9, (.inr (17, 45, 2, 1, 0), 3)), (12, (.inl (.astore 6), 2)), (14, (.inl (.aload_n 0), 1)), (15, (.inl (.aload 5), 2)), (17, (.inr (17, 35, 2, 1, 0), 3)), (20, (.inl (.aload_n 0), 1)), (21, (.inr (0, 0, 4, 0, 0), 3)), (24, (.inl (.sipush 512), 3)), (27, (.inl (.if_icmp .lt 13), 3)), (30, (.inr (16, 11, 0, 0, 0), 10)), (40, (.inl (.aload_n 0), 1)), (41, (.inl .dup, 1)), (42, (.inr (0, 0, 4, 0, 0), 3)), (45, (.inl (.iconst 1), 1)), (46, (.inl .iadd, 1)), (47, (.inr (1, 0, 4, 0, 0), 3)), (50, (.inl (.aload 5), 2)), (52, (.inr (0, 4, 4, 0, 0), 3)), (55, (.inr (2, 6, 4, 0, 0), 3)), (58, (.inl .dup, 1)), (59, (.inl (.aload 5), 2)), (61, (.inl (.aload 6), 2)), (63, (.inl (.iload_n 3), 1)), (64, (.inl (.iload 4), 2)), (66, (.inl (.ifCond .eq 7), 3)), (69, (.inl (.iconst 1), 1)), (70, (.inl (.goto 4), 3)), (73, (.inl (.iconst (-1)), 1)), (74, (.inr (17, 46, 5, 2, 0), 3)), (77, (.inr (17, 16, 2, 1, 8), 3)), (80, (.inl .pop, 1)), (81, (.inl .return_, 1))]
/-- FarStore.setItem(I)LFarStore$Item; -/
def cd_45 : List (Nat × (OI × Nat)) := [(0, (.inl (.aload_n 0), 1)), (1, (.inl (.iload_n 1), 1)), (2, (.inr (17, 34, 2, 1, 0), 3)), (5, (.inl (.astore_n 2), 1)), (6, (.inl (.aload_n 2), 1)), (7, (.inr (0, 3, 1, 0, 0), 3)), (10, (.inl (.ifCond .ne 13), 3)), (13, (.inr (16, 10, 0, 0, 0), 10)), (23, (.inl (.aload_n 2), 1)), (24, (.inl .areturn, 1))]
/-- FarStore$Change.<init>(LFarStore$Transaction;LFarStore$Item;II)V -/
def cd_46 : List (Nat × (OI × Nat)) := [(0, (.inl (.aload_n 0), 1)), (1, (.inr (7, 0, 0, 0, 0), 3)), (4, (.inl (.aload_n 0), 1)), (5, (.inl (.aload_n 1), 1)), (6, (.inr (1, 6, 0, 3, 0), 3)), (9, (.inl (.aload_n 0), 1)), (10, (.inl (.aload_n 2), 1)), (11, (.inr (1, 6, 1, 3, 0), 3)), (14, (.inl (.aload_n 0), 1)), (15, (.inl (.iload_n 3), 1)), (16, (.inr (1, 6, 2, 0, 0), 3)), (19, (.inl (.aload_n 0), 1)), (20, (.inl (.iload 4), 2)), (22, (.inr (1, 6, 3, 0, 0), 3)), (25, (.inl .return_, 1))]
/-- FarStoreLaw.count(LFarStore;III[J)I -/
def cd_47 : List (Nat × (OI × Nat)) := [(0, (.inl (.aload 4), 2)), (2, (.inl (.iconst 0), 1)), (3, (.inl (.aload_n 0), 1)), (4, (.inl (.iload_n 1), 1)), (5, (.inl (.iload_n 2), 1)), (6, (.inl (.iload_n 3), 1)), (7, (.inr (17, 48, 4, 1, 0), 3)), (10, (.inl .i2l, 1)), (11, (.inl .lastore, 1)), (12, (.inl (.goto 11), 3)), (15, (.inl (.astore 5), 2)), (17, (.inl (.iconst 1), 1)), (18, (.inl .ireturn, 1)), (19, (.inl (.astore 5), 2)), (21, (.inl (.iconst 2), 1)), (22, (.inl .ireturn, 1)), (23, (.inl (.iconst 0), 1)), (24, (.inl .ireturn, 1))]
/-- FarStore.count(III)I -/
def cd_48 : List (Nat × (OI × Nat)) := [(0, (.inl (.aload_n 0), 1)), (1, (.inl (.iload_n 1), 1)), (2, (.inr (17, 28, 2, 1, 0), 3)), (5, (.inl (.astore 4), 2)), (7, (.inl (.aload_n 0), 1)), (8, (.inl (.iload_n 2), 1)), (9, (.inr (17, 45, 2, 1, 0), 3)), (12, (.inl (.astore 5), 2)), (14, (.inl (.aload_n 0), 1)), (15, (.inl (.aload 4), 2)), (17, (.inr (17, 35, 2, 1, 0), 3)), (20, (.inl (.aload 4), 2)), (22, (.inl (.aload 5), 2)), (24, (.inl (.iload_n 3), 1)), (25, (.inr (17, 49, 3, 1, 4), 3)), (28, (.inl .ireturn, 1))]
/-- FarStore$Transaction.countOf(LFarStore$Item;I)I -/
def cd_49 : List (Nat × (OI × Nat)) := [(0, (.inl (.iconst 0), 1)), (1, (.inl (.istore_n 3), 1)), (2, (.inl (.iconst 0), 1)), (3, (.inl (.istore 4), 2)), (5, (.inl (.iload 4), 2)), (7, (.inl (.aload_n 1), 1)), (8, (.inr (0, 3, 3, 0, 0), 3)), (11, (.inr (17, 6, 1, 1, 8), 3)), (14, (.inl (.if_icmp .ge 52), 3)), (17, (.inl (.aload_n 1), 1)), (18, (.inr (0, 3, 3, 0, 0), 3)), (21, (.inl (.iload 4), 2)), (23, (.inr (17, 29, 2, 1, 8), 3)), (26, (.inr (4, 6, 0, 0, 0), 3)), (29, (.inl (.astore 5), 2)), (31, (.inl (.aload 5), 2)), (33, (.inr (0, 6, 2, 0, 0), 3)), (36, (.inl (.iload_n 2), 1)), (37, (.inl (.if_icmp .ne 23), 3)), (40, (.inl (.aload_n 0), 1)), (41, (.inl (.aload 5), 2)), (43, (.inr (0, 6, 0, 0, 0), 3)), (46, (.inr (17, 38, 2, 1, 4), 3)), (49, (.inl (.ifCond .eq 11), 3)), (52, (.inl (.iload_n 3), 1)), (53, (.inl (.aload 5), 2)), (55, (.inr (0, 6, 3, 0, 0), 3)), (58, (.inl .iadd, 1)), (59, (.inl (.istore_n 3), 1)), (60, (.inl (.iinc 4 1), 3)), (63, (.inl (.goto (-58)), 3)), (66, (.inl (.iconst 0), 1)), (67, (.inl (.istore 4), 2)), (69, (.inl (.iload 4), 2)), (71, (.inl (.aload_n 0), 1)), (72, (.inr (0, 4, 4, 0, 0), 3)), (75, (.inr (17, 6, 1, 1, 8), 3)), (78, (.inl (.if_icmp .ge 49), 3)), (81, (.inl (.aload_n 0), 1)), (82, (.inr (0, 4, 4, 0, 0), 3)), (85, (.inl (.iload 4), 2)), (87, (.inr (17, 29, 2, 1, 8), 3)), (90, (.inr (4, 6, 0, 0, 0), 3)), (93, (.inl (.astore 5), 2)), (95, (.inl (.aload 5), 2)), (97, (.inr (0, 6, 2, 0, 0), 3)), (100, (.inl (.iload_n 2), 1)), (101, (.inl (.if_icmp .ne 20), 3)), (104, (.inl (.aload 5), 2)), (106, (.inr (0, 6, 1, 0, 0), 3)), (109, (.inl (.aload_n 1), 1)), (110, (.inl (.if_acmp .ne 11), 3)), (113, (.inl (.iload_n 3), 1)), (114, (.inl (.aload 5), 2)), (116, (.inr (0, 6, 3, 0, 0), 3)), (119, (.inl .iadd, 1)), (120, (.inl (.istore_n 3), 1)), (121, (.inl (.iinc 4 1), 3)), (124, (.inl (.goto (-55)), 3)), (127, (.inl (.iload_n 3), 1)), (128, (.inl .ireturn, 1))]
/-- FarStoreLaw.element(LFarStore;III[J)I -/
def cd_50 : List (Nat × (OI × Nat)) := [(0, (.inl (.aload 4), 2)), (2, (.inl (.iconst 0), 1)), (3, (.inl (.aload_n 0), 1)), (4, (.inl (.iload_n 1), 1)), (5, (.inl (.iload_n 2), 1)), (6, (.inl (.iload_n 3), 1)), (7, (.inr (17, 51, 4, 1, 0), 3)), (10, (.inl .i2l, 1)), (11, (.inl .lastore, 1)), (12, (.inl (.goto 15), 3)), (15, (.inl (.astore 5), 2)), (17, (.inl (.iconst 1), 1)), (18, (.inl .ireturn, 1)), (19, (.inl (.astore 5), 2)), (21, (.inl (.iconst 2), 1)), (22, (.inl .ireturn, 1)), (23, (.inl (.astore 5), 2)), (25, (.inl (.iconst 3), 1)), (26, (.inl .ireturn, 1)), (27, (.inl (.iconst 0), 1)), (28, (.inl .ireturn, 1))]
/-- FarStore.element(III)I -/
def cd_51 : List (Nat × (OI × Nat)) := [(0, (.inl (.aload_n 0), 1)), (1, (.inl (.iload_n 1), 1)), (2, (.inr (17, 28, 2, 1, 0), 3)), (5, (.inl (.astore 4), 2)), (7, (.inl (.aload_n 0), 1)), (8, (.inl (.iload_n 2), 1)), (9, (.inr (17, 45, 2, 1, 0), 3)), (12, (.inl (.astore 5), 2)), (14, (.inl (.aload_n 0), 1)), (15, (.inl (.aload 4), 2)), (17, (.inr (17, 35, 2, 1, 0), 3)), (20, (.inl (.aload 4), 2)), (22, (.inl (.aload 5), 2)), (24, (.inl (.aload_n 0), 1)), (25, (.inr (0, 0, 3, 0, 0), 3)), (28, (.inr (17, 52, 3, 1, 4), 3)), (31, (.inl (.aload_n 0), 1)), (32, (.inr (0, 0, 3, 0, 0), 3)), (35, (.inl (.iload_n 3), 1)), (36, (.inr (17, 58, 2, 1, 1), 3)), (39, (.inl (.istore 6), 2)), (41, (.inl (.iload 6), 2)), (43, (.inl (.ifCond .ge 13), 3)), (56, (.inl (.aload_n 0), 1)), (57, (.inr (0, 0, 3, 0, 0), 3)), (60, (.inr (0, 1, 0, 0, 0), 3)), (63, (.inl (.iload 6), 2)), (65, (.inl .iaload, 1)), (66, (.inl .ireturn, 1))]
/-- FarStore$Transaction.countAll(LFarStore$Item;LFarStore$Tally;)V -/
def cd_52 : List (Nat × (OI × Nat)) := [(0, (.inl (.aload_n 2), 1)), (1, (.inr (17, 53, 1, 1, 1), 3)), (4, (.inl (.iconst 0), 1)), (5, (.inl (.istore_n 3), 1)), (6, (.inl (.iload_n 3), 1)), (7, (.inl (.aload_n 1), 1)), (8, (.inr (0, 3, 3, 0, 0), 3)), (11, (.inr (17, 6, 1, 1, 8), 3)), (14, (.inl (.if_icmp .ge 40), 3)), (17, (.inl (.aload_n 1), 1)), (18, (.inr (0, 3, 3, 0, 0), 3)), (21, (.inl (.iload_n 3), 1)), (22, (.inr (17, 29, 2, 1, 8), 3)), (25, (.inr (4, 6, 0, 0, 0), 3)), (28, (.inl (.astore 4), 2)), (30, (.inl (.aload_n 0), 1)), (31, (.inl (.aload 4), 2)), (33, (.inr (0, 6, 0, 0, 0), 3)), (36, (.inr (17, 38, 2, 1, 4), 3)), (39, (.inl (.ifCond .eq 9), 3)), (42, (.inl (.aload_n 2), 1)), (43, (.inl (.aload 4), 2)), (45, (.inr (17, 54, 2, 1, 1), 3)), (48, (.inl (.iinc 3 1), 3)), (51, (.inl (.goto (-45)), 3)), (54, (.inl (.iconst 0), 1)), (55, (.inl (.istore_n 3), 1)), (56, (.inl (.iload_n 3), 1)), (57, (.inl (.aload_n 0), 1)), (58, (.inr (0, 4, 4, 0, 0), 3)), (61, (.inr (17, 6, 1, 1, 8), 3)), (64, (.inl (.if_icmp .ge 37), 3)), (67, (.inl (.aload_n 0), 1)), (68, (.inr (0, 4, 4, 0, 0), 3)), (71, (.inl (.iload_n 3), 1)), (72, (.inr (17, 29, 2, 1, 8), 3)), (75, (.inr (4, 6, 0, 0, 0), 3)), (78, (.inl (.astore 4), 2)), (80, (.inl (.aload 4), 2)), (82, (.inr (0, 6, 1, 0, 0), 3)), (85, (.inl (.aload_n 1), 1)), (86, (.inl (.if_acmp .ne 9), 3)), (89, (.inl (.aload_n 2), 1)), (90, (.inl (.aload 4), 2)), (92, (.inr (17, 54, 2, 1, 1), 3)), (95, (.inl (.iinc 3 1), 3)), (98, (.inl (.goto (-42)), 3)), (101, (.inl .return_, 1))]
/-- FarStore$Tally.clear()V -/
def cd_53 : List (Nat × (OI × Nat)) := [(0, (.inl (.aload_n 0), 1)), (1, (.inl (.iconst 0), 1)), (2, (.inr (1, 1, 2, 0, 0), 3)), (5, (.inl .return_, 1))]
/-- FarStore$Tally.take(LFarStore$Change;)V -/
def cd_54 : List (Nat × (OI × Nat)) := [(0, (.inl (.aload_n 0), 1)), (1, (.inl (.aload_n 1), 1)), (2, (.inr (0, 6, 2, 0, 0), 3)), (5, (.inr (17, 55, 2, 1, 1), 3)), (8, (.inl (.istore_n 2), 1)), (9, (.inl (.iload_n 2), 1)), (10, (.inl (.aload_n 0), 1)), (11, (.inr (0, 1, 2, 0, 0), 3)), (14, (.inl (.if_icmp .eq 16), 3)), (17, (.inl (.aload_n 0), 1)), (18, (.inr (0, 1, 0, 0, 0), 3)), (21, (.inl (.iload_n 2), 1)), (22, (.inl .iaload, 1)), (23, (.inl (.aload_n 1), 1)), (24, (.inr (0, 6, 2, 0, 0), 3)), (27, (.inl (.if_icmp .eq 25), 3)), (30, (.inl (.aload_n 0), 1)), (31, (.inl (.iload_n 2), 1)), (32, (.inr (17, 56, 2, 1, 1), 3)), (35, (.inl (.aload_n 0), 1)), (36, (.inr (0, 1, 0, 0, 0), 3)), (39, (.inl (.iload_n 2), 1)), (40, (.inl (.aload_n 1), 1)), (41, (.inr (0, 6, 2, 0, 0), 3)), (44, (.inl .iastore, 1)), (45, (.inl (.aload_n 0), 1)), (46, (.inr (0, 1, 1, 0, 0), 3)), (49, (.inl (.iload_n 2), 1)), (50, (.inl (.iconst 0), 1)), (51, (.inl .iastore, 1)), (52, (.inl (.aload_n 0), 1)), (53, (.inr (0, 1, 1, 0, 0), 3)), (56, (.inl (.iload_n 2), 1)), (57, (.inl .dup2, 1)), (58, (.inl .iaload, 1)), (59, (.inl (.aload_n 1), 1)), (60, (.inr (0, 6, 3, 0, 0), 3)), (63, (.inl .iadd, 1)), (64, (.inl .iastore, 1)), (65, (.inl .return_, 1))]
/-- FarStore$Tally.firstNotBelow(I)I -/
def cd_55 : List (Nat × (OI × Nat)) := [(0, (.inl (.iconst 0), 1)), (1, (.inl (.istore_n 2), 1)), (2, (.inl (.aload_n 0), 1)), (3, (.inr (0, 1, 2, 0, 0), 3)), (6, (.inl (.istore_n 3), 1)), (7, (.inl (.aload_n 0), 1)), (8, (.inr (0, 1, 2, 0, 0), 3)), (11, (.inl (.istore 4), 2)), (13, (.inl (.iload_n 2), 1)), (14, (.inl (.iload_n 3), 1)), (15, (.inl (.if_icmp .ge 43), 3)), (18, (.inl (.iload 4), 2)), (20, (.inl (.ifCond .le 38), 3)), (23, (.inl (.iload_n 2), 1)), (24, (.inl (.iload_n 3), 1)), (25, (.inl .iadd, 1)), (26, (.inl (.iconst 2), 1)), (27, (.inl .idiv, 1)), (28, (.inl (.istore 5), 2)), (30, (.inl (.aload_n 0), 1)), (31, (.inr (0, 1, 0, 0, 0), 3)), (34, (.inl (.iload 5), 2)), (36, (.inl .iaload, 1)), (37, (.inl (.iload_n 1), 1)), (38, (.inl (.if_icmp .ge 11), 3)), (41, (.inl (.iload 5), 2)), (43, (.inl (.iconst 1), 1)), (44, (.inl .iadd, 1)), (45, (.inl (.istore_n 2), 1)), (46, (.inl (.goto 6), 3)), (49, (.inl (.iload 5), 2)), (51, (.inl (.istore_n 3), 1)), (52, (.inl (.iinc 4 (-1)), 3)), (55, (.inl (.goto (-42)), 3)), (58, (.inl (.iload_n 2), 1)), (59, (.inl .ireturn, 1))]
/-- FarStore$Tally.makeRoomAt(I)V -/
def cd_56 : List (Nat × (OI × Nat)) := [(0, (.inl (.aload_n 0), 1)), (1, (.inr (0, 1, 2, 0, 0), 3)), (4, (.inl (.aload_n 0), 1)), (5, (.inr (0, 1, 0, 0, 0), 3)), (8, (.inl .arraylength, 1)), (9, (.inl (.if_icmp .ne 37), 3)), (12, (.inl (.aload_n 0), 1)), (13, (.inl (.aload_n 0), 1)), (14, (.inr (0, 1, 0, 0, 0), 3)), (17, (.inl (.iconst 2), 1)), (18, (.inl (.aload_n 0), 1)), (19, (.inr (0, 1, 2, 0, 0), 3)), (22, (.inl .imul, 1)), (23, (.inr (17, 57, 2, 0, 0), 3)), (26, (.inr (1, 1, 0, 3, 0), 3)), (29, (.inl (.aload_n 0), 1)), (30, (.inl (.aload_n 0), 1)), (31, (.inr (0, 1, 1, 0, 0), 3)), (34, (.inl (.iconst 2), 1)), (35, (.inl (.aload_n 0), 1)), (36, (.inr (0, 1, 2, 0, 0), 3)), (39, (.inl .imul, 1)), (40, (.inr (17, 57, 2, 0, 0), 3)), (43, (.inr (1, 1, 1, 3, 0), 3)), (46, (.inl (.aload_n 0), 1)), (47, (.inr (0, 1, 0, 0, 0), 3)), (50, (.inl (.iload_n 1), 1)), (51, (.inl (.aload_n 0), 1)), (52, (.inr (0, 1, 0, 0, 0), 3)), (55, (.inl (.iload_n 1), 1)), (56, (.inl (.iconst 1), 1)), (57, (.inl .iadd, 1)), (58, (.inl (.aload_n 0), 1)), (59, (.inr (0, 1, 2, 0, 0), 3)), (62, (.inl (.iload_n 1), 1)), (63, (.inl .isub, 1)), (64, (.inr (8, 0, 0, 0, 0), 3)), (67, (.inl (.aload_n 0), 1)), (68, (.inr (0, 1, 1, 0, 0), 3)), (71, (.inl (.iload_n 1), 1)), (72, (.inl (.aload_n 0), 1)), (73, (.inr (0, 1, 1, 0, 0), 3)), (76, (.inl (.iload_n 1), 1)), (77, (.inl (.iconst 1), 1)), (78, (.inl .iadd, 1)), (79, (.inl (.aload_n 0), 1)), (80, (.inr (0, 1, 2, 0, 0), 3)), (83, (.inl (.iload_n 1), 1)), (84, (.inl .isub, 1)), (85, (.inr (8, 0, 0, 0, 0), 3)), (88, (.inl (.aload_n 0), 1)), (89, (.inl .dup, 1)), (90, (.inr (0, 1, 2, 0, 0), 3)), (93, (.inl (.iconst 1), 1)), (94, (.inl .iadd, 1)), (95, (.inr (1, 1, 2, 0, 0), 3)), (98, (.inl .return_, 1))]
/-- java/util/Arrays.copyOf([II)[I -/
def cd_57 : List (Nat × (OI × Nat)) := [(0, (.inl (.iload_n 1), 1)), (1, (.inl (.aload_n 0), 1)), (2, (.inl .arraylength, 1)), (3, (.inl (.if_icmp .ne 11), 3)), (6, (.inl (.aload_n 0), 1)), (7, (.inr (10, 0, 0, 0, 0), 3)), (10, (.inr (5, 0, 0, 0, 0), 3)), (13, (.inl .areturn, 1)), (14, (.inl (.iload_n 1), 1)), (15, (.inl (.newarray .int), 2)), (17, (.inl (.astore_n 2), 1)), (18, (.inl (.aload_n 0), 1)), (19, (.inl (.iconst 0), 1)), (20, (.inl (.aload_n 2), 1)), (21, (.inl (.iconst 0), 1)), (22, (.inl (.aload_n 0), 1)), (23, (.inl .arraylength, 1)), (24, (.inl (.iload_n 1), 1)), (25, (.inr (12, 0, 0, 0, 0), 3)), (28, (.inr (8, 0, 0, 0, 0), 3)), (31, (.inl (.aload_n 2), 1)), (32, (.inl .areturn, 1))]
/-- FarStore$Tally.placeOf(I)I -/
def cd_58 : List (Nat × (OI × Nat)) := [(0, (.inl (.iconst 0), 1)), (1, (.inl (.istore_n 2), 1)), (2, (.inl (.iconst 0), 1)), (3, (.inl (.istore_n 3), 1)), (4, (.inl (.iload_n 3), 1)), (5, (.inl (.aload_n 0), 1)), (6, (.inr (0, 1, 2, 0, 0), 3)), (9, (.inl (.if_icmp .ge 28), 3)), (12, (.inl (.aload_n 0), 1)), (13, (.inr (0, 1, 1, 0, 0), 3)), (16, (.inl (.iload_n 3), 1)), (17, (.inl .iaload, 1)), (18, (.inl (.ifCond .eq 13), 3)), (21, (.inl (.iload_n 2), 1)), (22, (.inl (.iload_n 1), 1)), (23, (.inl (.if_icmp .ne 5), 3)), (26, (.inl (.iload_n 3), 1)), (27, (.inl .ireturn, 1)), (28, (.inl (.iinc 2 1), 3)), (31, (.inl (.iinc 3 1), 3)), (34, (.inl (.goto (-30)), 3)), (37, (.inl (.iconst (-1)), 1)), (38, (.inl .ireturn, 1))]
/-- FarStoreLaw.commit(LFarStore;I[J)I -/
def cd_59 : List (Nat × (OI × Nat)) := [(0, (.inl (.aload_n 2), 1)), (1, (.inl (.iconst 0), 1)), (2, (.inl (.aload_n 0), 1)), (3, (.inl (.iload_n 1), 1)), (4, (.inr (17, 60, 2, 1, 0), 3)), (7, (.inl .i2l, 1)), (8, (.inl .lastore, 1)), (9, (.inl (.goto 9), 3)), (12, (.inl (.astore_n 3), 1)), (13, (.inl (.iconst 1), 1)), (14, (.inl .ireturn, 1)), (15, (.inl (.astore_n 3), 1)), (16, (.inl (.iconst 2), 1)), (17, (.inl .ireturn, 1)), (18, (.inl (.iconst 0), 1)), (19, (.inl .ireturn, 1))]
/-- FarStore.commit(I)I -/
def cd_60 : List (Nat × (OI × Nat)) := [(0, (.inl (.aload_n 0), 1)), (1, (.inl (.iload_n 1), 1)), (2, (.inr (17, 28, 2, 1, 0), 3)), (5, (.inl (.astore_n 2), 1)), (6, (.inl (.aload_n 0), 1)), (7, (.inl (.aload_n 2), 1)), (8, (.inr (17, 35, 2, 1, 0), 3)), (11, (.inl (.aload_n 0), 1)), (12, (.inl (.aload_n 2), 1)), (13, (.inr (17, 61, 2, 1, 0), 3)), (16, (.inl (.aload_n 2), 1)), (17, (.inr (0, 4, 5, 0, 0), 3)), (20, (.inl .ireturn, 1))]
/-- FarStore.tryToCommit(LFarStore$Transaction;)V -/
def cd_61 : List (Nat × (OI × Nat)) := [(0, (.inl (.aload_n 1), 1)), (1, (.inr (0, 4, 3, 0, 0), 3)), (4, (.inr (17, 62, 1, 1, 8), 3)), (7, (.inl (.ifCond .eq 19), 3)), (10, (.inl (.aload_n 1), 1)), (11, (.inr (0, 4, 4, 0, 0), 3)), (14, (.inr (17, 62, 1, 1, 8), 3)), (17, (.inl (.ifCond .eq 9), 3)), (20, (.inl (.aload_n 1), 1)), (21, (.inl (.iconst 1), 1)), (22, (.inr (1, 4, 5, 0, 0), 3)), (25, (.inl .return_, 1)), (26, (.inl (.aload_n 0), 1)), (27, (.inr (0, 0, 0, 0, 0), 3)), (30, (.inl (.aload_n 1), 1)), (31, (.inr (0, 4, 1, 0, 0), 3)), (34, (.inl .aaload, 1)), (35, (.inl (.astore_n 2), 1)), (36, (.inl (.aload_n 1), 1)), (37, (.inl (.aload_n 2), 1)), (38, (.inr (17, 63, 2, 1, 4), 3)), (41, (.inl (.ifCond .eq 9), 3)), (44, (.inl (.aload_n 1), 1)), (45, (.inl (.iconst 2), 1)), (46, (.inr (1, 4, 5, 0, 0), 3)), (49, (.inl .return_, 1)), (50, (.inl (.aload_n 0), 1)), (51, (.inl (.aload_n 1), 1)), (52, (.inr (17, 66, 2, 1, 0), 3)), (55, (.inl (.istore_n 3), 1)), (56, (.inl (.iload_n 3), 1)), (57, (.inl (.ifCond .ne 9), 3)), (60, (.inl (.aload_n 0), 1)), (61, (.inl (.aload_n 1), 1)), (62, (.inr (17, 68, 2, 1, 0), 3)), (65, (.inl .return_, 1)), (66, (.inl (.aload_n 1), 1)), (67, (.inl (.aload_n 2), 1)), (68, (.inr (17, 73, 2, 1, 4), 3)), (71, (.inl (.aload_n 1), 1)), (72, (.inl (.iconst 3), 1)), (73, (.inr (1, 4, 5, 0, 0), 3)), (76, (.inl (.aload_n 1), 1)), (77, (.inl (.iload_n 3), 1)), (78, (.inr (1, 4, 7, 0, 0), 3)), (81, (.inl (.aload_n 0), 1)), (82, (.inl (.aload_n 1), 1)), (83, (.inl (.iconst 1), 1)), (84, (.inl (.iconst (-1)), 1)), (85, (.inr (17, 74, 4, 1, 0), 3)), (88, (.inl .return_, 1))]
/-- java/util/ArrayList.isEmpty()Z -/
def cd_62 : List (Nat × (OI × Nat)) := [(0, (.inl (.aload_n 0), 1)), (1, (.inr (0, 8, 1, 0, 0), 3)), (4, (.inl (.ifCond .ne 7), 3)), (7, (.inl (.iconst 1), 1)), (8, (.inl (.goto 4), 3)), (11, (.inl (.iconst 0), 1)), (12, (.inl .ireturn, 1))]
/-- FarStore$Transaction.hasConflictAt(LFarStore$Site;)Z -/
def cd_63 : List (Nat × (OI × Nat)) := [(0, (.inl (.iconst 0), 1)), (1, (.inl (.istore_n 2), 1)), (2, (.inl (.iload_n 2), 1)), (3, (.inl (.aload_n 0), 1)), (4, (.inr (0, 4, 3, 0, 0), 3)), (7, (.inr (17, 6, 1, 1, 8), 3)), (10, (.inl (.if_icmp .ge 46), 3)), (13, (.inl (.aload_n 0), 1)), (14, (.inr (0, 4, 3, 0, 0), 3)), (17, (.inl (.iload_n 2), 1)), (18, (.inr (17, 29, 2, 1, 8), 3)), (21, (.inr (4, 5, 0, 0, 0), 3)), (24, (.inr (0, 5, 1, 0, 0), 3)), (27, (.inl (.astore_n 3), 1)), (28, (.inl (.aload_n 3), 1)), (29, (.inr (0, 3, 0, 0, 0), 3)), (32, (.inl (.aload_n 1), 1)), (33, (.inr (0, 2, 0, 0, 0), 3)), (36, (.inl (.if_icmp .ne 14), 3)), (39, (.inl (.aload_n 3), 1)), (40, (.inl (.aload_n 0), 1)), (41, (.inl (.aload_n 1), 1)), (42, (.inr (17, 64, 3, 1, 3), 3)), (45, (.inl (.ifCond .eq 5), 3)), (48, (.inl (.iconst 1), 1)), (49, (.inl .ireturn, 1)), (50, (.inl (.iinc 2 1), 3)), (53, (.inl (.goto (-51)), 3)), (56, (.inl (.iconst 0), 1)), (57, (.inl .ireturn, 1))]
/-- FarStore$Item.hasConflict(LFarStore$Transaction;LFarStore$Site;)Z -/
def cd_64 : List (Nat × (OI × Nat)) := [(0, (.inl (.aload_n 0), 1)), (1, (.inr (0, 3, 4, 0, 0), 3)), (4, (.inl (.iconst (-1)), 1)), (5, (.inl (.if_icmp .eq 16), 3)), (8, (.inl (.aload_n 0), 1)), (9, (.inr (0, 3, 4, 0, 0), 3)), (12, (.inl (.aload_n 1), 1)), (13, (.inr (0, 4, 0, 0, 0), 3)), (16, (.inl (.if_icmp .eq 5), 3)), (19, (.inl (.iconst 1), 1)), (20, (.inl .ireturn, 1)), (21, (.inl (.iconst 0), 1)), (22, (.inl (.istore_n 3), 1)), (23, (.inl (.iload_n 3), 1)), (24, (.inl (.aload_n 0), 1)), (25, (.inr (0, 3, 2, 0, 0), 3)), (28, (.inr (17, 6, 1, 1, 8), 3)), (31, (.inl (.if_icmp .ge 45), 3)), (34, (.inl (.aload_n 0), 1)), (35, (.inr (0, 3, 2, 0, 0), 3)), (38, (.inl (.iload_n 3), 1)), (39, (.inr (17, 29, 2, 1, 8), 3)), (42, (.inr (4, 5, 0, 0, 0), 3)), (45, (.inr (0, 5, 0, 0, 0), 3)), (48, (.inl (.astore 4), 2)), (50, (.inl (.aload_n 2), 1)), (51, (.inl (.aload 4), 2)), (53, (.inr (17, 65, 2, 1, 2), 3)), (56, (.inl (.ifCond .eq 14), 3)), (59, (.inl (.aload_n 1), 1)), (60, (.inl (.aload 4), 2)), (62, (.inr (17, 38, 2, 1, 4), 3)), (65, (.inl (.ifCond .ne 5), 3)), (68, (.inl (.iconst 1), 1)), (69, (.inl .ireturn, 1)), (70, (.inl (.iinc 3 1), 3)), (73, (.inl (.goto (-50)), 3)), (76, (.inl (.iconst 0), 1)), (77, (.inl .ireturn, 1))]
/-- FarStore$Site.hasApplied(LFarStore$Transaction;)Z -/
def cd_65 : List (Nat × (OI × Nat)) := [(0, (.inl (.aload_n 1), 1)), (1, (.inr (0, 4, 6, 0, 0), 3)), (4, (.inl (.ifCond .le 23), 3)), (7, (.inl (.aload_n 1), 1)), (8, (.inr (0, 4, 6, 0, 0), 3)), (11, (.inl (.aload_n 0), 1)), (12, (.inr (0, 2, 1, 0, 0), 3)), (15, (.inl (.aload_n 1), 1)), (16, (.inr (0, 4, 1, 0, 0), 3)), (19, (.inl .iaload, 1)), (20, (.inl (.if_icmp .gt 7), 3)), (23, (.inl (.iconst 1), 1)), (24, (.inl (.goto 4), 3)), (27, (.inl (.iconst 0), 1)), (28, (.inl .ireturn, 1))]
/-- FarStore.otherHomes(LFarStore$Transaction;)I -/
def cd_66 : List (Nat × (OI × Nat)) := [(0, (.inl (.iconst 0), 1)), (1, (.inl (.istore_n 2), 1)), (2, (.inl (.iconst 0), 1)), (3, (.inl (.istore_n 3), 1)), (4, (.inl (.iload_n 3), 1)), (5, (.inl (.aload_n 0), 1)), (6, (.inr (0, 0, 0, 0, 0), 3)), (9, (.inl .arraylength, 1)), (10, (.inl (.if_icmp .ge 20), 3)), (13, (.inl (.aload_n 1), 1)), (14, (.inl (.iload_n 3), 1)), (15, (.inr (17, 67, 2, 1, 4), 3)), (18, (.inl (.ifCond .eq 6), 3)), (21, (.inl (.iinc 2 1), 3)), (24, (.inl (.iinc 3 1), 3)), (27, (.inl (.goto (-23)), 3)), (30, (.inl (.iload_n 2), 1)), (31, (.inl .ireturn, 1))]
/-- FarStore$Transaction.asks(I)Z -/
def cd_67 : List (Nat × (OI × Nat)) := [(0, (.inl (.iload_n 1), 1)), (1, (.inl (.aload_n 0), 1)), (2, (.inr (0, 4, 1, 0, 0), 3)), (5, (.inl (.if_icmp .ne 5), 3)), (8, (.inl (.iconst 0), 1)), (9, (.inl .ireturn, 1)), (10, (.inl (.iconst 0), 1)), (11, (.inl (.istore_n 2), 1)), (12, (.inl (.iload_n 2), 1)), (13, (.inl (.aload_n 0), 1)), (14, (.inr (0, 4, 3, 0, 0), 3)), (17, (.inr (17, 6, 1, 1, 8), 3)), (20, (.inl (.if_icmp .ge 32), 3)), (23, (.inl (.aload_n 0), 1)), (24, (.inr (0, 4, 3, 0, 0), 3)), (27, (.inl (.iload_n 2), 1)), (28, (.inr (17, 29, 2, 1, 8), 3)), (31, (.inr (4, 5, 0, 0, 0), 3)), (34, (.inr (0, 5, 1, 0, 0), 3)), (37, (.inr (0, 3, 0, 0, 0), 3)), (40, (.inl (.iload_n 1), 1)), (41, (.inl (.if_icmp .ne 5), 3)), (44, (.inl (.iconst 1), 1)), (45, (.inl .ireturn, 1)), (46, (.inl (.iinc 2 1), 3)), (49, (.inl (.goto (-37)), 3)), (52, (.inl (.iconst 0), 1)), (53, (.inl .ireturn, 1))]
/-- FarStore.makeCommit(LFarStore$Transaction;)V -/
def cd_68 : List (Nat × (OI × Nat)) := [(0, (.inl (.aload_n 0), 1)), (1, (.inr (0, 0, 0, 0, 0), 3)), (4, (.inl (.aload_n 1), 1)), (5, (.inr (0, 4, 1, 0, 0), 3)), (8, (.inl .aaload, 1)), (9, (.inl (.astore_n 2), 1)), (10, (.inl (.aload_n 1), 1)), (11, (.inl (.iconst 1), 1)), (12, (.inr (1, 4, 5, 0, 0), 3)), (15, (.inl (.aload_n 1), 1)), (16, (.inl (.aload_n 2), 1)), (17, (.inr (0, 2, 1, 0, 0), 3)), (20, (.inl (.aload_n 1), 1)), (21, (.inr (0, 4, 1, 0, 0), 3)), (24, (.inl .iaload, 1)), (25, (.inl (.iconst 1), 1)), (26, (.inl .iadd, 1)), (27, (.inr (1, 4, 6, 0, 0), 3)), (30, (.inl (.aload_n 0), 1)), (31, (.inl .dup, 1)), (32, (.inr (0, 0, 5, 0, 0), 3)), (35, (.inl (.iconst 1), 1)), (36, (.inl .iadd, 1)), (37, (.inr (1, 0, 5, 0, 0), 3)), (40, (.inl (.aload_n 1), 1)), (41, (.inr (17, 69, 1, 1, 4), 3)), (44, (.inl (.aload_n 2), 1)), (45, (.inl (.aload_n 1), 1)), (46, (.inr (17, 70, 2, 1, 2), 3)), (49, (.inl (.iconst 0), 1)), (50, (.inl (.istore_n 3), 1)), (51, (.inl (.iload_n 3), 1)), (52, (.inl (.aload_n 0), 1)), (53, (.inr (0, 0, 0, 0, 0), 3)), (56, (.inl .arraylength, 1)), (57, (.inl (.if_icmp .ge 43), 3)), (60, (.inl (.iload_n 3), 1)), (61, (.inl (.aload_n 1), 1)), (62, (.inr (0, 4, 1, 0, 0), 3)), (65, (.inl (.if_icmp .eq 29), 3)), (68, (.inl (.aload_n 0), 1)), (69, (.inr (0, 0, 0, 0, 0), 3)), (72, (.inl (.iload_n 3), 1)), (73, (.inl .aaload, 1)), (74, (.inr (0, 2, 3, 0, 0), 3)), (77, (.inr (2, 7, 3, 0, 0), 3)), (80, (.inl .dup, 1)), (81, (.inl (.iconst 5), 1)), (82, (.inl (.aload_n 1), 1)), (83, (.inr (0, 4, 1, 0, 0), 3)), (86, (.inl (.aload_n 1), 1)), (87, (.inr (17, 72, 4, 2, 0), 3)), (90, (.inr (17, 16, 2, 1, 8), 3)), (93, (.inl .pop, 1)), (94, (.inl (.iinc 3 1), 3)), (97, (.inl (.goto (-46)), 3)), (100, (.inl .return_, 1))]
/-- FarStore$Transaction.handToItems()V -/
def cd_69 : List (Nat × (OI × Nat)) := [(0, (.inl (.iconst 0), 1)), (1, (.inl (.istore_n 1), 1)), (2, (.inl (.iload_n 1), 1)), (3, (.inl (.aload_n 0), 1)), (4, (.inr (0, 4, 3, 0, 0), 3)), (7, (.inr (17, 6, 1, 1, 8), 3)), (10, (.inl (.if_icmp .ge 41), 3)), (13, (.inl (.aload_n 0), 1)), (14, (.inr (0, 4, 3, 0, 0), 3)), (17, (.inl (.iload_n 1), 1)), (18, (.inr (17, 29, 2, 1, 8), 3)), (21, (.inr (4, 5, 0, 0, 0), 3)), (24, (.inr (0, 5, 1, 0, 0), 3)), (27, (.inr (0, 3, 2, 0, 0), 3)), (30, (.inl (.aload_n 0), 1)), (31, (.inr (0, 4, 3, 0, 0), 3)), (34, (.inl (.iload_n 1), 1)), (35, (.inr (17, 29, 2, 1, 8), 3)), (38, (.inr (4, 5, 0, 0, 0), 3)), (41, (.inr (17, 16, 2, 1, 8), 3)), (44, (.inl .pop, 1)), (45, (.inl (.iinc 1 1), 3)), (48, (.inl (.goto (-46)), 3)), (51, (.inl (.iconst 0), 1)), (52, (.inl (.istore_n 1), 1)), (53, (.inl (.iload_n 1), 1)), (54, (.inl (.aload_n 0), 1)), (55, (.inr (0, 4, 4, 0, 0), 3)), (58, (.inr (17, 6, 1, 1, 8), 3)), (61, (.inl (.if_icmp .ge 41), 3)), (64, (.inl (.aload_n 0), 1)), (65, (.inr (0, 4, 4, 0, 0), 3)), (68, (.inl (.iload_n 1), 1)), (69, (.inr (17, 29, 2, 1, 8), 3)), (72, (.inr (4, 6, 0, 0, 0), 3)), (75, (.inr (0, 6, 1, 0, 0), 3)), (78, (.inr (0, 3, 3, 0, 0), 3)), (81, (.inl (.aload_n 0), 1)), (82, (.inr (0, 4, 4, 0, 0), 3)), (85, (.inl (.iload_n 1), 1)), (86, (.inr (17, 29, 2, 1, 8), 3)), (89, (.inr (4, 6, 0, 0, 0), 3)), (92, (.inr (17, 16, 2, 1, 8), 3)), (95, (.inl .pop, 1)), (96, (.inl (.iinc 1 1), 3)), (99, (.inl (.goto (-46)), 3)), (102, (.inl .return_, 1))]
/-- FarStore$Site.apply(LFarStore$Transaction;)V -/
def cd_70 : List (Nat × (OI × Nat)) := [(0, (.inl (.aload_n 0), 1)), (1, (.inr (0, 2, 1, 0, 0), 3)), (4, (.inl (.aload_n 1), 1)), (5, (.inr (0, 4, 1, 0, 0), 3)), (8, (.inl (.aload_n 1), 1)), (9, (.inr (0, 4, 6, 0, 0), 3)), (12, (.inl .iastore, 1)), (13, (.inl (.aload_n 1), 1)), (14, (.inl (.aload_n 0), 1)), (15, (.inr (17, 71, 2, 1, 4), 3)), (18, (.inl .return_, 1))]
/-- FarStore$Transaction.unlockAt(LFarStore$Site;)V -/
def cd_71 : List (Nat × (OI × Nat)) := [(0, (.inl (.iconst 0), 1)), (1, (.inl (.istore_n 2), 1)), (2, (.inl (.iload_n 2), 1)), (3, (.inl (.aload_n 0), 1)), (4, (.inr (0, 4, 3, 0, 0), 3)), (7, (.inr (17, 6, 1, 1, 8), 3)), (10, (.inl (.if_icmp .ge 51), 3)), (13, (.inl (.aload_n 0), 1)), (14, (.inr (0, 4, 3, 0, 0), 3)), (17, (.inl (.iload_n 2), 1)), (18, (.inr (17, 29, 2, 1, 8), 3)), (21, (.inr (4, 5, 0, 0, 0), 3)), (24, (.inr (0, 5, 1, 0, 0), 3)), (27, (.inl (.astore_n 3), 1)), (28, (.inl (.aload_n 3), 1)), (29, (.inr (0, 3, 0, 0, 0), 3)), (32, (.inl (.aload_n 1), 1)), (33, (.inr (0, 2, 0, 0, 0), 3)), (36, (.inl (.if_icmp .ne 19), 3)), (39, (.inl (.aload_n 3), 1)), (40, (.inr (0, 3, 4, 0, 0), 3)), (43, (.inl (.aload_n 0), 1)), (44, (.inr (0, 4, 0, 0, 0), 3)), (47, (.inl (.if_icmp .ne 8), 3)), (50, (.inl (.aload_n 3), 1)), (51, (.inl (.iconst (-1)), 1)), (52, (.inr (1, 3, 4, 0, 0), 3)), (55, (.inl (.iinc 2 1), 3)), (58, (.inl (.goto (-56)), 3)), (61, (.inl .return_, 1))]
/-- FarStore$Message.<init>(IILFarStore$Transaction;)V -/
def cd_72 : List (Nat × (OI × Nat)) := [(0, (.inl (.aload_n 0), 1)), (1, (.inr (7, 0, 0, 0, 0), 3)), (4, (.inl (.aload_n 0), 1)), (5, (.inl (.iload_n 1), 1)), (6, (.inr (1, 7, 0, 0, 0), 3)), (9, (.inl (.aload_n 0), 1)), (10, (.inl (.iload_n 2), 1)), (11, (.inr (1, 7, 1, 0, 0), 3)), (14, (.inl (.aload_n 0), 1)), (15, (.inl (.aload_n 3), 1)), (16, (.inr (1, 7, 2, 3, 0), 3)), (19, (.inl .return_, 1))]
/-- FarStore$Transaction.lockAt(LFarStore$Site;)V -/
def cd_73 : List (Nat × (OI × Nat)) := [(0, (.inl (.iconst 0), 1)), (1, (.inl (.istore_n 2), 1)), (2, (.inl (.iload_n 2), 1)), (3, (.inl (.aload_n 0), 1)), (4, (.inr (0, 4, 3, 0, 0), 3)), (7, (.inr (17, 6, 1, 1, 8), 3)), (10, (.inl (.if_icmp .ge 43), 3)), (13, (.inl (.aload_n 0), 1)), (14, (.inr (0, 4, 3, 0, 0), 3)), (17, (.inl (.iload_n 2), 1)), (18, (.inr (17, 29, 2, 1, 8), 3)), (21, (.inr (4, 5, 0, 0, 0), 3)), (24, (.inr (0, 5, 1, 0, 0), 3)), (27, (.inl (.astore_n 3), 1)), (28, (.inl (.aload_n 3), 1)), (29, (.inr (0, 3, 0, 0, 0), 3)), (32, (.inl (.aload_n 1), 1)), (33, (.inr (0, 2, 0, 0, 0), 3)), (36, (.inl (.if_icmp .ne 11), 3)), (39, (.inl (.aload_n 3), 1)), (40, (.inl (.aload_n 0), 1)), (41, (.inr (0, 4, 0, 0, 0), 3)), (44, (.inr (1, 3, 4, 0, 0), 3)), (47, (.inl (.iinc 2 1), 3)), (50, (.inl (.goto (-48)), 3)), (53, (.inl .return_, 1))]
/-- FarStore.sendToOtherHomes(LFarStore$Transaction;II)V -/
def cd_74 : List (Nat × (OI × Nat)) := [(0, (.inl (.iconst 0), 1)), (1, (.inl (.istore 4), 2)), (3, (.inl (.iload 4), 2)), (5, (.inl (.aload_n 0), 1)), (6, (.inr (0, 0, 0, 0, 0), 3)), (9, (.inl .arraylength, 1)), (10, (.inl (.if_icmp .ge 51), 3)), (13, (.inl (.aload_n 1), 1)), (14, (.inl (.iload 4), 2)), (16, (.inr (17, 67, 2, 1, 4), 3)), (19, (.inl (.ifCond .eq 36), 3)), (22, (.inl (.iload 4), 2)), (24, (.inl (.iload_n 3), 1)), (25, (.inl (.if_icmp .eq 30), 3)), (28, (.inl (.aload_n 0), 1)), (29, (.inr (0, 0, 0, 0, 0), 3)), (32, (.inl (.iload 4), 2)), (34, (.inl .aaload, 1)), (35, (.inr (0, 2, 3, 0, 0), 3)), (38, (.inr (2, 7, 3, 0, 0), 3)), (41, (.inl .dup, 1)), (42, (.inl (.iload_n 2), 1)), (43, (.inl (.aload_n 1), 1)), (44, (.inr (0, 4, 1, 0, 0), 3)), (47, (.inl (.aload_n 1), 1)), (48, (.inr (17, 72, 4, 2, 0), 3)), (51, (.inr (17, 16, 2, 1, 8), 3)), (54, (.inl .pop, 1)), (55, (.inl (.iinc 4 1), 3)), (58, (.inl (.goto (-55)), 3)), (61, (.inl .return_, 1))]
/-- FarStoreLaw.abort(LFarStore;I)I -/
def cd_75 : List (Nat × (OI × Nat)) := [(0, (.inl (.aload_n 0), 1)), (1, (.inl (.iload_n 1), 1)), (2, (.inr (17, 76, 2, 1, 0), 3)), (5, (.inl (.goto 9), 3)), (8, (.inl (.astore_n 2), 1)), (9, (.inl (.iconst 1), 1)), (10, (.inl .ireturn, 1)), (11, (.inl (.astore_n 2), 1)), (12, (.inl (.iconst 2), 1)), (13, (.inl .ireturn, 1)), (14, (.inl (.iconst 0), 1)), (15, (.inl .ireturn, 1))]
/-- FarStore.abort(I)V -/
def cd_76 : List (Nat × (OI × Nat)) := [(0, (.inl (.aload_n 0), 1)), (1, (.inl (.iload_n 1), 1)), (2, (.inr (17, 28, 2, 1, 0), 3)), (5, (.inl (.astore_n 2), 1)), (6, (.inl (.aload_n 0), 1)), (7, (.inl (.aload_n 2), 1)), (8, (.inr (17, 35, 2, 1, 0), 3)), (11, (.inl (.aload_n 2), 1)), (12, (.inl (.iconst 2), 1)), (13, (.inr (1, 4, 5, 0, 0), 3)), (16, (.inl .return_, 1))]
/-- FarStoreLaw.deliver(LFarStore;II[J)I -/
def cd_77 : List (Nat × (OI × Nat)) := [(0, (.inl (.aload_n 3), 1)), (1, (.inl (.iconst 0), 1)), (2, (.inl (.aload_n 0), 1)), (3, (.inl (.iload_n 1), 1)), (4, (.inl (.iload_n 2), 1)), (5, (.inr (17, 78, 3, 1, 0), 3)), (8, (.inl .i2l, 1)), (9, (.inl .lastore, 1)), (10, (.inl (.goto 11), 3)), (13, (.inl (.astore 4), 2)), (15, (.inl (.iconst 1), 1)), (16, (.inl .ireturn, 1)), (17, (.inl (.astore 4), 2)), (19, (.inl (.iconst 2), 1)), (20, (.inl .ireturn, 1)), (21, (.inl (.iconst 0), 1)), (22, (.inl .ireturn, 1))]
/-- FarStore.deliver(II)I -/
def cd_78 : List (Nat × (OI × Nat)) := [(0, (.inl (.aload_n 0), 1)), (1, (.inl (.iload_n 1), 1)), (2, (.inl (.iload_n 2), 1)), (3, (.inr (17, 79, 3, 1, 0), 3)), (6, (.inl (.aload_n 0), 1)), (7, (.inr (0, 0, 0, 0, 0), 3)), (10, (.inl (.iload_n 2), 1)), (11, (.inl .aaload, 1)), (12, (.inl (.iload_n 1), 1)), (13, (.inr (17, 80, 2, 1, 2), 3)), (16, (.inl (.astore_n 3), 1)), (17, (.inl (.aload_n 3), 1)), (18, (.inl (.ifnonnull 5), 3)), (21, (.inl (.iconst 0), 1)), (22, (.inl .ireturn, 1)), (23, (.inl (.aload_n 0), 1)), (24, (.inl (.aload_n 3), 1)), (25, (.inl (.aload_n 0), 1)), (26, (.inr (0, 0, 0, 0, 0), 3)), (29, (.inl (.iload_n 2), 1)), (30, (.inl .aaload, 1)), (31, (.inr (17, 83, 3, 1, 0), 3)), (34, (.inl (.aload_n 3), 1)), (35, (.inr (0, 7, 0, 0, 0), 3)), (38, (.inl .ireturn, 1))]
/-- FarStore.needTwoSites(II)V -/
def cd_79 : List (Nat × (OI × Nat)) := [(0, (.inl (.aload_n 0), 1)), (1, (.inl (.iload_n 1), 1)), (2, (.inr (17, 14, 2, 1, 0), 3)), (5, (.inl (.aload_n 0), 1)), (6, (.inl (.iload_n 2), 1)), (7, (.inr (17, 14, 2, 1, 0), 3)), (10, (.inl (.iload_n 1), 1)), (11, (.inl (.iload_n 2), 1)), (12, (.inl (.if_icmp .ne 13), 3)), (15, (.inr (16, 10, 0, 0, 0), 10)), (25, (.inl .return_, 1))]
/-- FarStore$Site.takeFrom(I)LFarStore$Message; -/
def cd_80 : List (Nat × (OI × Nat)) := [(0, (.inl (.iconst 0), 1)), (1, (.inl (.istore_n 2), 1)), (2, (.inl (.iload_n 2), 1)), (3, (.inl (.aload_n 0), 1)), (4, (.inr (0, 2, 3, 0, 0), 3)), (7, (.inr (17, 6, 1, 1, 8), 3)), (10, (.inl (.if_icmp .ge 39), 3)), (13, (.inl (.aload_n 0), 1)), (14, (.inr (0, 2, 3, 0, 0), 3)), (17, (.inl (.iload_n 2), 1)), (18, (.inr (17, 29, 2, 1, 8), 3)), (21, (.inr (4, 7, 0, 0, 0), 3)), (24, (.inr (0, 7, 1, 0, 0), 3)), (27, (.inl (.iload_n 1), 1)), (28, (.inl (.if_icmp .ne 15), 3)), (31, (.inl (.aload_n 0), 1)), (32, (.inr (0, 2, 3, 0, 0), 3)), (35, (.inl (.iload_n 2), 1)), (36, (.inr (17, 81, 2, 1, 8), 3)), (39, (.inr (4, 7, 0, 0, 0), 3)), (42, (.inl .areturn, 1)), (43, (.inl (.iinc 2 1), 3)), (46, (.inl (.goto (-44)), 3)), (49, (.inl .aconst_null, 1)), (50, (.inl .areturn, 1))]
/-- java/util/ArrayList.remove(I)Ljava/lang/Object; -/
def cd_81 : List (Nat × (OI × Nat)) := [(0, (.inl (.iload_n 1), 1)), (1, (.inl (.aload_n 0), 1)), (2, (.inr (0, 8, 1, 0, 0), 3)), (5, (.inr (17, 30, 2, 0, 0), 3)), (8, (.inl .pop, 1)), (9, (.inl (.aload_n 0), 1)), (10, (.inr (0, 8, 0, 0, 0), 3)), (13, (.inl (.astore_n 2), 1)), (14, (.inl (.aload_n 2), 1)), (15, (.inl (.iload_n 1), 1)), (16, (.inl .aaload, 1)), (17, (.inl (.astore_n 3), 1)), (18, (.inl (.aload_n 0), 1)), (19, (.inl (.aload_n 2), 1)), (20, (.inl (.iload_n 1), 1)), (21, (.inr (17, 82, 3, 1, 8), 3)), (24, (.inl (.aload_n 3), 1)), (25, (.inl .areturn, 1))]
/-- java/util/ArrayList.fastRemove([Ljava/lang/Object;I)V -/
def cd_82 : List (Nat × (OI × Nat)) := [(0, (.inl (.aload_n 0), 1)), (1, (.inl .dup, 1)), (2, (.inr (0, 8, 2, 0, 0), 3)), (5, (.inl (.iconst 1), 1)), (6, (.inl .iadd, 1)), (7, (.inr (1, 8, 2, 0, 0), 3)), (10, (.inl (.aload_n 0), 1)), (11, (.inr (0, 8, 1, 0, 0), 3)), (14, (.inl (.iconst 1), 1)), (15, (.inl .isub, 1)), (16, (.inl .dup, 1)), (17, (.inl (.istore_n 3), 1)), (18, (.inl (.iload_n 2), 1)), (19, (.inl (.if_icmp .le 15), 3)), (22, (.inl (.aload_n 1), 1)), (23, (.inl (.iload_n 2), 1)), (24, (.inl (.iconst 1), 1)), (25, (.inl .iadd, 1)), (26, (.inl (.aload_n 1), 1)), (27, (.inl (.iload_n 2), 1)), (28, (.inl (.iload_n 3), 1)), (29, (.inl (.iload_n 2), 1)), (30, (.inl .isub, 1)), (31, (.inr (9, 0, 0, 0, 0), 3)), (34, (.inl (.aload_n 1), 1)), (35, (.inl (.aload_n 0), 1)), (36, (.inl (.iload_n 3), 1)), (37, (.inl .dup_x1, 1)), (38, (.inr (1, 8, 1, 0, 0), 3)), (41, (.inl .aconst_null, 1)), (42, (.inl .aastore, 1)), (43, (.inl .return_, 1))]
/-- FarStore.arrive(LFarStore$Message;LFarStore$Site;)V -/
def cd_83 : List (Nat × (OI × Nat)) := [(0, (.inl (.aload_n 1), 1)), (1, (.inr (0, 7, 2, 0, 0), 3)), (4, (.inl (.astore_n 3), 1)), (5, (.inl (.aload_n 1), 1)), (6, (.inr (0, 7, 0, 0, 0), 3)), (9, (.inl (.tableswitch 68 1 4 #[31, 40, 48, 60]), 31)), (40, (.inl (.aload_n 0), 1)), (41, (.inl (.aload_n 3), 1)), (42, (.inl (.aload_n 2), 1)), (43, (.inr (17, 84, 3, 1, 0), 3)), (46, (.inl (.goto 36), 3)), (49, (.inl (.aload_n 0), 1)), (50, (.inl (.aload_n 3), 1)), (51, (.inr (17, 85, 2, 1, 0), 3)), (54, (.inl (.goto 28), 3)), (57, (.inl (.aload_n 0), 1)), (58, (.inl (.aload_n 3), 1)), (59, (.inl (.aload_n 1), 1)), (60, (.inr (0, 7, 1, 0, 0), 3)), (63, (.inr (17, 86, 3, 1, 0), 3)), (66, (.inl (.goto 16), 3)), (69, (.inl (.aload_n 3), 1)), (70, (.inl (.aload_n 2), 1)), (71, (.inr (17, 71, 2, 1, 4), 3)), (74, (.inl (.goto 8), 3)), (77, (.inl (.aload_n 2), 1)), (78, (.inl (.aload_n 3), 1)), (79, (.inr (17, 87, 2, 1, 2), 3)), (82, (.inl .return_, 1))]
/-- FarStore.answer(LFarStore$Transaction;LFarStore$Site;)V -/
def cd_84 : List (Nat × (OI × Nat)) := [(0, (.inl (.iconst 3), 1)), (1, (.inl (.istore_n 3), 1)), (2, (.inl (.aload_n 1), 1)), (3, (.inl (.aload_n 2), 1)), (4, (.inr (17, 63, 2, 1, 4), 3)), (7, (.inl (.ifCond .ne 10), 3)), (10, (.inl (.aload_n 1), 1)), (11, (.inl (.aload_n 2), 1)), (12, (.inr (17, 73, 2, 1, 4), 3)), (15, (.inl (.iconst 2), 1)), (16, (.inl (.istore_n 3), 1)), (17, (.inl (.aload_n 0), 1)), (18, (.inr (0, 0, 0, 0, 0), 3)), (21, (.inl (.aload_n 1), 1)), (22, (.inr (0, 4, 1, 0, 0), 3)), (25, (.inl .aaload, 1)), (26, (.inr (0, 2, 3, 0, 0), 3)), (29, (.inr (2, 7, 3, 0, 0), 3)), (32, (.inl .dup, 1)), (33, (.inl (.iload_n 3), 1)), (34, (.inl (.aload_n 2), 1)), (35, (.inr (0, 2, 0, 0, 0), 3)), (38, (.inl (.aload_n 1), 1)), (39, (.inr (17, 72, 4, 2, 0), 3)), (42, (.inr (17, 16, 2, 1, 8), 3)), (45, (.inl .pop, 1)), (46, (.inl .return_, 1))]
/-- FarStore.hearYes(LFarStore$Transaction;)V -/
def cd_85 : List (Nat × (OI × Nat)) := [(0, (.inl (.aload_n 1), 1)), (1, (.inr (0, 4, 5, 0, 0), 3)), (4, (.inl (.iconst 3), 1)), (5, (.inl (.if_icmp .eq 4), 3)), (8, (.inl .return_, 1)), (9, (.inl (.aload_n 1), 1)), (10, (.inl .dup, 1)), (11, (.inr (0, 4, 7, 0, 0), 3)), (14, (.inl (.iconst 1), 1)), (15, (.inl .isub, 1)), (16, (.inr (1, 4, 7, 0, 0), 3)), (19, (.inl (.aload_n 1), 1)), (20, (.inr (0, 4, 7, 0, 0), 3)), (23, (.inl (.ifCond .ne 8), 3)), (26, (.inl (.aload_n 0), 1)), (27, (.inl (.aload_n 1), 1)), (28, (.inr (17, 68, 2, 1, 0), 3)), (31, (.inl .return_, 1))]
/-- FarStore.hearNo(LFarStore$Transaction;I)V -/
def cd_86 : List (Nat × (OI × Nat)) := [(0, (.inl (.aload_n 1), 1)), (1, (.inr (0, 4, 5, 0, 0), 3)), (4, (.inl (.iconst 3), 1)), (5, (.inl (.if_icmp .eq 4), 3)), (8, (.inl .return_, 1)), (9, (.inl (.aload_n 1), 1)), (10, (.inl (.iconst 2), 1)), (11, (.inr (1, 4, 5, 0, 0), 3)), (14, (.inl (.aload_n 1), 1)), (15, (.inl (.aload_n 0), 1)), (16, (.inr (0, 0, 0, 0, 0), 3)), (19, (.inl (.aload_n 1), 1)), (20, (.inr (0, 4, 1, 0, 0), 3)), (23, (.inl .aaload, 1)), (24, (.inr (17, 71, 2, 1, 4), 3)), (27, (.inl (.aload_n 0), 1)), (28, (.inl (.aload_n 1), 1)), (29, (.inl (.iconst 4), 1)), (30, (.inl (.iload_n 2), 1)), (31, (.inr (17, 74, 4, 1, 0), 3)), (34, (.inl .return_, 1))]
/-- FarStore$Site.receive(LFarStore$Transaction;)V -/
def cd_87 : List (Nat × (OI × Nat)) := [(0, (.inl (.aload_n 0), 1)), (1, (.inl (.aload_n 1), 1)), (2, (.inr (17, 88, 2, 1, 2), 3)), (5, (.inl (.ifCond .eq 15), 3)), (8, (.inl (.aload_n 0), 1)), (9, (.inl (.aload_n 1), 1)), (10, (.inr (17, 70, 2, 1, 2), 3)), (13, (.inl (.aload_n 0), 1)), (14, (.inr (17, 89, 1, 1, 2), 3)), (17, (.inl (.goto 12), 3)), (20, (.inl (.aload_n 0), 1)), (21, (.inr (0, 2, 2, 0, 0), 3)), (24, (.inl (.aload_n 1), 1)), (25, (.inr (17, 16, 2, 1, 8), 3)), (28, (.inl .pop, 1)), (29, (.inl .return_, 1))]
/-- FarStore$Site.canApply(LFarStore$Transaction;)Z -/
def cd_88 : List (Nat × (OI × Nat)) := [(0, (.inl (.aload_n 0), 1)), (1, (.inr (0, 2, 1, 0, 0), 3)), (4, (.inl (.aload_n 1), 1)), (5, (.inr (0, 4, 1, 0, 0), 3)), (8, (.inl .iaload, 1)), (9, (.inl (.aload_n 1), 1)), (10, (.inr (0, 4, 6, 0, 0), 3)), (13, (.inl (.iconst 1), 1)), (14, (.inl .isub, 1)), (15, (.inl (.if_icmp .eq 5), 3)), (18, (.inl (.iconst 0), 1)), (19, (.inl .ireturn, 1)), (20, (.inl (.iconst 0), 1)), (21, (.inl (.istore_n 2), 1)), (22, (.inl (.iload_n 2), 1)), (23, (.inl (.aload_n 0), 1)), (24, (.inr (0, 2, 1, 0, 0), 3)), (27, (.inl .arraylength, 1)), (28, (.inl (.if_icmp .ge 26), 3)), (31, (.inl (.aload_n 0), 1)), (32, (.inr (0, 2, 1, 0, 0), 3)), (35, (.inl (.iload_n 2), 1)), (36, (.inl .iaload, 1)), (37, (.inl (.aload_n 1), 1)), (38, (.inr (0, 4, 2, 0, 0), 3)), (41, (.inl (.iload_n 2), 1)), (42, (.inl .iaload, 1)), (43, (.inl (.if_icmp .ge 5), 3)), (46, (.inl (.iconst 0), 1)), (47, (.inl .ireturn, 1)), (48, (.inl (.iinc 2 1), 3)), (51, (.inl (.goto (-29)), 3)), (54, (.inl (.iconst 1), 1)), (55, (.inl .ireturn, 1))]
/-- FarStore$Site.applyHeld()V -/
def cd_89 : List (Nat × (OI × Nat)) := [(0, (.inl (.aload_n 0), 1)), (1, (.inr (0, 2, 2, 0, 0), 3)), (4, (.inr (17, 6, 1, 1, 8), 3)), (7, (.inl (.istore_n 1), 1)), (8, (.inl (.iload_n 1), 1)), (9, (.inl (.ifCond .le 34), 3)), (12, (.inl (.aload_n 0), 1)), (13, (.inr (17, 90, 1, 1, 2), 3)), (16, (.inl (.istore_n 2), 1)), (17, (.inl (.iload_n 2), 1)), (18, (.inl (.ifCond .ge 4), 3)), (21, (.inl .return_, 1)), (22, (.inl (.aload_n 0), 1)), (23, (.inl (.aload_n 0), 1)), (24, (.inr (0, 2, 2, 0, 0), 3)), (27, (.inl (.iload_n 2), 1)), (28, (.inr (17, 81, 2, 1, 8), 3)), (31, (.inr (4, 4, 0, 0, 0), 3)), (34, (.inr (17, 70, 2, 1, 2), 3)), (37, (.inl (.iinc 1 (-1)), 3)), (40, (.inl (.goto (-32)), 3)), (43, (.inl .return_, 1))]
/-- FarStore$Site.firstThatCanBeApplied()I -/
def cd_90 : List (Nat × (OI × Nat)) := [(0, (.inl (.iconst 0), 1)), (1, (.inl (.istore_n 1), 1)), (2, (.inl (.iload_n 1), 1)), (3, (.inl (.aload_n 0), 1)), (4, (.inr (0, 2, 2, 0, 0), 3)), (7, (.inr (17, 6, 1, 1, 8), 3)), (10, (.inl (.if_icmp .ge 29), 3)), (13, (.inl (.aload_n 0), 1)), (14, (.inl (.aload_n 0), 1)), (15, (.inr (0, 2, 2, 0, 0), 3)), (18, (.inl (.iload_n 1), 1)), (19, (.inr (17, 29, 2, 1, 8), 3)), (22, (.inr (4, 4, 0, 0, 0), 3)), (25, (.inr (17, 88, 2, 1, 2), 3)), (28, (.inl (.ifCond .eq 5), 3)), (31, (.inl (.iload_n 1), 1)), (32, (.inl .ireturn, 1)), (33, (.inl (.iinc 1 1), 3)), (36, (.inl (.goto (-34)), 3)), (39, (.inl (.iconst (-1)), 1)), (40, (.inl .ireturn, 1))]
/-- FarStoreLaw.waiting(LFarStore;II[J)I -/
def cd_91 : List (Nat × (OI × Nat)) := [(0, (.inl (.aload_n 3), 1)), (1, (.inl (.iconst 0), 1)), (2, (.inl (.aload_n 0), 1)), (3, (.inl (.iload_n 1), 1)), (4, (.inl (.iload_n 2), 1)), (5, (.inr (17, 92, 3, 1, 0), 3)), (8, (.inl .i2l, 1)), (9, (.inl .lastore, 1)), (10, (.inl (.goto 11), 3)), (13, (.inl (.astore 4), 2)), (15, (.inl (.iconst 1), 1)), (16, (.inl .ireturn, 1)), (17, (.inl (.astore 4), 2)), (19, (.inl (.iconst 2), 1)), (20, (.inl .ireturn, 1)), (21, (.inl (.iconst 0), 1)), (22, (.inl .ireturn, 1))]
/-- FarStore.waiting(II)I -/
def cd_92 : List (Nat × (OI × Nat)) := [(0, (.inl (.aload_n 0), 1)), (1, (.inl (.iload_n 1), 1)), (2, (.inl (.iload_n 2), 1)), (3, (.inr (17, 79, 3, 1, 0), 3)), (6, (.inl (.aload_n 0), 1)), (7, (.inr (0, 0, 0, 0, 0), 3)), (10, (.inl (.iload_n 2), 1)), (11, (.inl .aaload, 1)), (12, (.inl (.iload_n 1), 1)), (13, (.inr (17, 93, 2, 1, 2), 3)), (16, (.inl .ireturn, 1))]
/-- FarStore$Site.waitingFrom(I)I -/
def cd_93 : List (Nat × (OI × Nat)) := [(0, (.inl (.iconst 0), 1)), (1, (.inl (.istore_n 2), 1)), (2, (.inl (.iconst 0), 1)), (3, (.inl (.istore_n 3), 1)), (4, (.inl (.iload_n 3), 1)), (5, (.inl (.aload_n 0), 1)), (6, (.inr (0, 2, 3, 0, 0), 3)), (9, (.inr (17, 6, 1, 1, 8), 3)), (12, (.inl (.if_icmp .ge 30), 3)), (15, (.inl (.aload_n 0), 1)), (16, (.inr (0, 2, 3, 0, 0), 3)), (19, (.inl (.iload_n 3), 1)), (20, (.inr (17, 29, 2, 1, 8), 3)), (23, (.inr (4, 7, 0, 0, 0), 3)), (26, (.inr (0, 7, 1, 0, 0), 3)), (29, (.inl (.iload_n 1), 1)), (30, (.inl (.if_icmp .ne 6), 3)), (33, (.inl (.iinc 2 1), 3)), (36, (.inl (.iinc 3 1), 3)), (39, (.inl (.goto (-35)), 3)), (42, (.inl (.iload_n 2), 1)), (43, (.inl .ireturn, 1))]
/-- FarStoreLaw.seen(LFarStore;II[J)I -/
def cd_94 : List (Nat × (OI × Nat)) := [(0, (.inl (.aload_n 3), 1)), (1, (.inl (.iconst 0), 1)), (2, (.inl (.aload_n 0), 1)), (3, (.inl (.iload_n 1), 1)), (4, (.inl (.iload_n 2), 1)), (5, (.inr (17, 95, 3, 1, 0), 3)), (8, (.inl .i2l, 1)), (9, (.inl .lastore, 1)), (10, (.inl (.goto 11), 3)), (13, (.inl (.astore 4), 2)), (15, (.inl (.iconst 1), 1)), (16, (.inl .ireturn, 1)), (17, (.inl (.astore 4), 2)), (19, (.inl (.iconst 2), 1)), (20, (.inl .ireturn, 1)), (21, (.inl (.iconst 0), 1)), (22, (.inl .ireturn, 1))]
/-- FarStore.seen(II)I -/
def cd_95 : List (Nat × (OI × Nat)) := [(0, (.inl (.aload_n 0), 1)), (1, (.inl (.iload_n 1), 1)), (2, (.inr (17, 14, 2, 1, 0), 3)), (5, (.inl (.aload_n 0), 1)), (6, (.inl (.iload_n 2), 1)), (7, (.inr (17, 14, 2, 1, 0), 3)), (10, (.inl (.aload_n 0), 1)), (11, (.inr (0, 0, 0, 0, 0), 3)), (14, (.inl (.iload_n 1), 1)), (15, (.inl .aaload, 1)), (16, (.inr (0, 2, 1, 0, 0), 3)), (19, (.inl (.iload_n 2), 1)), (20, (.inl .iaload, 1)), (21, (.inl .ireturn, 1))]
/-- FarStoreLaw.state(LFarStore;II[J)I -/
def cd_96 : List (Nat × (OI × Nat)) := [(0, (.inl (.aload_n 3), 1)), (1, (.inl (.iconst 0), 1)), (2, (.inl (.aload_n 0), 1)), (3, (.inl (.iload_n 1), 1)), (4, (.inl (.iload_n 2), 1)), (5, (.inr (17, 97, 3, 1, 0), 3)), (8, (.inl .i2l, 1)), (9, (.inl .lastore, 1)), (10, (.inl (.goto 11), 3)), (13, (.inl (.astore 4), 2)), (15, (.inl (.iconst 1), 1)), (16, (.inl .ireturn, 1)), (17, (.inl (.astore 4), 2)), (19, (.inl (.iconst 2), 1)), (20, (.inl .ireturn, 1)), (21, (.inl (.iconst 0), 1)), (22, (.inl .ireturn, 1))]
/-- FarStore.state(II)I -/
def cd_97 : List (Nat × (OI × Nat)) := [(0, (.inl (.aload_n 0), 1)), (1, (.inl (.iload_n 1), 1)), (2, (.inr (17, 28, 2, 1, 0), 3)), (5, (.inl (.astore_n 3), 1)), (6, (.inl (.iload_n 2), 1)), (7, (.inl (.tableswitch 62 0 3 #[29, 34, 39, 45]), 29)), (36, (.inl (.aload_n 3), 1)), (37, (.inr (0, 4, 5, 0, 0), 3)), (40, (.inl .ireturn, 1)), (41, (.inl (.aload_n 3), 1)), (42, (.inr (0, 4, 6, 0, 0), 3)), (45, (.inl .ireturn, 1)), (46, (.inl (.aload_n 0), 1)), (47, (.inl (.aload_n 3), 1)), (48, (.inr (17, 98, 2, 1, 0), 3)), (51, (.inl .ireturn, 1)), (52, (.inl (.aload_n 3), 1)), (53, (.inr (0, 4, 5, 0, 0), 3)), (56, (.inl (.iconst 3), 1)), (57, (.inl (.if_icmp .ne 10), 3)), (60, (.inl (.aload_n 3), 1)), (61, (.inr (0, 4, 7, 0, 0), 3)), (64, (.inl (.goto 4), 3)), (67, (.inl (.iconst 0), 1)), (68, (.inl .ireturn, 1)), (69, (.inr (16, 10, 0, 0, 0), 10))]
/-- FarStore.sitesThatApplied(LFarStore$Transaction;)I -/
def cd_98 : List (Nat × (OI × Nat)) := [(0, (.inl (.iconst 0), 1)), (1, (.inl (.istore_n 2), 1)), (2, (.inl (.iconst 0), 1)), (3, (.inl (.istore_n 3), 1)), (4, (.inl (.iload_n 3), 1)), (5, (.inl (.aload_n 0), 1)), (6, (.inr (0, 0, 0, 0, 0), 3)), (9, (.inl .arraylength, 1)), (10, (.inl (.if_icmp .ge 25), 3)), (13, (.inl (.aload_n 0), 1)), (14, (.inr (0, 0, 0, 0, 0), 3)), (17, (.inl (.iload_n 3), 1)), (18, (.inl .aaload, 1)), (19, (.inl (.aload_n 1), 1)), (20, (.inr (17, 65, 2, 1, 2), 3)), (23, (.inl (.ifCond .eq 6), 3)), (26, (.inl (.iinc 2 1), 3)), (29, (.inl (.iinc 3 1), 3)), (32, (.inl (.goto (-28)), 3)), (35, (.inl (.iload_n 2), 1)), (36, (.inl .ireturn, 1))]
/-- FarStoreLaw.locked(LFarStore;I[J)I -/
def cd_99 : List (Nat × (OI × Nat)) := [(0, (.inl (.aload_n 2), 1)), (1, (.inl (.iconst 0), 1)), (2, (.inl (.aload_n 0), 1)), (3, (.inl (.iload_n 1), 1)), (4, (.inr (17, 100, 2, 1, 0), 3)), (7, (.inl .i2l, 1)), (8, (.inl .lastore, 1)), (9, (.inl (.goto 9), 3)), (12, (.inl (.astore_n 3), 1)), (13, (.inl (.iconst 1), 1)), (14, (.inl .ireturn, 1)), (15, (.inl (.astore_n 3), 1)), (16, (.inl (.iconst 2), 1)), (17, (.inl .ireturn, 1)), (18, (.inl (.iconst 0), 1)), (19, (.inl .ireturn, 1))]
/-- FarStore.locked(I)I -/
def cd_100 : List (Nat × (OI × Nat)) := [(0, (.inl (.aload_n 0), 1)), (1, (.inl (.iload_n 1), 1)), (2, (.inr (17, 34, 2, 1, 0), 3)), (5, (.inr (0, 3, 4, 0, 0), 3)), (8, (.inl .ireturn, 1))]
/-- FarStoreModel.<init>()V -/
def cd_101 : List (Nat × (OI × Nat)) := [(0, (.inl (.aload_n 0), 1)), (1, (.inr (7, 0, 0, 0, 0), 3)), (4, (.inl (.aload_n 0), 1)), (5, (.inl (.sipush 200), 3)), (8, (.inl (.newarray .int), 2)), (10, (.inr (1, 9, 7, 3, 0), 3)), (13, (.inl (.aload_n 0), 1)), (14, (.inl (.sipush 200), 3)), (17, (.inl (.newarray .int), 2)), (19, (.inr (1, 9, 8, 3, 0), 3)), (22, (.inl (.aload_n 0), 1)), (23, (.inl (.sipush 200), 3)), (26, (.inl (.newarray .boolean), 2)), (28, (.inr (1, 9, 9, 3, 0), 3)), (31, (.inl (.aload_n 0), 1)), (32, (.inl (.sipush 500), 3)), (35, (.inl (.newarray .int), 2)), (37, (.inr (1, 9, 10, 3, 0), 3)), (40, (.inl (.aload_n 0), 1)), (41, (.inl (.sipush 500), 3)), (44, (.inl (.newarray .int), 2)), (46, (.inr (1, 9, 11, 3, 0), 3)), (49, (.inl (.aload_n 0), 1)), (50, (.inl (.sipush 500), 3)), (53, (.inl (.newarray .int), 2)), (55, (.inr (1, 9, 12, 3, 0), 3)), (58, (.inl (.aload_n 0), 1)), (59, (.inl (.sipush 3000), 3)), (62, (.inl (.newarray .int), 2)), (64, (.inr (1, 9, 13, 3, 0), 3)), (67, (.inl (.aload_n 0), 1)), (68, (.inl (.sipush 500), 3)), (71, (.inl (.newarray .int), 2)), (73, (.inr (1, 9, 14, 3, 0), 3)), (76, (.inl (.aload_n 0), 1)), (77, (.inl (.sipush 500), 3)), (80, (.inl (.newarray .int), 2)), (82, (.inr (1, 9, 15, 3, 0), 3)), (85, (.inl (.aload_n 0), 1)), (86, (.inl (.sipush 4200), 3)), (89, (.inl (.newarray .int), 2)), (91, (.inr (1, 9, 16, 3, 0), 3)), (94, (.inl (.aload_n 0), 1)), (95, (.inl (.sipush 4200), 3)), (98, (.inl (.newarray .int), 2)), (100, (.inr (1, 9, 17, 3, 0), 3)), (103, (.inl (.aload_n 0), 1)), (104, (.inl (.sipush 4200), 3)), (107, (.inl (.newarray .int), 2)), (109, (.inr (1, 9, 18, 3, 0), 3)), (112, (.inl (.aload_n 0), 1)), (113, (.inl (.sipush 4200), 3)), (116, (.inl (.newarray .long), 2)), (118, (.inr (1, 9, 19, 3, 0), 3)), (121, (.inl (.aload_n 0), 1)), (122, (.inl (.bipush 36), 2)), (124, (.inl (.newarray .int), 2)), (126, (.inr (1, 9, 20, 3, 0), 3)), (129, (.inl (.aload_n 0), 1)), (130, (.inl (.bipush 6), 2)), (132, (.inl (.newarray .int), 2)), (134, (.inr (1, 9, 21, 3, 0), 3)), (137, (.inl (.aload_n 0), 1)), (138, (.inl (.sipush 3006), 3)), (141, (.inl (.newarray .int), 2)), (143, (.inr (1, 9, 22, 3, 0), 3)), (146, (.inl (.aload_n 0), 1)), (147, (.inl (.sipush 16000), 3)), (150, (.inl (.newarray .int), 2)), (152, (.inr (1, 9, 23, 3, 0), 3)), (155, (.inl (.aload_n 0), 1)), (156, (.inl (.sipush 16000), 3)), (159, (.inl (.newarray .int), 2)), (161, (.inr (1, 9, 24, 3, 0), 3)), (164, (.inl (.aload_n 0), 1)), (165, (.inl (.sipush 16000), 3)), (168, (.inl (.newarray .int), 2)), (170, (.inr (1, 9, 25, 3, 0), 3)), (173, (.inl (.aload_n 0), 1)), (174, (.inl (.sipush 16000), 3)), (177, (.inl (.newarray .int), 2)), (179, (.inr (1, 9, 26, 3, 0), 3)), (182, (.inl (.aload_n 0), 1)), (183, (.inl (.sipush 3000), 3)), (186, (.inl (.newarray .int), 2)), (188, (.inr (1, 9, 27, 3, 0), 3)), (191, (.inl (.aload_n 0), 1)), (192, (.inl (.bipush 6), 2)), (194, (.inl (.newarray .int), 2)), (196, (.inr (1, 9, 28, 3, 0), 3)), (199, (.inl .return_, 1))]
/-- FarStoreModel.thrown()I -/
def cd_102 : List (Nat × (OI × Nat)) := [(0, (.inl (.aload_n 0), 1)), (1, (.inr (0, 9, 0, 0, 0), 3)), (4, (.inl .ireturn, 1))]
/-- FarStoreModel.sites(I)V -/
def cd_103 : List (Nat × (OI × Nat)) := [(0, (.inl (.aload_n 0), 1)), (1, (.inl (.iload_n 1), 1)), (2, (.inl (.iconst 1), 1)), (3, (.inl (.if_icmp .lt 9), 3)), (6, (.inl (.iload_n 1), 1)), (7, (.inl (.bipush 6), 2)), (9, (.inl (.if_icmp .le 7), 3)), (12, (.inl (.iconst 1), 1)), (13, (.inl (.goto 4), 3)), (16, (.inl (.iconst 0), 1)), (17, (.inl (.aload_n 0), 1)), (18, (.inr (0, 9, 1, 0, 0), 3)), (21, (.inl (.ifCond .le 7), 3)), (24, (.inl (.iconst 1), 1)), (25, (.inl (.goto 4), 3)), (28, (.inl (.iconst 0), 1)), (29, (.inr (17, 104, 3, 1, 9), 3)), (32, (.inl (.ifCond .eq 4), 3)), (35, (.inl .return_, 1)), (36, (.inl (.aload_n 0), 1)), (37, (.inl (.iload_n 1), 1)), (38, (.inr (1, 9, 1, 0, 0), 3)), (41, (.inl .return_, 1))]
/-- FarStoreModel.fails(ZZ)Z -/
def cd_104 : List (Nat × (OI × Nat)) := [(0, (.inl (.aload_n 0), 1)), (1, (.inl (.iload_n 1), 1)), (2, (.inl (.ifCond .eq 7), 3)), (5, (.inl (.iconst 1), 1)), (6, (.inl (.goto 12), 3)), (9, (.inl (.iload_n 2), 1)), (10, (.inl (.ifCond .eq 7), 3)), (13, (.inl (.iconst 2), 1)), (14, (.inl (.goto 4), 3)), (17, (.inl (.iconst 0), 1)), (18, (.inr (1, 9, 0, 0, 0), 3)), (21, (.inl (.aload_n 0), 1)), (22, (.inr (0, 9, 0, 0, 0), 3)), (25, (.inl (.ifCond .eq 7), 3)), (28, (.inl (.iconst 1), 1)), (29, (.inl (.goto 4), 3)), (32, (.inl (.iconst 0), 1)), (33, (.inl .ireturn, 1))]
/-- FarStoreModel.object(IZ)I -/
def cd_105 : List (Nat × (OI × Nat)) := [(0, (.inl (.aload_n 0), 1)), (1, (.inl (.aload_n 0), 1)), (2, (.inl (.iload_n 1), 1)), (3, (.inr (17, 106, 2, 1, 9), 3)), (6, (.inl (.ifCond .ne 7), 3)), (9, (.inl (.iconst 1), 1)), (10, (.inl (.goto 4), 3)), (13, (.inl (.iconst 0), 1)), (14, (.inl (.aload_n 0), 1)), (15, (.inr (0, 9, 2, 0, 0), 3)), (18, (.inl (.sipush 200), 3)), (21, (.inl (.if_icmp .ne 7), 3)), (24, (.inl (.iconst 1), 1)), (25, (.inl (.goto 4), 3)), (28, (.inl (.iconst 0), 1)), (29, (.inr (17, 104, 3, 1, 9), 3)), (32, (.inl (.ifCond .eq 5), 3)), (35, (.inl (.iconst 0), 1)), (36, (.inl .ireturn, 1)), (37, (.inl (.aload_n 0), 1)), (38, (.inr (0, 9, 7, 0, 0), 3)), (41, (.inl (.aload_n 0), 1)), (42, (.inr (0, 9, 2, 0, 0), 3)), (45, (.inl (.iload_n 1), 1)), (46, (.inl .iastore, 1)), (47, (.inl (.aload_n 0), 1)), (48, (.inr (0, 9, 9, 0, 0), 3)), (51, (.inl (.aload_n 0), 1)), (52, (.inr (0, 9, 2, 0, 0), 3)), (55, (.inl (.iload_n 2), 1)), (56, (.inl .bastore, 1)), (57, (.inl (.aload_n 0), 1)), (58, (.inr (0, 9, 8, 0, 0), 3)), (61, (.inl (.aload_n 0), 1)), (62, (.inr (0, 9, 2, 0, 0), 3)), (65, (.inl (.iconst (-1)), 1)), (66, (.inl .iastore, 1)), (67, (.inl (.aload_n 0), 1)), (68, (.inl .dup, 1)), (69, (.inr (0, 9, 2, 0, 0), 3)), (72, (.inl (.iconst 1), 1)), (73, (.inl .iadd, 1)), (74, (.inr (1, 9, 2, 0, 0), 3)), (77, (.inl (.aload_n 0), 1)), (78, (.inr (0, 9, 2, 0, 0), 3)), (81, (.inl (.iconst 1), 1)), (82, (.inl .isub, 1)), (83, (.inl .ireturn, 1))]
/-- FarStoreModel.isSite(I)Z -/
def cd_106 : List (Nat × (OI × Nat)) := [(0, (.inl (.iload_n 1), 1)), (1, (.inl (.ifCond .lt 15), 3)), (4, (.inl (.iload_n 1), 1)), (5, (.inl (.aload_n 0), 1)), (6, (.inr (0, 9, 1, 0, 0), 3)), (9, (.inl (.if_icmp .ge 7), 3)), (12, (.inl (.iconst 1), 1)), (13, (.inl (.goto 4), 3)), (16, (.inl (.iconst 0), 1)), (17, (.inl .ireturn, 1))]
/-- FarStoreModel.begin(I)I -/
def cd_107 : List (Nat × (OI × Nat)) := [(0, (.inl (.aload_n 0), 1)), (1, (.inl (.aload_n 0), 1)), (2, (.inl (.iload_n 1), 1)), (3, (.inr (17, 106, 2, 1, 9), 3)), (6, (.inl (.ifCond .ne 7), 3)), (9, (.inl (.iconst 1), 1)), (10, (.inl (.goto 4), 3)), (13, (.inl (.iconst 0), 1)), (14, (.inl (.aload_n 0), 1)), (15, (.inr (0, 9, 3, 0, 0), 3)), (18, (.inl (.sipush 500), 3)), (21, (.inl (.if_icmp .ne 7), 3)), (24, (.inl (.iconst 1), 1)), (25, (.inl (.goto 4), 3)), (28, (.inl (.iconst 0), 1)), (29, (.inr (17, 104, 3, 1, 9), 3)), (32, (.inl (.ifCond .eq 5), 3)), (35, (.inl (.iconst 0), 1)), (36, (.inl .ireturn, 1)), (37, (.inl (.aload_n 0), 1)), (38, (.inr (0, 9, 3, 0, 0), 3)), (41, (.inl (.istore_n 2), 1)), (42, (.inl (.aload_n 0), 1)), (43, (.inl .dup, 1)), (44, (.inr (0, 9, 3, 0, 0), 3)), (47, (.inl (.iconst 1), 1)), (48, (.inl .iadd, 1)), (49, (.inr (1, 9, 3, 0, 0), 3)), (52, (.inl (.aload_n 0), 1)), (53, (.inr (0, 9, 10, 0, 0), 3)), (56, (.inl (.iload_n 2), 1)), (57, (.inl (.iload_n 1), 1)), (58, (.inl .iastore, 1)), (59, (.inl (.iconst 0), 1)), (60, (.inl (.istore_n 3), 1)), (61, (.inl (.iload_n 3), 1)), (62, (.inl (.aload_n 0), 1)), (63, (.inr (0, 9, 1, 0, 0), 3)), (66, (.inl (.if_icmp .ge 31), 3)), (69, (.inl (.aload_n 0), 1)), (70, (.inr (0, 9, 13, 0, 0), 3)), (73, (.inl (.bipush 6), 2)), (75, (.inl (.iload_n 2), 1)), (76, (.inl .imul, 1)), (77, (.inl (.iload_n 3), 1)), (78, (.inl .iadd, 1)), (79, (.inl (.aload_n 0), 1)), (80, (.inr (0, 9, 20, 0, 0), 3)), (83, (.inl (.bipush 6), 2)), (85, (.inl (.iload_n 1), 1)), (86, (.inl .imul, 1)), (87, (.inl (.iload_n 3), 1)), (88, (.inl .iadd, 1)), (89, (.inl .iaload, 1)), (90, (.inl .iastore, 1)), (91, (.inl (.iinc 3 1), 3)), (94, (.inl (.goto (-33)), 3)), (97, (.inl (.iload_n 2), 1)), (98, (.inl .ireturn, 1))]
/-- FarStoreModel.read(II)J -/
def cd_108 : List (Nat × (OI × Nat)) := [(0, (.inl (.aload_n 0), 1)), (1, (.inl (.iload_n 1), 1)), (2, (.inl (.iload_n 2), 1)), (3, (.inl (.iconst 0), 1)), (4, (.inr (17, 109, 4, 1, 9), 3)), (7, (.inl (.ifCond .eq 5), 3)), (10, (.inl (.lconst 0), 1)), (11, (.inl .lreturn, 1)), (12, (.inl (.aload_n 0), 1)), (13, (.inl (.iload_n 1), 1)), (14, (.inl (.iload_n 2), 1)), (15, (.inr (17, 112, 3, 1, 9), 3)), (18, (.inl (.ifCond .eq 10), 3)), (21, (.inl (.aload_n 0), 1)), (22, (.inl (.iload_n 1), 1)), (23, (.inl (.iload_n 2), 1)), (24, (.inr (17, 113, 3, 1, 9), 3)), (27, (.inl .lreturn, 1)), (28, (.inl (.iconst (-1)), 1)), (29, (.inl (.istore_n 3), 1)), (30, (.inl (.iconst 0), 1)), (31, (.inl (.istore 4), 2)), (33, (.inl (.iload 4), 2)), (35, (.inl (.aload_n 0), 1)), (36, (.inr (0, 9, 3, 0, 0), 3)), (39, (.inl (.if_icmp .ge 49), 3)), (42, (.inl (.aload_n 0), 1)), (43, (.inl (.iload 4), 2)), (45, (.inl (.iload_n 1), 1)), (46, (.inr (17, 114, 3, 1, 9), 3)), (49, (.inl (.ifCond .eq 33), 3)), (52, (.inl (.aload_n 0), 1)), (53, (.inl (.iload 4), 2)), (55, (.inl (.iload_n 2), 1)), (56, (.inr (17, 112, 3, 1, 9), 3)), (59, (.inl (.ifCond .ne 6), 3)), (62, (.inl (.goto 20), 3)), (65, (.inl (.iload_n 3), 1)), (66, (.inl (.ifCond .lt 13), 3)), (69, (.inl (.aload_n 0), 1)), (70, (.inl (.iload_n 3), 1)), (71, (.inl (.iload 4), 2)), (73, (.inr (17, 114, 3, 1, 9), 3)), (76, (.inl (.ifCond .eq 6), 3)), (79, (.inl (.iload 4), 2)), (81, (.inl (.istore_n 3), 1)), (82, (.inl (.iinc 4 1), 3)), (85, (.inl (.goto (-52)), 3)), (88, (.inl (.iload_n 3), 1)), (89, (.inl (.ifCond .ge 7), 3)), (92, (.inl (.lconst 0), 1)), (93, (.inl (.goto 9), 3)), (96, (.inl (.aload_n 0), 1)), (97, (.inl (.iload_n 3), 1)), (98, (.inl (.iload_n 2), 1)), (99, (.inr (17, 113, 3, 1, 9), 3)), (102, (.inl .lreturn, 1))]
/-- FarStoreModel.isWrong(IIZ)Z -/
def cd_109 : List (Nat × (OI × Nat)) := [(0, (.inl (.aload_n 0), 1)), (1, (.inl (.aload_n 0), 1)), (2, (.inl (.iload_n 1), 1)), (3, (.inr (17, 110, 2, 1, 9), 3)), (6, (.inl (.ifCond .eq 21), 3)), (9, (.inl (.aload_n 0), 1)), (10, (.inl (.iload_n 2), 1)), (11, (.inr (17, 111, 2, 1, 9), 3)), (14, (.inl (.ifCond .eq 13), 3)), (17, (.inl (.aload_n 0), 1)), (18, (.inr (0, 9, 9, 0, 0), 3)), (21, (.inl (.iload_n 2), 1)), (22, (.inl .baload, 1)), (23, (.inl (.iload_n 3), 1)), (24, (.inl (.if_icmp .eq 7), 3)), (27, (.inl (.iconst 1), 1)), (28, (.inl (.goto 4), 3)), (31, (.inl (.iconst 0), 1)), (32, (.inl (.aload_n 0), 1)), (33, (.inl (.iload_n 1), 1)), (34, (.inr (17, 110, 2, 1, 9), 3)), (37, (.inl (.ifCond .eq 16), 3)), (40, (.inl (.aload_n 0), 1)), (41, (.inr (0, 9, 11, 0, 0), 3)), (44, (.inl (.iload_n 1), 1)), (45, (.inl .iaload, 1)), (46, (.inl (.ifCond .eq 7), 3)), (49, (.inl (.iconst 1), 1)), (50, (.inl (.goto 4), 3)), (53, (.inl (.iconst 0), 1)), (54, (.inr (17, 104, 3, 1, 9), 3)), (57, (.inl .ireturn, 1))]
/-- FarStoreModel.isTran(I)Z -/
def cd_110 : List (Nat × (OI × Nat)) := [(0, (.inl (.iload_n 1), 1)), (1, (.inl (.ifCond .lt 15), 3)), (4, (.inl (.iload_n 1), 1)), (5, (.inl (.aload_n 0), 1)), (6, (.inr (0, 9, 3, 0, 0), 3)), (9, (.inl (.if_icmp .ge 7), 3)), (12, (.inl (.iconst 1), 1)), (13, (.inl (.goto 4), 3)), (16, (.inl (.iconst 0), 1)), (17, (.inl .ireturn, 1))]
/-- FarStoreModel.isObject(I)Z -/
def cd_111 : List (Nat × (OI × Nat)) := [(0, (.inl (.iload_n 1), 1)), (1, (.inl (.ifCond .lt 15), 3)), (4, (.inl (.iload_n 1), 1)), (5, (.inl (.aload_n 0), 1)), (6, (.inr (0, 9, 2, 0, 0), 3)), (9, (.inl (.if_icmp .ge 7), 3)), (12, (.inl (.iconst 1), 1)), (13, (.inl (.goto 4), 3)), (16, (.inl (.iconst 0), 1)), (17, (.inl .ireturn, 1))]
/-- FarStoreModel.wrote(II)Z -/
def cd_112 : List (Nat × (OI × Nat)) := [(0, (.inl (.iconst 0), 1)), (1, (.inl (.istore_n 3), 1)), (2, (.inl (.iload_n 3), 1)), (3, (.inl (.aload_n 0), 1)), (4, (.inr (0, 9, 4, 0, 0), 3)), (7, (.inl (.if_icmp .ge 31), 3)), (10, (.inl (.aload_n 0), 1)), (11, (.inr (0, 9, 16, 0, 0), 3)), (14, (.inl (.iload_n 3), 1)), (15, (.inl .iaload, 1)), (16, (.inl (.iload_n 1), 1)), (17, (.inl (.if_icmp .ne 15), 3)), (20, (.inl (.aload_n 0), 1)), (21, (.inr (0, 9, 17, 0, 0), 3)), (24, (.inl (.iload_n 3), 1)), (25, (.inl .iaload, 1)), (26, (.inl (.iload_n 2), 1)), (27, (.inl (.if_icmp .ne 5), 3)), (30, (.inl (.iconst 1), 1)), (31, (.inl .ireturn, 1)), (32, (.inl (.iinc 3 1), 3)), (35, (.inl (.goto (-33)), 3)), (38, (.inl (.iconst 0), 1)), (39, (.inl .ireturn, 1))]
/-- FarStoreModel.lastOf(II)J -/
def cd_113 : List (Nat × (OI × Nat)) := [(0, (.inl (.lconst 0), 1)), (1, (.inl (.lstore_n 3), 1)), (2, (.inl (.iconst 0), 1)), (3, (.inl (.istore 5), 2)), (5, (.inl (.iload 5), 2)), (7, (.inl (.aload_n 0), 1)), (8, (.inr (0, 9, 4, 0, 0), 3)), (11, (.inl (.if_icmp .ge 39), 3)), (14, (.inl (.aload_n 0), 1)), (15, (.inr (0, 9, 16, 0, 0), 3)), (18, (.inl (.iload 5), 2)), (20, (.inl .iaload, 1)), (21, (.inl (.iload_n 1), 1)), (22, (.inl (.if_icmp .ne 22), 3)), (25, (.inl (.aload_n 0), 1)), (26, (.inr (0, 9, 17, 0, 0), 3)), (29, (.inl (.iload 5), 2)), (31, (.inl .iaload, 1)), (32, (.inl (.iload_n 2), 1)), (33, (.inl (.if_icmp .ne 11), 3)), (36, (.inl (.aload_n 0), 1)), (37, (.inr (0, 9, 19, 0, 0), 3)), (40, (.inl (.iload 5), 2)), (42, (.inl .laload, 1)), (43, (.inl (.lstore_n 3), 1)), (44, (.inl (.iinc 5 1), 3)), (47, (.inl (.goto (-42)), 3)), (50, (.inl (.lload_n 3), 1)), (51, (.inl .lreturn, 1))]
/-- FarStoreModel.visible(II)Z -/
def cd_114 : List (Nat × (OI × Nat)) := [(0, (.inl (.aload_n 0), 1)), (1, (.inr (0, 9, 12, 0, 0), 3)), (4, (.inl (.iload_n 1), 1)), (5, (.inl .iaload, 1)), (6, (.inl (.ifCond .le 32), 3)), (9, (.inl (.aload_n 0), 1)), (10, (.inr (0, 9, 12, 0, 0), 3)), (13, (.inl (.iload_n 1), 1)), (14, (.inl .iaload, 1)), (15, (.inl (.aload_n 0), 1)), (16, (.inr (0, 9, 13, 0, 0), 3)), (19, (.inl (.bipush 6), 2)), (21, (.inl (.iload_n 2), 1)), (22, (.inl .imul, 1)), (23, (.inl (.aload_n 0), 1)), (24, (.inr (0, 9, 10, 0, 0), 3)), (27, (.inl (.iload_n 1), 1)), (28, (.inl .iaload, 1)), (29, (.inl .iadd, 1)), (30, (.inl .iaload, 1)), (31, (.inl (.if_icmp .gt 7), 3)), (34, (.inl (.iconst 1), 1)), (35, (.inl (.goto 4), 3)), (38, (.inl (.iconst 0), 1)), (39, (.inl .ireturn, 1))]
/-- FarStoreModel.write(IIJ)V -/
def cd_115 : List (Nat × (OI × Nat)) := [(0, (.inl (.aload_n 0), 1)), (1, (.inl (.iload_n 1), 1)), (2, (.inl (.iload_n 2), 1)), (3, (.inl (.iconst 0), 1)), (4, (.inr (17, 109, 4, 1, 9), 3)), (7, (.inl (.ifCond .ne 11), 3)), (10, (.inl (.aload_n 0), 1)), (11, (.inl (.iload_n 1), 1)), (12, (.inl (.iload_n 2), 1)), (13, (.inl (.lload_n 3), 1)), (14, (.inl (.iconst 0), 1)), (15, (.inr (17, 116, 5, 1, 9), 3)), (18, (.inl .return_, 1))]
/-- FarStoreModel.did(IIJI)V -/
def cd_116 : List (Nat × (OI × Nat)) := [(0, (.inl (.aload_n 0), 1)), (1, (.inr (0, 9, 16, 0, 0), 3)), (4, (.inl (.aload_n 0), 1)), (5, (.inr (0, 9, 4, 0, 0), 3)), (8, (.inl (.iload_n 1), 1)), (9, (.inl .iastore, 1)), (10, (.inl (.aload_n 0), 1)), (11, (.inr (0, 9, 17, 0, 0), 3)), (14, (.inl (.aload_n 0), 1)), (15, (.inr (0, 9, 4, 0, 0), 3)), (18, (.inl (.iload_n 2), 1)), (19, (.inl .iastore, 1)), (20, (.inl (.aload_n 0), 1)), (21, (.inr (0, 9, 19, 0, 0), 3)), (24, (.inl (.aload_n 0), 1)), (25, (.inr (0, 9, 4, 0, 0), 3)), (28, (.inl (.lload_n 3), 1)), (29, (.inl .lastore, 1)), (30, (.inl (.aload_n 0), 1)), (31, (.inr (0, 9, 18, 0, 0), 3)), (34, (.inl (.aload_n 0), 1)), (35, (.inr (0, 9, 4, 0, 0), 3)), (38, (.inl (.iload 5), 2)), (40, (.inl .iastore, 1)), (41, (.inl (.aload_n 0), 1)), (42, (.inl .dup, 1)), (43, (.inr (0, 9, 4, 0, 0), 3)), (46, (.inl (.iconst 1), 1)), (47, (.inl .iadd, 1)), (48, (.inr (1, 9, 4, 0, 0), 3)), (51, (.inl .return_, 1))]
/-- FarStoreModel.change(IIIZ)V -/
def cd_117 : List (Nat × (OI × Nat)) := [(0, (.inl (.aload_n 0), 1)), (1, (.inl (.iload_n 1), 1)), (2, (.inl (.iload_n 2), 1)), (3, (.inl (.iconst 1), 1)), (4, (.inr (17, 109, 4, 1, 9), 3)), (7, (.inl (.ifCond .ne 21), 3)), (10, (.inl (.aload_n 0), 1)), (11, (.inl (.iload_n 1), 1)), (12, (.inl (.iload_n 2), 1)), (13, (.inl (.iload_n 3), 1)), (14, (.inl .i2l, 1)), (15, (.inl (.iload 4), 2)), (17, (.inl (.ifCond .eq 7), 3)), (20, (.inl (.iconst 1), 1)), (21, (.inl (.goto 4), 3)), (24, (.inl (.iconst (-1)), 1)), (25, (.inr (17, 116, 5, 1, 9), 3)), (28, (.inl .return_, 1))]
/-- FarStoreModel.count(III)I -/
def cd_118 : List (Nat × (OI × Nat)) := [(0, (.inl (.aload_n 0), 1)), (1, (.inl (.iload_n 1), 1)), (2, (.inl (.iload_n 2), 1)), (3, (.inl (.iconst 1), 1)), (4, (.inr (17, 109, 4, 1, 9), 3)), (7, (.inl (.ifCond .eq 7), 3)), (10, (.inl (.iconst 0), 1)), (11, (.inl (.goto 11), 3)), (14, (.inl (.aload_n 0), 1)), (15, (.inl (.iload_n 1), 1)), (16, (.inl (.iload_n 2), 1)), (17, (.inl (.iload_n 3), 1)), (18, (.inl .i2l, 1)), (19, (.inr (17, 119, 4, 1, 9), 3)), (22, (.inl .ireturn, 1))]
/-- FarStoreModel.countOf(IIJ)I -/
def cd_119 : List (Nat × (OI × Nat)) := [(0, (.inl (.iconst 0), 1)), (1, (.inl (.istore 5), 2)), (3, (.inl (.iconst 0), 1)), (4, (.inl (.istore 6), 2)), (6, (.inl (.iload 6), 2)), (8, (.inl (.aload_n 0), 1)), (9, (.inr (0, 9, 4, 0, 0), 3)), (12, (.inl (.if_icmp .ge 70), 3)), (15, (.inl (.aload_n 0), 1)), (16, (.inr (0, 9, 17, 0, 0), 3)), (19, (.inl (.iload 6), 2)), (21, (.inl .iaload, 1)), (22, (.inl (.iload_n 2), 1)), (23, (.inl (.if_icmp .ne 53), 3)), (26, (.inl (.aload_n 0), 1)), (27, (.inr (0, 9, 19, 0, 0), 3)), (30, (.inl (.iload 6), 2)), (32, (.inl .laload, 1)), (33, (.inl (.lload_n 3), 1)), (34, (.inl .lcmp, 1)), (35, (.inl (.ifCond .ne 41), 3)), (38, (.inl (.aload_n 0), 1)), (39, (.inr (0, 9, 16, 0, 0), 3)), (42, (.inl (.iload 6), 2)), (44, (.inl .iaload, 1)), (45, (.inl (.iload_n 1), 1)), (46, (.inl (.if_icmp .eq 18), 3)), (49, (.inl (.aload_n 0), 1)), (50, (.inl (.aload_n 0), 1)), (51, (.inr (0, 9, 16, 0, 0), 3)), (54, (.inl (.iload 6), 2)), (56, (.inl .iaload, 1)), (57, (.inl (.iload_n 1), 1)), (58, (.inr (17, 114, 3, 1, 9), 3)), (61, (.inl (.ifCond .eq 15), 3)), (64, (.inl (.iload 5), 2)), (66, (.inl (.aload_n 0), 1)), (67, (.inr (0, 9, 18, 0, 0), 3)), (70, (.inl (.iload 6), 2)), (72, (.inl .iaload, 1)), (73, (.inl .iadd, 1)), (74, (.inl (.istore 5), 2)), (76, (.inl (.iinc 6 1), 3)), (79, (.inl (.goto (-73)), 3)), (82, (.inl (.iload 5), 2)), (84, (.inl .ireturn, 1))]
/-- FarStoreModel.element(III)I -/
def cd_120 : List (Nat × (OI × Nat)) := [(0, (.inl (.aload_n 0), 1)), (1, (.inl (.iload_n 1), 1)), (2, (.inl (.iload_n 2), 1)), (3, (.inl (.iconst 1), 1)), (4, (.inr (17, 109, 4, 1, 9), 3)), (7, (.inl (.ifCond .eq 5), 3)), (10, (.inl (.iconst 0), 1)), (11, (.inl .ireturn, 1)), (12, (.inr (15, 9223372036854775808, 1, 0, 0), 3)), (15, (.inl (.lstore 4), 2)), (17, (.inl (.iconst 0), 1)), (18, (.inl (.istore 6), 2)), (20, (.inl (.iload 6), 2)), (22, (.inl (.iload_n 3), 1)), (23, (.inl (.if_icmp .gt 113), 3)), (26, (.inr (15, 9223372036854775807, 0, 0, 0), 3)), (29, (.inl (.lstore 7), 2)), (31, (.inl (.iconst 0), 1)), (32, (.inl (.istore 9), 2)), (34, (.inl (.iload 9), 2)), (36, (.inl (.aload_n 0), 1)), (37, (.inr (0, 9, 4, 0, 0), 3)), (40, (.inl (.if_icmp .ge 71), 3)), (43, (.inl (.aload_n 0), 1)), (44, (.inr (0, 9, 17, 0, 0), 3)), (47, (.inl (.iload 9), 2)), (49, (.inl .iaload, 1)), (50, (.inl (.iload_n 2), 1)), (51, (.inl (.if_icmp .ne 54), 3)), (54, (.inl (.aload_n 0), 1)), (55, (.inr (0, 9, 19, 0, 0), 3)), (58, (.inl (.iload 9), 2)), (60, (.inl .laload, 1)), (61, (.inl (.lload 4), 2)), (63, (.inl .lcmp, 1)), (64, (.inl (.ifCond .le 41), 3)), (67, (.inl (.aload_n 0), 1)), (68, (.inr (0, 9, 19, 0, 0), 3)), (71, (.inl (.iload 9), 2)), (73, (.inl .laload, 1)), (74, (.inl (.lload 7), 2)), (76, (.inl .lcmp, 1)), (77, (.inl (.ifCond .ge 28), 3)), (80, (.inl (.aload_n 0), 1)), (81, (.inl (.iload_n 1), 1)), (82, (.inl (.iload_n 2), 1)), (83, (.inl (.aload_n 0), 1)), (84, (.inr (0, 9, 19, 0, 0), 3)), (87, (.inl (.iload 9), 2)), (89, (.inl .laload, 1)), (90, (.inr (17, 119, 4, 1, 9), 3)), (93, (.inl (.ifCond .eq 12), 3)), (96, (.inl (.aload_n 0), 1)), (97, (.inr (0, 9, 19, 0, 0), 3)), (100, (.inl (.iload 9), 2)), (102, (.inl .laload, 1)), (103, (.inl (.lstore 7), 2)), (105, (.inl (.iinc 9 1), 3)), (108, (.inl (.goto (-74)), 3)), (111, (.inl (.lload 7), 2)), (113, (.inr (15, 9223372036854775807, 0, 0, 0), 3)), (116, (.inl .lcmp, 1)), (117, (.inl (.ifCond .ne 9), 3)), (120, (.inl (.aload_n 0), 1)), (121, (.inl (.iconst 3), 1)), (122, (.inr (17, 121, 2, 1, 9), 3)), (125, (.inl .ireturn, 1)), (126, (.inl (.lload 7), 2)), (128, (.inl (.lstore 4), 2)), (130, (.inl (.iinc 6 1), 3)), (133, (.inl (.goto (-113)), 3)), (136, (.inl (.iload_n 3), 1)), (137, (.inl (.ifCond .ge 11), 3)), (140, (.inl (.aload_n 0), 1)), (141, (.inl (.iconst 3), 1)), (142, (.inr (17, 121, 2, 1, 9), 3)), (145, (.inl (.goto 6), 3)), (148, (.inl (.lload 4), 2)), (150, (.inl .l2i, 1)), (151, (.inl .ireturn, 1))]
/-- FarStoreModel.no(I)I -/
def cd_121 : List (Nat × (OI × Nat)) := [(0, (.inl (.aload_n 0), 1)), (1, (.inl (.iload_n 1), 1)), (2, (.inr (1, 9, 0, 0, 0), 3)), (5, (.inl (.iconst 0), 1)), (6, (.inl .ireturn, 1))]
/-- FarStoreModel.commit(I)I -/
def cd_122 : List (Nat × (OI × Nat)) := [(0, (.inl (.aload_n 0), 1)), (1, (.inl (.aload_n 0), 1)), (2, (.inl (.iload_n 1), 1)), (3, (.inr (17, 110, 2, 1, 9), 3)), (6, (.inl (.ifCond .ne 7), 3)), (9, (.inl (.iconst 1), 1)), (10, (.inl (.goto 4), 3)), (13, (.inl (.iconst 0), 1)), (14, (.inl (.aload_n 0), 1)), (15, (.inl (.iload_n 1), 1)), (16, (.inr (17, 110, 2, 1, 9), 3)), (19, (.inl (.ifCond .eq 16), 3)), (22, (.inl (.aload_n 0), 1)), (23, (.inr (0, 9, 11, 0, 0), 3)), (26, (.inl (.iload_n 1), 1)), (27, (.inl .iaload, 1)), (28, (.inl (.ifCond .eq 7), 3)), (31, (.inl (.iconst 1), 1)), (32, (.inl (.goto 4), 3)), (35, (.inl (.iconst 0), 1)), (36, (.inr (17, 104, 3, 1, 9), 3)), (39, (.inl (.ifCond .eq 5), 3)), (42, (.inl (.iconst 0), 1)), (43, (.inl .ireturn, 1)), (44, (.inl (.iconst 0), 1)), (45, (.inl (.istore_n 2), 1)), (46, (.inl (.iconst 0), 1)), (47, (.inl (.istore_n 3), 1)), (48, (.inl (.iconst 0), 1)), (49, (.inl (.istore 4), 2)), (51, (.inl (.aload_n 0), 1)), (52, (.inr (0, 9, 10, 0, 0), 3)), (55, (.inl (.iload_n 1), 1)), (56, (.inl .iaload, 1)), (57, (.inl (.istore 5), 2)), (59, (.inl (.iconst 0), 1)), (60, (.inl (.istore 6), 2)), (62, (.inl (.iload 6), 2)), (64, (.inl (.aload_n 0), 1)), (65, (.inr (0, 9, 4, 0, 0), 3)), (68, (.inl (.if_icmp .ge 77), 3)), (71, (.inl (.aload_n 0), 1)), (72, (.inr (0, 9, 16, 0, 0), 3)), (75, (.inl (.iload 6), 2)), (77, (.inl .iaload, 1)), (78, (.inl (.iload_n 1), 1)), (79, (.inl (.if_icmp .eq 6), 3)), (82, (.inl (.goto 57), 3)), (85, (.inl (.iconst 1), 1)), (86, (.inl (.istore_n 3), 1)), (87, (.inl (.aload_n 0), 1)), (88, (.inr (0, 9, 9, 0, 0), 3)), (91, (.inl (.aload_n 0), 1)), (92, (.inr (0, 9, 17, 0, 0), 3)), (95, (.inl (.iload 6), 2)), (97, (.inl .iaload, 1)), (98, (.inl .baload, 1)), (99, (.inl (.ifCond .ne 5), 3)), (102, (.inl (.iconst 1), 1)), (103, (.inl (.istore_n 2), 1)), (104, (.inl (.aload_n 0), 1)), (105, (.inr (0, 9, 9, 0, 0), 3)), (108, (.inl (.aload_n 0), 1)), (109, (.inr (0, 9, 17, 0, 0), 3)), (112, (.inl (.iload 6), 2)), (114, (.inl .iaload, 1)), (115, (.inl .baload, 1)), (116, (.inl (.ifCond .ne 23), 3)), (119, (.inl (.aload_n 0), 1)), (120, (.inr (0, 9, 7, 0, 0), 3)), (123, (.inl (.aload_n 0), 1)), (124, (.inr (0, 9, 17, 0, 0), 3)), (127, (.inl (.iload 6), 2)), (129, (.inl .iaload, 1)), (130, (.inl .iaload, 1)), (131, (.inl (.iload 5), 2)), (133, (.inl (.if_icmp .eq 6), 3)), (136, (.inl (.iconst 1), 1)), (137, (.inl (.istore 4), 2)), (139, (.inl (.iinc 6 1), 3)), (142, (.inl (.goto (-80)), 3)), (145, (.inl (.iload_n 3), 1)), (146, (.inl (.ifCond .ne 13), 3)), (149, (.inl (.aload_n 0), 1)), (150, (.inr (0, 9, 11, 0, 0), 3)), (153, (.inl (.iload_n 1), 1)), (154, (.inl (.iconst 1), 1)), (155, (.inl .iastore, 1)), (156, (.inl (.goto 120), 3)), (159, (.inl (.iload_n 2), 1)), (160, (.inl (.ifCond .ne 11), 3)), (163, (.inl (.aload_n 0), 1)), (164, (.inl (.iload_n 1), 1)), (165, (.inr (17, 123, 2, 1, 9), 3)), (168, (.inl (.goto 108), 3)), (171, (.inl (.aload_n 0), 1)), (172, (.inl (.iload_n 1), 1)), (173, (.inl (.iload 5), 2)), (175, (.inr (17, 128, 3, 1, 9), 3)), (178, (.inl (.ifCond .eq 13), 3)), (181, (.inl (.aload_n 0), 1)), (182, (.inr (0, 9, 11, 0, 0), 3)), (185, (.inl (.iload_n 1), 1)), (186, (.inl (.iconst 2), 1)), (187, (.inl .iastore, 1)), (188, (.inl (.goto 88), 3)), (191, (.inl (.iload 4), 2)), (193, (.inl (.ifCond .ne 11), 3)), (196, (.inl (.aload_n 0), 1)), (197, (.inl (.iload_n 1), 1)), (198, (.inr (17, 123, 2, 1, 9), 3)), (201, (.inl (.goto 75), 3)), (204, (.inl (.aload_n 0), 1)), (205, (.inl (.iload_n 1), 1)), (206, (.inl (.iload 5), 2)), (208, (.inr (17, 130, 3, 1, 9), 3)), (211, (.inl (.aload_n 0), 1)), (212, (.inr (0, 9, 11, 0, 0), 3)), (215, (.inl (.iload_n 1), 1)), (216, (.inl (.iconst 3), 1)), (217, (.inl .iastore, 1)), (218, (.inl (.iconst 0), 1)), (219, (.inl (.istore 6), 2)), (221, (.inl (.iload 6), 2)), (223, (.inl (.aload_n 0), 1)), (224, (.inr (0, 9, 1, 0, 0), 3)), (227, (.inl (.if_icmp .ge 49), 3)), (230, (.inl (.iload 6), 2)), (232, (.inl (.iload 5), 2)), (234, (.inl (.if_icmp .eq 36), 3)), (237, (.inl (.aload_n 0), 1)), (238, (.inl (.iload_n 1), 1)), (239, (.inl (.iload 6), 2)), (241, (.inr (17, 131, 3, 1, 9), 3)), (244, (.inl (.ifCond .ne 6), 3)), (247, (.inl (.goto 23), 3)), (250, (.inl (.aload_n 0), 1)), (251, (.inl (.iload 5), 2)), (253, (.inl (.iload 6), 2)), (255, (.inl (.iconst 1), 1)), (256, (.inl (.iload_n 1), 1)), (257, (.inr (17, 125, 5, 1, 9), 3)), (260, (.inl (.aload_n 0), 1)), (261, (.inr (0, 9, 15, 0, 0), 3)), (264, (.inl (.iload_n 1), 1)), (265, (.inl .dup2, 1)), (266, (.inl .iaload, 1)), (267, (.inl (.iconst 1), 1)), (268, (.inl .iadd, 1)), (269, (.inl .iastore, 1)), (270, (.inl (.iinc 6 1), 3)), (273, (.inl (.goto (-52)), 3)), (276, (.inl (.aload_n 0), 1)), (277, (.inr (0, 9, 11, 0, 0), 3)), (280, (.inl (.iload_n 1), 1)), (281, (.inl .iaload, 1)), (282, (.inl .ireturn, 1))]
/-- FarStoreModel.commits(I)V -/
def cd_123 : List (Nat × (OI × Nat)) := [(0, (.inl (.aload_n 0), 1)), (1, (.inr (0, 9, 10, 0, 0), 3)), (4, (.inl (.iload_n 1), 1)), (5, (.inl .iaload, 1)), (6, (.inl (.istore_n 2), 1)), (7, (.inl (.aload_n 0), 1)), (8, (.inr (0, 9, 11, 0, 0), 3)), (11, (.inl (.iload_n 1), 1)), (12, (.inl (.iconst 1), 1)), (13, (.inl .iastore, 1)), (14, (.inl (.aload_n 0), 1)), (15, (.inr (0, 9, 21, 0, 0), 3)), (18, (.inl (.iload_n 2), 1)), (19, (.inl .dup2, 1)), (20, (.inl .iaload, 1)), (21, (.inl (.iconst 1), 1)), (22, (.inl .iadd, 1)), (23, (.inl .iastore, 1)), (24, (.inl (.aload_n 0), 1)), (25, (.inl .dup, 1)), (26, (.inr (0, 9, 6, 0, 0), 3)), (29, (.inl (.iconst 1), 1)), (30, (.inl .iadd, 1)), (31, (.inr (1, 9, 6, 0, 0), 3)), (34, (.inl (.aload_n 0), 1)), (35, (.inr (0, 9, 12, 0, 0), 3)), (38, (.inl (.iload_n 1), 1)), (39, (.inl (.aload_n 0), 1)), (40, (.inr (0, 9, 21, 0, 0), 3)), (43, (.inl (.iload_n 2), 1)), (44, (.inl .iaload, 1)), (45, (.inl .iastore, 1)), (46, (.inl (.aload_n 0), 1)), (47, (.inr (0, 9, 22, 0, 0), 3)), (50, (.inl (.iload_n 2), 1)), (51, (.inl (.sipush 501), 3)), (54, (.inl .imul, 1)), (55, (.inl (.aload_n 0), 1)), (56, (.inr (0, 9, 21, 0, 0), 3)), (59, (.inl (.iload_n 2), 1)), (60, (.inl .iaload, 1)), (61, (.inl .iadd, 1)), (62, (.inl (.iload_n 1), 1)), (63, (.inl .iastore, 1)), (64, (.inl (.aload_n 0), 1)), (65, (.inr (0, 9, 20, 0, 0), 3)), (68, (.inl (.bipush 6), 2)), (70, (.inl (.iload_n 2), 1)), (71, (.inl .imul, 1)), (72, (.inl (.iload_n 2), 1)), (73, (.inl .iadd, 1)), (74, (.inl (.aload_n 0), 1)), (75, (.inr (0, 9, 21, 0, 0), 3)), (78, (.inl (.iload_n 2), 1)), (79, (.inl .iaload, 1)), (80, (.inl .iastore, 1)), (81, (.inl (.aload_n 0), 1)), (82, (.inl (.iload_n 1), 1)), (83, (.inl (.iload_n 2), 1)), (84, (.inr (17, 124, 3, 1, 9), 3)), (87, (.inl (.iconst 0), 1)), (88, (.inl (.istore_n 3), 1)), (89, (.inl (.iload_n 3), 1)), (90, (.inl (.aload_n 0), 1)), (91, (.inr (0, 9, 1, 0, 0), 3)), (94, (.inl (.if_icmp .ge 22), 3)), (97, (.inl (.iload_n 3), 1)), (98, (.inl (.iload_n 2), 1)), (99, (.inl (.if_icmp .eq 11), 3)), (102, (.inl (.aload_n 0), 1)), (103, (.inl (.iload_n 2), 1)), (104, (.inl (.iload_n 3), 1)), (105, (.inl (.iconst 5), 1)), (106, (.inl (.iload_n 1), 1)), (107, (.inr (17, 125, 5, 1, 9), 3)), (110, (.inl (.iinc 3 1), 3)), (113, (.inl (.goto (-24)), 3)), (116, (.inl (.aload_n 0), 1)), (117, (.inl (.iload_n 2), 1)), (118, (.inr (17, 126, 2, 1, 9), 3)), (121, (.inl .return_, 1))]
/-- FarStoreModel.unlock(II)V -/
def cd_124 : List (Nat × (OI × Nat)) := [(0, (.inl (.iconst 0), 1)), (1, (.inl (.istore_n 3), 1)), (2, (.inl (.iload_n 3), 1)), (3, (.inl (.aload_n 0), 1)), (4, (.inr (0, 9, 2, 0, 0), 3)), (7, (.inl (.if_icmp .ge 36), 3)), (10, (.inl (.aload_n 0), 1)), (11, (.inr (0, 9, 7, 0, 0), 3)), (14, (.inl (.iload_n 3), 1)), (15, (.inl .iaload, 1)), (16, (.inl (.iload_n 2), 1)), (17, (.inl (.if_icmp .ne 20), 3)), (20, (.inl (.aload_n 0), 1)), (21, (.inr (0, 9, 8, 0, 0), 3)), (24, (.inl (.iload_n 3), 1)), (25, (.inl .iaload, 1)), (26, (.inl (.iload_n 1), 1)), (27, (.inl (.if_icmp .ne 10), 3)), (30, (.inl (.aload_n 0), 1)), (31, (.inr (0, 9, 8, 0, 0), 3)), (34, (.inl (.iload_n 3), 1)), (35, (.inl (.iconst (-1)), 1)), (36, (.inl .iastore, 1)), (37, (.inl (.iinc 3 1), 3)), (40, (.inl (.goto (-38)), 3)), (43, (.inl .return_, 1))]
/-- FarStoreModel.send(IIII)V -/
def cd_125 : List (Nat × (OI × Nat)) := [(0, (.inl (.aload_n 0), 1)), (1, (.inr (0, 9, 23, 0, 0), 3)), (4, (.inl (.aload_n 0), 1)), (5, (.inr (0, 9, 5, 0, 0), 3)), (8, (.inl (.iload_n 1), 1)), (9, (.inl .iastore, 1)), (10, (.inl (.aload_n 0), 1)), (11, (.inr (0, 9, 24, 0, 0), 3)), (14, (.inl (.aload_n 0), 1)), (15, (.inr (0, 9, 5, 0, 0), 3)), (18, (.inl (.iload_n 2), 1)), (19, (.inl .iastore, 1)), (20, (.inl (.aload_n 0), 1)), (21, (.inr (0, 9, 25, 0, 0), 3)), (24, (.inl (.aload_n 0), 1)), (25, (.inr (0, 9, 5, 0, 0), 3)), (28, (.inl (.iload_n 3), 1)), (29, (.inl .iastore, 1)), (30, (.inl (.aload_n 0), 1)), (31, (.inr (0, 9, 26, 0, 0), 3)), (34, (.inl (.aload_n 0), 1)), (35, (.inr (0, 9, 5, 0, 0), 3)), (38, (.inl (.iload 4), 2)), (40, (.inl .iastore, 1)), (41, (.inl (.aload_n 0), 1)), (42, (.inl .dup, 1)), (43, (.inr (0, 9, 5, 0, 0), 3)), (46, (.inl (.iconst 1), 1)), (47, (.inl .iadd, 1)), (48, (.inr (1, 9, 5, 0, 0), 3)), (51, (.inl .return_, 1))]
/-- FarStoreModel.release(I)V -/
def cd_126 : List (Nat × (OI × Nat)) := [(0, (.inl (.iconst 1), 1)), (1, (.inl (.istore_n 2), 1)), (2, (.inl (.iload_n 2), 1)), (3, (.inl (.ifCond .eq 145), 3)), (6, (.inl (.iconst 0), 1)), (7, (.inl (.istore_n 2), 1)), (8, (.inl (.iconst 0), 1)), (9, (.inl (.istore_n 3), 1)), (10, (.inl (.iload_n 3), 1)), (11, (.inl (.aload_n 0), 1)), (12, (.inr (0, 9, 28, 0, 0), 3)), (15, (.inl (.iload_n 1), 1)), (16, (.inl .iaload, 1)), (17, (.inl (.if_icmp .ge 128), 3)), (20, (.inl (.iload_n 2), 1)), (21, (.inl (.ifCond .ne 124), 3)), (24, (.inl (.aload_n 0), 1)), (25, (.inr (0, 9, 27, 0, 0), 3)), (28, (.inl (.sipush 500), 3)), (31, (.inl (.iload_n 1), 1)), (32, (.inl .imul, 1)), (33, (.inl (.iload_n 3), 1)), (34, (.inl .iadd, 1)), (35, (.inl .iaload, 1)), (36, (.inl (.istore 4), 2)), (38, (.inl (.aload_n 0), 1)), (39, (.inl (.iload 4), 2)), (41, (.inl (.iload_n 1), 1)), (42, (.inr (17, 127, 3, 1, 9), 3)), (45, (.inl (.ifCond .ne 6), 3)), (48, (.inl (.goto 91), 3)), (51, (.inl (.aload_n 0), 1)), (52, (.inr (0, 9, 28, 0, 0), 3)), (55, (.inl (.iload_n 1), 1)), (56, (.inl .dup2, 1)), (57, (.inl .iaload, 1)), (58, (.inl (.iconst 1), 1)), (59, (.inl .isub, 1)), (60, (.inl .iastore, 1)), (61, (.inl (.iload_n 3), 1)), (62, (.inl (.istore 5), 2)), (64, (.inl (.iload 5), 2)), (66, (.inl (.aload_n 0), 1)), (67, (.inr (0, 9, 28, 0, 0), 3)), (70, (.inl (.iload_n 1), 1)), (71, (.inl .iaload, 1)), (72, (.inl (.if_icmp .ge 37), 3)), (75, (.inl (.aload_n 0), 1)), (76, (.inr (0, 9, 27, 0, 0), 3)), (79, (.inl (.sipush 500), 3)), (82, (.inl (.iload_n 1), 1)), (83, (.inl .imul, 1)), (84, (.inl (.iload 5), 2)), (86, (.inl .iadd, 1)), (87, (.inl (.aload_n 0), 1)), (88, (.inr (0, 9, 27, 0, 0), 3)), (91, (.inl (.sipush 500), 3)), (94, (.inl (.iload_n 1), 1)), (95, (.inl .imul, 1)), (96, (.inl (.iload 5), 2)), (98, (.inl .iadd, 1)), (99, (.inl (.iconst 1), 1)), (100, (.inl .iadd, 1)), (101, (.inl .iaload, 1)), (102, (.inl .iastore, 1)), (103, (.inl (.iinc 5 1), 3)), (106, (.inl (.goto (-42)), 3)), (109, (.inl (.aload_n 0), 1)), (110, (.inr (0, 9, 20, 0, 0), 3)), (113, (.inl (.bipush 6), 2)), (115, (.inl (.iload_n 1), 1)), (116, (.inl .imul, 1)), (117, (.inl (.aload_n 0), 1)), (118, (.inr (0, 9, 10, 0, 0), 3)), (121, (.inl (.iload 4), 2)), (123, (.inl .iaload, 1)), (124, (.inl .iadd, 1)), (125, (.inl .dup2, 1)), (126, (.inl .iaload, 1)), (127, (.inl (.iconst 1), 1)), (128, (.inl .iadd, 1)), (129, (.inl .iastore, 1)), (130, (.inl (.aload_n 0), 1)), (131, (.inl (.iload 4), 2)), (133, (.inl (.iload_n 1), 1)), (134, (.inr (17, 124, 3, 1, 9), 3)), (137, (.inl (.iconst 1), 1)), (138, (.inl (.istore_n 2), 1)), (139, (.inl (.iinc 3 1), 3)), (142, (.inl (.goto (-132)), 3)), (145, (.inl (.goto (-143)), 3)), (148, (.inl .return_, 1))]
/-- FarStoreModel.canBe(II)Z -/
def cd_127 : List (Nat × (OI × Nat)) := [(0, (.inl (.aload_n 0), 1)), (1, (.inr (0, 9, 12, 0, 0), 3)), (4, (.inl (.iload_n 1), 1)), (5, (.inl .iaload, 1)), (6, (.inl (.aload_n 0), 1)), (7, (.inr (0, 9, 20, 0, 0), 3)), (10, (.inl (.bipush 6), 2)), (12, (.inl (.iload_n 2), 1)), (13, (.inl .imul, 1)), (14, (.inl (.aload_n 0), 1)), (15, (.inr (0, 9, 10, 0, 0), 3)), (18, (.inl (.iload_n 1), 1)), (19, (.inl .iaload, 1)), (20, (.inl .iadd, 1)), (21, (.inl .iaload, 1)), (22, (.inl (.iconst 1), 1)), (23, (.inl .iadd, 1)), (24, (.inl (.if_icmp .eq 5), 3)), (27, (.inl (.iconst 0), 1)), (28, (.inl .ireturn, 1)), (29, (.inl (.iconst 0), 1)), (30, (.inl (.istore_n 3), 1)), (31, (.inl (.iload_n 3), 1)), (32, (.inl (.aload_n 0), 1)), (33, (.inr (0, 9, 1, 0, 0), 3)), (36, (.inl (.if_icmp .ge 36), 3)), (39, (.inl (.aload_n 0), 1)), (40, (.inr (0, 9, 13, 0, 0), 3)), (43, (.inl (.bipush 6), 2)), (45, (.inl (.iload_n 1), 1)), (46, (.inl .imul, 1)), (47, (.inl (.iload_n 3), 1)), (48, (.inl .iadd, 1)), (49, (.inl .iaload, 1)), (50, (.inl (.aload_n 0), 1)), (51, (.inr (0, 9, 20, 0, 0), 3)), (54, (.inl (.bipush 6), 2)), (56, (.inl (.iload_n 2), 1)), (57, (.inl .imul, 1)), (58, (.inl (.iload_n 3), 1)), (59, (.inl .iadd, 1)), (60, (.inl .iaload, 1)), (61, (.inl (.if_icmp .le 5), 3)), (64, (.inl (.iconst 0), 1)), (65, (.inl .ireturn, 1)), (66, (.inl (.iinc 3 1), 3)), (69, (.inl (.goto (-38)), 3)), (72, (.inl (.iconst 1), 1)), (73, (.inl .ireturn, 1))]
/-- FarStoreModel.anyConflict(II)Z -/
def cd_128 : List (Nat × (OI × Nat)) := [(0, (.inl (.iconst 0), 1)), (1, (.inl (.istore_n 3), 1)), (2, (.inl (.iload_n 3), 1)), (3, (.inl (.aload_n 0), 1)), (4, (.inr (0, 9, 2, 0, 0), 3)), (7, (.inl (.if_icmp .ge 48), 3)), (10, (.inl (.aload_n 0), 1)), (11, (.inr (0, 9, 9, 0, 0), 3)), (14, (.inl (.iload_n 3), 1)), (15, (.inl .baload, 1)), (16, (.inl (.ifCond .ne 33), 3)), (19, (.inl (.aload_n 0), 1)), (20, (.inr (0, 9, 7, 0, 0), 3)), (23, (.inl (.iload_n 3), 1)), (24, (.inl .iaload, 1)), (25, (.inl (.iload_n 2), 1)), (26, (.inl (.if_icmp .ne 23), 3)), (29, (.inl (.aload_n 0), 1)), (30, (.inl (.iload_n 1), 1)), (31, (.inl (.iload_n 3), 1)), (32, (.inr (17, 112, 3, 1, 9), 3)), (35, (.inl (.ifCond .eq 14), 3)), (38, (.inl (.aload_n 0), 1)), (39, (.inl (.iload_n 1), 1)), (40, (.inl (.iload_n 3), 1)), (41, (.inr (17, 129, 3, 1, 9), 3)), (44, (.inl (.ifCond .eq 5), 3)), (47, (.inl (.iconst 1), 1)), (48, (.inl .ireturn, 1)), (49, (.inl (.iinc 3 1), 3)), (52, (.inl (.goto (-50)), 3)), (55, (.inl (.iconst 0), 1)), (56, (.inl .ireturn, 1))]
/-- FarStoreModel.conflict(II)Z -/
def cd_129 : List (Nat × (OI × Nat)) := [(0, (.inl (.aload_n 0), 1)), (1, (.inr (0, 9, 7, 0, 0), 3)), (4, (.inl (.iload_n 2), 1)), (5, (.inl .iaload, 1)), (6, (.inl (.istore_n 3), 1)), (7, (.inl (.aload_n 0), 1)), (8, (.inr (0, 9, 8, 0, 0), 3)), (11, (.inl (.iload_n 2), 1)), (12, (.inl .iaload, 1)), (13, (.inl (.ifCond .lt 15), 3)), (16, (.inl (.aload_n 0), 1)), (17, (.inr (0, 9, 8, 0, 0), 3)), (20, (.inl (.iload_n 2), 1)), (21, (.inl .iaload, 1)), (22, (.inl (.iload_n 1), 1)), (23, (.inl (.if_icmp .eq 5), 3)), (26, (.inl (.iconst 1), 1)), (27, (.inl .ireturn, 1)), (28, (.inl (.iconst 0), 1)), (29, (.inl (.istore 4), 2)), (31, (.inl (.iload 4), 2)), (33, (.inl (.aload_n 0), 1)), (34, (.inr (0, 9, 3, 0, 0), 3)), (37, (.inl (.if_icmp .ge 86), 3)), (40, (.inl (.aload_n 0), 1)), (41, (.inr (0, 9, 12, 0, 0), 3)), (44, (.inl (.iload 4), 2)), (46, (.inl .iaload, 1)), (47, (.inl (.ifCond .le 34), 3)), (50, (.inl (.aload_n 0), 1)), (51, (.inr (0, 9, 12, 0, 0), 3)), (54, (.inl (.iload 4), 2)), (56, (.inl .iaload, 1)), (57, (.inl (.aload_n 0), 1)), (58, (.inr (0, 9, 20, 0, 0), 3)), (61, (.inl (.bipush 6), 2)), (63, (.inl (.iload_n 3), 1)), (64, (.inl .imul, 1)), (65, (.inl (.aload_n 0), 1)), (66, (.inr (0, 9, 10, 0, 0), 3)), (69, (.inl (.iload 4), 2)), (71, (.inl .iaload, 1)), (72, (.inl .iadd, 1)), (73, (.inl .iaload, 1)), (74, (.inl (.if_icmp .gt 7), 3)), (77, (.inl (.iconst 1), 1)), (78, (.inl (.goto 4), 3)), (81, (.inl (.iconst 0), 1)), (82, (.inl (.istore 5), 2)), (84, (.inl (.iload 4), 2)), (86, (.inl (.iload_n 1), 1)), (87, (.inl (.if_icmp .eq 30), 3)), (90, (.inl (.iload 5), 2)), (92, (.inl (.ifCond .eq 25), 3)), (95, (.inl (.aload_n 0), 1)), (96, (.inl (.iload 4), 2)), (98, (.inl (.iload_n 1), 1)), (99, (.inr (17, 114, 3, 1, 9), 3)), (102, (.inl (.ifCond .ne 15), 3)), (105, (.inl (.aload_n 0), 1)), (106, (.inl (.iload 4), 2)), (108, (.inl (.iload_n 2), 1)), (109, (.inr (17, 112, 3, 1, 9), 3)), (112, (.inl (.ifCond .eq 5), 3)), (115, (.inl (.iconst 1), 1)), (116, (.inl .ireturn, 1)), (117, (.inl (.iinc 4 1), 3)), (120, (.inl (.goto (-89)), 3)), (123, (.inl (.iconst 0), 1)), (124, (.inl .ireturn, 1))]
/-- FarStoreModel.locks(II)V -/
def cd_130 : List (Nat × (OI × Nat)) := [(0, (.inl (.iconst 0), 1)), (1, (.inl (.istore_n 3), 1)), (2, (.inl (.iload_n 3), 1)), (3, (.inl (.aload_n 0), 1)), (4, (.inr (0, 9, 2, 0, 0), 3)), (7, (.inl (.if_icmp .ge 44), 3)), (10, (.inl (.aload_n 0), 1)), (11, (.inr (0, 9, 9, 0, 0), 3)), (14, (.inl (.iload_n 3), 1)), (15, (.inl .baload, 1)), (16, (.inl (.ifCond .ne 29), 3)), (19, (.inl (.aload_n 0), 1)), (20, (.inr (0, 9, 7, 0, 0), 3)), (23, (.inl (.iload_n 3), 1)), (24, (.inl .iaload, 1)), (25, (.inl (.iload_n 2), 1)), (26, (.inl (.if_icmp .ne 19), 3)), (29, (.inl (.aload_n 0), 1)), (30, (.inl (.iload_n 1), 1)), (31, (.inl (.iload_n 3), 1)), (32, (.inr (17, 112, 3, 1, 9), 3)), (35, (.inl (.ifCond .eq 10), 3)), (38, (.inl (.aload_n 0), 1)), (39, (.inr (0, 9, 8, 0, 0), 3)), (42, (.inl (.iload_n 3), 1)), (43, (.inl (.iload_n 1), 1)), (44, (.inl .iastore, 1)), (45, (.inl (.iinc 3 1), 3)), (48, (.inl (.goto (-46)), 3)), (51, (.inl .return_, 1))]
/-- FarStoreModel.writesAt(II)Z -/
def cd_131 : List (Nat × (OI × Nat)) := [(0, (.inl (.iconst 0), 1)), (1, (.inl (.istore_n 3), 1)), (2, (.inl (.iload_n 3), 1)), (3, (.inl (.aload_n 0), 1)), (4, (.inr (0, 9, 2, 0, 0), 3)), (7, (.inl (.if_icmp .ge 39), 3)), (10, (.inl (.aload_n 0), 1)), (11, (.inr (0, 9, 9, 0, 0), 3)), (14, (.inl (.iload_n 3), 1)), (15, (.inl .baload, 1)), (16, (.inl (.ifCond .ne 24), 3)), (19, (.inl (.aload_n 0), 1)), (20, (.inr (0, 9, 7, 0, 0), 3)), (23, (.inl (.iload_n 3), 1)), (24, (.inl .iaload, 1)), (25, (.inl (.iload_n 2), 1)), (26, (.inl (.if_icmp .ne 14), 3)), (29, (.inl (.aload_n 0), 1)), (30, (.inl (.iload_n 1), 1)), (31, (.inl (.iload_n 3), 1)), (32, (.inr (17, 112, 3, 1, 9), 3)), (35, (.inl (.ifCond .eq 5), 3)), (38, (.inl (.iconst 1), 1)), (39, (.inl .ireturn, 1)), (40, (.inl (.iinc 3 1), 3)), (43, (.inl (.goto (-41)), 3)), (46, (.inl (.iconst 0), 1)), (47, (.inl .ireturn, 1))]
/-- FarStoreModel.abort(I)V -/
def cd_132 : List (Nat × (OI × Nat)) := [(0, (.inl (.aload_n 0), 1)), (1, (.inl (.aload_n 0), 1)), (2, (.inl (.iload_n 1), 1)), (3, (.inr (17, 110, 2, 1, 9), 3)), (6, (.inl (.ifCond .ne 7), 3)), (9, (.inl (.iconst 1), 1)), (10, (.inl (.goto 4), 3)), (13, (.inl (.iconst 0), 1)), (14, (.inl (.aload_n 0), 1)), (15, (.inl (.iload_n 1), 1)), (16, (.inr (17, 110, 2, 1, 9), 3)), (19, (.inl (.ifCond .eq 16), 3)), (22, (.inl (.aload_n 0), 1)), (23, (.inr (0, 9, 11, 0, 0), 3)), (26, (.inl (.iload_n 1), 1)), (27, (.inl .iaload, 1)), (28, (.inl (.ifCond .eq 7), 3)), (31, (.inl (.iconst 1), 1)), (32, (.inl (.goto 4), 3)), (35, (.inl (.iconst 0), 1)), (36, (.inr (17, 104, 3, 1, 9), 3)), (39, (.inl (.ifCond .eq 4), 3)), (42, (.inl .return_, 1)), (43, (.inl (.aload_n 0), 1)), (44, (.inr (0, 9, 11, 0, 0), 3)), (47, (.inl (.iload_n 1), 1)), (48, (.inl (.iconst 2), 1)), (49, (.inl .iastore, 1)), (50, (.inl .return_, 1))]
/-- FarStoreModel.deliver(II)I -/
def cd_133 : List (Nat × (OI × Nat)) := [(0, (.inl (.aload_n 0), 1)), (1, (.inl (.aload_n 0), 1)), (2, (.inl (.iload_n 1), 1)), (3, (.inr (17, 106, 2, 1, 9), 3)), (6, (.inl (.ifCond .eq 16), 3)), (9, (.inl (.aload_n 0), 1)), (10, (.inl (.iload_n 2), 1)), (11, (.inr (17, 106, 2, 1, 9), 3)), (14, (.inl (.ifCond .eq 8), 3)), (17, (.inl (.iload_n 1), 1)), (18, (.inl (.iload_n 2), 1)), (19, (.inl (.if_icmp .ne 7), 3)), (22, (.inl (.iconst 1), 1)), (23, (.inl (.goto 4), 3)), (26, (.inl (.iconst 0), 1)), (27, (.inl (.iconst 0), 1)), (28, (.inr (17, 104, 3, 1, 9), 3)), (31, (.inl (.ifCond .eq 5), 3)), (34, (.inl (.iconst 0), 1)), (35, (.inl .ireturn, 1)), (36, (.inl (.iconst 0), 1)), (37, (.inl (.istore_n 3), 1)), (38, (.inl (.iload_n 3), 1)), (39, (.inl (.aload_n 0), 1)), (40, (.inr (0, 9, 5, 0, 0), 3)), (43, (.inl (.if_icmp .ge 73), 3)), (46, (.inl (.aload_n 0), 1)), (47, (.inr (0, 9, 25, 0, 0), 3)), (50, (.inl (.iload_n 3), 1)), (51, (.inl .iaload, 1)), (52, (.inl (.ifCond .eq 58), 3)), (55, (.inl (.aload_n 0), 1)), (56, (.inr (0, 9, 23, 0, 0), 3)), (59, (.inl (.iload_n 3), 1)), (60, (.inl .iaload, 1)), (61, (.inl (.iload_n 1), 1)), (62, (.inl (.if_icmp .ne 48), 3)), (65, (.inl (.aload_n 0), 1)), (66, (.inr (0, 9, 24, 0, 0), 3)), (69, (.inl (.iload_n 3), 1)), (70, (.inl .iaload, 1)), (71, (.inl (.iload_n 2), 1)), (72, (.inl (.if_icmp .eq 6), 3)), (75, (.inl (.goto 35), 3)), (78, (.inl (.aload_n 0), 1)), (79, (.inr (0, 9, 25, 0, 0), 3)), (82, (.inl (.iload_n 3), 1)), (83, (.inl .iaload, 1)), (84, (.inl (.istore 4), 2)), (86, (.inl (.aload_n 0), 1)), (87, (.inr (0, 9, 25, 0, 0), 3)), (90, (.inl (.iload_n 3), 1)), (91, (.inl (.iconst 0), 1)), (92, (.inl .iastore, 1)), (93, (.inl (.aload_n 0), 1)), (94, (.inl (.iload 4), 2)), (96, (.inl (.aload_n 0), 1)), (97, (.inr (0, 9, 26, 0, 0), 3)), (100, (.inl (.iload_n 3), 1)), (101, (.inl .iaload, 1)), (102, (.inl (.iload_n 1), 1)), (103, (.inl (.iload_n 2), 1)), (104, (.inr (17, 134, 5, 1, 9), 3)), (107, (.inl (.iload 4), 2)), (109, (.inl .ireturn, 1)), (110, (.inl (.iinc 3 1), 3)), (113, (.inl (.goto (-75)), 3)), (116, (.inl (.iconst 0), 1)), (117, (.inl .ireturn, 1))]
/-- FarStoreModel.arrives(IIII)V -/
def cd_134 : List (Nat × (OI × Nat)) := [(0, (.inl (.iload_n 1), 1)), (1, (.inl (.tableswitch 209 1 4 #[31, 72, 118, 199]), 31)), (32, (.inl (.aload_n 0), 1)), (33, (.inl (.iload_n 2), 1)), (34, (.inl (.iload 4), 2)), (36, (.inr (17, 128, 3, 1, 9), 3)), (39, (.inl (.ifCond .eq 15), 3)), (42, (.inl (.aload_n 0), 1)), (43, (.inl (.iload 4), 2)), (45, (.inl (.iload_n 3), 1)), (46, (.inl (.iconst 3), 1)), (47, (.inl (.iload_n 2), 1)), (48, (.inr (17, 125, 5, 1, 9), 3)), (51, (.inl (.goto 196), 3)), (54, (.inl (.aload_n 0), 1)), (55, (.inl (.iload_n 2), 1)), (56, (.inl (.iload 4), 2)), (58, (.inr (17, 130, 3, 1, 9), 3)), (61, (.inl (.aload_n 0), 1)), (62, (.inl (.iload 4), 2)), (64, (.inl (.iload_n 3), 1)), (65, (.inl (.iconst 2), 1)), (66, (.inl (.iload_n 2), 1)), (67, (.inr (17, 125, 5, 1, 9), 3)), (70, (.inl (.goto 177), 3)), (73, (.inl (.aload_n 0), 1)), (74, (.inr (0, 9, 11, 0, 0), 3)), (77, (.inl (.iload_n 2), 1)), (78, (.inl .iaload, 1)), (79, (.inl (.iconst 3), 1)), (80, (.inl (.if_icmp .eq 6), 3)), (83, (.inl (.goto 164), 3)), (86, (.inl (.aload_n 0), 1)), (87, (.inr (0, 9, 14, 0, 0), 3)), (90, (.inl (.iload_n 2), 1)), (91, (.inl .dup2, 1)), (92, (.inl .iaload, 1)), (93, (.inl (.iconst 1), 1)), (94, (.inl .iadd, 1)), (95, (.inl .iastore, 1)), (96, (.inl (.aload_n 0), 1)), (97, (.inr (0, 9, 14, 0, 0), 3)), (100, (.inl (.iload_n 2), 1)), (101, (.inl .iaload, 1)), (102, (.inl (.aload_n 0), 1)), (103, (.inr (0, 9, 15, 0, 0), 3)), (106, (.inl (.iload_n 2), 1)), (107, (.inl .iaload, 1)), (108, (.inl (.if_icmp .ne 139), 3)), (111, (.inl (.aload_n 0), 1)), (112, (.inl (.iload_n 2), 1)), (113, (.inr (17, 123, 2, 1, 9), 3)), (116, (.inl (.goto 131), 3)), (119, (.inl (.aload_n 0), 1)), (120, (.inr (0, 9, 11, 0, 0), 3)), (123, (.inl (.iload_n 2), 1)), (124, (.inl .iaload, 1)), (125, (.inl (.iconst 3), 1)), (126, (.inl (.if_icmp .eq 6), 3)), (129, (.inl (.goto 118), 3)), (132, (.inl (.aload_n 0), 1)), (133, (.inr (0, 9, 11, 0, 0), 3)), (136, (.inl (.iload_n 2), 1)), (137, (.inl (.iconst 2), 1)), (138, (.inl .iastore, 1)), (139, (.inl (.aload_n 0), 1)), (140, (.inl (.iload_n 2), 1)), (141, (.inl (.iload 4), 2)), (143, (.inr (17, 124, 3, 1, 9), 3)), (146, (.inl (.iconst 0), 1)), (147, (.inl (.istore 5), 2)), (149, (.inl (.iload 5), 2)), (151, (.inl (.aload_n 0), 1)), (152, (.inr (0, 9, 1, 0, 0), 3)), (155, (.inl (.if_icmp .ge 42), 3)), (158, (.inl (.iload 5), 2)), (160, (.inl (.iload 4), 2)), (162, (.inl (.if_icmp .eq 29), 3)), (165, (.inl (.iload 5), 2)), (167, (.inl (.iload_n 3), 1)), (168, (.inl (.if_icmp .eq 23), 3)), (171, (.inl (.aload_n 0), 1)), (172, (.inl (.iload_n 2), 1)), (173, (.inl (.iload 5), 2)), (175, (.inr (17, 131, 3, 1, 9), 3)), (178, (.inl (.ifCond .eq 13), 3)), (181, (.inl (.aload_n 0), 1)), (182, (.inl (.iload 4), 2)), (184, (.inl (.iload 5), 2)), (186, (.inl (.iconst 4), 1)), (187, (.inl (.iload_n 2), 1)), (188, (.inr (17, 125, 5, 1, 9), 3)), (191, (.inl (.iinc 5 1), 3)), (194, (.inl (.goto (-45)), 3)), (197, (.inl (.goto 50), 3)), (200, (.inl (.aload_n 0), 1)), (201, (.inl (.iload_n 2), 1)), (202, (.inl (.iload 4), 2)), (204, (.inr (17, 124, 3, 1, 9), 3)), (207, (.inl (.goto 40), 3)), (210, (.inl (.aload_n 0), 1)), (211, (.inr (0, 9, 27, 0, 0), 3)), (214, (.inl (.sipush 500), 3)), (217, (.inl (.iload 4), 2)), (219, (.inl .imul, 1)), (220, (.inl (.aload_n 0), 1)), (221, (.inr (0, 9, 28, 0, 0), 3)), (224, (.inl (.iload 4), 2)), (226, (.inl .iaload, 1)), (227, (.inl .iadd, 1)), (228, (.inl (.iload_n 2), 1)), (229, (.inl .iastore, 1)), (230, (.inl (.aload_n 0), 1)), (231, (.inr (0, 9, 28, 0, 0), 3)), (234, (.inl (.iload 4), 2)), (236, (.inl .dup2, 1)), (237, (.inl .iaload, 1)), (238, (.inl (.iconst 1), 1)), (239, (.inl .iadd, 1)), (240, (.inl .iastore, 1)), (241, (.inl (.aload_n 0), 1)), (242, (.inl (.iload 4), 2)), (244, (.inr (17, 126, 2, 1, 9), 3)), (247, (.inl .return_, 1))]
/-- FarStoreModel.waiting(II)I -/
def cd_135 : List (Nat × (OI × Nat)) := [(0, (.inl (.aload_n 0), 1)), (1, (.inl (.aload_n 0), 1)), (2, (.inl (.iload_n 1), 1)), (3, (.inr (17, 106, 2, 1, 9), 3)), (6, (.inl (.ifCond .eq 16), 3)), (9, (.inl (.aload_n 0), 1)), (10, (.inl (.iload_n 2), 1)), (11, (.inr (17, 106, 2, 1, 9), 3)), (14, (.inl (.ifCond .eq 8), 3)), (17, (.inl (.iload_n 1), 1)), (18, (.inl (.iload_n 2), 1)), (19, (.inl (.if_icmp .ne 7), 3)), (22, (.inl (.iconst 1), 1)), (23, (.inl (.goto 4), 3)), (26, (.inl (.iconst 0), 1)), (27, (.inl (.iconst 0), 1)), (28, (.inr (17, 104, 3, 1, 9), 3)), (31, (.inl (.ifCond .eq 5), 3)), (34, (.inl (.iconst 0), 1)), (35, (.inl .ireturn, 1)), (36, (.inl (.iconst 0), 1)), (37, (.inl (.istore_n 3), 1)), (38, (.inl (.iconst 0), 1)), (39, (.inl (.istore 4), 2)), (41, (.inl (.iload 4), 2)), (43, (.inl (.aload_n 0), 1)), (44, (.inr (0, 9, 5, 0, 0), 3)), (47, (.inl (.if_icmp .ge 44), 3)), (50, (.inl (.aload_n 0), 1)), (51, (.inr (0, 9, 25, 0, 0), 3)), (54, (.inl (.iload 4), 2)), (56, (.inl .iaload, 1)), (57, (.inl (.ifCond .eq 28), 3)), (60, (.inl (.aload_n 0), 1)), (61, (.inr (0, 9, 23, 0, 0), 3)), (64, (.inl (.iload 4), 2)), (66, (.inl .iaload, 1)), (67, (.inl (.iload_n 1), 1)), (68, (.inl (.if_icmp .ne 17), 3)), (71, (.inl (.aload_n 0), 1)), (72, (.inr (0, 9, 24, 0, 0), 3)), (75, (.inl (.iload 4), 2)), (77, (.inl .iaload, 1)), (78, (.inl (.iload_n 2), 1)), (79, (.inl (.if_icmp .ne 6), 3)), (82, (.inl (.iinc 3 1), 3)), (85, (.inl (.iinc 4 1), 3)), (88, (.inl (.goto (-47)), 3)), (91, (.inl (.iload_n 3), 1)), (92, (.inl .ireturn, 1))]
/-- FarStoreModel.seen(II)I -/
def cd_136 : List (Nat × (OI × Nat)) := [(0, (.inl (.aload_n 0), 1)), (1, (.inl (.aload_n 0), 1)), (2, (.inl (.iload_n 1), 1)), (3, (.inr (17, 106, 2, 1, 9), 3)), (6, (.inl (.ifCond .eq 11), 3)), (9, (.inl (.aload_n 0), 1)), (10, (.inl (.iload_n 2), 1)), (11, (.inr (17, 106, 2, 1, 9), 3)), (14, (.inl (.ifCond .ne 7), 3)), (17, (.inl (.iconst 1), 1)), (18, (.inl (.goto 4), 3)), (21, (.inl (.iconst 0), 1)), (22, (.inl (.iconst 0), 1)), (23, (.inr (17, 104, 3, 1, 9), 3)), (26, (.inl (.ifCond .eq 7), 3)), (29, (.inl (.iconst 0), 1)), (30, (.inl (.goto 14), 3)), (33, (.inl (.aload_n 0), 1)), (34, (.inr (0, 9, 20, 0, 0), 3)), (37, (.inl (.bipush 6), 2)), (39, (.inl (.iload_n 1), 1)), (40, (.inl .imul, 1)), (41, (.inl (.iload_n 2), 1)), (42, (.inl .iadd, 1)), (43, (.inl .iaload, 1)), (44, (.inl .ireturn, 1))]
/-- FarStoreModel.state(II)I -/
def cd_137 : List (Nat × (OI × Nat)) := [(0, (.inl (.aload_n 0), 1)), (1, (.inl (.aload_n 0), 1)), (2, (.inl (.iload_n 1), 1)), (3, (.inr (17, 110, 2, 1, 9), 3)), (6, (.inl (.ifCond .eq 12), 3)), (9, (.inl (.iload_n 2), 1)), (10, (.inl (.ifCond .lt 8), 3)), (13, (.inl (.iload_n 2), 1)), (14, (.inl (.iconst 3), 1)), (15, (.inl (.if_icmp .le 7), 3)), (18, (.inl (.iconst 1), 1)), (19, (.inl (.goto 4), 3)), (22, (.inl (.iconst 0), 1)), (23, (.inl (.iconst 0), 1)), (24, (.inr (17, 104, 3, 1, 9), 3)), (27, (.inl (.ifCond .eq 5), 3)), (30, (.inl (.iconst 0), 1)), (31, (.inl .ireturn, 1)), (32, (.inl (.iload_n 2), 1)), (33, (.inl (.ifCond .ne 10), 3)), (36, (.inl (.aload_n 0), 1)), (37, (.inr (0, 9, 11, 0, 0), 3)), (40, (.inl (.iload_n 1), 1)), (41, (.inl .iaload, 1)), (42, (.inl .ireturn, 1)), (43, (.inl (.iload_n 2), 1)), (44, (.inl (.iconst 1), 1)), (45, (.inl (.if_icmp .ne 10), 3)), (48, (.inl (.aload_n 0), 1)), (49, (.inr (0, 9, 12, 0, 0), 3)), (52, (.inl (.iload_n 1), 1)), (53, (.inl .iaload, 1)), (54, (.inl .ireturn, 1)), (55, (.inl (.iload_n 2), 1)), (56, (.inl (.iconst 3), 1)), (57, (.inl (.if_icmp .ne 31), 3)), (60, (.inl (.aload_n 0), 1)), (61, (.inr (0, 9, 11, 0, 0), 3)), (64, (.inl (.iload_n 1), 1)), (65, (.inl .iaload, 1)), (66, (.inl (.iconst 3), 1)), (67, (.inl (.if_icmp .ne 19), 3)), (70, (.inl (.aload_n 0), 1)), (71, (.inr (0, 9, 15, 0, 0), 3)), (74, (.inl (.iload_n 1), 1)), (75, (.inl .iaload, 1)), (76, (.inl (.aload_n 0), 1)), (77, (.inr (0, 9, 14, 0, 0), 3)), (80, (.inl (.iload_n 1), 1)), (81, (.inl .iaload, 1)), (82, (.inl .isub, 1)), (83, (.inl (.goto 4), 3)), (86, (.inl (.iconst 0), 1)), (87, (.inl .ireturn, 1)), (88, (.inl (.iconst 0), 1)), (89, (.inl (.istore_n 3), 1)), (90, (.inl (.iconst 0), 1)), (91, (.inl (.istore 4), 2)), (93, (.inl (.iload 4), 2)), (95, (.inl (.aload_n 0), 1)), (96, (.inr (0, 9, 1, 0, 0), 3)), (99, (.inl (.if_icmp .ge 47), 3)), (102, (.inl (.aload_n 0), 1)), (103, (.inr (0, 9, 12, 0, 0), 3)), (106, (.inl (.iload_n 1), 1)), (107, (.inl .iaload, 1)), (108, (.inl (.ifCond .le 32), 3)), (111, (.inl (.aload_n 0), 1)), (112, (.inr (0, 9, 20, 0, 0), 3)), (115, (.inl (.bipush 6), 2)), (117, (.inl (.iload 4), 2)), (119, (.inl .imul, 1)), (120, (.inl (.aload_n 0), 1)), (121, (.inr (0, 9, 10, 0, 0), 3)), (124, (.inl (.iload_n 1), 1)), (125, (.inl .iaload, 1)), (126, (.inl .iadd, 1)), (127, (.inl .iaload, 1)), (128, (.inl (.aload_n 0), 1)), (129, (.inr (0, 9, 12, 0, 0), 3)), (132, (.inl (.iload_n 1), 1)), (133, (.inl .iaload, 1)), (134, (.inl (.if_icmp .lt 6), 3)), (137, (.inl (.iinc 3 1), 3)), (140, (.inl (.iinc 4 1), 3)), (143, (.inl (.goto (-50)), 3)), (146, (.inl (.iload_n 3), 1)), (147, (.inl .ireturn, 1))]
/-- FarStoreModel.locked(I)I -/
def cd_138 : List (Nat × (OI × Nat)) := [(0, (.inl (.aload_n 0), 1)), (1, (.inl (.aload_n 0), 1)), (2, (.inl (.iload_n 1), 1)), (3, (.inr (17, 111, 2, 1, 9), 3)), (6, (.inl (.ifCond .ne 7), 3)), (9, (.inl (.iconst 1), 1)), (10, (.inl (.goto 4), 3)), (13, (.inl (.iconst 0), 1)), (14, (.inl (.iconst 0), 1)), (15, (.inr (17, 104, 3, 1, 9), 3)), (18, (.inl (.ifCond .eq 7), 3)), (21, (.inl (.iconst 0), 1)), (22, (.inl (.goto 9), 3)), (25, (.inl (.aload_n 0), 1)), (26, (.inr (0, 9, 8, 0, 0), 3)), (29, (.inl (.iload_n 1), 1)), (30, (.inl .iaload, 1)), (31, (.inl .ireturn, 1))]
/-- FarStoreModel.count(I)I -/
def cd_139 : List (Nat × (OI × Nat)) := [(0, (.inl (.aload_n 0), 1)), (1, (.inl (.iconst 0), 1)), (2, (.inr (1, 9, 0, 0, 0), 3)), (5, (.inl (.iconst 0), 1)), (6, (.inl (.istore_n 2), 1)), (7, (.inl (.iload_n 1), 1)), (8, (.inl (.tableswitch 117 0 5 #[40, 45, 50, 55, 60, 87]), 40)), (48, (.inl (.aload_n 0), 1)), (49, (.inr (0, 9, 1, 0, 0), 3)), (52, (.inl .ireturn, 1)), (53, (.inl (.aload_n 0), 1)), (54, (.inr (0, 9, 2, 0, 0), 3)), (57, (.inl .ireturn, 1)), (58, (.inl (.aload_n 0), 1)), (59, (.inr (0, 9, 3, 0, 0), 3)), (62, (.inl .ireturn, 1)), (63, (.inl (.aload_n 0), 1)), (64, (.inr (0, 9, 6, 0, 0), 3)), (67, (.inl .ireturn, 1)), (68, (.inl (.iconst 0), 1)), (69, (.inl (.istore_n 3), 1)), (70, (.inl (.iload_n 3), 1)), (71, (.inl (.aload_n 0), 1)), (72, (.inr (0, 9, 1, 0, 0), 3)), (75, (.inl (.if_icmp .ge 18), 3)), (78, (.inl (.iload_n 2), 1)), (79, (.inl (.aload_n 0), 1)), (80, (.inr (0, 9, 28, 0, 0), 3)), (83, (.inl (.iload_n 3), 1)), (84, (.inl .iaload, 1)), (85, (.inl .iadd, 1)), (86, (.inl (.istore_n 2), 1)), (87, (.inl (.iinc 3 1), 3)), (90, (.inl (.goto (-20)), 3)), (93, (.inl (.iload_n 2), 1)), (94, (.inl .ireturn, 1)), (95, (.inl (.iconst 0), 1)), (96, (.inl (.istore_n 3), 1)), (97, (.inl (.iload_n 3), 1)), (98, (.inl (.aload_n 0), 1)), (99, (.inr (0, 9, 5, 0, 0), 3)), (102, (.inl (.if_icmp .ge 21), 3)), (105, (.inl (.aload_n 0), 1)), (106, (.inr (0, 9, 25, 0, 0), 3)), (109, (.inl (.iload_n 3), 1)), (110, (.inl .iaload, 1)), (111, (.inl (.ifCond .eq 6), 3)), (114, (.inl (.iinc 2 1), 3)), (117, (.inl (.iinc 3 1), 3)), (120, (.inl (.goto (-23)), 3)), (123, (.inl (.iload_n 2), 1)), (124, (.inl .ireturn, 1)), (125, (.inl (.iconst (-1)), 1)), (126, (.inl .ireturn, 1))]
/-- FarStoreLaw.law([I)Z -/
def cd_140 : List (Nat × (OI × Nat)) := [(0, (.inr (2, 0, 6, 0, 0), 3)), (3, (.inl .dup, 1)), (4, (.inr (17, 0, 1, 2, 0), 3)), (7, (.inl (.astore_n 1), 1)), (8, (.inr (2, 9, 29, 0, 0), 3)), (11, (.inl .dup, 1)), (12, (.inr (17, 101, 1, 2, 0), 3)), (15, (.inl (.astore_n 2), 1)), (16, (.inl (.iconst 1), 1)), (17, (.inl (.newarray .long), 2)), (19, (.inl (.astore_n 3), 1)), (20, (.inl (.iconst 0), 1)), (21, (.inl (.istore 4), 2)), (23, (.inl (.iload 4), 2)), (25, (.inl (.aload_n 0), 1)), (26, (.inl .arraylength, 1)), (27, (.inl (.iconst 5), 1)), (28, (.inl .isub, 1)), (29, (.inl (.if_icmp .gt 1121), 3)), (32, (.inl (.aload_n 0), 1)), (33, (.inl (.iload 4), 2)), (35, (.inl .iaload, 1)), (36, (.inl (.bipush 15), 2)), (38, (.inl .iand, 1)), (39, (.inl (.tableswitch 1105 0 15 #[77, 113, 197, 253, 320, 412, 500, 580, 660, 716, 752, 820, 888, 956, 1024, 1080]), 77)), (116, (.inl (.aload_n 1), 1)), (117, (.inl (.aload_n 0), 1)), (118, (.inl (.iload 4), 2)), (120, (.inl (.iconst 1), 1)), (121, (.inl .iadd, 1)), (122, (.inl .iaload, 1)), (123, (.inr (17, 9, 2, 0, 0), 3)), (126, (.inl (.istore 5), 2)), (128, (.inl (.aload_n 2), 1)), (129, (.inl (.aload_n 0), 1)), (130, (.inl (.iload 4), 2)), (132, (.inl (.iconst 1), 1)), (133, (.inl .iadd, 1)), (134, (.inl .iaload, 1)), (135, (.inr (17, 103, 2, 1, 9), 3)), (138, (.inl (.aload_n 2), 1)), (139, (.inr (17, 102, 1, 1, 9), 3)), (142, (.inl (.iload 5), 2)), (144, (.inl (.if_icmp .eq 5), 3)), (147, (.inl (.iconst 0), 1)), (148, (.inl .ireturn, 1)), (149, (.inl (.goto 995), 3)), (152, (.inl (.aload_n 1), 1)), (153, (.inl (.aload_n 0), 1)), (154, (.inl (.iload 4), 2)), (156, (.inl (.iconst 1), 1)), (157, (.inl .iadd, 1)), (158, (.inl .iaload, 1)), (159, (.inl (.aload_n 0), 1)), (160, (.inl (.iload 4), 2)), (162, (.inl (.iconst 2), 1)), (163, (.inl .iadd, 1)), (164, (.inl .iaload, 1)), (165, (.inl (.ifCond .eq 7), 3)), (168, (.inl (.iconst 1), 1)), (169, (.inl (.goto 4), 3)), (172, (.inl (.iconst 0), 1)), (173, (.inl (.aload_n 3), 1)), (174, (.inr (17, 12, 4, 0, 0), 3)), (177, (.inl (.istore 5), 2)), (179, (.inl (.aload_n 2), 1)), (180, (.inl (.aload_n 0), 1)), (181, (.inl (.iload 4), 2)), (183, (.inl (.iconst 1), 1)), (184, (.inl .iadd, 1)), (185, (.inl .iaload, 1)), (186, (.inl (.aload_n 0), 1)), (187, (.inl (.iload 4), 2)), (189, (.inl (.iconst 2), 1)), (190, (.inl .iadd, 1)), (191, (.inl .iaload, 1)), (192, (.inl (.ifCond .eq 7), 3)), (195, (.inl (.iconst 1), 1)), (196, (.inl (.goto 4), 3)), (199, (.inl (.iconst 0), 1)), (200, (.inr (17, 105, 3, 1, 9), 3)), (203, (.inl (.istore 6), 2)), (205, (.inl (.aload_n 2), 1)), (206, (.inr (17, 102, 1, 1, 9), 3)), (209, (.inl (.iload 5), 2)), (211, (.inl (.if_icmp .eq 5), 3)), (214, (.inl (.iconst 0), 1)), (215, (.inl .ireturn, 1)), (216, (.inl (.iload 5), 2)), (218, (.inl (.ifCond .ne 15), 3)), (221, (.inl (.aload_n 3), 1)), (222, (.inl (.iconst 0), 1)), (223, (.inl .laload, 1)), (224, (.inl (.iload 6), 2)), (226, (.inl .i2l, 1)), (227, (.inl .lcmp, 1)), (228, (.inl (.ifCond .eq 5), 3)), (231, (.inl (.iconst 0), 1)), (232, (.inl .ireturn, 1)), (233, (.inl (.goto 911), 3)), (236, (.inl (.aload_n 1), 1)), (237, (.inl (.aload_n 0), 1)), (238, (.inl (.iload 4), 2)), (240, (.inl (.iconst 1), 1)), (241, (.inl .iadd, 1)), (242, (.inl .iaload, 1)), (243, (.inl (.aload_n 3), 1)), (244, (.inr (17, 23, 3, 0, 0), 3)), (247, (.inl (.istore 5), 2)), (249, (.inl (.aload_n 2), 1)), (250, (.inl (.aload_n 0), 1)), (251, (.inl (.iload 4), 2)), (253, (.inl (.iconst 1), 1)), (254, (.inl .iadd, 1)), (255, (.inl .iaload, 1)), (256, (.inr (17, 107, 2, 1, 9), 3)), (259, (.inl (.istore 6), 2)), (261, (.inl (.aload_n 2), 1)), (262, (.inr (17, 102, 1, 1, 9), 3)), (265, (.inl (.iload 5), 2)), (267, (.inl (.if_icmp .eq 5), 3)), (270, (.inl (.iconst 0), 1)), (271, (.inl .ireturn, 1)), (272, (.inl (.iload 5), 2)), (274, (.inl (.ifCond .ne 15), 3)), (277, (.inl (.aload_n 3), 1)), (278, (.inl (.iconst 0), 1)), (279, (.inl .laload, 1)), (280, (.inl (.iload 6), 2)), (282, (.inl .i2l, 1)), (283, (.inl .lcmp, 1)), (284, (.inl (.ifCond .eq 5), 3)), (287, (.inl (.iconst 0), 1)), (288, (.inl .ireturn, 1)), (289, (.inl (.goto 855), 3)), (292, (.inl (.aload_n 1), 1)), (293, (.inl (.aload_n 0), 1)), (294, (.inl (.iload 4), 2)), (296, (.inl (.iconst 1), 1)), (297, (.inl .iadd, 1)), (298, (.inl .iaload, 1)), (299, (.inl (.aload_n 0), 1)), (300, (.inl (.iload 4), 2)), (302, (.inl (.iconst 2), 1)), (303, (.inl .iadd, 1)), (304, (.inl .iaload, 1)), (305, (.inl (.aload_n 3), 1)), (306, (.inr (17, 26, 4, 0, 0), 3)), (309, (.inl (.istore 5), 2)), (311, (.inl (.aload_n 2), 1)), (312, (.inl (.aload_n 0), 1)), (313, (.inl (.iload 4), 2)), (315, (.inl (.iconst 1), 1)), (316, (.inl .iadd, 1)), (317, (.inl .iaload, 1)), (318, (.inl (.aload_n 0), 1)), (319, (.inl (.iload 4), 2)), (321, (.inl (.iconst 2), 1)), (322, (.inl .iadd, 1)), (323, (.inl .iaload, 1)), (324, (.inr (17, 108, 3, 1, 9), 3)), (327, (.inl (.lstore 6), 2)), (329, (.inl (.aload_n 2), 1)), (330, (.inr (17, 102, 1, 1, 9), 3)), (333, (.inl (.iload 5), 2)), (335, (.inl (.if_icmp .eq 5), 3)), (338, (.inl (.iconst 0), 1)), (339, (.inl .ireturn, 1)), (340, (.inl (.iload 5), 2)), (342, (.inl (.ifCond .ne 14), 3)), (345, (.inl (.aload_n 3), 1)), (346, (.inl (.iconst 0), 1)), (347, (.inl .laload, 1)), (348, (.inl (.lload 6), 2)), (350, (.inl .lcmp, 1)), (351, (.inl (.ifCond .eq 5), 3)), (354, (.inl (.iconst 0), 1)), (355, (.inl .ireturn, 1)), (356, (.inl (.goto 788), 3)), (359, (.inl (.aload_n 1), 1)), (360, (.inl (.aload_n 0), 1)), (361, (.inl (.iload 4), 2)), (363, (.inl (.iconst 1), 1)), (364, (.inl .iadd, 1)), (365, (.inl .iaload, 1)), (366, (.inl (.aload_n 0), 1)), (367, (.inl (.iload 4), 2)), (369, (.inl (.iconst 2), 1)), (370, (.inl .iadd, 1)), (371, (.inl .iaload, 1)), (372, (.inl (.aload_n 0), 1)), (373, (.inl (.iload 4), 2)), (375, (.inl (.iconst 3), 1)), (376, (.inl .iadd, 1)), (377, (.inl .iaload, 1)), (378, (.inl .i2l, 1)), (379, (.inl (.bipush 32), 2)), (381, (.inl .lshl, 1)), (382, (.inl (.aload_n 0), 1)), (383, (.inl (.iload 4), 2)), (385, (.inl (.iconst 4), 1)), (386, (.inl .iadd, 1)), (387, (.inl .iaload, 1)), (388, (.inl .i2l, 1)), (389, (.inr (15, 4294967295, 0, 0, 0), 3)), (392, (.inl .land, 1)), (393, (.inl .lor, 1)), (394, (.inr (17, 39, 4, 0, 0), 3)), (397, (.inl (.istore 5), 2)), (399, (.inl (.aload_n 2), 1)), (400, (.inl (.aload_n 0), 1)), (401, (.inl (.iload 4), 2)), (403, (.inl (.iconst 1), 1)), (404, (.inl .iadd, 1)), (405, (.inl .iaload, 1)), (406, (.inl (.aload_n 0), 1)), (407, (.inl (.iload 4), 2)), (409, (.inl (.iconst 2), 1)), (410, (.inl .iadd, 1)), (411, (.inl .iaload, 1)), (412, (.inl (.aload_n 0), 1)), (413, (.inl (.iload 4), 2)), (415, (.inl (.iconst 3), 1)), (416, (.inl .iadd, 1)), (417, (.inl .iaload, 1)), (418, (.inl .i2l, 1)), (419, (.inl (.bipush 32), 2)), (421, (.inl .lshl, 1)), (422, (.inl (.aload_n 0), 1)), (423, (.inl (.iload 4), 2)), (425, (.inl (.iconst 4), 1)), (426, (.inl .iadd, 1)), (427, (.inl .iaload, 1)), (428, (.inl .i2l, 1)), (429, (.inr (15, 4294967295, 0, 0, 0), 3)), (432, (.inl .land, 1)), (433, (.inl .lor, 1)), (434, (.inr (17, 115, 4, 1, 9), 3)), (437, (.inl (.aload_n 2), 1)), (438, (.inr (17, 102, 1, 1, 9), 3)), (441, (.inl (.iload 5), 2)), (443, (.inl (.if_icmp .eq 5), 3)), (446, (.inl (.iconst 0), 1)), (447, (.inl .ireturn, 1)), (448, (.inl (.goto 696), 3)), (451, (.inl (.aload_n 1), 1)), (452, (.inl (.aload_n 0), 1)), (453, (.inl (.iload 4), 2)), (455, (.inl (.iconst 1), 1)), (456, (.inl .iadd, 1)), (457, (.inl .iaload, 1)), (458, (.inl (.aload_n 0), 1)), (459, (.inl (.iload 4), 2)), (461, (.inl (.iconst 2), 1)), (462, (.inl .iadd, 1)), (463, (.inl .iaload, 1)), (464, (.inl (.aload_n 0), 1)), (465, (.inl (.iload 4), 2)), (467, (.inl (.iconst 3), 1)), (468, (.inl .iadd, 1)), (469, (.inl .iaload, 1)), (470, (.inl (.aload_n 0), 1)), (471, (.inl (.iload 4), 2)), (473, (.inl (.iconst 4), 1)), (474, (.inl .iadd, 1)), (475, (.inl .iaload, 1)), (476, (.inl (.ifCond .eq 7), 3)), (479, (.inl (.iconst 1), 1)), (480, (.inl (.goto 4), 3)), (483, (.inl (.iconst 0), 1)), (484, (.inr (17, 43, 5, 0, 0), 3)), (487, (.inl (.istore 5), 2)), (489, (.inl (.aload_n 2), 1)), (490, (.inl (.aload_n 0), 1)), (491, (.inl (.iload 4), 2)), (493, (.inl (.iconst 1), 1)), (494, (.inl .iadd, 1)), (495, (.inl .iaload, 1)), (496, (.inl (.aload_n 0), 1)), (497, (.inl (.iload 4), 2)), (499, (.inl (.iconst 2), 1)), (500, (.inl .iadd, 1)), (501, (.inl .iaload, 1)), (502, (.inl (.aload_n 0), 1)), (503, (.inl (.iload 4), 2)), (505, (.inl (.iconst 3), 1)), (506, (.inl .iadd, 1)), (507, (.inl .iaload, 1)), (508, (.inl (.aload_n 0), 1)), (509, (.inl (.iload 4), 2)), (511, (.inl (.iconst 4), 1)), (512, (.inl .iadd, 1)), (513, (.inl .iaload, 1)), (514, (.inl (.ifCond .eq 7), 3)), (517, (.inl (.iconst 1), 1)), (518, (.inl (.goto 4), 3)), (521, (.inl (.iconst 0), 1)), (522, (.inr (17, 117, 5, 1, 9), 3)), (525, (.inl (.aload_n 2), 1)), (526, (.inr (17, 102, 1, 1, 9), 3)), (529, (.inl (.iload 5), 2)), (531, (.inl (.if_icmp .eq 5), 3)), (534, (.inl (.iconst 0), 1)), (535, (.inl .ireturn, 1)), (536, (.inl (.goto 608), 3)), (539, (.inl (.aload_n 1), 1)), (540, (.inl (.aload_n 0), 1)), (541, (.inl (.iload 4), 2)), (543, (.inl (.iconst 1), 1)), (544, (.inl .iadd, 1)), (545, (.inl .iaload, 1)), (546, (.inl (.aload_n 0), 1)), (547, (.inl (.iload 4), 2)), (549, (.inl (.iconst 2), 1)), (550, (.inl .iadd, 1)), (551, (.inl .iaload, 1)), (552, (.inl (.aload_n 0), 1)), (553, (.inl (.iload 4), 2)), (555, (.inl (.iconst 3), 1)), (556, (.inl .iadd, 1)), (557, (.inl .iaload, 1)), (558, (.inl (.aload_n 3), 1)), (559, (.inr (17, 47, 5, 0, 0), 3)), (562, (.inl (.istore 5), 2)), (564, (.inl (.aload_n 2), 1)), (565, (.inl (.aload_n 0), 1)), (566, (.inl (.iload 4), 2)), (568, (.inl (.iconst 1), 1)), (569, (.inl .iadd, 1)), (570, (.inl .iaload, 1)), (571, (.inl (.aload_n 0), 1)), (572, (.inl (.iload 4), 2)), (574, (.inl (.iconst 2), 1)), (575, (.inl .iadd, 1)), (576, (.inl .iaload, 1)), (577, (.inl (.aload_n 0), 1)), (578, (.inl (.iload 4), 2)), (580, (.inl (.iconst 3), 1)), (581, (.inl .iadd, 1)), (582, (.inl .iaload, 1)), (583, (.inr (17, 118, 4, 1, 9), 3)), (586, (.inl (.istore 6), 2)), (588, (.inl (.aload_n 2), 1)), (589, (.inr (17, 102, 1, 1, 9), 3)), (592, (.inl (.iload 5), 2)), (594, (.inl (.if_icmp .eq 5), 3)), (597, (.inl (.iconst 0), 1)), (598, (.inl .ireturn, 1)), (599, (.inl (.iload 5), 2)), (601, (.inl (.ifCond .ne 15), 3)), (604, (.inl (.aload_n 3), 1)), (605, (.inl (.iconst 0), 1)), (606, (.inl .laload, 1)), (607, (.inl (.iload 6), 2)), (609, (.inl .i2l, 1)), (610, (.inl .lcmp, 1)), (611, (.inl (.ifCond .eq 5), 3)), (614, (.inl (.iconst 0), 1)), (615, (.inl .ireturn, 1)), (616, (.inl (.goto 528), 3)), (619, (.inl (.aload_n 1), 1)), (620, (.inl (.aload_n 0), 1)), (621, (.inl (.iload 4), 2)), (623, (.inl (.iconst 1), 1)), (624, (.inl .iadd, 1)), (625, (.inl .iaload, 1)), (626, (.inl (.aload_n 0), 1)), (627, (.inl (.iload 4), 2)), (629, (.inl (.iconst 2), 1)), (630, (.inl .iadd, 1)), (631, (.inl .iaload, 1)), (632, (.inl (.aload_n 0), 1)), (633, (.inl (.iload 4), 2)), (635, (.inl (.iconst 3), 1)), (636, (.inl .iadd, 1)), (637, (.inl .iaload, 1)), (638, (.inl (.aload_n 3), 1)), (639, (.inr (17, 50, 5, 0, 0), 3)), (642, (.inl (.istore 5), 2)), (644, (.inl (.aload_n 2), 1)), (645, (.inl (.aload_n 0), 1)), (646, (.inl (.iload 4), 2)), (648, (.inl (.iconst 1), 1)), (649, (.inl .iadd, 1)), (650, (.inl .iaload, 1)), (651, (.inl (.aload_n 0), 1)), (652, (.inl (.iload 4), 2)), (654, (.inl (.iconst 2), 1)), (655, (.inl .iadd, 1)), (656, (.inl .iaload, 1)), (657, (.inl (.aload_n 0), 1)), (658, (.inl (.iload 4), 2)), (660, (.inl (.iconst 3), 1)), (661, (.inl .iadd, 1)), (662, (.inl .iaload, 1)), (663, (.inr (17, 120, 4, 1, 9), 3)), (666, (.inl (.istore 6), 2)), (668, (.inl (.aload_n 2), 1)), (669, (.inr (17, 102, 1, 1, 9), 3)), (672, (.inl (.iload 5), 2)), (674, (.inl (.if_icmp .eq 5), 3)), (677, (.inl (.iconst 0), 1)), (678, (.inl .ireturn, 1)), (679, (.inl (.iload 5), 2)), (681, (.inl (.ifCond .ne 15), 3)), (684, (.inl (.aload_n 3), 1)), (685, (.inl (.iconst 0), 1)), (686, (.inl .laload, 1)), (687, (.inl (.iload 6), 2)), (689, (.inl .i2l, 1)), (690, (.inl .lcmp, 1)), (691, (.inl (.ifCond .eq 5), 3)), (694, (.inl (.iconst 0), 1)), (695, (.inl .ireturn, 1)), (696, (.inl (.goto 448), 3)), (699, (.inl (.aload_n 1), 1)), (700, (.inl (.aload_n 0), 1)), (701, (.inl (.iload 4), 2)), (703, (.inl (.iconst 1), 1)), (704, (.inl .iadd, 1)), (705, (.inl .iaload, 1)), (706, (.inl (.aload_n 3), 1)), (707, (.inr (17, 59, 3, 0, 0), 3)), (710, (.inl (.istore 5), 2)), (712, (.inl (.aload_n 2), 1)), (713, (.inl (.aload_n 0), 1)), (714, (.inl (.iload 4), 2)), (716, (.inl (.iconst 1), 1)), (717, (.inl .iadd, 1)), (718, (.inl .iaload, 1)), (719, (.inr (17, 122, 2, 1, 9), 3)), (722, (.inl (.istore 6), 2)), (724, (.inl (.aload_n 2), 1)), (725, (.inr (17, 102, 1, 1, 9), 3)), (728, (.inl (.iload 5), 2)), (730, (.inl (.if_icmp .eq 5), 3)), (733, (.inl (.iconst 0), 1)), (734, (.inl .ireturn, 1)), (735, (.inl (.iload 5), 2)), (737, (.inl (.ifCond .ne 15), 3)), (740, (.inl (.aload_n 3), 1)), (741, (.inl (.iconst 0), 1)), (742, (.inl .laload, 1)), (743, (.inl (.iload 6), 2)), (745, (.inl .i2l, 1)), (746, (.inl .lcmp, 1)), (747, (.inl (.ifCond .eq 5), 3)), (750, (.inl (.iconst 0), 1)), (751, (.inl .ireturn, 1)), (752, (.inl (.goto 392), 3)), (755, (.inl (.aload_n 1), 1)), (756, (.inl (.aload_n 0), 1)), (757, (.inl (.iload 4), 2)), (759, (.inl (.iconst 1), 1)), (760, (.inl .iadd, 1)), (761, (.inl .iaload, 1)), (762, (.inr (17, 75, 2, 0, 0), 3)), (765, (.inl (.istore 5), 2)), (767, (.inl (.aload_n 2), 1)), (768, (.inl (.aload_n 0), 1)), (769, (.inl (.iload 4), 2)), (771, (.inl (.iconst 1), 1)), (772, (.inl .iadd, 1)), (773, (.inl .iaload, 1)), (774, (.inr (17, 132, 2, 1, 9), 3)), (777, (.inl (.aload_n 2), 1)), (778, (.inr (17, 102, 1, 1, 9), 3)), (781, (.inl (.iload 5), 2)), (783, (.inl (.if_icmp .eq 5), 3)), (786, (.inl (.iconst 0), 1)), (787, (.inl .ireturn, 1)), (788, (.inl (.goto 356), 3)), (791, (.inl (.aload_n 1), 1)), (792, (.inl (.aload_n 0), 1)), (793, (.inl (.iload 4), 2)), (795, (.inl (.iconst 1), 1)), (796, (.inl .iadd, 1)), (797, (.inl .iaload, 1)), (798, (.inl (.aload_n 0), 1)), (799, (.inl (.iload 4), 2)), (801, (.inl (.iconst 2), 1)), (802, (.inl .iadd, 1)), (803, (.inl .iaload, 1)), (804, (.inl (.aload_n 3), 1)), (805, (.inr (17, 77, 4, 0, 0), 3)), (808, (.inl (.istore 5), 2)), (810, (.inl (.aload_n 2), 1)), (811, (.inl (.aload_n 0), 1)), (812, (.inl (.iload 4), 2)), (814, (.inl (.iconst 1), 1)), (815, (.inl .iadd, 1)), (816, (.inl .iaload, 1)), (817, (.inl (.aload_n 0), 1)), (818, (.inl (.iload 4), 2)), (820, (.inl (.iconst 2), 1)), (821, (.inl .iadd, 1)), (822, (.inl .iaload, 1)), (823, (.inr (17, 133, 3, 1, 9), 3)), (826, (.inl (.istore 6), 2)), (828, (.inl (.aload_n 2), 1)), (829, (.inr (17, 102, 1, 1, 9), 3)), (832, (.inl (.iload 5), 2)), (834, (.inl (.if_icmp .eq 5), 3)), (837, (.inl (.iconst 0), 1)), (838, (.inl .ireturn, 1)), (839, (.inl (.iload 5), 2)), (841, (.inl (.ifCond .ne 15), 3)), (844, (.inl (.aload_n 3), 1)), (845, (.inl (.iconst 0), 1)), (846, (.inl .laload, 1)), (847, (.inl (.iload 6), 2)), (849, (.inl .i2l, 1)), (850, (.inl .lcmp, 1)), (851, (.inl (.ifCond .eq 5), 3)), (854, (.inl (.iconst 0), 1)), (855, (.inl .ireturn, 1)), (856, (.inl (.goto 288), 3)), (859, (.inl (.aload_n 1), 1)), (860, (.inl (.aload_n 0), 1)), (861, (.inl (.iload 4), 2)), (863, (.inl (.iconst 1), 1)), (864, (.inl .iadd, 1)), (865, (.inl .iaload, 1)), (866, (.inl (.aload_n 0), 1)), (867, (.inl (.iload 4), 2)), (869, (.inl (.iconst 2), 1)), (870, (.inl .iadd, 1)), (871, (.inl .iaload, 1)), (872, (.inl (.aload_n 3), 1)), (873, (.inr (17, 91, 4, 0, 0), 3)), (876, (.inl (.istore 5), 2)), (878, (.inl (.aload_n 2), 1)), (879, (.inl (.aload_n 0), 1)), (880, (.inl (.iload 4), 2)), (882, (.inl (.iconst 1), 1)), (883, (.inl .iadd, 1)), (884, (.inl .iaload, 1)), (885, (.inl (.aload_n 0), 1)), (886, (.inl (.iload 4), 2)), (888, (.inl (.iconst 2), 1)), (889, (.inl .iadd, 1)), (890, (.inl .iaload, 1)), (891, (.inr (17, 135, 3, 1, 9), 3)), (894, (.inl (.istore 6), 2)), (896, (.inl (.aload_n 2), 1)), (897, (.inr (17, 102, 1, 1, 9), 3)), (900, (.inl (.iload 5), 2)), (902, (.inl (.if_icmp .eq 5), 3)), (905, (.inl (.iconst 0), 1)), (906, (.inl .ireturn, 1)), (907, (.inl (.iload 5), 2)), (909, (.inl (.ifCond .ne 15), 3)), (912, (.inl (.aload_n 3), 1)), (913, (.inl (.iconst 0), 1)), (914, (.inl .laload, 1)), (915, (.inl (.iload 6), 2)), (917, (.inl .i2l, 1)), (918, (.inl .lcmp, 1)), (919, (.inl (.ifCond .eq 5), 3)), (922, (.inl (.iconst 0), 1)), (923, (.inl .ireturn, 1)), (924, (.inl (.goto 220), 3)), (927, (.inl (.aload_n 1), 1)), (928, (.inl (.aload_n 0), 1)), (929, (.inl (.iload 4), 2)), (931, (.inl (.iconst 1), 1)), (932, (.inl .iadd, 1)), (933, (.inl .iaload, 1)), (934, (.inl (.aload_n 0), 1)), (935, (.inl (.iload 4), 2)), (937, (.inl (.iconst 2), 1)), (938, (.inl .iadd, 1)), (939, (.inl .iaload, 1)), (940, (.inl (.aload_n 3), 1)), (941, (.inr (17, 94, 4, 0, 0), 3)), (944, (.inl (.istore 5), 2)), (946, (.inl (.aload_n 2), 1)), (947, (.inl (.aload_n 0), 1)), (948, (.inl (.iload 4), 2)), (950, (.inl (.iconst 1), 1)), (951, (.inl .iadd, 1)), (952, (.inl .iaload, 1)), (953, (.inl (.aload_n 0), 1)), (954, (.inl (.iload 4), 2)), (956, (.inl (.iconst 2), 1)), (957, (.inl .iadd, 1)), (958, (.inl .iaload, 1)), (959, (.inr (17, 136, 3, 1, 9), 3)), (962, (.inl (.istore 6), 2)), (964, (.inl (.aload_n 2), 1)), (965, (.inr (17, 102, 1, 1, 9), 3)), (968, (.inl (.iload 5), 2)), (970, (.inl (.if_icmp .eq 5), 3)), (973, (.inl (.iconst 0), 1)), (974, (.inl .ireturn, 1)), (975, (.inl (.iload 5), 2)), (977, (.inl (.ifCond .ne 15), 3)), (980, (.inl (.aload_n 3), 1)), (981, (.inl (.iconst 0), 1)), (982, (.inl .laload, 1)), (983, (.inl (.iload 6), 2)), (985, (.inl .i2l, 1)), (986, (.inl .lcmp, 1)), (987, (.inl (.ifCond .eq 5), 3)), (990, (.inl (.iconst 0), 1)), (991, (.inl .ireturn, 1)), (992, (.inl (.goto 152), 3)), (995, (.inl (.aload_n 1), 1)), (996, (.inl (.aload_n 0), 1)), (997, (.inl (.iload 4), 2)), (999, (.inl (.iconst 1), 1)), (1000, (.inl .iadd, 1)), (1001, (.inl .iaload, 1)), (1002, (.inl (.aload_n 0), 1)), (1003, (.inl (.iload 4), 2)), (1005, (.inl (.iconst 2), 1)), (1006, (.inl .iadd, 1)), (1007, (.inl .iaload, 1)), (1008, (.inl (.aload_n 3), 1)), (1009, (.inr (17, 96, 4, 0, 0), 3)), (1012, (.inl (.istore 5), 2)), (1014, (.inl (.aload_n 2), 1)), (1015, (.inl (.aload_n 0), 1)), (1016, (.inl (.iload 4), 2)), (1018, (.inl (.iconst 1), 1)), (1019, (.inl .iadd, 1)), (1020, (.inl .iaload, 1)), (1021, (.inl (.aload_n 0), 1)), (1022, (.inl (.iload 4), 2)), (1024, (.inl (.iconst 2), 1)), (1025, (.inl .iadd, 1)), (1026, (.inl .iaload, 1)), (1027, (.inr (17, 137, 3, 1, 9), 3)), (1030, (.inl (.istore 6), 2)), (1032, (.inl (.aload_n 2), 1)), (1033, (.inr (17, 102, 1, 1, 9), 3)), (1036, (.inl (.iload 5), 2)), (1038, (.inl (.if_icmp .eq 5), 3)), (1041, (.inl (.iconst 0), 1)), (1042, (.inl .ireturn, 1)), (1043, (.inl (.iload 5), 2)), (1045, (.inl (.ifCond .ne 15), 3)), (1048, (.inl (.aload_n 3), 1)), (1049, (.inl (.iconst 0), 1)), (1050, (.inl .laload, 1)), (1051, (.inl (.iload 6), 2)), (1053, (.inl .i2l, 1)), (1054, (.inl .lcmp, 1)), (1055, (.inl (.ifCond .eq 5), 3)), (1058, (.inl (.iconst 0), 1)), (1059, (.inl .ireturn, 1)), (1060, (.inl (.goto 84), 3)), (1063, (.inl (.aload_n 1), 1)), (1064, (.inl (.aload_n 0), 1)), (1065, (.inl (.iload 4), 2)), (1067, (.inl (.iconst 1), 1)), (1068, (.inl .iadd, 1)), (1069, (.inl .iaload, 1)), (1070, (.inl (.aload_n 3), 1)), (1071, (.inr (17, 99, 3, 0, 0), 3)), (1074, (.inl (.istore 5), 2)), (1076, (.inl (.aload_n 2), 1)), (1077, (.inl (.aload_n 0), 1)), (1078, (.inl (.iload 4), 2)), (1080, (.inl (.iconst 1), 1)), (1081, (.inl .iadd, 1)), (1082, (.inl .iaload, 1)), (1083, (.inr (17, 138, 2, 1, 9), 3)), (1086, (.inl (.istore 6), 2)), (1088, (.inl (.aload_n 2), 1)), (1089, (.inr (17, 102, 1, 1, 9), 3)), (1092, (.inl (.iload 5), 2)), (1094, (.inl (.if_icmp .eq 5), 3)), (1097, (.inl (.iconst 0), 1)), (1098, (.inl .ireturn, 1)), (1099, (.inl (.iload 5), 2)), (1101, (.inl (.ifCond .ne 15), 3)), (1104, (.inl (.aload_n 3), 1)), (1105, (.inl (.iconst 0), 1)), (1106, (.inl .laload, 1)), (1107, (.inl (.iload 6), 2)), (1109, (.inl .i2l, 1)), (1110, (.inl .lcmp, 1)), (1111, (.inl (.ifCond .eq 5), 3)), (1114, (.inl (.iconst 0), 1)), (1115, (.inl .ireturn, 1)), (1116, (.inl (.goto 28), 3)), (1119, (.inl (.aload_n 1), 1)), (1120, (.inl (.aload_n 0), 1)), (1121, (.inl (.iload 4), 2)), (1123, (.inl (.iconst 1), 1)), (1124, (.inl .iadd, 1)), (1125, (.inl .iaload, 1)), (1126, (.inr (17, 5, 2, 1, 0), 3)), (1129, (.inl (.aload_n 2), 1)), (1130, (.inl (.aload_n 0), 1)), (1131, (.inl (.iload 4), 2)), (1133, (.inl (.iconst 1), 1)), (1134, (.inl .iadd, 1)), (1135, (.inl .iaload, 1)), (1136, (.inr (17, 139, 2, 1, 9), 3)), (1139, (.inl (.if_icmp .eq 5), 3)), (1142, (.inl (.iconst 0), 1)), (1143, (.inl .ireturn, 1)), (1144, (.inl (.iinc 4 5), 3)), (1147, (.inl (.goto (-1124)), 3)), (1150, (.inl (.iconst 1), 1)), (1151, (.inl .ireturn, 1))]
def cdm : Nat → List (Nat × (OI × Nat)) := fun i => match i with
  | 0 => cd_0
  | 1 => cd_1
  | 2 => cd_2
  | 3 => cd_3
  | 4 => cd_4
  | 5 => cd_5
  | 6 => cd_6
  | 7 => cd_7
  | 8 => cd_8
  | 9 => cd_9
  | 10 => cd_10
  | 11 => cd_11
  | 12 => cd_12
  | 13 => cd_13
  | 14 => cd_14
  | 15 => cd_15
  | 16 => cd_16
  | 17 => cd_17
  | 18 => cd_18
  | 19 => cd_19
  | 20 => cd_20
  | 21 => cd_21
  | 22 => cd_22
  | 23 => cd_23
  | 24 => cd_24
  | 25 => cd_25
  | 26 => cd_26
  | 27 => cd_27
  | 28 => cd_28
  | 29 => cd_29
  | 30 => cd_30
  | 31 => cd_31
  | 32 => cd_32
  | 33 => cd_33
  | 34 => cd_34
  | 35 => cd_35
  | 36 => cd_36
  | 37 => cd_37
  | 38 => cd_38
  | 39 => cd_39
  | 40 => cd_40
  | 41 => cd_41
  | 42 => cd_42
  | 43 => cd_43
  | 44 => cd_44
  | 45 => cd_45
  | 46 => cd_46
  | 47 => cd_47
  | 48 => cd_48
  | 49 => cd_49
  | 50 => cd_50
  | 51 => cd_51
  | 52 => cd_52
  | 53 => cd_53
  | 54 => cd_54
  | 55 => cd_55
  | 56 => cd_56
  | 57 => cd_57
  | 58 => cd_58
  | 59 => cd_59
  | 60 => cd_60
  | 61 => cd_61
  | 62 => cd_62
  | 63 => cd_63
  | 64 => cd_64
  | 65 => cd_65
  | 66 => cd_66
  | 67 => cd_67
  | 68 => cd_68
  | 69 => cd_69
  | 70 => cd_70
  | 71 => cd_71
  | 72 => cd_72
  | 73 => cd_73
  | 74 => cd_74
  | 75 => cd_75
  | 76 => cd_76
  | 77 => cd_77
  | 78 => cd_78
  | 79 => cd_79
  | 80 => cd_80
  | 81 => cd_81
  | 82 => cd_82
  | 83 => cd_83
  | 84 => cd_84
  | 85 => cd_85
  | 86 => cd_86
  | 87 => cd_87
  | 88 => cd_88
  | 89 => cd_89
  | 90 => cd_90
  | 91 => cd_91
  | 92 => cd_92
  | 93 => cd_93
  | 94 => cd_94
  | 95 => cd_95
  | 96 => cd_96
  | 97 => cd_97
  | 98 => cd_98
  | 99 => cd_99
  | 100 => cd_100
  | 101 => cd_101
  | 102 => cd_102
  | 103 => cd_103
  | 104 => cd_104
  | 105 => cd_105
  | 106 => cd_106
  | 107 => cd_107
  | 108 => cd_108
  | 109 => cd_109
  | 110 => cd_110
  | 111 => cd_111
  | 112 => cd_112
  | 113 => cd_113
  | 114 => cd_114
  | 115 => cd_115
  | 116 => cd_116
  | 117 => cd_117
  | 118 => cd_118
  | 119 => cd_119
  | 120 => cd_120
  | 121 => cd_121
  | 122 => cd_122
  | 123 => cd_123
  | 124 => cd_124
  | 125 => cd_125
  | 126 => cd_126
  | 127 => cd_127
  | 128 => cd_128
  | 129 => cd_129
  | 130 => cd_130
  | 131 => cd_131
  | 132 => cd_132
  | 133 => cd_133
  | 134 => cd_134
  | 135 => cd_135
  | 136 => cd_136
  | 137 => cd_137
  | 138 => cd_138
  | 139 => cd_139
  | 140 => cd_140
  | _ => []
def cod (i pc : Nat) : Option (OI × Nat) := (cdm i).lookup pc
end
section
/-! THE STATIC CHECK: what an instruction needs of the tables, by a program -/
def okl (bs : ByteArray) (pc : Nat) (ins : Instr) (len : Nat) : Bool := decide (decode bs pc = .ok (ins, len)) && (match ins with
  | .bipush n => decide (-128 ≤ n ∧ n < 128) && len == 2
  | .sipush n => decide (-32768 ≤ n ∧ n < 32768) && len == 3
  | .iload _ => len == 2
  | .lload _ => len == 2
  | .aload _ => len == 2
  | .istore _ => len == 2
  | .lstore _ => len == 2
  | .astore _ => len == 2
  | .iinc _ _ => len == 3
  | .ifCond _ off => decide (0 ≤ (pc : Int) + off) && len == 3
  | .if_icmp _ off => decide (0 ≤ (pc : Int) + off) && len == 3
  | .if_acmp _ off => decide (0 ≤ (pc : Int) + off) && len == 3
  | .ifnull off => decide (0 ≤ (pc : Int) + off) && len == 3
  | .ifnonnull off => decide (0 ≤ (pc : Int) + off) && len == 3
  | .goto off => decide (0 ≤ (pc : Int) + off) && len == 3
  | .tableswitch d _ _ offs => decide (0 ≤ (pc : Int) + d) && offs.toList.all (fun o => decide (0 ≤ (pc : Int) + o))
  | .newarray _ => len == 2
  | _ => len == 1)
def xw (w : Cond) : Bool := match w with
  | .castable _ _ => true
  | .declares _ => true
  | _ => false
/-- the String constants that are thrown with -/
def strl : List (String × Nat × String) := [("FarStore", 34, "so many sites cannot be"), ("FarStore", 41, "the sites are told already"), ("FarStore", 186, "no such site"), ("FarStore", 55, "too many objects"), ("FarStore", 66, "too many transactions"), ("FarStore", 190, "no such transaction"), ("FarStore", 196, "no such object"), ("FarStore", 202, "the object is a set"), ("FarStore", 206, "the transaction is not open"), ("FarStore", 204, "the object is no set"), ("FarStore", 104, "too many changes"), ("FarStore", 128, "no element has this number"), ("FarStore", 188, "a site sends itself nothing"), ("FarStore", 169, "nothing is told under this number")]
/-- pairs of classes that are not castable -/
def ncl : List (String × String) := [("java/lang/IllegalStateException", "java/lang/IllegalArgumentException"), ("java/util/NoSuchElementException", "java/lang/IllegalArgumentException"), ("java/lang/IllegalArgumentException", "java/lang/IllegalStateException"), ("java/util/NoSuchElementException", "java/lang/IllegalStateException"), ("java/lang/IllegalArgumentException", "java/util/NoSuchElementException"), ("java/lang/IllegalStateException", "java/util/NoSuchElementException")]
/-- the kind of a field's type -/
def tyk (ty : FieldType) : Nat := match ty with
  | .int => 0
  | .boolean => 1
  | .long => 2
  | .object _ => 3
  | .array _ => 3
  | _ => 9
def inG (w : Cond) : Bool := decide (w ∈ lw_tbl) && goodWord w
def inX (w : Cond) : Bool := decide (w ∈ lw_tbl) && xw w
def exN : List String := ["java/lang/RuntimeException", "java/lang/Exception"]
/-- the link of a field, by its own class's name or through the list's -/
def okf (own : String) (idx : Nat) (q : vw_C) (k : Nat) : Bool := decide (k < q.2.2) && (inG (.fieldLink own idx (q.2.1 k).1 (q.2.1 k).2.1 (q.2.1 k).2.2.1) || (inG (.fieldLink own idx "java/util/ArrayList" (q.2.1 k).2.1 (q.2.1 k).2.2.1) && inG (.sameField "java/util/ArrayList" (q.2.1 k).1 (q.2.1 k).2.1 (q.2.1 k).2.2.1)))
def nO : String := "java/lang/Object"
def yClone : MethodName := ⟨"[I", "clone", "()Ljava/lang/Object;"⟩
def yCloneO : MethodName := ⟨"java/lang/Object", "clone", "()Ljava/lang/Object;"⟩
def yGetC : MethodName := ⟨"java/lang/Object", "getClass", "()Ljava/lang/Class;"⟩
def ok_get (i pc ci k : Nat) : Bool := match decode (bts i) pc, classes[ci]? with
  | .ok (.getfield idx, 3), some q => okf (nam i).cls idx q k
  | _, _ => false
def ok_put (i pc ci k kind : Nat) : Bool := match decode (bts i) pc, classes[ci]? with
  | .ok (.putfield idx, 3), some q => okf (nam i).cls idx q k && decide (tyk (tyF ci k) = kind) && ((q.2.1 k).2.2.2 == false || (decide ((nam i).name = "<init>") && decide ((q.2.1 k).1 = (nam i).cls)))
  | _, _ => false
def ok_new (i pc ci N : Nat) : Bool := match decode (bts i) pc, classes[ci]? with
  | .ok (.new idx, 3), some q => decide (q.2.2 = N) && (inG (.classLink (nam i).cls idx q.1) && (inG (.instantiable q.1 N) && inG (.initialized q.1)))
  | _, _ => false
def ok_anew (i pc t : Nat) : Bool := match decode (bts i) pc with
  | .ok (.anewarray idx, 3) => (decide (t = 3) && inG (.classLink (nam i).cls idx nSite)) || (decide (t = 4) && inG (.classLink (nam i).cls idx nO))
  | _ => false
def ok_cast (i pc ci : Nat) : Bool := match decode (bts i) pc, classes[ci]? with
  | .ok (.checkcast idx, 3), some q => inG (.classLink (nam i).cls idx q.1)
  | _, _ => false
def ok_castA (i pc t : Nat) : Bool := match decode (bts i) pc with
  | .ok (.checkcast idx, 3) => (decide (t = 0) && inG (.classLink (nam i).cls idx "[I")) || (decide (t = 4) && inG (.classLink (nam i).cls idx "[Ljava/lang/Object;"))
  | _ => false
def ok_gets (i pc : Nat) : Bool := match decode (bts i) pc with
  | .ok (.getstatic idx, 3) => inG (.fieldLink (nam i).cls idx "java/util/ArrayList" "DEFAULTCAPACITY_EMPTY_ELEMENTDATA" "[Ljava/lang/Object;")
  | _ => false
def ok_oinit (i pc : Nat) : Bool := match decode (bts i) pc with
  | .ok (.invokespecial idx, 3) => inG (.methodLink (nam i).cls idx Lib.objectInit) && (inG (.instanceMethod Lib.objectInit) && (inG (.code Lib.objectInit ⟨#[0xb1]⟩ 1 none) && (decide (1 ≤ frs i) && decide (20 ≤ lcs i))))
  | _ => false
def ok_copy (i pc : Nat) : Bool := match decode (bts i) pc with
  | .ok (.invokestatic idx, 3) => inG (.methodLink (nam i).cls idx arraycopyName) && (inG (.native arraycopyName) && (inG (.static arraycopyName) && (inG (.initialized "java/lang/System") && (decide (1 ≤ frs i) && decide (40 ≤ lcs i)))))
  | _ => false
def ok_clone (i pc : Nat) : Bool := match decode (bts i) pc with
  | .ok (.invokevirtual idx, 3) => inG (.methodLink (nam i).cls idx yClone) && (inG (.sameMethod "[I" "java/lang/Object" "clone" "()Ljava/lang/Object;") && (inG (.native yCloneO) && (inG (.instanceMethod yCloneO) && (inG (.selects "[I" yClone yCloneO) && (inX (.castable "[I" "java/lang/Cloneable") && (decide (1 ≤ frs i) && decide (40 ≤ lcs i)))))))
  | _ => false
def ok_mm (i pc : Nat) (y : MethodName) (bs : ByteArray) : Bool := match decode (bts i) pc with
  | .ok (.invokestatic idx, 3) => inG (.methodLink (nam i).cls idx y) && (inG (.static y) && (inG (.initialized "java/lang/Math") && (inG (.code y bs 2 (some .int)) && (decide (1 ≤ frs i) && decide (40 ≤ lcs i)))))
  | _ => false
def ok_getC (i pc : Nat) : Bool := match decode (bts i) pc with
  | .ok (.invokevirtual idx, 3) => inG (.methodLink (nam i).cls idx yGetC) && (inX (.declares yGetC) && (inG (.selects "[Ljava/lang/Object;" yGetC yGetC) && (inG (.instanceMethod yGetC) && (inG (.native yGetC) && (decide (1 ≤ frs i) && decide (40 ≤ lcs i))))))
  | _ => false
def ok_ldcM (i pc : Nat) : Bool := match decode (bts i) pc with
  | .ok (.ldc idx, 2) => inG (.classLink (nam i).cls idx "[Ljava/lang/Object;")
  | _ => false
def ok_ldcI (i pc x : Nat) : Bool := match decode (bts i) pc with
  | .ok (.ldc idx, 2) => inG (.constant (nam i).cls idx (Int32.ofInt x))
  | _ => false
def ok_ldc2 (i pc x g : Nat) : Bool := match decode (bts i) pc with
  | .ok (.ldc2_w idx, 3) => inG (.constantLong (nam i).cls idx (Int64.ofInt (if g = 0 then (x : Int) else -(x : Int))))
  | _ => false
def ok_throw (i pc ci : Nat) : Bool := match decode (bts i) pc, decode (bts i) (pc + 4), decode (bts i) (pc + 6), classes[ci]? with
  | .ok (.new ik, 3), .ok (.ldc is, 2), .ok (.invokespecial ic, 3), some q => decide (decode (bts i) (pc + 3) = .ok (.dup, 1)) && (decide (decode (bts i) (pc + 9) = .ok (.athrow, 1)) && (decide (q.2.2 = 0) && (Bundle.fit q.1 && (inG (.classLink (nam i).cls ik q.1) && (inG (.initialized q.1) && (strl.any (fun z => decide (z.1 = (nam i).cls) && decide (z.2.1 = is)) && ((vx_atS (nam i).cls ic q.1 exN).all (fun w => inG w || inX w) && ((Cond.classLink (nam i).cls ik q.1 :: Cond.initialized q.1 :: vx_atS (nam i).cls ic q.1 exN).all vx_ot && (decide (tbl i = []) && (decide (6 ≤ frs i) && decide (90 ≤ lcs i)))))))))))
  | _, _, _, _ => false
/-- the word of a method's code -/
def okc (j : Nat) : Bool := inG (.codeWith (nam j) (bts j) (mxl j) (rty j) (tbl j)) || (decide (tbl j = []) && inG (.code (nam j) (bts j) (mxl j) (rty j)))
def ok_call (i pc j na kind ci : Nat) : Bool := (okc j && (inG (.initialized (nam j).cls) && (plainName (nam j).cls && (decide ((nam j).cls ≠ "java/lang/invoke/MethodHandle") && (decide ((nam j).cls ≠ "java/lang/invoke/VarHandle") && (decide (frs j + 1 ≤ frs i) && (decide (8 + (mxl j + 11) + lcs j ≤ lcs i) && decide (j < 141)))))))) && (match kind, decode (bts i) pc with
  | 0, .ok (.invokestatic idx, 3) => inG (.methodLink (nam i).cls idx (nam j)) && (inG (.static (nam j)) && decide ((parseMethodDescriptor (nam j).desc).map (fun d => d.parameters.length) = some na))
  | 1, .ok (.invokevirtual idx, 3) => (match classes[ci]? with
    | some q => inG (.methodLink (nam i).cls idx (nam j)) && (inG (.instanceMethod (nam j)) && (inG (.selects q.1 (nam j) (nam j)) && decide ((parseMethodDescriptor (nam j).desc).map (fun d => d.parameters.length + 1) = some na)))
    | none => false)
  | 2, .ok (.invokespecial idx, 3) => inG (.methodLink (nam i).cls idx (nam j)) && (inG (.instanceMethod (nam j)) && (decide ((nam j).name = "<init>") && (inG (.code (nam j) (bts j) (mxl j) none) && decide ((parseMethodDescriptor (nam j).desc).map (fun d => d.parameters.length + 1) = some na))))
  | _, _ => false)
def okx (i pc : Nat) (op : Nat × Nat × Nat × Nat × Nat) : Bool := match op with
  | (0, ci, k, _, _) => ok_get i pc ci k
  | (1, ci, k, kind, _) => ok_put i pc ci k kind
  | (2, ci, N, _, _) => ok_new i pc ci N
  | (3, t, _, _, _) => ok_anew i pc t
  | (4, ci, _, _, _) => ok_cast i pc ci
  | (5, t, _, _, _) => ok_castA i pc t
  | (6, _, _, _, _) => ok_gets i pc
  | (7, _, _, _, _) => ok_oinit i pc
  | (8, _, _, _, _) => ok_copy i pc
  | (9, _, _, _, _) => ok_copy i pc
  | (10, _, _, _, _) => ok_clone i pc
  | (11, _, _, _, _) => ok_mm i pc Lib.Math.max.name Lib.Math.max.code
  | (12, _, _, _, _) => ok_mm i pc Lib.Math.min.name Lib.Math.min.code
  | (13, _, _, _, _) => ok_getC i pc
  | (14, _, _, _, _) => ok_ldcM i pc
  | (18, x, _, _, _) => ok_ldcI i pc x
  | (15, x, g, _, _) => ok_ldc2 i pc x g
  | (16, ci, _, _, _) => ok_throw i pc ci
  | (17, j, na, kind, ci) => ok_call i pc j na kind ci
  | _ => false
/-- an answer fits the method's type -/
def okr (i : Nat) (ins : Instr) : Bool := match ins with
  | .ireturn => (match rty i with
    | some .int => true
    | some .boolean => true
    | _ => false)
  | .lreturn => decide (rty i = some .long)
  | .areturn => (match rty i with
    | some (.object _) => true
    | some (.array _) => true
    | _ => false)
  | .return_ => decide (rty i = none)
  | _ => true
def ok1 (i pc : Nat) (op : OI) (len : Nat) : Bool := match op with
  | .inl ins => okl (bts i) pc ins len && okr i ins
  | .inr x => okx i pc x
def okm (i : Nat) : Bool := (cdm i).all (fun x => ok1 i x.1 x.2.1 x.2.2)
theorem lookup_mem {α : Type} {l : List (Nat × α)} {a : Nat} {b : α} (h : l.lookup a = some b) : (a, b) ∈ l := by
  induction l with
  | nil => cases h
  | cons x r ih =>
    obtain ⟨k, y⟩ := x
    rw [List.lookup_cons] at h
    split at h
    · rename_i hk
      cases h
      have := eq_of_beq hk
      subst this
      exact List.mem_cons_self ..
    · exact List.mem_cons_of_mem _ (ih h)
theorem okm_at {i pc : Nat} {op : OI} {len : Nat} (h : okm i = true) (hc : cod i pc = some (op, len)) : ok1 i pc op len = true :=
  List.all_eq_true.mp h _ (lookup_mem hc)
/-! the classes -/
theorem cls_in : ∀ (ci : Nat) (q : vw_C), classes[ci]? = some q → ∀ w ∈ u_ws q.1 q.2.1 q.2.2, w ∈ lw_tbl := by
  intro ci q hq
  match ci, hq with
  | 0, hq => cases hq; decide +kernel
  | 1, hq => cases hq; decide +kernel
  | 2, hq => cases hq; decide +kernel
  | 3, hq => cases hq; decide +kernel
  | 4, hq => cases hq; decide +kernel
  | 5, hq => cases hq; decide +kernel
  | 6, hq => cases hq; decide +kernel
  | 7, hq => cases hq; decide +kernel
  | 8, hq => cases hq; decide +kernel
  | 9, hq => cases hq; decide +kernel
  | 10, hq => cases hq; decide +kernel
  | 11, hq => cases hq; decide +kernel
  | 12, hq => cases hq; decide +kernel
  | k + 13, hq => simp [classes] at hq
theorem cls_ty : ∀ (ci : Nat) (q : vw_C), classes[ci]? = some q → ∀ k, k < q.2.2 → parseFieldDescriptor (q.2.1 k).2.2.1 = some (tyF ci k) := by
  intro ci q hq
  match ci, hq with
  | 0, hq => cases hq; decide +kernel
  | 1, hq => cases hq; decide +kernel
  | 2, hq => cases hq; decide +kernel
  | 3, hq => cases hq; decide +kernel
  | 4, hq => cases hq; decide +kernel
  | 5, hq => cases hq; decide +kernel
  | 6, hq => cases hq; decide +kernel
  | 7, hq => cases hq; decide +kernel
  | 8, hq => cases hq; decide +kernel
  | 9, hq => cases hq; decide +kernel
  | 10, hq => cases hq; decide +kernel
  | 11, hq => cases hq; decide +kernel
  | 12, hq => cases hq; decide +kernel
  | k + 13, hq => simp [classes] at hq
theorem cls_nm : ∀ (ci : Nat) (q : vw_C), classes[ci]? = some q → ∀ a, a < q.2.2 → ∀ b, b < q.2.2 → a ≠ b → (q.2.1 a).2.1 ≠ (q.2.1 b).2.1 := by
  intro ci q hq
  match ci, hq with
  | 0, hq => cases hq; decide +kernel
  | 1, hq => cases hq; decide +kernel
  | 2, hq => cases hq; decide +kernel
  | 3, hq => cases hq; decide +kernel
  | 4, hq => cases hq; decide +kernel
  | 5, hq => cases hq; decide +kernel
  | 6, hq => cases hq; decide +kernel
  | 7, hq => cases hq; decide +kernel
  | 8, hq => cases hq; decide +kernel
  | 9, hq => cases hq; decide +kernel
  | 10, hq => cases hq; decide +kernel
  | 11, hq => cases hq; decide +kernel
  | 12, hq => cases hq; decide +kernel
  | k + 13, hq => simp [classes] at hq
theorem cls_ca : ∀ (ci : Nat) (q : vw_C), ci < 8 → classes[ci]? = some q → inX (.castable q.1 "java/lang/Object") = true := by
  intro ci q h8 hq
  match ci, hq with
  | 0, hq => cases hq; decide +kernel
  | 1, hq => cases hq; decide +kernel
  | 2, hq => cases hq; decide +kernel
  | 3, hq => cases hq; decide +kernel
  | 4, hq => cases hq; decide +kernel
  | 5, hq => cases hq; decide +kernel
  | 6, hq => cases hq; decide +kernel
  | 7, hq => cases hq; decide +kernel
  | k + 8, hq => omega
end
section
theorem okm_0 : okm 0 = true := by decide +kernel
theorem okm_1 : okm 1 = true := by decide +kernel
theorem okm_2 : okm 2 = true := by decide +kernel
theorem okm_3 : okm 3 = true := by decide +kernel
theorem okm_4 : okm 4 = true := by decide +kernel
theorem okm_5 : okm 5 = true := by decide +kernel
theorem okm_6 : okm 6 = true := by decide +kernel
theorem okm_7 : okm 7 = true := by decide +kernel
theorem okm_8 : okm 8 = true := by decide +kernel
theorem okm_9 : okm 9 = true := by decide +kernel
theorem okm_10 : okm 10 = true := by decide +kernel
theorem okm_11 : okm 11 = true := by decide +kernel
theorem okm_12 : okm 12 = true := by decide +kernel
theorem okm_13 : okm 13 = true := by decide +kernel
theorem okm_14 : okm 14 = true := by decide +kernel
theorem okm_15 : okm 15 = true := by decide +kernel
theorem okm_16 : okm 16 = true := by decide +kernel
theorem okm_17 : okm 17 = true := by decide +kernel
theorem okm_18 : okm 18 = true := by decide +kernel
theorem okm_19 : okm 19 = true := by decide +kernel
theorem okm_20 : okm 20 = true := by decide +kernel
theorem okm_21 : okm 21 = true := by decide +kernel
theorem okm_22 : okm 22 = true := by decide +kernel
theorem okm_23 : okm 23 = true := by decide +kernel
theorem okm_24 : okm 24 = true := by decide +kernel
theorem okm_25 : okm 25 = true := by decide +kernel
theorem okm_26 : okm 26 = true := by decide +kernel
theorem okm_27 : okm 27 = true := by decide +kernel
theorem okm_28 : okm 28 = true := by decide +kernel
theorem okm_29 : okm 29 = true := by decide +kernel
theorem okm_30 : okm 30 = true := by decide +kernel
theorem okm_31 : okm 31 = true := by decide +kernel
theorem okm_32 : okm 32 = true := by decide +kernel
theorem okm_33 : okm 33 = true := by decide +kernel
theorem okm_34 : okm 34 = true := by decide +kernel
theorem okm_35 : okm 35 = true := by decide +kernel
theorem okm_36 : okm 36 = true := by decide +kernel
theorem okm_37 : okm 37 = true := by decide +kernel
theorem okm_38 : okm 38 = true := by decide +kernel
theorem okm_39 : okm 39 = true := by decide +kernel
theorem okm_40 : okm 40 = true := by decide +kernel
theorem okm_41 : okm 41 = true := by decide +kernel
theorem okm_42 : okm 42 = true := by decide +kernel
theorem okm_43 : okm 43 = true := by decide +kernel
theorem okm_44 : okm 44 = true := by decide +kernel
theorem okm_45 : okm 45 = true := by decide +kernel
theorem okm_46 : okm 46 = true := by decide +kernel
theorem okm_47 : okm 47 = true := by decide +kernel
theorem okm_48 : okm 48 = true := by decide +kernel
theorem okm_49 : okm 49 = true := by decide +kernel
end
section
theorem okm_50 : okm 50 = true := by decide +kernel
theorem okm_51 : okm 51 = true := by decide +kernel
theorem okm_52 : okm 52 = true := by decide +kernel
theorem okm_53 : okm 53 = true := by decide +kernel
theorem okm_54 : okm 54 = true := by decide +kernel
theorem okm_55 : okm 55 = true := by decide +kernel
theorem okm_56 : okm 56 = true := by decide +kernel
theorem okm_57 : okm 57 = true := by decide +kernel
theorem okm_58 : okm 58 = true := by decide +kernel
theorem okm_59 : okm 59 = true := by decide +kernel
theorem okm_60 : okm 60 = true := by decide +kernel
theorem okm_61 : okm 61 = true := by decide +kernel
theorem okm_62 : okm 62 = true := by decide +kernel
theorem okm_63 : okm 63 = true := by decide +kernel
theorem okm_64 : okm 64 = true := by decide +kernel
theorem okm_65 : okm 65 = true := by decide +kernel
theorem okm_66 : okm 66 = true := by decide +kernel
theorem okm_67 : okm 67 = true := by decide +kernel
theorem okm_68 : okm 68 = true := by decide +kernel
theorem okm_69 : okm 69 = true := by decide +kernel
theorem okm_70 : okm 70 = true := by decide +kernel
theorem okm_71 : okm 71 = true := by decide +kernel
theorem okm_72 : okm 72 = true := by decide +kernel
theorem okm_73 : okm 73 = true := by decide +kernel
theorem okm_74 : okm 74 = true := by decide +kernel
theorem okm_75 : okm 75 = true := by decide +kernel
theorem okm_76 : okm 76 = true := by decide +kernel
theorem okm_77 : okm 77 = true := by decide +kernel
theorem okm_78 : okm 78 = true := by decide +kernel
theorem okm_79 : okm 79 = true := by decide +kernel
theorem okm_80 : okm 80 = true := by decide +kernel
theorem okm_81 : okm 81 = true := by decide +kernel
theorem okm_82 : okm 82 = true := by decide +kernel
theorem okm_83 : okm 83 = true := by decide +kernel
theorem okm_84 : okm 84 = true := by decide +kernel
theorem okm_85 : okm 85 = true := by decide +kernel
theorem okm_86 : okm 86 = true := by decide +kernel
theorem okm_87 : okm 87 = true := by decide +kernel
theorem okm_88 : okm 88 = true := by decide +kernel
theorem okm_89 : okm 89 = true := by decide +kernel
theorem okm_90 : okm 90 = true := by decide +kernel
theorem okm_91 : okm 91 = true := by decide +kernel
theorem okm_92 : okm 92 = true := by decide +kernel
theorem okm_93 : okm 93 = true := by decide +kernel
theorem okm_94 : okm 94 = true := by decide +kernel
theorem okm_95 : okm 95 = true := by decide +kernel
theorem okm_96 : okm 96 = true := by decide +kernel
theorem okm_97 : okm 97 = true := by decide +kernel
theorem okm_98 : okm 98 = true := by decide +kernel
theorem okm_99 : okm 99 = true := by decide +kernel
theorem okm_100 : okm 100 = true := by decide +kernel
end
section
theorem okm_101 : okm 101 = true := by decide +kernel
theorem okm_102 : okm 102 = true := by decide +kernel
theorem okm_103 : okm 103 = true := by decide +kernel
theorem okm_104 : okm 104 = true := by decide +kernel
theorem okm_105 : okm 105 = true := by decide +kernel
theorem okm_106 : okm 106 = true := by decide +kernel
theorem okm_107 : okm 107 = true := by decide +kernel
theorem okm_108 : okm 108 = true := by decide +kernel
theorem okm_109 : okm 109 = true := by decide +kernel
theorem okm_110 : okm 110 = true := by decide +kernel
theorem okm_111 : okm 111 = true := by decide +kernel
theorem okm_112 : okm 112 = true := by decide +kernel
theorem okm_113 : okm 113 = true := by decide +kernel
theorem okm_114 : okm 114 = true := by decide +kernel
theorem okm_115 : okm 115 = true := by decide +kernel
theorem okm_116 : okm 116 = true := by decide +kernel
theorem okm_117 : okm 117 = true := by decide +kernel
theorem okm_118 : okm 118 = true := by decide +kernel
theorem okm_119 : okm 119 = true := by decide +kernel
theorem okm_120 : okm 120 = true := by decide +kernel
theorem okm_121 : okm 121 = true := by decide +kernel
theorem okm_122 : okm 122 = true := by decide +kernel
theorem okm_123 : okm 123 = true := by decide +kernel
theorem okm_124 : okm 124 = true := by decide +kernel
theorem okm_125 : okm 125 = true := by decide +kernel
theorem okm_126 : okm 126 = true := by decide +kernel
theorem okm_127 : okm 127 = true := by decide +kernel
theorem okm_128 : okm 128 = true := by decide +kernel
theorem okm_129 : okm 129 = true := by decide +kernel
theorem okm_130 : okm 130 = true := by decide +kernel
theorem okm_131 : okm 131 = true := by decide +kernel
theorem okm_132 : okm 132 = true := by decide +kernel
theorem okm_133 : okm 133 = true := by decide +kernel
theorem okm_134 : okm 134 = true := by decide +kernel
theorem okm_135 : okm 135 = true := by decide +kernel
theorem okm_136 : okm 136 = true := by decide +kernel
theorem okm_137 : okm 137 = true := by decide +kernel
theorem okm_138 : okm 138 = true := by decide +kernel
theorem okm_139 : okm 139 = true := by decide +kernel
end
section
theorem okl_0 : ((cdm 140).drop 0 |>.take 60).all (fun x => ok1 140 x.1 x.2.1 x.2.2) = true := by decide +kernel
theorem okl_60 : ((cdm 140).drop 60 |>.take 60).all (fun x => ok1 140 x.1 x.2.1 x.2.2) = true := by decide +kernel
theorem okl_120 : ((cdm 140).drop 120 |>.take 60).all (fun x => ok1 140 x.1 x.2.1 x.2.2) = true := by decide +kernel
theorem okl_180 : ((cdm 140).drop 180 |>.take 60).all (fun x => ok1 140 x.1 x.2.1 x.2.2) = true := by decide +kernel
theorem okl_240 : ((cdm 140).drop 240 |>.take 60).all (fun x => ok1 140 x.1 x.2.1 x.2.2) = true := by decide +kernel
theorem okl_300 : ((cdm 140).drop 300 |>.take 60).all (fun x => ok1 140 x.1 x.2.1 x.2.2) = true := by decide +kernel
theorem okl_360 : ((cdm 140).drop 360 |>.take 60).all (fun x => ok1 140 x.1 x.2.1 x.2.2) = true := by decide +kernel
theorem okl_420 : ((cdm 140).drop 420 |>.take 60).all (fun x => ok1 140 x.1 x.2.1 x.2.2) = true := by decide +kernel
theorem okl_480 : ((cdm 140).drop 480 |>.take 60).all (fun x => ok1 140 x.1 x.2.1 x.2.2) = true := by decide +kernel
theorem okl_540 : ((cdm 140).drop 540 |>.take 60).all (fun x => ok1 140 x.1 x.2.1 x.2.2) = true := by decide +kernel
theorem okl_600 : ((cdm 140).drop 600 |>.take 60).all (fun x => ok1 140 x.1 x.2.1 x.2.2) = true := by decide +kernel
theorem okl_660 : ((cdm 140).drop 660 |>.take 60).all (fun x => ok1 140 x.1 x.2.1 x.2.2) = true := by decide +kernel
theorem all_cut {α : Type} {l : List α} {f : α → Bool} (n : Nat) (h1 : (l.take n).all f = true) (h2 : (l.drop n).all f = true) : l.all f = true := by
  rw [← List.take_append_drop n l, List.all_append, h1, h2]
  rfl
theorem okd_660 : ((cdm 140).drop 660).all (fun x => ok1 140 x.1 x.2.1 x.2.2) = true := all_cut 60 okl_660 (by decide +kernel)
theorem okd_600 : ((cdm 140).drop 600).all (fun x => ok1 140 x.1 x.2.1 x.2.2) = true := all_cut 60 okl_600 (by rw [List.drop_drop]; exact okd_660)
theorem okd_540 : ((cdm 140).drop 540).all (fun x => ok1 140 x.1 x.2.1 x.2.2) = true := all_cut 60 okl_540 (by rw [List.drop_drop]; exact okd_600)
theorem okd_480 : ((cdm 140).drop 480).all (fun x => ok1 140 x.1 x.2.1 x.2.2) = true := all_cut 60 okl_480 (by rw [List.drop_drop]; exact okd_540)
theorem okd_420 : ((cdm 140).drop 420).all (fun x => ok1 140 x.1 x.2.1 x.2.2) = true := all_cut 60 okl_420 (by rw [List.drop_drop]; exact okd_480)
theorem okd_360 : ((cdm 140).drop 360).all (fun x => ok1 140 x.1 x.2.1 x.2.2) = true := all_cut 60 okl_360 (by rw [List.drop_drop]; exact okd_420)
theorem okd_300 : ((cdm 140).drop 300).all (fun x => ok1 140 x.1 x.2.1 x.2.2) = true := all_cut 60 okl_300 (by rw [List.drop_drop]; exact okd_360)
theorem okd_240 : ((cdm 140).drop 240).all (fun x => ok1 140 x.1 x.2.1 x.2.2) = true := all_cut 60 okl_240 (by rw [List.drop_drop]; exact okd_300)
theorem okd_180 : ((cdm 140).drop 180).all (fun x => ok1 140 x.1 x.2.1 x.2.2) = true := all_cut 60 okl_180 (by rw [List.drop_drop]; exact okd_240)
theorem okd_120 : ((cdm 140).drop 120).all (fun x => ok1 140 x.1 x.2.1 x.2.2) = true := all_cut 60 okl_120 (by rw [List.drop_drop]; exact okd_180)
theorem okd_60 : ((cdm 140).drop 60).all (fun x => ok1 140 x.1 x.2.1 x.2.2) = true := all_cut 60 okl_60 (by rw [List.drop_drop]; exact okd_120)
theorem okd_0 : ((cdm 140).drop 0).all (fun x => ok1 140 x.1 x.2.1 x.2.2) = true := all_cut 60 okl_0 (by rw [List.drop_drop]; exact okd_60)
theorem okm_140 : okm 140 = true := okd_0
theorem okm_all : ∀ i, i < 141 → okm i = true := by
  intro i hi
  match i, hi with
  | 0, _ => exact okm_0
  | 1, _ => exact okm_1
  | 2, _ => exact okm_2
  | 3, _ => exact okm_3
  | 4, _ => exact okm_4
  | 5, _ => exact okm_5
  | 6, _ => exact okm_6
  | 7, _ => exact okm_7
  | 8, _ => exact okm_8
  | 9, _ => exact okm_9
  | 10, _ => exact okm_10
  | 11, _ => exact okm_11
  | 12, _ => exact okm_12
  | 13, _ => exact okm_13
  | 14, _ => exact okm_14
  | 15, _ => exact okm_15
  | 16, _ => exact okm_16
  | 17, _ => exact okm_17
  | 18, _ => exact okm_18
  | 19, _ => exact okm_19
  | 20, _ => exact okm_20
  | 21, _ => exact okm_21
  | 22, _ => exact okm_22
  | 23, _ => exact okm_23
  | 24, _ => exact okm_24
  | 25, _ => exact okm_25
  | 26, _ => exact okm_26
  | 27, _ => exact okm_27
  | 28, _ => exact okm_28
  | 29, _ => exact okm_29
  | 30, _ => exact okm_30
  | 31, _ => exact okm_31
  | 32, _ => exact okm_32
  | 33, _ => exact okm_33
  | 34, _ => exact okm_34
  | 35, _ => exact okm_35
  | 36, _ => exact okm_36
  | 37, _ => exact okm_37
  | 38, _ => exact okm_38
  | 39, _ => exact okm_39
  | 40, _ => exact okm_40
  | 41, _ => exact okm_41
  | 42, _ => exact okm_42
  | 43, _ => exact okm_43
  | 44, _ => exact okm_44
  | 45, _ => exact okm_45
  | 46, _ => exact okm_46
  | 47, _ => exact okm_47
  | 48, _ => exact okm_48
  | 49, _ => exact okm_49
  | 50, _ => exact okm_50
  | 51, _ => exact okm_51
  | 52, _ => exact okm_52
  | 53, _ => exact okm_53
  | 54, _ => exact okm_54
  | 55, _ => exact okm_55
  | 56, _ => exact okm_56
  | 57, _ => exact okm_57
  | 58, _ => exact okm_58
  | 59, _ => exact okm_59
  | 60, _ => exact okm_60
  | 61, _ => exact okm_61
  | 62, _ => exact okm_62
  | 63, _ => exact okm_63
  | 64, _ => exact okm_64
  | 65, _ => exact okm_65
  | 66, _ => exact okm_66
  | 67, _ => exact okm_67
  | 68, _ => exact okm_68
  | 69, _ => exact okm_69
  | 70, _ => exact okm_70
  | 71, _ => exact okm_71
  | 72, _ => exact okm_72
  | 73, _ => exact okm_73
  | 74, _ => exact okm_74
  | 75, _ => exact okm_75
  | 76, _ => exact okm_76
  | 77, _ => exact okm_77
  | 78, _ => exact okm_78
  | 79, _ => exact okm_79
  | 80, _ => exact okm_80
  | 81, _ => exact okm_81
  | 82, _ => exact okm_82
  | 83, _ => exact okm_83
  | 84, _ => exact okm_84
  | 85, _ => exact okm_85
  | 86, _ => exact okm_86
  | 87, _ => exact okm_87
  | 88, _ => exact okm_88
  | 89, _ => exact okm_89
  | 90, _ => exact okm_90
  | 91, _ => exact okm_91
  | 92, _ => exact okm_92
  | 93, _ => exact okm_93
  | 94, _ => exact okm_94
  | 95, _ => exact okm_95
  | 96, _ => exact okm_96
  | 97, _ => exact okm_97
  | 98, _ => exact okm_98
  | 99, _ => exact okm_99
  | 100, _ => exact okm_100
  | 101, _ => exact okm_101
  | 102, _ => exact okm_102
  | 103, _ => exact okm_103
  | 104, _ => exact okm_104
  | 105, _ => exact okm_105
  | 106, _ => exact okm_106
  | 107, _ => exact okm_107
  | 108, _ => exact okm_108
  | 109, _ => exact okm_109
  | 110, _ => exact okm_110
  | 111, _ => exact okm_111
  | 112, _ => exact okm_112
  | 113, _ => exact okm_113
  | 114, _ => exact okm_114
  | 115, _ => exact okm_115
  | 116, _ => exact okm_116
  | 117, _ => exact okm_117
  | 118, _ => exact okm_118
  | 119, _ => exact okm_119
  | 120, _ => exact okm_120
  | 121, _ => exact okm_121
  | 122, _ => exact okm_122
  | 123, _ => exact okm_123
  | 124, _ => exact okm_124
  | 125, _ => exact okm_125
  | 126, _ => exact okm_126
  | 127, _ => exact okm_127
  | 128, _ => exact okm_128
  | 129, _ => exact okm_129
  | 130, _ => exact okm_130
  | 131, _ => exact okm_131
  | 132, _ => exact okm_132
  | 133, _ => exact okm_133
  | 134, _ => exact okm_134
  | 135, _ => exact okm_135
  | 136, _ => exact okm_136
  | 137, _ => exact okm_137
  | 138, _ => exact okm_138
  | 139, _ => exact okm_139
  | 140, _ => exact okm_140
  | i + 141, h => omega
end
section
/-! THE ABSTRACT MACHINE (my own): ints and longs are Int, references are addresses, a heap is a function from addresses to cells. -/
abbrev AV : Type := Int ⊕ (Int ⊕ Option Nat)
abbrev aI (i : Int) : AV := Sum.inl i
abbrev aL (i : Int) : AV := Sum.inr (Sum.inl i)
abbrev aQ (r : Option Nat) : AV := Sum.inr (Sum.inr r)
abbrev aR (a : Nat) : AV := Sum.inr (Sum.inr (some a))
abbrev aN : AV := Sum.inr (Sum.inr none)
abbrev AA : Type := (Nat → Int) ⊕ ((Nat → Int) ⊕ (Nat → Option Nat))
abbrev AE : Type := (Nat × Nat × AA) ⊕ (Nat × List AV)
/-- cells, the next address, slots made so far, the address of the empty list's array, the address of Object[]'s class object -/
abbrev AH : Type := (Nat → Option AE) × Nat × Nat × Nat × Nat
abbrev AL : Type := List (Option AV)
abbrev AR : Type := Option AV ⊕ (Nat × Nat)
/-- what an instruction does: goes on; ends (answer, or the class and the address of what is thrown); calls (method, arguments, the pc behind it, the stack below) -/
abbrev Act : Type := Option ((Nat × AL × List AV × AH) ⊕ ((AR × AH) ⊕ (Nat × List AV × Nat × List AV)))
abbrev Nx : Type := Option (Nat × AL × List AV × AH)
abbrev inR (x : Int) : Prop := -2147483648 ≤ x ∧ x < 2147483648
abbrev inL (x : Int) : Prop := -9223372036854775808 ≤ x ∧ x < 9223372036854775808
def nx (pc : Nat) (L : AL) (st : List AV) (h : AH) : Nx := some (pc, L, st, h)
def wrp (x : Nx) : Act := match x with
  | some y => some (.inl y)
  | none => none
def fin (r : AR) (h : AH) : Act := some (.inr (.inl (r, h)))
/-- one cell of the heap changed -/
def up {α : Type} (f : Nat → α) (k : Nat) (x : α) : Nat → α := fun j => if j = k then x else f j
def hput (h : AH) (a : Nat) (e : AE) : AH := (up h.1 a (some e), h.2)
def hnew (h : AH) (e : AE) (k : Nat) : AH := (up h.1 h.2.1 (some e), h.2.1 + 1, h.2.2.1 + k, h.2.2.2)
def lng (v : Option (Option AV)) : Bool := match v with
  | some (some (.inr (.inl _))) => true
  | _ => false
def sto (L : AL) (k : Nat) (v : AV) : Option AL :=
  if k < L.length then (match k with
    | 0 => some (L.set 0 (some v))
    | j + 1 => if lng L[j]? then none else some (L.set (j + 1) (some v))) else none
def stoL (L : AL) (k : Nat) (v : AV) : Option AL :=
  if k + 1 < L.length then (match k with
    | 0 => some ((L.set 0 (some v)).set 1 none)
    | j + 1 => if lng L[j]? then none else some ((L.set (j + 1) (some v)).set (j + 2) none)) else none
def laid : List AV → AL
  | [] => []
  | .inl x :: r => some (.inl x) :: laid r
  | .inr (.inl x) :: r => some (.inr (.inl x)) :: none :: laid r
  | .inr (.inr x) :: r => some (.inr (.inr x)) :: laid r
def cmpI (c : ClassFile.Cond) (x y : Int) : Bool := match c with
  | .eq => decide (x = y)
  | .ne => !decide (x = y)
  | .lt => decide (x < y)
  | .ge => decide (y ≤ x)
  | .gt => decide (y < x)
  | .le => decide (x ≤ y)
def tg (pc : Nat) (off : Int) : Nat := ((pc : Int) + off).toNat
/-- the instructions that need no table -/
def o_ldI (k pc : Nat) (L : AL) (st : List AV) (h : AH) : Nx := match L[k]? with
  | some (some (.inl x)) => nx pc L (aI x :: st) h
  | _ => none
def o_ldL (k pc : Nat) (L : AL) (st : List AV) (h : AH) : Nx := match L[k]? with
  | some (some (.inr (.inl x))) => nx pc L (aL x :: st) h
  | _ => none
def o_ldA (k pc : Nat) (L : AL) (st : List AV) (h : AH) : Nx := match L[k]? with
  | some (some (.inr (.inr x))) => nx pc L (aQ x :: st) h
  | _ => none
def o_stI (k pc : Nat) (L : AL) (st : List AV) (h : AH) : Nx := match st with
  | .inl x :: r => (match sto L k (aI x) with
    | some L' => nx pc L' r h
    | none => none)
  | _ => none
def o_stL (k pc : Nat) (L : AL) (st : List AV) (h : AH) : Nx := match st with
  | .inr (.inl x) :: r => (match stoL L k (aL x) with
    | some L' => nx pc L' r h
    | none => none)
  | _ => none
def o_stA (k pc : Nat) (L : AL) (st : List AV) (h : AH) : Nx := match st with
  | .inr (.inr x) :: r => (match sto L k (aQ x) with
    | some L' => nx pc L' r h
    | none => none)
  | _ => none
def o_inc (k : Nat) (n : Int) (pc : Nat) (L : AL) (st : List AV) (h : AH) : Nx := match L[k]? with
  | some (some (.inl x)) => (match sto L k (aI (x + n)) with
    | some L' => nx pc L' st h
    | none => none)
  | _ => none
def o_bin (f : Int → Int → Int) (pc : Nat) (L : AL) (st : List AV) (h : AH) : Nx := match st with
  | .inl y :: .inl x :: r => nx pc L (aI (f x y) :: r) h
  | _ => none
def o_div (pc : Nat) (L : AL) (st : List AV) (h : AH) : Nx := match st with
  | .inl y :: .inl x :: r => if inR x ∧ inR y ∧ 0 < y then nx pc L (aI (x.tdiv y) :: r) h else none
  | _ => none
def o_binL (f : Int → Int → Int) (pc : Nat) (L : AL) (st : List AV) (h : AH) : Nx := match st with
  | .inr (.inl y) :: .inr (.inl x) :: r => nx pc L (aL (f x y) :: r) h
  | _ => none
def f_lshl (x y : Int) : Int := (Int64.ofInt x <<< ((Int32.ofInt y).toInt64 &&& 63)).toInt
def o_lshl (pc : Nat) (L : AL) (st : List AV) (h : AH) : Nx := match st with
  | .inl y :: .inr (.inl x) :: r => nx pc L (aL (f_lshl x y) :: r) h
  | _ => none
def o_i2l (pc : Nat) (L : AL) (st : List AV) (h : AH) : Nx := match st with
  | .inl x :: r => if inR x then nx pc L (aL x :: r) h else none
  | _ => none
def o_l2i (pc : Nat) (L : AL) (st : List AV) (h : AH) : Nx := match st with
  | .inr (.inl x) :: r => nx pc L (aI x :: r) h
  | _ => none
def o_lcmp (pc : Nat) (L : AL) (st : List AV) (h : AH) : Nx := match st with
  | .inr (.inl y) :: .inr (.inl x) :: r => if inL x ∧ inL y then nx pc L (aI (if x < y then -1 else if x = y then 0 else 1) :: r) h else none
  | _ => none
def one (v : AV) : Bool := match v with
  | .inr (.inl _) => false
  | _ => true
def o_dup (pc : Nat) (L : AL) (st : List AV) (h : AH) : Nx := match st with
  | v :: r => if one v then nx pc L (v :: v :: r) h else none
  | _ => none
def o_pop (pc : Nat) (L : AL) (st : List AV) (h : AH) : Nx := match st with
  | v :: r => if one v then nx pc L r h else none
  | _ => none
def o_dupx1 (pc : Nat) (L : AL) (st : List AV) (h : AH) : Nx := match st with
  | v :: w :: r => if one v && one w then nx pc L (v :: w :: v :: r) h else none
  | _ => none
def o_dup2 (pc : Nat) (L : AL) (st : List AV) (h : AH) : Nx := match st with
  | v :: w :: r => if one v && one w then nx pc L (v :: w :: v :: w :: r) h else none
  | _ => none
def o_if (c : ClassFile.Cond) (t pc : Nat) (L : AL) (st : List AV) (h : AH) : Nx := match st with
  | .inl x :: r => if inR x then (if cmpI c x 0 then nx t L r h else nx pc L r h) else none
  | _ => none
def o_icmp (c : ClassFile.Cond) (t pc : Nat) (L : AL) (st : List AV) (h : AH) : Nx := match st with
  | .inl y :: .inl x :: r => if inR x ∧ inR y then (if cmpI c x y then nx t L r h else nx pc L r h) else none
  | _ => none
def o_acmp (c : ACond) (t pc : Nat) (L : AL) (st : List AV) (h : AH) : Nx := match st with
  | .inr (.inr y) :: .inr (.inr x) :: r => (match c with
    | .eq => if decide (x = y) then nx t L r h else nx pc L r h
    | .ne => if decide (x = y) then nx pc L r h else nx t L r h)
  | _ => none
def o_null (b : Bool) (t pc : Nat) (L : AL) (st : List AV) (h : AH) : Nx := match st with
  | .inr (.inr none) :: r => if b then nx t L r h else nx pc L r h
  | .inr (.inr (some _)) :: r => if b then nx pc L r h else nx t L r h
  | _ => none
def o_tab (d lo hi : Int) (offs : Array Int) (pc : Nat) (L : AL) (st : List AV) (h : AH) : Nx := match st with
  | .inl x :: r => if inR x then (if x < lo ∨ hi < x then nx (tg pc d) L r h else (match offs[(x - lo).toNat]? with
    | some o => nx (tg pc o) L r h
    | none => none)) else none
  | _ => none
def o_alen (pc : Nat) (L : AL) (st : List AV) (h : AH) : Nx := match st with
  | .inr (.inr (some a)) :: r => (match h.1 a with
    | some (.inl (_, n, _)) => nx pc L (aI n :: r) h
    | _ => none)
  | _ => none
def o_iald (pc : Nat) (L : AL) (st : List AV) (h : AH) : Nx := match st with
  | .inl i :: .inr (.inr (some a)) :: r => (match h.1 a with
    | some (.inl (t, n, .inl F)) => if (t = 0 ∨ t = 9) ∧ 0 ≤ i ∧ i < n then nx pc L (aI (F i.toNat) :: r) h else none
    | _ => none)
  | _ => none
def o_bald (pc : Nat) (L : AL) (st : List AV) (h : AH) : Nx := match st with
  | .inl i :: .inr (.inr (some a)) :: r => (match h.1 a with
    | some (.inl (t, n, .inl F)) => if t = 2 ∧ 0 ≤ i ∧ i < n then nx pc L (aI (F i.toNat) :: r) h else none
    | _ => none)
  | _ => none
def o_lald (pc : Nat) (L : AL) (st : List AV) (h : AH) : Nx := match st with
  | .inl i :: .inr (.inr (some a)) :: r => (match h.1 a with
    | some (.inl (1, n, .inr (.inl F))) => if 0 ≤ i ∧ i < n then nx pc L (aL (F i.toNat) :: r) h else none
    | _ => none)
  | _ => none
def o_aald (pc : Nat) (L : AL) (st : List AV) (h : AH) : Nx := match st with
  | .inl i :: .inr (.inr (some a)) :: r => (match h.1 a with
    | some (.inl (t, n, .inr (.inr F))) => if (t = 3 ∨ t = 4) ∧ 0 ≤ i ∧ i < n then nx pc L (aQ (F i.toNat) :: r) h else none
    | _ => none)
  | _ => none
def o_iast (pc : Nat) (L : AL) (st : List AV) (h : AH) : Nx := match st with
  | .inl x :: .inl i :: .inr (.inr (some a)) :: r => (match h.1 a with
    | some (.inl (t, n, .inl F)) => if t = 0 ∧ 0 ≤ i ∧ i < n then nx pc L r (hput h a (.inl (t, n, .inl (up F i.toNat x)))) else none
    | _ => none)
  | _ => none
def o_bast (pc : Nat) (L : AL) (st : List AV) (h : AH) : Nx := match st with
  | .inl x :: .inl i :: .inr (.inr (some a)) :: r => (match h.1 a with
    | some (.inl (t, n, .inl F)) => if (t = 2 ∧ (x = 0 ∨ x = 1)) ∧ 0 ≤ i ∧ i < n then nx pc L r (hput h a (.inl (t, n, .inl (up F i.toNat x)))) else none
    | _ => none)
  | _ => none
def o_last (pc : Nat) (L : AL) (st : List AV) (h : AH) : Nx := match st with
  | .inr (.inl x) :: .inl i :: .inr (.inr (some a)) :: r => (match h.1 a with
    | some (.inl (1, n, .inr (.inl F))) => if 0 ≤ i ∧ i < n then nx pc L r (hput h a (.inl (1, n, .inr (.inl (up F i.toNat x))))) else none
    | _ => none)
  | _ => none
/-- may this reference lie in an array of the type t: Site (class 3) in its own, any object in Object's -/
def o_may (t : Nat) (x : Option Nat) (h : AH) : Bool := match x with
  | none => true
  | some b => (match h.1 b with
    | some (.inr (ci, _)) => (t == 4 && decide (ci < 8)) || (t == 3 && ci == ciSite)
    | _ => false)
def o_aast (pc : Nat) (L : AL) (st : List AV) (h : AH) : Nx := match st with
  | .inr (.inr x) :: .inl i :: .inr (.inr (some a)) :: r => (match h.1 a with
    | some (.inl (t, n, .inr (.inr F))) => if (t = 3 ∨ t = 4) ∧ 0 ≤ i ∧ i < n ∧ o_may t x h = true then nx pc L r (hput h a (.inl (t, n, .inr (.inr (up F i.toNat x))))) else none
    | _ => none)
  | _ => none
def o_newa (at_ : ArrayType) (pc : Nat) (L : AL) (st : List AV) (h : AH) : Nx := match st with
  | .inl n :: r => if 0 ≤ n ∧ n ≤ 1048576 then (match at_ with
    | .int => nx pc L (aR h.2.1 :: r) (hnew h (.inl (0, n.toNat, .inl (fun _ => 0))) n.toNat)
    | .long => nx pc L (aR h.2.1 :: r) (hnew h (.inl (1, n.toNat, .inr (.inl (fun _ => 0)))) n.toNat)
    | .boolean => nx pc L (aR h.2.1 :: r) (hnew h (.inl (2, n.toNat, .inl (fun _ => 0))) n.toNat)
    | _ => none) else none
  | _ => none
def o_ret (b : Bool) (st : List AV) (h : AH) : Act := match st with
  | [.inl x] => if b then (if x = 0 ∨ x = 1 then fin (.inl (some (aI x))) h else none) else fin (.inl (some (aI x))) h
  | _ => none
def o_lret (st : List AV) (h : AH) : Act := match st with
  | [.inr (.inl x)] => fin (.inl (some (aL x))) h
  | _ => none
def o_aret (st : List AV) (h : AH) : Act := match st with
  | [.inr (.inr x)] => fin (.inl (some (aQ x))) h
  | _ => none
def o_vret (st : List AV) (h : AH) : Act := match st with
  | [] => fin (.inl none) h
  | _ => none
def f_and (x y : Int) : Int := (Int32.ofInt x &&& Int32.ofInt y).toInt
def f_shr (x y : Int) : Int := (Int32.ofInt x >>> (Int32.ofInt y &&& 31)).toInt
def f_land (x y : Int) : Int := (Int64.ofInt x &&& Int64.ofInt y).toInt
def f_lor (x y : Int) : Int := (Int64.ofInt x ||| Int64.ofInt y).toInt
def stl (ins : Instr) (pc len : Nat) (L : AL) (st : List AV) (h : AH) : Nx := match ins with
  | .iconst n => nx (pc + len) L (aI n :: st) h
  | .bipush n => nx (pc + len) L (aI n :: st) h
  | .sipush n => nx (pc + len) L (aI n :: st) h
  | .lconst n => nx (pc + len) L (aL ((n : Nat) : Int) :: st) h
  | .aconst_null => nx (pc + len) L (aN :: st) h
  | .iload k => o_ldI k (pc + len) L st h
  | .iload_n k => o_ldI k.val (pc + len) L st h
  | .lload k => o_ldL k (pc + len) L st h
  | .lload_n k => o_ldL k.val (pc + len) L st h
  | .aload k => o_ldA k (pc + len) L st h
  | .aload_n k => o_ldA k.val (pc + len) L st h
  | .istore k => o_stI k (pc + len) L st h
  | .istore_n k => o_stI k.val (pc + len) L st h
  | .lstore k => o_stL k (pc + len) L st h
  | .lstore_n k => o_stL k.val (pc + len) L st h
  | .astore k => o_stA k (pc + len) L st h
  | .astore_n k => o_stA k.val (pc + len) L st h
  | .iinc k n => o_inc k n (pc + len) L st h
  | .iadd => o_bin (fun x y => x + y) (pc + len) L st h
  | .isub => o_bin (fun x y => x - y) (pc + len) L st h
  | .imul => o_bin (fun x y => x * y) (pc + len) L st h
  | .iand => o_bin f_and (pc + len) L st h
  | .ishr => o_bin f_shr (pc + len) L st h
  | .idiv => o_div (pc + len) L st h
  | .land => o_binL f_land (pc + len) L st h
  | .lor => o_binL f_lor (pc + len) L st h
  | .lshl => o_lshl (pc + len) L st h
  | .i2l => o_i2l (pc + len) L st h
  | .l2i => o_l2i (pc + len) L st h
  | .lcmp => o_lcmp (pc + len) L st h
  | .dup => o_dup (pc + len) L st h
  | .pop => o_pop (pc + len) L st h
  | .dup_x1 => o_dupx1 (pc + len) L st h
  | .dup2 => o_dup2 (pc + len) L st h
  | .ifCond c off => o_if c (tg pc off) (pc + len) L st h
  | .if_icmp c off => o_icmp c (tg pc off) (pc + len) L st h
  | .if_acmp c off => o_acmp c (tg pc off) (pc + len) L st h
  | .ifnull off => o_null true (tg pc off) (pc + len) L st h
  | .ifnonnull off => o_null false (tg pc off) (pc + len) L st h
  | .goto off => nx (tg pc off) L st h
  | .tableswitch d lo hi offs => o_tab d lo hi offs pc L st h
  | .arraylength => o_alen (pc + len) L st h
  | .iaload => o_iald (pc + len) L st h
  | .baload => o_bald (pc + len) L st h
  | .laload => o_lald (pc + len) L st h
  | .aaload => o_aald (pc + len) L st h
  | .iastore => o_iast (pc + len) L st h
  | .bastore => o_bast (pc + len) L st h
  | .lastore => o_last (pc + len) L st h
  | .aastore => o_aast (pc + len) L st h
  | .newarray t => o_newa t (pc + len) L st h
  | _ => none
/-! the instructions that need the tables -/
def o_get (ci k pc : Nat) (L : AL) (st : List AV) (h : AH) : Nx := match st with
  | .inr (.inr (some a)) :: r => (match h.1 a with
    | some (.inr (c, fs)) => if c = ci then (match fs[k]? with
      | some w => nx pc L (w :: r) h
      | none => none) else none
    | _ => none)
  | _ => none
/-- a value of the kind: 0 int, 1 boolean, 2 long, 3 reference -/
def okv (kind : Nat) (w : AV) : Bool := match w with
  | .inl x => kind == 0 || (kind == 1 && (x == 0 || x == 1))
  | .inr (.inl _) => kind == 2
  | .inr (.inr _) => kind == 3
def o_put (ci k kind pc : Nat) (L : AL) (st : List AV) (h : AH) : Nx := match st with
  | w :: .inr (.inr (some a)) :: r => (match h.1 a with
    | some (.inr (c, fs)) => if c = ci ∧ k < fs.length ∧ okv kind w = true then nx pc L r (hput h a (.inr (ci, fs.set k w))) else none
    | _ => none)
  | _ => none
def o_new (ci N : Nat) (fs : List AV) (pc : Nat) (L : AL) (st : List AV) (h : AH) : Nx := nx pc L (aR h.2.1 :: st) (hnew h (.inr (ci, fs)) N)
def o_anew (t pc : Nat) (L : AL) (st : List AV) (h : AH) : Nx := match st with
  | .inl n :: r => if 0 ≤ n ∧ n ≤ 1048576 then nx pc L (aR h.2.1 :: r) (hnew h (.inl (t, n.toNat, .inr (.inr (fun _ => none)))) n.toNat) else none
  | _ => none
def o_cast (ci pc : Nat) (L : AL) (st : List AV) (h : AH) : Nx := match st with
  | .inr (.inr none) :: r => nx pc L (aN :: r) h
  | .inr (.inr (some a)) :: r => (match h.1 a with
    | some (.inr (c, _)) => if c = ci then nx pc L (aR a :: r) h else none
    | _ => none)
  | _ => none
def o_castA (t pc : Nat) (L : AL) (st : List AV) (h : AH) : Nx := match st with
  | .inr (.inr (some a)) :: r => (match h.1 a with
    | some (.inl (t', n, _)) => if t' = t ∧ 0 < n then nx pc L (aR a :: r) h else none
    | _ => none)
  | _ => none
def o_oinit (pc : Nat) (L : AL) (st : List AV) (h : AH) : Nx := match st with
  | .inr (.inr (some _)) :: r => if r.length ≤ 4 then nx pc L r h else none
  | _ => none
def cpy {α : Type} (f g : Nat → α) (sp dp n : Nat) : Nat → α := fun k => if dp ≤ k ∧ k < dp + n then f (sp + (k - dp)) else g k
def o_copyI (pc : Nat) (L : AL) (st : List AV) (h : AH) : Nx := match st with
  | .inl n :: .inl dp :: .inr (.inr (some a)) :: .inl sp :: .inr (.inr (some a0)) :: r => (match h.1 a0, h.1 a with
    | some (.inl (0, n0, .inl f)), some (.inl (0, n1, .inl g)) => if 0 ≤ sp ∧ 0 ≤ dp ∧ 0 ≤ n ∧ sp + n ≤ n0 ∧ dp + n ≤ n1 ∧ r.length ≤ 4 ∧ 0 < n0 ∧ 0 < n1 then nx pc L r (hput h a (.inl (0, n1, .inl (cpy f g sp.toNat dp.toNat n.toNat)))) else none
    | _, _ => none)
  | _ => none
/-- objects of one class, or nothing, in the places -/
def o_all (f : Nat → Option Nat) (sp n : Nat) (h : AH) : Bool := (List.range 8).any fun ci => (List.range n).all fun i => match f (sp + i) with
  | none => true
  | some y => (match h.1 y with
    | some (.inr (c, _)) => c == ci
    | _ => false)
def o_copyQ (pc : Nat) (L : AL) (st : List AV) (h : AH) : Nx := match st with
  | .inl n :: .inl dp :: .inr (.inr (some a)) :: .inl sp :: .inr (.inr (some a0)) :: r => (match h.1 a0, h.1 a with
    | some (.inl (4, n0, .inr (.inr f))), some (.inl (4, n1, .inr (.inr g))) => if 0 ≤ sp ∧ 0 ≤ dp ∧ 0 ≤ n ∧ sp + n ≤ n0 ∧ dp + n ≤ n1 ∧ r.length ≤ 4 ∧ 0 < n0 ∧ 0 < n1 ∧ o_all f sp.toNat n.toNat h = true then nx pc L r (hput h a (.inl (4, n1, .inr (.inr (cpy f g sp.toNat dp.toNat n.toNat))))) else none
    | _, _ => none)
  | _ => none
def o_clone (pc : Nat) (L : AL) (st : List AV) (h : AH) : Nx := match st with
  | .inr (.inr (some a)) :: r => (match h.1 a with
    | some (.inl (0, n, .inl f)) => if r.length ≤ 4 then nx pc L (aR h.2.1 :: r) (hnew h (.inl (0, n, .inl f)) n) else none
    | _ => none)
  | _ => none
def o_mx (b : Bool) (pc : Nat) (L : AL) (st : List AV) (h : AH) : Nx := match st with
  | .inl y :: .inl x :: r => if inR x ∧ inR y ∧ r.length ≤ 4 then nx pc L (aI (if b then (if x < y then y else x) else (if y < x then y else x)) :: r) h else none
  | _ => none
/-- getClass() of an Object[] -/
def o_getC (pc : Nat) (L : AL) (st : List AV) (h : AH) : Nx := match st with
  | .inr (.inr (some a)) :: r => (match h.1 a with
    | some (.inl (4, n, _)) => if r.length ≤ 4 ∧ 0 < n then nx pc L (aR h.2.2.2.2 :: r) h else none
    | _ => none)
  | _ => none
/-- 'new X(text)' thrown at once -/
def o_throw (ci : Nat) (st : List AV) (h : AH) : Act := if st.length ≤ 4 then fin (.inr (ci, h.2.1)) (hnew h (.inr (ci, [])) 6) else none
def rcv (kind ci : Nat) (as : List AV) (h : AH) : Bool := match kind with
  | 0 => true
  | 1 => (match as with
    | .inr (.inr (some b)) :: _ => (match h.1 b with
      | some (.inr (c, _)) => c == ci
      | _ => false)
    | _ => false)
  | _ => (match as with
    | .inr (.inr (some _)) :: _ => true
    | _ => false)
def o_call (j na kind ci pc : Nat) (st : List AV) (h : AH) : Act := if na ≤ st.length ∧ st.length ≤ na + 4 ∧ rcv kind ci (st.take na).reverse h = true ∧ (laid (st.take na).reverse).length ≤ mxl j then some (.inr (.inr (j, (st.take na).reverse, pc, st.drop na))) else none
def dfv (k : Nat) : AV := match k with
  | 2 => aL 0
  | 3 => aN
  | _ => aI 0
def dfl (ci : Nat) : List AV := (fkind ci).map dfv
def stx (op : Nat × Nat × Nat × Nat × Nat) (pc : Nat) (L : AL) (st : List AV) (h : AH) : Nx := match op with
  | (0, ci, k, _, _) => o_get ci k (pc + 3) L st h
  | (1, ci, k, kind, _) => o_put ci k kind (pc + 3) L st h
  | (2, ci, N, _, _) => o_new ci N (dfl ci) (pc + 3) L st h
  | (3, t, _, _, _) => o_anew t (pc + 3) L st h
  | (4, ci, _, _, _) => o_cast ci (pc + 3) L st h
  | (5, t, _, _, _) => o_castA t (pc + 3) L st h
  | (6, _, _, _, _) => nx (pc + 3) L (aR h.2.2.2.1 :: st) h
  | (7, _, _, _, _) => o_oinit (pc + 3) L st h
  | (8, _, _, _, _) => o_copyI (pc + 3) L st h
  | (9, _, _, _, _) => o_copyQ (pc + 3) L st h
  | (10, _, _, _, _) => o_clone (pc + 3) L st h
  | (11, _, _, _, _) => o_mx true (pc + 3) L st h
  | (12, _, _, _, _) => o_mx false (pc + 3) L st h
  | (13, _, _, _, _) => o_getC (pc + 3) L st h
  | (14, _, _, _, _) => nx (pc + 2) L (aR h.2.2.2.2 :: st) h
  | (18, x, _, _, _) => nx (pc + 2) L (aI x :: st) h
  | (15, x, g, _, _) => nx (pc + 3) L (aL (if g = 0 then (x : Int) else -(x : Int)) :: st) h
  | _ => none
def entL (j : Nat) (as : List AV) : AL := laid as ++ List.replicate (mxl j - (laid as).length) none
/-- the instructions of the machine's own: an answer, or the next point; b: the method's answer is a boolean -/
def stm (ins : Instr) (b : Bool) (pc len : Nat) (L : AL) (st : List AV) (h : AH) : Act := match ins with
  | .ireturn => o_ret b st h
  | .lreturn => o_lret st h
  | .areturn => o_aret st h
  | .return_ => o_vret st h
  | _ => wrp (stl ins pc len L st h)
def stn (op : Nat × Nat × Nat × Nat × Nat) (pc : Nat) (L : AL) (st : List AV) (h : AH) : Act := match op with
  | (16, ci, _, _, _) => o_throw ci st h
  | (17, j, na, kind, ci) => o_call j na kind ci (pc + 3) st h
  | _ => wrp (stx op pc L st h)
def stp (i pc : Nat) (L : AL) (st : List AV) (h : AH) : Act := match cod i pc with
  | some (.inl ins, len) => stm ins (rtb i) pc len L st h
  | some (.inr op, _) => stn op pc L st h
  | none => none
/-- which handler takes what is thrown at pc: none at all is there; the one at; or the machine does not say -/
def hnd (i pc ci : Nat) : Option (Option Nat) := match (hdl i).filter (fun x => decide (x.1 ≤ pc) && decide (pc < x.2.1)) with
  | [] => some none
  | q => (match q.find? (fun x => x.2.2.2 == ci) with
    | some x => some (some x.2.2.1)
    | none => none)
def run : Nat → Nat → Nat → AL → List AV → AH → Option (AR × AH)
  | 0, _, _, _, _, _ => none
  | f + 1, i, pc, L, st, h => match stp i pc L st h with
    | none => none
    | some (.inl (pc', L', st', h')) => run f i pc' L' st' h'
    | some (.inr (.inl r)) => some r
    | some (.inr (.inr (j, as, pc', rest))) => (match run f j 0 (entL j as) [] h with
      | none => none
      | some (.inl w, h') => run f i pc' L (w.toList ++ rest) h'
      | some (.inr (ci, a), h') => (match hnd i pc ci with
        | none => none
        | some none => some (.inr (ci, a), h')
        | some (some p') => run f i p' L [aR a] h'))
theorem run_succ : ∀ (f i pc : Nat) (L : AL) (st : List AV) (h : AH) (x : AR × AH), run f i pc L st h = some x → run (f + 1) i pc L st h = some x := by
  intro f
  induction f with
  | zero => intro i pc L st h x hx; cases hx
  | succ f ih =>
    intro i pc L st h x hx
    rw [run] at hx
    rw [run]
    split at hx
    · cases hx
    · rename_i h1
      exact ih _ _ _ _ _ _ hx
    · exact hx
    · rename_i j as pc' rest h1
      split at hx
      · cases hx
      · rename_i w h' h2
        rw [ih _ _ _ _ _ _ h2]
        exact ih _ _ _ _ _ _ hx
      · rename_i ci a h' h2
        rw [ih _ _ _ _ _ _ h2]
        split at hx
        · cases hx
        · rename_i h3
          simp only [h3]
          exact hx
        · rename_i p' h3
          simp only [h3]
          exact ih _ _ _ _ _ _ hx
theorem run_add {f i pc : Nat} {L : AL} {st : List AV} {h : AH} {x : AR × AH} (hx : run f i pc L st h = some x) (k : Nat) : run (f + k) i pc L st h = some x := by
  induction k with
  | zero => exact hx
  | succ k ih => exact run_succ _ _ _ _ _ _ _ ih
/-! THE JUDGEMENT that all walks are written in: from the point the machine ends, and its end has Q -/
def Rn (i pc : Nat) (L : AL) (st : List AV) (h : AH) (Q : AR → AH → Prop) : Prop := ∃ f r h', run f i pc L st h = some (r, h') ∧ Q r h'
theorem Rn.step {i pc pc' : Nat} {L L' : AL} {st st' : List AV} {h h' : AH} {Q : AR → AH → Prop} (hs : stp i pc L st h = some (.inl (pc', L', st', h'))) (k : Rn i pc' L' st' h' Q) : Rn i pc L st h Q := by
  obtain ⟨f, r, h1, h2, h3⟩ := k
  refine ⟨f + 1, r, h1, ?_, h3⟩
  rw [run, hs]
  exact h2
theorem Rn.fin {i pc : Nat} {L : AL} {st : List AV} {h h' : AH} {r : AR} {Q : AR → AH → Prop} (hs : stp i pc L st h = some (.inr (.inl (r, h')))) (k : Q r h') : Rn i pc L st h Q := by
  refine ⟨1, r, h', ?_, k⟩
  rw [run, hs]
theorem Rn.mono {i pc : Nat} {L : AL} {st : List AV} {h : AH} {Q Q' : AR → AH → Prop} (k : Rn i pc L st h Q) (hq : ∀ r h', Q r h' → Q' r h') : Rn i pc L st h Q' := by
  obtain ⟨f, r, h1, h2, h3⟩ := k
  exact ⟨f, r, h1, h2, hq _ _ h3⟩
/-- what stands behind a call -/
def Bh (i pc pc' : Nat) (L : AL) (rest : List AV) (Q : AR → AH → Prop) (r : AR) (h' : AH) : Prop := match r with
  | .inl w => Rn i pc' L (w.toList ++ rest) h' Q
  | .inr (ci, a) => (match hnd i pc ci with
    | none => False
    | some none => Q (.inr (ci, a)) h'
    | some (some p') => Rn i p' L [aR a] h' Q)
theorem Rn.call {i pc pc' j : Nat} {L : AL} {st as rest : List AV} {h : AH} {Q : AR → AH → Prop} (hs : stp i pc L st h = some (.inr (.inr (j, as, pc', rest)))) (k : Rn j 0 (entL j as) [] h (Bh i pc pc' L rest Q)) : Rn i pc L st h Q := by
  obtain ⟨f, r, h1, h2, h3⟩ := k
  rcases r with w | ⟨ci, a⟩
  · obtain ⟨f2, r2, h4, h5, h6⟩ := h3
    refine ⟨f + f2 + 1, r2, h4, ?_, h6⟩
    rw [run, hs]
    simp only [run_add h2 f2]
    rw [Nat.add_comm f f2]
    exact run_add h5 f
  · unfold Bh at h3
    simp only at h3
    split at h3
    · exact h3.elim
    · rename_i h4
      refine ⟨f + 1, _, _, ?_, h3⟩
      rw [run, hs]
      simp only [h2, h4]
    · rename_i p' h4
      obtain ⟨f2, r2, h5, h6, h7⟩ := h3
      refine ⟨f + f2 + 1, r2, h5, ?_, h7⟩
      rw [run, hs]
      simp only [run_add h2 f2, h4]
      rw [Nat.add_comm f f2]
      exact run_add h6 f
end
section
/-! WHAT THE ABSTRACT MACHINE SAYS OF THE REAL ONE: values, locals, heaps -/
def cv (v : AV) : Value := match v with
  | .inl i => .int (Int32.ofInt i)
  | .inr (.inl x) => .long (Int64.ofInt x)
  | .inr (.inr none) => .null
  | .inr (.inr (some a)) => .ref a
theorem cv_q (r : Option Nat) : cv (aQ r) = va_rf r := by cases r <;> rfl
theorem cv_one {v : AV} (h : one v = true) : (cv v).category = 1 := by
  rcases v with x | x | x | x
  · rfl
  · cases h
  · rfl
  · rfl
theorem cv_two {v : AV} (h : one v = false) : (cv v).category = 2 := by
  rcases v with x | x | x | x
  · cases h
  · rfl
  · cases h
  · cases h
theorem cv_le (v : AV) : (cv v).category ≤ 2 := by
  cases h : one v with
  | true => rw [cv_one h]; decide
  | false => rw [cv_two h]; exact Nat.le_refl 2
theorem cv_sum (st : List AV) : ((st.map cv).map fun v => v.category).sum ≤ 2 * st.length := by
  induction st with
  | nil => exact Nat.le_refl 0
  | cons v r ih =>
    have := cv_le v
    simp only [List.map_cons, List.sum_cons, List.length_cons]
    omega
def cA (x : AA) : (Nat → Int32) ⊕ (Nat → Int64) ⊕ (Nat → UInt32) ⊕ (Nat → UInt64) ⊕ (Nat → Option Nat) := match x with
  | .inl F => .inl (fun j => Int32.ofInt (F j))
  | .inr (.inl F) => .inr (.inl (fun j => Int64.ofInt (F j)))
  | .inr (.inr F) => .inr (.inr (.inr (.inr F)))
def cE (dA : Nat → ClassId) (x : AE) : va_E := match x with
  | .inl (t, n, y) => .inl (dA t, n, cA y)
  | .inr (ci, fs) => .inr (ci, fs.map cv)
/-- class numbers and field places; array classes by their tags; where our cells begin; the script (its cell, its length, its ints); the empty list's array; Object[]'s class object -/
abbrev EV : Type := va_G × (Nat → ClassId) × Nat × (Nat × Nat × (Nat → Int)) × Nat × Nat
abbrev EV.D (v : EV) : va_G := v.1
abbrev EV.dA (v : EV) : Nat → ClassId := v.2.1
abbrev EV.b0 (v : EV) : Nat := v.2.2.1
abbrev EV.scr (v : EV) : Nat := v.2.2.2.1.1
abbrev EV.len (v : EV) : Nat := v.2.2.2.1.2.1
abbrev EV.xs (v : EV) : Nat → Int := v.2.2.2.1.2.2
abbrev EV.aD (v : EV) : Nat := v.2.2.2.2.1
abbrev EV.aM (v : EV) : Nat := v.2.2.2.2.2
def wsOf (v : EV) (h : AH) : va_W := (List.range (h.2.1 - v.b0)).map fun k => (v.b0 + k, cE v.dA ((h.1 (v.b0 + k)).getD (.inr (0, []))))
theorem ws_len (v : EV) (h : AH) : (wsOf v h).length = h.2.1 - v.b0 := by simp [wsOf]
theorem ws_at (v : EV) (h : AH) {k : Nat} (hk : k < h.2.1 - v.b0) : (wsOf v h)[k]? = some (v.b0 + k, cE v.dA ((h.1 (v.b0 + k)).getD (.inr (0, [])))) := by
  simp [wsOf, hk]
theorem ws_get {v : EV} {h : AH} {a : Nat} {e : AE} (he : h.1 a = some e) (h1 : v.b0 ≤ a) (h2 : a < h.2.1) : (wsOf v h)[a - v.b0]? = some (a, cE v.dA e) := by
  rw [ws_at v h (by omega), show v.b0 + (a - v.b0) = a by omega, he]
  rfl
theorem ws_put {v : EV} {h : AH} {a : Nat} (e : AE) (h1 : v.b0 ≤ a) (h2 : a < h.2.1) : (wsOf v h).set (a - v.b0) (a, cE v.dA e) = wsOf v (hput h a e) := by
  apply List.ext_getElem?
  intro k
  rw [List.getElem?_set]
  by_cases hk : a - v.b0 = k
  · rw [if_pos hk, if_pos (by rw [ws_len]; omega), ws_at v (hput h a e) (by show k < h.2.1 - v.b0; omega), show v.b0 + k = a by omega]
    simp [hput, up]
  · rw [if_neg hk]
    by_cases hl : k < h.2.1 - v.b0
    · rw [ws_at v h hl, ws_at v (hput h a e) hl]
      simp [hput, up, show ¬ v.b0 + k = a by omega]
    · rw [List.getElem?_eq_none (by rw [ws_len]; omega), List.getElem?_eq_none (by rw [ws_len]; show h.2.1 - v.b0 ≤ k; omega)]
theorem ws_new {v : EV} {h : AH} (e : AE) (k0 : Nat) (h1 : v.b0 ≤ h.2.1) : wsOf v h ++ [(h.2.1, cE v.dA e)] = wsOf v (hnew h e k0) := by
  apply List.ext_getElem?
  intro k
  by_cases hl : k < h.2.1 - v.b0
  · rw [List.getElem?_append_left (by rw [ws_len]; exact hl), ws_at v h hl, ws_at v (hnew h e k0) (by show k < h.2.1 + 1 - v.b0; omega)]
    simp [hnew, up, show ¬ v.b0 + k = h.2.1 by omega]
  · rw [List.getElem?_append_right (by rw [ws_len]; omega), ws_len]
    by_cases hk : k = h.2.1 - v.b0
    · subst hk
      rw [ws_at v (hnew h e k0) (by show h.2.1 - v.b0 < h.2.1 + 1 - v.b0; omega), show v.b0 + (h.2.1 - v.b0) = h.2.1 by omega]
      simp [hnew, up]
    · rw [List.getElem?_eq_none (by simp only [List.length_cons, List.length_nil]; omega), List.getElem?_eq_none (by rw [ws_len]; show h.2.1 + 1 - v.b0 ≤ k; omega)]
theorem ws_D (v : EV) (h : AH) : va_D (fun q => v.b0 ≤ q) (wsOf v h) := by
  refine ⟨fun i j x y hx hy hxy => ?_, fun k q hq => ?_⟩
  · have hi : i < h.2.1 - v.b0 := by have := (List.getElem?_eq_some_iff.mp hx).1; rwa [ws_len] at this
    have hj : j < h.2.1 - v.b0 := by have := (List.getElem?_eq_some_iff.mp hy).1; rwa [ws_len] at this
    rw [ws_at v h hi] at hx
    rw [ws_at v h hj] at hy
    cases hx; cases hy
    have : v.b0 + i = v.b0 + j := hxy
    omega
  · have hi : k < h.2.1 - v.b0 := by have := (List.getElem?_eq_some_iff.mp hq).1; rwa [ws_len] at this
    rw [ws_at v h hi] at hq
    cases hq
    exact Nat.le_add_right _ _
/-- the cells below: the script, and the array of an empty list -/
def Low (v : EV) (a : Nat) (e : AE) : Prop := (a = v.scr ∧ e = .inl (9, v.len, .inl v.xs)) ∨ (a = v.aD ∧ e = .inl (4, 0, .inr (.inr (fun _ => none))))
def Rl (v : EV) (h : AH) (H : Heap) : Prop := v.b0 ≤ h.2.1 ∧ va_P v.D classes (wsOf v h) H ∧ (∀ a e, h.1 a = some e → (v.b0 ≤ a ∧ a < h.2.1) ∨ (a < v.b0 ∧ Low v a e)) ∧ (∀ a t n x, h.1 a = some (.inl (t, n, x)) → n < 1073741824 ∧ (v.b0 ≤ a → t < 5)) ∧ h.2.2.2 = (v.aD, v.aM)
def tysOf (v : EV) : List (ClassId × FieldType) := [(v.dA 0, .int), (v.dA 1, .long), (v.dA 2, .boolean), (v.dA 3, .object nSite), (v.dA 4, .object "java/lang/Object")]
def Lh (ls : Array Slot) (L : AL) : Prop := lv_has ls L.length [] ∧ ∀ (j : Nat) (v : AV), L[j]? = some (some v) → ls[j]? = some (.val (cv v))
theorem Lh.size {ls : Array Slot} {L : AL} (h : Lh ls L) : ls.size = L.length := h.1.1
theorem lng_of {L : AL} {j : Nat} {v : AV} (hj : L[j]? = some (some v)) (h : lng L[j]? = false) : one v = true := by
  rw [hj] at h
  rcases v with x | x | x | x
  · rfl
  · cases h
  · rfl
  · rfl
theorem sto_spec {L L' : AL} {k : Nat} {v : AV} (h : sto L k v = some L') : k < L.length ∧ L' = L.set k (some v) ∧ ∀ j, j + 1 = k → lng L[j]? = false := by
  unfold sto at h
  split at h
  · rename_i hk
    cases k with
    | zero =>
      simp only [Option.some.injEq] at h
      exact ⟨hk, h.symm, fun j hj => absurd hj (by omega)⟩
    | succ k =>
      simp only at h
      split at h
      · cases h
      · rename_i hl
        refine ⟨hk, (Option.some.inj h).symm, fun j hj => ?_⟩
        rw [show j = k by omega]
        simpa using hl
  · cases h
theorem stoL_spec {L L' : AL} {k : Nat} {v : AV} (h : stoL L k v = some L') : k + 1 < L.length ∧ L' = (L.set k (some v)).set (k + 1) none ∧ ∀ j, j + 1 = k → lng L[j]? = false := by
  unfold stoL at h
  split at h
  · rename_i hk
    cases k with
    | zero =>
      simp only [Option.some.injEq] at h
      exact ⟨hk, h.symm, fun j hj => absurd hj (by omega)⟩
    | succ k =>
      simp only at h
      split at h
      · cases h
      · rename_i hl
        refine ⟨hk, (Option.some.inj h).symm, fun j hj => ?_⟩
        rw [show j = k by omega]
        simpa using hl
  · cases h
def prs (L : AL) : List (Nat × Value) := (List.range L.length).filterMap (fun j => match L[j]? with
  | some (some v) => some (j, cv v)
  | _ => none)
theorem prs_mem {L : AL} {j : Nat} {v : AV} (h : L[j]? = some (some v)) : (j, cv v) ∈ prs L := by
  refine List.mem_filterMap.mpr ⟨j, List.mem_range.mpr (List.getElem?_eq_some_iff.mp h).1, ?_⟩
  simp [h]
theorem prs_of {L : AL} {q : Nat × Value} (h : q ∈ prs L) : ∃ v, L[q.1]? = some (some v) ∧ q.2 = cv v := by
  obtain ⟨j, -, hj⟩ := List.mem_filterMap.mp h
  split at hj
  · rename_i v hv
    cases hj
    exact ⟨v, hv, rfl⟩
  · cases hj
theorem lh_prs {ls : Array Slot} {L : AL} (h : Lh ls L) : lv_has ls L.length (prs L) := ⟨h.1.1, h.1.2.1, fun q hq => by
  obtain ⟨v, h1, h2⟩ := prs_of hq
  rw [h2]
  exact h.2 _ v h1⟩
theorem lh_set {ls : Array Slot} {L L' : AL} {k : Nat} {v : AV} (hs : sto L k v = some L') (h1 : lv_has ls L.length ((k, cv v) :: (prs L).filter (fun q => !(q.1 == k) && !(q.1 + 1 == k && q.2.category == 2)))) : Lh ls L' := by
  obtain ⟨hk, rfl, hl⟩ := sto_spec hs
  refine ⟨⟨by rw [List.length_set]; exact h1.1, h1.2.1, fun q hq => by cases hq⟩, fun j w hj => ?_⟩
  rw [List.getElem?_set] at hj
  by_cases hjk : k = j
  · rw [if_pos hjk, if_pos hk] at hj
    cases hj
    subst hjk
    exact h1.2.2 (k, cv v) (List.mem_cons_self ..)
  · rw [if_neg hjk] at hj
    refine h1.2.2 (j, cv w) (List.mem_cons_of_mem _ (List.mem_filter.mpr ⟨prs_mem hj, ?_⟩))
    have c1 : ((j : Nat) == k) = false := by simpa using fun q => hjk q.symm
    by_cases hjk2 : j + 1 = k
    · have := cv_one (lng_of hj (hl j hjk2))
      simp [c1, this]
    · simp [c1, hjk2]
theorem lh_setL {ls : Array Slot} {L L' : AL} {k : Nat} {v : AV} (hs : stoL L k v = some L') (h1 : lv_has ls L.length ((k, cv v) :: (prs L).filter (fun q => !(q.1 == k) && (!(q.1 == k + 1) && !(q.1 + 1 == k && q.2.category == 2))))) : Lh ls L' := by
  obtain ⟨hk, rfl, hl⟩ := stoL_spec hs
  refine ⟨⟨by rw [List.length_set, List.length_set]; exact h1.1, h1.2.1, fun q hq => by cases hq⟩, fun j w hj => ?_⟩
  rw [List.getElem?_set] at hj
  by_cases hj1 : k + 1 = j
  · rw [if_pos hj1] at hj
    split at hj <;> cases hj
  rw [if_neg hj1, List.getElem?_set] at hj
  by_cases hjk : k = j
  · rw [if_pos hjk, if_pos (by omega)] at hj
    cases hj
    subst hjk
    exact h1.2.2 (k, cv v) (List.mem_cons_self ..)
  · rw [if_neg hjk] at hj
    refine h1.2.2 (j, cv w) (List.mem_cons_of_mem _ (List.mem_filter.mpr ⟨prs_mem hj, ?_⟩))
    have c1 : ((j : Nat) == k) = false := by simpa using fun q => hjk q.symm
    have c2 : ((j : Nat) == k + 1) = false := by simpa using fun q => hj1 q.symm
    by_cases hjk2 : j + 1 = k
    · have := cv_one (lng_of hj (hl j hjk2))
      simp [c1, c2, this]
    · simp [c1, c2, hjk2]
/-! numbers -/
theorem i_to {x : Int} (h : inR x) : (Int32.ofInt x).toInt = x := Int32.toInt_ofInt_of_le (by have := h.1; omega) (by have := h.2; omega)
theorem l_to {x : Int} (h : inL x) : (Int64.ofInt x).toInt = x := Int64.toInt_ofInt_of_le (by have := h.1; omega) (by have := h.2; omega)
theorem i_eq {x y : Int} (hx : inR x) (hy : inR y) : Int32.ofInt x = Int32.ofInt y ↔ x = y := by
  rw [← Int32.toInt_inj, i_to hx, i_to hy]
theorem i_lt {x y : Int} (hx : inR x) (hy : inR y) : Int32.ofInt x < Int32.ofInt y ↔ x < y := by
  rw [Int32.lt_iff_toInt_lt, i_to hx, i_to hy]
theorem i_le {x y : Int} (hx : inR x) (hy : inR y) : Int32.ofInt x ≤ Int32.ofInt y ↔ x ≤ y := by
  rw [Int32.le_iff_toInt_le, i_to hx, i_to hy]
theorem i_0 : (0 : Int32) = Int32.ofInt 0 := lit0.symm
theorem i_nat {x : Int} (h : inR x) : (Int32.ofInt x).toNatClampNeg = x.toNat := by
  show (Int32.ofInt x).toInt.toNat = x.toNat
  rw [i_to h]
theorem inR_0 : inR 0 := by decide
theorem i_in {x : Int} {n : Nat} (hn : n < 1073741824) (h0 : 0 ≤ x) (h1 : x < n) : vp_in (Int32.ofInt x) n ∧ (Int32.ofInt x).toNatClampNeg = x.toNat := by
  have hx : inR x := ⟨by omega, by omega⟩
  refine ⟨fun q => ?_, i_nat hx⟩
  rcases q with q | q
  · rw [i_0, i_lt hx inR_0] at q
    omega
  · rw [i_nat hx] at q
    omega
theorem i_len {n : Nat} : Int32.ofNat n = Int32.ofInt n := Int32.ofInt_eq_ofNat.symm
theorem i_i2l {x : Int} (h : inR x) : (Int32.ofInt x).toInt64 = Int64.ofInt x := by
  rw [← Int64.ofInt_int32ToInt, i_to h]
theorem i_cmp {x y : Int} (hx : inL x) (hy : inL y) : lg_cmp (Int64.ofInt x) (Int64.ofInt y) = Int32.ofInt (if x < y then -1 else if x = y then 0 else 1) := by
  have e1 : Int64.ofInt x > Int64.ofInt y ↔ y < x := by
    show Int64.ofInt y < Int64.ofInt x ↔ _
    rw [Int64.lt_iff_toInt_lt, l_to hx, l_to hy]
  have e2 : Int64.ofInt x = Int64.ofInt y ↔ x = y := by rw [← Int64.toInt_inj, l_to hx, l_to hy]
  unfold lg_cmp
  by_cases h1 : y < x
  · rw [if_pos (e1.mpr h1), if_neg (by omega), if_neg (by omega)]
    exact lit1.symm
  · rw [if_neg (fun q => h1 (e1.mp q))]
    by_cases h2 : x = y
    · rw [if_pos (e2.mpr h2), if_neg (by omega), if_pos h2]
      exact lit0.symm
    · rw [if_neg (fun q => h2 (e2.mp q)), if_pos (by omega)]
      exact litm1.symm
theorem z_eq {x : Int} (h : inR x) : Int32.ofInt x = 0 ↔ x = 0 := by rw [i_0]; exact i_eq h inR_0
theorem z_lt {x : Int} (h : inR x) : Int32.ofInt x < 0 ↔ x < 0 := by rw [i_0]; exact i_lt h inR_0
theorem z_le {x : Int} (h : inR x) : Int32.ofInt x ≤ 0 ↔ x ≤ 0 := by rw [i_0]; exact i_le h inR_0
theorem z_ge {x : Int} (h : inR x) : 0 ≤ Int32.ofInt x ↔ 0 ≤ x := by rw [i_0]; exact i_le inR_0 h
theorem z_gt {x : Int} (h : inR x) : 0 < Int32.ofInt x ↔ 0 < x := by rw [i_0]; exact i_lt inR_0 h
/-- what holds of the cells below our own, at the method's start -/
def Lo (v : EV) (s : State) : Prop := va_X v.scr v.len (fun j => Int32.ofInt (v.xs j)) s s.heap ∧ v.scr < v.b0 ∧ va_T (.object "java/lang/Object") v.aD 0 (fun _ => .null) (fun q => v.b0 ≤ q) s s.heap ∧ va_Z "java/util/ArrayList" "DEFAULTCAPACITY_EMPTY_ELEMENTDATA" "[Ljava/lang/Object;" (.ref v.aD) (fun q => v.b0 ≤ q) s s.heap ∧ v.b0 ≤ s.heap.size
theorem tys_at (v : EV) {t : Nat} (h : t < 5) : ∃ ty, (tysOf v)[t]? = some (v.dA t, ty) := by
  match t, h with
  | 0, _ => exact ⟨_, rfl⟩
  | 1, _ => exact ⟨_, rfl⟩
  | 2, _ => exact ⟨_, rfl⟩
  | 3, _ => exact ⟨_, rfl⟩
  | 4, _ => exact ⟨_, rfl⟩
theorem upd_up (F : Nat → Int) (k : Nat) (x : Int) : upd (fun j => Int32.ofInt (F j)) k (Int32.ofInt x) = fun j => Int32.ofInt (up F k x j) := by
  funext j
  by_cases h : j = k <;> simp [upd, up, h]
theorem updL_up (F : Nat → Int) (k : Nat) (x : Int) : vp_updL (fun j => Int64.ofInt (F j)) k (Int64.ofInt x) = fun j => Int64.ofInt (up F k x j) := by
  funext j
  by_cases h : j = k <;> simp [vp_updL, up, h]
theorem vaup_up (F : Nat → Option Nat) (k : Nat) (x : Option Nat) : va_up F k x = up F k x := by
  funext j
  by_cases h : j = k <;> simp [va_up, up, h]
theorem Rl.put {v : EV} {h : AH} {H H1 : Heap} {a : Nat} {e : AE} (hR : Rl v h H) (h1 : v.b0 ≤ a) (h2 : a < h.2.1) (he : ∀ t n x, e = .inl (t, n, x) → n < 1073741824 ∧ t < 5) (hP : va_P v.D classes (wsOf v (hput h a e)) H1) : Rl v (hput h a e) H1 := by
  refine ⟨hR.1, hP, fun b e' hb => ?_, fun b t n x hb => ?_, hR.2.2.2.2⟩
  · by_cases hba : b = a
    · exact Or.inl (by rw [hba]; exact ⟨h1, h2⟩)
    · have hb' : h.1 b = some e' := by simpa [hput, up, hba] using hb
      exact hR.2.2.1 b e' hb'
  · by_cases hba : b = a
    · have hb' : e = .inl (t, n, x) := by simpa [hput, up, hba] using hb
      exact ⟨(he t n x hb').1, fun _ => (he t n x hb').2⟩
    · have hb' : h.1 b = some (.inl (t, n, x)) := by simpa [hput, up, hba] using hb
      exact hR.2.2.2.1 b t n x hb'
theorem Rl.new {v : EV} {h : AH} {H H1 : Heap} {k : Nat} {e : AE} (hR : Rl v h H) (he : ∀ t n x, e = .inl (t, n, x) → n < 1073741824 ∧ t < 5) (hP : va_P v.D classes (wsOf v (hnew h e k)) H1) : Rl v (hnew h e k) H1 := by
  refine ⟨Nat.le_succ_of_le hR.1, hP, fun b e' hb => ?_, fun b t n x hb => ?_, hR.2.2.2.2⟩
  · by_cases hba : b = h.2.1
    · refine Or.inl ⟨by rw [hba]; exact hR.1, ?_⟩
      show b < h.2.1 + 1
      omega
    · have hb' : h.1 b = some e' := by simpa [hnew, up, hba] using hb
      rcases hR.2.2.1 b e' hb' with q | q
      · exact Or.inl ⟨q.1, Nat.lt_succ_of_lt q.2⟩
      · exact Or.inr q
  · by_cases hba : b = h.2.1
    · have hb' : e = .inl (t, n, x) := by simpa [hnew, up, hba] using hb
      exact ⟨(he t n x hb').1, fun _ => (he t n x hb').2⟩
    · have hb' : h.1 b = some (.inl (t, n, x)) := by simpa [hnew, up, hba] using hb
      exact hR.2.2.2.1 b t n x hb'
/-- an object, and an array of a tag that only ours have, lies among our cells -/
theorem Rl.obj {v : EV} {h : AH} {H : Heap} {a ci : Nat} {fs : List AV} (hR : Rl v h H) (he : h.1 a = some (.inr (ci, fs))) : v.b0 ≤ a ∧ a < h.2.1 := by
  rcases hR.2.2.1 a _ he with q | ⟨-, ⟨-, q⟩ | ⟨-, q⟩⟩
  · exact q
  · cases q
  · cases q
theorem Rl.arr {v : EV} {h : AH} {H : Heap} {a t n : Nat} {x : AA} (hR : Rl v h H) (he : h.1 a = some (.inl (t, n, x))) (ht : t ≠ 9) {i : Int} (h0 : 0 ≤ i) (hi : i < n) : v.b0 ≤ a ∧ a < h.2.1 := by
  rcases hR.2.2.1 a _ he with q | ⟨-, ⟨-, q⟩ | ⟨-, q⟩⟩
  · exact q
  · cases q
    exact absurd rfl ht
  · cases q
    omega
end
section
section SOps
variable {p : Program} {l : Launch} {e : Env} {R : Room} {s : State} {m : MethodId} {args : Array Value} {below : List Frame} {meth : Method} {c : Code} {Q : State → Prop} {v : EV} {n0 z0 : Nat} {pc t : Nat} {L : AL} {st : List AV} {h : AH} {cc : ByteArray}
/-- the real machine, at the abstract point, comes to Q -/
def WW (v : EV) (p : Program) (l : Launch) (e : Env) (R : Room) (s : State) (m : MethodId) (args : Array Value) (below : List Frame) (meth : Method) (c : Code) (n0 z0 : Nat) (Q : State → Prop) (pc : Nat) (L : AL) (st : List AV) (h : AH) : Prop :=
  ∀ (ls : Array Slot) (H : Heap) (locs : List Loc) (cells slots : Nat), Lh ls L → Rl v h H → va_S (fun q => v.b0 ≤ q) s.heap H locs → h.2.1 = n0 + cells → h.2.2.1 = z0 + slots → W p l e R s m args below meth c H locs cells slots Q (F0 m pc ls (st.map cv))
/-- an instruction that goes on is right -/
def SO (v : EV) (p : Program) (l : Launch) (e : Env) (R : Room) (s : State) (m : MethodId) (args : Array Value) (below : List Frame) (meth : Method) (c : Code) (n0 z0 : Nat) (Q : State → Prop) (pc : Nat) (L : AL) (st : List AV) (h : AH) (act : Nx) : Prop :=
  ∀ pc' L' st' h', act = some (pc', L', st', h') → L'.length = L.length ∧ h.2.1 ≤ h'.2.1 ∧ h.2.2.1 ≤ h'.2.2.1 ∧ (h'.2.1 ≤ n0 + R.cells → h'.2.2.1 ≤ z0 + R.slots → WW v p l e R s m args below meth c n0 z0 Q pc' L' st' h' → WW v p l e R s m args below meth c n0 z0 Q pc L st h)
theorem so_nx {pc' : Nat} {L' : AL} {st' : List AV} (hl : L'.length = L.length) (k : WW v p l e R s m args below meth c n0 z0 Q pc' L' st' h → WW v p l e R s m args below meth c n0 z0 Q pc L st h) : SO v p l e R s m args below meth c n0 z0 Q pc L st h (nx pc' L' st' h) := by
  intro a b c d q
  cases q
  exact ⟨hl, Nat.le_refl _, Nat.le_refl _, fun _ _ => k⟩
theorem so_none : SO v p l e R s m args below meth c n0 z0 Q pc L st h none := by
  intro a b c d q
  cases q
theorem s_iconst (hx : p.tables.exec = Jvm.exec) (hb : c.code = cc) {n : Int} (hd : decode cc pc = .ok (.iconst n, 1)) : SO v p l e R s m args below meth c n0 z0 Q pc L st h (nx (pc + 1) L (aI n :: st) h) :=
  so_nx rfl fun k ls H locs cells slots hL hR hS hc hz => lv_iconst hx hb hd rfl (k ls H locs cells slots hL hR hS hc hz)
theorem s_bipush (hx : p.tables.exec = Jvm.exec) (hb : c.code = cc) {n : Int} (hd : decode cc pc = .ok (.bipush n, 2)) (hn : -128 ≤ n ∧ n < 128) : SO v p l e R s m args below meth c n0 z0 Q pc L st h (nx (pc + 2) L (aI n :: st) h) :=
  so_nx rfl fun k ls H locs cells slots hL hR hS hc hz => lv_bipush hx hb hd (Int8.toInt32_ofInt (by simpa using hn.1) (by rw [show Int8.maxValue.toInt = 127 from by decide]; omega)) (k ls H locs cells slots hL hR hS hc hz)
theorem s_sipush (hx : p.tables.exec = Jvm.exec) (hb : c.code = cc) {n : Int} (hd : decode cc pc = .ok (.sipush n, 3)) (hn : -32768 ≤ n ∧ n < 32768) : SO v p l e R s m args below meth c n0 z0 Q pc L st h (nx (pc + 3) L (aI n :: st) h) :=
  so_nx rfl fun k ls H locs cells slots hL hR hS hc hz => lv_sipush hx hb hd (Int16.toInt32_ofInt (by simpa using hn.1) (by rw [show Int16.maxValue.toInt = 32767 from by decide]; omega)) (k ls H locs cells slots hL hR hS hc hz)
theorem s_lconst (hx : p.tables.exec = Jvm.exec) (hb : c.code = cc) {n : Fin 2} (hd : decode cc pc = .ok (.lconst n, 1)) : SO v p l e R s m args below meth c n0 z0 Q pc L st h (nx (pc + 1) L (aL ((n : Nat) : Int) :: st) h) :=
  so_nx rfl fun k ls H locs cells slots hL hR hS hc hz => lv_lconst hx hb hd Int64.ofInt_eq_ofNat.symm (k ls H locs cells slots hL hR hS hc hz)
theorem s_null (hx : p.tables.exec = Jvm.exec) (hb : c.code = cc) (hd : decode cc pc = .ok (.aconst_null, 1)) : SO v p l e R s m args below meth c n0 z0 Q pc L st h (nx (pc + 1) L (aN :: st) h) :=
  so_nx rfl fun k ls H locs cells slots hL hR hS hc hz => lv_null hx hb hd (k ls H locs cells slots hL hR hS hc hz)
theorem s_iload (hx : p.tables.exec = Jvm.exec) (hb : c.code = cc) {k : Nat} (hd : decode cc pc = .ok (.iload k, 2)) : SO v p l e R s m args below meth c n0 z0 Q pc L st h (o_ldI k (pc + 2) L st h) := by
  unfold o_ldI
  split
  · rename_i x hk
    exact so_nx rfl fun kk ls H locs cells slots hL hR hS hc hz => lv_iload hx hb hd (hL.2 k (aI x) hk) (kk ls H locs cells slots hL hR hS hc hz)
  · exact so_none
theorem s_iload_n (hx : p.tables.exec = Jvm.exec) (hb : c.code = cc) {k : Fin 4} (hd : decode cc pc = .ok (.iload_n k, 1)) : SO v p l e R s m args below meth c n0 z0 Q pc L st h (o_ldI k.val (pc + 1) L st h) := by
  unfold o_ldI
  split
  · rename_i x hk
    exact so_nx rfl fun kk ls H locs cells slots hL hR hS hc hz => lv_iload_n hx hb hd rfl (hL.2 k.val (aI x) hk) (kk ls H locs cells slots hL hR hS hc hz)
  · exact so_none
theorem s_lload (hx : p.tables.exec = Jvm.exec) (hb : c.code = cc) {k : Nat} (hd : decode cc pc = .ok (.lload k, 2)) : SO v p l e R s m args below meth c n0 z0 Q pc L st h (o_ldL k (pc + 2) L st h) := by
  unfold o_ldL
  split
  · rename_i x hk
    exact so_nx rfl fun kk ls H locs cells slots hL hR hS hc hz => lv_lload hx hb hd (hL.2 k (aL x) hk) (kk ls H locs cells slots hL hR hS hc hz)
  · exact so_none
theorem s_lload_n (hx : p.tables.exec = Jvm.exec) (hb : c.code = cc) {k : Fin 4} (hd : decode cc pc = .ok (.lload_n k, 1)) : SO v p l e R s m args below meth c n0 z0 Q pc L st h (o_ldL k.val (pc + 1) L st h) := by
  unfold o_ldL
  split
  · rename_i x hk
    exact so_nx rfl fun kk ls H locs cells slots hL hR hS hc hz => lv_lload_n hx hb hd rfl (hL.2 k.val (aL x) hk) (kk ls H locs cells slots hL hR hS hc hz)
  · exact so_none
theorem s_aload (hx : p.tables.exec = Jvm.exec) (hb : c.code = cc) {k : Nat} (hd : decode cc pc = .ok (.aload k, 2)) : SO v p l e R s m args below meth c n0 z0 Q pc L st h (o_ldA k (pc + 2) L st h) := by
  unfold o_ldA
  split
  · rename_i x hk
    cases x with
    | none => exact so_nx rfl fun kk ls H locs cells slots hL hR hS hc hz => lv_aloadN hx hb hd (hL.2 k aN hk) (kk ls H locs cells slots hL hR hS hc hz)
    | some x => exact so_nx rfl fun kk ls H locs cells slots hL hR hS hc hz => lv_aload hx hb hd (hL.2 k (aR x) hk) (kk ls H locs cells slots hL hR hS hc hz)
  · exact so_none
theorem s_aload_n (hx : p.tables.exec = Jvm.exec) (hb : c.code = cc) {k : Fin 4} (hd : decode cc pc = .ok (.aload_n k, 1)) : SO v p l e R s m args below meth c n0 z0 Q pc L st h (o_ldA k.val (pc + 1) L st h) := by
  unfold o_ldA
  split
  · rename_i x hk
    cases x with
    | none => exact so_nx rfl fun kk ls H locs cells slots hL hR hS hc hz => lv_aload_nN hx hb hd rfl (hL.2 k.val aN hk) (kk ls H locs cells slots hL hR hS hc hz)
    | some x => exact so_nx rfl fun kk ls H locs cells slots hL hR hS hc hz => lv_aload_n hx hb hd rfl (hL.2 k.val (aR x) hk) (kk ls H locs cells slots hL hR hS hc hz)
  · exact so_none
theorem s_istore (hx : p.tables.exec = Jvm.exec) (hb : c.code = cc) {k : Nat} (hd : decode cc pc = .ok (.istore k, 2)) : SO v p l e R s m args below meth c n0 z0 Q pc L st h (o_stI k (pc + 2) L st h) := by
  unfold o_stI
  split
  · rename_i x r
    split
    · rename_i L' hs
      exact so_nx (by rw [(sto_spec hs).2.1, List.length_set]) fun kk ls H locs cells slots hL hR hS hc hz => lv_istore hx hb hd (lh_prs hL) (sto_spec hs).1 rfl (fun ls' h' => kk ls' H locs cells slots (lh_set hs h') hR hS hc hz)
    · exact so_none
  · exact so_none
theorem s_istore_n (hx : p.tables.exec = Jvm.exec) (hb : c.code = cc) {k : Fin 4} (hd : decode cc pc = .ok (.istore_n k, 1)) : SO v p l e R s m args below meth c n0 z0 Q pc L st h (o_stI k.val (pc + 1) L st h) := by
  unfold o_stI
  split
  · rename_i x r
    split
    · rename_i L' hs
      exact so_nx (by rw [(sto_spec hs).2.1, List.length_set]) fun kk ls H locs cells slots hL hR hS hc hz => lv_istore_n hx hb hd rfl (lh_prs hL) (sto_spec hs).1 rfl (fun ls' h' => kk ls' H locs cells slots (lh_set hs h') hR hS hc hz)
    · exact so_none
  · exact so_none
theorem s_lstore (hx : p.tables.exec = Jvm.exec) (hb : c.code = cc) {k : Nat} (hd : decode cc pc = .ok (.lstore k, 2)) : SO v p l e R s m args below meth c n0 z0 Q pc L st h (o_stL k (pc + 2) L st h) := by
  unfold o_stL
  split
  · rename_i x r
    split
    · rename_i L' hs
      exact so_nx (by rw [(stoL_spec hs).2.1, List.length_set, List.length_set]) fun kk ls H locs cells slots hL hR hS hc hz => lv_lstore hx hb hd (lh_prs hL) (stoL_spec hs).1 rfl (fun ls' h' => kk ls' H locs cells slots (lh_setL hs h') hR hS hc hz)
    · exact so_none
  · exact so_none
theorem s_lstore_n (hx : p.tables.exec = Jvm.exec) (hb : c.code = cc) {k : Fin 4} (hd : decode cc pc = .ok (.lstore_n k, 1)) : SO v p l e R s m args below meth c n0 z0 Q pc L st h (o_stL k.val (pc + 1) L st h) := by
  unfold o_stL
  split
  · rename_i x r
    split
    · rename_i L' hs
      exact so_nx (by rw [(stoL_spec hs).2.1, List.length_set, List.length_set]) fun kk ls H locs cells slots hL hR hS hc hz => lv_lstore_n hx hb hd rfl (lh_prs hL) (stoL_spec hs).1 rfl (fun ls' h' => kk ls' H locs cells slots (lh_setL hs h') hR hS hc hz)
    · exact so_none
  · exact so_none
theorem s_astore (hx : p.tables.exec = Jvm.exec) (hb : c.code = cc) {k : Nat} (hd : decode cc pc = .ok (.astore k, 2)) : SO v p l e R s m args below meth c n0 z0 Q pc L st h (o_stA k (pc + 2) L st h) := by
  unfold o_stA
  split
  · rename_i x r
    split
    · rename_i L' hs
      cases x with
      | none => exact so_nx (by rw [(sto_spec hs).2.1, List.length_set]) fun kk ls H locs cells slots hL hR hS hc hz => lv_astoreN hx hb hd (lh_prs hL) (sto_spec hs).1 rfl (fun ls' h' => kk ls' H locs cells slots (lh_set hs h') hR hS hc hz)
      | some x => exact so_nx (by rw [(sto_spec hs).2.1, List.length_set]) fun kk ls H locs cells slots hL hR hS hc hz => lv_astore hx hb hd (lh_prs hL) (sto_spec hs).1 rfl (fun ls' h' => kk ls' H locs cells slots (lh_set hs h') hR hS hc hz)
    · exact so_none
  · exact so_none
theorem s_astore_n (hx : p.tables.exec = Jvm.exec) (hb : c.code = cc) {k : Fin 4} (hd : decode cc pc = .ok (.astore_n k, 1)) : SO v p l e R s m args below meth c n0 z0 Q pc L st h (o_stA k.val (pc + 1) L st h) := by
  unfold o_stA
  split
  · rename_i x r
    split
    · rename_i L' hs
      cases x with
      | none => exact so_nx (by rw [(sto_spec hs).2.1, List.length_set]) fun kk ls H locs cells slots hL hR hS hc hz => lv_astore_nN hx hb hd rfl (lh_prs hL) (sto_spec hs).1 rfl (fun ls' h' => kk ls' H locs cells slots (lh_set hs h') hR hS hc hz)
      | some x => exact so_nx (by rw [(sto_spec hs).2.1, List.length_set]) fun kk ls H locs cells slots hL hR hS hc hz => lv_astore_n hx hb hd rfl (lh_prs hL) (sto_spec hs).1 rfl (fun ls' h' => kk ls' H locs cells slots (lh_set hs h') hR hS hc hz)
    · exact so_none
  · exact so_none
theorem prs_idx {L : AL} {j : Nat} {v : AV} (h : L[j]? = some (some v)) : ∃ k : Nat, (prs L)[k]? = some (j, cv v) := List.getElem?_of_mem (prs_mem h)
theorem s_iinc (hx : p.tables.exec = Jvm.exec) (hb : c.code = cc) {k : Nat} {n : Int} (hd : decode cc pc = .ok (.iinc k n, 3)) : SO v p l e R s m args below meth c n0 z0 Q pc L st h (o_inc k n (pc + 3) L st h) := by
  unfold o_inc
  split
  · rename_i x hk
    split
    · rename_i L' hs
      obtain ⟨k', hk'⟩ := prs_idx hk
      exact so_nx (by rw [(sto_spec hs).2.1, List.length_set]) fun kk ls H locs cells slots hL hR hS hc hz => lv_iinc hx hb hd (lh_prs hL) hk' (by rw [Int32.ofInt_add]) (sto_spec hs).1 rfl (fun ls' h' => kk ls' H locs cells slots (lh_set hs h') hR hS hc hz)
    · exact so_none
  · exact so_none
theorem s_iadd (hx : p.tables.exec = Jvm.exec) (hb : c.code = cc) (hd : decode cc pc = .ok (.iadd, 1)) : SO v p l e R s m args below meth c n0 z0 Q pc L st h (o_bin (fun x y => x + y) (pc + 1) L st h) := by
  unfold o_bin
  split
  · rename_i y x r
    exact so_nx rfl fun kk ls H locs cells slots hL hR hS hc hz => lv_iadd hx hb hd (by
      have k := kk ls H locs cells slots hL hR hS hc hz
      simpa only [List.map_cons, cv, Int32.ofInt_add] using k)
  · exact so_none
theorem s_isub (hx : p.tables.exec = Jvm.exec) (hb : c.code = cc) (hd : decode cc pc = .ok (.isub, 1)) : SO v p l e R s m args below meth c n0 z0 Q pc L st h (o_bin (fun x y => x - y) (pc + 1) L st h) := by
  unfold o_bin
  split
  · rename_i y x r
    exact so_nx rfl fun kk ls H locs cells slots hL hR hS hc hz => lv_isub hx hb hd (by
      have k := kk ls H locs cells slots hL hR hS hc hz
      simpa only [List.map_cons, cv, Int32.ofInt_sub] using k)
  · exact so_none
theorem s_imul (hx : p.tables.exec = Jvm.exec) (hb : c.code = cc) (hd : decode cc pc = .ok (.imul, 1)) : SO v p l e R s m args below meth c n0 z0 Q pc L st h (o_bin (fun x y => x * y) (pc + 1) L st h) := by
  unfold o_bin
  split
  · rename_i y x r
    exact so_nx rfl fun kk ls H locs cells slots hL hR hS hc hz => lv_imul hx hb hd (by
      have k := kk ls H locs cells slots hL hR hS hc hz
      simpa only [List.map_cons, cv, Int32.ofInt_mul] using k)
  · exact so_none
theorem s_iand (hx : p.tables.exec = Jvm.exec) (hb : c.code = cc) (hd : decode cc pc = .ok (.iand, 1)) : SO v p l e R s m args below meth c n0 z0 Q pc L st h (o_bin f_and (pc + 1) L st h) := by
  unfold o_bin
  split
  · rename_i y x r
    exact so_nx rfl fun kk ls H locs cells slots hL hR hS hc hz => lv_iand hx hb hd (by
      have k := kk ls H locs cells slots hL hR hS hc hz
      simpa only [List.map_cons, cv, f_and, Int32.ofInt_toInt] using k)
  · exact so_none
theorem s_ishr (hx : p.tables.exec = Jvm.exec) (hb : c.code = cc) (hd : decode cc pc = .ok (.ishr, 1)) : SO v p l e R s m args below meth c n0 z0 Q pc L st h (o_bin f_shr (pc + 1) L st h) := by
  unfold o_bin
  split
  · rename_i y x r
    exact so_nx rfl fun kk ls H locs cells slots hL hR hS hc hz => lv_ishr hx hb hd (by
      have k := kk ls H locs cells slots hL hR hS hc hz
      simpa only [List.map_cons, cv, f_shr, Int32.ofInt_toInt] using k)
  · exact so_none
theorem s_land (hx : p.tables.exec = Jvm.exec) (hb : c.code = cc) (hd : decode cc pc = .ok (.land, 1)) : SO v p l e R s m args below meth c n0 z0 Q pc L st h (o_binL f_land (pc + 1) L st h) := by
  unfold o_binL
  split
  · rename_i y x r
    exact so_nx rfl fun kk ls H locs cells slots hL hR hS hc hz => lv_land hx hb hd (by
      have k := kk ls H locs cells slots hL hR hS hc hz
      simpa only [List.map_cons, cv, f_land, Int64.ofInt_toInt] using k)
  · exact so_none
theorem s_lor (hx : p.tables.exec = Jvm.exec) (hb : c.code = cc) (hd : decode cc pc = .ok (.lor, 1)) : SO v p l e R s m args below meth c n0 z0 Q pc L st h (o_binL f_lor (pc + 1) L st h) := by
  unfold o_binL
  split
  · rename_i y x r
    exact so_nx rfl fun kk ls H locs cells slots hL hR hS hc hz => lv_lor hx hb hd (by
      have k := kk ls H locs cells slots hL hR hS hc hz
      simpa only [List.map_cons, cv, f_lor, Int64.ofInt_toInt] using k)
  · exact so_none
theorem s_idiv (hx : p.tables.exec = Jvm.exec) (hb : c.code = cc) (hd : decode cc pc = .ok (.idiv, 1)) : SO v p l e R s m args below meth c n0 z0 Q pc L st h (o_div (pc + 1) L st h) := by
  unfold o_div
  split
  · rename_i y x r
    split
    · rename_i hc0
      obtain ⟨h1, h2, h3⟩ := hc0
      have e1 : Int32.ofInt (x.tdiv y) = Int32.ofInt x / Int32.ofInt y := by
        apply Int32.toInt_inj.mp
        rw [Int32.toInt_div_of_ne_right _ _ (fun q => by
          have := congrArg Int32.toInt q
          rw [i_to h2] at this
          rw [this] at h3
          exact absurd h3 (by decide)), i_to h1, i_to h2, i_to]
        refine ⟨?_, ?_⟩
        · rcases Int.le_total 0 x with q | q
          · have := Int.tdiv_nonneg q (Int.le_of_lt h3)
            omega
          · have h4 := Int.neg_tdiv x y
            have h5 : (-x).tdiv y ≤ -x := Int.tdiv_le_self _ (by omega)
            omega
        · rcases Int.le_total 0 x with q | q
          · have h5 : x.tdiv y ≤ x := Int.tdiv_le_self _ q
            omega
          · have h4 := Int.neg_tdiv x y
            have h5 := Int.tdiv_nonneg (a := -x) (b := y) (by omega) (Int.le_of_lt h3)
            omega
      exact so_nx rfl fun kk ls H locs cells slots hL hR hS hc hz => lv_idiv hx hb hd (fun q => by
        rw [i_0, i_eq h2 inR_0] at q
        omega) (by
        have k := kk ls H locs cells slots hL hR hS hc hz
        simpa only [List.map_cons, cv, e1] using k)
    · exact so_none
  · exact so_none
theorem s_lshl (hx : p.tables.exec = Jvm.exec) (hb : c.code = cc) (hd : decode cc pc = .ok (.lshl, 1)) : SO v p l e R s m args below meth c n0 z0 Q pc L st h (o_lshl (pc + 1) L st h) := by
  unfold o_lshl
  split
  · rename_i y x r
    exact so_nx rfl fun kk ls H locs cells slots hL hR hS hc hz => lv_lshl hx hb hd rfl (by
      have k := kk ls H locs cells slots hL hR hS hc hz
      simpa only [List.map_cons, cv, f_lshl, Int64.ofInt_toInt] using k)
  · exact so_none
theorem s_i2l (hx : p.tables.exec = Jvm.exec) (hb : c.code = cc) (hd : decode cc pc = .ok (.i2l, 1)) : SO v p l e R s m args below meth c n0 z0 Q pc L st h (o_i2l (pc + 1) L st h) := by
  unfold o_i2l
  split
  · rename_i x r
    split
    · rename_i h1
      exact so_nx rfl fun kk ls H locs cells slots hL hR hS hc hz => lv_i2l hx hb hd (i_i2l h1) (kk ls H locs cells slots hL hR hS hc hz)
    · exact so_none
  · exact so_none
theorem s_l2i (hx : p.tables.exec = Jvm.exec) (hb : c.code = cc) (hd : decode cc pc = .ok (.l2i, 1)) : SO v p l e R s m args below meth c n0 z0 Q pc L st h (o_l2i (pc + 1) L st h) := by
  unfold o_l2i
  split
  · rename_i x r
    exact so_nx rfl fun kk ls H locs cells slots hL hR hS hc hz => lv_l2i hx hb hd Int64.toInt32_ofInt (kk ls H locs cells slots hL hR hS hc hz)
  · exact so_none
theorem s_lcmp (hx : p.tables.exec = Jvm.exec) (hb : c.code = cc) (hd : decode cc pc = .ok (.lcmp, 1)) : SO v p l e R s m args below meth c n0 z0 Q pc L st h (o_lcmp (pc + 1) L st h) := by
  unfold o_lcmp
  split
  · rename_i y x r
    split
    · rename_i h1
      exact so_nx rfl fun kk ls H locs cells slots hL hR hS hc hz => W.lcmp hx hb hd (by
        rw [i_cmp h1.1 h1.2]
        exact kk ls H locs cells slots hL hR hS hc hz)
    · exact so_none
  · exact so_none
theorem s_dup (hx : p.tables.exec = Jvm.exec) (hb : c.code = cc) (hd : decode cc pc = .ok (.dup, 1)) : SO v p l e R s m args below meth c n0 z0 Q pc L st h (o_dup (pc + 1) L st h) := by
  unfold o_dup
  split
  · rename_i w r
    split
    · rename_i h1
      exact so_nx rfl fun kk ls H locs cells slots hL hR hS hc hz => lv_dup hx hb hd (cv_one h1) (kk ls H locs cells slots hL hR hS hc hz)
    · exact so_none
  · exact so_none
theorem s_pop (hx : p.tables.exec = Jvm.exec) (hb : c.code = cc) (hd : decode cc pc = .ok (.pop, 1)) : SO v p l e R s m args below meth c n0 z0 Q pc L st h (o_pop (pc + 1) L st h) := by
  unfold o_pop
  split
  · rename_i w r
    split
    · rename_i h1
      exact so_nx rfl fun kk ls H locs cells slots hL hR hS hc hz => lv_pop hx hb hd (cv_one h1) (kk ls H locs cells slots hL hR hS hc hz)
    · exact so_none
  · exact so_none
theorem s_dup_x1 (hx : p.tables.exec = Jvm.exec) (hb : c.code = cc) (hd : decode cc pc = .ok (.dup_x1, 1)) : SO v p l e R s m args below meth c n0 z0 Q pc L st h (o_dupx1 (pc + 1) L st h) := by
  unfold o_dupx1
  split
  · rename_i w x r
    split
    · rename_i h1
      have h1 := Bool.and_eq_true_iff.mp h1
      exact so_nx rfl fun kk ls H locs cells slots hL hR hS hc hz => lv_dup_x1 hx hb hd (cv_one h1.1) (cv_one h1.2) (kk ls H locs cells slots hL hR hS hc hz)
    · exact so_none
  · exact so_none
theorem s_dup2 (hx : p.tables.exec = Jvm.exec) (hb : c.code = cc) (hd : decode cc pc = .ok (.dup2, 1)) : SO v p l e R s m args below meth c n0 z0 Q pc L st h (o_dup2 (pc + 1) L st h) := by
  unfold o_dup2
  split
  · rename_i w x r
    split
    · rename_i h1
      have h1 := Bool.and_eq_true_iff.mp h1
      exact so_nx rfl fun kk ls H locs cells slots hL hR hS hc hz => lv_dup2_11 hx hb hd (cv_one h1.1) (cv_one h1.2) (kk ls H locs cells slots hL hR hS hc hz)
    · exact so_none
  · exact so_none
theorem tg_eq {pc : Nat} {off : Int} (h : 0 ≤ (pc : Int) + off) : (pc : Int) + off = ((tg pc off : Nat) : Int) := (Int.toNat_of_nonneg h).symm
theorem so_br {b : Prop} {b1 : Bool} {t u : Nat} {st' : List AV} (hbb : b1 = true ↔ b) (row : ∀ (ls : Array Slot) (H : Heap) (locs : List Loc) (cells slots : Nat), (b → W p l e R s m args below meth c H locs cells slots Q (F0 m t ls (st'.map cv))) → (¬ b → W p l e R s m args below meth c H locs cells slots Q (F0 m u ls (st'.map cv))) → W p l e R s m args below meth c H locs cells slots Q (F0 m pc ls (st.map cv))) :
    SO v p l e R s m args below meth c n0 z0 Q pc L st h (if b1 then nx t L st' h else nx u L st' h) := by
  split
  · rename_i h1
    exact so_nx rfl fun kk ls H locs cells slots hL hR hS hc hz => row ls H locs cells slots (fun _ => kk ls H locs cells slots hL hR hS hc hz) (fun q => absurd (hbb.mp h1) q)
  · rename_i h1
    exact so_nx rfl fun kk ls H locs cells slots hL hR hS hc hz => row ls H locs cells slots (fun q => absurd (hbb.mpr q) h1) (fun _ => kk ls H locs cells slots hL hR hS hc hz)
theorem s_if (hx : p.tables.exec = Jvm.exec) (hb : c.code = cc) {cnd : ClassFile.Cond} {off : Int} (hd : decode cc pc = .ok (.ifCond cnd off, 3)) (ht : 0 ≤ (pc : Int) + off) : SO v p l e R s m args below meth c n0 z0 Q pc L st h (o_if cnd (tg pc off) (pc + 3) L st h) := by
  unfold o_if
  split
  · rename_i x r
    split
    · rename_i hr
      cases cnd with
      | eq => exact so_br (b := x = 0) (by simp [cmpI]) fun ls H locs cells slots k1 k2 => lv_if_eq hx hb hd (tg_eq ht) (fun q => k1 ((z_eq hr).mp q)) (fun q => k2 (fun z => q ((z_eq hr).mpr z)))
      | ne => exact so_br (b := ¬ x = 0) (by simp [cmpI]) fun ls H locs cells slots k1 k2 => lv_if_ne hx hb hd (tg_eq ht) (fun q => k1 (fun z => q ((z_eq hr).mpr z))) (fun q => k2 (fun z => z ((z_eq hr).mp q)))
      | lt => exact so_br (b := x < 0) (by simp [cmpI]) fun ls H locs cells slots k1 k2 => lv_if_lt hx hb hd (tg_eq ht) (fun q => k1 ((z_lt hr).mp q)) (fun q => k2 (fun z => q ((z_lt hr).mpr z)))
      | ge => exact so_br (b := 0 ≤ x) (by simp [cmpI]) fun ls H locs cells slots k1 k2 => lv_if_ge hx hb hd (tg_eq ht) (fun q => k1 ((z_ge hr).mp q)) (fun q => k2 (fun z => q ((z_ge hr).mpr z)))
      | gt => exact so_br (b := 0 < x) (by simp [cmpI]) fun ls H locs cells slots k1 k2 => lv_if_gt hx hb hd (tg_eq ht) (fun q => k1 ((z_gt hr).mp q)) (fun q => k2 (fun z => q ((z_gt hr).mpr z)))
      | le => exact so_br (b := x ≤ 0) (by simp [cmpI]) fun ls H locs cells slots k1 k2 => lv_if_le hx hb hd (tg_eq ht) (fun q => k1 ((z_le hr).mp q)) (fun q => k2 (fun z => q ((z_le hr).mpr z)))
    · exact so_none
  · exact so_none
theorem s_icmp (hx : p.tables.exec = Jvm.exec) (hb : c.code = cc) {cnd : ClassFile.Cond} {off : Int} (hd : decode cc pc = .ok (.if_icmp cnd off, 3)) (ht : 0 ≤ (pc : Int) + off) : SO v p l e R s m args below meth c n0 z0 Q pc L st h (o_icmp cnd (tg pc off) (pc + 3) L st h) := by
  unfold o_icmp
  split
  · rename_i y x r
    split
    · rename_i hr
      cases cnd with
      | eq => exact so_br (b := x = y) (by simp [cmpI]) fun ls H locs cells slots k1 k2 => lv_icmp_eq hx hb hd (tg_eq ht) (fun q => k1 ((i_eq hr.1 hr.2).mp q)) (fun q => k2 (fun z => q ((i_eq hr.1 hr.2).mpr z)))
      | ne => exact so_br (b := ¬ x = y) (by simp [cmpI]) fun ls H locs cells slots k1 k2 => lv_icmp_ne hx hb hd (tg_eq ht) (fun q => k1 (fun z => q ((i_eq hr.1 hr.2).mpr z))) (fun q => k2 (fun z => z ((i_eq hr.1 hr.2).mp q)))
      | lt => exact so_br (b := x < y) (by simp [cmpI]) fun ls H locs cells slots k1 k2 => lv_icmp_lt hx hb hd (tg_eq ht) (fun q => k1 ((i_lt hr.1 hr.2).mp q)) (fun q => k2 (fun z => q ((i_lt hr.1 hr.2).mpr z)))
      | ge => exact so_br (b := y ≤ x) (by simp [cmpI]) fun ls H locs cells slots k1 k2 => lv_icmp_ge hx hb hd (tg_eq ht) (fun q => k1 ((i_le hr.2 hr.1).mp q)) (fun q => k2 (fun z => q ((i_le hr.2 hr.1).mpr z)))
      | gt => exact so_br (b := y < x) (by simp [cmpI]) fun ls H locs cells slots k1 k2 => lv_icmp_gt hx hb hd (tg_eq ht) (fun q => k1 ((i_lt hr.2 hr.1).mp q)) (fun q => k2 (fun z => q ((i_lt hr.2 hr.1).mpr z)))
      | le => exact so_br (b := x ≤ y) (by simp [cmpI]) fun ls H locs cells slots k1 k2 => lv_icmp_le hx hb hd (tg_eq ht) (fun q => k1 ((i_le hr.1 hr.2).mp q)) (fun q => k2 (fun z => q ((i_le hr.1 hr.2).mpr z)))
    · exact so_none
  · exact so_none
theorem s_acmp (hx : p.tables.exec = Jvm.exec) (hb : c.code = cc) {cnd : ACond} {off : Int} (hd : decode cc pc = .ok (.if_acmp cnd off, 3)) (ht : 0 ≤ (pc : Int) + off) : SO v p l e R s m args below meth c n0 z0 Q pc L st h (o_acmp cnd (tg pc off) (pc + 3) L st h) := by
  unfold o_acmp
  split
  · rename_i y x r
    cases cnd with
    | eq =>
      refine so_br (b := x = y) (by simp) fun ls H locs cells slots k1 k2 => ?_
      simp only [List.map_cons]
      rw [cv_q, cv_q]
      exact lv_acmp_eq hx hb hd (tg_eq ht) k1 k2
    | ne =>
      refine so_br (b := x = y) (by simp) fun ls H locs cells slots k1 k2 => ?_
      simp only [List.map_cons]
      rw [cv_q, cv_q]
      exact lv_acmp_ne hx hb hd (tg_eq ht) k2 k1
  · exact so_none
theorem s_ifnull (hx : p.tables.exec = Jvm.exec) (hb : c.code = cc) {off : Int} (hd : decode cc pc = .ok (.ifnull off, 3)) (ht : 0 ≤ (pc : Int) + off) : SO v p l e R s m args below meth c n0 z0 Q pc L st h (o_null true (tg pc off) (pc + 3) L st h) := by
  unfold o_null
  split
  · exact so_nx rfl fun kk ls H locs cells slots hL hR hS hc hz => lv_ifnullN hx hb hd (tg_eq ht) (kk ls H locs cells slots hL hR hS hc hz)
  · exact so_nx rfl fun kk ls H locs cells slots hL hR hS hc hz => lv_ifnull hx hb hd (kk ls H locs cells slots hL hR hS hc hz)
  · exact so_none
theorem s_ifnonnull (hx : p.tables.exec = Jvm.exec) (hb : c.code = cc) {off : Int} (hd : decode cc pc = .ok (.ifnonnull off, 3)) (ht : 0 ≤ (pc : Int) + off) : SO v p l e R s m args below meth c n0 z0 Q pc L st h (o_null false (tg pc off) (pc + 3) L st h) := by
  unfold o_null
  split
  · exact so_nx rfl fun kk ls H locs cells slots hL hR hS hc hz => lv_ifnonnullN hx hb hd (kk ls H locs cells slots hL hR hS hc hz)
  · exact so_nx rfl fun kk ls H locs cells slots hL hR hS hc hz => lv_ifnonnull hx hb hd (tg_eq ht) (kk ls H locs cells slots hL hR hS hc hz)
  · exact so_none
theorem s_goto (hx : p.tables.exec = Jvm.exec) (hb : c.code = cc) {off : Int} (hd : decode cc pc = .ok (.goto off, 3)) (ht : 0 ≤ (pc : Int) + off) : SO v p l e R s m args below meth c n0 z0 Q pc L st h (nx (tg pc off) L st h) :=
  so_nx rfl fun kk ls H locs cells slots hL hR hS hc hz => lv_goto hx hb hd (tg_eq ht) (kk ls H locs cells slots hL hR hS hc hz)
theorem s_tab (hx : p.tables.exec = Jvm.exec) (hb : c.code = cc) {d lo hi : Int} {offs : Array Int} {len : Nat} (hd : decode cc pc = .ok (.tableswitch d lo hi offs, len)) (ht : 0 ≤ (pc : Int) + d) (hts : ∀ o ∈ offs.toList, 0 ≤ (pc : Int) + o) : SO v p l e R s m args below meth c n0 z0 Q pc L st h (o_tab d lo hi offs pc L st h) := by
  unfold o_tab
  split
  · rename_i x r
    split
    · rename_i hr
      split
      · rename_i h1
        exact so_nx rfl fun kk ls H locs cells slots hL hR hS hc hz => lv_tableOut hx hb hd (by rw [i_to hr]; exact h1) (tg_eq ht) (kk ls H locs cells slots hL hR hS hc hz)
      · rename_i h1
        split
        · rename_i o ho
          exact so_nx rfl fun kk ls H locs cells slots hL hR hS hc hz => lv_tableIn hx hb hd (by rw [i_to hr]; exact fun q => h1 (Or.inl q)) (by rw [i_to hr]; exact fun q => h1 (Or.inr q)) (by rw [i_to hr]; exact ho) (tg_eq (hts o (by
            rw [← Array.getElem?_toList] at ho
            exact List.mem_of_getElem? ho))) (kk ls H locs cells slots hL hR hS hc hz)
        · exact so_none
    · exact so_none
  · exact so_none
theorem s_alen (hx : p.tables.exec = Jvm.exec) (hb : c.code = cc) (hK : va_K v.D classes (tysOf v) s) (hlo : Lo v s) (hd : decode cc pc = .ok (.arraylength, 1)) : SO v p l e R s m args below meth c n0 z0 Q pc L st h (o_alen (pc + 1) L st h) := by
  unfold o_alen
  split
  · rename_i a r
    split
    · rename_i t n x he
      refine so_nx rfl fun kk ls H locs cells slots hL hR hS hc hz => ?_
      rcases hR.2.2.1 a _ he with ⟨q1, q2⟩ | ⟨q1, ⟨q2, q3⟩ | ⟨q2, q3⟩⟩
      · obtain ⟨ty, hty⟩ := tys_at v ((hR.2.2.2.1 a t n x he).2 q1)
        exact va_alen hx hb hK hR.2.1 (a - v.b0) t (ws_get he q1 q2) hty i_len hd (kk ls H locs cells slots hL hR hS hc hz)
      · cases q3
        subst q2
        exact va_slen hx hb hlo.1 (Nat.lt_of_lt_of_le q1 hlo.2.2.2.2) (by show ¬ v.b0 ≤ _; omega) hS hd (by
          rw [i_len]
          exact kk ls H locs cells slots hL hR hS hc hz)
      · cases q3
        subst q2
        exact va_tlen hx hb hlo.2.2.1 hS i_len hd (kk ls H locs cells slots hL hR hS hc hz)
    · exact so_none
  · exact so_none
theorem s_iald (hx : p.tables.exec = Jvm.exec) (hb : c.code = cc) (hK : va_K v.D classes (tysOf v) s) (hlo : Lo v s) (hd : decode cc pc = .ok (.iaload, 1)) : SO v p l e R s m args below meth c n0 z0 Q pc L st h (o_iald (pc + 1) L st h) := by
  unfold o_iald
  split
  · rename_i i a r
    split
    · rename_i t n F he
      split
      · rename_i hc0
        obtain ⟨ht, h1, h2⟩ := hc0
        refine so_nx rfl fun kk ls H locs cells slots hL hR hS hc hz => ?_
        obtain ⟨e1, e2⟩ := i_in (hR.2.2.2.1 a t n _ he).1 h1 h2
        rcases ht with rfl | rfl
        · obtain ⟨q1, q2⟩ := hR.arr he (by decide) h1 h2
          refine va_iald hx hb hK hR.2.1 (a - v.b0) 0 (ws_get he q1 q2) rfl e1 hd ?_
          rw [e2]
          exact kk ls H locs cells slots hL hR hS hc hz
        · rcases hR.2.2.1 a _ he with ⟨q1, q2⟩ | ⟨q1, ⟨q2, q3⟩ | ⟨q2, q3⟩⟩
          · exact absurd ((hR.2.2.2.1 a _ n _ he).2 q1) (by decide)
          · cases q3
            subst q2
            refine va_sld hx hb hlo.1 (Nat.lt_of_lt_of_le q1 hlo.2.2.2.2) (by show ¬ v.b0 ≤ _; omega) hS e1 hd ?_
            rw [e2]
            exact kk ls H locs cells slots hL hR hS hc hz
          · cases q3
      · exact so_none
    · exact so_none
  · exact so_none
theorem s_bald (hx : p.tables.exec = Jvm.exec) (hb : c.code = cc) (hK : va_K v.D classes (tysOf v) s) (hd : decode cc pc = .ok (.baload, 1)) : SO v p l e R s m args below meth c n0 z0 Q pc L st h (o_bald (pc + 1) L st h) := by
  unfold o_bald
  split
  · rename_i i a r
    split
    · rename_i t n F he
      split
      · rename_i hc0
        obtain ⟨ht, h1, h2⟩ := hc0
        refine so_nx rfl fun kk ls H locs cells slots hL hR hS hc hz => ?_
        obtain ⟨e1, e2⟩ := i_in (hR.2.2.2.1 a t n _ he).1 h1 h2
        have ht : t = 2 := ht
        subst ht
        obtain ⟨q1, q2⟩ := hR.arr he (by decide) h1 h2
        refine va_zald hx hb hK hR.2.1 (a - v.b0) 2 (ws_get he q1 q2) rfl e1 hd ?_
        rw [e2]
        exact kk ls H locs cells slots hL hR hS hc hz
      · exact so_none
    · exact so_none
  · exact so_none
theorem s_lald (hx : p.tables.exec = Jvm.exec) (hb : c.code = cc) (hK : va_K v.D classes (tysOf v) s) (hd : decode cc pc = .ok (.laload, 1)) : SO v p l e R s m args below meth c n0 z0 Q pc L st h (o_lald (pc + 1) L st h) := by
  unfold o_lald
  split
  · rename_i i a r
    split
    · rename_i n F he
      split
      · rename_i hc0
        obtain ⟨h1, h2⟩ := hc0
        refine so_nx rfl fun kk ls H locs cells slots hL hR hS hc hz => ?_
        obtain ⟨e1, e2⟩ := i_in (hR.2.2.2.1 a _ n _ he).1 h1 h2
        obtain ⟨q1, q2⟩ := hR.arr he (by decide) h1 h2
        refine va_lald hx hb hK hR.2.1 (a - v.b0) 1 (ws_get he q1 q2) rfl e1 hd ?_
        rw [e2]
        exact kk ls H locs cells slots hL hR hS hc hz
      · exact so_none
    · exact so_none
  · exact so_none
theorem s_aald (hx : p.tables.exec = Jvm.exec) (hb : c.code = cc) (hK : va_K v.D classes (tysOf v) s) (hd : decode cc pc = .ok (.aaload, 1)) : SO v p l e R s m args below meth c n0 z0 Q pc L st h (o_aald (pc + 1) L st h) := by
  unfold o_aald
  split
  · rename_i i a r
    split
    · rename_i t n F he
      split
      · rename_i hc0
        obtain ⟨ht, h1, h2⟩ := hc0
        refine so_nx rfl fun kk ls H locs cells slots hL hR hS hc hz => ?_
        obtain ⟨e1, e2⟩ := i_in (hR.2.2.2.1 a _ n _ he).1 h1 h2
        have k := kk ls H locs cells slots hL hR hS hc hz
        rw [List.map_cons, cv_q] at k
        rcases ht with rfl | rfl
        · obtain ⟨q1, q2⟩ := hR.arr he (by decide) h1 h2
          refine va_aldq hx hb hK hR.2.1 (a - v.b0) 3 (ws_get he q1 q2) rfl e1 hd ?_
          rw [e2]
          exact k
        · obtain ⟨q1, q2⟩ := hR.arr he (by decide) h1 h2
          refine va_aldq hx hb hK hR.2.1 (a - v.b0) 4 (ws_get he q1 q2) rfl e1 hd ?_
          rw [e2]
          exact k
      · exact so_none
    · exact so_none
  · exact so_none
/-- one of our cells is changed -/
theorem so_put {pc' : Nat} {st' : List AV} {a : Nat} {x : AE} (row : ∀ (ls : Array Slot) (H : Heap) (locs : List Loc) (cells slots : Nat), Lh ls L → Rl v h H → va_S (fun q => v.b0 ≤ q) s.heap H locs → (∀ (H1 : Heap) (locs1 : List Loc), Rl v (hput h a x) H1 → va_S (fun q => v.b0 ≤ q) s.heap H1 locs1 → W p l e R s m args below meth c H1 locs1 cells slots Q (F0 m pc' ls (st'.map cv))) → W p l e R s m args below meth c H locs cells slots Q (F0 m pc ls (st.map cv))) :
    SO v p l e R s m args below meth c n0 z0 Q pc L st h (nx pc' L st' (hput h a x)) := by
  intro a b c d q
  cases q
  exact ⟨rfl, Nat.le_refl _, Nat.le_refl _, fun _ _ kk ls H locs cells slots hL hR hS hc hz => row ls H locs cells slots hL hR hS (fun H1 locs1 hR1 hS1 => kk ls H1 locs1 cells slots hL hR1 hS1 hc hz)⟩
theorem s_iast (hx : p.tables.exec = Jvm.exec) (hb : c.code = cc) (hK : va_K v.D classes (tysOf v) s) (hd : decode cc pc = .ok (.iastore, 1)) : SO v p l e R s m args below meth c n0 z0 Q pc L st h (o_iast (pc + 1) L st h) := by
  unfold o_iast
  split
  · rename_i x i a r
    split
    · rename_i t n F he
      split
      · rename_i hc0
        obtain ⟨ht, h1, h2⟩ := hc0
        have ht : t = 0 := ht
        subst ht
        refine so_put fun ls H locs cells slots hL hR hS kk => ?_
        obtain ⟨e1, e2⟩ := i_in (hR.2.2.2.1 a _ n _ he).1 h1 h2
        obtain ⟨q1, q2⟩ := hR.arr he (by decide) h1 h2
        refine va_iast hx hb hK hR.2.1 (ws_D v h) hS (a - v.b0) 0 (ws_get he q1 q2) rfl e1 hd fun H1 locs1 hP1 hD1 hS1 => kk H1 locs1 (hR.put q1 q2 ?_ ?_) hS1
        · intro t' n' x' e; cases e; exact ⟨(hR.2.2.2.1 a _ n _ he).1, by decide⟩
        · rw [← ws_put _ q1 q2]
          rw [e2, upd_up] at hP1
          exact hP1
      · exact so_none
    · exact so_none
  · exact so_none
theorem nar_b {x : Int} (h : x = 0 ∨ x = 1) : vp_nar .boolean (Int32.ofInt x) = Int32.ofInt x := by
  rcases h with rfl | rfl <;> decide
theorem s_bast (hx : p.tables.exec = Jvm.exec) (hb : c.code = cc) (hK : va_K v.D classes (tysOf v) s) (hd : decode cc pc = .ok (.bastore, 1)) : SO v p l e R s m args below meth c n0 z0 Q pc L st h (o_bast (pc + 1) L st h) := by
  unfold o_bast
  split
  · rename_i x i a r
    split
    · rename_i t n F he
      split
      · rename_i hc0
        obtain ⟨ht, h1, h2⟩ := hc0
        have ht : t = 2 ∧ (x = 0 ∨ x = 1) := ht
        obtain ⟨rfl, hx01⟩ := ht
        refine so_put fun ls H locs cells slots hL hR hS kk => ?_
        obtain ⟨e1, e2⟩ := i_in (hR.2.2.2.1 a _ n _ he).1 h1 h2
        obtain ⟨q1, q2⟩ := hR.arr he (by decide) h1 h2
        refine va_zast hx hb hK hR.2.1 (ws_D v h) hS (a - v.b0) 2 (ws_get he q1 q2) rfl e1 hd fun H1 locs1 hP1 hD1 hS1 => kk H1 locs1 (hR.put q1 q2 ?_ ?_) hS1
        · intro t' n' x' e; cases e; exact ⟨(hR.2.2.2.1 a _ n _ he).1, by decide⟩
        · rw [← ws_put _ q1 q2]
          rw [e2, nar_b hx01, upd_up] at hP1
          exact hP1
      · exact so_none
    · exact so_none
  · exact so_none
theorem s_last (hx : p.tables.exec = Jvm.exec) (hb : c.code = cc) (hK : va_K v.D classes (tysOf v) s) (hd : decode cc pc = .ok (.lastore, 1)) : SO v p l e R s m args below meth c n0 z0 Q pc L st h (o_last (pc + 1) L st h) := by
  unfold o_last
  split
  · rename_i x i a r
    split
    · rename_i n F he
      split
      · rename_i hc0
        obtain ⟨h1, h2⟩ := hc0
        refine so_put fun ls H locs cells slots hL hR hS kk => ?_
        obtain ⟨e1, e2⟩ := i_in (hR.2.2.2.1 a _ n _ he).1 h1 h2
        obtain ⟨q1, q2⟩ := hR.arr he (by decide) h1 h2
        refine va_last hx hb hK hR.2.1 (ws_D v h) hS (a - v.b0) 1 (ws_get he q1 q2) rfl e1 hd fun H1 locs1 hP1 hD1 hS1 => kk H1 locs1 (hR.put q1 q2 ?_ ?_) hS1
        · intro t' n' x' e; cases e; exact ⟨(hR.2.2.2.1 a _ n _ he).1, by decide⟩
        · rw [← ws_put _ q1 q2]
          rw [e2, updL_up] at hP1
          exact hP1
      · exact so_none
    · exact so_none
  · exact so_none
theorem W.mono {Q1 Q2 : State → Prop} {H : Heap} {locs : List Loc} {cells slots : Nat} {g : JFrame} (h : ∀ t, Q1 t → Q2 t) (w : W p l e R s m args below meth c H locs cells slots Q1 g) : W p l e R s m args below meth c H locs cells slots Q2 g := fun T hT X => by
  obtain ⟨t, a, b⟩ := w T hT X
  exact ⟨t, a, h t b⟩
/-- the answer, as the machine has it -/
def oc (r : AR) (o : Outcome) : Prop := match r with
  | .inl w => o = .returned (w.map cv)
  | .inr q => o = .threw q.2
/-- what an end must give -/
def EO (v : EV) (s : State) (below : List Frame) (n0 z0 : Nat) (Q : State → Prop) (r : AR) (h : AH) : Prop :=
  ∀ (t : State) (o : Outcome) (L : List Loc) (cells slots : Nat), oc r o → Rl v h t.heap → va_F (fun q => v.b0 ≤ q) s t → h.2.1 = n0 + cells → h.2.2.1 = z0 + slots → t.status = .running → Ended t below o → s.WarmedH t.vm → s.sameButNew ({ t with vm := s.vm } : State) L cells slots → (∀ q ∈ L, v.b0 ≤ q.base) → Q t
/-- an instruction that ends the method is right -/
def SE (v : EV) (p : Program) (l : Launch) (e : Env) (R : Room) (s : State) (m : MethodId) (args : Array Value) (below : List Frame) (meth : Method) (c : Code) (n0 z0 : Nat) (Q : State → Prop) (pc : Nat) (L : AL) (st : List AV) (h : AH) (act : Act) : Prop :=
  ∀ r h', act = some (.inr (.inl (r, h'))) → h.2.1 ≤ h'.2.1 ∧ h.2.2.1 ≤ h'.2.2.1 ∧ (∀ ci a, r = .inr (ci, a) → ∃ fs, h'.1 a = some (.inr (ci, fs))) ∧ (h'.2.1 ≤ n0 + R.cells → h'.2.2.1 ≤ z0 + R.slots → EO v s below n0 z0 Q r h' → WW v p l e R s m args below meth c n0 z0 Q pc L st h)
theorem se_none : SE v p l e R s m args below meth c n0 z0 Q pc L st h none := by
  intro a b q
  cases q
theorem se_ret {w : Option AV} (row : ∀ (ls : Array Slot) (H : Heap) (locs : List Loc) (cells slots : Nat), va_S (fun q => v.b0 ≤ q) s.heap H locs → W p l e R s m args below meth c H locs cells slots (MQ below (fun _ _ o t => o = .returned (w.map cv) ∧ t.heap = H) args s cells slots (fun q => v.b0 ≤ q)) (F0 m pc ls (st.map cv))) : SE v p l e R s m args below meth c n0 z0 Q pc L st h (fin (.inl w) h) := by
  intro r h' q
  cases q
  refine ⟨Nat.le_refl _, Nat.le_refl _, fun ci a q => by (cases q), fun _ _ hE ls H locs cells slots hL hR hS hc hz => W.mono (fun t ht => ?_) (row ls H locs cells slots hS)⟩
  obtain ⟨o, h1, h2, ⟨h3, h4⟩, L', ⟨-, h5, h6⟩, h7⟩ := ht
  exact hE t o L' cells slots h3 (by rw [h4]; exact hR) (hS.F h4) hc hz h1 h2 h5 h6 h7
theorem e_ret (hx : p.tables.exec = Jvm.exec) (hb : c.code = cc) (hr : meth.sig.returnType = some .int) (hlocks : meth.locks = false) (hd : decode cc pc = .ok (.ireturn, 1)) : SE v p l e R s m args below meth c n0 z0 Q pc L st h (o_ret false st h) := by
  unfold o_ret
  split
  · rename_i x
    exact se_ret fun ls H locs cells slots hS => W.iret hx hb hr (fun t ht _ => ⟨rfl, ht⟩) hS.2.2 hd hlocks
  · exact se_none
theorem e_zret (hx : p.tables.exec = Jvm.exec) (hb : c.code = cc) (hr : meth.sig.returnType = some .boolean) (hlocks : meth.locks = false) (hd : decode cc pc = .ok (.ireturn, 1)) : SE v p l e R s m args below meth c n0 z0 Q pc L st h (o_ret true st h) := by
  unfold o_ret
  split
  · rename_i x
    rw [if_pos rfl]
    split
    · rename_i hx01
      refine se_ret fun ls H locs cells slots hS => W.zret (ty := .boolean) hx hb hr ?_ (fun t ht _ => ⟨rfl, ht⟩) hS.2.2 hd hlocks
      rcases hx01 with rfl | rfl
      · rw [lit0]; exact narrow_b0
      · rw [lit1]; exact narrow_b1
    · exact se_none
  · exact se_none
theorem e_lret (hx : p.tables.exec = Jvm.exec) (hb : c.code = cc) (hr : meth.sig.returnType = some .long) (hlocks : meth.locks = false) (hd : decode cc pc = .ok (.lreturn, 1)) : SE v p l e R s m args below meth c n0 z0 Q pc L st h (o_lret st h) := by
  unfold o_lret
  split
  · rename_i x
    exact se_ret fun ls H locs cells slots hS => W.lret hx hb hr (fun t ht _ => ⟨rfl, ht⟩) hS.2.2 hd hlocks
  · exact se_none
theorem e_aret (hx : p.tables.exec = Jvm.exec) (hb : c.code = cc) {rt : FieldType} (hr : meth.sig.returnType = some rt) (hrt : (∃ n, rt = .object n) ∨ ∃ t, rt = .array t) (hlocks : meth.locks = false) (hd : decode cc pc = .ok (.areturn, 1)) : SE v p l e R s m args below meth c n0 z0 Q pc L st h (o_aret st h) := by
  unfold o_aret
  split
  · rename_i x
    exact se_ret fun ls H locs cells slots hS => W.aret (v := cv (aQ x)) hx hb hr hrt (by cases x with
      | none => exact Or.inl rfl
      | some a => exact Or.inr ⟨a, rfl⟩) (fun t ht _ => ⟨rfl, ht⟩) hS.2.2 hd hlocks
  · exact se_none
theorem e_vret (hx : p.tables.exec = Jvm.exec) (hb : c.code = cc) (hr : meth.sig.returnType = none) (hlocks : meth.locks = false) (hd : decode cc pc = .ok (.return_, 1)) : SE v p l e R s m args below meth c n0 z0 Q pc L st h (o_vret st h) := by
  unfold o_vret
  split
  · exact se_ret fun ls H locs cells slots hS => W.vret hx hb hr (fun t ht _ => ⟨rfl, ht⟩) hS.2.2 hd hlocks
  · exact se_none
/-! making cells -/
theorem new_addr {x : va_E} {q : Nat} {H1 : Heap} (hP : va_P v.D classes (wsOf v h ++ [(q, x)]) H1) (hD : va_D (fun q => v.b0 ≤ q) (wsOf v h ++ [(q, x)])) (hz : H1.size ≤ h.2.1 + 1) : q = h.2.1 := by
  have hq : (wsOf v h ++ [(q, x)])[(wsOf v h).length]? = some (q, x) := by simp
  have h1 : q < H1.size := (hP _ _ hq).lt
  have h2 : v.b0 ≤ q := hD.2 _ _ hq
  rcases Nat.lt_or_ge q h.2.1 with h3 | h3
  · have h4 : q - v.b0 < h.2.1 - v.b0 := by omega
    have h5 : (wsOf v h ++ [(q, x)])[q - v.b0]? = some (v.b0 + (q - v.b0), cE v.dA ((h.1 (v.b0 + (q - v.b0))).getD (.inr (0, [])))) := by
      rw [List.getElem?_append_left (by rw [ws_len]; exact h4)]
      exact ws_at v h h4
    have h6 := hD.1 _ _ _ _ hq h5 (show q = v.b0 + (q - v.b0) by omega)
    rw [ws_len] at h6
    omega
  · omega
theorem so_new {pc' k : Nat} {st' : List AV} {x : AE} (hn0 : n0 = s.heap.size) (hx : ∀ t n y, x = .inl (t, n, y) → n < 1073741824 ∧ t < 5)
    (row : ∀ (ls : Array Slot) (H : Heap) (locs : List Loc) (cells slots : Nat), Lh ls L → Rl v h H → va_S (fun q => v.b0 ≤ q) s.heap H locs → cells + 1 ≤ R.cells → slots + k ≤ R.slots → (∀ (q : Nat) (H1 : Heap), va_P v.D classes (wsOf v h ++ [(q, cE v.dA x)]) H1 → va_D (fun q => v.b0 ≤ q) (wsOf v h ++ [(q, cE v.dA x)]) → va_S (fun q => v.b0 ≤ q) s.heap H1 locs → W p l e R s m args below meth c H1 locs (cells + 1) (slots + k) Q (F0 m pc' ls (.ref q :: st'.map cv))) → W p l e R s m args below meth c H locs cells slots Q (F0 m pc ls (st.map cv))) :
    SO v p l e R s m args below meth c n0 z0 Q pc L st h (nx pc' L (aR h.2.1 :: st') (hnew h x k)) := by
  intro a b c d q
  cases q
  refine ⟨rfl, Nat.le_succ _, Nat.le_add_right _ _, fun hc0 hz0 kk ls H locs cells slots hL hR hS hc hz => ?_⟩
  have hc0 : h.2.1 + 1 ≤ n0 + R.cells := hc0
  have hz0 : h.2.2.1 + k ≤ z0 + R.slots := hz0
  refine row ls H locs cells slots hL hR hS (by omega) (by omega) fun q H1 hP1 hD1 hS1 => ?_
  intro T hT X
  have hsz : H1.size ≤ h.2.1 + 1 := by
    have := X.heapSize
    rw [hT] at this
    omega
  have hq := new_addr hP1 hD1 hsz
  subst hq
  rw [ws_new x k hR.1] at hP1
  exact kk ls H1 locs (cells + 1) (slots + k) hL (hR.new hx hP1) hS1 (by show h.2.1 + 1 = _; omega) (by show h.2.2.1 + k = _; omega) T hT X
theorem dA_int (hK : va_K v.D classes (tysOf v) s) {cA : ClassId} (h : va_RA s cA .int) : cA = v.dA 0 := by
  have h0 : s.vm.findClass ("[" ++ FieldType.int.toString) = some (v.dA 0) := (hK.2 0 _ rfl).2
  have h : s.vm.findClass ("[" ++ FieldType.int.toString) = some cA := h
  exact Option.some.inj (h.symm.trans h0)
theorem dA_long (hK : va_K v.D classes (tysOf v) s) {cA : ClassId} (h : va_RA s cA .long) : cA = v.dA 1 := by
  have h0 : s.vm.findClass ("[" ++ FieldType.long.toString) = some (v.dA 1) := (hK.2 1 _ rfl).2
  have h : s.vm.findClass ("[" ++ FieldType.long.toString) = some cA := h
  exact Option.some.inj (h.symm.trans h0)
theorem dA_bool (hK : va_K v.D classes (tysOf v) s) {cA : ClassId} (h : va_RA s cA .boolean) : cA = v.dA 2 := by
  have h0 : s.vm.findClass ("[" ++ FieldType.boolean.toString) = some (v.dA 2) := (hK.2 2 _ rfl).2
  have h : s.vm.findClass ("[" ++ FieldType.boolean.toString) = some cA := h
  exact Option.some.inj (h.symm.trans h0)
theorem dA_obj {C : String} {t : Nat} (ht : (tysOf v)[t]? = some (v.dA t, .object C)) (hK : va_K v.D classes (tysOf v) s) {cA : ClassId} (h : va_RA s cA (.object C)) : cA = v.dA t := by
  obtain ⟨_, _, _, _, _, h0⟩ := (hK.2 t _ ht).2
  obtain ⟨_, _, _, _, _, h1⟩ := h
  exact Option.some.inj (h1.symm.trans h0)
theorem i_len0 {n : Int} (h0 : 0 ≤ n) (h1 : n ≤ 1048576) : ¬ Int32.ofInt n < 0 ∧ (Int32.ofInt n).toNatClampNeg = n.toNat ∧ n.toNat ≤ 1048576 := by
  have hn : inR n := ⟨by omega, by omega⟩
  refine ⟨fun q => ?_, i_nat hn, by omega⟩
  rw [z_lt hn] at q
  omega
theorem l64_0 : Int64.ofInt 0 = 0 := by decide
theorem cell_i0 (cA : ClassId) (n : Nat) : vp_cell cA (n, .inl (fun _ => Int32.ofInt 0)) = arrV cA n (fun _ => defaultValue .int) := by
  simp only [lit0]
  rfl
theorem cell_z0 (cA : ClassId) (n : Nat) : vp_cell cA (n, .inl (fun _ => Int32.ofInt 0)) = arrV cA n (fun _ => defaultValue .boolean) := by
  simp only [lit0]
  rfl
theorem cell_l0 (cA : ClassId) (n : Nat) : vp_cell cA (n, .inr (.inl (fun _ => Int64.ofInt 0))) = arrV cA n (fun _ => defaultValue .long) := by
  simp only [l64_0]
  rfl
theorem s_new_i (hx : p.tables.exec = Jvm.exec) (hb : c.code = cc) (hn0 : n0 = s.heap.size) (hK : va_K v.D classes (tysOf v) s) (hlo : Lo v s) (h_a : (Cond.arrayClass .int).before args s = true) (hd : decode cc pc = .ok (.newarray .int, 2)) {n : Int} {r : List AV} (hc0 : 0 ≤ n ∧ n ≤ 1048576) : SO v p l e R s m args below meth c n0 z0 Q pc L (aI n :: r) h (nx (pc + 2) L (aR h.2.1 :: r) (hnew h (.inl (0, n.toNat, .inl (fun _ => 0))) n.toNat)) := by
  have hA : ∀ q, s.heap.size ≤ q → v.b0 ≤ q := fun q hq => Nat.le_trans hlo.2.2.2.2 hq
  obtain ⟨e1, e2, e3⟩ := i_len0 hc0.1 hc0.2
  refine so_new hn0 (fun t n' y q => ?_) fun ls H locs cells slots hL hR hS hcl hsl kk => ?_
  · cases q
    exact ⟨by omega, by decide⟩
  · have hbt : n.toNat * componentBytes .int ≤ 536870912 := by
      have h4 : componentBytes .int = 4 := rfl
      rw [h4]
      omega
    refine va_newa (atype := .int) (ty := .int) (a0 := (n.toNat, .inl (fun _ => Int32.ofInt 0))) hx hb h_a rfl hK hR.2.1 (ws_D v h) hS hA (fun cA => cell_i0 cA _) e1 e2 hbt hcl hsl hd fun q cA H1 hK1 hP1 hD1 hS1 => ?_
    have hh := dA_int hK (hK1.2 5 (cA, .int) rfl).2
    subst hh
    exact kk q H1 hP1 hD1 hS1
theorem s_new_l (hx : p.tables.exec = Jvm.exec) (hb : c.code = cc) (hn0 : n0 = s.heap.size) (hK : va_K v.D classes (tysOf v) s) (hlo : Lo v s) (h_a : (Cond.arrayClass .long).before args s = true) (hd : decode cc pc = .ok (.newarray .long, 2)) {n : Int} {r : List AV} (hc0 : 0 ≤ n ∧ n ≤ 1048576) : SO v p l e R s m args below meth c n0 z0 Q pc L (aI n :: r) h (nx (pc + 2) L (aR h.2.1 :: r) (hnew h (.inl (1, n.toNat, .inr (.inl (fun _ => 0)))) n.toNat)) := by
  have hA : ∀ q, s.heap.size ≤ q → v.b0 ≤ q := fun q hq => Nat.le_trans hlo.2.2.2.2 hq
  obtain ⟨e1, e2, e3⟩ := i_len0 hc0.1 hc0.2
  refine so_new hn0 (fun t n' y q => ?_) fun ls H locs cells slots hL hR hS hcl hsl kk => ?_
  · cases q
    exact ⟨by omega, by decide⟩
  · have hbt : n.toNat * componentBytes .long ≤ 536870912 := by
      have h4 : componentBytes .long = 8 := rfl
      rw [h4]
      omega
    refine va_newa (atype := .long) (ty := .long) (a0 := (n.toNat, .inr (.inl (fun _ => Int64.ofInt 0)))) hx hb h_a rfl hK hR.2.1 (ws_D v h) hS hA (fun cA => cell_l0 cA _) e1 e2 hbt hcl hsl hd fun q cA H1 hK1 hP1 hD1 hS1 => ?_
    have hh := dA_long hK (hK1.2 5 (cA, .long) rfl).2
    subst hh
    exact kk q H1 hP1 hD1 hS1
theorem s_new_z (hx : p.tables.exec = Jvm.exec) (hb : c.code = cc) (hn0 : n0 = s.heap.size) (hK : va_K v.D classes (tysOf v) s) (hlo : Lo v s) (h_a : (Cond.arrayClass .boolean).before args s = true) (hd : decode cc pc = .ok (.newarray .boolean, 2)) {n : Int} {r : List AV} (hc0 : 0 ≤ n ∧ n ≤ 1048576) : SO v p l e R s m args below meth c n0 z0 Q pc L (aI n :: r) h (nx (pc + 2) L (aR h.2.1 :: r) (hnew h (.inl (2, n.toNat, .inl (fun _ => 0))) n.toNat)) := by
  have hA : ∀ q, s.heap.size ≤ q → v.b0 ≤ q := fun q hq => Nat.le_trans hlo.2.2.2.2 hq
  obtain ⟨e1, e2, e3⟩ := i_len0 hc0.1 hc0.2
  refine so_new hn0 (fun t n' y q => ?_) fun ls H locs cells slots hL hR hS hcl hsl kk => ?_
  · cases q
    exact ⟨by omega, by decide⟩
  · have hbt : n.toNat * componentBytes .boolean ≤ 536870912 := by
      have h4 : componentBytes .boolean = 1 := rfl
      rw [h4]
      omega
    refine va_newa (atype := .boolean) (ty := .boolean) (a0 := (n.toNat, .inl (fun _ => Int32.ofInt 0))) hx hb h_a rfl hK hR.2.1 (ws_D v h) hS hA (fun cA => cell_z0 cA _) e1 e2 hbt hcl hsl hd fun q cA H1 hK1 hP1 hD1 hS1 => ?_
    have hh := dA_bool hK (hK1.2 5 (cA, .boolean) rfl).2
    subst hh
    exact kk q H1 hP1 hD1 hS1
theorem s_newa (hx : p.tables.exec = Jvm.exec) (hb : c.code = cc) (hn0 : n0 = s.heap.size) (hK : va_K v.D classes (tysOf v) s) (hlo : Lo v s) (h_i : (Cond.arrayClass .int).before args s = true) (h_l : (Cond.arrayClass .long).before args s = true) (h_z : (Cond.arrayClass .boolean).before args s = true) {at_ : ArrayType} (hd : decode cc pc = .ok (.newarray at_, 2)) : SO v p l e R s m args below meth c n0 z0 Q pc L st h (o_newa at_ (pc + 2) L st h) := by
  unfold o_newa
  split
  · split
    · rename_i hc0
      split
      · exact s_new_i hx hb hn0 hK hlo h_i hd hc0
      · exact s_new_l hx hb hn0 hK hlo h_l hd hc0
      · exact s_new_z hx hb hn0 hK hlo h_z hd hc0
      · exact so_none
    · exact so_none
  · exact so_none
end SOps
end
section
section CallO
variable {l : Launch} {R : Room} {p : Program} {e : Env} {below : List Frame} {s : State} {m : MethodId} {args : Array Value} {meth : Method} {c : Code} {T : State} {locs : List Loc} {cells slots : Nat} {Q : State → Prop} {H : Heap}
/-- behind a call that has returned, or thrown -/
def aft (U : State) (g : JFrame) (len : Nat) (o : Outcome) : State := match o with
  | .returned w => U.setTop { g with pc := g.pc + len, stack := w.toList ++ g.stack }
  | .threw x => (U.setTop g).pushFrame (.throwing x)
/-- a callee's contract that says how it ends, whichever way -/
abbrev MO (l : Launch) (y : MethodName) (S : Spec) (P : Array Value → State → Prop) (Qc : Array Value → State → Outcome → State → Prop) (mc ms : Nat) (free : Addr → Prop) : Prop :=
  MetFree l y S P (fun _ _ _ _ _ => True) (fun a st o t => Qc a st o t ∧ st.WarmedH t.vm ∧ ∃ L, st.sameButNew ({ t with vm := st.vm } : State) L mc ms ∧ ∀ q ∈ L, free q.base)
theorem call_o {y : MethodName} {S : Spec} {P : Array Value → State → Prop} {Qc : Array Value → State → Outcome → State → Prop} {mc ms : Nat} {free : Addr → Prop} {bytes : ByteArray} {maxL : Nat} {ret : Option FieldType} {hh : List (Nat × Nat × Nat × Nat)}
    (hM : MO l y S P Qc mc ms free) (X : Stand p l e R s m args below meth c T locs cells slots) {g : JFrame} (hg : g.method = m) (hsize : g.locals.size = c.maxLocals) {ig : Instr} {len W0 : Nat} (hdg : decode c.code g.pc = .ok (ig, len)) (hW : 2 * g.monitorRoom + (g.stack.map fun v => v.category).sum ≤ W0)
    (hframes : S.room.frames + 1 ≤ R.frames) (hlocals : W0 + (maxL + 11) + S.room.locals ≤ R.locals) (hcells : cells + S.room.cells ≤ R.cells) (hslots : slots + S.room.slots ≤ R.slots)
    {mk : MethodId} (hn : T.methodNamed? y = some mk) {a : Array Value} (hpre : S.pre.before a T = true) (hcode : (Cond.codeWith y bytes maxL ret hh).before a T = true) (hini : (Cond.initialized y.cls).before a T = true) (hP : P a (T.calling g mk a)) :
    ∃ (o : Outcome) (t T' : State) (L : List Loc), Stand p l e R s m args below meth c T' (locs ++ L) (cells + mc) (slots + ms) ∧ T'.heap = t.heap ∧ T'.vm = t.vm ∧ (∀ q ∈ L, free q.base) ∧ Qc a (T.calling g mk a) o t ∧ Steps p.tables e below (doInvoke e (T.setTop g) [] mk a).1 (aft T' g len o) := by
  obtain ⟨mY, methY, cY, hnY, hmY, hcY, -, hlY, -, -, -, -⟩ := Cond.codeWith_spec hcode
  cases hn.symm.trans hnY
  obtain ⟨kY, hkY, -⟩ := className_of_methodNamed hn
  have hinitY : kY.init = .initialized := Cond.initialized_spec (findClass_of_methodNamed hn) hkY hini
  have h : At T g.method c below := by rw [hg]; exact X.here
  have happ : S.appliesLoose y e.platform (T.calling g mk a) = true :=
    Spec.appliesLoose_calling (g := g) h hdg hn hkY hinitY (X.room_calling (g := g) (R' := S.room) hsize hmY hcY hframes (by rw [hlY]; omega) hcells hslots) hpre
  obtain ⟨mid, hmid⟩ := h.above
  have hfr : (T.setTop g).frames = (.java g :: mid) ++ below := by rw [State.frames_setTop' g h.top, hmid]; rfl
  obtain ⟨o, s₂, hsteps, -, hend, hq⟩ := Steps.callFree hM p X.admits X.cas X.clock (acts := []) hfr happ hP trivial
  have hq : Qc a (T.calling g mk a) o s₂ ∧ (T.calling g mk a).WarmedH s₂.vm ∧ ∃ L, (T.calling g mk a).sameButNew ({ s₂ with vm := (T.calling g mk a).vm } : State) L mc ms ∧ ∀ q ∈ L, free q.base := hq
  rw [State.frames_setTop' g h.top] at hend
  obtain ⟨hq1, hW₂, L, hs2, hL⟩ := hq
  obtain ⟨e2, q2, q3, q4, q5, q6⟩ := id hs2
  have e3 : s₂ = ({ (T.calling g mk a).setFrames s₂.frames with heap := s₂.heap, slotsUsed := s₂.slotsUsed } : State).setVm s₂.vm := by
    have : s₂ = ({ s₂ with vm := (T.calling g mk a).vm } : State).setVm s₂.vm := rfl
    rw [e2] at this
    exact this
  have hW' : T.WarmedH s₂.vm := hW₂
  obtain ⟨g₀, hg0⟩ := Option.isSome_iff_exists.mp h.top
  obtain ⟨r, hr⟩ := State.topJava?_eq_some.mp hg0
  have hr' : (({ T with heap := s₂.heap, slotsUsed := s₂.slotsUsed } : State).setVm s₂.vm).frames = .java g₀ :: r := hr
  have hsame : T.sameButNew ({ T with heap := s₂.heap, slotsUsed := s₂.slotsUsed } : State) L mc ms := by
    refine ⟨?_, q2, q3, q4, q5, q6⟩
    obtain ⟨t, ht, -⟩ := State.frames_cons hr
    show ({ T with heap := s₂.heap, slotsUsed := s₂.slotsUsed } : State) = { T.setFrames T.frames with heap := s₂.heap, slotsUsed := s₂.slotsUsed }
    rw [State.setFrames_self ht]
  have hs₂ : s₂ = aft (({ T with heap := s₂.heap, slotsUsed := s₂.slotsUsed } : State).setVm s₂.vm) g len o := by
    cases o with
    | returned w =>
      obtain ⟨c₂, i₂, len₂, hc₂, hd₂, hf₂⟩ := hend
      have hcc : c₂ = c := by
        have h1 : s₂.code? g.method = T.code? g.method := by
          rw [State.code?_eq, State.code?_eq, hW'.alike.method?]
        exact Option.some.inj (hc₂.symm.trans (h1.trans h.code))
      subst hcc
      have hlen : len₂ = len := by rw [hdg] at hd₂; cases hd₂; rfl
      subst hlen
      refine e3.trans ?_
      show _ = State.setTop _ _
      rw [hf₂, State.calling_eq h.top, State.setFrames_setFrames, State.setTop_of_frames _ hr', hr]
      rfl
    | threw x =>
      have hf₂ : s₂.frames = .throwing x :: .java g :: T.frames.tail := hend
      refine e3.trans ?_
      show _ = State.pushFrame (State.setTop _ _) _
      rw [hf₂, State.calling_eq h.top, State.setFrames_setFrames, State.pushFrame, State.frames_setTop _ hr', State.setTop_of_frames _ hr', State.setFrames_setFrames, hr]
      rfl
  subst hg
  refine ⟨o, s₂, (({ T with heap := s₂.heap, slotsUsed := s₂.slotsUsed } : State).setVm s₂.vm), L,
    ⟨X.admits, X.cas, X.clock, X.frames, X.room, X.hears, X.method, X.code, (X.here.setHeapUsed s₂.heap s₂.slotsUsed).setVm hW'.alike, X.tail, State.WarmedH.trans X.warmed hW', X.limits, X.bytes, X.same.trans (hsame.setVm s.vm)⟩, rfl, rfl, hL, hq1, ?_⟩
  rw [← hs₂]
  exact hsteps
/-- the machine, where x is being thrown over the frame g, comes to Q -/
def WT (p : Program) (l : Launch) (e : Env) (R : Room) (s : State) (m : MethodId) (args : Array Value) (below : List Frame) (meth : Method) (c : Code) (H : Heap) (locs : List Loc) (cells slots : Nat) (Q : State → Prop) (g : JFrame) (x : Addr) : Prop :=
  ∀ T : State, T.heap = H → Stand p l e R s m args below meth c T locs cells slots → ∃ t, Steps p.tables e below ((T.setTop g).pushFrame (.throwing x)) t ∧ Q t
theorem WT.out {g : JFrame} {x : Addr} (hg : g.method = m) (hlocked : g.locked = none) (hentered : g.entered = []) (hout : ∀ y ∈ c.exceptionTable.toList, covers y g.pc = false) (hlocks : meth.locks = false)
    (hq : ∀ t : State, t.heap = H → t.status = .running → Ended t below (.threw x) → s.WarmedH t.vm → s.sameButNew ({ t with vm := s.vm } : State) locs cells slots → Q t) : WT p l e R s m args below meth c H locs cells slots Q g x := by
  intro T hT X
  obtain ⟨h1, h2, h3, h4, h5⟩ := X.leaveThrown x hg hlocked hentered hout hlocks
  exact ⟨_, h1, hq _ hT h2 h3 h4 h5⟩
theorem WT.caught {g : JFrame} {x : Addr} {pc' : Nat} (hg : g.method = m) (hf : ∀ T : State, T.heap = H → Stand p l e R s m args below meth c T locs cells slots → Finds e ((T.setTop g).pushFrame (.throwing x)) g x (.found pc'))
    (k : W p l e R s m args below meth c H locs cells slots Q { g with pc := pc', stack := [.ref x] }) : WT p l e R s m args below meth c H locs cells slots Q g x := by
  intro T hT X
  obtain ⟨t, a1, b1⟩ := k T hT X
  subst hg
  exact ⟨t, Steps.caught X.here (hf T hT X) a1, b1⟩
/-- a call: how the machine comes into it, and what its contract says -/
theorem w_call {y : MethodName} {S : Spec} {P : Array Value → State → Prop} {Qc : Array Value → State → Outcome → State → Prop} {mc ms : Nat} {free : Addr → Prop} {bytes : ByteArray} {maxL : Nat} {ret : Option FieldType} {hh : List (Nat × Nat × Nat × Nat)} {pc : Nat} {ls : Array Slot} {st0 rest : List Value} {a : Array Value} {ig : Instr}
    (enter : ∀ T : State, T.heap = H → Stand p l e R s m args below meth c T locs cells slots → ∃ (vm₁ : Vm) (mk : MethodId), Stand p l e R s m args below meth c (T.setVm vm₁) locs cells slots ∧ (T.setVm vm₁).methodNamed? y = some mk ∧ ∀ target, (∀ acts, Steps p.tables e below (doInvoke e ((T.setVm vm₁).setTop (F0 m pc ls rest)) acts mk a).1 target) → Steps p.tables e below (T.setTop (F0 m pc ls st0)) target)
    (hM : MO l y S P Qc mc ms free) (hsize : ls.size = c.maxLocals) (hdg : decode c.code pc = .ok (ig, 3)) (hW : (rest.map fun v => v.category).sum ≤ 8)
    (hframes : S.room.frames + 1 ≤ R.frames) (hlocals : 8 + (maxL + 11) + S.room.locals ≤ R.locals) (hcells : cells + S.room.cells ≤ R.cells) (hslots : slots + S.room.slots ≤ R.slots)
    (hpre : ∀ U : State, s.WarmedH U.vm → S.pre.before a U = true ∧ (Cond.codeWith y bytes maxL ret hh).before a U = true ∧ (Cond.initialized y.cls).before a U = true)
    (hP : ∀ U : State, U.heap = H → s.WarmedH U.vm → H.size ≤ s.heap.size + cells → P a U)
    (kk : ∀ (o : Outcome) (st₀ t : State) (L : List Loc), st₀.heap = H → (∀ q ∈ L, free q.base) → s.WarmedH t.vm → Qc a st₀ o t → match o with
      | .returned w => W p l e R s m args below meth c t.heap (locs ++ L) (cells + mc) (slots + ms) Q (F0 m (pc + 3) ls (w.toList ++ rest))
      | .threw x => WT p l e R s m args below meth c t.heap (locs ++ L) (cells + mc) (slots + ms) Q (F0 m pc ls rest) x) :
    W p l e R s m args below meth c H locs cells slots Q (F0 m pc ls st0) := by
  intro T hT X
  obtain ⟨vm₁, mk, X₁, hn, st1⟩ := enter T hT X
  have hH : (T.setVm vm₁).heap = H := hT
  have hsz : H.size ≤ s.heap.size + cells := by
    have := X.heapSize
    rwa [hT] at this
  obtain ⟨hp1, hp2, hp3⟩ := hpre (T.setVm vm₁) X₁.warmed
  obtain ⟨o, t, T', L, X', e1, e2, hL, hq, hsteps⟩ := call_o (g := F0 m pc ls rest) hM X₁ rfl hsize hdg (W0 := 8) (lv_room hW) hframes hlocals hcells hslots hn hp1 hp2 hp3 (hP _ hH X₁.warmed hsz)
  have k := kk o ((T.setVm vm₁).calling (F0 m pc ls rest) mk a) t L hH hL (by rw [← e2]; exact X'.warmed) hq
  cases o with
  | returned w =>
    obtain ⟨t2, a1, b1⟩ := k T' e1 X'
    refine ⟨t2, st1 _ fun acts => ?_, b1⟩
    rw [doInvoke_state]
    exact hsteps.trans a1
  | threw x =>
    obtain ⟨t2, a1, b1⟩ := k T' e1 X'
    refine ⟨t2, st1 _ fun acts => ?_, b1⟩
    rw [doInvoke_state]
    exact hsteps.trans a1
/-- the ways into a call -/
theorem en_V (hexec : p.tables.exec = Jvm.exec) {own C : String} {index : Nat} {y : MethodName} {n : Nat}
    (hown : s.vm.findClass own = some m.cls) (hlink : (Cond.methodLink own index y).before args s = true ∨ ∃ host, (Cond.methodLinkNest own index y host).before args s = true) (hinst : (Cond.instanceMethod y).before args s = true) (hsel : (Cond.selects C y y).before args s = true)
    (hy : y.cls ≠ "java/lang/invoke/MethodHandle" ∧ y.cls ≠ "java/lang/invoke/VarHandle") (hpar : (parseMethodDescriptor y.desc).map (fun d => d.parameters.length) = some n) (hsig : ∀ meth mk, s.methodNamed? y = some mk → s.vm.method? mk = some meth → parseMethodDescriptor y.desc = some meth.sig)
    {b : Addr} {cellB : Cell} (hcell : H[b]? = some cellB) (hobj : cellB.vm.isStatics = false) (hcls : s.vm.findClass C = some cellB.cls) {pc : Nat} {ls : Array Slot} {As rest : List Value} (hn : As.length = n) (hdg : decode c.code pc = .ok (.invokevirtual index, 3)) :
    ∀ T : State, T.heap = H → Stand p l e R s m args below meth c T locs cells slots → ∃ (vm₁ : Vm) (mk : MethodId), Stand p l e R s m args below meth c (T.setVm vm₁) locs cells slots ∧ (T.setVm vm₁).methodNamed? y = some mk ∧ ∀ target, (∀ acts, Steps p.tables e below (doInvoke e ((T.setVm vm₁).setTop (F0 m pc ls rest)) acts mk (Value.ref b :: As).toArray).1 target) → Steps p.tables e below (T.setTop (F0 m pc ls (As.reverse ++ .ref b :: rest))) target := by
  intro T hT X
  obtain ⟨mk, methM, hnamed, hmethM, hstM, habM⟩ := Cond.instanceMethod_spec hinst
  obtain ⟨c2, r2, m2, q1, q2, q3, q4, kP, hkP, hkPi⟩ := Cond.selects_spec hsel
  cases hcls.symm.trans q1
  cases (State.methodFound?_of_named hnamed hy).symm.trans q2
  cases hnamed.symm.trans q3
  have hselP : selectMethod e.platform s.vm cellB.cls mk = .method mk := by rw [Launch.admits_selectMethod X.admits]; exact q4
  have hlen : As.length = methM.sig.parameters.length := by
    have h1 := hsig methM mk hnamed hmethM
    rw [h1] at hpar
    rw [hn]
    exact (Option.some.inj hpar).symm
  rcases hlink with hlink | ⟨host, hlink⟩
  · obtain ⟨vm₁, X₁, hstep₁⟩ := X.invokevirtual hexec hown hlink hnamed hmethM hstM hkP hkPi hy (a := b) (cell := cellB) (by rw [hT]; exact hcell)
      (fun z h => by rw [h] at hobj; cases hobj) hselP hmethM habM hkP hkPi (g := F0 m pc ls (As.reverse ++ .ref b :: rest)) rfl (argsL := As) (rest := rest) hlen rfl hdg
    exact ⟨vm₁, mk, X₁, X₁.named hnamed, hstep₁⟩
  · obtain ⟨vm₁, X₁, hstep₁⟩ := X.invokevirtualNest hexec hown hlink hnamed hmethM hstM hkP hkPi hy (a := b) (cell := cellB) (by rw [hT]; exact hcell)
      (fun z h => by rw [h] at hobj; cases hobj) hselP hmethM habM hkP hkPi (g := F0 m pc ls (As.reverse ++ .ref b :: rest)) rfl (argsL := As) (rest := rest) hlen rfl hdg
    exact ⟨vm₁, mk, X₁, X₁.named hnamed, hstep₁⟩
theorem en_S (hexec : p.tables.exec = Jvm.exec) {own : String} {index : Nat} {y : MethodName} {n : Nat} {bytes : ByteArray} {maxL : Nat} {ret : Option FieldType} {hh : List (Nat × Nat × Nat × Nat)}
    (hown : s.vm.findClass own = some m.cls) (hlink : (Cond.methodLink own index y).before args s = true) (hstat : (Cond.static y).before args s = true) (hinit : (Cond.initialized y.cls).before args s = true) (hcode : (Cond.codeWith y bytes maxL ret hh).before args s = true)
    (hy : y.cls ≠ "java/lang/invoke/MethodHandle" ∧ y.cls ≠ "java/lang/invoke/VarHandle") (hpar : (parseMethodDescriptor y.desc).map (fun d => d.parameters.length) = some n)
    {pc : Nat} {ls : Array Slot} {As rest : List Value} (hn : As.length = n) (hdg : decode c.code pc = .ok (.invokestatic index, 3)) :
    ∀ T : State, T.heap = H → Stand p l e R s m args below meth c T locs cells slots → ∃ (vm₁ : Vm) (mk : MethodId), Stand p l e R s m args below meth c (T.setVm vm₁) locs cells slots ∧ (T.setVm vm₁).methodNamed? y = some mk ∧ ∀ target, (∀ acts, Steps p.tables e below (doInvoke e ((T.setVm vm₁).setTop (F0 m pc ls rest)) acts mk As.toArray).1 target) → Steps p.tables e below (T.setTop (F0 m pc ls (As.reverse ++ rest))) target := by
  intro T hT X
  obtain ⟨mk, methM, cM, hnamed, hmethM, -, -, -, -, -, -, hsigM⟩ := Cond.codeWith_spec hcode
  have hstatic : methM.isStatic = true := Cond.static_spec hnamed hmethM hstat
  obtain ⟨kP, hkP, -⟩ := className_of_methodNamed hnamed
  have hinitP : kP.init = .initialized := Cond.initialized_spec (findClass_of_methodNamed hnamed) hkP hinit
  have hlen : As.length = methM.sig.parameters.length := by
    rw [hsigM] at hpar
    rw [hn]
    exact (Option.some.inj hpar).symm
  obtain ⟨vm₁, X₁, hstep₁⟩ := X.invokestatic hexec hown hlink hnamed hmethM hstatic hkP hinitP hy (g := F0 m pc ls (As.reverse ++ rest)) rfl (argsL := As) (rest := rest) hlen rfl hdg
  exact ⟨vm₁, mk, X₁, X₁.named hnamed, hstep₁⟩
theorem en_I (hexec : p.tables.exec = Jvm.exec) {own : String} {index : Nat} {y : MethodName} {n : Nat} {bytes : ByteArray} {maxL : Nat}
    (hown : s.vm.findClass own = some m.cls) (hy1 : y.name = "<init>") (hlink : (Cond.methodLink own index y).before args s = true) (hinst : (Cond.instanceMethod y).before args s = true) (hcode : (Cond.code y bytes maxL none).before args s = true)
    (hy : y.cls ≠ "java/lang/invoke/MethodHandle" ∧ y.cls ≠ "java/lang/invoke/VarHandle") (hpar : (parseMethodDescriptor y.desc).map (fun d => d.parameters.length) = some n)
    {pc : Nat} {ls : Array Slot} {b : Addr} {As rest : List Value} (hn : As.length = n) (hdg : decode c.code pc = .ok (.invokespecial index, 3)) :
    ∀ T : State, T.heap = H → Stand p l e R s m args below meth c T locs cells slots → ∃ (vm₁ : Vm) (mk : MethodId), Stand p l e R s m args below meth c (T.setVm vm₁) locs cells slots ∧ (T.setVm vm₁).methodNamed? y = some mk ∧ ∀ target, (∀ acts, Steps p.tables e below (doInvoke e ((T.setVm vm₁).setTop (F0 m pc ls rest)) acts mk (Value.ref b :: As).toArray).1 target) → Steps p.tables e below (T.setTop (F0 m pc ls (As.reverse ++ .ref b :: rest))) target := by
  intro T hT X
  have hpl : e.platform.magicAccessors = ({} : Platform).magicAccessors := by rw [X.admits.platform]
  obtain ⟨mk, methM, cM, kP, vm₁, hnamed, hmethM, hcodeM, -, hlocalsM, -, hkP, -, hW₁, hstep₁⟩ := Steps.initColdArgs (e := e) X.here hexec X.warmed hpl hown hy1 hy hlink hinst hcode (f := F0 m pc ls (As.reverse ++ .ref b :: rest)) rfl (argsL := As) (a := b) (rest := rest) (fun sig h => by
    rw [h] at hpar
    rw [hn]
    exact (Option.some.inj hpar).symm) rfl hdg
  have X₁ := X.noted hW₁
  exact ⟨vm₁, mk, X₁, X₁.named hnamed, hstep₁⟩
end CallO
end
section
section SOps2
variable {p : Program} {l : Launch} {e : Env} {R : Room} {s : State} {m : MethodId} {args : Array Value} {below : List Frame} {meth : Method} {c : Code} {Q : State → Prop} {v : EV} {n0 z0 : Nat} {pc t : Nat} {L : AL} {st : List AV} {h : AH} {cc : ByteArray}
theorem map_at {fs : List AV} {k : Nat} {w : AV} (hk : fs[k]? = some w) : (fs.map cv)[k]? = some (cv w) := by rw [List.getElem?_map, hk]; rfl
theorem s_get (hx : p.tables.exec = Jvm.exec) (hb : c.code = cc) {own ref C : String} {T : u_T} {N ci k idx : Nat} {Ts : List Cond} (hts : ∀ w ∈ Ts, w.before args s = true) (hin : ∀ w ∈ u_ws C T N, w ∈ Ts) (hown : s.vm.findClass own = some m.cls) (hK : va_K v.D classes (tysOf v) s) (hc0 : classes[ci]? = some (C, T, N)) (hk : k < N) (hlink : (Cond.fieldLink own idx ref (T k).2.1 (T k).2.2.1).before args s = true) (hsame : ∀ x, s.fieldFound? (T k).1 (T k).2.1 (T k).2.2.1 = some x → s.fieldFound? ref (T k).2.1 (T k).2.2.1 = some x) (hd : decode cc pc = .ok (.getfield idx, 3)) : SO v p l e R s m args below meth c n0 z0 Q pc L st h (o_get ci k (pc + 3) L st h) := by
  unfold o_get
  split
  · rename_i a r
    split
    · rename_i c' fs he
      split
      · rename_i hci
        subst hci
        split
        · rename_i w hw
          exact so_nx rfl fun kk ls H locs cells slots hL hR hS hc hz => va_get hx hb hts hin hown hK hR.2.1 (a - v.b0) (ws_get he (hR.obj he).1 (hR.obj he).2) hc0 k hk hlink hsame (map_at hw) hd (kk ls H locs cells slots hL hR hS hc hz)
        · exact so_none
      · exact so_none
    · exact so_none
  · exact so_none
theorem s_getN (hx : p.tables.exec = Jvm.exec) (hb : c.code = cc) {own ref C host : String} {T : u_T} {N ci k idx : Nat} {Ts : List Cond} (hts : ∀ w ∈ Ts, w.before args s = true) (hin : ∀ w ∈ u_ws C T N, w ∈ Ts) (hown : s.vm.findClass own = some m.cls) (hK : va_K v.D classes (tysOf v) s) (hc0 : classes[ci]? = some (C, T, N)) (hk : k < N) (hlink : (Cond.fieldLinkNest own idx ref (T k).2.1 (T k).2.2.1 host).before args s = true) (hsame : ∀ x, s.fieldFound? (T k).1 (T k).2.1 (T k).2.2.1 = some x → s.fieldFound? ref (T k).2.1 (T k).2.2.1 = some x) (hd : decode cc pc = .ok (.getfield idx, 3)) : SO v p l e R s m args below meth c n0 z0 Q pc L st h (o_get ci k (pc + 3) L st h) := by
  unfold o_get
  split
  · rename_i a r
    split
    · rename_i c' fs he
      split
      · rename_i hci
        subst hci
        split
        · rename_i w hw
          exact so_nx rfl fun kk ls H locs cells slots hL hR hS hc hz => va_getN hx hb hts hin hown hK hR.2.1 (a - v.b0) (ws_get he (hR.obj he).1 (hR.obj he).2) hc0 k hk hlink hsame (map_at hw) hd (kk ls H locs cells slots hL hR hS hc hz)
        · exact so_none
      · exact so_none
    · exact so_none
  · exact so_none
theorem okv_fits {ty : FieldType} {w : AV} (h : okv (tyk ty) w = true) : narrow ty (cv w) = cv w ∧ fits ty (cv w) = true := by
  rcases w with x | x | x | x
  · cases ty with
    | int => exact ⟨rfl, rfl⟩
    | boolean =>
      have h : x = 0 ∨ x = 1 := by simpa [okv, tyk] using h
      rcases h with rfl | rfl <;> exact ⟨by decide, by decide⟩
    | _ => simp [okv, tyk] at h
  · cases ty with
    | long => exact ⟨rfl, rfl⟩
    | _ => simp [okv, tyk] at h
  · cases ty with
    | object n => exact ⟨rfl, rfl⟩
    | array n => exact ⟨rfl, rfl⟩
    | _ => simp [okv, tyk] at h
  · cases ty with
    | object n => exact ⟨rfl, rfl⟩
    | array n => exact ⟨rfl, rfl⟩
    | _ => simp [okv, tyk] at h
theorem s_put (hx : p.tables.exec = Jvm.exec) (hb : c.code = cc) {own ref C : String} {T : u_T} {N ci k idx : Nat} {Ts : List Cond} (hts : ∀ w ∈ Ts, w.before args s = true) (hin : ∀ w ∈ u_ws C T N, w ∈ Ts) (ty0 : Nat → FieldType) (hty : ∀ k, k < N → parseFieldDescriptor (T k).2.2.1 = some (ty0 k)) (hnm : ∀ a, a < N → ∀ b, b < N → a ≠ b → (T a).2.1 ≠ (T b).2.1) (hown : s.vm.findClass own = some m.cls) (hK : va_K v.D classes (tysOf v) s) (hc0 : classes[ci]? = some (C, T, N)) (hk : k < N) (hlink : (Cond.fieldLink own idx ref (T k).2.1 (T k).2.2.1).before args s = true) (hsame : ∀ x, s.fieldFound? (T k).1 (T k).2.1 (T k).2.2.1 = some x → s.fieldFound? ref (T k).2.1 (T k).2.2.1 = some x) (hfin : (T k).2.2.2 = false) (hd : decode cc pc = .ok (.putfield idx, 3)) : SO v p l e R s m args below meth c n0 z0 Q pc L st h (o_put ci k (tyk (ty0 k)) (pc + 3) L st h) := by
  unfold o_put
  split
  · rename_i w a r
    split
    · rename_i c' fs he
      split
      · rename_i hci
        obtain ⟨rfl, hlen, hok⟩ := hci
        obtain ⟨f1, f2⟩ := okv_fits hok
        refine so_put fun ls H locs cells slots hL hR hS kk => ?_
        obtain ⟨q1, q2⟩ := hR.obj he
        refine va_put hx hb hts hin ty0 hty hnm hown hK hR.2.1 (ws_D v h) hS (a - v.b0) (ws_get he q1 q2) hc0 k hk hlink hsame hfin (hty k hk) f1 f2 (by rw [List.length_map]; exact hlen) hd fun H1 locs1 hP1 hD1 hS1 => kk H1 locs1 (hR.put q1 q2 (fun t' n' x' e => by (cases e)) ?_) hS1
        rw [← ws_put _ q1 q2]
        rw [← List.map_set] at hP1
        exact hP1
      · exact so_none
    · exact so_none
  · exact so_none
theorem s_putN (hx : p.tables.exec = Jvm.exec) (hb : c.code = cc) {own ref C host : String} {T : u_T} {N ci k idx : Nat} {Ts : List Cond} (hts : ∀ w ∈ Ts, w.before args s = true) (hin : ∀ w ∈ u_ws C T N, w ∈ Ts) (ty0 : Nat → FieldType) (hty : ∀ k, k < N → parseFieldDescriptor (T k).2.2.1 = some (ty0 k)) (hnm : ∀ a, a < N → ∀ b, b < N → a ≠ b → (T a).2.1 ≠ (T b).2.1) (hown : s.vm.findClass own = some m.cls) (hK : va_K v.D classes (tysOf v) s) (hc0 : classes[ci]? = some (C, T, N)) (hk : k < N) (hlink : (Cond.fieldLinkNest own idx ref (T k).2.1 (T k).2.2.1 host).before args s = true) (hsame : ∀ x, s.fieldFound? (T k).1 (T k).2.1 (T k).2.2.1 = some x → s.fieldFound? ref (T k).2.1 (T k).2.2.1 = some x) (hfin : (T k).2.2.2 = false) (hd : decode cc pc = .ok (.putfield idx, 3)) : SO v p l e R s m args below meth c n0 z0 Q pc L st h (o_put ci k (tyk (ty0 k)) (pc + 3) L st h) := by
  unfold o_put
  split
  · rename_i w a r
    split
    · rename_i c' fs he
      split
      · rename_i hci
        obtain ⟨rfl, hlen, hok⟩ := hci
        obtain ⟨f1, f2⟩ := okv_fits hok
        refine so_put fun ls H locs cells slots hL hR hS kk => ?_
        obtain ⟨q1, q2⟩ := hR.obj he
        refine va_putN hx hb hts hin ty0 hty hnm hown hK hR.2.1 (ws_D v h) hS (a - v.b0) (ws_get he q1 q2) hc0 k hk hlink hsame hfin (hty k hk) f1 f2 (by rw [List.length_map]; exact hlen) hd fun H1 locs1 hP1 hD1 hS1 => kk H1 locs1 (hR.put q1 q2 (fun t' n' x' e => by (cases e)) ?_) hS1
        rw [← ws_put _ q1 q2]
        rw [← List.map_set] at hP1
        exact hP1
      · exact so_none
    · exact so_none
  · exact so_none
theorem s_putF (hx : p.tables.exec = Jvm.exec) (hb : c.code = cc) {own ref C : String} {T : u_T} {N ci k idx : Nat} {Ts : List Cond} (hts : ∀ w ∈ Ts, w.before args s = true) (hin : ∀ w ∈ u_ws C T N, w ∈ Ts) (ty0 : Nat → FieldType) (hty : ∀ k, k < N → parseFieldDescriptor (T k).2.2.1 = some (ty0 k)) (hnm : ∀ a, a < N → ∀ b, b < N → a ≠ b → (T a).2.1 ≠ (T b).2.1) (hown : s.vm.findClass own = some m.cls) (hK : va_K v.D classes (tysOf v) s) (hc0 : classes[ci]? = some (C, T, N)) (hk : k < N) (hlink : (Cond.fieldLink own idx ref (T k).2.1 (T k).2.2.1).before args s = true) (hsame : ∀ x, s.fieldFound? (T k).1 (T k).2.1 (T k).2.2.1 = some x → s.fieldFound? ref (T k).2.1 (T k).2.2.1 = some x) (hfin : (T k).2.2.2 = true) (hin2 : meth.name = "<init>") (hdecl : (T k).1 = own) (hd : decode cc pc = .ok (.putfield idx, 3)) : SO v p l e R s m args below meth c n0 z0 Q pc L st h (o_put ci k (tyk (ty0 k)) (pc + 3) L st h) := by
  unfold o_put
  split
  · rename_i w a r
    split
    · rename_i c' fs he
      split
      · rename_i hci
        obtain ⟨rfl, hlen, hok⟩ := hci
        obtain ⟨f1, f2⟩ := okv_fits hok
        refine so_put fun ls H locs cells slots hL hR hS kk => ?_
        obtain ⟨q1, q2⟩ := hR.obj he
        refine va_putF hx hb hts hin ty0 hty hnm hown hK hR.2.1 (ws_D v h) hS (a - v.b0) (ws_get he q1 q2) hc0 k hk hlink hsame hfin hin2 hdecl (hty k hk) f1 f2 (by rw [List.length_map]; exact hlen) hd fun H1 locs1 hP1 hD1 hS1 => kk H1 locs1 (hR.put q1 q2 (fun t' n' x' e => by (cases e)) ?_) hS1
        rw [← ws_put _ q1 q2]
        rw [← List.map_set] at hP1
        exact hP1
      · exact so_none
    · exact so_none
  · exact so_none
theorem s_new (hx : p.tables.exec = Jvm.exec) (hb : c.code = cc) (hn0 : n0 = s.heap.size) (hlo : Lo v s) {own C : String} {T : u_T} {N ci idx : Nat} {fs : List AV} {Ts : List Cond} (hts : ∀ w ∈ Ts, w.before args s = true) (hin : ∀ w ∈ u_ws C T N, w ∈ Ts) (ty0 : Nat → FieldType) (hty : ∀ k, k < N → parseFieldDescriptor (T k).2.2.1 = some (ty0 k)) (hown : s.vm.findClass own = some m.cls) (hcl : (Cond.classLink own idx C).before args s = true) (hinst : (Cond.instantiable C N).before args s = true) (hini : (Cond.initialized C).before args s = true) (hK : va_K v.D classes (tysOf v) s) (hc0 : classes[ci]? = some (C, T, N)) (hfs : ∀ j, j < N → defaultValue (ty0 j) = vp_V (fs.map cv) j) (hd : decode cc pc = .ok (.new idx, 3)) : SO v p l e R s m args below meth c n0 z0 Q pc L st h (o_new ci N fs (pc + 3) L st h) := by
  have hA : ∀ q, s.heap.size ≤ q → v.b0 ≤ q := fun q hq => Nat.le_trans hlo.2.2.2.2 hq
  exact so_new hn0 (fun t n y q => by (cases q)) fun ls H locs cells slots hL hR hS hcl0 hsl kk => va_new hx hb hts hin ty0 hty hown hcl hinst hini hK hR.2.1 (ws_D v h) hS hA hc0 hfs hcl0 hsl hd fun q H1 hP1 hD1 hS1 => kk q H1 hP1 hD1 hS1
theorem s_anew (hx : p.tables.exec = Jvm.exec) (hb : c.code = cc) (hn0 : n0 = s.heap.size) (hlo : Lo v s) {own C : String} {idx t : Nat} (hown : s.vm.findClass own = some m.cls) (hcl : (Cond.classLink own idx C).before args s = true) (hao : va_AO C s) (hK : va_K v.D classes (tysOf v) s) (ht5 : t < 5) (ht : (tysOf v)[t]? = some (v.dA t, .object C)) (hd : decode cc pc = .ok (.anewarray idx, 3)) : SO v p l e R s m args below meth c n0 z0 Q pc L st h (o_anew t (pc + 3) L st h) := by
  have hA : ∀ q, s.heap.size ≤ q → v.b0 ≤ q := fun q hq => Nat.le_trans hlo.2.2.2.2 hq
  unfold o_anew
  split
  · rename_i n r
    split
    · rename_i hc0
      obtain ⟨e1, e2, e3⟩ := i_len0 hc0.1 hc0.2
      refine so_new hn0 (fun t n' y q => by (cases q; exact ⟨by omega, ht5⟩)) fun ls H locs cells slots hL hR hS hcl0 hsl kk => ?_
      refine va_newq hx hb hown hcl hao hK hR.2.1 (ws_D v h) hS hA e1 e2 (by omega) hcl0 hsl hd fun q cA H1 hK1 hP1 hD1 hS1 => ?_
      have := dA_obj ht hK (hK1.2 5 (cA, .object C) rfl).2
      subst this
      exact kk q H1 hP1 hD1 hS1
    · exact so_none
  · exact so_none
theorem r_recv {H : Heap} {a ci : Nat} {fs : List AV} {q : vw_C} (hK : va_K v.D classes (tysOf v) s) (hR : Rl v h H) (he : h.1 a = some (.inr (ci, fs))) (hc0 : classes[ci]? = some q) : ∃ cell : Cell, H[a]? = some cell ∧ cell.vm.isStatics = false ∧ s.vm.findClass q.1 = some cell.cls :=
  va_recv hK hR.2.1 hc0 (ws_get he (hR.obj he).1 (hR.obj he).2)
theorem s_cast (hx : p.tables.exec = Jvm.exec) (hb : c.code = cc) {own : String} {idx ci : Nat} {q : vw_C} (hown : s.vm.findClass own = some m.cls) (hK : va_K v.D classes (tysOf v) s) (hc0 : classes[ci]? = some q) (hlink : (Cond.classLink own idx q.1).before args s = true) (hd : decode cc pc = .ok (.checkcast idx, 3)) : SO v p l e R s m args below meth c n0 z0 Q pc L st h (o_cast ci (pc + 3) L st h) := by
  unfold o_cast
  split
  · exact so_nx rfl fun kk ls H locs cells slots hL hR hS hc hz => lv_castN hx hb hd (kk ls H locs cells slots hL hR hS hc hz)
  · rename_i a r
    split
    · rename_i c' fs he
      split
      · rename_i hci
        subst hci
        exact so_nx rfl fun kk ls H locs cells slots hL hR hS hc hz => va_castS hx hb hown hlink (hK.1 _ _ hc0).2 (r_recv hK hR he hc0) hd (kk ls H locs cells slots hL hR hS hc hz)
      · exact so_none
    · exact so_none
  · exact so_none
theorem s_ldc2 (hx : p.tables.exec = Jvm.exec) (hb : c.code = cc) {own : String} {idx : Nat} {x : Int} (hown : s.vm.findClass own = some m.cls) (hconst : (Cond.constantLong own idx (Int64.ofInt x)).before args s = true) (hd : decode cc pc = .ok (.ldc2_w idx, 3)) : SO v p l e R s m args below meth c n0 z0 Q pc L st h (nx (pc + 3) L (aL x :: st) h) :=
  so_nx rfl fun kk ls H locs cells slots hL hR hS hc hz => lv_ldc2 hx hb hown hconst hd (kk ls H locs cells slots hL hR hS hc hz)
theorem s_gets (hx : p.tables.exec = Jvm.exec) (hb : c.code = cc) (hlo : Lo v s) {own : String} {idx : Nat} (hown : s.vm.findClass own = some m.cls) (hlink : (Cond.fieldLink own idx "java/util/ArrayList" "DEFAULTCAPACITY_EMPTY_ELEMENTDATA" "[Ljava/lang/Object;").before args s = true) (hd : decode cc pc = .ok (.getstatic idx, 3)) : SO v p l e R s m args below meth c n0 z0 Q pc L st h (nx (pc + 3) L (aR h.2.2.2.1 :: st) h) :=
  so_nx rfl fun kk ls H locs cells slots hL hR hS hc hz => va_gets hx hb hlo.2.2.2.1 hS hown hlink (fun _ q => q) hd (by
    have k := kk ls H locs cells slots hL hR hS hc hz
    rw [hR.2.2.2.2] at k
    exact k)
theorem s_oinit (hx : p.tables.exec = Jvm.exec) (hb : c.code = cc) (hml : c.maxLocals = L.length) (hRf : 1 ≤ R.frames) (hRl : 20 ≤ R.locals) {own : String} {idx : Nat} (hown : s.vm.findClass own = some m.cls) (hlink : (Cond.methodLink own idx Lib.objectInit).before args s = true) (hinst : (Cond.instanceMethod Lib.objectInit).before args s = true) (hcode : (Cond.code Lib.objectInit ⟨#[0xb1]⟩ 1 none).before args s = true) (hd : decode cc pc = .ok (.invokespecial idx, 3)) : SO v p l e R s m args below meth c n0 z0 Q pc L st h (o_oinit (pc + 3) L st h) := by
  unfold o_oinit
  split
  · rename_i a r
    split
    · rename_i hr
      refine so_nx rfl fun kk ls H locs cells slots hL hR hS hc hz => W.objInit hx hb hown hlink hinst hcode rfl (by rw [hml]; exact hL.size) rfl hd hRf ?_ (kk ls H locs cells slots hL hR hS hc hz)
      have := cv_sum r
      show 2 * 0 + _ + 12 ≤ _
      omega
    · exact so_none
  · exact so_none
theorem va_cpy_eq {α : Type} (f g : Nat → α) (sp dp n : Nat) : va_cpy f g sp dp n = cpy f g sp dp n := rfl
theorem i_nn {x : Int} (h0 : 0 ≤ x) (h1 : x < 1073741824) : ¬ Int32.ofInt x < 0 ∧ (Int32.ofInt x).toNatClampNeg = x.toNat := by
  have hn : inR x := ⟨by omega, by omega⟩
  refine ⟨fun q => ?_, i_nat hn⟩
  rw [z_lt hn] at q
  omega
theorem s_copyI (hx : p.tables.exec = Jvm.exec) (hb : c.code = cc) (hml : c.maxLocals = L.length) (hRf : 1 ≤ R.frames) (hRl : 40 ≤ R.locals) {own : String} {idx : Nat} (hown : s.vm.findClass own = some m.cls) (hlink : (Cond.methodLink own idx arraycopyName).before args s = true) (hnat : (Cond.native arraycopyName).before args s = true) (hstat : (Cond.static arraycopyName).before args s = true) (hini : (Cond.initialized "java/lang/System").before args s = true) (hK : va_K v.D classes (tysOf v) s) (hd : decode cc pc = .ok (.invokestatic idx, 3)) : SO v p l e R s m args below meth c n0 z0 Q pc L st h (o_copyI (pc + 3) L st h) := by
  unfold o_copyI
  split
  · rename_i n dp a sp a0 r
    split
    · rename_i n0' f n1' g he0 he1
      split
      · rename_i hc0
        obtain ⟨h1, h2, h3, h4, h5, h6, h7, h8⟩ := hc0
        refine so_put fun ls H locs cells slots hL hR hS kk => ?_
        have b0 := (hR.2.2.2.1 a0 _ _ _ he0).1
        have b1 := (hR.2.2.2.1 a _ _ _ he1).1
        obtain ⟨q1, q2⟩ := hR.arr he0 (by decide) (Int.le_refl 0) (by omega)
        obtain ⟨q3, q4⟩ := hR.arr he1 (by decide) (Int.le_refl 0) (by omega)
        obtain ⟨c1, c2⟩ := i_nn h1 (by omega)
        obtain ⟨c3, c4⟩ := i_nn h2 (by omega)
        obtain ⟨c5, c6⟩ := i_nn h3 (by omega)
        refine va_copyi hx hb (by rw [hml]; exact hL.size.symm) hown hlink hnat hstat hini hK hR.2.1 (ws_D v h) hS (a0 - v.b0) (a - v.b0) 0 0 (ws_get he0 q1 q2) (ws_get he1 q3 q4) rfl rfl rfl c1 c3 c5 (by rw [c2, c6]; omega) (by rw [c4, c6]; omega) (fun _ _ => rfl) hRf ?_ hd fun H1 locs1 hP1 hD1 hS1 => kk H1 locs1 (hR.put q3 q4 ?_ ?_) hS1
        · have := cv_sum r
          have hw : nativeFrameWords "java/lang/System" "arraycopy" 5 = 7 := by decide
          omega
        · intro t' n' x' e; cases e; exact ⟨b1, by decide⟩
        · rw [← ws_put _ q3 q4]
          rw [c2, c4, c6] at hP1
          have ee : va_cpy (fun j => Int32.ofInt (f j)) (fun j => Int32.ofInt (g j)) sp.toNat dp.toNat n.toNat = fun j => Int32.ofInt (cpy f g sp.toNat dp.toNat n.toNat j) := by
            funext j
            unfold va_cpy cpy
            split <;> rfl
          rw [ee] at hP1
          exact hP1
      · exact so_none
    · exact so_none
  · exact so_none
theorem s_mx (hx : p.tables.exec = Jvm.exec) (hb : c.code = cc) (hml : c.maxLocals = L.length) (hRf : 1 ≤ R.frames) (hRl : 40 ≤ R.locals) {own : String} {idx : Nat} (hown : s.vm.findClass own = some m.cls) (hlink : (Cond.methodLink own idx Lib.Math.max.name).before args s = true) (hstat : (Cond.static Lib.Math.max.name).before args s = true) (hini : (Cond.initialized "java/lang/Math").before args s = true) (hcode : (Cond.code Lib.Math.max.name Lib.Math.max.code 2 (some .int)).before args s = true) (hcr : ∀ cells, h.2.1 = n0 + cells → cells ≤ R.cells) (hsr : ∀ slots, h.2.2.1 = z0 + slots → slots ≤ R.slots) (hd : decode cc pc = .ok (.invokestatic idx, 3)) : SO v p l e R s m args below meth c n0 z0 Q pc L st h (o_mx true (pc + 3) L st h) := by
  unfold o_mx
  split
  · rename_i y x r
    split
    · rename_i hr
      refine so_nx rfl fun kk ls H locs cells slots hL hR hS hc hz => va_mmax hx hb (by rw [hml]; exact hL.size.symm) hown hlink hstat hini hcode hRf ?_ (hcr _ hc) (hsr _ hz) hd ?_
      · have := cv_sum r
        omega
      · have k := kk ls H locs cells slots hL hR hS hc hz
        rw [if_pos rfl] at k
        by_cases hxy : x < y
        · rw [if_pos ((i_lt hr.1 hr.2.1).mpr hxy)]
          rw [if_pos hxy] at k
          exact k
        · rw [if_neg (fun q => hxy ((i_lt hr.1 hr.2.1).mp q))]
          rw [if_neg hxy] at k
          exact k
    · exact so_none
  · exact so_none
theorem s_mn (hx : p.tables.exec = Jvm.exec) (hb : c.code = cc) (hml : c.maxLocals = L.length) (hRf : 1 ≤ R.frames) (hRl : 40 ≤ R.locals) {own : String} {idx : Nat} (hown : s.vm.findClass own = some m.cls) (hlink : (Cond.methodLink own idx Lib.Math.min.name).before args s = true) (hstat : (Cond.static Lib.Math.min.name).before args s = true) (hini : (Cond.initialized "java/lang/Math").before args s = true) (hcode : (Cond.code Lib.Math.min.name Lib.Math.min.code 2 (some .int)).before args s = true) (hcr : ∀ cells, h.2.1 = n0 + cells → cells ≤ R.cells) (hsr : ∀ slots, h.2.2.1 = z0 + slots → slots ≤ R.slots) (hd : decode cc pc = .ok (.invokestatic idx, 3)) : SO v p l e R s m args below meth c n0 z0 Q pc L st h (o_mx false (pc + 3) L st h) := by
  unfold o_mx
  split
  · rename_i y x r
    split
    · rename_i hr
      refine so_nx rfl fun kk ls H locs cells slots hL hR hS hc hz => va_mmin hx hb (by rw [hml]; exact hL.size.symm) hown hlink hstat hini hcode hRf ?_ (hcr _ hc) (hsr _ hz) hd ?_
      · have := cv_sum r
        omega
      · have k := kk ls H locs cells slots hL hR hS hc hz
        rw [if_neg (by decide)] at k
        by_cases hxy : y < x
        · rw [if_pos ((i_lt hr.2.1 hr.1).mpr hxy)]
          rw [if_pos hxy] at k
          exact k
        · rw [if_neg (fun q => hxy ((i_lt hr.2.1 hr.1).mp q))]
          rw [if_neg hxy] at k
          exact k
    · exact so_none
  · exact so_none
theorem s_aast (hx : p.tables.exec = Jvm.exec) (hb : c.code = cc) (hK : va_K v.D classes (tysOf v) s) (hsite : ∃ q, classes[ciSite]? = some q ∧ q.1 = nSite) (hcast : ∀ ci q, ci < 8 → classes[ci]? = some q → va_Nw (.castable q.1 "java/lang/Object") s) (hd : decode cc pc = .ok (.aastore, 1)) : SO v p l e R s m args below meth c n0 z0 Q pc L st h (o_aast (pc + 1) L st h) := by
  unfold o_aast
  split
  · rename_i x i a r
    split
    · rename_i t n F he
      split
      · rename_i hc0
        obtain ⟨ht, h1, h2, h3⟩ := hc0
        refine so_put fun ls H locs cells slots hL hR hS kk => ?_
        obtain ⟨e1, e2⟩ := i_in (hR.2.2.2.1 a _ n _ he).1 h1 h2
        have hnn : t ≠ 9 := by rcases ht with rfl | rfl <;> decide
        have ht5 : t < 5 := by rcases ht with rfl | rfl <;> decide
        obtain ⟨q1, q2⟩ := hR.arr he hnn h1 h2
        have fin0 : ∀ (H1 : Heap), va_P v.D classes ((wsOf v h).set (a - v.b0) (a, .inl (v.dA t, n, .inr (.inr (.inr (.inr (va_up F (Int32.ofInt i).toNatClampNeg x))))))) H1 → Rl v (hput h a (.inl (t, n, .inr (.inr (up F i.toNat x))))) H1 := by
          intro H1 hP1
          refine hR.put q1 q2 (fun t' n' x' e => by (cases e; exact ⟨(hR.2.2.2.1 a _ n _ he).1, ht5⟩)) ?_
          rw [← ws_put _ q1 q2]
          rw [e2, vaup_up] at hP1
          exact hP1
        cases x with
        | none =>
          rcases ht with rfl | rfl
          · exact va_astqN hx hb hK hR.2.1 (ws_D v h) hS (a - v.b0) 3 (ws_get he q1 q2) rfl e1 hd fun H1 locs1 hP1 hD1 hS1 => kk H1 locs1 (fin0 H1 hP1) hS1
          · exact va_astqN hx hb hK hR.2.1 (ws_D v h) hS (a - v.b0) 4 (ws_get he q1 q2) rfl e1 hd fun H1 locs1 hP1 hD1 hS1 => kk H1 locs1 (fin0 H1 hP1) hS1
        | some b =>
          unfold o_may at h3
          simp only at h3
          split at h3
          · rename_i ci fs hb'
            obtain ⟨w1, w2⟩ := hR.obj hb'
            obtain ⟨q, hq1, -⟩ := hR.2.1 _ _ (ws_get hb' w1 w2)
            rcases ht with rfl | rfl
            · have hci : ci = ciSite := by simpa using h3
              subst hci
              obtain ⟨q', hq', hnm⟩ := hsite
              cases hq1.symm.trans hq'
              exact va_astq hx hb hK hR.2.1 (ws_D v h) hS (a - v.b0) 3 (b - v.b0) ciSite (ws_get he q1 q2) (by rw [hnm]; rfl) (ws_get hb' w1 w2) hq' e1 hd fun H1 locs1 hP1 hD1 hS1 => kk H1 locs1 (fin0 H1 hP1) hS1
            · have hci : ci < 8 := by simpa using h3
              exact va_astqO hx hb hK hR.2.1 (ws_D v h) hS (a - v.b0) 4 (b - v.b0) ci (ws_get he q1 q2) rfl (hcast ci q hci hq1) (ws_get hb' w1 w2) hq1 e1 hd fun H1 locs1 hP1 hD1 hS1 => kk H1 locs1 (fin0 H1 hP1) hS1
          · cases h3
      · exact so_none
    · exact so_none
  · exact so_none
theorem all_spec {f : Nat → Option Nat} {sp n : Nat} (ha : o_all f sp n h = true) : ∃ ci, ci < 8 ∧ ∀ i, i < n → ∀ y, f (sp + i) = some y → ∃ fs, h.1 y = some (.inr (ci, fs)) := by
  obtain ⟨ci, hci, h1⟩ := List.any_eq_true.mp ha
  refine ⟨ci, List.mem_range.mp hci, fun i hi y hy => ?_⟩
  have h2 := List.all_eq_true.mp h1 i (List.mem_range.mpr hi)
  rw [hy] at h2
  simp only at h2
  split at h2
  · rename_i c' fs he
    have : c' = ci := by simpa using h2
    subst this
    exact ⟨fs, he⟩
  · cases h2
theorem s_copyQ (hx : p.tables.exec = Jvm.exec) (hb : c.code = cc) (hml : c.maxLocals = L.length) (hRf : 1 ≤ R.frames) (hRl : 40 ≤ R.locals) {own : String} {idx : Nat} (hown : s.vm.findClass own = some m.cls) (hlink : (Cond.methodLink own idx arraycopyName).before args s = true) (hnat : (Cond.native arraycopyName).before args s = true) (hstat : (Cond.static arraycopyName).before args s = true) (hini : (Cond.initialized "java/lang/System").before args s = true) (hK : va_K v.D classes (tysOf v) s) (hcls : ∀ ci, ci < 8 → ∃ q, classes[ci]? = some q) (hcast : ∀ ci q, ci < 8 → classes[ci]? = some q → va_Nw (.castable q.1 "java/lang/Object") s) (hd : decode cc pc = .ok (.invokestatic idx, 3)) : SO v p l e R s m args below meth c n0 z0 Q pc L st h (o_copyQ (pc + 3) L st h) := by
  unfold o_copyQ
  split
  · rename_i n dp a sp a0 r
    split
    · rename_i n0' f n1' g he0 he1
      split
      · rename_i hc0
        obtain ⟨h1, h2, h3, h4, h5, h6, h7, h8, h9⟩ := hc0
        refine so_put fun ls H locs cells slots hL hR hS kk => ?_
        have b0 := (hR.2.2.2.1 a0 _ _ _ he0).1
        have b1 := (hR.2.2.2.1 a _ _ _ he1).1
        obtain ⟨q1, q2⟩ := hR.arr he0 (by decide) (Int.le_refl 0) (by omega)
        obtain ⟨q3, q4⟩ := hR.arr he1 (by decide) (Int.le_refl 0) (by omega)
        obtain ⟨c1, c2⟩ := i_nn h1 (by omega)
        obtain ⟨c3, c4⟩ := i_nn h2 (by omega)
        obtain ⟨c5, c6⟩ := i_nn h3 (by omega)
        obtain ⟨ci, hci, hall⟩ := all_spec h9
        obtain ⟨q, hq⟩ := hcls ci hci
        refine va_copyq (C := q.1) hx hb (by rw [hml]; exact hL.size.symm) hown hlink hnat hstat hini hK hR.2.1 (ws_D v h) hS (a0 - v.b0) (a - v.b0) 4 4 (ws_get he0 q1 q2) (ws_get he1 q3 q4) rfl rfl c1 c3 c5 (by rw [c2, c6]; omega) (by rw [c4, c6]; omega) ?_ ?_ hRf ?_ hd fun H1 locs1 hP1 hD1 hS1 => kk H1 locs1 (hR.put q3 q4 ?_ ?_) hS1
        · intro i hi y hy
          rw [c6] at hi
          rw [c2] at hy
          obtain ⟨fs, hfs⟩ := hall i hi y hy
          exact r_recv hK hR hfs hq
        · intro comp c0 hcomp hc0'
          obtain ⟨d0, t1, f1, f2, f3⟩ := Cond.castable_spec (va_Nw.use (A := args) rfl (hcast ci q hci hq))
          cases hcomp.symm.trans f2
          cases hc0'.symm.trans f1
          exact f3
        · have := cv_sum r
          have hw : nativeFrameWords "java/lang/System" "arraycopy" 5 = 7 := by decide
          omega
        · intro t' n' x' e; cases e; exact ⟨b1, by decide⟩
        · rw [← ws_put _ q3 q4]
          rw [c2, c4, c6] at hP1
          exact hP1
      · exact so_none
    · exact so_none
  · exact so_none
theorem s_clone (hx : p.tables.exec = Jvm.exec) (hb : c.code = cc) (hn0 : n0 = s.heap.size) (hlo : Lo v s) (hml : c.maxLocals = L.length) (hRf : 1 ≤ R.frames) (hRl : 40 ≤ R.locals) {own : String} {idx : Nat} (hown : s.vm.findClass own = some m.cls)
    (hlink : (Cond.methodLink own idx ⟨"[I", "clone", "()Ljava/lang/Object;"⟩).before args s = true) (hsame : (Cond.sameMethod "[I" "java/lang/Object" "clone" "()Ljava/lang/Object;").before args s = true)
    (hnat : (Cond.native ⟨"java/lang/Object", "clone", "()Ljava/lang/Object;"⟩).before args s = true) (hinst : (Cond.instanceMethod ⟨"java/lang/Object", "clone", "()Ljava/lang/Object;"⟩).before args s = true)
    (hsel : (Cond.selects "[I" ⟨"[I", "clone", "()Ljava/lang/Object;"⟩ ⟨"java/lang/Object", "clone", "()Ljava/lang/Object;"⟩).before args s = true) (hcl : va_Nw (.castable "[I" "java/lang/Cloneable") s) (hK : va_K v.D classes (tysOf v) s) (hd : decode cc pc = .ok (.invokevirtual idx, 3)) : SO v p l e R s m args below meth c n0 z0 Q pc L st h (o_clone (pc + 3) L st h) := by
  have hA : ∀ q, s.heap.size ≤ q → v.b0 ≤ q := fun q hq => Nat.le_trans hlo.2.2.2.2 hq
  unfold o_clone
  split
  · rename_i a r
    split
    · rename_i n f he
      split
      · rename_i hr
        refine (fun z => z) ?_
        intro pc' L' st' h' q
        cases q
        by_cases hin : v.b0 ≤ a ∧ n < 1073741824
        · refine so_new hn0 (fun t n' y q => by (cases q; exact ⟨hin.2, by decide⟩)) (fun ls H locs cells slots hL hR hS hcl0 hsl kk => ?_) _ _ _ _ rfl
          have hlt : a < h.2.1 := by
            rcases hR.2.2.1 a _ he with w | w
            · exact w.2
            · omega
          refine va_clone hx hb (by rw [hml]; exact hL.size.symm) hown hlink hsame hnat hinst hsel hcl hK hR.2.1 (ws_D v h) hS hA (a - v.b0) 0 (ws_get he hin.1 hlt) rfl (va_nm_int (hK.2 0 _ rfl).2) (va_fit (fun i _ => rfl)) hRf ?_ hcl0 hsl hd fun q H1 hK1 hP1 hD1 hS1 => kk q H1 hP1 hD1 hS1
          have := cv_sum r
          omega
        · refine ⟨rfl, Nat.le_succ _, Nat.le_add_right _ _, fun _ _ _ ls H locs cells slots hL hR hS hc hz => ?_⟩
          refine absurd ?_ hin
          refine ⟨?_, (hR.2.2.2.1 a _ _ _ he).1⟩
          rcases hR.2.2.1 a _ he with w | ⟨-, ⟨-, w⟩ | ⟨-, w⟩⟩
          · exact w.1
          · cases w
          · cases w
      · exact so_none
    · exact so_none
  · exact so_none
theorem s_getC (hx : p.tables.exec = Jvm.exec) (hb : c.code = cc) (hml : c.maxLocals = L.length) (hRf : 1 ≤ R.frames) (hRl : 40 ≤ R.locals) {own : String} {idx : Nat} (hown : s.vm.findClass own = some m.cls) (hlink : (Cond.methodLink own idx ⟨"java/lang/Object", "getClass", "()Ljava/lang/Class;"⟩).before args s = true) (hdc : va_Dc s)
    (hsel : (Cond.selects "[Ljava/lang/Object;" ⟨"java/lang/Object", "getClass", "()Ljava/lang/Class;"⟩ ⟨"java/lang/Object", "getClass", "()Ljava/lang/Class;"⟩).before args s = true) (hinst : (Cond.instanceMethod ⟨"java/lang/Object", "getClass", "()Ljava/lang/Class;"⟩).before args s = true) (hnat : (Cond.native ⟨"java/lang/Object", "getClass", "()Ljava/lang/Class;"⟩).before args s = true) (hM : va_Mi "[Ljava/lang/Object;" v.aM s) (hK : va_K v.D classes (tysOf v) s) (hd : decode cc pc = .ok (.invokevirtual idx, 3)) : SO v p l e R s m args below meth c n0 z0 Q pc L st h (o_getC (pc + 3) L st h) := by
  unfold o_getC
  split
  · rename_i a r
    split
    · rename_i n x he
      split
      · rename_i hr
        refine so_nx rfl fun kk ls H locs cells slots hL hR hS hc hz => ?_
        obtain ⟨q1, q2⟩ := hR.arr he (by decide) (Int.le_refl 0) (by omega)
        have hcell := hR.2.1 _ _ (ws_get he q1 q2)
        refine va_getC hx hb (by rw [hml]; exact hL.size.symm) hown hlink (va_Dc.use hdc) hsel hinst hnat hM ⟨vp_cell (v.dA 4) (n, cA x), hcell, ?_, ?_⟩ hRf ?_ hd ?_
        · rcases x with F | F | F <;> rfl
        · have e : (vp_cell (v.dA 4) (n, cA x)).cls = v.dA 4 := by rcases x with F | F | F <;> rfl
          rw [e]
          exact va_nmO (hK.2 4 _ rfl).2 (by decide +kernel)
        · have := cv_sum r
          omega
        · have k := kk ls H locs cells slots hL hR hS hc hz
          rw [hR.2.2.2.2] at k
          exact k
      · exact so_none
    · exact so_none
  · exact so_none
theorem s_ldcM (hx : p.tables.exec = Jvm.exec) (hb : c.code = cc) {own : String} {idx : Nat} (hown : s.vm.findClass own = some m.cls) (hlink : (Cond.classLink own idx "[Ljava/lang/Object;").before args s = true) (hM : va_Mi "[Ljava/lang/Object;" v.aM s) (hd : decode cc pc = .ok (.ldc idx, 2)) : SO v p l e R s m args below meth c n0 z0 Q pc L st h (nx (pc + 2) L (aR h.2.2.2.2 :: st) h) :=
  so_nx rfl fun kk ls H locs cells slots hL hR hS hc hz => va_ldcM hx hb hown hlink hM hd (by
    have k := kk ls H locs cells slots hL hR hS hc hz
    rw [hR.2.2.2.2] at k
    exact k)
theorem s_castA (hx : p.tables.exec = Jvm.exec) (hb : c.code = cc) {own nm : String} {idx t : Nat} (hown : s.vm.findClass own = some m.cls) (hlink : (Cond.classLink own idx nm).before args s = true) (hnm : s.vm.findClass nm = some (v.dA t)) (ht9 : t ≠ 9) (hd : decode cc pc = .ok (.checkcast idx, 3)) : SO v p l e R s m args below meth c n0 z0 Q pc L st h (o_castA t (pc + 3) L st h) := by
  unfold o_castA
  split
  · rename_i a r
    split
    · rename_i t' n x he
      split
      · rename_i hc0
        obtain ⟨rfl, hn⟩ := hc0
        refine so_nx rfl fun kk ls H locs cells slots hL hR hS hc hz => ?_
        obtain ⟨q1, q2⟩ := hR.arr he ht9 (Int.le_refl 0) (by omega)
        exact va_castA hx hb hown hlink hR.2.1 (a - v.b0) (ws_get he q1 q2) hnm hd (kk ls H locs cells slots hL hR hS hc hz)
      · exact so_none
    · exact so_none
  · exact so_none
theorem s_ldcI (hx : p.tables.exec = Jvm.exec) (hb : c.code = cc) {own : String} {idx : Nat} {x : Int} (hown : s.vm.findClass own = some m.cls) (hconst : (Cond.constant own idx (Int32.ofInt x)).before args s = true) (hd : decode cc pc = .ok (.ldc idx, 2)) : SO v p l e R s m args below meth c n0 z0 Q pc L st h (nx (pc + 2) L (aI x :: st) h) :=
  so_nx rfl fun kk ls H locs cells slots hL hR hS hc hz => lv_ldc hx hb hown hconst hd (kk ls H locs cells slots hL hR hS hc hz)
end SOps2
end
section
/-! no instruction takes cells away; the locals keep their number -/
section MonoOps
variable {L : AL} {st : List AV} {h : AH}
def Mn (L : AL) (h : AH) (act : Nx) : Prop := ∀ pc' L' st' h', act = some (pc', L', st', h') → L'.length = L.length ∧ h.2.1 ≤ h'.2.1 ∧ h.2.2.1 ≤ h'.2.2.1 ∧ h'.2.2.2 = h.2.2.2
theorem mn_none : Mn L h none := by intro a b c d q; cases q
theorem mn_nx {pc' : Nat} {L' : AL} {st' : List AV} (hl : L'.length = L.length) : Mn L h (nx pc' L' st' h) := by
  intro a b c d q; cases q; exact ⟨hl, Nat.le_refl _, Nat.le_refl _, rfl⟩
theorem mn_put {pc' : Nat} {st' : List AV} {a : Nat} {x : AE} : Mn L h (nx pc' L st' (hput h a x)) := by
  intro a b c d q; cases q; exact ⟨rfl, Nat.le_refl _, Nat.le_refl _, rfl⟩
theorem mn_new {pc' k : Nat} {st' : List AV} {x : AE} : Mn L h (nx pc' L st' (hnew h x k)) := by
  intro a b c d q; cases q; exact ⟨rfl, Nat.le_succ _, Nat.le_add_right _ _, rfl⟩
theorem mn_sto {L' : AL} {k pc' : Nat} {w : AV} {st' : List AV} (hs : sto L k w = some L') : Mn L h (nx pc' L' st' h) := mn_nx (by rw [(sto_spec hs).2.1, List.length_set])
theorem mn_stoL {L' : AL} {k pc' : Nat} {w : AV} {st' : List AV} (hs : stoL L k w = some L') : Mn L h (nx pc' L' st' h) := mn_nx (by rw [(stoL_spec hs).2.1, List.length_set, List.length_set])
theorem m_ldI {k : Nat} {pc : Nat} : Mn L h (o_ldI k pc L st h) := by
  unfold o_ldI
  repeat' split
  all_goals first
    | exact mn_none
    | exact mn_nx rfl
    | exact mn_put
    | exact mn_new
    | exact mn_sto (by assumption)
    | exact mn_stoL (by assumption)
theorem m_ldL {k : Nat} {pc : Nat} : Mn L h (o_ldL k pc L st h) := by
  unfold o_ldL
  repeat' split
  all_goals first
    | exact mn_none
    | exact mn_nx rfl
    | exact mn_put
    | exact mn_new
    | exact mn_sto (by assumption)
    | exact mn_stoL (by assumption)
theorem m_ldA {k : Nat} {pc : Nat} : Mn L h (o_ldA k pc L st h) := by
  unfold o_ldA
  repeat' split
  all_goals first
    | exact mn_none
    | exact mn_nx rfl
    | exact mn_put
    | exact mn_new
    | exact mn_sto (by assumption)
    | exact mn_stoL (by assumption)
theorem m_stI {k : Nat} {pc : Nat} : Mn L h (o_stI k pc L st h) := by
  unfold o_stI
  repeat' split
  all_goals first
    | exact mn_none
    | exact mn_nx rfl
    | exact mn_put
    | exact mn_new
    | exact mn_sto (by assumption)
    | exact mn_stoL (by assumption)
theorem m_stL {k : Nat} {pc : Nat} : Mn L h (o_stL k pc L st h) := by
  unfold o_stL
  repeat' split
  all_goals first
    | exact mn_none
    | exact mn_nx rfl
    | exact mn_put
    | exact mn_new
    | exact mn_sto (by assumption)
    | exact mn_stoL (by assumption)
theorem m_stA {k : Nat} {pc : Nat} : Mn L h (o_stA k pc L st h) := by
  unfold o_stA
  repeat' split
  all_goals first
    | exact mn_none
    | exact mn_nx rfl
    | exact mn_put
    | exact mn_new
    | exact mn_sto (by assumption)
    | exact mn_stoL (by assumption)
theorem m_inc {k : Nat} {n : Int} {pc : Nat} : Mn L h (o_inc k n pc L st h) := by
  unfold o_inc
  repeat' split
  all_goals first
    | exact mn_none
    | exact mn_nx rfl
    | exact mn_put
    | exact mn_new
    | exact mn_sto (by assumption)
    | exact mn_stoL (by assumption)
theorem m_bin {f : Int → Int → Int} {pc : Nat} : Mn L h (o_bin f pc L st h) := by
  unfold o_bin
  repeat' split
  all_goals first
    | exact mn_none
    | exact mn_nx rfl
    | exact mn_put
    | exact mn_new
    | exact mn_sto (by assumption)
    | exact mn_stoL (by assumption)
theorem m_div {pc : Nat} : Mn L h (o_div pc L st h) := by
  unfold o_div
  repeat' split
  all_goals first
    | exact mn_none
    | exact mn_nx rfl
    | exact mn_put
    | exact mn_new
    | exact mn_sto (by assumption)
    | exact mn_stoL (by assumption)
theorem m_binL {f : Int → Int → Int} {pc : Nat} : Mn L h (o_binL f pc L st h) := by
  unfold o_binL
  repeat' split
  all_goals first
    | exact mn_none
    | exact mn_nx rfl
    | exact mn_put
    | exact mn_new
    | exact mn_sto (by assumption)
    | exact mn_stoL (by assumption)
theorem m_lshl {pc : Nat} : Mn L h (o_lshl pc L st h) := by
  unfold o_lshl
  repeat' split
  all_goals first
    | exact mn_none
    | exact mn_nx rfl
    | exact mn_put
    | exact mn_new
    | exact mn_sto (by assumption)
    | exact mn_stoL (by assumption)
theorem m_i2l {pc : Nat} : Mn L h (o_i2l pc L st h) := by
  unfold o_i2l
  repeat' split
  all_goals first
    | exact mn_none
    | exact mn_nx rfl
    | exact mn_put
    | exact mn_new
    | exact mn_sto (by assumption)
    | exact mn_stoL (by assumption)
theorem m_l2i {pc : Nat} : Mn L h (o_l2i pc L st h) := by
  unfold o_l2i
  repeat' split
  all_goals first
    | exact mn_none
    | exact mn_nx rfl
    | exact mn_put
    | exact mn_new
    | exact mn_sto (by assumption)
    | exact mn_stoL (by assumption)
theorem m_lcmp {pc : Nat} : Mn L h (o_lcmp pc L st h) := by
  unfold o_lcmp
  repeat' split
  all_goals first
    | exact mn_none
    | exact mn_nx rfl
    | exact mn_put
    | exact mn_new
    | exact mn_sto (by assumption)
    | exact mn_stoL (by assumption)
theorem m_dup {pc : Nat} : Mn L h (o_dup pc L st h) := by
  unfold o_dup
  repeat' split
  all_goals first
    | exact mn_none
    | exact mn_nx rfl
    | exact mn_put
    | exact mn_new
    | exact mn_sto (by assumption)
    | exact mn_stoL (by assumption)
theorem m_pop {pc : Nat} : Mn L h (o_pop pc L st h) := by
  unfold o_pop
  repeat' split
  all_goals first
    | exact mn_none
    | exact mn_nx rfl
    | exact mn_put
    | exact mn_new
    | exact mn_sto (by assumption)
    | exact mn_stoL (by assumption)
theorem m_dupx1 {pc : Nat} : Mn L h (o_dupx1 pc L st h) := by
  unfold o_dupx1
  repeat' split
  all_goals first
    | exact mn_none
    | exact mn_nx rfl
    | exact mn_put
    | exact mn_new
    | exact mn_sto (by assumption)
    | exact mn_stoL (by assumption)
theorem m_dup2 {pc : Nat} : Mn L h (o_dup2 pc L st h) := by
  unfold o_dup2
  repeat' split
  all_goals first
    | exact mn_none
    | exact mn_nx rfl
    | exact mn_put
    | exact mn_new
    | exact mn_sto (by assumption)
    | exact mn_stoL (by assumption)
theorem m_if {c : ClassFile.Cond} {t : Nat} {pc : Nat} : Mn L h (o_if c t pc L st h) := by
  unfold o_if
  repeat' split
  all_goals first
    | exact mn_none
    | exact mn_nx rfl
    | exact mn_put
    | exact mn_new
    | exact mn_sto (by assumption)
    | exact mn_stoL (by assumption)
theorem m_icmp {c : ClassFile.Cond} {t : Nat} {pc : Nat} : Mn L h (o_icmp c t pc L st h) := by
  unfold o_icmp
  repeat' split
  all_goals first
    | exact mn_none
    | exact mn_nx rfl
    | exact mn_put
    | exact mn_new
    | exact mn_sto (by assumption)
    | exact mn_stoL (by assumption)
theorem m_acmp {c : ACond} {t : Nat} {pc : Nat} : Mn L h (o_acmp c t pc L st h) := by
  unfold o_acmp
  repeat' split
  all_goals first
    | exact mn_none
    | exact mn_nx rfl
    | exact mn_put
    | exact mn_new
    | exact mn_sto (by assumption)
    | exact mn_stoL (by assumption)
theorem m_null {b : Bool} {t : Nat} {pc : Nat} : Mn L h (o_null b t pc L st h) := by
  unfold o_null
  repeat' split
  all_goals first
    | exact mn_none
    | exact mn_nx rfl
    | exact mn_put
    | exact mn_new
    | exact mn_sto (by assumption)
    | exact mn_stoL (by assumption)
theorem m_tab {d : Int} {lo : Int} {hi : Int} {offs : Array Int} {pc : Nat} : Mn L h (o_tab d lo hi offs pc L st h) := by
  unfold o_tab
  repeat' split
  all_goals first
    | exact mn_none
    | exact mn_nx rfl
    | exact mn_put
    | exact mn_new
    | exact mn_sto (by assumption)
    | exact mn_stoL (by assumption)
theorem m_alen {pc : Nat} : Mn L h (o_alen pc L st h) := by
  unfold o_alen
  repeat' split
  all_goals first
    | exact mn_none
    | exact mn_nx rfl
    | exact mn_put
    | exact mn_new
    | exact mn_sto (by assumption)
    | exact mn_stoL (by assumption)
theorem m_iald {pc : Nat} : Mn L h (o_iald pc L st h) := by
  unfold o_iald
  repeat' split
  all_goals first
    | exact mn_none
    | exact mn_nx rfl
    | exact mn_put
    | exact mn_new
    | exact mn_sto (by assumption)
    | exact mn_stoL (by assumption)
theorem m_bald {pc : Nat} : Mn L h (o_bald pc L st h) := by
  unfold o_bald
  repeat' split
  all_goals first
    | exact mn_none
    | exact mn_nx rfl
    | exact mn_put
    | exact mn_new
    | exact mn_sto (by assumption)
    | exact mn_stoL (by assumption)
theorem m_lald {pc : Nat} : Mn L h (o_lald pc L st h) := by
  unfold o_lald
  repeat' split
  all_goals first
    | exact mn_none
    | exact mn_nx rfl
    | exact mn_put
    | exact mn_new
    | exact mn_sto (by assumption)
    | exact mn_stoL (by assumption)
theorem m_aald {pc : Nat} : Mn L h (o_aald pc L st h) := by
  unfold o_aald
  repeat' split
  all_goals first
    | exact mn_none
    | exact mn_nx rfl
    | exact mn_put
    | exact mn_new
    | exact mn_sto (by assumption)
    | exact mn_stoL (by assumption)
theorem m_iast {pc : Nat} : Mn L h (o_iast pc L st h) := by
  unfold o_iast
  repeat' split
  all_goals first
    | exact mn_none
    | exact mn_nx rfl
    | exact mn_put
    | exact mn_new
    | exact mn_sto (by assumption)
    | exact mn_stoL (by assumption)
theorem m_bast {pc : Nat} : Mn L h (o_bast pc L st h) := by
  unfold o_bast
  repeat' split
  all_goals first
    | exact mn_none
    | exact mn_nx rfl
    | exact mn_put
    | exact mn_new
    | exact mn_sto (by assumption)
    | exact mn_stoL (by assumption)
theorem m_last {pc : Nat} : Mn L h (o_last pc L st h) := by
  unfold o_last
  repeat' split
  all_goals first
    | exact mn_none
    | exact mn_nx rfl
    | exact mn_put
    | exact mn_new
    | exact mn_sto (by assumption)
    | exact mn_stoL (by assumption)
theorem m_aast {pc : Nat} : Mn L h (o_aast pc L st h) := by
  unfold o_aast
  repeat' split
  all_goals first
    | exact mn_none
    | exact mn_nx rfl
    | exact mn_put
    | exact mn_new
    | exact mn_sto (by assumption)
    | exact mn_stoL (by assumption)
theorem m_newa {at_ : ArrayType} {pc : Nat} : Mn L h (o_newa at_ pc L st h) := by
  unfold o_newa
  repeat' split
  all_goals first
    | exact mn_none
    | exact mn_nx rfl
    | exact mn_put
    | exact mn_new
    | exact mn_sto (by assumption)
    | exact mn_stoL (by assumption)
theorem m_get {ci : Nat} {k : Nat} {pc : Nat} : Mn L h (o_get ci k pc L st h) := by
  unfold o_get
  repeat' split
  all_goals first
    | exact mn_none
    | exact mn_nx rfl
    | exact mn_put
    | exact mn_new
    | exact mn_sto (by assumption)
    | exact mn_stoL (by assumption)
theorem m_put {ci : Nat} {k : Nat} {kind : Nat} {pc : Nat} : Mn L h (o_put ci k kind pc L st h) := by
  unfold o_put
  repeat' split
  all_goals first
    | exact mn_none
    | exact mn_nx rfl
    | exact mn_put
    | exact mn_new
    | exact mn_sto (by assumption)
    | exact mn_stoL (by assumption)
theorem m_new {ci : Nat} {N : Nat} {fs : List AV} {pc : Nat} : Mn L h (o_new ci N fs pc L st h) := by
  unfold o_new
  repeat' split
  all_goals first
    | exact mn_none
    | exact mn_nx rfl
    | exact mn_put
    | exact mn_new
    | exact mn_sto (by assumption)
    | exact mn_stoL (by assumption)
theorem m_anew {t : Nat} {pc : Nat} : Mn L h (o_anew t pc L st h) := by
  unfold o_anew
  repeat' split
  all_goals first
    | exact mn_none
    | exact mn_nx rfl
    | exact mn_put
    | exact mn_new
    | exact mn_sto (by assumption)
    | exact mn_stoL (by assumption)
theorem m_cast {ci : Nat} {pc : Nat} : Mn L h (o_cast ci pc L st h) := by
  unfold o_cast
  repeat' split
  all_goals first
    | exact mn_none
    | exact mn_nx rfl
    | exact mn_put
    | exact mn_new
    | exact mn_sto (by assumption)
    | exact mn_stoL (by assumption)
theorem m_castA {t : Nat} {pc : Nat} : Mn L h (o_castA t pc L st h) := by
  unfold o_castA
  repeat' split
  all_goals first
    | exact mn_none
    | exact mn_nx rfl
    | exact mn_put
    | exact mn_new
    | exact mn_sto (by assumption)
    | exact mn_stoL (by assumption)
theorem m_oinit {pc : Nat} : Mn L h (o_oinit pc L st h) := by
  unfold o_oinit
  repeat' split
  all_goals first
    | exact mn_none
    | exact mn_nx rfl
    | exact mn_put
    | exact mn_new
    | exact mn_sto (by assumption)
    | exact mn_stoL (by assumption)
theorem m_copyI {pc : Nat} : Mn L h (o_copyI pc L st h) := by
  unfold o_copyI
  repeat' split
  all_goals first
    | exact mn_none
    | exact mn_nx rfl
    | exact mn_put
    | exact mn_new
    | exact mn_sto (by assumption)
    | exact mn_stoL (by assumption)
theorem m_copyQ {pc : Nat} : Mn L h (o_copyQ pc L st h) := by
  unfold o_copyQ
  repeat' split
  all_goals first
    | exact mn_none
    | exact mn_nx rfl
    | exact mn_put
    | exact mn_new
    | exact mn_sto (by assumption)
    | exact mn_stoL (by assumption)
theorem m_clone {pc : Nat} : Mn L h (o_clone pc L st h) := by
  unfold o_clone
  repeat' split
  all_goals first
    | exact mn_none
    | exact mn_nx rfl
    | exact mn_put
    | exact mn_new
    | exact mn_sto (by assumption)
    | exact mn_stoL (by assumption)
theorem m_mx {b : Bool} {pc : Nat} : Mn L h (o_mx b pc L st h) := by
  unfold o_mx
  repeat' split
  all_goals first
    | exact mn_none
    | exact mn_nx rfl
    | exact mn_put
    | exact mn_new
    | exact mn_sto (by assumption)
    | exact mn_stoL (by assumption)
theorem m_getC {pc : Nat} : Mn L h (o_getC pc L st h) := by
  unfold o_getC
  repeat' split
  all_goals first
    | exact mn_none
    | exact mn_nx rfl
    | exact mn_put
    | exact mn_new
    | exact mn_sto (by assumption)
    | exact mn_stoL (by assumption)
theorem stl_mono {ins : Instr} {pc len : Nat} : Mn L h (stl ins pc len L st h) := by
  unfold stl
  split
  all_goals first | exact mn_none | exact mn_nx rfl | exact m_ldI | exact m_ldL | exact m_ldA | exact m_stI | exact m_stL | exact m_stA | exact m_inc | exact m_bin | exact m_div | exact m_binL | exact m_lshl | exact m_i2l | exact m_l2i | exact m_lcmp | exact m_dup | exact m_pop | exact m_dupx1 | exact m_dup2 | exact m_if | exact m_icmp | exact m_acmp | exact m_null | exact m_tab | exact m_alen | exact m_iald | exact m_bald | exact m_lald | exact m_aald | exact m_iast | exact m_bast | exact m_last | exact m_aast | exact m_newa | exact m_get | exact m_put | exact m_new | exact m_anew | exact m_cast | exact m_castA | exact m_oinit | exact m_copyI | exact m_copyQ | exact m_clone | exact m_mx | exact m_getC
theorem stx_mono {op : Nat × Nat × Nat × Nat × Nat} {pc : Nat} : Mn L h (stx op pc L st h) := by
  unfold stx
  split
  all_goals first | exact mn_none | exact mn_nx rfl | exact m_ldI | exact m_ldL | exact m_ldA | exact m_stI | exact m_stL | exact m_stA | exact m_inc | exact m_bin | exact m_div | exact m_binL | exact m_lshl | exact m_i2l | exact m_l2i | exact m_lcmp | exact m_dup | exact m_pop | exact m_dupx1 | exact m_dup2 | exact m_if | exact m_icmp | exact m_acmp | exact m_null | exact m_tab | exact m_alen | exact m_iald | exact m_bald | exact m_lald | exact m_aald | exact m_iast | exact m_bast | exact m_last | exact m_aast | exact m_newa | exact m_get | exact m_put | exact m_new | exact m_anew | exact m_cast | exact m_castA | exact m_oinit | exact m_copyI | exact m_copyQ | exact m_clone | exact m_mx | exact m_getC
end MonoOps
/-! runs: nothing is taken away -/
theorem wrp_some {x : Nx} {y : Nat × AL × List AV × AH} (h : wrp x = some (.inl y)) : x = some y := by
  cases x with
  | none => cases h
  | some z => cases h; rfl
theorem wrp_nl {x : Nx} {y : (AR × AH) ⊕ (Nat × List AV × Nat × List AV)} (h : wrp x = some (.inr y)) : False := by
  cases x with
  | none => cases h
  | some z => cases h
theorem stp_mono {i pc pc' : Nat} {L L' : AL} {st st' : List AV} {h h' : AH} (hs : stp i pc L st h = some (.inl (pc', L', st', h'))) : L'.length = L.length ∧ h.2.1 ≤ h'.2.1 ∧ h.2.2.1 ≤ h'.2.2.1 ∧ h'.2.2.2 = h.2.2.2 := by
  unfold stp at hs
  split at hs
  · rename_i ins len hc
    unfold stm at hs
    split at hs
    · unfold o_ret at hs
      split at hs
      · split at hs
        · split at hs <;> cases hs
        · cases hs
      · cases hs
    · unfold o_lret at hs
      split at hs <;> cases hs
    · unfold o_aret at hs
      split at hs <;> cases hs
    · unfold o_vret at hs
      split at hs <;> cases hs
    · exact stl_mono _ _ _ _ (wrp_some hs)
  · rename_i op len hc
    unfold stn at hs
    split at hs
    · unfold o_throw at hs
      split at hs <;> cases hs
    · unfold o_call at hs
      split at hs <;> cases hs
    · exact stx_mono _ _ _ _ (wrp_some hs)
  · cases hs
theorem stp_fin {i pc : Nat} {L : AL} {st : List AV} {h h' : AH} {r : AR} (hs : stp i pc L st h = some (.inr (.inl (r, h')))) : h.2.1 ≤ h'.2.1 ∧ h.2.2.1 ≤ h'.2.2.1 ∧ h'.2.2.2 = h.2.2.2 ∧ ∀ ci a, r = .inr (ci, a) → ∃ fs, h'.1 a = some (.inr (ci, fs)) := by
  unfold stp at hs
  split at hs
  · rename_i ins len hc
    unfold stm at hs
    split at hs
    · unfold o_ret at hs
      split at hs
      · split at hs
        · split at hs
          · cases hs; exact ⟨Nat.le_refl _, Nat.le_refl _, rfl, fun _ _ q => by cases q⟩
          · cases hs
        · cases hs; exact ⟨Nat.le_refl _, Nat.le_refl _, rfl, fun _ _ q => by cases q⟩
      · cases hs
    · unfold o_lret at hs
      split at hs
      · cases hs; exact ⟨Nat.le_refl _, Nat.le_refl _, rfl, fun _ _ q => by cases q⟩
      · cases hs
    · unfold o_aret at hs
      split at hs
      · cases hs; exact ⟨Nat.le_refl _, Nat.le_refl _, rfl, fun _ _ q => by cases q⟩
      · cases hs
    · unfold o_vret at hs
      split at hs
      · cases hs; exact ⟨Nat.le_refl _, Nat.le_refl _, rfl, fun _ _ q => by cases q⟩
      · cases hs
    · exact (wrp_nl hs).elim
  · rename_i op len hc
    unfold stn at hs
    split at hs
    · unfold o_throw at hs
      split at hs
      · cases hs
        refine ⟨Nat.le_succ _, Nat.le_add_right _ _, rfl, fun ci a q => ?_⟩
        cases q
        exact ⟨[], by simp [hnew, up]⟩
      · cases hs
    · unfold o_call at hs
      split at hs <;> cases hs
    · exact (wrp_nl hs).elim
  · cases hs
theorem run_mono : ∀ (f i pc : Nat) (L : AL) (st : List AV) (h : AH) (r : AR) (h' : AH), run f i pc L st h = some (r, h') → h.2.1 ≤ h'.2.1 ∧ h.2.2.1 ≤ h'.2.2.1 ∧ h'.2.2.2 = h.2.2.2 ∧ ∀ ci a, r = .inr (ci, a) → ∃ fs, h'.1 a = some (.inr (ci, fs)) := by
  intro f
  induction f with
  | zero => intro i pc L st h r h' hx; cases hx
  | succ f ih =>
    intro i pc L st h r h' hx
    rw [run] at hx
    split at hx
    · cases hx
    · rename_i hs
      obtain ⟨-, a1, a2, a3⟩ := stp_mono hs
      obtain ⟨b1, b2, b3, b4⟩ := ih _ _ _ _ _ _ _ hx
      exact ⟨Nat.le_trans a1 b1, Nat.le_trans a2 b2, b3.trans a3, b4⟩
    · rename_i r0 hs
      cases hx
      exact stp_fin hs
    · rename_i j as pc' rest hs
      split at hx
      · cases hx
      · rename_i w h1 h2
        obtain ⟨a1, a2, a3, -⟩ := ih _ _ _ _ _ _ _ h2
        obtain ⟨b1, b2, b3, b4⟩ := ih _ _ _ _ _ _ _ hx
        exact ⟨Nat.le_trans a1 b1, Nat.le_trans a2 b2, b3.trans a3, b4⟩
      · rename_i ci a h1 h2
        obtain ⟨a1, a2, a3, a4⟩ := ih _ _ _ _ _ _ _ h2
        split at hx
        · cases hx
        · cases hx
          exact ⟨a1, a2, a3, a4⟩
        · obtain ⟨b1, b2, b3, b4⟩ := ih _ _ _ _ _ _ _ hx
          exact ⟨Nat.le_trans a1 b1, Nat.le_trans a2 b2, b3.trans a3, b4⟩
/-! what is carried from state to state -/
theorem Lo.to {v : EV} {s U : State} (h : Lo v s) (hvm : s.vm.Alike U.vm) (hq : ∀ q : Nat, q < s.heap.size → ¬ v.b0 ≤ q → U.heap[q]? = s.heap[q]?) (hsz : s.heap.size ≤ U.heap.size) : Lo v U := by
  obtain ⟨h1, h2, h3, h4, h5⟩ := h
  exact ⟨(h1.moved hvm).kept (hq v.scr (Nat.lt_of_lt_of_le h2 h5) (by omega)), h2, (h3.moved hvm).kept hq, (h4.moved hvm).kept hq, Nat.le_trans h5 hsz⟩
theorem heap_size {v : EV} {h : AH} {H : Heap} {s : State} {locs : List Loc} {cells n0 : Nat} (hR : Rl v h H) (hlo : Lo v s) (hS : va_S (fun q => v.b0 ≤ q) s.heap H locs) (hn0 : n0 = s.heap.size) (hc : h.2.1 = n0 + cells) (hsz : H.size ≤ s.heap.size + cells) : H.size = h.2.1 := by
  have h1 := hS.1
  have h2 := hlo.2.2.2.2
  rcases Nat.lt_or_ge v.b0 h.2.1 with h3 | h3
  · have h4 := (hR.2.1 _ _ (ws_at v h (k := h.2.1 - 1 - v.b0) (by omega))).lt
    have h5 : v.b0 + (h.2.1 - 1 - v.b0) < H.size := h4
    omega
  · omega
theorem lg_laid (as : List AV) : lg_sl (as.map cv) = (laid as).map (fun o => match o with
    | some w => Slot.val (cv w)
    | none => Slot.second) := by
  induction as with
  | nil => rfl
  | cons w r ih =>
    have e : lg_sl ((w :: r).map cv) = (if (cv w).category = 2 then [Slot.val (cv w), Slot.second] else [Slot.val (cv w)]) ++ lg_sl (r.map cv) := rfl
    rw [e, ih]
    rcases w with x | x | x | x <;> rfl
theorem lh_entry {j : Nat} {as : List AV} (h : (laid as).length ≤ mxl j) : Lh ((lg_sl (as.map cv) ++ List.replicate (mxl j - (lg_sl (as.map cv)).length) Slot.unset).toArray) (entL j as) := by
  have hlen : (lg_sl (as.map cv)).length = (laid as).length := by rw [lg_laid, List.length_map]
  have h1 := lv_entry (as.map cv) (n := mxl j) (by rw [hlen]; exact h)
  have hel : (entL j as).length = mxl j := by simp [entL]; omega
  refine ⟨⟨by rw [hel]; exact h1.1, h1.2.1, fun q hq => by cases hq⟩, fun k w hk => ?_⟩
  unfold entL at hk
  rcases Nat.lt_or_ge k (laid as).length with hl | hl
  · rw [List.getElem?_append_left hl] at hk
    rw [List.getElem?_toArray, List.getElem?_append_left (by rw [hlen]; exact hl), lg_laid, List.getElem?_map, hk]
    rfl
  · rw [List.getElem?_append_right hl] at hk
    have := List.mem_replicate.mp (List.mem_of_getElem? hk)
    cases this.2
end
section
/-! what is carried from state to state, whole -/
theorem nw_decl {x : MethodName} {u U : State} (hvm : u.vm.Alike U.vm) (h : va_Nw (.declares x) u) : va_Nw (.declares x) U := by
  have h1 : (Cond.declares x).before #[] (u.setVm U.vm) = true := by
    rw [Cond.declares_setVm hvm]
    exact h
  exact va_tabs rfl (rfl : (u.setVm U.vm).vm = U.vm) h1
theorem xw_warm {w : Cond} {s U : State} (hx : xw w = true) (hW : s.WarmedH U.vm) (h : va_Nw w s) : va_Nw w U := by
  unfold xw at hx
  split at hx
  · exact va_Nw.warmC hW h
  · exact nw_decl hW.alike h
  · cases hx
theorem xw_use {w : Cond} {U : State} {a : Array Value} (hx : xw w = true) (h : va_Nw w U) : w.before a U = true := by
  unfold xw at hx
  split at hx
  · exact va_Nw.use rfl h
  · exact va_Nw.use rfl h
  · cases hx
def KX (v : EV) (U : State) : Prop := (∀ w ∈ lw_tbl, goodWord w = true → ∀ a, w.before a U = true) ∧ (∀ w ∈ lw_tbl, xw w = true → va_Nw w U) ∧ va_K v.D classes (tysOf v) U ∧ va_AO nSite U ∧ va_AO "java/lang/Object" U ∧ va_Mi "[Ljava/lang/Object;" v.aM U ∧ (∀ q ∈ strl, ∃ sa, vk_R q.1 q.2.1 q.2.2 sa U) ∧ (∀ q ∈ ncl, va_Nc q.1 q.2 U)
theorem KX.warm {v : EV} {s U : State} (hW : s.WarmedH U.vm) (h : KX v s) : KX v U := by
  obtain ⟨h1, h2, h3, h4, h5, h6, h7, h8⟩ := h
  refine ⟨fun w hw hg a => word_at hW (good_of_word hg) (h1 w hw hg #[]), fun w hw hx => xw_warm hx hW (h2 w hw hx), h3.moved hW.alike, h4.moved hW.alike, h5.moved hW.alike, h6.moved hW.alike, fun q hq => ?_, fun q hq => (h8 q hq).moved hW.alike⟩
  obtain ⟨sa, hs⟩ := h7 q hq
  exact ⟨sa, hs.warm hW⟩
def LZ (v : EV) (s : State) : Prop := Lo v s ∧ vx_Zq Bundle.tN "UNASSIGNED_STACK" Bundle.steD (fun q => v.b0 ≤ q) s s.heap ∧ vx_Zq Bundle.tN "SUPPRESSED_SENTINEL" Bundle.listD (fun q => v.b0 ≤ q) s s.heap
theorem LZ.to {v : EV} {s U : State} (h : LZ v s) (hvm : s.vm.Alike U.vm) (hq : ∀ q : Nat, q < s.heap.size → ¬ v.b0 ≤ q → U.heap[q]? = s.heap[q]?) (hsz : s.heap.size ≤ U.heap.size) : LZ v U :=
  ⟨h.1.to hvm hq hsz, (h.2.1.moved hvm).kept hq, (h.2.2.moved hvm).kept hq⟩
section Throw
variable {p : Program} {l : Launch} {e : Env} {R : Room} {s : State} {m : MethodId} {args : Array Value} {below : List Frame} {meth : Method} {c : Code} {Q : State → Prop} {v : EV} {n0 z0 : Nat} {pc : Nat} {L : AL} {st : List AV} {h : AH} {cc : ByteArray}
/-- 'throw new E("text")', out of a method without handlers there -/
theorem e_throw (hx : p.tables.exec = Jvm.exec) (hb : c.code = cc) (hl : l.stackTraces = false) (hn0 : n0 = s.heap.size) (hlz : LZ v s) (hK : va_K v.D classes (tysOf v) s) (hml : c.maxLocals = L.length) (hlocks : meth.locks = false) {own cls text : String} {T0 : u_T} {names : List String} {ik is ic sa ci : Nat}
    (hown : s.vm.findClass own = some m.cls) (hc0 : classes[ci]? = some (cls, T0, 0)) (hcls : Bundle.fit cls = true) (hnames : ∀ n ∈ names, Bundle.fit n = true)
    (hk : (Cond.classLink own ik cls).before args s = true) (hini : (Cond.initialized cls).before args s = true) (hstr : vk_R own is text sa s) (hat : ∀ w ∈ vx_atS own ic cls names, w.before args s = true)
    (hgood : ∀ w ∈ Cond.classLink own ik cls :: Cond.initialized cls :: vx_atS own ic cls names, vx_ot w = true)
    (d0 : decode cc pc = .ok (.new ik, 3)) (d3 : decode cc (pc + 3) = .ok (.dup, 1)) (d4 : decode cc (pc + 4) = .ok (.ldc is, 2)) (d6 : decode cc (pc + 6) = .ok (.invokespecial ic, 3)) (d9 : decode cc (pc + 9) = .ok (.athrow, 1))
    (hout : ∀ x ∈ c.exceptionTable.toList, covers x (pc + 9) = false) (hRframes : names.length + 3 < R.frames) (hRlocals : 8 + (13 * (names.length + 1) + 43) ≤ R.locals) : SE v p l e R s m args below meth c n0 z0 Q pc L st h (o_throw ci st h) := by
  unfold o_throw
  rcases Nat.lt_or_ge 4 st.length with hst | hst
  · rw [if_neg (by omega)]
    exact se_none
  rw [if_pos hst]
  intro r h' q
  cases q
  refine ⟨Nat.le_succ _, Nat.le_add_right _ _, fun ci' a q => ?_, fun hcl hsl hE ls H locs cells slots hL hR hS hc hz => ?_⟩
  · cases q
    exact ⟨[], by simp [hnew, up]⟩
  have hcl : h.2.1 + 1 ≤ n0 + R.cells := hcl
  have hsl : h.2.2.1 + 6 ≤ z0 + R.slots := hsl
  intro T hT X
  have hsum := cv_sum st
  have htr : e.platform.stackTraces = false := (show e.platform.stackTraces = l.stackTraces by rw [X.admits.platform]).trans hl
  have Y := vx_rebase X (R' := { frames := R.frames, locals := R.locals, cells := 1, slots := 6 }) (Nat.le_refl _) (Nat.le_refl _) (by show cells + 1 ≤ R.cells; omega) (by show slots + 6 ≤ R.slots; omega)
  obtain ⟨s', hA⟩ : ∃ z, z = (T.setVm s.vm).setFrames (.invoking m args :: below) := ⟨_, rfl⟩
  rw [← hA] at Y
  have hvm : s'.vm = s.vm := by rw [hA]; rfl
  have hhp : s'.heap = H := by rw [hA]; exact hT
  have hW0 : s.WarmedH s'.vm := by rw [hvm]; exact State.WarmedH.refl s
  have hat' : ∀ w ∈ vx_atS own ic cls names, w.before args s' = true := fun w hw => vx_ot_at hW0 hvm.symm (hgood w (List.mem_cons_of_mem _ (List.mem_cons_of_mem _ hw))) (hat w hw)
  have hk' : (Cond.classLink own ik cls).before args s' = true := vx_ot_at hW0 hvm.symm (hgood _ List.mem_cons_self) hk
  have hini' : (Cond.initialized cls).before args s' = true := vx_ot_at hW0 hvm.symm (hgood _ (List.mem_cons_of_mem _ List.mem_cons_self)) hini
  have hU' : vx_Zq Bundle.tN "UNASSIGNED_STACK" Bundle.steD (fun q => v.b0 ≤ q) s' s'.heap := by rw [hhp]; exact vx_Zq.moved hW0.alike (hlz.2.1.kept hS.2.1)
  have hN' : vx_Zq Bundle.tN "SUPPRESSED_SENTINEL" Bundle.listD (fun q => v.b0 ≤ q) s' s'.heap := by rw [hhp]; exact vx_Zq.moved hW0.alike (hlz.2.2.kept hS.2.1)
  have ho : ∀ w ∈ Bundle.ownAtoms own ic cls names, w.before args s' = true := vx_own hat' (vx_isRefq hU'.1) (vx_isRefq hN'.1) hU'.2.word hN'.2.word
  have hown' : s'.vm.findClass own = some m.cls := by rw [hvm]; exact hown
  have hins : (Cond.instantiable cls 6).before args s' = true := ho _ (by simp [Bundle.ownAtoms])
  obtain ⟨vm₁, cX, kX, hfX, hkX, -, -, X₁, st1⟩ := Y.newCold hx (own := own) (C := cls) (index := ik) (n := 6) hown' hk' hins hini'
    (g := F0 m pc ls (st.map cv)) rfl (by rw [hb]; exact d0) (Nat.le_refl _) (Nat.le_refl _)
  generalize hT1 : (T.setVm vm₁).pushCell { cls := cX, slots := kX.instanceTypes.map defaultValue, vm := .none } = T1 at X₁ st1
  have hcat : (Value.ref T.heap.size).category = 1 := rfl
  have hcellA : T1.heap[T.heap.size]? = some (freshCell cX kX) := by rw [← hT1]; exact State.heap_pushCell_size _ _
  have d3' : decode c.code (pc + 3) = .ok (.dup, 1) := by rw [hb]; exact d3
  have d4' : decode c.code (pc + 4) = .ok (.ldc is, 2) := by rw [hb]; exact d4
  have hstr' : vk_R own is text sa s' := vk_R.warm hW0 hstr
  obtain ⟨U, hsteps, hrun, hend, hW, hsame, ce, hce, hO⟩ := X₁.ctorThrowS hx htr (own := own) (cls := cls) (names := names) (ic := ic) hown' hcls hnames ho (fun x hx => nomatch hx) hfX hkX hcellA (by rw [hhp, hT]; exact Nat.le_refl _) (msg := .ref sa) rfl
    (g := { method := m, pc := pc + 6, locals := ls, stack := .ref sa :: .ref T.heap.size :: .ref T.heap.size :: st.map cv, locked := none }) rfl (by rw [hml]; exact hL.size) rfl rfl (rest := st.map cv) rfl
    (by rw [hb]; exact d6) (by rw [hb]; exact d9) hout hRframes (by simp only [List.map_cons, List.sum_cons, hcat]; show 2 * 0 + _ + _ ≤ _; omega) hlocks
  obtain ⟨f1, f2⟩ := vx_frame hsame
  rw [hhp] at f1 f2
  have f2 : ∀ q : Nat, q < H.size → U.heap[q]? = H[q]? := fun q hq => f2 q hq (fun z hz => nomatch hz)
  have hWs : s.WarmedH U.vm := State.WarmedH.trans hW0 hW
  have hcl' : s.vm.findClass cls = some ce.cls := by
    have h9 := hO.cls
    rw [hvm] at h9
    exact h9
  have hall : s.sameButNew ({ U with vm := s.vm } : State) locs (cells + 1) (slots + 6) := by
    subst hA
    obtain ⟨e1, e2⟩ := hsame
    rw [State.setFrames_setFrames] at e1
    have h2 : (T.setVm s.vm).sameButNew ({ U with vm := s.vm } : State) [] (0 + 1) (0 + 6) := ⟨e1, e2⟩
    have h3 := X.same.trans h2
    rw [List.append_nil] at h3
    exact h3
  have hsz : H.size = h.2.1 := heap_size hR hlz.1 hS hn0 hc (by
    have := X.heapSize
    rwa [hT] at this)
  have hTs : T.heap.size = h.2.1 := by rw [hT]; exact hsz
  refine ⟨U, ?_, hE U (.threw h.2.1) locs (cells + 1) (slots + 6) rfl ?_ ⟨Nat.le_trans hS.1 f1, fun q h1 h2 => (f2 q (Nat.lt_of_lt_of_le h1 hS.1)).trans (hS.2.1 q h1 h2)⟩ (by show h.2.1 + 1 = _; omega) (by show h.2.2.1 + 6 = _; omega) hrun (by rw [← hTs]; exact hend) hWs hall hS.2.2⟩
  · refine st1 _ ?_
    show Steps p.tables e below (T1.setTop { method := m, pc := pc + 3, locals := ls, stack := .ref T.heap.size :: st.map cv, locked := none }) _
    jvm_step X₁.here [X₁.here.top, hx, d3', Value.category]
    exact X₁.ldcString hx (own := own) (text := text) (index := is) (a := sa) hown' hstr'.1 hstr'.2
      (g := { method := m, pc := pc + 4, locals := ls, stack := .ref T.heap.size :: .ref T.heap.size :: st.map cv, locked := none }) rfl d4' _ hsteps
  · refine hR.new (fun t n y q => by cases q) ?_
    rw [← ws_new _ 6 hR.1]
    refine (hR.2.1.kept fun k x hx => f2 x.1 ((hR.2.1 k x hx).lt)).app fun k x hx => ?_
    have hz : k < 1 := (List.getElem?_eq_some_iff.mp hx).1
    rw [show k = 0 by omega] at hx
    cases hx
    refine ⟨_, hc0, ce, by rw [← hTs]; exact hce, ?_, hO.vm, fun k hk => absurd hk (Nat.not_lt_zero k)⟩
    have h9 : s.vm.findClass cls = some (v.D.1 ci) := (hK.1 ci _ hc0).2.1
    exact Option.some.inj (hcl'.symm.trans h9)
end Throw
end
section
section OkL
variable {p : Program} {l : Launch} {e : Env} {R : Room} {s : State} {m : MethodId} {args : Array Value} {below : List Frame} {meth : Method} {c : Code} {Q : State → Prop} {v : EV} {n0 z0 : Nat} {pc len : Nat} {L : AL} {st : List AV} {h : AH} {bs : ByteArray} {ins : Instr}
theorem snd_l (hx : p.tables.exec = Jvm.exec) (hb : c.code = bs) (hn0 : n0 = s.heap.size) (hK : va_K v.D classes (tysOf v) s) (hlo : Lo v s) (h_i : (Cond.arrayClass .int).before args s = true) (h_l : (Cond.arrayClass .long).before args s = true) (h_z : (Cond.arrayClass .boolean).before args s = true) (hsite : ∃ q, classes[ciSite]? = some q ∧ q.1 = nSite) (hcast : ∀ ci q, ci < 8 → classes[ci]? = some q → va_Nw (.castable q.1 "java/lang/Object") s) (hk : okl bs pc ins len = true) : SO v p l e R s m args below meth c n0 z0 Q pc L st h (stl ins pc len L st h) := by
  unfold okl at hk
  obtain ⟨hd, hk⟩ := Bool.and_eq_true_iff.mp hk
  have hd := of_decide_eq_true hd
  cases ins with
  | iconst n =>
    have hk : len = 1 := by simpa using hk
    subst hk
    exact s_iconst hx hb hd
  | lconst n =>
    have hk : len = 1 := by simpa using hk
    subst hk
    exact s_lconst hx hb hd
  | aconst_null =>
    have hk : len = 1 := by simpa using hk
    subst hk
    exact s_null hx hb hd
  | iload_n k =>
    have hk : len = 1 := by simpa using hk
    subst hk
    exact s_iload_n hx hb hd
  | lload_n k =>
    have hk : len = 1 := by simpa using hk
    subst hk
    exact s_lload_n hx hb hd
  | aload_n k =>
    have hk : len = 1 := by simpa using hk
    subst hk
    exact s_aload_n hx hb hd
  | istore_n k =>
    have hk : len = 1 := by simpa using hk
    subst hk
    exact s_istore_n hx hb hd
  | lstore_n k =>
    have hk : len = 1 := by simpa using hk
    subst hk
    exact s_lstore_n hx hb hd
  | astore_n k =>
    have hk : len = 1 := by simpa using hk
    subst hk
    exact s_astore_n hx hb hd
  | iadd =>
    have hk : len = 1 := by simpa using hk
    subst hk
    exact s_iadd hx hb hd
  | isub =>
    have hk : len = 1 := by simpa using hk
    subst hk
    exact s_isub hx hb hd
  | imul =>
    have hk : len = 1 := by simpa using hk
    subst hk
    exact s_imul hx hb hd
  | iand =>
    have hk : len = 1 := by simpa using hk
    subst hk
    exact s_iand hx hb hd
  | ishr =>
    have hk : len = 1 := by simpa using hk
    subst hk
    exact s_ishr hx hb hd
  | idiv =>
    have hk : len = 1 := by simpa using hk
    subst hk
    exact s_idiv hx hb hd
  | land =>
    have hk : len = 1 := by simpa using hk
    subst hk
    exact s_land hx hb hd
  | lor =>
    have hk : len = 1 := by simpa using hk
    subst hk
    exact s_lor hx hb hd
  | lshl =>
    have hk : len = 1 := by simpa using hk
    subst hk
    exact s_lshl hx hb hd
  | i2l =>
    have hk : len = 1 := by simpa using hk
    subst hk
    exact s_i2l hx hb hd
  | l2i =>
    have hk : len = 1 := by simpa using hk
    subst hk
    exact s_l2i hx hb hd
  | lcmp =>
    have hk : len = 1 := by simpa using hk
    subst hk
    exact s_lcmp hx hb hd
  | dup =>
    have hk : len = 1 := by simpa using hk
    subst hk
    exact s_dup hx hb hd
  | pop =>
    have hk : len = 1 := by simpa using hk
    subst hk
    exact s_pop hx hb hd
  | dup_x1 =>
    have hk : len = 1 := by simpa using hk
    subst hk
    exact s_dup_x1 hx hb hd
  | dup2 =>
    have hk : len = 1 := by simpa using hk
    subst hk
    exact s_dup2 hx hb hd
  | arraylength =>
    have hk : len = 1 := by simpa using hk
    subst hk
    exact s_alen hx hb hK hlo hd
  | iaload =>
    have hk : len = 1 := by simpa using hk
    subst hk
    exact s_iald hx hb hK hlo hd
  | baload =>
    have hk : len = 1 := by simpa using hk
    subst hk
    exact s_bald hx hb hK hd
  | laload =>
    have hk : len = 1 := by simpa using hk
    subst hk
    exact s_lald hx hb hK hd
  | aaload =>
    have hk : len = 1 := by simpa using hk
    subst hk
    exact s_aald hx hb hK hd
  | iastore =>
    have hk : len = 1 := by simpa using hk
    subst hk
    exact s_iast hx hb hK hd
  | bastore =>
    have hk : len = 1 := by simpa using hk
    subst hk
    exact s_bast hx hb hK hd
  | lastore =>
    have hk : len = 1 := by simpa using hk
    subst hk
    exact s_last hx hb hK hd
  | aastore =>
    have hk : len = 1 := by simpa using hk
    subst hk
    exact s_aast hx hb hK hsite hcast hd
  | iload k =>
    have hk : len = 2 := by simpa using hk
    subst hk
    exact s_iload hx hb hd
  | lload k =>
    have hk : len = 2 := by simpa using hk
    subst hk
    exact s_lload hx hb hd
  | aload k =>
    have hk : len = 2 := by simpa using hk
    subst hk
    exact s_aload hx hb hd
  | istore k =>
    have hk : len = 2 := by simpa using hk
    subst hk
    exact s_istore hx hb hd
  | lstore k =>
    have hk : len = 2 := by simpa using hk
    subst hk
    exact s_lstore hx hb hd
  | astore k =>
    have hk : len = 2 := by simpa using hk
    subst hk
    exact s_astore hx hb hd
  | newarray t =>
    have hk : len = 2 := by simpa using hk
    subst hk
    exact s_newa hx hb hn0 hK hlo h_i h_l h_z hd
  | iinc k n =>
    have hk : len = 3 := by simpa using hk
    subst hk
    exact s_iinc hx hb hd
  | bipush n =>
    obtain ⟨h1, h2⟩ := Bool.and_eq_true_iff.mp hk
    have h2 := eq_of_beq h2
    subst h2
    exact s_bipush hx hb hd (of_decide_eq_true h1)
  | sipush n =>
    obtain ⟨h1, h2⟩ := Bool.and_eq_true_iff.mp hk
    have h2 := eq_of_beq h2
    subst h2
    exact s_sipush hx hb hd (of_decide_eq_true h1)
  | ifCond cnd off =>
    obtain ⟨h1, h2⟩ := Bool.and_eq_true_iff.mp hk
    have h2 := eq_of_beq h2
    subst h2
    exact s_if hx hb hd (of_decide_eq_true h1)
  | if_icmp cnd off =>
    obtain ⟨h1, h2⟩ := Bool.and_eq_true_iff.mp hk
    have h2 := eq_of_beq h2
    subst h2
    exact s_icmp hx hb hd (of_decide_eq_true h1)
  | if_acmp cnd off =>
    obtain ⟨h1, h2⟩ := Bool.and_eq_true_iff.mp hk
    have h2 := eq_of_beq h2
    subst h2
    exact s_acmp hx hb hd (of_decide_eq_true h1)
  | ifnull off =>
    obtain ⟨h1, h2⟩ := Bool.and_eq_true_iff.mp hk
    have h2 := eq_of_beq h2
    subst h2
    exact s_ifnull hx hb hd (of_decide_eq_true h1)
  | ifnonnull off =>
    obtain ⟨h1, h2⟩ := Bool.and_eq_true_iff.mp hk
    have h2 := eq_of_beq h2
    subst h2
    exact s_ifnonnull hx hb hd (of_decide_eq_true h1)
  | goto off =>
    obtain ⟨h1, h2⟩ := Bool.and_eq_true_iff.mp hk
    have h2 := eq_of_beq h2
    subst h2
    exact s_goto hx hb hd (of_decide_eq_true h1)
  | tableswitch d lo hi offs =>
    obtain ⟨h1, h2⟩ := Bool.and_eq_true_iff.mp hk
    exact s_tab hx hb hd (of_decide_eq_true h1) (fun o ho => of_decide_eq_true (List.all_eq_true.mp h2 o ho))
  | _ => exact so_none
end OkL
theorem inG_use {v : EV} {s : State} (hK : KX v s) {w : Cond} (h : inG w = true) (a : Array Value) : w.before a s = true := by
  obtain ⟨h1, h2⟩ := Bool.and_eq_true_iff.mp h
  exact hK.1 w (of_decide_eq_true h1) h2 a
theorem inX_nw {v : EV} {s : State} (hK : KX v s) {w : Cond} (h : inX w = true) : va_Nw w s := by
  obtain ⟨h1, h2⟩ := Bool.and_eq_true_iff.mp h
  exact hK.2.1 w (of_decide_eq_true h1) h2
theorem okf_spec {v : EV} {s : State} (hK : KX v s) {own : String} {idx k : Nat} {q : vw_C} (h : okf own idx q k = true) : k < q.2.2 ∧ ∃ ref, (∀ a, (Cond.fieldLink own idx ref (q.2.1 k).2.1 (q.2.1 k).2.2.1).before a s = true) ∧ ∀ x, s.fieldFound? (q.2.1 k).1 (q.2.1 k).2.1 (q.2.1 k).2.2.1 = some x → s.fieldFound? ref (q.2.1 k).2.1 (q.2.1 k).2.2.1 = some x := by
  obtain ⟨h1, h2⟩ := Bool.and_eq_true_iff.mp h
  refine ⟨of_decide_eq_true h1, ?_⟩
  rcases Bool.or_eq_true_iff.mp h2 with h3 | h3
  · exact ⟨_, fun a => inG_use hK h3 a, fun x hx => hx⟩
  · obtain ⟨h4, h5⟩ := Bool.and_eq_true_iff.mp h3
    exact ⟨_, fun a => inG_use hK h4 a, fun x hx => u_same (inG_use hK h5 #[]) x hx⟩
theorem cls_df : ∀ (ci : Nat) (q : vw_C), classes[ci]? = some q → ∀ j, j < q.2.2 → defaultValue (tyF ci j) = vp_V ((dfl ci).map cv) j := by
  intro ci q hq
  match ci, hq with
  | 0, hq => cases hq; decide +kernel
  | 1, hq => cases hq; decide +kernel
  | 2, hq => cases hq; decide +kernel
  | 3, hq => cases hq; decide +kernel
  | 4, hq => cases hq; decide +kernel
  | 5, hq => cases hq; decide +kernel
  | 6, hq => cases hq; decide +kernel
  | 7, hq => cases hq; decide +kernel
  | 8, hq => cases hq; decide +kernel
  | 9, hq => cases hq; decide +kernel
  | 10, hq => cases hq; decide +kernel
  | 11, hq => cases hq; decide +kernel
  | 12, hq => cases hq; decide +kernel
  | k + 13, hq => simp [classes] at hq
end
section
/-! THE ABSTRACT MACHINE IS RIGHT: instructions, by the static check -/
def CX (v : EV) (p : Program) (l : Launch) (R : Room) (s : State) (m : MethodId) (meth : Method) (c : Code) (i n0 : Nat) : Prop :=
  p.tables.exec = Jvm.exec ∧ c.code = bts i ∧ c.maxLocals = mxl i ∧ s.vm.findClass (nam i).cls = some m.cls ∧ meth.sig.returnType = rty i ∧ meth.locks = false ∧ meth.name = (nam i).name ∧ c.exceptionTable.toList.map (fun h => (h.startPc, h.endPc, h.handlerPc, h.catchType)) = tbl i ∧ n0 = s.heap.size ∧ KX v s ∧ LZ v s ∧ frs i ≤ R.frames ∧ lcs i ≤ R.locals ∧ l.stackTraces = false
theorem good_lay {C : String} {T : u_T} {k : Nat} : goodWord (u_lay C T k) = true := by
  unfold u_lay
  split <;> rfl
theorem fld_words {v : EV} {s : State} (hK : KX v s) {ci : Nat} {q : vw_C} (hq : classes[ci]? = some q) (a : Array Value) : ∀ w ∈ u_ws q.1 q.2.1 q.2.2, w.before a s = true := fun w hw => by
  obtain ⟨k, -, rfl⟩ := List.mem_map.mp hw
  exact hK.1 _ (cls_in ci q hq _ hw) good_lay a
theorem cast_words {v : EV} {s : State} (hK : KX v s) : ∀ (ci : Nat) (q : vw_C), ci < 8 → classes[ci]? = some q → va_Nw (.castable q.1 "java/lang/Object") s := fun ci q h8 hq => inX_nw hK (cls_ca ci q h8 hq)
theorem site_word : ∃ q : vw_C, classes[ciSite]? = some q ∧ q.1 = nSite := ⟨_, rfl, rfl⟩
theorem g_ai : inG (.arrayClass .int) = true := by decide +kernel
theorem g_al : inG (.arrayClass .long) = true := by decide +kernel
theorem g_az : inG (.arrayClass .boolean) = true := by decide +kernel
section Asm
variable {p : Program} {l : Launch} {e : Env} {R : Room} {s : State} {m : MethodId} {args : Array Value} {below : List Frame} {meth : Method} {c : Code} {Q : State → Prop} {v : EV} {i n0 z0 : Nat} {pc len : Nat} {L : AL} {st : List AV} {h : AH}
theorem snd_x (C : CX v p l R s m meth c i n0) (hL : L.length = mxl i) (hcr : ∀ cells, h.2.1 = n0 + cells → cells ≤ R.cells) (hsr : ∀ slots, h.2.2.1 = z0 + slots → slots ≤ R.slots) {op : Nat × Nat × Nat × Nat × Nat} (hk : okx i pc op = true) : SO v p l e R s m args below meth c n0 z0 Q pc L st h (stx op pc L st h) := by
  obtain ⟨hx, hb, hml, hown, hret, hlocks, hnm, htb, hn0, hK, hlz, hfr, hlo, hl⟩ := C
  have hKK := hK.2.2.1
  have hml' : c.maxLocals = L.length := hml.trans hL.symm
  unfold okx at hk
  split at hk
  · rename_i ci k _ _
    unfold ok_get at hk
    split at hk
    · rename_i idx q hd hq
      obtain ⟨hk0, ref, hl1, hs1⟩ := okf_spec hK hk
      exact s_get hx hb (fld_words hK hq args) (fun w hw => hw) hown hKK hq hk0 (hl1 args) hs1 hd
    · cases hk
  · rename_i ci k kind _
    unfold ok_put at hk
    split at hk
    · rename_i idx q hd hq
      obtain ⟨hk12, hk3⟩ := Bool.and_eq_true_iff.mp hk
      obtain ⟨hk1, hk2⟩ := Bool.and_eq_true_iff.mp hk12
      have hk2 := of_decide_eq_true hk2
      subst hk2
      obtain ⟨hk0, ref, hl1, hs1⟩ := okf_spec hK hk1
      rcases Bool.or_eq_true_iff.mp hk3 with hf | hf
      · exact s_put hx hb (fld_words hK hq args) (fun w hw => hw) (tyF ci) (cls_ty ci q hq) (cls_nm ci q hq) hown hKK hq hk0 (hl1 args) hs1 (eq_of_beq hf) hd
      · obtain ⟨f1, f2⟩ := Bool.and_eq_true_iff.mp hf
        have f3 : (q.2.1 k).2.2.2 = true ∨ (q.2.1 k).2.2.2 = false := by cases (q.2.1 k).2.2.2 <;> simp
        rcases f3 with f3 | f3
        · exact s_putF hx hb (fld_words hK hq args) (fun w hw => hw) (tyF ci) (cls_ty ci q hq) (cls_nm ci q hq) hown hKK hq hk0 (hl1 args) hs1 f3 (hnm.trans (of_decide_eq_true f1)) (of_decide_eq_true f2) hd
        · exact s_put hx hb (fld_words hK hq args) (fun w hw => hw) (tyF ci) (cls_ty ci q hq) (cls_nm ci q hq) hown hKK hq hk0 (hl1 args) hs1 f3 hd
    · cases hk
  · rename_i ci N _ _
    unfold ok_new at hk
    split at hk
    · rename_i idx q hd hq
      obtain ⟨k1, hk⟩ := Bool.and_eq_true_iff.mp hk
      obtain ⟨k2, hk⟩ := Bool.and_eq_true_iff.mp hk
      obtain ⟨k3, k4⟩ := Bool.and_eq_true_iff.mp hk
      have k1 := of_decide_eq_true k1
      subst k1
      exact s_new hx hb hn0 hlz.1 (fld_words hK hq args) (fun w hw => hw) (tyF ci) (cls_ty ci q hq) hown (inG_use hK k2 args) (inG_use hK k3 args) (inG_use hK k4 args) hKK hq (cls_df ci q hq) hd
    · cases hk
  · rename_i t _ _ _
    unfold ok_anew at hk
    split at hk
    · rename_i idx hd
      rcases Bool.or_eq_true_iff.mp hk with hk | hk
      · obtain ⟨k1, k2⟩ := Bool.and_eq_true_iff.mp hk
        have k1 := of_decide_eq_true k1
        subst k1
        exact s_anew hx hb hn0 hlz.1 hown (inG_use hK k2 args) hK.2.2.2.1 hKK (by decide) rfl hd
      · obtain ⟨k1, k2⟩ := Bool.and_eq_true_iff.mp hk
        have k1 := of_decide_eq_true k1
        subst k1
        exact s_anew hx hb hn0 hlz.1 hown (inG_use hK k2 args) hK.2.2.2.2.1 hKK (by decide) rfl hd
    · cases hk
  · rename_i ci _ _ _
    unfold ok_cast at hk
    split at hk
    · rename_i idx q hd hq
      exact s_cast hx hb hown hKK hq (inG_use hK hk args) hd
    · cases hk
  · rename_i t _ _ _
    unfold ok_castA at hk
    split at hk
    · rename_i idx hd
      rcases Bool.or_eq_true_iff.mp hk with hk | hk
      · obtain ⟨k1, k2⟩ := Bool.and_eq_true_iff.mp hk
        have k1 := of_decide_eq_true k1
        subst k1
        exact s_castA hx hb hown (inG_use hK k2 args) (va_nm_int (hKK.2 0 _ rfl).2) (by decide) hd
      · obtain ⟨k1, k2⟩ := Bool.and_eq_true_iff.mp hk
        have k1 := of_decide_eq_true k1
        subst k1
        exact s_castA hx hb hown (inG_use hK k2 args) (va_nmO (hKK.2 4 _ rfl).2 (by decide +kernel)) (by decide) hd
    · cases hk
  · unfold ok_gets at hk
    split at hk
    · rename_i idx hd
      exact s_gets hx hb hlz.1 hown (inG_use hK hk args) hd
    · cases hk
  · unfold ok_oinit at hk
    split at hk
    · rename_i idx hd
      obtain ⟨k1, hk⟩ := Bool.and_eq_true_iff.mp hk
      obtain ⟨k2, hk⟩ := Bool.and_eq_true_iff.mp hk
      obtain ⟨k3, hk⟩ := Bool.and_eq_true_iff.mp hk
      obtain ⟨k4, k5⟩ := Bool.and_eq_true_iff.mp hk
      exact s_oinit hx hb hml' (Nat.le_trans (of_decide_eq_true k4) hfr) (Nat.le_trans (of_decide_eq_true k5) hlo) hown (inG_use hK k1 args) (inG_use hK k2 args) (inG_use hK k3 args) hd
    · cases hk
  · unfold ok_copy at hk
    split at hk
    · rename_i idx hd
      obtain ⟨k1, hk⟩ := Bool.and_eq_true_iff.mp hk
      obtain ⟨k2, hk⟩ := Bool.and_eq_true_iff.mp hk
      obtain ⟨k3, hk⟩ := Bool.and_eq_true_iff.mp hk
      obtain ⟨k4, hk⟩ := Bool.and_eq_true_iff.mp hk
      obtain ⟨k5, k6⟩ := Bool.and_eq_true_iff.mp hk
      exact s_copyI hx hb hml' (Nat.le_trans (of_decide_eq_true k5) hfr) (Nat.le_trans (of_decide_eq_true k6) hlo) hown (inG_use hK k1 args) (inG_use hK k2 args) (inG_use hK k3 args) (inG_use hK k4 args) hKK hd
    · cases hk
  · unfold ok_copy at hk
    split at hk
    · rename_i idx hd
      obtain ⟨k1, hk⟩ := Bool.and_eq_true_iff.mp hk
      obtain ⟨k2, hk⟩ := Bool.and_eq_true_iff.mp hk
      obtain ⟨k3, hk⟩ := Bool.and_eq_true_iff.mp hk
      obtain ⟨k4, hk⟩ := Bool.and_eq_true_iff.mp hk
      obtain ⟨k5, k6⟩ := Bool.and_eq_true_iff.mp hk
      exact s_copyQ hx hb hml' (Nat.le_trans (of_decide_eq_true k5) hfr) (Nat.le_trans (of_decide_eq_true k6) hlo) hown (inG_use hK k1 args) (inG_use hK k2 args) (inG_use hK k3 args) (inG_use hK k4 args) hKK (fun ci hci => by
        match ci, hci with
        | 0, _ => exact ⟨_, rfl⟩
        | 1, _ => exact ⟨_, rfl⟩
        | 2, _ => exact ⟨_, rfl⟩
        | 3, _ => exact ⟨_, rfl⟩
        | 4, _ => exact ⟨_, rfl⟩
        | 5, _ => exact ⟨_, rfl⟩
        | 6, _ => exact ⟨_, rfl⟩
        | 7, _ => exact ⟨_, rfl⟩) (cast_words hK) hd
    · cases hk
  · unfold ok_clone at hk
    split at hk
    · rename_i idx hd
      obtain ⟨k1, hk⟩ := Bool.and_eq_true_iff.mp hk
      obtain ⟨k2, hk⟩ := Bool.and_eq_true_iff.mp hk
      obtain ⟨k3, hk⟩ := Bool.and_eq_true_iff.mp hk
      obtain ⟨k4, hk⟩ := Bool.and_eq_true_iff.mp hk
      obtain ⟨k5, hk⟩ := Bool.and_eq_true_iff.mp hk
      obtain ⟨k6, hk⟩ := Bool.and_eq_true_iff.mp hk
      obtain ⟨k7, k8⟩ := Bool.and_eq_true_iff.mp hk
      exact s_clone hx hb hn0 hlz.1 hml' (Nat.le_trans (of_decide_eq_true k7) hfr) (Nat.le_trans (of_decide_eq_true k8) hlo) hown (inG_use hK k1 args) (inG_use hK k2 args) (inG_use hK k3 args) (inG_use hK k4 args) (inG_use hK k5 args) (inX_nw hK k6) hKK hd
    · cases hk
  · unfold ok_mm at hk
    split at hk
    · rename_i idx hd
      obtain ⟨k1, hk⟩ := Bool.and_eq_true_iff.mp hk
      obtain ⟨k2, hk⟩ := Bool.and_eq_true_iff.mp hk
      obtain ⟨k3, hk⟩ := Bool.and_eq_true_iff.mp hk
      obtain ⟨k4, hk⟩ := Bool.and_eq_true_iff.mp hk
      obtain ⟨k5, k6⟩ := Bool.and_eq_true_iff.mp hk
      exact s_mx hx hb hml' (Nat.le_trans (of_decide_eq_true k5) hfr) (Nat.le_trans (of_decide_eq_true k6) hlo) hown (inG_use hK k1 args) (inG_use hK k2 args) (inG_use hK k3 args) (inG_use hK k4 args) hcr hsr hd
    · cases hk
  · unfold ok_mm at hk
    split at hk
    · rename_i idx hd
      obtain ⟨k1, hk⟩ := Bool.and_eq_true_iff.mp hk
      obtain ⟨k2, hk⟩ := Bool.and_eq_true_iff.mp hk
      obtain ⟨k3, hk⟩ := Bool.and_eq_true_iff.mp hk
      obtain ⟨k4, hk⟩ := Bool.and_eq_true_iff.mp hk
      obtain ⟨k5, k6⟩ := Bool.and_eq_true_iff.mp hk
      exact s_mn hx hb hml' (Nat.le_trans (of_decide_eq_true k5) hfr) (Nat.le_trans (of_decide_eq_true k6) hlo) hown (inG_use hK k1 args) (inG_use hK k2 args) (inG_use hK k3 args) (inG_use hK k4 args) hcr hsr hd
    · cases hk
  · unfold ok_getC at hk
    split at hk
    · rename_i idx hd
      obtain ⟨k1, hk⟩ := Bool.and_eq_true_iff.mp hk
      obtain ⟨k2, hk⟩ := Bool.and_eq_true_iff.mp hk
      obtain ⟨k3, hk⟩ := Bool.and_eq_true_iff.mp hk
      obtain ⟨k4, hk⟩ := Bool.and_eq_true_iff.mp hk
      obtain ⟨k5, hk⟩ := Bool.and_eq_true_iff.mp hk
      obtain ⟨k6, k7⟩ := Bool.and_eq_true_iff.mp hk
      exact s_getC hx hb hml' (Nat.le_trans (of_decide_eq_true k6) hfr) (Nat.le_trans (of_decide_eq_true k7) hlo) hown (inG_use hK k1 args) (inX_nw hK k2) (inG_use hK k3 args) (inG_use hK k4 args) (inG_use hK k5 args) hK.2.2.2.2.2.1 hKK hd
    · cases hk
  · unfold ok_ldcM at hk
    split at hk
    · rename_i idx hd
      exact s_ldcM hx hb hown (inG_use hK hk args) hK.2.2.2.2.2.1 hd
    · cases hk
  · rename_i x _ _ _
    unfold ok_ldcI at hk
    split at hk
    · rename_i idx hd
      exact s_ldcI hx hb hown (inG_use hK hk args) hd
    · cases hk
  · rename_i x g _ _
    unfold ok_ldc2 at hk
    split at hk
    · rename_i idx hd
      exact s_ldc2 hx hb hown (inG_use hK hk args) hd
    · cases hk
  · exact so_none
  · exact so_none
  · cases hk
end Asm
end
section
section Sound
variable {p : Program} {l : Launch} {e : Env} {R : Room} {s : State} {m : MethodId} {args : Array Value} {below : List Frame} {meth : Method} {c : Code} {Q : State → Prop} {v : EV} {i n0 z0 : Nat} {pc len : Nat} {L : AL} {st : List AV} {h : AH}
theorem snd_step (hi : okm i = true) (C : CX v p l R s m meth c i n0) (hL : L.length = mxl i) (hcr : ∀ cells, h.2.1 = n0 + cells → cells ≤ R.cells) (hsr : ∀ slots, h.2.2.1 = z0 + slots → slots ≤ R.slots) {pc' : Nat} {L' : AL} {st' : List AV} {h' : AH} (hs : stp i pc L st h = some (.inl (pc', L', st', h'))) (hc : h'.2.1 ≤ n0 + R.cells) (hz : h'.2.2.1 ≤ z0 + R.slots) (k : WW v p l e R s m args below meth c n0 z0 Q pc' L' st' h') : WW v p l e R s m args below meth c n0 z0 Q pc L st h := by
  have C' := C
  obtain ⟨hx, hb, hml, hown, hret, hlocks, hnm, htb, hn0, hK, hlz, hfr, hlo, hl⟩ := C
  unfold stp at hs
  split at hs
  · rename_i ins len hcod
    have hk := okm_at hi hcod
    obtain ⟨hk1, hk2⟩ := Bool.and_eq_true_iff.mp hk
    have hSO : SO v p l e R s m args below meth c n0 z0 Q pc L st h (stl ins pc len L st h) := snd_l hx hb hn0 hK.2.2.1 hlz.1 (inG_use hK g_ai args) (inG_use hK g_al args) (inG_use hK g_az args) site_word (cast_words hK) hk1
    unfold stm at hs
    split at hs
    · unfold o_ret at hs
      split at hs
      · split at hs
        · split at hs <;> cases hs
        · cases hs
      · cases hs
    · unfold o_lret at hs
      split at hs <;> cases hs
    · unfold o_aret at hs
      split at hs <;> cases hs
    · unfold o_vret at hs
      split at hs <;> cases hs
    · exact (hSO _ _ _ _ (wrp_some hs)).2.2.2 hc hz k
  · rename_i op len hcod
    have hk : okx i pc op = true := okm_at hi hcod
    have hSO : SO v p l e R s m args below meth c n0 z0 Q pc L st h (stx op pc L st h) := snd_x C' hL hcr hsr hk
    unfold stn at hs
    split at hs
    · unfold o_throw at hs
      split at hs <;> cases hs
    · unfold o_call at hs
      split at hs <;> cases hs
    · exact (hSO _ _ _ _ (wrp_some hs)).2.2.2 hc hz k
  · cases hs
theorem snd_throw (C : CX v p l R s m meth c i n0) (hL : L.length = mxl i) {ci : Nat} (hk : ok_throw i pc ci = true) : SE v p l e R s m args below meth c n0 z0 Q pc L st h (o_throw ci st h) := by
  obtain ⟨hx, hb, hml, hown, hret, hlocks, hnm, htb, hn0, hK, hlz, hfr, hlo, hl⟩ := C
  unfold ok_throw at hk
  split at hk
  · rename_i ik is ic q d0 d4 d6 hq
    obtain ⟨k1, hk⟩ := Bool.and_eq_true_iff.mp hk
    obtain ⟨k2, hk⟩ := Bool.and_eq_true_iff.mp hk
    obtain ⟨k3, hk⟩ := Bool.and_eq_true_iff.mp hk
    obtain ⟨k4, hk⟩ := Bool.and_eq_true_iff.mp hk
    obtain ⟨k5, hk⟩ := Bool.and_eq_true_iff.mp hk
    obtain ⟨k6, hk⟩ := Bool.and_eq_true_iff.mp hk
    obtain ⟨k7, hk⟩ := Bool.and_eq_true_iff.mp hk
    obtain ⟨k8, hk⟩ := Bool.and_eq_true_iff.mp hk
    obtain ⟨k9, hk⟩ := Bool.and_eq_true_iff.mp hk
    obtain ⟨k10, hk⟩ := Bool.and_eq_true_iff.mp hk
    obtain ⟨k11, k12⟩ := Bool.and_eq_true_iff.mp hk
    obtain ⟨z, hz, hz2⟩ := List.any_eq_true.mp k7
    obtain ⟨z1, z2⟩ := Bool.and_eq_true_iff.mp hz2
    have z1 := of_decide_eq_true z1
    have z2 := of_decide_eq_true z2
    obtain ⟨sa, hsa⟩ := hK.2.2.2.2.2.2.1 z hz
    rw [z1, z2] at hsa
    obtain ⟨cn, T0, N0⟩ := q
    have k3 : N0 = 0 := of_decide_eq_true k3
    subst k3
    have htb0 : c.exceptionTable.toList = [] := by
      have := htb
      rw [of_decide_eq_true k10] at this
      exact List.map_eq_nil_iff.mp this
    have k11 : 6 ≤ frs i := of_decide_eq_true k11
    have k12 : 90 ≤ lcs i := of_decide_eq_true k12
    refine e_throw hx hb hl hn0 hlz hK.2.2.1 (hml.trans hL.symm) hlocks hown hq k4 (names := exN) (by decide +kernel) (inG_use hK k5 args) (inG_use hK k6 args) hsa ?_ ?_ d0 (of_decide_eq_true k1) d4 d6 (of_decide_eq_true k2) (fun x hx => by rw [htb0] at hx; cases hx) ?_ ?_
    · intro w hw
      rcases Bool.or_eq_true_iff.mp (List.all_eq_true.mp k8 w hw) with h1 | h1
      · exact inG_use hK h1 args
      · exact xw_use (Bool.and_eq_true_iff.mp h1).2 (inX_nw hK h1)
    · intro w hw
      exact List.all_eq_true.mp k9 w hw
    · show 2 + 3 < R.frames
      omega
    · show 8 + (13 * (2 + 1) + 43) ≤ R.locals
      omega
  · cases hk
theorem snd_fin (hi : okm i = true) (C : CX v p l R s m meth c i n0) (hL : L.length = mxl i) {r : AR} {h' : AH} (hs : stp i pc L st h = some (.inr (.inl (r, h')))) (hc : h'.2.1 ≤ n0 + R.cells) (hz : h'.2.2.1 ≤ z0 + R.slots) (hE : EO v s below n0 z0 Q r h') : WW v p l e R s m args below meth c n0 z0 Q pc L st h := by
  have C' := C
  obtain ⟨hx, hb, hml, hown, hret, hlocks, hnm, htb, hn0, hK, hlz, hfr, hlo, hl⟩ := C
  unfold stp at hs
  split at hs
  · rename_i ins len hcod
    have hk := okm_at hi hcod
    obtain ⟨hk1, hk2⟩ := Bool.and_eq_true_iff.mp hk
    unfold okl at hk1
    obtain ⟨hd, hk1⟩ := Bool.and_eq_true_iff.mp hk1
    have hd := of_decide_eq_true hd
    unfold stm at hs
    split at hs
    · have hk1 : len = 1 := by simpa using hk1
      subst hk1
      unfold okr at hk2
      simp only at hk2
      unfold rtb at hs
      split at hk2
      · rename_i hr
        rw [hr] at hs
        exact (e_ret hx hb (hret.trans hr) hlocks hd _ _ hs).2.2.2 hc hz hE
      · rename_i hr
        rw [hr] at hs
        exact (e_zret hx hb (hret.trans hr) hlocks hd _ _ hs).2.2.2 hc hz hE
      · cases hk2
    · have hk1 : len = 1 := by simpa using hk1
      subst hk1
      exact (e_lret hx hb (hret.trans (of_decide_eq_true hk2)) hlocks hd _ _ hs).2.2.2 hc hz hE
    · have hk1 : len = 1 := by simpa using hk1
      subst hk1
      unfold okr at hk2
      simp only at hk2
      split at hk2
      · rename_i n hr
        exact (e_aret hx hb (hret.trans hr) (Or.inl ⟨n, rfl⟩) hlocks hd _ _ hs).2.2.2 hc hz hE
      · rename_i n hr
        exact (e_aret hx hb (hret.trans hr) (Or.inr ⟨n, rfl⟩) hlocks hd _ _ hs).2.2.2 hc hz hE
      · cases hk2
    · have hk1 : len = 1 := by simpa using hk1
      subst hk1
      exact (e_vret hx hb (hret.trans (of_decide_eq_true hk2)) hlocks hd _ _ hs).2.2.2 hc hz hE
    · exact (wrp_nl hs).elim
  · rename_i op len hcod
    have hk : okx i pc op = true := okm_at hi hcod
    unfold stn at hs
    split at hs
    · exact (snd_throw C' hL hk _ _ hs).2.2.2 hc hz hE
    · unfold o_call at hs
      split at hs <;> cases hs
    · exact (wrp_nl hs).elim
  · cases hs
/-! calls -/
def cw (j : Nat) : Cond := .codeWith (nam j) (bts j) (mxl j) (rty j) (tbl j)
theorem okc_use (hK : KX v s) {j : Nat} (h : okc j = true) (a : Array Value) : (cw j).before a s = true := by
  rcases Bool.or_eq_true_iff.mp h with h | h
  · exact inG_use hK h a
  · obtain ⟨h1, h2⟩ := Bool.and_eq_true_iff.mp h
    have h3 := inG_use hK h2 a
    unfold cw
    rw [of_decide_eq_true h1]
    unfold Cond.before Cond.holds at h3 ⊢
    rw [← Cond.code_iff_codeWith_nil]
    exact h3
def rmJ (j : Nat) (h h' : AH) : Room := { frames := frs j, cells := h'.2.1 - h.2.1, slots := h'.2.2.1 - h.2.2.1, locals := lcs j }
def PJ (v : EV) (as : List AV) (h : AH) : Array Value → State → Prop := fun a U => a = (as.map cv).toArray ∧ KX v U ∧ LZ v U ∧ Rl v h U.heap ∧ U.heap.size = h.2.1
def QJ (v : EV) (r : AR) (h' : AH) : Array Value → State → Outcome → State → Prop := fun _ st o t => oc r o ∧ Rl v h' t.heap ∧ va_F (fun q => v.b0 ≤ q) st t
/-- a method's contract, by a run of the abstract machine -/
def MJ (l : Launch) (v : EV) (j : Nat) (as : List AV) (h : AH) (r : AR) (h' : AH) : Prop := MO l (nam j) (headSpec [cw j] (rmJ j h h')) (PJ v as h) (QJ v r h') (h'.2.1 - h.2.1) (h'.2.2.1 - h.2.2.1) (fun q => v.b0 ≤ q)
/-- the classes that a catch names, in the law's pool -/
def cmapL (t : Nat) : Nat := match t with
  | 13 => 10
  | 15 => 11
  | 44 => 12
  | _ => 99
def hok (i : Nat) : Bool := decide (hdl i = (tbl i).map (fun x => (x.1, x.2.1, x.2.2.1, cmapL x.2.2.2))) && (tbl i).all (fun x => decide ((nam i).cls = "FarStoreLaw") && (decide (x.2.2.2 = 13) || (decide (x.2.2.2 = 15) || decide (x.2.2.2 = 44))))
theorem hok_all : (List.range 141).all hok = true := by decide +kernel
def exn (t : Nat) : String := match t with
  | 13 => "java/lang/IllegalArgumentException"
  | 15 => "java/lang/IllegalStateException"
  | _ => "java/util/NoSuchElementException"
theorem x13 : inG (.classLink "FarStoreLaw" 13 "java/lang/IllegalArgumentException") = true := by decide +kernel
theorem x15 : inG (.classLink "FarStoreLaw" 15 "java/lang/IllegalStateException") = true := by decide +kernel
theorem x44 : inG (.classLink "FarStoreLaw" 44 "java/util/NoSuchElementException") = true := by decide +kernel
theorem c13 : inX (.castable "java/lang/IllegalArgumentException" "java/lang/IllegalArgumentException") = true := by decide +kernel
theorem c15 : inX (.castable "java/lang/IllegalStateException" "java/lang/IllegalStateException") = true := by decide +kernel
theorem c44 : inX (.castable "java/util/NoSuchElementException" "java/util/NoSuchElementException") = true := by decide +kernel
theorem ex_link (hK : KX v s) {t : Nat} (ht : t = 13 ∨ t = 15 ∨ t = 44) (a : Array Value) : (Cond.classLink "FarStoreLaw" t (exn t)).before a s = true := by
  rcases ht with rfl | rfl | rfl
  · exact inG_use hK x13 a
  · exact inG_use hK x15 a
  · exact inG_use hK x44 a
theorem ex_cast (hK : KX v s) {t : Nat} (ht : t = 13 ∨ t = 15 ∨ t = 44) (a : Array Value) : (Cond.castable (exn t) (exn t)).before a s = true := by
  rcases ht with rfl | rfl | rfl
  · exact va_Nw.use rfl (inX_nw hK c13)
  · exact va_Nw.use rfl (inX_nw hK c15)
  · exact va_Nw.use rfl (inX_nw hK c44)
theorem ex_cls {t : Nat} (ht : t = 13 ∨ t = 15 ∨ t = 44) : ∃ T0, classes[cmapL t]? = some (exn t, T0, 0) := by
  rcases ht with rfl | rfl | rfl
  · exact ⟨_, rfl⟩
  · exact ⟨_, rfl⟩
  · exact ⟨_, rfl⟩
theorem ex_nc (hK : KX v s) {t u : Nat} (ht : t = 13 ∨ t = 15 ∨ t = 44) (hu : u = 13 ∨ u = 15 ∨ u = 44) (hne : cmapL u ≠ cmapL t) : va_Nc (exn t) (exn u) s := by
  have h8 := hK.2.2.2.2.2.2.2
  rcases ht with rfl | rfl | rfl <;> rcases hu with rfl | rfl | rfl <;> first
    | exact absurd rfl hne
    | exact h8 (_, _) (by decide +kernel)
theorem snd_catch (h141 : i < 141) (C : CX v p l R s m meth c i n0) {ci a p' : Nat} {fs : List AV} {H : Heap} {locs : List Loc} {cells slots : Nat} {ls : Array Slot} {rest : List Value} (hh : hnd i pc ci = some (some p')) (hR : Rl v h H) (ha : h.1 a = some (.inr (ci, fs))) (kk : W p l e R s m args below meth c H locs cells slots Q (F0 m p' ls [.ref a])) : WT p l e R s m args below meth c H locs cells slots Q (F0 m pc ls rest) a := by
  obtain ⟨hx, hb, hml, hown, hret, hlocks, hnm, htb, hn0, hK, hlz, hfr, hlo, hl⟩ := C
  have hok1 := List.all_eq_true.mp hok_all i (List.mem_range.mpr h141)
  obtain ⟨k1, k2⟩ := Bool.and_eq_true_iff.mp hok1
  have k1 := of_decide_eq_true k1
  have hT : hdl i = c.exceptionTable.toList.map (fun h => (h.startPc, h.endPc, h.handlerPc, cmapL h.catchType)) := by
    rw [k1, ← htb, List.map_map]
    rfl
  have kt : ∀ x ∈ c.exceptionTable.toList, (nam i).cls = "FarStoreLaw" ∧ (x.catchType = 13 ∨ x.catchType = 15 ∨ x.catchType = 44) := by
    intro x hx
    have h1 : (x.startPc, x.endPc, x.handlerPc, x.catchType) ∈ tbl i := by
      rw [← htb]
      exact List.mem_map.mpr ⟨x, hx, rfl⟩
    obtain ⟨h2, h3⟩ := Bool.and_eq_true_iff.mp (List.all_eq_true.mp k2 _ h1)
    refine ⟨of_decide_eq_true h2, ?_⟩
    rcases Bool.or_eq_true_iff.mp h3 with h3 | h3
    · exact Or.inl (of_decide_eq_true h3)
    · rcases Bool.or_eq_true_iff.mp h3 with h3 | h3
      · exact Or.inr (Or.inl (of_decide_eq_true h3))
      · exact Or.inr (Or.inr (of_decide_eq_true h3))
  unfold hnd at hh
  split at hh
  · cases hh
  · split at hh
    · rename_i x hx
      cases hh
      rw [List.find?_filter, hT, List.find?_map] at hx
      obtain ⟨y, hy, rfl⟩ := Option.map_eq_some_iff.mp hx
      obtain ⟨hy1, pre, suf, hsplit, hpre⟩ := List.find?_eq_some_iff_append.mp hy
      simp only [Function.comp, Bool.and_eq_true, decide_eq_true_eq, beq_iff_eq] at hy1
      obtain ⟨⟨g1, g2⟩, g3⟩ := hy1
      have hym : y ∈ c.exceptionTable.toList := by rw [hsplit]; simp
      obtain ⟨n1, n2⟩ := kt y hym
      have hn0' : y.catchType ≠ 0 := by rcases n2 with q | q | q <;> omega
      obtain ⟨T0, hcl⟩ := ex_cls n2
      rw [g3] at hcl
      obtain ⟨ce, w1, w2, w3⟩ := r_recv hK.2.2.1 hR ha hcl
      obtain ⟨-, -, ce2, y1, y2, y3, -⟩ := hR.2.1 _ _ (ws_get ha (hR.obj ha).1 (hR.obj ha).2)
      have y1 : H[a]? = some ce2 := y1
      cases w1.symm.trans y1
      have hown' : s.vm.findClass "FarStoreLaw" = some m.cls := by rw [← n1]; exact hown
      refine vx_catch (own := "FarStoreLaw") (name := exn y.catchType) (E := exn y.catchType) (ce := ce) hown' pre y suf hsplit ?_ (by simp [covers, g1, g2]) hn0' (ex_link hK n2 args) (ex_cast hK n2 args) w1 y3 w3 kk
      intro z hz
      have hzm : z ∈ c.exceptionTable.toList := by rw [hsplit]; exact List.mem_append_left _ hz
      obtain ⟨-, m2⟩ := kt z hzm
      have hz0 : z.catchType ≠ 0 := by rcases m2 with q | q | q <;> omega
      cases hcv : covers z pc with
      | false => exact Or.inl rfl
      | true =>
        refine Or.inr ⟨hz0, exn z.catchType, ex_link hK m2 args, ex_nc hK n2 m2 ?_⟩
        intro hcm
        have hzp := hpre z hz
        have hcv' : z.startPc ≤ pc ∧ pc < z.endPc := by simpa [covers] using hcv
        simp [Function.comp, hcv'.1, hcv'.2, hcm, g3] at hzp
    · cases hh
theorem hnd_out (h141 : i < 141) (C : CX v p l R s m meth c i n0) {ci : Nat} (hh : hnd i pc ci = some none) : ∀ x ∈ c.exceptionTable.toList, covers x pc = false := by
  obtain ⟨hx, hb, hml, hown, hret, hlocks, hnm, htb, hn0, hK, hlz, hfr, hlo, hl⟩ := C
  have hok1 := List.all_eq_true.mp hok_all i (List.mem_range.mpr h141)
  obtain ⟨k1, k2⟩ := Bool.and_eq_true_iff.mp hok1
  have k1 := of_decide_eq_true k1
  have hT : hdl i = c.exceptionTable.toList.map (fun h => (h.startPc, h.endPc, h.handlerPc, cmapL h.catchType)) := by
    rw [k1, ← htb, List.map_map]
    rfl
  unfold hnd at hh
  split at hh
  · rename_i hf
    intro x hx
    have h1 := List.filter_eq_nil_iff.mp hf _ (by rw [hT]; exact List.mem_map.mpr ⟨x, hx, rfl⟩)
    simp only [Bool.and_eq_true, decide_eq_true_eq, not_and] at h1
    cases hcv : covers x pc with
    | false => rfl
    | true =>
      have hcv' : x.startPc ≤ pc ∧ pc < x.endPc := by simpa [covers] using hcv
      exact absurd hcv'.2 (h1 hcv'.1)
  · split at hh <;> cases hh
end Sound
end
section
section SoundCall
variable {p : Program} {l : Launch} {e : Env} {R : Room} {s : State} {m : MethodId} {args : Array Value} {below : List Frame} {meth : Method} {c : Code} {Q : State → Prop} {v : EV} {i n0 z0 : Nat} {pc : Nat} {L : AL} {st : List AV} {h : AH}
theorem stp_call {j pc' : Nat} {as rest : List AV} (hs : stp i pc L st h = some (.inr (.inr (j, as, pc', rest)))) : ∃ na kind ci len, cod i pc = some (.inr (17, j, na, kind, ci), len) ∧ na ≤ st.length ∧ st.length ≤ na + 4 ∧ rcv kind ci as h = true ∧ (laid as).length ≤ mxl j ∧ as = (st.take na).reverse ∧ pc' = pc + 3 ∧ rest = st.drop na := by
  unfold stp at hs
  split at hs
  · rename_i ins len hcod
    unfold stm at hs
    split at hs
    · unfold o_ret at hs
      split at hs
      · split at hs
        · split at hs <;> cases hs
        · cases hs
      · cases hs
    · unfold o_lret at hs
      split at hs <;> cases hs
    · unfold o_aret at hs
      split at hs <;> cases hs
    · unfold o_vret at hs
      split at hs <;> cases hs
    · exact (wrp_nl hs).elim
  · rename_i op len hcod
    unfold stn at hs
    split at hs
    · unfold o_throw at hs
      split at hs <;> cases hs
    · rename_i j' na kind ci
      unfold o_call at hs
      split at hs
      · rename_i hc
        cases hs
        exact ⟨na, kind, ci, len, hcod, hc.1, hc.2.1, hc.2.2.1, hc.2.2.2, rfl, rfl, rfl⟩
      · cases hs
    · exact (wrp_nl hs).elim
  · cases hs
theorem ok1_r {i pc len : Nat} {x : Nat × Nat × Nat × Nat × Nat} (h : ok1 i pc (.inr x) len = true) : okx i pc x = true := h
theorem parse_sub {d : String} {n : Nat} (h : (parseMethodDescriptor d).map (fun d => d.parameters.length + 1) = some (n + 1)) : (parseMethodDescriptor d).map (fun d => d.parameters.length) = some n := by
  cases hp : parseMethodDescriptor d with
  | none => rw [hp] at h; cases h
  | some x =>
    rw [hp] at h
    have : x.parameters.length + 1 = n + 1 := Option.some.inj h
    show some x.parameters.length = some n
    congr 1
    omega
theorem snd_call (h141 : i < 141) (hi : okm i = true) (C : CX v p l R s m meth c i n0) (hL : L.length = mxl i) {j pc' : Nat} {as rest : List AV} (hs : stp i pc L st h = some (.inr (.inr (j, as, pc', rest)))) {r1 : AR} {h1 : AH} (hM : MJ l v j as h r1 h1) (hm1 : h.2.1 ≤ h1.2.1) (hm2 : h.2.2.1 ≤ h1.2.2.1) (hth : ∀ ci a, r1 = .inr (ci, a) → ∃ fs, h1.1 a = some (.inr (ci, fs))) (hc1 : h1.2.1 ≤ n0 + R.cells) (hz1 : h1.2.2.1 ≤ z0 + R.slots)
    (kk : match r1 with
      | .inl w => WW v p l e R s m args below meth c n0 z0 Q pc' L (w.toList ++ rest) h1
      | .inr (ci, a) => (match hnd i pc ci with
        | none => False
        | some none => EO v s below n0 z0 Q (.inr (ci, a)) h1
        | some (some p') => WW v p l e R s m args below meth c n0 z0 Q p' L [aR a] h1)) : WW v p l e R s m args below meth c n0 z0 Q pc L st h := by
  have C' := C
  obtain ⟨hx, hb, hml, hown, hret, hlocks, hnm, htb, hn0, hK, hlz, hfr, hlo, hl⟩ := C
  obtain ⟨na, kind, ci, len, hcod, hna, hst4, hrcv, hlaid, rfl, rfl, rfl⟩ := stp_call hs
  have hk0 := ok1_r (okm_at hi hcod)
  have hk : ok_call i pc j na kind ci = true := by simpa only [okx] using hk0
  unfold ok_call at hk
  obtain ⟨hA, hB⟩ := Bool.and_eq_true_iff.mp hk
  obtain ⟨k1, hA⟩ := Bool.and_eq_true_iff.mp hA
  obtain ⟨k2, hA⟩ := Bool.and_eq_true_iff.mp hA
  obtain ⟨k3, hA⟩ := Bool.and_eq_true_iff.mp hA
  obtain ⟨k4, hA⟩ := Bool.and_eq_true_iff.mp hA
  obtain ⟨k5, hA⟩ := Bool.and_eq_true_iff.mp hA
  obtain ⟨k6, hA⟩ := Bool.and_eq_true_iff.mp hA
  obtain ⟨k7, k8⟩ := Bool.and_eq_true_iff.mp hA
  have k6 : frs j + 1 ≤ frs i := of_decide_eq_true k6
  have k7 : 8 + (mxl j + 11) + lcs j ≤ lcs i := of_decide_eq_true k7
  have hy : (nam j).cls ≠ "java/lang/invoke/MethodHandle" ∧ (nam j).cls ≠ "java/lang/invoke/VarHandle" := ⟨of_decide_eq_true k4, of_decide_eq_true k5⟩
  have hlen : (st.take na).reverse.length = na := by rw [List.length_reverse, List.length_take]; omega
  have hst : st.map cv = ((st.take na).reverse.map cv).reverse ++ (st.drop na).map cv := by
    rw [← List.map_reverse, List.reverse_reverse, ← List.map_append, List.take_append_drop]
  have hrl : (st.drop na).length ≤ 4 := by rw [List.length_drop]; omega
  intro ls H locs cells slots hLh hR hS hcn hzn
  have hcell : cells + (h1.2.1 - h.2.1) ≤ R.cells := by omega
  have hslot : slots + (h1.2.2.1 - h.2.2.1) ≤ R.slots := by omega
  have hls : ls.size = c.maxLocals := by rw [hml, ← hL]; exact hLh.size
  have hsum : ((((st.drop na).map cv)).map fun v => v.category).sum ≤ 8 := by
    have := cv_sum (st.drop na)
    omega
  have main : ∀ ig, decode c.code pc = .ok (ig, 3) → (∀ T : State, T.heap = H → Stand p l e R s m args below meth c T locs cells slots → ∃ (vm₁ : Vm) (mk : MethodId), Stand p l e R s m args below meth c (T.setVm vm₁) locs cells slots ∧ (T.setVm vm₁).methodNamed? (nam j) = some mk ∧ ∀ target, (∀ acts, Steps p.tables e below (doInvoke e ((T.setVm vm₁).setTop (F0 m pc ls ((st.drop na).map cv))) acts mk ((st.take na).reverse.map cv).toArray).1 target) → Steps p.tables e below (T.setTop (F0 m pc ls (st.map cv))) target) → W p l e R s m args below meth c H locs cells slots Q (F0 m pc ls (st.map cv)) := by
    intro ig hdg enter
    refine w_call (bytes := bts j) (maxL := mxl j) (ret := rty j) (hh := tbl j) enter hM hls hdg hsum (by show frs j + 1 ≤ R.frames; omega) (by show 8 + (mxl j + 11) + lcs j ≤ R.locals; omega) hcell hslot ?_ ?_ ?_
    · intro U hW
      have hKU := hK.warm hW
      refine ⟨atoms_intro fun w hw => ?_, okc_use hKU k1 _, inG_use hKU k2 _⟩
      rw [List.mem_singleton.mp hw]
      exact okc_use hKU k1 _
    · intro U hUH hW hsz
      refine ⟨rfl, hK.warm hW, hlz.to hW.alike (fun q h1 h2 => by rw [hUH]; exact hS.2.1 q h1 h2) (by rw [hUH]; exact hS.1), by rw [hUH]; exact hR, ?_⟩
      rw [hUH]
      exact heap_size hR hlz.1 hS hn0 hcn hsz
    · intro o st₀ t L0 h0 hL0 hWt hq
      obtain ⟨ho, hR1, hF⟩ := hq
      rw [va_F, h0] at hF
      have hS1 : va_S (fun q => v.b0 ≤ q) s.heap t.heap (locs ++ L0) := by
        refine ⟨Nat.le_trans hS.1 hF.1, fun q w1 w2 => (hF.2 q (Nat.lt_of_lt_of_le w1 hS.1) w2).trans (hS.2.1 q w1 w2), fun q hq => ?_⟩
        rcases List.mem_append.mp hq with w | w
        · exact hS.2.2 q w
        · exact hL0 q w
      have e1 : h1.2.1 = n0 + (cells + (h1.2.1 - h.2.1)) := by omega
      have e2 : h1.2.2.1 = z0 + (slots + (h1.2.2.1 - h.2.2.1)) := by omega
      rcases r1 with w | ⟨cx, a⟩
      · have ho : o = .returned (w.map cv) := ho
        subst ho
        have k := kk ls t.heap (locs ++ L0) _ _ hLh hR1 hS1 e1 e2
        have ee : (w.toList ++ st.drop na).map cv = (w.map cv).toList ++ (st.drop na).map cv := by cases w <;> rfl
        rw [ee] at k
        exact k
      · have ho : o = .threw a := ho
        subst ho
        obtain ⟨fs, hfs⟩ := hth cx a rfl
        simp only at kk
        split at kk
        · exact kk.elim
        · rename_i hh
          refine WT.out rfl rfl rfl (hnd_out h141 C' hh) hlocks fun t2 q1 q2 q3 q4 q5 => ?_
          exact kk t2 (.threw a) (locs ++ L0) _ _ rfl (by rw [q1]; exact hR1) (hS1.F q1) e1 e2 q2 q3 q4 q5 hS1.2.2
        · rename_i p' hh
          exact snd_catch h141 C' hh hR1 hfs (kk ls t.heap (locs ++ L0) _ _ hLh hR1 hS1 e1 e2)
  have hsg : ∀ (meth : Method) (mk : MethodId), s.methodNamed? (nam j) = some mk → s.vm.method? mk = some meth → parseMethodDescriptor (nam j).desc = some meth.sig := by
    intro meth mk g1 g2
    obtain ⟨m3, meth3, c3, q1, q2, -, -, -, -, -, -, q3⟩ := Cond.codeWith_spec (okc_use hK k1 args)
    cases g1.symm.trans q1
    cases g2.symm.trans q2
    exact q3
  split at hB
  · rename_i idx hd
    obtain ⟨b1, hB⟩ := Bool.and_eq_true_iff.mp hB
    obtain ⟨b2, b3⟩ := Bool.and_eq_true_iff.mp hB
    have hd' : decode c.code pc = .ok (.invokestatic idx, 3) := by rw [hb]; exact hd
    refine main _ hd' ?_
    rw [hst]
    exact en_S hx hown (inG_use hK b1 args) (inG_use hK b2 args) (inG_use hK k2 args) (okc_use hK k1 args) hy (of_decide_eq_true b3) (by rw [List.length_map]; exact hlen) hd'
  · rename_i idx hd
    split at hB
    · rename_i q hq
      obtain ⟨b1, hB⟩ := Bool.and_eq_true_iff.mp hB
      obtain ⟨b2, hB⟩ := Bool.and_eq_true_iff.mp hB
      obtain ⟨b3, b4⟩ := Bool.and_eq_true_iff.mp hB
      have hd' : decode c.code pc = .ok (.invokevirtual idx, 3) := by rw [hb]; exact hd
      refine main _ hd' ?_
      rw [hst]
      unfold rcv at hrcv
      simp only at hrcv
      split at hrcv
      · rename_i b as' hras
        split at hrcv
        · rename_i c' fs hfs
          have hcc : c' = ci := eq_of_beq hrcv
          subst hcc
          rw [hras] at hlen ⊢
          obtain ⟨cellB, w1, w2, w3⟩ := r_recv hK.2.2.1 hR hfs hq
          have hn1 : as'.length + 1 = na := hlen
          subst hn1
          have e5 : ((Sum.inr (Sum.inr (some b)) :: as' : List AV).map cv).reverse ++ (st.drop (as'.length + 1)).map cv = (as'.map cv).reverse ++ .ref b :: (st.drop (as'.length + 1)).map cv := by
            simp [cv]
          rw [e5]
          exact en_V hx hown (Or.inl (inG_use hK b1 args)) (inG_use hK b2 args) (inG_use hK b3 args) hy (parse_sub (of_decide_eq_true b4)) (fun meth mk => hsg meth mk) w1 w2 w3 (by rw [List.length_map]) hd'
        · cases hrcv
      · cases hrcv
    · cases hB
  · rename_i idx hd
    obtain ⟨b1, hB⟩ := Bool.and_eq_true_iff.mp hB
    obtain ⟨b2, hB⟩ := Bool.and_eq_true_iff.mp hB
    obtain ⟨b3, hB⟩ := Bool.and_eq_true_iff.mp hB
    obtain ⟨b4, b5⟩ := Bool.and_eq_true_iff.mp hB
    have hd' : decode c.code pc = .ok (.invokespecial idx, 3) := by rw [hb]; exact hd
    refine main _ hd' ?_
    rw [hst]
    unfold rcv at hrcv
    simp only at hrcv
    split at hrcv
    · rename_i b as' hras
      rw [hras] at hlen ⊢
      have hn1 : as'.length + 1 = na := hlen
      subst hn1
      have e5 : ((Sum.inr (Sum.inr (some b)) :: as' : List AV).map cv).reverse ++ (st.drop (as'.length + 1)).map cv = (as'.map cv).reverse ++ .ref b :: (st.drop (as'.length + 1)).map cv := by
        simp [cv]
      rw [e5]
      exact en_I hx hown (of_decide_eq_true b3) (inG_use hK b1 args) (inG_use hK b2 args) (inG_use hK b4 args) hy (parse_sub (of_decide_eq_true b5)) (by rw [List.length_map]) hd'
    · cases hrcv
  · cases hB
end SoundCall
end
section
/-! EVERY RUN of the abstract machine is one of the real machine -/
def P2 (l : Launch) (v : EV) (f : Nat) : Prop := ∀ (i pc : Nat) (L : AL) (st : List AV) (h : AH) (r : AR) (h' : AH), run f i pc L st h = some (r, h') → i < 141 → L.length = mxl i →
  ∀ (p : Program) (e : Env) (R : Room) (s : State) (m : MethodId) (args : Array Value) (below : List Frame) (meth : Method) (c : Code) (n0 z0 : Nat) (Q : State → Prop), CX v p l R s m meth c i n0 → h'.2.1 ≤ n0 + R.cells → h'.2.2.1 ≤ z0 + R.slots → EO v s below n0 z0 Q r h' → WW v p l e R s m args below meth c n0 z0 Q pc L st h
theorem entL_len {j : Nat} {as : List AV} (h : (laid as).length ≤ mxl j) : (entL j as).length = mxl j := by
  simp [entL]
  omega
theorem met_of {l : Launch} {v : EV} {f j : Nat} {as : List AV} {h h' : AH} {r : AR} (hl : l.stackTraces = false) (H2 : P2 l v f) (hrun : run f j 0 (entL j as) [] h = some (r, h')) (hj : j < 141) (hlaid : (laid as).length ≤ mxl j) (hpl : plainName (nam j).cls = true) : MJ l v j as h r h' := by
  obtain ⟨m1, m2, -, -⟩ := run_mono _ _ _ _ _ _ _ _ hrun
  unfold MJ MO
  refine MetFree.of_bodyS (code := bts j) (maxLocals := mxl j) (ret := rty j) hpl ?_ ?_
  · intro args s m hpre hn
    obtain ⟨m', meth, c, hn', h1, h2, h3, h4, -, h5, h6, -⟩ := Cond.codeWith_spec (atoms_spec (ws := [cw j]) hpre _ List.mem_cons_self)
    cases hn.symm.trans hn'
    exact ⟨meth, c, h1, h2, h3, h4, h5, h6⟩
  · intro p e s m args below meth c s₁ B hml hP _
    obtain ⟨rfl, hK, hlz, hR, hsz⟩ := hP
    have htab : c.exceptionTable.toList.map (fun h => (h.startPc, h.endPc, h.handlerPc, h.catchType)) = tbl j := by
      obtain ⟨m', meth', c', hn', h1, h2, -, -, h5, -, -, -⟩ := Cond.codeWith_spec (atoms_spec (ws := [cw j]) B.pre _ List.mem_cons_self)
      cases B.named.symm.trans hn'
      cases B.method.symm.trans h1
      cases (Stand.of_body B).code.symm.trans h2
      exact h5
    have hh0 : s₁.heap = s.heap := by rw [B.state]; rfl
    have C : CX v p l (rmJ j h h') s m meth c j h.2.1 := ⟨B.exec, B.bytes, hml, findClass_of_methodNamed B.named, B.returns, B.notSynchronized, (name_of_methodNamed B.named B.method).1, htab, hsz.symm, hK, hlz, Nat.le_refl _, Nat.le_refl _, hl⟩
    have w := H2 j 0 (entL j as) [] h r h' hrun hj (entL_len hlaid) p e (rmJ j h h') s m (as.map cv).toArray below meth c h.2.1 h.2.2.1
      (fun t => ∃ o, t.status = .running ∧ Ended t below o ∧ QJ v r h' (as.map cv).toArray s o t ∧ s.WarmedH t.vm ∧ ∃ L, s.sameButNew ({ t with vm := s.vm } : State) L (h'.2.1 - h.2.1) (h'.2.2.1 - h.2.2.1) ∧ ∀ q ∈ L, v.b0 ≤ q.base)
      C (by show h'.2.1 ≤ h.2.1 + (h'.2.1 - h.2.1); omega) (by show h'.2.2.1 ≤ h.2.2.1 + (h'.2.2.1 - h.2.2.1); omega)
      (fun t o L cells slots g1 g2 g3 g4 g5 g6 g7 g8 g9 g10 => by
        have e1 : cells = h'.2.1 - h.2.1 := by omega
        have e2 : slots = h'.2.2.1 - h.2.2.1 := by omega
        subst e1; subst e2
        exact ⟨o, g6, g7, ⟨g1, g2, g3⟩, g8, L, g9, g10⟩)
      _ s.heap [] 0 0 (lh_entry hlaid) hR va_S.rf rfl rfl
    rw [List.map_nil, ← lg_entry_eq] at w
    obtain ⟨t, a1, o, b1, b2, b3⟩ := w s₁ hh0 (Stand.of_body B)
    exact ⟨t, o, a1, b1, b2, b3⟩
theorem sound {l : Launch} (hl : l.stackTraces = false) (v : EV) (hok : ∀ i, i < 141 → okm i = true) : ∀ f, P2 l v f := by
  intro f
  induction f with
  | zero => intro i pc L st h r h' hrun; cases hrun
  | succ f ih =>
    intro i pc L st h r h' hrun hi hL p e R s m args below meth c n0 z0 Q C hc hz hE
    obtain ⟨m1, m2, -, -⟩ := run_mono _ _ _ _ _ _ _ _ hrun
    have hcr : ∀ cells, h.2.1 = n0 + cells → cells ≤ R.cells := fun cells q => by omega
    have hsr : ∀ slots, h.2.2.1 = z0 + slots → slots ≤ R.slots := fun slots q => by omega
    rw [run] at hrun
    split at hrun
    · cases hrun
    · rename_i pc' L' st' h1 hs
      obtain ⟨n1, n2, -, -⟩ := run_mono _ _ _ _ _ _ _ _ hrun
      exact snd_step (hok i hi) C hL hcr hsr hs (by omega) (by omega) (ih _ _ _ _ _ _ _ hrun hi ((stp_mono hs).1.trans hL) p e R s m args below meth c n0 z0 Q C hc hz hE)
    · rename_i r0 hs
      cases hrun
      exact snd_fin (hok i hi) C hL hs hc hz hE
    · rename_i j as pc' rest hs
      obtain ⟨na, kind, ci, len, hcod, -, -, -, hlaid, -, -, -⟩ := stp_call hs
      have hk0 := ok1_r (okm_at (hok i hi) hcod)
      have hk : ok_call i pc j na kind ci = true := by simpa only [okx] using hk0
      unfold ok_call at hk
      obtain ⟨hA, -⟩ := Bool.and_eq_true_iff.mp hk
      obtain ⟨-, hA⟩ := Bool.and_eq_true_iff.mp hA
      obtain ⟨-, hA⟩ := Bool.and_eq_true_iff.mp hA
      obtain ⟨hpl, hA⟩ := Bool.and_eq_true_iff.mp hA
      obtain ⟨-, hA⟩ := Bool.and_eq_true_iff.mp hA
      obtain ⟨-, hA⟩ := Bool.and_eq_true_iff.mp hA
      obtain ⟨-, hA⟩ := Bool.and_eq_true_iff.mp hA
      obtain ⟨-, hj⟩ := Bool.and_eq_true_iff.mp hA
      have hj : j < 141 := of_decide_eq_true hj
      split at hrun
      · cases hrun
      · rename_i w h1 hrun1
        obtain ⟨q1, q2, -, q4⟩ := run_mono _ _ _ _ _ _ _ _ hrun1
        obtain ⟨n1, n2, -, -⟩ := run_mono _ _ _ _ _ _ _ _ hrun
        exact snd_call hi (hok i hi) C hL hs (met_of hl ih hrun1 hj hlaid hpl) q1 q2 q4 (by omega) (by omega) (ih _ _ _ _ _ _ _ hrun hi hL p e R s m args below meth c n0 z0 Q C hc hz hE)
      · rename_i cx a h1 hrun1
        obtain ⟨q1, q2, -, q4⟩ := run_mono _ _ _ _ _ _ _ _ hrun1
        split at hrun
        · cases hrun
        · rename_i hh
          cases hrun
          refine snd_call hi (hok i hi) C hL hs (met_of hl ih hrun1 hj hlaid hpl) q1 q2 q4 (by omega) (by omega) ?_
          simp only [hh]
          exact hE
        · rename_i p' hh
          obtain ⟨n1, n2, -, -⟩ := run_mono _ _ _ _ _ _ _ _ hrun
          refine snd_call hi (hok i hi) C hL hs (met_of hl ih hrun1 hj hlaid hpl) q1 q2 q4 (by omega) (by omega) ?_
          simp only [hh]
          exact ih _ _ _ _ _ _ _ hrun hi hL p e R s m args below meth c n0 z0 Q C hc hz hE
end
section
/-! THE LAW'S START: the abstract machine at the law's entry -/
def h00 (v : EV) : AH := (up (up (fun _ => none) v.scr (some (.inl (9, v.len, .inl v.xs)))) v.aD (some (.inl (4, 0, .inr (.inr (fun _ => none))))), v.b0, 0, v.aD, v.aM)
theorem strl_in : ∀ q ∈ strl, Cond.stringRef q.1 q.2.1 q.2.2 ∈ lw_tbl ∧ q.1 = R_Store := by decide +kernel
theorem ncl_in : ∀ q ∈ ncl, Cond.not (.castable q.1 q.2) ∈ flatC (Jvm.Cond.and given_1 narrow_1) := by decide +kernel
theorem arr_known {s : State} {args : Array Value} {ty : FieldType} (h : (Cond.arrayClass ty).before args s = true) : ∃ cA : ClassId, ArrOfT s cA ty ∧ s.vm.findClass ("[" ++ ty.toString) = some cA := by
  obtain ⟨cA, kA, comp, h1, h2, h3⟩ := Cond.arrayClass_spec h
  exact ⟨cA, fun n z => ⟨fun k h => (by cases h), kA, h2, comp, h3⟩, h1⟩
theorem arr_over {s : State} {args : Array Value} {C : String} (h : (Cond.arrayOver (.object C)).before args s = true) : ∃ cA : ClassId, ArrOfT s cA (.object C) ∧ va_RA s cA (.object C) := by
  obtain ⟨comp, cA, kA, h1, -, h3, h4, h5⟩ := Cond.arrayOver_spec h
  exact ⟨cA, fun n z => ⟨fun k h => (by cases h), kA, h3, comp, h4⟩, kA, comp, h3, h4, h1, h5⟩
theorem scr_ne {s : State} {b a L : Nat} {xs : Nat → Int32} {C : String} {A : Nat → Prop} (h1 : va_X b L xs s s.heap) (h2 : va_T (.object C) a 0 (fun _ => .null) A s s.heap) : b ≠ a := by
  intro q
  subst q
  obtain ⟨c1, e1, ⟨-, k1, f1, m1, g1⟩, -⟩ := h1
  obtain ⟨c2, e2, ⟨-, k2, f2, m2, g2⟩, -⟩ := h2
  cases e1.symm.trans e2
  cases f1.symm.trans f2
  rw [g1] at g2
  cases g2
theorem all_known {s : State} {args : Array Value} (hts : ∀ w ∈ lw_tbl, w.before args s = true) : ∃ (dC : Nat → ClassId) (dI : Nat → Nat → Nat), ∀ (k : Nat) (q : vw_C), classes[k]? = some q → u_Kn s q.1 q.2.1 q.2.2 (dC k) (dI k) := by
  obtain ⟨c0, i0, h0⟩ := u_known (C := R_Store) (T := F_Store) (N := 6) (n := 6) hts (cls_in 0 _ rfl) (hts (.instantiable R_Store 6) (by decide +kernel))
  obtain ⟨c1, i1, h1⟩ := u_known (C := R_Tally) (T := F_Tally) (N := 3) (n := 3) hts (cls_in 1 _ rfl) (hts (.instantiable R_Tally 3) (by decide +kernel))
  obtain ⟨c2, i2, h2⟩ := u_known (C := R_Site) (T := F_Site) (N := 4) (n := 4) hts (cls_in 2 _ rfl) (hts (.instantiable R_Site 4) (by decide +kernel))
  obtain ⟨c3, i3, h3⟩ := u_known (C := R_Item) (T := F_Item) (N := 5) (n := 5) hts (cls_in 3 _ rfl) (hts (.instantiable R_Item 5) (by decide +kernel))
  obtain ⟨c4, i4, h4⟩ := u_known (C := R_Tran) (T := F_Tran) (N := 8) (n := 8) hts (cls_in 4 _ rfl) (hts (.instantiable R_Tran 8) (by decide +kernel))
  obtain ⟨c5, i5, h5⟩ := u_known (C := R_Write) (T := F_Write) (N := 3) (n := 3) hts (cls_in 5 _ rfl) (hts (.instantiable R_Write 3) (by decide +kernel))
  obtain ⟨c6, i6, h6⟩ := u_known (C := R_Change) (T := F_Change) (N := 4) (n := 4) hts (cls_in 6 _ rfl) (hts (.instantiable R_Change 4) (by decide +kernel))
  obtain ⟨c7, i7, h7⟩ := u_known (C := R_Msg) (T := F_Msg) (N := 3) (n := 3) hts (cls_in 7 _ rfl) (hts (.instantiable R_Msg 3) (by decide +kernel))
  obtain ⟨c8, i8, h8⟩ := u_known (C := R_List) (T := F_List) (N := 3) (n := 3) hts (cls_in 8 _ rfl) (hts (.instantiable R_List 3) (by decide +kernel))
  obtain ⟨c9, i9, h9⟩ := u_known (C := R_Model) (T := F_Model) (N := 29) (n := 29) hts (cls_in 9 _ rfl) (hts (.instantiable R_Model 29) (by decide +kernel))
  obtain ⟨c10, i10, h10⟩ := u_known (C := R_Iae) (T := F_Iae) (N := 0) (n := 6) hts (cls_in 10 _ rfl) (hts (.instantiable R_Iae 6) (by decide +kernel))
  obtain ⟨c11, i11, h11⟩ := u_known (C := R_Ise) (T := F_Ise) (N := 0) (n := 6) hts (cls_in 11 _ rfl) (hts (.instantiable R_Ise 6) (by decide +kernel))
  obtain ⟨c12, i12, h12⟩ := u_known (C := R_Nse) (T := F_Nse) (N := 0) (n := 6) hts (cls_in 12 _ rfl) (hts (.instantiable R_Nse 6) (by decide +kernel))
  refine ⟨fun k => match k with
    | 0 => c0
    | 1 => c1
    | 2 => c2
    | 3 => c3
    | 4 => c4
    | 5 => c5
    | 6 => c6
    | 7 => c7
    | 8 => c8
    | 9 => c9
    | 10 => c10
    | 11 => c11
    | 12 => c12
    | _ => c0, fun k => match k with
    | 0 => i0
    | 1 => i1
    | 2 => i2
    | 3 => i3
    | 4 => i4
    | 5 => i5
    | 6 => i6
    | 7 => i7
    | 8 => i8
    | 9 => i9
    | 10 => i10
    | 11 => i11
    | 12 => i12
    | _ => i0, ?_⟩
  intro k q hq
  match k, hq with
  | 0, hq => cases hq; exact h0
  | 1, hq => cases hq; exact h1
  | 2, hq => cases hq; exact h2
  | 3, hq => cases hq; exact h3
  | 4, hq => cases hq; exact h4
  | 5, hq => cases hq; exact h5
  | 6, hq => cases hq; exact h6
  | 7, hq => cases hq; exact h7
  | 8, hq => cases hq; exact h8
  | 9, hq => cases hq; exact h9
  | 10, hq => cases hq; exact h10
  | 11, hq => cases hq; exact h11
  | 12, hq => cases hq; exact h12
  | k + 13, hq => simp [classes] at hq
theorem law_start {p : Program} {e : Env} {s : State} {m : MethodId} {below : List Frame} {meth : Method} {c : Code} (l : Launch) (hl : l.stackTraces = false) {b Ln : Nat} {xs : Nat → Int32} (hLn : Ln ≤ 2560) (hx : p.tables.exec = Jvm.exec) (hb : c.code = code) (hr : meth.sig.returnType = ret) (hml : c.maxLocals = 8) (hown : s.vm.findClass "FarStoreLaw" = some m.cls) (hts : ∀ w ∈ lw_tbl, w.before #[Value.ref b] s = true) (hX : va_X b Ln xs s s.heap) (hbl : b < s.heap.size) (hlocks : meth.locks = false) (hgv : (Jvm.Cond.and given_1 narrow_1).before #[Value.ref b] s = true) (hnm : meth.name = "law") (htb : c.exceptionTable.toList = []) (hok : ∀ i, i < 141 → okm i = true)
    (hgo : ∀ v : EV, v.scr < v.b0 → v.aD < v.b0 → v.scr ≠ v.aD → v.len = Ln → (∀ j, inR (v.xs j)) → Rn 140 0 (entL 140 [aR v.scr]) [] (h00 v) (fun r h' => r = .inl (some (aI 1)) ∧ h'.2.1 ≤ v.b0 + 601024 ∧ h'.2.2.1 ≤ 7293034)) :
    W p l e room_1 s m #[Value.ref b] below meth c s.heap [] 0 0 (fun t => ∃ o, t.status = .running ∧ Ended t below o ∧ o = .returned (some (.int 1)) ∧ Framed s o t [] 601024 7293034) (entryFrame m ([Value.ref b] : List Value).toArray 8) := by
  have hs := flat_of_before _ hgv
  obtain ⟨dC, dI, hKc⟩ := all_known hts
  obtain ⟨aI0, hI1, hI2⟩ := arr_known (hts (.arrayClass .int) (by decide +kernel))
  obtain ⟨aI1, hL1, hL2⟩ := arr_known (hts (.arrayClass .long) (by decide +kernel))
  obtain ⟨aI2, hB1, hB2⟩ := arr_known (hts (.arrayClass .boolean) (by decide +kernel))
  obtain ⟨aI3, hS1, hS2⟩ := arr_over (hts (.arrayOver (.object "FarStore$Site")) (by decide +kernel))
  obtain ⟨aI4, hO1, hO2⟩ := arr_over (hts (.arrayOver (.object "java/lang/Object")) (by decide +kernel))
  have hA : ∀ a : Nat, a < s.heap.size → ¬ s.heap.size ≤ a := fun a h => by omega
  obtain ⟨aD, hev, hT⟩ := va_Tof (tm := .static "java/util/ArrayList" "DEFAULTCAPACITY_EMPTY_ELEMENTDATA" "[Ljava/lang/Object;") (ty := .object "java/lang/Object") (N := 0) (f := fun _ => .null) (A := fun q => s.heap.size ≤ q) (by decide) (hs (.arrayOf (.static "java/util/ArrayList" "DEFAULTCAPACITY_EMPTY_ELEMENTDATA" "[Ljava/lang/Object;") (.object "java/lang/Object")) (by decide +kernel)) (va_eqt (hs (.eq (.length (.static "java/util/ArrayList" "DEFAULTCAPACITY_EMPTY_ELEMENTDATA" "[Ljava/lang/Object;")) (.int 0)) (by decide +kernel))) (fun j hj => absurd hj (Nat.not_lt_zero j)) hA
  have hZ : va_Z "java/util/ArrayList" "DEFAULTCAPACITY_EMPTY_ELEMENTDATA" "[Ljava/lang/Object;" (.ref aD) (fun q => s.heap.size ≤ q) s s.heap := va_Zof (hts (.laysStatic "java/util/ArrayList" "DEFAULTCAPACITY_EMPTY_ELEMENTDATA" "[Ljava/lang/Object;") (by decide +kernel)) (hts (.initialized "java/util/ArrayList") (by decide +kernel)) hev hA
  obtain ⟨aM, hM⟩ := va_Mi.of (hs (.isRef (.mirror "[Ljava/lang/Object;")) (by decide +kernel))
  have hU : vx_Zq Bundle.tN "UNASSIGNED_STACK" Bundle.steD (fun q => s.heap.size ≤ q) s s.heap := vx_Zqof (hts (.laysStatic Bundle.tN "UNASSIGNED_STACK" Bundle.steD) (by decide +kernel)) (hts (.initialized Bundle.tN) (by decide +kernel)) (hs (.isRef (.static Bundle.tN "UNASSIGNED_STACK" Bundle.steD)) (by decide +kernel)) hA
  have hN : vx_Zq Bundle.tN "SUPPRESSED_SENTINEL" Bundle.listD (fun q => s.heap.size ≤ q) s s.heap := vx_Zqof (hts (.laysStatic Bundle.tN "SUPPRESSED_SENTINEL" Bundle.listD) (by decide +kernel)) (hts (.initialized Bundle.tN) (by decide +kernel)) (hs (.isRef (.static Bundle.tN "SUPPRESSED_SENTINEL" Bundle.listD)) (by decide +kernel)) hA
  have haD : aD < s.heap.size := by
    obtain ⟨cell, h1, -⟩ := hT
    exact (Array.getElem?_eq_some_iff.mp h1).1
  obtain ⟨v, hv⟩ : ∃ v : EV, v = ((dC, dI), (fun t => match t with
    | 0 => aI0
    | 1 => aI1
    | 2 => aI2
    | 3 => aI3
    | _ => aI4), s.heap.size, (b, Ln, fun j => (xs j).toInt), aD, aM) := ⟨_, rfl⟩
  have v1 : v.scr = b := by rw [hv]
  have v2 : v.b0 = s.heap.size := by rw [hv]
  have v3 : v.aD = aD := by rw [hv]
  have v4 : v.len = Ln := by rw [hv]
  have hxs : ∀ j, inR (v.xs j) := fun j => by
    rw [hv]
    exact ⟨Int32.le_toInt _, Int32.toInt_lt _⟩
  have hK : KX v s := by
    refine ⟨fun w hw hg a => word_at (State.WarmedH.refl s) (good_of_word hg) (hts w hw), fun w hw hx => ?_, ⟨by rw [hv]; exact hKc, ?_⟩, va_AO.of (hts (.arrayOver (.object "FarStore$Site")) (by decide +kernel)), va_AO.of (hts (.arrayOver (.object "java/lang/Object")) (by decide +kernel)), by rw [hv]; exact hM, fun q hq => ?_, fun q hq => va_Nc.of (hs _ (ncl_in q hq))⟩
    · have h1 := hts w hw
      unfold xw at hx
      split at hx
      · exact va_Nw.of rfl h1
      · exact va_Nw.of rfl h1
      · cases hx
    · intro k q hq
      rw [hv] at hq
      match k, hq with
      | 0, hq => cases hq; exact ⟨hI1, hI2⟩
      | 1, hq => cases hq; exact ⟨hL1, hL2⟩
      | 2, hq => cases hq; exact ⟨hB1, hB2⟩
      | 3, hq => cases hq; exact ⟨hS1, hS2⟩
      | 4, hq => cases hq; exact ⟨hO1, hO2⟩
      | k + 5, hq => simp [tysOf] at hq
    · obtain ⟨h1, h2⟩ := strl_in q hq
      have hfc : s.vm.findClass q.1 = some (dC 0) := by
        rw [h2]
        exact (hKc 0 _ rfl).2.1
      obtain ⟨-, -, -, sa, -, -, -, -, -, hev⟩ := Cond.stringRef_spec hfc (hts _ h1)
      exact ⟨sa, vk_R.of (hts _ h1) hev⟩
  have hxx : (fun j => Int32.ofInt (v.xs j)) = xs := by
    funext j
    rw [hv]
    exact Int32.ofInt_toInt _
  have hlz : LZ v s := by
    refine ⟨⟨?_, by rw [v1, v2]; exact hbl, by rw [v2, v3]; exact hT, by rw [v2, v3]; exact hZ, by rw [v2]; exact Nat.le_refl _⟩, by rw [v2]; exact hU, by rw [v2]; exact hN⟩
    rw [hxx, v1, v4]
    exact hX
  have hne : v.scr ≠ v.aD := by rw [v1, v3]; exact scr_ne hX hT
  obtain ⟨f, r, h', hrun, rfl, hn1, hz1⟩ := hgo v (by rw [v1, v2]; exact hbl) (by rw [v3, v2]; exact haD) hne v4 hxs
  have hR : Rl v (h00 v) s.heap := by
    refine ⟨Nat.le_refl _, ?_, fun a e he => ?_, fun a t n x he => ?_, rfl⟩
    · intro k q hq
      have : (wsOf v (h00 v)).length = 0 := by rw [ws_len]; exact Nat.sub_self _
      rw [List.eq_nil_of_length_eq_zero this] at hq
      cases hq
    · refine Or.inr ?_
      by_cases h1 : a = v.aD
      · have he' : e = .inl (4, 0, .inr (.inr (fun _ => none))) := by simpa [h00, up, h1] using he.symm
        exact ⟨by rw [h1, v3, v2]; exact haD, Or.inr ⟨h1, he'⟩⟩
      · by_cases h2 : a = v.scr
        · have he' : e = .inl (9, v.len, .inl v.xs) := by simpa [h00, up, h1, h2, hne] using he.symm
          exact ⟨by rw [h2, v1, v2]; exact hbl, Or.inl ⟨h2, he'⟩⟩
        · simp [h00, up, h1, h2] at he
    · by_cases h1 : a = v.aD
      · have he' : (Sum.inl (4, 0, .inr (.inr (fun _ => none))) : AE) = .inl (t, n, x) := by simpa [h00, up, h1] using he
        cases he'
        exact ⟨by decide, fun _ => by decide⟩
      · by_cases h2 : a = v.scr
        · have he' : (Sum.inl (9, v.len, .inl v.xs) : AE) = .inl (t, n, x) := by simpa [h00, up, h1, h2, hne] using he
          cases he'
          refine ⟨by omega, fun hq => ?_⟩
          rw [h2, v1, v2] at hq
          omega
        · simp [h00, up, h1, h2] at he
  have C : CX v p l room_1 s m meth c 140 s.heap.size := ⟨hx, hb, hml, hown, hr, hlocks, hnm, by rw [htb]; rfl, rfl, hK, hlz, by decide, by decide, hl⟩
  have w := sound hl v hok f 140 0 _ [] (h00 v) _ h' hrun (by decide) (entL_len (Nat.le_of_ble_eq_true rfl)) p e room_1 s m #[Value.ref b] below meth c s.heap.size 0
    (fun t => ∃ o, t.status = .running ∧ Ended t below o ∧ o = .returned (some (.int 1)) ∧ Framed s o t [] 601024 7293034) C (by rw [← v2]; exact hn1) (by show h'.2.2.1 ≤ 0 + 7293034; omega)
    (fun t o L cells slots g1 g2 g3 g4 g5 g6 g7 g8 g9 g10 => by
      have e1 : o = .returned (some (.int 1)) := by
        have g1 : o = .returned (some (.int (Int32.ofInt 1))) := g1
        rw [g1, lit1]
      refine ⟨o, g6, g7, e1, ⟨_, e1⟩, g8, g9.weaken (fun x hx hlt => ?_) ?_ ?_⟩
      · have hq := g10 x hx
        rw [v2] at hq
        exact absurd hlt (Nat.not_lt.mpr hq)
      · have : h'.2.1 ≤ s.heap.size + 601024 := by rw [← v2]; exact hn1
        omega
      · omega)
    _ s.heap [] 0 0 (lh_entry (Nat.le_of_ble_eq_true rfl)) hR va_S.rf (by show v.b0 = _; rw [v2]; rfl) rfl
  rw [List.map_nil, ← lg_entry_eq] at w
  have e3 : ([aR v.scr] : List AV).map cv = [Value.ref b] := by rw [v1]; rfl
  rw [e3] at w
  exact w
end
section
section Rows
variable {i pc len : Nat} {L : AL} {st : List AV} {h : AH} {Q : AR → AH → Prop}
theorem x_iconst {n : Int} (hk : cod i pc = some (.inl (.iconst n), len))  (k : Rn i (pc + len) L (aI n :: st) h Q) : Rn i pc L st h Q := Rn.step (by
  rw [stp, hk]
  show wrp (nx (pc + len) L (aI n :: st) h) = _
  rfl) k
theorem x_bipush {n : Int} (hk : cod i pc = some (.inl (.bipush n), len))  (k : Rn i (pc + len) L (aI n :: st) h Q) : Rn i pc L st h Q := Rn.step (by
  rw [stp, hk]
  show wrp (nx (pc + len) L (aI n :: st) h) = _
  rfl) k
theorem x_sipush {n : Int} (hk : cod i pc = some (.inl (.sipush n), len))  (k : Rn i (pc + len) L (aI n :: st) h Q) : Rn i pc L st h Q := Rn.step (by
  rw [stp, hk]
  show wrp (nx (pc + len) L (aI n :: st) h) = _
  rfl) k
theorem x_lconst {n : Fin 2} (hk : cod i pc = some (.inl (.lconst n), len))  (k : Rn i (pc + len) L (aL ((n : Nat) : Int) :: st) h Q) : Rn i pc L st h Q := Rn.step (by
  rw [stp, hk]
  show wrp (nx (pc + len) L (aL ((n : Nat) : Int) :: st) h) = _
  rfl) k
theorem x_null  (hk : cod i pc = some (.inl .aconst_null, len))  (k : Rn i (pc + len) L (aN :: st) h Q) : Rn i pc L st h Q := Rn.step (by
  rw [stp, hk]
  show wrp (nx (pc + len) L (aN :: st) h) = _
  rfl) k
theorem x_iload {k0 : Nat} {x : Int} (hk : cod i pc = some (.inl (.iload k0), len)) (hL : L[k0]? = some (some (aI x))) (k : Rn i (pc + len) L (aI x :: st) h Q) : Rn i pc L st h Q := Rn.step (by
  rw [stp, hk]
  show wrp (o_ldI k0 (pc + len) L st h) = _
  unfold o_ldI
  rw [hL]
  rfl) k
theorem x_iload_n {k0 : Fin 4} {x : Int} (hk : cod i pc = some (.inl (.iload_n k0), len)) (hL : L[k0.val]? = some (some (aI x))) (k : Rn i (pc + len) L (aI x :: st) h Q) : Rn i pc L st h Q := Rn.step (by
  rw [stp, hk]
  show wrp (o_ldI k0.val (pc + len) L st h) = _
  unfold o_ldI
  rw [hL]
  rfl) k
theorem x_lload {k0 : Nat} {x : Int} (hk : cod i pc = some (.inl (.lload k0), len)) (hL : L[k0]? = some (some (aL x))) (k : Rn i (pc + len) L (aL x :: st) h Q) : Rn i pc L st h Q := Rn.step (by
  rw [stp, hk]
  show wrp (o_ldL k0 (pc + len) L st h) = _
  unfold o_ldL
  rw [hL]
  rfl) k
theorem x_lload_n {k0 : Fin 4} {x : Int} (hk : cod i pc = some (.inl (.lload_n k0), len)) (hL : L[k0.val]? = some (some (aL x))) (k : Rn i (pc + len) L (aL x :: st) h Q) : Rn i pc L st h Q := Rn.step (by
  rw [stp, hk]
  show wrp (o_ldL k0.val (pc + len) L st h) = _
  unfold o_ldL
  rw [hL]
  rfl) k
theorem x_aload {k0 : Nat} {x : Option Nat} (hk : cod i pc = some (.inl (.aload k0), len)) (hL : L[k0]? = some (some (aQ x))) (k : Rn i (pc + len) L (aQ x :: st) h Q) : Rn i pc L st h Q := Rn.step (by
  rw [stp, hk]
  show wrp (o_ldA k0 (pc + len) L st h) = _
  unfold o_ldA
  rw [hL]
  rfl) k
theorem x_aload_n {k0 : Fin 4} {x : Option Nat} (hk : cod i pc = some (.inl (.aload_n k0), len)) (hL : L[k0.val]? = some (some (aQ x))) (k : Rn i (pc + len) L (aQ x :: st) h Q) : Rn i pc L st h Q := Rn.step (by
  rw [stp, hk]
  show wrp (o_ldA k0.val (pc + len) L st h) = _
  unfold o_ldA
  rw [hL]
  rfl) k
theorem x_istore {k0 : Nat} {x : Int} {L' : AL} (hk : cod i pc = some (.inl (.istore k0), len)) (hL : sto L k0 (aI x) = some L') (k : Rn i (pc + len) L' st h Q) : Rn i pc L (aI x :: st) h Q := Rn.step (by
  rw [stp, hk]
  show wrp (o_stI k0 (pc + len) L (aI x :: st) h) = _
  show wrp (match sto L k0 (aI x) with
      | some L' => nx (pc + len) L' st h
      | none => none) = _
  rw [hL]
  rfl) k
theorem x_istore_n {k0 : Fin 4} {x : Int} {L' : AL} (hk : cod i pc = some (.inl (.istore_n k0), len)) (hL : sto L k0.val (aI x) = some L') (k : Rn i (pc + len) L' st h Q) : Rn i pc L (aI x :: st) h Q := Rn.step (by
  rw [stp, hk]
  show wrp (o_stI k0.val (pc + len) L (aI x :: st) h) = _
  show wrp (match sto L k0.val (aI x) with
      | some L' => nx (pc + len) L' st h
      | none => none) = _
  rw [hL]
  rfl) k
theorem x_lstore {k0 : Nat} {x : Int} {L' : AL} (hk : cod i pc = some (.inl (.lstore k0), len)) (hL : stoL L k0 (aL x) = some L') (k : Rn i (pc + len) L' st h Q) : Rn i pc L (aL x :: st) h Q := Rn.step (by
  rw [stp, hk]
  show wrp (o_stL k0 (pc + len) L (aL x :: st) h) = _
  show wrp (match stoL L k0 (aL x) with
      | some L' => nx (pc + len) L' st h
      | none => none) = _
  rw [hL]
  rfl) k
theorem x_lstore_n {k0 : Fin 4} {x : Int} {L' : AL} (hk : cod i pc = some (.inl (.lstore_n k0), len)) (hL : stoL L k0.val (aL x) = some L') (k : Rn i (pc + len) L' st h Q) : Rn i pc L (aL x :: st) h Q := Rn.step (by
  rw [stp, hk]
  show wrp (o_stL k0.val (pc + len) L (aL x :: st) h) = _
  show wrp (match stoL L k0.val (aL x) with
      | some L' => nx (pc + len) L' st h
      | none => none) = _
  rw [hL]
  rfl) k
theorem x_astore {k0 : Nat} {x : Option Nat} {L' : AL} (hk : cod i pc = some (.inl (.astore k0), len)) (hL : sto L k0 (aQ x) = some L') (k : Rn i (pc + len) L' st h Q) : Rn i pc L (aQ x :: st) h Q := Rn.step (by
  rw [stp, hk]
  show wrp (o_stA k0 (pc + len) L (aQ x :: st) h) = _
  show wrp (match sto L k0 (aQ x) with
      | some L' => nx (pc + len) L' st h
      | none => none) = _
  rw [hL]
  rfl) k
theorem x_astore_n {k0 : Fin 4} {x : Option Nat} {L' : AL} (hk : cod i pc = some (.inl (.astore_n k0), len)) (hL : sto L k0.val (aQ x) = some L') (k : Rn i (pc + len) L' st h Q) : Rn i pc L (aQ x :: st) h Q := Rn.step (by
  rw [stp, hk]
  show wrp (o_stA k0.val (pc + len) L (aQ x :: st) h) = _
  show wrp (match sto L k0.val (aQ x) with
      | some L' => nx (pc + len) L' st h
      | none => none) = _
  rw [hL]
  rfl) k
theorem x_iinc {k0 : Nat} {n x : Int} {L' : AL} (hk : cod i pc = some (.inl (.iinc k0 n), len)) (hx : L[k0]? = some (some (aI x))) (hL : sto L k0 (aI (x + n)) = some L') (k : Rn i (pc + len) L' st h Q) : Rn i pc L st h Q := Rn.step (by
  rw [stp, hk]
  show wrp (o_inc k0 n (pc + len) L st h) = _
  unfold o_inc
  rw [hx]
  show wrp (match sto L k0 (aI (x + n)) with
      | some L' => nx (pc + len) L' st h
      | none => none) = _
  rw [hL]
  rfl) k
theorem x_iadd {x y : Int} (hk : cod i pc = some (.inl .iadd, len))  (k : Rn i (pc + len) L (aI (x + y) :: st) h Q) : Rn i pc L (aI y :: aI x :: st) h Q := Rn.step (by
  rw [stp, hk]
  show wrp (nx (pc + len) L (aI (x + y) :: st) h) = _
  rfl) k
theorem x_isub {x y : Int} (hk : cod i pc = some (.inl .isub, len))  (k : Rn i (pc + len) L (aI (x - y) :: st) h Q) : Rn i pc L (aI y :: aI x :: st) h Q := Rn.step (by
  rw [stp, hk]
  show wrp (nx (pc + len) L (aI (x - y) :: st) h) = _
  rfl) k
theorem x_imul {x y : Int} (hk : cod i pc = some (.inl .imul, len))  (k : Rn i (pc + len) L (aI (x * y) :: st) h Q) : Rn i pc L (aI y :: aI x :: st) h Q := Rn.step (by
  rw [stp, hk]
  show wrp (nx (pc + len) L (aI (x * y) :: st) h) = _
  rfl) k
theorem x_iand {x y : Int} (hk : cod i pc = some (.inl .iand, len))  (k : Rn i (pc + len) L (aI (f_and x y) :: st) h Q) : Rn i pc L (aI y :: aI x :: st) h Q := Rn.step (by
  rw [stp, hk]
  show wrp (nx (pc + len) L (aI (f_and x y) :: st) h) = _
  rfl) k
theorem x_ishr {x y : Int} (hk : cod i pc = some (.inl .ishr, len))  (k : Rn i (pc + len) L (aI (f_shr x y) :: st) h Q) : Rn i pc L (aI y :: aI x :: st) h Q := Rn.step (by
  rw [stp, hk]
  show wrp (nx (pc + len) L (aI (f_shr x y) :: st) h) = _
  rfl) k
theorem x_idiv {x y : Int} (hk : cod i pc = some (.inl .idiv, len)) (hc : inR x ∧ inR y ∧ 0 < y) (k : Rn i (pc + len) L (aI (x.tdiv y) :: st) h Q) : Rn i pc L (aI y :: aI x :: st) h Q := Rn.step (by
  rw [stp, hk]
  show wrp ((if inR x ∧ inR y ∧ 0 < y then nx (pc + len) L (aI (x.tdiv y) :: st) h else none)) = _
  rw [if_pos hc]
  rfl) k
theorem x_land {x y : Int} (hk : cod i pc = some (.inl .land, len))  (k : Rn i (pc + len) L (aL (f_land x y) :: st) h Q) : Rn i pc L (aL y :: aL x :: st) h Q := Rn.step (by
  rw [stp, hk]
  show wrp (nx (pc + len) L (aL (f_land x y) :: st) h) = _
  rfl) k
theorem x_lor {x y : Int} (hk : cod i pc = some (.inl .lor, len))  (k : Rn i (pc + len) L (aL (f_lor x y) :: st) h Q) : Rn i pc L (aL y :: aL x :: st) h Q := Rn.step (by
  rw [stp, hk]
  show wrp (nx (pc + len) L (aL (f_lor x y) :: st) h) = _
  rfl) k
theorem x_lshl {x y : Int} (hk : cod i pc = some (.inl .lshl, len))  (k : Rn i (pc + len) L (aL (f_lshl x y) :: st) h Q) : Rn i pc L (aI y :: aL x :: st) h Q := Rn.step (by
  rw [stp, hk]
  show wrp (nx (pc + len) L (aL (f_lshl x y) :: st) h) = _
  rfl) k
theorem x_i2l {x : Int} (hk : cod i pc = some (.inl .i2l, len)) (hc : inR x) (k : Rn i (pc + len) L (aL x :: st) h Q) : Rn i pc L (aI x :: st) h Q := Rn.step (by
  rw [stp, hk]
  show wrp ((if inR x then nx (pc + len) L (aL x :: st) h else none)) = _
  rw [if_pos hc]
  rfl) k
theorem x_l2i {x : Int} (hk : cod i pc = some (.inl .l2i, len))  (k : Rn i (pc + len) L (aI x :: st) h Q) : Rn i pc L (aL x :: st) h Q := Rn.step (by
  rw [stp, hk]
  show wrp (nx (pc + len) L (aI x :: st) h) = _
  rfl) k
theorem x_lcmp {x y : Int} (hk : cod i pc = some (.inl .lcmp, len)) (hc : inL x ∧ inL y) (k : Rn i (pc + len) L (aI (if x < y then -1 else if x = y then 0 else 1) :: st) h Q) : Rn i pc L (aL y :: aL x :: st) h Q := Rn.step (by
  rw [stp, hk]
  show wrp ((if inL x ∧ inL y then nx (pc + len) L (aI (if x < y then -1 else if x = y then 0 else 1) :: st) h else none)) = _
  rw [if_pos hc]
  rfl) k
theorem x_dup {w : AV} (hk : cod i pc = some (.inl .dup, len)) (hc : one w = true) (k : Rn i (pc + len) L (w :: w :: st) h Q) : Rn i pc L (w :: st) h Q := Rn.step (by
  rw [stp, hk]
  show wrp ((if one w then nx (pc + len) L (w :: w :: st) h else none)) = _
  rw [if_pos hc]
  rfl) k
theorem x_pop {w : AV} (hk : cod i pc = some (.inl .pop, len)) (hc : one w = true) (k : Rn i (pc + len) L st h Q) : Rn i pc L (w :: st) h Q := Rn.step (by
  rw [stp, hk]
  show wrp ((if one w then nx (pc + len) L st h else none)) = _
  rw [if_pos hc]
  rfl) k
theorem x_dup_x1 {w x : AV} (hk : cod i pc = some (.inl .dup_x1, len)) (hc : (one w && one x) = true) (k : Rn i (pc + len) L (w :: x :: w :: st) h Q) : Rn i pc L (w :: x :: st) h Q := Rn.step (by
  rw [stp, hk]
  show wrp ((if one w && one x then nx (pc + len) L (w :: x :: w :: st) h else none)) = _
  rw [if_pos hc]
  rfl) k
theorem x_dup2 {w x : AV} (hk : cod i pc = some (.inl .dup2, len)) (hc : (one w && one x) = true) (k : Rn i (pc + len) L (w :: x :: w :: x :: st) h Q) : Rn i pc L (w :: x :: st) h Q := Rn.step (by
  rw [stp, hk]
  show wrp ((if one w && one x then nx (pc + len) L (w :: x :: w :: x :: st) h else none)) = _
  rw [if_pos hc]
  rfl) k
theorem x_goto {off : Int} {t : Nat} (hk : cod i pc = some (.inl (.goto off), len)) (ht : tg pc off = t) (k : Rn i t L st h Q) : Rn i pc L st h Q := Rn.step (by
  rw [stp, hk]
  show wrp (nx (tg pc off) L st h) = _
  rw [ht]
  rfl) k
theorem x_ifeq {off x : Int} {t : Nat} (hk : cod i pc = some (.inl (.ifCond .eq off), len)) (ht : tg pc off = t) (hr : inR x) (kt : x = 0 → Rn i t L st h Q) (kf : ¬ (x = 0) → Rn i (pc + len) L st h Q) : Rn i pc L (aI x :: st) h Q := by
  by_cases hb : x = 0
  · refine Rn.step ?_ (kt hb)
    rw [stp, hk]
    show wrp (if inR x then (if cmpI .eq x 0 then nx (tg pc off) L st h else nx (pc + len) L st h) else none) = _
    rw [if_pos hr, if_pos (by simpa [cmpI] using hb), ht]
    rfl
  · refine Rn.step ?_ (kf hb)
    rw [stp, hk]
    show wrp (if inR x then (if cmpI .eq x 0 then nx (tg pc off) L st h else nx (pc + len) L st h) else none) = _
    rw [if_pos hr, if_neg (by simpa [cmpI] using hb)]
    rfl
theorem x_ifne {off x : Int} {t : Nat} (hk : cod i pc = some (.inl (.ifCond .ne off), len)) (ht : tg pc off = t) (hr : inR x) (kt : ¬ x = 0 → Rn i t L st h Q) (kf : ¬ (¬ x = 0) → Rn i (pc + len) L st h Q) : Rn i pc L (aI x :: st) h Q := by
  by_cases hb : ¬ x = 0
  · refine Rn.step ?_ (kt hb)
    rw [stp, hk]
    show wrp (if inR x then (if cmpI .ne x 0 then nx (tg pc off) L st h else nx (pc + len) L st h) else none) = _
    rw [if_pos hr, if_pos (by simpa [cmpI] using hb), ht]
    rfl
  · refine Rn.step ?_ (kf hb)
    rw [stp, hk]
    show wrp (if inR x then (if cmpI .ne x 0 then nx (tg pc off) L st h else nx (pc + len) L st h) else none) = _
    rw [if_pos hr, if_neg (by simpa [cmpI] using hb)]
    rfl
theorem x_iflt {off x : Int} {t : Nat} (hk : cod i pc = some (.inl (.ifCond .lt off), len)) (ht : tg pc off = t) (hr : inR x) (kt : x < 0 → Rn i t L st h Q) (kf : ¬ (x < 0) → Rn i (pc + len) L st h Q) : Rn i pc L (aI x :: st) h Q := by
  by_cases hb : x < 0
  · refine Rn.step ?_ (kt hb)
    rw [stp, hk]
    show wrp (if inR x then (if cmpI .lt x 0 then nx (tg pc off) L st h else nx (pc + len) L st h) else none) = _
    rw [if_pos hr, if_pos (by simpa [cmpI] using hb), ht]
    rfl
  · refine Rn.step ?_ (kf hb)
    rw [stp, hk]
    show wrp (if inR x then (if cmpI .lt x 0 then nx (tg pc off) L st h else nx (pc + len) L st h) else none) = _
    rw [if_pos hr, if_neg (by simpa [cmpI] using hb)]
    rfl
theorem x_ifge {off x : Int} {t : Nat} (hk : cod i pc = some (.inl (.ifCond .ge off), len)) (ht : tg pc off = t) (hr : inR x) (kt : 0 ≤ x → Rn i t L st h Q) (kf : ¬ (0 ≤ x) → Rn i (pc + len) L st h Q) : Rn i pc L (aI x :: st) h Q := by
  by_cases hb : 0 ≤ x
  · refine Rn.step ?_ (kt hb)
    rw [stp, hk]
    show wrp (if inR x then (if cmpI .ge x 0 then nx (tg pc off) L st h else nx (pc + len) L st h) else none) = _
    rw [if_pos hr, if_pos (by simpa [cmpI] using hb), ht]
    rfl
  · refine Rn.step ?_ (kf hb)
    rw [stp, hk]
    show wrp (if inR x then (if cmpI .ge x 0 then nx (tg pc off) L st h else nx (pc + len) L st h) else none) = _
    rw [if_pos hr, if_neg (by simpa [cmpI] using hb)]
    rfl
theorem x_ifgt {off x : Int} {t : Nat} (hk : cod i pc = some (.inl (.ifCond .gt off), len)) (ht : tg pc off = t) (hr : inR x) (kt : 0 < x → Rn i t L st h Q) (kf : ¬ (0 < x) → Rn i (pc + len) L st h Q) : Rn i pc L (aI x :: st) h Q := by
  by_cases hb : 0 < x
  · refine Rn.step ?_ (kt hb)
    rw [stp, hk]
    show wrp (if inR x then (if cmpI .gt x 0 then nx (tg pc off) L st h else nx (pc + len) L st h) else none) = _
    rw [if_pos hr, if_pos (by simpa [cmpI] using hb), ht]
    rfl
  · refine Rn.step ?_ (kf hb)
    rw [stp, hk]
    show wrp (if inR x then (if cmpI .gt x 0 then nx (tg pc off) L st h else nx (pc + len) L st h) else none) = _
    rw [if_pos hr, if_neg (by simpa [cmpI] using hb)]
    rfl
theorem x_ifle {off x : Int} {t : Nat} (hk : cod i pc = some (.inl (.ifCond .le off), len)) (ht : tg pc off = t) (hr : inR x) (kt : x ≤ 0 → Rn i t L st h Q) (kf : ¬ (x ≤ 0) → Rn i (pc + len) L st h Q) : Rn i pc L (aI x :: st) h Q := by
  by_cases hb : x ≤ 0
  · refine Rn.step ?_ (kt hb)
    rw [stp, hk]
    show wrp (if inR x then (if cmpI .le x 0 then nx (tg pc off) L st h else nx (pc + len) L st h) else none) = _
    rw [if_pos hr, if_pos (by simpa [cmpI] using hb), ht]
    rfl
  · refine Rn.step ?_ (kf hb)
    rw [stp, hk]
    show wrp (if inR x then (if cmpI .le x 0 then nx (tg pc off) L st h else nx (pc + len) L st h) else none) = _
    rw [if_pos hr, if_neg (by simpa [cmpI] using hb)]
    rfl
theorem x_icmpeq {off x y : Int} {t : Nat} (hk : cod i pc = some (.inl (.if_icmp .eq off), len)) (ht : tg pc off = t) (hr : inR x ∧ inR y) (kt : x = y → Rn i t L st h Q) (kf : ¬ (x = y) → Rn i (pc + len) L st h Q) : Rn i pc L (aI y :: aI x :: st) h Q := by
  by_cases hb : x = y
  · refine Rn.step ?_ (kt hb)
    rw [stp, hk]
    show wrp (if inR x ∧ inR y then (if cmpI .eq x y then nx (tg pc off) L st h else nx (pc + len) L st h) else none) = _
    rw [if_pos hr, if_pos (by simpa [cmpI] using hb), ht]
    rfl
  · refine Rn.step ?_ (kf hb)
    rw [stp, hk]
    show wrp (if inR x ∧ inR y then (if cmpI .eq x y then nx (tg pc off) L st h else nx (pc + len) L st h) else none) = _
    rw [if_pos hr, if_neg (by simpa [cmpI] using hb)]
    rfl
theorem x_icmpne {off x y : Int} {t : Nat} (hk : cod i pc = some (.inl (.if_icmp .ne off), len)) (ht : tg pc off = t) (hr : inR x ∧ inR y) (kt : ¬ x = y → Rn i t L st h Q) (kf : ¬ (¬ x = y) → Rn i (pc + len) L st h Q) : Rn i pc L (aI y :: aI x :: st) h Q := by
  by_cases hb : ¬ x = y
  · refine Rn.step ?_ (kt hb)
    rw [stp, hk]
    show wrp (if inR x ∧ inR y then (if cmpI .ne x y then nx (tg pc off) L st h else nx (pc + len) L st h) else none) = _
    rw [if_pos hr, if_pos (by simpa [cmpI] using hb), ht]
    rfl
  · refine Rn.step ?_ (kf hb)
    rw [stp, hk]
    show wrp (if inR x ∧ inR y then (if cmpI .ne x y then nx (tg pc off) L st h else nx (pc + len) L st h) else none) = _
    rw [if_pos hr, if_neg (by simpa [cmpI] using hb)]
    rfl
theorem x_icmplt {off x y : Int} {t : Nat} (hk : cod i pc = some (.inl (.if_icmp .lt off), len)) (ht : tg pc off = t) (hr : inR x ∧ inR y) (kt : x < y → Rn i t L st h Q) (kf : ¬ (x < y) → Rn i (pc + len) L st h Q) : Rn i pc L (aI y :: aI x :: st) h Q := by
  by_cases hb : x < y
  · refine Rn.step ?_ (kt hb)
    rw [stp, hk]
    show wrp (if inR x ∧ inR y then (if cmpI .lt x y then nx (tg pc off) L st h else nx (pc + len) L st h) else none) = _
    rw [if_pos hr, if_pos (by simpa [cmpI] using hb), ht]
    rfl
  · refine Rn.step ?_ (kf hb)
    rw [stp, hk]
    show wrp (if inR x ∧ inR y then (if cmpI .lt x y then nx (tg pc off) L st h else nx (pc + len) L st h) else none) = _
    rw [if_pos hr, if_neg (by simpa [cmpI] using hb)]
    rfl
theorem x_icmpge {off x y : Int} {t : Nat} (hk : cod i pc = some (.inl (.if_icmp .ge off), len)) (ht : tg pc off = t) (hr : inR x ∧ inR y) (kt : y ≤ x → Rn i t L st h Q) (kf : ¬ (y ≤ x) → Rn i (pc + len) L st h Q) : Rn i pc L (aI y :: aI x :: st) h Q := by
  by_cases hb : y ≤ x
  · refine Rn.step ?_ (kt hb)
    rw [stp, hk]
    show wrp (if inR x ∧ inR y then (if cmpI .ge x y then nx (tg pc off) L st h else nx (pc + len) L st h) else none) = _
    rw [if_pos hr, if_pos (by simpa [cmpI] using hb), ht]
    rfl
  · refine Rn.step ?_ (kf hb)
    rw [stp, hk]
    show wrp (if inR x ∧ inR y then (if cmpI .ge x y then nx (tg pc off) L st h else nx (pc + len) L st h) else none) = _
    rw [if_pos hr, if_neg (by simpa [cmpI] using hb)]
    rfl
theorem x_icmpgt {off x y : Int} {t : Nat} (hk : cod i pc = some (.inl (.if_icmp .gt off), len)) (ht : tg pc off = t) (hr : inR x ∧ inR y) (kt : y < x → Rn i t L st h Q) (kf : ¬ (y < x) → Rn i (pc + len) L st h Q) : Rn i pc L (aI y :: aI x :: st) h Q := by
  by_cases hb : y < x
  · refine Rn.step ?_ (kt hb)
    rw [stp, hk]
    show wrp (if inR x ∧ inR y then (if cmpI .gt x y then nx (tg pc off) L st h else nx (pc + len) L st h) else none) = _
    rw [if_pos hr, if_pos (by simpa [cmpI] using hb), ht]
    rfl
  · refine Rn.step ?_ (kf hb)
    rw [stp, hk]
    show wrp (if inR x ∧ inR y then (if cmpI .gt x y then nx (tg pc off) L st h else nx (pc + len) L st h) else none) = _
    rw [if_pos hr, if_neg (by simpa [cmpI] using hb)]
    rfl
theorem x_icmple {off x y : Int} {t : Nat} (hk : cod i pc = some (.inl (.if_icmp .le off), len)) (ht : tg pc off = t) (hr : inR x ∧ inR y) (kt : x ≤ y → Rn i t L st h Q) (kf : ¬ (x ≤ y) → Rn i (pc + len) L st h Q) : Rn i pc L (aI y :: aI x :: st) h Q := by
  by_cases hb : x ≤ y
  · refine Rn.step ?_ (kt hb)
    rw [stp, hk]
    show wrp (if inR x ∧ inR y then (if cmpI .le x y then nx (tg pc off) L st h else nx (pc + len) L st h) else none) = _
    rw [if_pos hr, if_pos (by simpa [cmpI] using hb), ht]
    rfl
  · refine Rn.step ?_ (kf hb)
    rw [stp, hk]
    show wrp (if inR x ∧ inR y then (if cmpI .le x y then nx (tg pc off) L st h else nx (pc + len) L st h) else none) = _
    rw [if_pos hr, if_neg (by simpa [cmpI] using hb)]
    rfl
theorem x_acmpeq {off : Int} {x y : Option Nat} {t : Nat} (hk : cod i pc = some (.inl (.if_acmp .eq off), len)) (ht : tg pc off = t) (kt : x = y → Rn i t L st h Q) (kf : ¬ (x = y) → Rn i (pc + len) L st h Q) : Rn i pc L (aQ y :: aQ x :: st) h Q := by
  by_cases hb : x = y
  · refine Rn.step ?_ (kt hb)
    rw [stp, hk]
    show wrp (if decide (x = y) then nx (tg pc off) L st h else nx (pc + len) L st h) = _
    rw [if_pos (by simpa using hb), ht]
    rfl
  · refine Rn.step ?_ (kf hb)
    rw [stp, hk]
    show wrp (if decide (x = y) then nx (tg pc off) L st h else nx (pc + len) L st h) = _
    rw [if_neg (by simpa using hb)]
    rfl
theorem x_acmpne {off : Int} {x y : Option Nat} {t : Nat} (hk : cod i pc = some (.inl (.if_acmp .ne off), len)) (ht : tg pc off = t) (kt : ¬ x = y → Rn i t L st h Q) (kf : ¬ (¬ x = y) → Rn i (pc + len) L st h Q) : Rn i pc L (aQ y :: aQ x :: st) h Q := by
  by_cases hb : ¬ x = y
  · refine Rn.step ?_ (kt hb)
    rw [stp, hk]
    show wrp (if decide (x = y) then nx (pc + len) L st h else nx (tg pc off) L st h) = _
    rw [if_neg (by simpa using hb), ht]
    rfl
  · refine Rn.step ?_ (kf hb)
    rw [stp, hk]
    show wrp (if decide (x = y) then nx (pc + len) L st h else nx (tg pc off) L st h) = _
    rw [if_pos (by simpa using hb)]
    rfl
theorem x_ifnull_n {off : Int} {t : Nat} (hk : cod i pc = some (.inl (.ifnull off), len)) (ht : tg pc off = t) (k : Rn i t L st h Q) : Rn i pc L (aN :: st) h Q := Rn.step (by
  rw [stp, hk]
  show wrp (nx (tg pc off) L st h) = _
  rw [ht]
  rfl) k
theorem x_ifnull_s {off : Int} {t : Nat} {x : Nat} (hk : cod i pc = some (.inl (.ifnull off), len)) (ht : tg pc off = t) (k : Rn i (pc + len) L st h Q) : Rn i pc L (aR x :: st) h Q := Rn.step (by
  rw [stp, hk]
  show wrp (nx (pc + len) L st h) = _
  rfl) k
theorem x_ifnn_n {off : Int} {t : Nat} (hk : cod i pc = some (.inl (.ifnonnull off), len)) (ht : tg pc off = t) (k : Rn i (pc + len) L st h Q) : Rn i pc L (aN :: st) h Q := Rn.step (by
  rw [stp, hk]
  show wrp (nx (pc + len) L st h) = _
  rfl) k
theorem x_ifnn_s {off : Int} {t : Nat} {x : Nat} (hk : cod i pc = some (.inl (.ifnonnull off), len)) (ht : tg pc off = t) (k : Rn i t L st h Q) : Rn i pc L (aR x :: st) h Q := Rn.step (by
  rw [stp, hk]
  show wrp (nx (tg pc off) L st h) = _
  rw [ht]
  rfl) k
theorem x_tabOut {d lo hi x : Int} {offs : Array Int} {t : Nat} (hk : cod i pc = some (.inl (.tableswitch d lo hi offs), len)) (hr : inR x) (hx : x < lo ∨ hi < x) (ht : tg pc d = t) (k : Rn i t L st h Q) : Rn i pc L (aI x :: st) h Q := Rn.step (by
  rw [stp, hk]
  show wrp (o_tab d lo hi offs pc L (aI x :: st) h) = _
  show wrp (if inR x then (if x < lo ∨ hi < x then nx (tg pc d) L st h else (match offs[(x - lo).toNat]? with
      | some o => nx (tg pc o) L st h
      | none => none)) else none) = _
  rw [if_pos hr, if_pos hx, ht]
  rfl) k
theorem x_tabIn {d lo hi x o : Int} {offs : Array Int} {t : Nat} (hk : cod i pc = some (.inl (.tableswitch d lo hi offs), len)) (hr : inR x) (hx : ¬ (x < lo ∨ hi < x)) (ho : offs[(x - lo).toNat]? = some o) (ht : tg pc o = t) (k : Rn i t L st h Q) : Rn i pc L (aI x :: st) h Q := Rn.step (by
  rw [stp, hk]
  show wrp (o_tab d lo hi offs pc L (aI x :: st) h) = _
  show wrp (if inR x then (if x < lo ∨ hi < x then nx (tg pc d) L st h else (match offs[(x - lo).toNat]? with
      | some o => nx (tg pc o) L st h
      | none => none)) else none) = _
  rw [if_pos hr, if_neg hx, ho]
  show wrp (nx (tg pc o) L st h) = _
  rw [ht]
  rfl) k
theorem x_alen {a t n : Nat} {y : AA} (hk : cod i pc = some (.inl .arraylength, len)) (he : h.1 a = some (.inl (t, n, y))) (k : Rn i (pc + len) L (aI n :: st) h Q) : Rn i pc L (aR a :: st) h Q := Rn.step (by
  rw [stp, hk]
  show wrp (o_alen (pc + len) L (aR a :: st) h) = _
  unfold o_alen
  simp only [he]
  rfl) k
theorem x_iaload {a t n : Nat} {F : Nat → Int} {j : Int} (hk : cod i pc = some (.inl .iaload, len)) (he : h.1 a = some (.inl (t, n, .inl F))) (ht : t = 0 ∨ t = 9) (h0 : 0 ≤ j) (h1 : j < n) (k : Rn i (pc + len) L (aI (F j.toNat) :: st) h Q) : Rn i pc L (aI j :: aR a :: st) h Q := Rn.step (by
  rw [stp, hk]
  show wrp (o_iald (pc + len) L (aI j :: aR a :: st) h) = _
  unfold o_iald
  simp only [he]
  rw [if_pos ⟨ht, h0, h1⟩]
  rfl) k
theorem x_baload {a n : Nat} {F : Nat → Int} {j : Int} (hk : cod i pc = some (.inl .baload, len)) (he : h.1 a = some (.inl (2, n, .inl F))) (h0 : 0 ≤ j) (h1 : j < n) (k : Rn i (pc + len) L (aI (F j.toNat) :: st) h Q) : Rn i pc L (aI j :: aR a :: st) h Q := Rn.step (by
  rw [stp, hk]
  show wrp (o_bald (pc + len) L (aI j :: aR a :: st) h) = _
  unfold o_bald
  simp only [he]
  rw [if_pos ⟨trivial, h0, h1⟩]
  rfl) k
theorem x_laload {a n : Nat} {F : Nat → Int} {j : Int} (hk : cod i pc = some (.inl .laload, len)) (he : h.1 a = some (.inl (1, n, .inr (.inl F)))) (h0 : 0 ≤ j) (h1 : j < n) (k : Rn i (pc + len) L (aL (F j.toNat) :: st) h Q) : Rn i pc L (aI j :: aR a :: st) h Q := Rn.step (by
  rw [stp, hk]
  show wrp (o_lald (pc + len) L (aI j :: aR a :: st) h) = _
  unfold o_lald
  simp only [he]
  rw [if_pos ⟨h0, h1⟩]
  rfl) k
theorem x_aaload {a t n : Nat} {F : Nat → Option Nat} {j : Int} (hk : cod i pc = some (.inl .aaload, len)) (he : h.1 a = some (.inl (t, n, .inr (.inr F)))) (ht : t = 3 ∨ t = 4) (h0 : 0 ≤ j) (h1 : j < n) (k : Rn i (pc + len) L (aQ (F j.toNat) :: st) h Q) : Rn i pc L (aI j :: aR a :: st) h Q := Rn.step (by
  rw [stp, hk]
  show wrp (o_aald (pc + len) L (aI j :: aR a :: st) h) = _
  unfold o_aald
  simp only [he]
  rw [if_pos ⟨ht, h0, h1⟩]
  rfl) k
theorem x_iastore {a n : Nat} {F : Nat → Int} {j x : Int} (hk : cod i pc = some (.inl .iastore, len)) (he : h.1 a = some (.inl (0, n, .inl F))) (h0 : 0 ≤ j) (h1 : j < n) (k : Rn i (pc + len) L st (hput h a (.inl (0, n, .inl (up F j.toNat x)))) Q) : Rn i pc L (aI x :: aI j :: aR a :: st) h Q := Rn.step (by
  rw [stp, hk]
  show wrp (o_iast (pc + len) L (aI x :: aI j :: aR a :: st) h) = _
  unfold o_iast
  simp only [he]
  rw [if_pos ⟨trivial, h0, h1⟩]
  rfl) k
theorem x_bastore {a n : Nat} {F : Nat → Int} {j x : Int} (hk : cod i pc = some (.inl .bastore, len)) (he : h.1 a = some (.inl (2, n, .inl F))) (hx : x = 0 ∨ x = 1) (h0 : 0 ≤ j) (h1 : j < n) (k : Rn i (pc + len) L st (hput h a (.inl (2, n, .inl (up F j.toNat x)))) Q) : Rn i pc L (aI x :: aI j :: aR a :: st) h Q := Rn.step (by
  rw [stp, hk]
  show wrp (o_bast (pc + len) L (aI x :: aI j :: aR a :: st) h) = _
  unfold o_bast
  simp only [he]
  rw [if_pos ⟨⟨trivial, hx⟩, h0, h1⟩]
  rfl) k
theorem x_lastore {a n : Nat} {F : Nat → Int} {j x : Int} (hk : cod i pc = some (.inl .lastore, len)) (he : h.1 a = some (.inl (1, n, .inr (.inl F)))) (h0 : 0 ≤ j) (h1 : j < n) (k : Rn i (pc + len) L st (hput h a (.inl (1, n, .inr (.inl (up F j.toNat x))))) Q) : Rn i pc L (aL x :: aI j :: aR a :: st) h Q := Rn.step (by
  rw [stp, hk]
  show wrp (o_last (pc + len) L (aL x :: aI j :: aR a :: st) h) = _
  unfold o_last
  simp only [he]
  rw [if_pos ⟨h0, h1⟩]
  rfl) k
theorem x_aastore {a t n : Nat} {F : Nat → Option Nat} {j : Int} {x : Option Nat} (hk : cod i pc = some (.inl .aastore, len)) (he : h.1 a = some (.inl (t, n, .inr (.inr F)))) (ht : t = 3 ∨ t = 4) (h0 : 0 ≤ j) (h1 : j < n) (hm : o_may t x h = true) (k : Rn i (pc + len) L st (hput h a (.inl (t, n, .inr (.inr (up F j.toNat x))))) Q) : Rn i pc L (aQ x :: aI j :: aR a :: st) h Q := Rn.step (by
  rw [stp, hk]
  show wrp (o_aast (pc + len) L (aQ x :: aI j :: aR a :: st) h) = _
  unfold o_aast
  simp only [he]
  rw [if_pos ⟨ht, h0, h1, hm⟩]
  rfl) k
theorem x_newa_int {n : Int} (hk : cod i pc = some (.inl (.newarray .int), len)) (hc : 0 ≤ n ∧ n ≤ 1048576) (k : Rn i (pc + len) L (aR h.2.1 :: st) (hnew h (.inl (0, n.toNat, .inl (fun _ => 0))) n.toNat) Q) : Rn i pc L (aI n :: st) h Q := Rn.step (by
  rw [stp, hk]
  show wrp ((if 0 ≤ n ∧ n ≤ 1048576 then nx (pc + len) L (aR h.2.1 :: st) (hnew h (.inl (0, n.toNat, .inl (fun _ => 0))) n.toNat) else none)) = _
  rw [if_pos hc]
  rfl) k
theorem x_newa_long {n : Int} (hk : cod i pc = some (.inl (.newarray .long), len)) (hc : 0 ≤ n ∧ n ≤ 1048576) (k : Rn i (pc + len) L (aR h.2.1 :: st) (hnew h (.inl (1, n.toNat, .inr (.inl (fun _ => 0)))) n.toNat) Q) : Rn i pc L (aI n :: st) h Q := Rn.step (by
  rw [stp, hk]
  show wrp ((if 0 ≤ n ∧ n ≤ 1048576 then nx (pc + len) L (aR h.2.1 :: st) (hnew h (.inl (1, n.toNat, .inr (.inl (fun _ => 0)))) n.toNat) else none)) = _
  rw [if_pos hc]
  rfl) k
theorem x_newa_boolean {n : Int} (hk : cod i pc = some (.inl (.newarray .boolean), len)) (hc : 0 ≤ n ∧ n ≤ 1048576) (k : Rn i (pc + len) L (aR h.2.1 :: st) (hnew h (.inl (2, n.toNat, .inl (fun _ => 0))) n.toNat) Q) : Rn i pc L (aI n :: st) h Q := Rn.step (by
  rw [stp, hk]
  show wrp ((if 0 ≤ n ∧ n ≤ 1048576 then nx (pc + len) L (aR h.2.1 :: st) (hnew h (.inl (2, n.toNat, .inl (fun _ => 0))) n.toNat) else none)) = _
  rw [if_pos hc]
  rfl) k
theorem x_ireturn {x : Int} (hk : cod i pc = some (.inl .ireturn, len)) (hb : rtb i = false) (k : Q (.inl (some (aI x))) h) : Rn i pc L [aI x] h Q := Rn.fin (by
  rw [stp, hk]
  show o_ret (rtb i) [aI x] h = _
  rw [hb]
  rfl) k
theorem x_zreturn {x : Int} (hk : cod i pc = some (.inl .ireturn, len)) (hb : rtb i = true) (hx : x = 0 ∨ x = 1) (k : Q (.inl (some (aI x))) h) : Rn i pc L [aI x] h Q := Rn.fin (by
  rw [stp, hk]
  show o_ret (rtb i) [aI x] h = _
  rw [hb]
  show (if x = 0 ∨ x = 1 then fin (.inl (some (aI x))) h else none) = _
  rw [if_pos hx]
  rfl) k
theorem x_lreturn {x : Int} (hk : cod i pc = some (.inl .lreturn, len))  (k : Q (.inl (some (aL x))) h) : Rn i pc L [aL x] h Q := Rn.fin (by
  rw [stp, hk]
  show o_lret [aL x] h = _
  rfl) k
theorem x_areturn {x : Option Nat} (hk : cod i pc = some (.inl .areturn, len))  (k : Q (.inl (some (aQ x))) h) : Rn i pc L [aQ x] h Q := Rn.fin (by
  rw [stp, hk]
  show o_aret [aQ x] h = _
  rfl) k
theorem x_return  (hk : cod i pc = some (.inl .return_, len))  (k : Q (.inl none) h) : Rn i pc L [] h Q := Rn.fin (by
  rw [stp, hk]
  show o_vret [] h = _
  rfl) k
theorem x_get {ci k0 c d a : Nat} {fs : List AV} {w : AV} (hk : cod i pc = some (.inr (0, ci, k0, c, d), len)) (he : h.1 a = some (.inr (ci, fs))) (hw : fs[k0]? = some w) (k : Rn i (pc + 3) L (w :: st) h Q) : Rn i pc L (aR a :: st) h Q := Rn.step (by
  rw [stp, hk]
  show wrp (o_get ci k0 (pc + 3) L (aR a :: st) h) = _
  unfold o_get
  simp only [he, hw, if_true]
  rfl) k
theorem x_put {ci k0 kind d a : Nat} {fs : List AV} {w : AV} (hk : cod i pc = some (.inr (1, ci, k0, kind, d), len)) (he : h.1 a = some (.inr (ci, fs))) (hl : k0 < fs.length) (hw : okv kind w = true) (k : Rn i (pc + 3) L st (hput h a (.inr (ci, fs.set k0 w))) Q) : Rn i pc L (w :: aR a :: st) h Q := Rn.step (by
  rw [stp, hk]
  show wrp (o_put ci k0 kind (pc + 3) L (w :: aR a :: st) h) = _
  unfold o_put
  simp only [he]
  rw [if_pos ⟨trivial, hl, hw⟩]
  rfl) k
theorem x_new {ci n c d : Nat} (hk : cod i pc = some (.inr (2, ci, n, c, d), len))  (k : Rn i (pc + 3) L (aR h.2.1 :: st) (hnew h (.inr (ci, dfl ci)) n) Q) : Rn i pc L st h Q := Rn.step (by
  rw [stp, hk]
  show wrp (o_new ci n (dfl ci) (pc + 3) L st h) = _
  rfl) k
theorem x_anew {t b c d : Nat} {n : Int} (hk : cod i pc = some (.inr (3, t, b, c, d), len)) (hc : 0 ≤ n ∧ n ≤ 1048576) (k : Rn i (pc + 3) L (aR h.2.1 :: st) (hnew h (.inl (t, n.toNat, .inr (.inr (fun _ => none)))) n.toNat) Q) : Rn i pc L (aI n :: st) h Q := Rn.step (by
  rw [stp, hk]
  show wrp ((if 0 ≤ n ∧ n ≤ 1048576 then nx (pc + 3) L (aR h.2.1 :: st) (hnew h (.inl (t, n.toNat, .inr (.inr (fun _ => none)))) n.toNat) else none)) = _
  rw [if_pos hc]
  rfl) k
theorem x_cast {ci b c d a : Nat} {fs : List AV} (hk : cod i pc = some (.inr (4, ci, b, c, d), len)) (he : h.1 a = some (.inr (ci, fs))) (k : Rn i (pc + 3) L (aR a :: st) h Q) : Rn i pc L (aR a :: st) h Q := Rn.step (by
  rw [stp, hk]
  show wrp (o_cast ci (pc + 3) L (aR a :: st) h) = _
  unfold o_cast
  simp only [he, if_true]
  rfl) k
theorem x_castN {ci b c d : Nat} (hk : cod i pc = some (.inr (4, ci, b, c, d), len))  (k : Rn i (pc + 3) L (aN :: st) h Q) : Rn i pc L (aN :: st) h Q := Rn.step (by
  rw [stp, hk]
  show wrp (nx (pc + 3) L (aN :: st) h) = _
  rfl) k
theorem x_castA {t b c d a n : Nat} {y : AA} (hk : cod i pc = some (.inr (5, t, b, c, d), len)) (he : h.1 a = some (.inl (t, n, y))) (hn : 0 < n) (k : Rn i (pc + 3) L (aR a :: st) h Q) : Rn i pc L (aR a :: st) h Q := Rn.step (by
  rw [stp, hk]
  show wrp (o_castA t (pc + 3) L (aR a :: st) h) = _
  unfold o_castA
  simp only [he]
  rw [if_pos ⟨trivial, hn⟩]
  rfl) k
theorem x_gets {a b c d : Nat} (hk : cod i pc = some (.inr (6, a, b, c, d), len))  (k : Rn i (pc + 3) L (aR h.2.2.2.1 :: st) h Q) : Rn i pc L st h Q := Rn.step (by
  rw [stp, hk]
  show wrp (nx (pc + 3) L (aR h.2.2.2.1 :: st) h) = _
  rfl) k
theorem x_oinit {a b c d x : Nat} (hk : cod i pc = some (.inr (7, a, b, c, d), len)) (hl : st.length ≤ 4) (k : Rn i (pc + 3) L st h Q) : Rn i pc L (aR x :: st) h Q := Rn.step (by
  rw [stp, hk]
  show wrp ((if st.length ≤ 4 then nx (pc + 3) L st h else none)) = _
  rw [if_pos hl]
  rfl) k
theorem x_mx {a b c d : Nat} {x y : Int} (hk : cod i pc = some (.inr (11, a, b, c, d), len)) (hc : inR x ∧ inR y ∧ st.length ≤ 4) (k : Rn i (pc + 3) L (aI (if x < y then y else x) :: st) h Q) : Rn i pc L (aI y :: aI x :: st) h Q := Rn.step (by
  rw [stp, hk]
  show wrp ((if inR x ∧ inR y ∧ st.length ≤ 4 then nx (pc + 3) L (aI (if true then (if x < y then y else x) else (if y < x then y else x)) :: st) h else none)) = _
  rw [if_pos hc]
  rfl) k
theorem x_mn {a b c d : Nat} {x y : Int} (hk : cod i pc = some (.inr (12, a, b, c, d), len)) (hc : inR x ∧ inR y ∧ st.length ≤ 4) (k : Rn i (pc + 3) L (aI (if y < x then y else x) :: st) h Q) : Rn i pc L (aI y :: aI x :: st) h Q := Rn.step (by
  rw [stp, hk]
  show wrp ((if inR x ∧ inR y ∧ st.length ≤ 4 then nx (pc + 3) L (aI (if false then (if x < y then y else x) else (if y < x then y else x)) :: st) h else none)) = _
  rw [if_pos hc]
  rfl) k
theorem x_ldcM {a b c d : Nat} (hk : cod i pc = some (.inr (14, a, b, c, d), len))  (k : Rn i (pc + 2) L (aR h.2.2.2.2 :: st) h Q) : Rn i pc L st h Q := Rn.step (by
  rw [stp, hk]
  show wrp (nx (pc + 2) L (aR h.2.2.2.2 :: st) h) = _
  rfl) k
theorem x_ldcI {x b c d : Nat} (hk : cod i pc = some (.inr (18, x, b, c, d), len))  (k : Rn i (pc + 2) L (aI x :: st) h Q) : Rn i pc L st h Q := Rn.step (by
  rw [stp, hk]
  show wrp (nx (pc + 2) L (aI x :: st) h) = _
  rfl) k
theorem x_ldc2 {x g c d : Nat} (hk : cod i pc = some (.inr (15, x, g, c, d), len))  (k : Rn i (pc + 3) L (aL (if g = 0 then (x : Int) else -(x : Int)) :: st) h Q) : Rn i pc L st h Q := Rn.step (by
  rw [stp, hk]
  show wrp (nx (pc + 3) L (aL (if g = 0 then (x : Int) else -(x : Int)) :: st) h) = _
  rfl) k
theorem x_throw {ci b c d : Nat} (hk : cod i pc = some (.inr (16, ci, b, c, d), len)) (hl : st.length ≤ 4) (k : Q (.inr (ci, h.2.1)) (hnew h (.inr (ci, [])) 6)) : Rn i pc L st h Q := Rn.fin (by
  rw [stp, hk]
  show (if st.length ≤ 4 then fin (.inr (ci, h.2.1)) (hnew h (.inr (ci, [])) 6) else none) = _
  rw [if_pos hl]
  rfl) k
/-- a call: the arguments lie on the stack, the last on top -/
theorem x_call {j na kind ci : Nat} {as : List AV} (hk : cod i pc = some (.inr (17, j, na, kind, ci), len)) (hn : as.length = na) (hl : st.length ≤ 4) (hr : rcv kind ci as h = true) (hm : (laid as).length ≤ mxl j) (k : Rn j 0 (entL j as) [] h (Bh i pc (pc + 3) L st Q)) : Rn i pc L (as.reverse ++ st) h Q := by
  refine Rn.call ?_ k
  rw [stp, hk]
  show o_call j na kind ci (pc + 3) (as.reverse ++ st) h = _
  unfold o_call
  have e1 : (as.reverse ++ st).take na = as.reverse := by rw [← hn, ← List.length_reverse]; exact List.take_left
  have e2 : (as.reverse ++ st).drop na = st := by rw [← hn, ← List.length_reverse]; exact List.drop_left
  rw [e1, e2, List.reverse_reverse, if_pos ⟨by simp [hn], by simp [hn]; omega, hr, hm⟩]
theorem x_call0 {j kind ci : Nat} (hk : cod i pc = some (.inr (17, j, 0, kind, ci), len)) (hl : st.length ≤ 4) (hr : rcv kind ci [] h = true) (hm : (laid []).length ≤ mxl j) (k : Rn j 0 (entL j []) [] h (Bh i pc (pc + 3) L st Q)) : Rn i pc L (st) h Q := x_call (as := []) hk rfl hl hr hm k
theorem x_call1 {j kind ci : Nat} {a0 : AV} (hk : cod i pc = some (.inr (17, j, 1, kind, ci), len)) (hl : st.length ≤ 4) (hr : rcv kind ci [a0] h = true) (hm : (laid [a0]).length ≤ mxl j) (k : Rn j 0 (entL j [a0]) [] h (Bh i pc (pc + 3) L st Q)) : Rn i pc L (a0 :: st) h Q := x_call (as := [a0]) hk rfl hl hr hm k
theorem x_call2 {j kind ci : Nat} {a0 a1 : AV} (hk : cod i pc = some (.inr (17, j, 2, kind, ci), len)) (hl : st.length ≤ 4) (hr : rcv kind ci [a0, a1] h = true) (hm : (laid [a0, a1]).length ≤ mxl j) (k : Rn j 0 (entL j [a0, a1]) [] h (Bh i pc (pc + 3) L st Q)) : Rn i pc L (a1 :: a0 :: st) h Q := x_call (as := [a0, a1]) hk rfl hl hr hm k
theorem x_call3 {j kind ci : Nat} {a0 a1 a2 : AV} (hk : cod i pc = some (.inr (17, j, 3, kind, ci), len)) (hl : st.length ≤ 4) (hr : rcv kind ci [a0, a1, a2] h = true) (hm : (laid [a0, a1, a2]).length ≤ mxl j) (k : Rn j 0 (entL j [a0, a1, a2]) [] h (Bh i pc (pc + 3) L st Q)) : Rn i pc L (a2 :: a1 :: a0 :: st) h Q := x_call (as := [a0, a1, a2]) hk rfl hl hr hm k
theorem x_call4 {j kind ci : Nat} {a0 a1 a2 a3 : AV} (hk : cod i pc = some (.inr (17, j, 4, kind, ci), len)) (hl : st.length ≤ 4) (hr : rcv kind ci [a0, a1, a2, a3] h = true) (hm : (laid [a0, a1, a2, a3]).length ≤ mxl j) (k : Rn j 0 (entL j [a0, a1, a2, a3]) [] h (Bh i pc (pc + 3) L st Q)) : Rn i pc L (a3 :: a2 :: a1 :: a0 :: st) h Q := x_call (as := [a0, a1, a2, a3]) hk rfl hl hr hm k
theorem x_call5 {j kind ci : Nat} {a0 a1 a2 a3 a4 : AV} (hk : cod i pc = some (.inr (17, j, 5, kind, ci), len)) (hl : st.length ≤ 4) (hr : rcv kind ci [a0, a1, a2, a3, a4] h = true) (hm : (laid [a0, a1, a2, a3, a4]).length ≤ mxl j) (k : Rn j 0 (entL j [a0, a1, a2, a3, a4]) [] h (Bh i pc (pc + 3) L st Q)) : Rn i pc L (a4 :: a3 :: a2 :: a1 :: a0 :: st) h Q := x_call (as := [a0, a1, a2, a3, a4]) hk rfl hl hr hm k
theorem x_call6 {j kind ci : Nat} {a0 a1 a2 a3 a4 a5 : AV} (hk : cod i pc = some (.inr (17, j, 6, kind, ci), len)) (hl : st.length ≤ 4) (hr : rcv kind ci [a0, a1, a2, a3, a4, a5] h = true) (hm : (laid [a0, a1, a2, a3, a4, a5]).length ≤ mxl j) (k : Rn j 0 (entL j [a0, a1, a2, a3, a4, a5]) [] h (Bh i pc (pc + 3) L st Q)) : Rn i pc L (a5 :: a4 :: a3 :: a2 :: a1 :: a0 :: st) h Q := x_call (as := [a0, a1, a2, a3, a4, a5]) hk rfl hl hr hm k
end Rows
end
section
section Rows2
variable {i pc len : Nat} {st : List AV} {h : AH} {Q : AR → AH → Prop} {r : AL}
theorem x_is0n {o0 : Option AV} {x : Int} (hk : cod i pc = some (.inl (.istore_n 0), len)) (k : Rn i (pc + len) (some (aI x) :: r) st h Q) : Rn i pc (o0 :: r) (aI x :: st) h Q := x_istore_n hk (by show sto _ 0 _ = _; simp [sto]) k
theorem x_is0 {o0 : Option AV} {x : Int} (hk : cod i pc = some (.inl (.istore 0), len)) (k : Rn i (pc + len) (some (aI x) :: r) st h Q) : Rn i pc (o0 :: r) (aI x :: st) h Q := x_istore hk (by show sto _ 0 _ = _; simp [sto]) k
theorem x_as0n {o0 : Option AV} {x : Option Nat} (hk : cod i pc = some (.inl (.astore_n 0), len)) (k : Rn i (pc + len) (some (aQ x) :: r) st h Q) : Rn i pc (o0 :: r) (aQ x :: st) h Q := x_astore_n hk (by show sto _ 0 _ = _; simp [sto]) k
theorem x_as0 {o0 : Option AV} {x : Option Nat} (hk : cod i pc = some (.inl (.astore 0), len)) (k : Rn i (pc + len) (some (aQ x) :: r) st h Q) : Rn i pc (o0 :: r) (aQ x :: st) h Q := x_astore hk (by show sto _ 0 _ = _; simp [sto]) k
theorem x_ls0n {o0 o1 : Option AV} {x : Int} (hk : cod i pc = some (.inl (.lstore_n 0), len)) (k : Rn i (pc + len) (some (aL x) :: none :: r) st h Q) : Rn i pc (o0 :: o1 :: r) (aL x :: st) h Q := x_lstore_n hk (by show stoL _ 0 _ = _; simp [stoL]) k
theorem x_ls0 {o0 o1 : Option AV} {x : Int} (hk : cod i pc = some (.inl (.lstore 0), len)) (k : Rn i (pc + len) (some (aL x) :: none :: r) st h Q) : Rn i pc (o0 :: o1 :: r) (aL x :: st) h Q := x_lstore hk (by show stoL _ 0 _ = _; simp [stoL]) k
theorem x_inc0 {x n : Int} (hk : cod i pc = some (.inl (.iinc 0 n), len)) (k : Rn i (pc + len) (some (aI (x + n)) :: r) st h Q) : Rn i pc (some (aI x) :: r) st h Q := x_iinc hk rfl (by simp [sto]) k
theorem x_is1n {o0 o1 : Option AV} {x : Int} (hk : cod i pc = some (.inl (.istore_n 1), len)) (hl : lng (some o0) = false) (k : Rn i (pc + len) (o0 :: some (aI x) :: r) st h Q) : Rn i pc (o0 :: o1 :: r) (aI x :: st) h Q := x_istore_n hk (by show sto _ 1 _ = _; simp [sto, hl]) k
theorem x_is1 {o0 o1 : Option AV} {x : Int} (hk : cod i pc = some (.inl (.istore 1), len)) (hl : lng (some o0) = false) (k : Rn i (pc + len) (o0 :: some (aI x) :: r) st h Q) : Rn i pc (o0 :: o1 :: r) (aI x :: st) h Q := x_istore hk (by show sto _ 1 _ = _; simp [sto, hl]) k
theorem x_as1n {o0 o1 : Option AV} {x : Option Nat} (hk : cod i pc = some (.inl (.astore_n 1), len)) (hl : lng (some o0) = false) (k : Rn i (pc + len) (o0 :: some (aQ x) :: r) st h Q) : Rn i pc (o0 :: o1 :: r) (aQ x :: st) h Q := x_astore_n hk (by show sto _ 1 _ = _; simp [sto, hl]) k
theorem x_as1 {o0 o1 : Option AV} {x : Option Nat} (hk : cod i pc = some (.inl (.astore 1), len)) (hl : lng (some o0) = false) (k : Rn i (pc + len) (o0 :: some (aQ x) :: r) st h Q) : Rn i pc (o0 :: o1 :: r) (aQ x :: st) h Q := x_astore hk (by show sto _ 1 _ = _; simp [sto, hl]) k
theorem x_ls1n {o0 o1 o2 : Option AV} {x : Int} (hk : cod i pc = some (.inl (.lstore_n 1), len)) (hl : lng (some o0) = false) (k : Rn i (pc + len) (o0 :: some (aL x) :: none :: r) st h Q) : Rn i pc (o0 :: o1 :: o2 :: r) (aL x :: st) h Q := x_lstore_n hk (by show stoL _ 1 _ = _; simp [stoL, hl]) k
theorem x_ls1 {o0 o1 o2 : Option AV} {x : Int} (hk : cod i pc = some (.inl (.lstore 1), len)) (hl : lng (some o0) = false) (k : Rn i (pc + len) (o0 :: some (aL x) :: none :: r) st h Q) : Rn i pc (o0 :: o1 :: o2 :: r) (aL x :: st) h Q := x_lstore hk (by show stoL _ 1 _ = _; simp [stoL, hl]) k
theorem x_inc1 {o0 : Option AV} {x n : Int} (hk : cod i pc = some (.inl (.iinc 1 n), len)) (hl : lng (some o0) = false) (k : Rn i (pc + len) (o0 :: some (aI (x + n)) :: r) st h Q) : Rn i pc (o0 :: some (aI x) :: r) st h Q := x_iinc hk rfl (by simp [sto, hl]) k
theorem x_is2n {o0 o1 o2 : Option AV} {x : Int} (hk : cod i pc = some (.inl (.istore_n 2), len)) (hl : lng (some o1) = false) (k : Rn i (pc + len) (o0 :: o1 :: some (aI x) :: r) st h Q) : Rn i pc (o0 :: o1 :: o2 :: r) (aI x :: st) h Q := x_istore_n hk (by show sto _ 2 _ = _; simp [sto, hl]) k
theorem x_is2 {o0 o1 o2 : Option AV} {x : Int} (hk : cod i pc = some (.inl (.istore 2), len)) (hl : lng (some o1) = false) (k : Rn i (pc + len) (o0 :: o1 :: some (aI x) :: r) st h Q) : Rn i pc (o0 :: o1 :: o2 :: r) (aI x :: st) h Q := x_istore hk (by show sto _ 2 _ = _; simp [sto, hl]) k
theorem x_as2n {o0 o1 o2 : Option AV} {x : Option Nat} (hk : cod i pc = some (.inl (.astore_n 2), len)) (hl : lng (some o1) = false) (k : Rn i (pc + len) (o0 :: o1 :: some (aQ x) :: r) st h Q) : Rn i pc (o0 :: o1 :: o2 :: r) (aQ x :: st) h Q := x_astore_n hk (by show sto _ 2 _ = _; simp [sto, hl]) k
theorem x_as2 {o0 o1 o2 : Option AV} {x : Option Nat} (hk : cod i pc = some (.inl (.astore 2), len)) (hl : lng (some o1) = false) (k : Rn i (pc + len) (o0 :: o1 :: some (aQ x) :: r) st h Q) : Rn i pc (o0 :: o1 :: o2 :: r) (aQ x :: st) h Q := x_astore hk (by show sto _ 2 _ = _; simp [sto, hl]) k
theorem x_ls2n {o0 o1 o2 o3 : Option AV} {x : Int} (hk : cod i pc = some (.inl (.lstore_n 2), len)) (hl : lng (some o1) = false) (k : Rn i (pc + len) (o0 :: o1 :: some (aL x) :: none :: r) st h Q) : Rn i pc (o0 :: o1 :: o2 :: o3 :: r) (aL x :: st) h Q := x_lstore_n hk (by show stoL _ 2 _ = _; simp [stoL, hl]) k
theorem x_ls2 {o0 o1 o2 o3 : Option AV} {x : Int} (hk : cod i pc = some (.inl (.lstore 2), len)) (hl : lng (some o1) = false) (k : Rn i (pc + len) (o0 :: o1 :: some (aL x) :: none :: r) st h Q) : Rn i pc (o0 :: o1 :: o2 :: o3 :: r) (aL x :: st) h Q := x_lstore hk (by show stoL _ 2 _ = _; simp [stoL, hl]) k
theorem x_inc2 {o0 o1 : Option AV} {x n : Int} (hk : cod i pc = some (.inl (.iinc 2 n), len)) (hl : lng (some o1) = false) (k : Rn i (pc + len) (o0 :: o1 :: some (aI (x + n)) :: r) st h Q) : Rn i pc (o0 :: o1 :: some (aI x) :: r) st h Q := x_iinc hk rfl (by simp [sto, hl]) k
theorem x_is3n {o0 o1 o2 o3 : Option AV} {x : Int} (hk : cod i pc = some (.inl (.istore_n 3), len)) (hl : lng (some o2) = false) (k : Rn i (pc + len) (o0 :: o1 :: o2 :: some (aI x) :: r) st h Q) : Rn i pc (o0 :: o1 :: o2 :: o3 :: r) (aI x :: st) h Q := x_istore_n hk (by show sto _ 3 _ = _; simp [sto, hl]) k
theorem x_is3 {o0 o1 o2 o3 : Option AV} {x : Int} (hk : cod i pc = some (.inl (.istore 3), len)) (hl : lng (some o2) = false) (k : Rn i (pc + len) (o0 :: o1 :: o2 :: some (aI x) :: r) st h Q) : Rn i pc (o0 :: o1 :: o2 :: o3 :: r) (aI x :: st) h Q := x_istore hk (by show sto _ 3 _ = _; simp [sto, hl]) k
theorem x_as3n {o0 o1 o2 o3 : Option AV} {x : Option Nat} (hk : cod i pc = some (.inl (.astore_n 3), len)) (hl : lng (some o2) = false) (k : Rn i (pc + len) (o0 :: o1 :: o2 :: some (aQ x) :: r) st h Q) : Rn i pc (o0 :: o1 :: o2 :: o3 :: r) (aQ x :: st) h Q := x_astore_n hk (by show sto _ 3 _ = _; simp [sto, hl]) k
theorem x_as3 {o0 o1 o2 o3 : Option AV} {x : Option Nat} (hk : cod i pc = some (.inl (.astore 3), len)) (hl : lng (some o2) = false) (k : Rn i (pc + len) (o0 :: o1 :: o2 :: some (aQ x) :: r) st h Q) : Rn i pc (o0 :: o1 :: o2 :: o3 :: r) (aQ x :: st) h Q := x_astore hk (by show sto _ 3 _ = _; simp [sto, hl]) k
theorem x_ls3n {o0 o1 o2 o3 o4 : Option AV} {x : Int} (hk : cod i pc = some (.inl (.lstore_n 3), len)) (hl : lng (some o2) = false) (k : Rn i (pc + len) (o0 :: o1 :: o2 :: some (aL x) :: none :: r) st h Q) : Rn i pc (o0 :: o1 :: o2 :: o3 :: o4 :: r) (aL x :: st) h Q := x_lstore_n hk (by show stoL _ 3 _ = _; simp [stoL, hl]) k
theorem x_ls3 {o0 o1 o2 o3 o4 : Option AV} {x : Int} (hk : cod i pc = some (.inl (.lstore 3), len)) (hl : lng (some o2) = false) (k : Rn i (pc + len) (o0 :: o1 :: o2 :: some (aL x) :: none :: r) st h Q) : Rn i pc (o0 :: o1 :: o2 :: o3 :: o4 :: r) (aL x :: st) h Q := x_lstore hk (by show stoL _ 3 _ = _; simp [stoL, hl]) k
theorem x_inc3 {o0 o1 o2 : Option AV} {x n : Int} (hk : cod i pc = some (.inl (.iinc 3 n), len)) (hl : lng (some o2) = false) (k : Rn i (pc + len) (o0 :: o1 :: o2 :: some (aI (x + n)) :: r) st h Q) : Rn i pc (o0 :: o1 :: o2 :: some (aI x) :: r) st h Q := x_iinc hk rfl (by simp [sto, hl]) k
theorem x_is4 {o0 o1 o2 o3 o4 : Option AV} {x : Int} (hk : cod i pc = some (.inl (.istore 4), len)) (hl : lng (some o3) = false) (k : Rn i (pc + len) (o0 :: o1 :: o2 :: o3 :: some (aI x) :: r) st h Q) : Rn i pc (o0 :: o1 :: o2 :: o3 :: o4 :: r) (aI x :: st) h Q := x_istore hk (by show sto _ 4 _ = _; simp [sto, hl]) k
theorem x_as4 {o0 o1 o2 o3 o4 : Option AV} {x : Option Nat} (hk : cod i pc = some (.inl (.astore 4), len)) (hl : lng (some o3) = false) (k : Rn i (pc + len) (o0 :: o1 :: o2 :: o3 :: some (aQ x) :: r) st h Q) : Rn i pc (o0 :: o1 :: o2 :: o3 :: o4 :: r) (aQ x :: st) h Q := x_astore hk (by show sto _ 4 _ = _; simp [sto, hl]) k
theorem x_ls4 {o0 o1 o2 o3 o4 o5 : Option AV} {x : Int} (hk : cod i pc = some (.inl (.lstore 4), len)) (hl : lng (some o3) = false) (k : Rn i (pc + len) (o0 :: o1 :: o2 :: o3 :: some (aL x) :: none :: r) st h Q) : Rn i pc (o0 :: o1 :: o2 :: o3 :: o4 :: o5 :: r) (aL x :: st) h Q := x_lstore hk (by show stoL _ 4 _ = _; simp [stoL, hl]) k
theorem x_inc4 {o0 o1 o2 o3 : Option AV} {x n : Int} (hk : cod i pc = some (.inl (.iinc 4 n), len)) (hl : lng (some o3) = false) (k : Rn i (pc + len) (o0 :: o1 :: o2 :: o3 :: some (aI (x + n)) :: r) st h Q) : Rn i pc (o0 :: o1 :: o2 :: o3 :: some (aI x) :: r) st h Q := x_iinc hk rfl (by simp [sto, hl]) k
theorem x_is5 {o0 o1 o2 o3 o4 o5 : Option AV} {x : Int} (hk : cod i pc = some (.inl (.istore 5), len)) (hl : lng (some o4) = false) (k : Rn i (pc + len) (o0 :: o1 :: o2 :: o3 :: o4 :: some (aI x) :: r) st h Q) : Rn i pc (o0 :: o1 :: o2 :: o3 :: o4 :: o5 :: r) (aI x :: st) h Q := x_istore hk (by show sto _ 5 _ = _; simp [sto, hl]) k
theorem x_as5 {o0 o1 o2 o3 o4 o5 : Option AV} {x : Option Nat} (hk : cod i pc = some (.inl (.astore 5), len)) (hl : lng (some o4) = false) (k : Rn i (pc + len) (o0 :: o1 :: o2 :: o3 :: o4 :: some (aQ x) :: r) st h Q) : Rn i pc (o0 :: o1 :: o2 :: o3 :: o4 :: o5 :: r) (aQ x :: st) h Q := x_astore hk (by show sto _ 5 _ = _; simp [sto, hl]) k
theorem x_ls5 {o0 o1 o2 o3 o4 o5 o6 : Option AV} {x : Int} (hk : cod i pc = some (.inl (.lstore 5), len)) (hl : lng (some o4) = false) (k : Rn i (pc + len) (o0 :: o1 :: o2 :: o3 :: o4 :: some (aL x) :: none :: r) st h Q) : Rn i pc (o0 :: o1 :: o2 :: o3 :: o4 :: o5 :: o6 :: r) (aL x :: st) h Q := x_lstore hk (by show stoL _ 5 _ = _; simp [stoL, hl]) k
theorem x_inc5 {o0 o1 o2 o3 o4 : Option AV} {x n : Int} (hk : cod i pc = some (.inl (.iinc 5 n), len)) (hl : lng (some o4) = false) (k : Rn i (pc + len) (o0 :: o1 :: o2 :: o3 :: o4 :: some (aI (x + n)) :: r) st h Q) : Rn i pc (o0 :: o1 :: o2 :: o3 :: o4 :: some (aI x) :: r) st h Q := x_iinc hk rfl (by simp [sto, hl]) k
theorem x_is6 {o0 o1 o2 o3 o4 o5 o6 : Option AV} {x : Int} (hk : cod i pc = some (.inl (.istore 6), len)) (hl : lng (some o5) = false) (k : Rn i (pc + len) (o0 :: o1 :: o2 :: o3 :: o4 :: o5 :: some (aI x) :: r) st h Q) : Rn i pc (o0 :: o1 :: o2 :: o3 :: o4 :: o5 :: o6 :: r) (aI x :: st) h Q := x_istore hk (by show sto _ 6 _ = _; simp [sto, hl]) k
theorem x_as6 {o0 o1 o2 o3 o4 o5 o6 : Option AV} {x : Option Nat} (hk : cod i pc = some (.inl (.astore 6), len)) (hl : lng (some o5) = false) (k : Rn i (pc + len) (o0 :: o1 :: o2 :: o3 :: o4 :: o5 :: some (aQ x) :: r) st h Q) : Rn i pc (o0 :: o1 :: o2 :: o3 :: o4 :: o5 :: o6 :: r) (aQ x :: st) h Q := x_astore hk (by show sto _ 6 _ = _; simp [sto, hl]) k
theorem x_ls6 {o0 o1 o2 o3 o4 o5 o6 o7 : Option AV} {x : Int} (hk : cod i pc = some (.inl (.lstore 6), len)) (hl : lng (some o5) = false) (k : Rn i (pc + len) (o0 :: o1 :: o2 :: o3 :: o4 :: o5 :: some (aL x) :: none :: r) st h Q) : Rn i pc (o0 :: o1 :: o2 :: o3 :: o4 :: o5 :: o6 :: o7 :: r) (aL x :: st) h Q := x_lstore hk (by show stoL _ 6 _ = _; simp [stoL, hl]) k
theorem x_inc6 {o0 o1 o2 o3 o4 o5 : Option AV} {x n : Int} (hk : cod i pc = some (.inl (.iinc 6 n), len)) (hl : lng (some o5) = false) (k : Rn i (pc + len) (o0 :: o1 :: o2 :: o3 :: o4 :: o5 :: some (aI (x + n)) :: r) st h Q) : Rn i pc (o0 :: o1 :: o2 :: o3 :: o4 :: o5 :: some (aI x) :: r) st h Q := x_iinc hk rfl (by simp [sto, hl]) k
theorem x_is7 {o0 o1 o2 o3 o4 o5 o6 o7 : Option AV} {x : Int} (hk : cod i pc = some (.inl (.istore 7), len)) (hl : lng (some o6) = false) (k : Rn i (pc + len) (o0 :: o1 :: o2 :: o3 :: o4 :: o5 :: o6 :: some (aI x) :: r) st h Q) : Rn i pc (o0 :: o1 :: o2 :: o3 :: o4 :: o5 :: o6 :: o7 :: r) (aI x :: st) h Q := x_istore hk (by show sto _ 7 _ = _; simp [sto, hl]) k
theorem x_as7 {o0 o1 o2 o3 o4 o5 o6 o7 : Option AV} {x : Option Nat} (hk : cod i pc = some (.inl (.astore 7), len)) (hl : lng (some o6) = false) (k : Rn i (pc + len) (o0 :: o1 :: o2 :: o3 :: o4 :: o5 :: o6 :: some (aQ x) :: r) st h Q) : Rn i pc (o0 :: o1 :: o2 :: o3 :: o4 :: o5 :: o6 :: o7 :: r) (aQ x :: st) h Q := x_astore hk (by show sto _ 7 _ = _; simp [sto, hl]) k
theorem x_ls7 {o0 o1 o2 o3 o4 o5 o6 o7 o8 : Option AV} {x : Int} (hk : cod i pc = some (.inl (.lstore 7), len)) (hl : lng (some o6) = false) (k : Rn i (pc + len) (o0 :: o1 :: o2 :: o3 :: o4 :: o5 :: o6 :: some (aL x) :: none :: r) st h Q) : Rn i pc (o0 :: o1 :: o2 :: o3 :: o4 :: o5 :: o6 :: o7 :: o8 :: r) (aL x :: st) h Q := x_lstore hk (by show stoL _ 7 _ = _; simp [stoL, hl]) k
theorem x_inc7 {o0 o1 o2 o3 o4 o5 o6 : Option AV} {x n : Int} (hk : cod i pc = some (.inl (.iinc 7 n), len)) (hl : lng (some o6) = false) (k : Rn i (pc + len) (o0 :: o1 :: o2 :: o3 :: o4 :: o5 :: o6 :: some (aI (x + n)) :: r) st h Q) : Rn i pc (o0 :: o1 :: o2 :: o3 :: o4 :: o5 :: o6 :: some (aI x) :: r) st h Q := x_iinc hk rfl (by simp [sto, hl]) k
theorem x_is8 {o0 o1 o2 o3 o4 o5 o6 o7 o8 : Option AV} {x : Int} (hk : cod i pc = some (.inl (.istore 8), len)) (hl : lng (some o7) = false) (k : Rn i (pc + len) (o0 :: o1 :: o2 :: o3 :: o4 :: o5 :: o6 :: o7 :: some (aI x) :: r) st h Q) : Rn i pc (o0 :: o1 :: o2 :: o3 :: o4 :: o5 :: o6 :: o7 :: o8 :: r) (aI x :: st) h Q := x_istore hk (by show sto _ 8 _ = _; simp [sto, hl]) k
theorem x_as8 {o0 o1 o2 o3 o4 o5 o6 o7 o8 : Option AV} {x : Option Nat} (hk : cod i pc = some (.inl (.astore 8), len)) (hl : lng (some o7) = false) (k : Rn i (pc + len) (o0 :: o1 :: o2 :: o3 :: o4 :: o5 :: o6 :: o7 :: some (aQ x) :: r) st h Q) : Rn i pc (o0 :: o1 :: o2 :: o3 :: o4 :: o5 :: o6 :: o7 :: o8 :: r) (aQ x :: st) h Q := x_astore hk (by show sto _ 8 _ = _; simp [sto, hl]) k
theorem x_ls8 {o0 o1 o2 o3 o4 o5 o6 o7 o8 o9 : Option AV} {x : Int} (hk : cod i pc = some (.inl (.lstore 8), len)) (hl : lng (some o7) = false) (k : Rn i (pc + len) (o0 :: o1 :: o2 :: o3 :: o4 :: o5 :: o6 :: o7 :: some (aL x) :: none :: r) st h Q) : Rn i pc (o0 :: o1 :: o2 :: o3 :: o4 :: o5 :: o6 :: o7 :: o8 :: o9 :: r) (aL x :: st) h Q := x_lstore hk (by show stoL _ 8 _ = _; simp [stoL, hl]) k
theorem x_inc8 {o0 o1 o2 o3 o4 o5 o6 o7 : Option AV} {x n : Int} (hk : cod i pc = some (.inl (.iinc 8 n), len)) (hl : lng (some o7) = false) (k : Rn i (pc + len) (o0 :: o1 :: o2 :: o3 :: o4 :: o5 :: o6 :: o7 :: some (aI (x + n)) :: r) st h Q) : Rn i pc (o0 :: o1 :: o2 :: o3 :: o4 :: o5 :: o6 :: o7 :: some (aI x) :: r) st h Q := x_iinc hk rfl (by simp [sto, hl]) k
theorem x_is9 {o0 o1 o2 o3 o4 o5 o6 o7 o8 o9 : Option AV} {x : Int} (hk : cod i pc = some (.inl (.istore 9), len)) (hl : lng (some o8) = false) (k : Rn i (pc + len) (o0 :: o1 :: o2 :: o3 :: o4 :: o5 :: o6 :: o7 :: o8 :: some (aI x) :: r) st h Q) : Rn i pc (o0 :: o1 :: o2 :: o3 :: o4 :: o5 :: o6 :: o7 :: o8 :: o9 :: r) (aI x :: st) h Q := x_istore hk (by show sto _ 9 _ = _; simp [sto, hl]) k
theorem x_as9 {o0 o1 o2 o3 o4 o5 o6 o7 o8 o9 : Option AV} {x : Option Nat} (hk : cod i pc = some (.inl (.astore 9), len)) (hl : lng (some o8) = false) (k : Rn i (pc + len) (o0 :: o1 :: o2 :: o3 :: o4 :: o5 :: o6 :: o7 :: o8 :: some (aQ x) :: r) st h Q) : Rn i pc (o0 :: o1 :: o2 :: o3 :: o4 :: o5 :: o6 :: o7 :: o8 :: o9 :: r) (aQ x :: st) h Q := x_astore hk (by show sto _ 9 _ = _; simp [sto, hl]) k
theorem x_ls9 {o0 o1 o2 o3 o4 o5 o6 o7 o8 o9 o10 : Option AV} {x : Int} (hk : cod i pc = some (.inl (.lstore 9), len)) (hl : lng (some o8) = false) (k : Rn i (pc + len) (o0 :: o1 :: o2 :: o3 :: o4 :: o5 :: o6 :: o7 :: o8 :: some (aL x) :: none :: r) st h Q) : Rn i pc (o0 :: o1 :: o2 :: o3 :: o4 :: o5 :: o6 :: o7 :: o8 :: o9 :: o10 :: r) (aL x :: st) h Q := x_lstore hk (by show stoL _ 9 _ = _; simp [stoL, hl]) k
theorem x_inc9 {o0 o1 o2 o3 o4 o5 o6 o7 o8 : Option AV} {x n : Int} (hk : cod i pc = some (.inl (.iinc 9 n), len)) (hl : lng (some o8) = false) (k : Rn i (pc + len) (o0 :: o1 :: o2 :: o3 :: o4 :: o5 :: o6 :: o7 :: o8 :: some (aI (x + n)) :: r) st h Q) : Rn i pc (o0 :: o1 :: o2 :: o3 :: o4 :: o5 :: o6 :: o7 :: o8 :: some (aI x) :: r) st h Q := x_iinc hk rfl (by simp [sto, hl]) k
theorem x_is10 {o0 o1 o2 o3 o4 o5 o6 o7 o8 o9 o10 : Option AV} {x : Int} (hk : cod i pc = some (.inl (.istore 10), len)) (hl : lng (some o9) = false) (k : Rn i (pc + len) (o0 :: o1 :: o2 :: o3 :: o4 :: o5 :: o6 :: o7 :: o8 :: o9 :: some (aI x) :: r) st h Q) : Rn i pc (o0 :: o1 :: o2 :: o3 :: o4 :: o5 :: o6 :: o7 :: o8 :: o9 :: o10 :: r) (aI x :: st) h Q := x_istore hk (by show sto _ 10 _ = _; simp [sto, hl]) k
theorem x_as10 {o0 o1 o2 o3 o4 o5 o6 o7 o8 o9 o10 : Option AV} {x : Option Nat} (hk : cod i pc = some (.inl (.astore 10), len)) (hl : lng (some o9) = false) (k : Rn i (pc + len) (o0 :: o1 :: o2 :: o3 :: o4 :: o5 :: o6 :: o7 :: o8 :: o9 :: some (aQ x) :: r) st h Q) : Rn i pc (o0 :: o1 :: o2 :: o3 :: o4 :: o5 :: o6 :: o7 :: o8 :: o9 :: o10 :: r) (aQ x :: st) h Q := x_astore hk (by show sto _ 10 _ = _; simp [sto, hl]) k
theorem x_ls10 {o0 o1 o2 o3 o4 o5 o6 o7 o8 o9 o10 o11 : Option AV} {x : Int} (hk : cod i pc = some (.inl (.lstore 10), len)) (hl : lng (some o9) = false) (k : Rn i (pc + len) (o0 :: o1 :: o2 :: o3 :: o4 :: o5 :: o6 :: o7 :: o8 :: o9 :: some (aL x) :: none :: r) st h Q) : Rn i pc (o0 :: o1 :: o2 :: o3 :: o4 :: o5 :: o6 :: o7 :: o8 :: o9 :: o10 :: o11 :: r) (aL x :: st) h Q := x_lstore hk (by show stoL _ 10 _ = _; simp [stoL, hl]) k
theorem x_inc10 {o0 o1 o2 o3 o4 o5 o6 o7 o8 o9 : Option AV} {x n : Int} (hk : cod i pc = some (.inl (.iinc 10 n), len)) (hl : lng (some o9) = false) (k : Rn i (pc + len) (o0 :: o1 :: o2 :: o3 :: o4 :: o5 :: o6 :: o7 :: o8 :: o9 :: some (aI (x + n)) :: r) st h Q) : Rn i pc (o0 :: o1 :: o2 :: o3 :: o4 :: o5 :: o6 :: o7 :: o8 :: o9 :: some (aI x) :: r) st h Q := x_iinc hk rfl (by simp [sto, hl]) k
theorem x_is11 {o0 o1 o2 o3 o4 o5 o6 o7 o8 o9 o10 o11 : Option AV} {x : Int} (hk : cod i pc = some (.inl (.istore 11), len)) (hl : lng (some o10) = false) (k : Rn i (pc + len) (o0 :: o1 :: o2 :: o3 :: o4 :: o5 :: o6 :: o7 :: o8 :: o9 :: o10 :: some (aI x) :: r) st h Q) : Rn i pc (o0 :: o1 :: o2 :: o3 :: o4 :: o5 :: o6 :: o7 :: o8 :: o9 :: o10 :: o11 :: r) (aI x :: st) h Q := x_istore hk (by show sto _ 11 _ = _; simp [sto, hl]) k
theorem x_as11 {o0 o1 o2 o3 o4 o5 o6 o7 o8 o9 o10 o11 : Option AV} {x : Option Nat} (hk : cod i pc = some (.inl (.astore 11), len)) (hl : lng (some o10) = false) (k : Rn i (pc + len) (o0 :: o1 :: o2 :: o3 :: o4 :: o5 :: o6 :: o7 :: o8 :: o9 :: o10 :: some (aQ x) :: r) st h Q) : Rn i pc (o0 :: o1 :: o2 :: o3 :: o4 :: o5 :: o6 :: o7 :: o8 :: o9 :: o10 :: o11 :: r) (aQ x :: st) h Q := x_astore hk (by show sto _ 11 _ = _; simp [sto, hl]) k
theorem x_ls11 {o0 o1 o2 o3 o4 o5 o6 o7 o8 o9 o10 o11 o12 : Option AV} {x : Int} (hk : cod i pc = some (.inl (.lstore 11), len)) (hl : lng (some o10) = false) (k : Rn i (pc + len) (o0 :: o1 :: o2 :: o3 :: o4 :: o5 :: o6 :: o7 :: o8 :: o9 :: o10 :: some (aL x) :: none :: r) st h Q) : Rn i pc (o0 :: o1 :: o2 :: o3 :: o4 :: o5 :: o6 :: o7 :: o8 :: o9 :: o10 :: o11 :: o12 :: r) (aL x :: st) h Q := x_lstore hk (by show stoL _ 11 _ = _; simp [stoL, hl]) k
theorem x_inc11 {o0 o1 o2 o3 o4 o5 o6 o7 o8 o9 o10 : Option AV} {x n : Int} (hk : cod i pc = some (.inl (.iinc 11 n), len)) (hl : lng (some o10) = false) (k : Rn i (pc + len) (o0 :: o1 :: o2 :: o3 :: o4 :: o5 :: o6 :: o7 :: o8 :: o9 :: o10 :: some (aI (x + n)) :: r) st h Q) : Rn i pc (o0 :: o1 :: o2 :: o3 :: o4 :: o5 :: o6 :: o7 :: o8 :: o9 :: o10 :: some (aI x) :: r) st h Q := x_iinc hk rfl (by simp [sto, hl]) k
theorem bh_v {pc' : Nat} {L : AL} {rest : List AV} (k : Rn i pc' L rest h Q) : Bh i pc pc' L rest Q (.inl none) h := k
theorem bh_1 {pc' : Nat} {L : AL} {rest : List AV} {w : AV} (k : Rn i pc' L (w :: rest) h Q) : Bh i pc pc' L rest Q (.inl (some w)) h := k
theorem bh_o {pc' ci a : Nat} {L : AL} {rest : List AV} (hh : hnd i pc ci = some none) (k : Q (.inr (ci, a)) h) : Bh i pc pc' L rest Q (.inr (ci, a)) h := by
  unfold Bh
  simp only [hh]
  exact k
theorem bh_c {pc' ci a p' : Nat} {L : AL} {rest : List AV} (hh : hnd i pc ci = some (some p')) (k : Rn i p' L [aR a] h Q) : Bh i pc pc' L rest Q (.inr (ci, a)) h := by
  unfold Bh
  simp only [hh]
  exact k
theorem rcv_1 {ci b : Nat} {as fs : List AV} (he : h.1 b = some (.inr (ci, fs))) : rcv 1 ci (aR b :: as) h = true := by
  simp [rcv, he]
/-- an exception of the class ci was made and thrown -/
def hex (h : AH) (ci : Nat) : AH := hnew h (.inr (ci, [])) 6
theorem hput_s {h : AH} {a : Nat} {e : AE} : (hput h a e).1 a = some e := by simp [hput, up]
theorem hput_n {h : AH} {a b : Nat} {e : AE} (hn : b ≠ a) : (hput h a e).1 b = h.1 b := by simp [hput, up, hn]
theorem hnew_s {h : AH} {e : AE} {k : Nat} : (hnew h e k).1 h.2.1 = some e := by simp [hnew, up]
theorem hnew_n {h : AH} {b k : Nat} {e : AE} (hn : b ≠ h.2.1) : (hnew h e k).1 b = h.1 b := by simp [hnew, up, hn]
end Rows2
end
section
theorem k_0_0 : cod 0 0 = some (.inl (.aload_n 0), 1) := rfl
theorem k_0_1 : cod 0 1 = some (.inr (7, 0, 0, 0, 0), 3) := rfl
theorem k_0_4 : cod 0 4 = some (.inl (.aload_n 0), 1) := rfl
theorem k_0_5 : cod 0 5 = some (.inl (.iconst 0), 1) := rfl
theorem k_0_6 : cod 0 6 = some (.inr (3, 3, 0, 0, 0), 3) := rfl
theorem k_0_9 : cod 0 9 = some (.inr (1, 0, 0, 3, 0), 3) := rfl
theorem k_0_12 : cod 0 12 = some (.inl (.aload_n 0), 1) := rfl
theorem k_0_13 : cod 0 13 = some (.inr (2, 8, 3, 0, 0), 3) := rfl
theorem k_0_16 : cod 0 16 = some (.inl .dup, 1) := rfl
theorem k_0_17 : cod 0 17 = some (.inr (17, 1, 1, 2, 0), 3) := rfl
theorem k_0_20 : cod 0 20 = some (.inr (1, 0, 1, 3, 0), 3) := rfl
theorem k_0_23 : cod 0 23 = some (.inl (.aload_n 0), 1) := rfl
theorem k_0_24 : cod 0 24 = some (.inr (2, 8, 3, 0, 0), 3) := rfl
theorem k_0_27 : cod 0 27 = some (.inl .dup, 1) := rfl
theorem k_0_28 : cod 0 28 = some (.inr (17, 1, 1, 2, 0), 3) := rfl
theorem k_0_31 : cod 0 31 = some (.inr (1, 0, 2, 3, 0), 3) := rfl
theorem k_0_34 : cod 0 34 = some (.inl (.aload_n 0), 1) := rfl
theorem k_0_35 : cod 0 35 = some (.inr (2, 1, 3, 0, 0), 3) := rfl
theorem k_0_38 : cod 0 38 = some (.inl .dup, 1) := rfl
theorem k_0_39 : cod 0 39 = some (.inr (17, 4, 1, 2, 0), 3) := rfl
theorem k_0_42 : cod 0 42 = some (.inr (1, 0, 3, 3, 0), 3) := rfl
theorem k_0_45 : cod 0 45 = some (.inl .return_, 1) := rfl
theorem k_1_0 : cod 1 0 = some (.inl (.aload_n 0), 1) := rfl
theorem k_1_1 : cod 1 1 = some (.inr (17, 2, 1, 2, 0), 3) := rfl
theorem k_1_4 : cod 1 4 = some (.inl (.aload_n 0), 1) := rfl
theorem k_1_5 : cod 1 5 = some (.inr (6, 0, 0, 0, 0), 3) := rfl
theorem k_1_8 : cod 1 8 = some (.inr (1, 8, 0, 3, 0), 3) := rfl
theorem k_1_11 : cod 1 11 = some (.inl .return_, 1) := rfl
theorem k_2_0 : cod 2 0 = some (.inl (.aload_n 0), 1) := rfl
theorem k_2_1 : cod 2 1 = some (.inr (17, 3, 1, 2, 0), 3) := rfl
theorem k_2_4 : cod 2 4 = some (.inl (.aload_n 0), 1) := rfl
theorem k_2_5 : cod 2 5 = some (.inl (.iconst 0), 1) := rfl
theorem k_2_6 : cod 2 6 = some (.inr (1, 8, 2, 0, 0), 3) := rfl
theorem k_2_9 : cod 2 9 = some (.inl .return_, 1) := rfl
theorem k_3_0 : cod 3 0 = some (.inl (.aload_n 0), 1) := rfl
theorem k_3_1 : cod 3 1 = some (.inr (7, 0, 0, 0, 0), 3) := rfl
theorem k_3_4 : cod 3 4 = some (.inl .return_, 1) := rfl
theorem k_4_0 : cod 4 0 = some (.inl (.aload_n 0), 1) := rfl
theorem k_4_1 : cod 4 1 = some (.inr (7, 0, 0, 0, 0), 3) := rfl
theorem k_4_4 : cod 4 4 = some (.inl (.aload_n 0), 1) := rfl
theorem k_4_5 : cod 4 5 = some (.inl (.bipush 16), 2) := rfl
theorem k_4_7 : cod 4 7 = some (.inl (.newarray .int), 2) := rfl
theorem k_4_9 : cod 4 9 = some (.inr (1, 1, 0, 3, 0), 3) := rfl
theorem k_4_12 : cod 4 12 = some (.inl (.aload_n 0), 1) := rfl
theorem k_4_13 : cod 4 13 = some (.inl (.bipush 16), 2) := rfl
theorem k_4_15 : cod 4 15 = some (.inl (.newarray .int), 2) := rfl
theorem k_4_17 : cod 4 17 = some (.inr (1, 1, 1, 3, 0), 3) := rfl
theorem k_4_20 : cod 4 20 = some (.inl .return_, 1) := rfl
theorem k_5_0 : cod 5 0 = some (.inl (.iload_n 1), 1) := rfl
theorem k_5_1 : cod 5 1 = some (.inl (.tableswitch 76 0 5 #[39, 45, 53, 61, 66, 71]), 39) := rfl
theorem k_5_40 : cod 5 40 = some (.inl (.aload_n 0), 1) := rfl
theorem k_5_41 : cod 5 41 = some (.inr (0, 0, 0, 0, 0), 3) := rfl
theorem k_5_44 : cod 5 44 = some (.inl .arraylength, 1) := rfl
theorem k_5_45 : cod 5 45 = some (.inl .ireturn, 1) := rfl
theorem k_5_46 : cod 5 46 = some (.inl (.aload_n 0), 1) := rfl
theorem k_5_47 : cod 5 47 = some (.inr (0, 0, 1, 0, 0), 3) := rfl
theorem k_5_50 : cod 5 50 = some (.inr (17, 6, 1, 1, 8), 3) := rfl
theorem k_5_53 : cod 5 53 = some (.inl .ireturn, 1) := rfl
theorem k_5_54 : cod 5 54 = some (.inl (.aload_n 0), 1) := rfl
theorem k_5_55 : cod 5 55 = some (.inr (0, 0, 2, 0, 0), 3) := rfl
theorem k_5_58 : cod 5 58 = some (.inr (17, 6, 1, 1, 8), 3) := rfl
theorem k_5_61 : cod 5 61 = some (.inl .ireturn, 1) := rfl
theorem k_5_62 : cod 5 62 = some (.inl (.aload_n 0), 1) := rfl
theorem k_5_63 : cod 5 63 = some (.inr (0, 0, 5, 0, 0), 3) := rfl
theorem k_5_66 : cod 5 66 = some (.inl .ireturn, 1) := rfl
theorem k_5_67 : cod 5 67 = some (.inl (.aload_n 0), 1) := rfl
theorem k_5_68 : cod 5 68 = some (.inr (17, 7, 1, 1, 0), 3) := rfl
theorem k_5_71 : cod 5 71 = some (.inl .ireturn, 1) := rfl
theorem k_5_72 : cod 5 72 = some (.inl (.aload_n 0), 1) := rfl
theorem k_5_73 : cod 5 73 = some (.inr (17, 8, 1, 1, 0), 3) := rfl
theorem k_5_76 : cod 5 76 = some (.inl .ireturn, 1) := rfl
theorem k_5_77 : cod 5 77 = some (.inl (.iconst (-1)), 1) := rfl
theorem k_5_78 : cod 5 78 = some (.inl .ireturn, 1) := rfl
theorem k_6_0 : cod 6 0 = some (.inl (.aload_n 0), 1) := rfl
theorem k_6_1 : cod 6 1 = some (.inr (0, 8, 1, 0, 0), 3) := rfl
theorem k_6_4 : cod 6 4 = some (.inl .ireturn, 1) := rfl
theorem k_7_0 : cod 7 0 = some (.inl (.iconst 0), 1) := rfl
theorem k_7_1 : cod 7 1 = some (.inl (.istore_n 1), 1) := rfl
theorem k_7_2 : cod 7 2 = some (.inl (.iconst 0), 1) := rfl
theorem k_7_3 : cod 7 3 = some (.inl (.istore_n 2), 1) := rfl
theorem k_7_4 : cod 7 4 = some (.inl (.iload_n 2), 1) := rfl
theorem k_7_5 : cod 7 5 = some (.inl (.aload_n 0), 1) := rfl
theorem k_7_6 : cod 7 6 = some (.inr (0, 0, 0, 0, 0), 3) := rfl
theorem k_7_9 : cod 7 9 = some (.inl .arraylength, 1) := rfl
theorem k_7_10 : cod 7 10 = some (.inl (.if_icmp .ge 24), 3) := rfl
theorem k_7_13 : cod 7 13 = some (.inl (.iload_n 1), 1) := rfl
theorem k_7_14 : cod 7 14 = some (.inl (.aload_n 0), 1) := rfl
theorem k_7_15 : cod 7 15 = some (.inr (0, 0, 0, 0, 0), 3) := rfl
theorem k_7_18 : cod 7 18 = some (.inl (.iload_n 2), 1) := rfl
theorem k_7_19 : cod 7 19 = some (.inl .aaload, 1) := rfl
theorem k_7_20 : cod 7 20 = some (.inr (0, 2, 2, 0, 0), 3) := rfl
theorem k_7_23 : cod 7 23 = some (.inr (17, 6, 1, 1, 8), 3) := rfl
theorem k_7_26 : cod 7 26 = some (.inl .iadd, 1) := rfl
theorem k_7_27 : cod 7 27 = some (.inl (.istore_n 1), 1) := rfl
theorem k_7_28 : cod 7 28 = some (.inl (.iinc 2 1), 3) := rfl
theorem k_7_31 : cod 7 31 = some (.inl (.goto (-27)), 3) := rfl
theorem k_7_34 : cod 7 34 = some (.inl (.iload_n 1), 1) := rfl
theorem k_7_35 : cod 7 35 = some (.inl .ireturn, 1) := rfl
theorem k_8_0 : cod 8 0 = some (.inl (.iconst 0), 1) := rfl
theorem k_8_1 : cod 8 1 = some (.inl (.istore_n 1), 1) := rfl
theorem k_8_2 : cod 8 2 = some (.inl (.iconst 0), 1) := rfl
theorem k_8_3 : cod 8 3 = some (.inl (.istore_n 2), 1) := rfl
theorem k_8_4 : cod 8 4 = some (.inl (.iload_n 2), 1) := rfl
theorem k_8_5 : cod 8 5 = some (.inl (.aload_n 0), 1) := rfl
theorem k_8_6 : cod 8 6 = some (.inr (0, 0, 0, 0, 0), 3) := rfl
theorem k_8_9 : cod 8 9 = some (.inl .arraylength, 1) := rfl
theorem k_8_10 : cod 8 10 = some (.inl (.if_icmp .ge 24), 3) := rfl
theorem k_8_13 : cod 8 13 = some (.inl (.iload_n 1), 1) := rfl
theorem k_8_14 : cod 8 14 = some (.inl (.aload_n 0), 1) := rfl
theorem k_8_15 : cod 8 15 = some (.inr (0, 0, 0, 0, 0), 3) := rfl
theorem k_8_18 : cod 8 18 = some (.inl (.iload_n 2), 1) := rfl
theorem k_8_19 : cod 8 19 = some (.inl .aaload, 1) := rfl
theorem k_8_20 : cod 8 20 = some (.inr (0, 2, 3, 0, 0), 3) := rfl
theorem k_8_23 : cod 8 23 = some (.inr (17, 6, 1, 1, 8), 3) := rfl
theorem k_8_26 : cod 8 26 = some (.inl .iadd, 1) := rfl
theorem k_8_27 : cod 8 27 = some (.inl (.istore_n 1), 1) := rfl
theorem k_8_28 : cod 8 28 = some (.inl (.iinc 2 1), 3) := rfl
theorem k_8_31 : cod 8 31 = some (.inl (.goto (-27)), 3) := rfl
theorem k_8_34 : cod 8 34 = some (.inl (.iload_n 1), 1) := rfl
theorem k_8_35 : cod 8 35 = some (.inl .ireturn, 1) := rfl
theorem k_9_0 : cod 9 0 = some (.inl (.aload_n 0), 1) := rfl
theorem k_9_1 : cod 9 1 = some (.inl (.iload_n 1), 1) := rfl
theorem k_9_2 : cod 9 2 = some (.inr (17, 10, 2, 1, 0), 3) := rfl
theorem k_9_5 : cod 9 5 = some (.inl (.goto 9), 3) := rfl
theorem k_9_8 : cod 9 8 = some (.inl (.astore_n 2), 1) := rfl
theorem k_9_9 : cod 9 9 = some (.inl (.iconst 1), 1) := rfl
theorem k_9_10 : cod 9 10 = some (.inl .ireturn, 1) := rfl
theorem k_9_11 : cod 9 11 = some (.inl (.astore_n 2), 1) := rfl
theorem k_9_12 : cod 9 12 = some (.inl (.iconst 2), 1) := rfl
theorem k_9_13 : cod 9 13 = some (.inl .ireturn, 1) := rfl
theorem k_9_14 : cod 9 14 = some (.inl (.iconst 0), 1) := rfl
theorem k_9_15 : cod 9 15 = some (.inl .ireturn, 1) := rfl
theorem k_10_0 : cod 10 0 = some (.inl (.iload_n 1), 1) := rfl
theorem k_10_1 : cod 10 1 = some (.inl (.iconst 1), 1) := rfl
theorem k_10_2 : cod 10 2 = some (.inl (.if_icmp .lt 9), 3) := rfl
theorem k_10_5 : cod 10 5 = some (.inl (.iload_n 1), 1) := rfl
theorem k_10_6 : cod 10 6 = some (.inl (.bipush 6), 2) := rfl
theorem k_10_8 : cod 10 8 = some (.inl (.if_icmp .le 13), 3) := rfl
theorem k_10_11 : cod 10 11 = some (.inr (16, 10, 0, 0, 0), 10) := rfl
theorem k_10_21 : cod 10 21 = some (.inl (.aload_n 0), 1) := rfl
theorem k_10_22 : cod 10 22 = some (.inr (0, 0, 0, 0, 0), 3) := rfl
theorem k_10_25 : cod 10 25 = some (.inl .arraylength, 1) := rfl
theorem k_10_26 : cod 10 26 = some (.inl (.ifCond .le 13), 3) := rfl
theorem k_10_29 : cod 10 29 = some (.inr (16, 11, 0, 0, 0), 10) := rfl
theorem k_10_39 : cod 10 39 = some (.inl (.iload_n 1), 1) := rfl
theorem k_10_40 : cod 10 40 = some (.inr (3, 3, 0, 0, 0), 3) := rfl
theorem k_10_43 : cod 10 43 = some (.inl (.astore_n 2), 1) := rfl
theorem k_10_44 : cod 10 44 = some (.inl (.iconst 0), 1) := rfl
theorem k_10_45 : cod 10 45 = some (.inl (.istore_n 3), 1) := rfl
theorem k_10_46 : cod 10 46 = some (.inl (.iload_n 3), 1) := rfl
theorem k_10_47 : cod 10 47 = some (.inl (.iload_n 1), 1) := rfl
theorem k_10_48 : cod 10 48 = some (.inl (.if_icmp .ge 21), 3) := rfl
theorem k_10_51 : cod 10 51 = some (.inl (.aload_n 2), 1) := rfl
theorem k_10_52 : cod 10 52 = some (.inl (.iload_n 3), 1) := rfl
theorem k_10_53 : cod 10 53 = some (.inr (2, 2, 4, 0, 0), 3) := rfl
theorem k_10_56 : cod 10 56 = some (.inl .dup, 1) := rfl
theorem k_10_57 : cod 10 57 = some (.inl (.iload_n 3), 1) := rfl
theorem k_10_58 : cod 10 58 = some (.inl (.iload_n 1), 1) := rfl
theorem k_10_59 : cod 10 59 = some (.inr (17, 11, 3, 2, 0), 3) := rfl
theorem k_10_62 : cod 10 62 = some (.inl .aastore, 1) := rfl
theorem k_10_63 : cod 10 63 = some (.inl (.iinc 3 1), 3) := rfl
theorem k_10_66 : cod 10 66 = some (.inl (.goto (-20)), 3) := rfl
theorem k_10_69 : cod 10 69 = some (.inl (.aload_n 0), 1) := rfl
theorem k_10_70 : cod 10 70 = some (.inl (.aload_n 2), 1) := rfl
theorem k_10_71 : cod 10 71 = some (.inr (1, 0, 0, 3, 0), 3) := rfl
theorem k_10_74 : cod 10 74 = some (.inl .return_, 1) := rfl
theorem k_11_0 : cod 11 0 = some (.inl (.aload_n 0), 1) := rfl
theorem k_11_1 : cod 11 1 = some (.inr (7, 0, 0, 0, 0), 3) := rfl
theorem k_11_4 : cod 11 4 = some (.inl (.aload_n 0), 1) := rfl
theorem k_11_5 : cod 11 5 = some (.inl (.iload_n 1), 1) := rfl
theorem k_11_6 : cod 11 6 = some (.inr (1, 2, 0, 0, 0), 3) := rfl
theorem k_11_9 : cod 11 9 = some (.inl (.aload_n 0), 1) := rfl
theorem k_11_10 : cod 11 10 = some (.inl (.iload_n 2), 1) := rfl
theorem k_11_11 : cod 11 11 = some (.inl (.newarray .int), 2) := rfl
theorem k_11_13 : cod 11 13 = some (.inr (1, 2, 1, 3, 0), 3) := rfl
theorem k_11_16 : cod 11 16 = some (.inl (.aload_n 0), 1) := rfl
theorem k_11_17 : cod 11 17 = some (.inr (2, 8, 3, 0, 0), 3) := rfl
theorem k_11_20 : cod 11 20 = some (.inl .dup, 1) := rfl
theorem k_11_21 : cod 11 21 = some (.inr (17, 1, 1, 2, 0), 3) := rfl
theorem k_11_24 : cod 11 24 = some (.inr (1, 2, 2, 3, 0), 3) := rfl
theorem k_11_27 : cod 11 27 = some (.inl (.aload_n 0), 1) := rfl
theorem k_11_28 : cod 11 28 = some (.inr (2, 8, 3, 0, 0), 3) := rfl
theorem k_11_31 : cod 11 31 = some (.inl .dup, 1) := rfl
theorem k_11_32 : cod 11 32 = some (.inr (17, 1, 1, 2, 0), 3) := rfl
theorem k_11_35 : cod 11 35 = some (.inr (1, 2, 3, 3, 0), 3) := rfl
theorem k_11_38 : cod 11 38 = some (.inl .return_, 1) := rfl
theorem k_12_0 : cod 12 0 = some (.inl (.aload_n 3), 1) := rfl
theorem k_12_1 : cod 12 1 = some (.inl (.iconst 0), 1) := rfl
theorem k_12_2 : cod 12 2 = some (.inl (.aload_n 0), 1) := rfl
theorem k_12_3 : cod 12 3 = some (.inl (.iload_n 1), 1) := rfl
theorem k_12_4 : cod 12 4 = some (.inl (.iload_n 2), 1) := rfl
theorem k_12_5 : cod 12 5 = some (.inr (17, 13, 3, 1, 0), 3) := rfl
theorem k_12_8 : cod 12 8 = some (.inl .i2l, 1) := rfl
theorem k_12_9 : cod 12 9 = some (.inl .lastore, 1) := rfl
theorem k_12_10 : cod 12 10 = some (.inl (.goto 11), 3) := rfl
theorem k_12_13 : cod 12 13 = some (.inl (.astore 4), 2) := rfl
theorem k_12_15 : cod 12 15 = some (.inl (.iconst 1), 1) := rfl
theorem k_12_16 : cod 12 16 = some (.inl .ireturn, 1) := rfl
theorem k_12_17 : cod 12 17 = some (.inl (.astore 4), 2) := rfl
theorem k_12_19 : cod 12 19 = some (.inl (.iconst 2), 1) := rfl
theorem k_12_20 : cod 12 20 = some (.inl .ireturn, 1) := rfl
theorem k_12_21 : cod 12 21 = some (.inl (.iconst 0), 1) := rfl
theorem k_12_22 : cod 12 22 = some (.inl .ireturn, 1) := rfl
theorem k_13_0 : cod 13 0 = some (.inl (.aload_n 0), 1) := rfl
theorem k_13_1 : cod 13 1 = some (.inl (.iload_n 1), 1) := rfl
theorem k_13_2 : cod 13 2 = some (.inr (17, 14, 2, 1, 0), 3) := rfl
theorem k_13_5 : cod 13 5 = some (.inl (.aload_n 0), 1) := rfl
theorem k_13_6 : cod 13 6 = some (.inr (0, 0, 1, 0, 0), 3) := rfl
theorem k_13_9 : cod 13 9 = some (.inr (17, 6, 1, 1, 8), 3) := rfl
theorem k_13_12 : cod 13 12 = some (.inl (.sipush 200), 3) := rfl
theorem k_13_15 : cod 13 15 = some (.inl (.if_icmp .lt 13), 3) := rfl
theorem k_13_18 : cod 13 18 = some (.inr (16, 11, 0, 0, 0), 10) := rfl
theorem k_13_28 : cod 13 28 = some (.inl (.aload_n 0), 1) := rfl
theorem k_13_29 : cod 13 29 = some (.inr (0, 0, 1, 0, 0), 3) := rfl
theorem k_13_32 : cod 13 32 = some (.inr (2, 3, 5, 0, 0), 3) := rfl
theorem k_13_35 : cod 13 35 = some (.inl .dup, 1) := rfl
theorem k_13_36 : cod 13 36 = some (.inl (.iload_n 1), 1) := rfl
theorem k_13_37 : cod 13 37 = some (.inl (.iload_n 2), 1) := rfl
theorem k_13_38 : cod 13 38 = some (.inr (17, 15, 3, 2, 0), 3) := rfl
theorem k_13_41 : cod 13 41 = some (.inr (17, 16, 2, 1, 8), 3) := rfl
theorem k_13_44 : cod 13 44 = some (.inl .pop, 1) := rfl
theorem k_13_45 : cod 13 45 = some (.inl (.aload_n 0), 1) := rfl
theorem k_13_46 : cod 13 46 = some (.inr (0, 0, 1, 0, 0), 3) := rfl
theorem k_13_49 : cod 13 49 = some (.inr (17, 6, 1, 1, 8), 3) := rfl
theorem k_13_52 : cod 13 52 = some (.inl (.iconst 1), 1) := rfl
theorem k_13_53 : cod 13 53 = some (.inl .isub, 1) := rfl
theorem k_13_54 : cod 13 54 = some (.inl .ireturn, 1) := rfl
theorem k_14_0 : cod 14 0 = some (.inl (.iload_n 1), 1) := rfl
theorem k_14_1 : cod 14 1 = some (.inl (.ifCond .lt 12), 3) := rfl
theorem k_14_4 : cod 14 4 = some (.inl (.iload_n 1), 1) := rfl
theorem k_14_5 : cod 14 5 = some (.inl (.aload_n 0), 1) := rfl
theorem k_14_6 : cod 14 6 = some (.inr (0, 0, 0, 0, 0), 3) := rfl
theorem k_14_9 : cod 14 9 = some (.inl .arraylength, 1) := rfl
theorem k_14_10 : cod 14 10 = some (.inl (.if_icmp .lt 13), 3) := rfl
theorem k_14_13 : cod 14 13 = some (.inr (16, 10, 0, 0, 0), 10) := rfl
theorem k_14_23 : cod 14 23 = some (.inl .return_, 1) := rfl
theorem k_15_0 : cod 15 0 = some (.inl (.aload_n 0), 1) := rfl
theorem k_15_1 : cod 15 1 = some (.inr (7, 0, 0, 0, 0), 3) := rfl
theorem k_15_4 : cod 15 4 = some (.inl (.aload_n 0), 1) := rfl
theorem k_15_5 : cod 15 5 = some (.inl (.iload_n 1), 1) := rfl
theorem k_15_6 : cod 15 6 = some (.inr (1, 3, 0, 0, 0), 3) := rfl
theorem k_15_9 : cod 15 9 = some (.inl (.aload_n 0), 1) := rfl
theorem k_15_10 : cod 15 10 = some (.inl (.iload_n 2), 1) := rfl
theorem k_15_11 : cod 15 11 = some (.inr (1, 3, 1, 1, 0), 3) := rfl
theorem k_15_14 : cod 15 14 = some (.inl (.aload_n 0), 1) := rfl
theorem k_15_15 : cod 15 15 = some (.inr (2, 8, 3, 0, 0), 3) := rfl
theorem k_15_18 : cod 15 18 = some (.inl .dup, 1) := rfl
theorem k_15_19 : cod 15 19 = some (.inr (17, 1, 1, 2, 0), 3) := rfl
theorem k_15_22 : cod 15 22 = some (.inr (1, 3, 2, 3, 0), 3) := rfl
theorem k_15_25 : cod 15 25 = some (.inl (.aload_n 0), 1) := rfl
theorem k_15_26 : cod 15 26 = some (.inr (2, 8, 3, 0, 0), 3) := rfl
theorem k_15_29 : cod 15 29 = some (.inl .dup, 1) := rfl
theorem k_15_30 : cod 15 30 = some (.inr (17, 1, 1, 2, 0), 3) := rfl
theorem k_15_33 : cod 15 33 = some (.inr (1, 3, 3, 3, 0), 3) := rfl
theorem k_15_36 : cod 15 36 = some (.inl (.aload_n 0), 1) := rfl
theorem k_15_37 : cod 15 37 = some (.inl (.iconst (-1)), 1) := rfl
theorem k_15_38 : cod 15 38 = some (.inr (1, 3, 4, 0, 0), 3) := rfl
theorem k_15_41 : cod 15 41 = some (.inl .return_, 1) := rfl
theorem k_16_0 : cod 16 0 = some (.inl (.aload_n 0), 1) := rfl
theorem k_16_1 : cod 16 1 = some (.inl .dup, 1) := rfl
theorem k_16_2 : cod 16 2 = some (.inr (0, 8, 2, 0, 0), 3) := rfl
theorem k_16_5 : cod 16 5 = some (.inl (.iconst 1), 1) := rfl
theorem k_16_6 : cod 16 6 = some (.inl .iadd, 1) := rfl
theorem k_16_7 : cod 16 7 = some (.inr (1, 8, 2, 0, 0), 3) := rfl
theorem k_16_10 : cod 16 10 = some (.inl (.aload_n 0), 1) := rfl
theorem k_16_11 : cod 16 11 = some (.inl (.aload_n 1), 1) := rfl
theorem k_16_12 : cod 16 12 = some (.inl (.aload_n 0), 1) := rfl
theorem k_16_13 : cod 16 13 = some (.inr (0, 8, 0, 0, 0), 3) := rfl
theorem k_16_16 : cod 16 16 = some (.inl (.aload_n 0), 1) := rfl
theorem k_16_17 : cod 16 17 = some (.inr (0, 8, 1, 0, 0), 3) := rfl
theorem k_16_20 : cod 16 20 = some (.inr (17, 17, 4, 1, 8), 3) := rfl
theorem k_16_23 : cod 16 23 = some (.inl (.iconst 1), 1) := rfl
theorem k_16_24 : cod 16 24 = some (.inl .ireturn, 1) := rfl
theorem k_17_0 : cod 17 0 = some (.inl (.iload_n 3), 1) := rfl
theorem k_17_1 : cod 17 1 = some (.inl (.aload_n 2), 1) := rfl
theorem k_17_2 : cod 17 2 = some (.inl .arraylength, 1) := rfl
theorem k_17_3 : cod 17 3 = some (.inl (.if_icmp .ne 8), 3) := rfl
theorem k_17_6 : cod 17 6 = some (.inl (.aload_n 0), 1) := rfl
theorem k_17_7 : cod 17 7 = some (.inr (17, 18, 1, 1, 8), 3) := rfl
theorem k_17_10 : cod 17 10 = some (.inl (.astore_n 2), 1) := rfl
theorem k_17_11 : cod 17 11 = some (.inl (.aload_n 2), 1) := rfl
theorem k_17_12 : cod 17 12 = some (.inl (.iload_n 3), 1) := rfl
theorem k_17_13 : cod 17 13 = some (.inl (.aload_n 1), 1) := rfl
theorem k_17_14 : cod 17 14 = some (.inl .aastore, 1) := rfl
theorem k_17_15 : cod 17 15 = some (.inl (.aload_n 0), 1) := rfl
theorem k_17_16 : cod 17 16 = some (.inl (.iload_n 3), 1) := rfl
theorem k_17_17 : cod 17 17 = some (.inl (.iconst 1), 1) := rfl
theorem k_17_18 : cod 17 18 = some (.inl .iadd, 1) := rfl
theorem k_17_19 : cod 17 19 = some (.inr (1, 8, 1, 0, 0), 3) := rfl
theorem k_17_22 : cod 17 22 = some (.inl .return_, 1) := rfl
theorem k_18_0 : cod 18 0 = some (.inl (.aload_n 0), 1) := rfl
theorem k_18_1 : cod 18 1 = some (.inl (.aload_n 0), 1) := rfl
theorem k_18_2 : cod 18 2 = some (.inr (0, 8, 1, 0, 0), 3) := rfl
theorem k_18_5 : cod 18 5 = some (.inl (.iconst 1), 1) := rfl
theorem k_18_6 : cod 18 6 = some (.inl .iadd, 1) := rfl
theorem k_18_7 : cod 18 7 = some (.inr (17, 19, 2, 1, 8), 3) := rfl
theorem k_18_10 : cod 18 10 = some (.inl .areturn, 1) := rfl
theorem k_19_0 : cod 19 0 = some (.inl (.aload_n 0), 1) := rfl
theorem k_19_1 : cod 19 1 = some (.inr (0, 8, 0, 0, 0), 3) := rfl
theorem k_19_4 : cod 19 4 = some (.inl .arraylength, 1) := rfl
theorem k_19_5 : cod 19 5 = some (.inl (.istore_n 2), 1) := rfl
theorem k_19_6 : cod 19 6 = some (.inl (.iload_n 2), 1) := rfl
theorem k_19_7 : cod 19 7 = some (.inl (.ifCond .gt 13), 3) := rfl
theorem k_19_10 : cod 19 10 = some (.inl (.aload_n 0), 1) := rfl
theorem k_19_11 : cod 19 11 = some (.inr (0, 8, 0, 0, 0), 3) := rfl
theorem k_19_14 : cod 19 14 = some (.inr (6, 0, 0, 0, 0), 3) := rfl
theorem k_19_17 : cod 19 17 = some (.inl (.if_acmp .eq 28), 3) := rfl
theorem k_19_20 : cod 19 20 = some (.inl (.iload_n 2), 1) := rfl
theorem k_19_21 : cod 19 21 = some (.inl (.iload_n 1), 1) := rfl
theorem k_19_22 : cod 19 22 = some (.inl (.iload_n 2), 1) := rfl
theorem k_19_23 : cod 19 23 = some (.inl .isub, 1) := rfl
theorem k_19_24 : cod 19 24 = some (.inl (.iload_n 2), 1) := rfl
theorem k_19_25 : cod 19 25 = some (.inl (.iconst 1), 1) := rfl
theorem k_19_26 : cod 19 26 = some (.inl .ishr, 1) := rfl
theorem k_19_27 : cod 19 27 = some (.inr (17, 20, 3, 0, 0), 3) := rfl
theorem k_19_30 : cod 19 30 = some (.inl (.istore_n 3), 1) := rfl
theorem k_19_31 : cod 19 31 = some (.inl (.aload_n 0), 1) := rfl
theorem k_19_32 : cod 19 32 = some (.inl (.aload_n 0), 1) := rfl
theorem k_19_33 : cod 19 33 = some (.inr (0, 8, 0, 0, 0), 3) := rfl
theorem k_19_36 : cod 19 36 = some (.inl (.iload_n 3), 1) := rfl
theorem k_19_37 : cod 19 37 = some (.inr (17, 21, 2, 0, 0), 3) := rfl
theorem k_19_40 : cod 19 40 = some (.inl .dup_x1, 1) := rfl
theorem k_19_41 : cod 19 41 = some (.inr (1, 8, 0, 3, 0), 3) := rfl
theorem k_19_44 : cod 19 44 = some (.inl .areturn, 1) := rfl
theorem k_19_45 : cod 19 45 = some (.inl (.aload_n 0), 1) := rfl
theorem k_19_46 : cod 19 46 = some (.inl (.bipush 10), 2) := rfl
theorem k_19_48 : cod 19 48 = some (.inl (.iload_n 1), 1) := rfl
theorem k_19_49 : cod 19 49 = some (.inr (11, 0, 0, 0, 0), 3) := rfl
theorem k_19_52 : cod 19 52 = some (.inr (3, 4, 0, 0, 0), 3) := rfl
theorem k_19_55 : cod 19 55 = some (.inl .dup_x1, 1) := rfl
theorem k_19_56 : cod 19 56 = some (.inr (1, 8, 0, 3, 0), 3) := rfl
theorem k_19_59 : cod 19 59 = some (.inl .areturn, 1) := rfl
theorem k_20_0 : cod 20 0 = some (.inl (.iload_n 0), 1) := rfl
theorem k_20_1 : cod 20 1 = some (.inl (.iload_n 1), 1) := rfl
theorem k_20_2 : cod 20 2 = some (.inl (.iload_n 2), 1) := rfl
theorem k_20_3 : cod 20 3 = some (.inr (11, 0, 0, 0, 0), 3) := rfl
theorem k_20_6 : cod 20 6 = some (.inl .iadd, 1) := rfl
theorem k_20_7 : cod 20 7 = some (.inl (.istore_n 3), 1) := rfl
theorem k_20_8 : cod 20 8 = some (.inl (.iconst 0), 1) := rfl
theorem k_20_9 : cod 20 9 = some (.inl (.iload_n 3), 1) := rfl
theorem k_20_10 : cod 20 10 = some (.inl (.if_icmp .ge 11), 3) := rfl
theorem k_20_13 : cod 20 13 = some (.inl (.iload_n 3), 1) := rfl
theorem k_20_14 : cod 20 14 = some (.inr (18, 2147483639, 0, 0, 0), 2) := rfl
theorem k_20_16 : cod 20 16 = some (.inl (.if_icmp .gt 5), 3) := rfl
theorem k_20_19 : cod 20 19 = some (.inl (.iload_n 3), 1) := rfl
theorem k_20_20 : cod 20 20 = some (.inl .ireturn, 1) := rfl
theorem k_20_21 : cod 20 21 = some (.inl (.iload_n 0), 1) := rfl
theorem k_20_22 : cod 20 22 = some (.inl (.iload_n 1), 1) := rfl
theorem k_20_26 : cod 20 26 = some (.inl .ireturn, 1) := rfl
theorem k_21_0 : cod 21 0 = some (.inl (.aload_n 0), 1) := rfl
theorem k_21_1 : cod 21 1 = some (.inl (.iload_n 1), 1) := rfl
theorem k_21_2 : cod 21 2 = some (.inl (.aload_n 0), 1) := rfl
theorem k_21_3 : cod 21 3 = some (.inr (13, 0, 0, 0, 0), 3) := rfl
theorem k_21_6 : cod 21 6 = some (.inr (17, 22, 3, 0, 0), 3) := rfl
theorem k_21_9 : cod 21 9 = some (.inl .areturn, 1) := rfl
theorem k_22_0 : cod 22 0 = some (.inl (.aload_n 2), 1) := rfl
theorem k_22_1 : cod 22 1 = some (.inr (14, 0, 0, 0, 0), 2) := rfl
theorem k_22_3 : cod 22 3 = some (.inl (.if_acmp .ne 10), 3) := rfl
theorem k_22_6 : cod 22 6 = some (.inl (.iload_n 1), 1) := rfl
theorem k_22_7 : cod 22 7 = some (.inr (3, 4, 0, 0, 0), 3) := rfl
theorem k_22_10 : cod 22 10 = some (.inl (.goto 14), 3) := rfl
theorem k_22_13 : cod 22 13 = some (.inl (.aload_n 2), 1) := rfl
theorem k_22_17 : cod 22 17 = some (.inl (.iload_n 1), 1) := rfl
theorem k_22_21 : cod 22 21 = some (.inr (5, 4, 0, 0, 0), 3) := rfl
theorem k_22_24 : cod 22 24 = some (.inl (.astore_n 3), 1) := rfl
theorem k_22_25 : cod 22 25 = some (.inl (.aload_n 0), 1) := rfl
theorem k_22_26 : cod 22 26 = some (.inl (.iconst 0), 1) := rfl
theorem k_22_27 : cod 22 27 = some (.inl (.aload_n 3), 1) := rfl
theorem k_22_28 : cod 22 28 = some (.inl (.iconst 0), 1) := rfl
theorem k_22_29 : cod 22 29 = some (.inl (.aload_n 0), 1) := rfl
theorem k_22_30 : cod 22 30 = some (.inl .arraylength, 1) := rfl
theorem k_22_31 : cod 22 31 = some (.inl (.iload_n 1), 1) := rfl
theorem k_22_32 : cod 22 32 = some (.inr (12, 0, 0, 0, 0), 3) := rfl
theorem k_22_35 : cod 22 35 = some (.inr (9, 0, 0, 0, 0), 3) := rfl
theorem k_22_38 : cod 22 38 = some (.inl (.aload_n 3), 1) := rfl
theorem k_22_39 : cod 22 39 = some (.inl .areturn, 1) := rfl
theorem k_23_0 : cod 23 0 = some (.inl (.aload_n 2), 1) := rfl
theorem k_23_1 : cod 23 1 = some (.inl (.iconst 0), 1) := rfl
theorem k_23_2 : cod 23 2 = some (.inl (.aload_n 0), 1) := rfl
theorem k_23_3 : cod 23 3 = some (.inl (.iload_n 1), 1) := rfl
theorem k_23_4 : cod 23 4 = some (.inr (17, 24, 2, 1, 0), 3) := rfl
theorem k_23_7 : cod 23 7 = some (.inl .i2l, 1) := rfl
theorem k_23_8 : cod 23 8 = some (.inl .lastore, 1) := rfl
theorem k_23_9 : cod 23 9 = some (.inl (.goto 9), 3) := rfl
theorem k_23_12 : cod 23 12 = some (.inl (.astore_n 3), 1) := rfl
theorem k_23_13 : cod 23 13 = some (.inl (.iconst 1), 1) := rfl
theorem k_23_14 : cod 23 14 = some (.inl .ireturn, 1) := rfl
theorem k_23_15 : cod 23 15 = some (.inl (.astore_n 3), 1) := rfl
theorem k_23_16 : cod 23 16 = some (.inl (.iconst 2), 1) := rfl
theorem k_23_17 : cod 23 17 = some (.inl .ireturn, 1) := rfl
theorem k_23_18 : cod 23 18 = some (.inl (.iconst 0), 1) := rfl
theorem k_23_19 : cod 23 19 = some (.inl .ireturn, 1) := rfl
theorem k_24_0 : cod 24 0 = some (.inl (.aload_n 0), 1) := rfl
theorem k_24_1 : cod 24 1 = some (.inl (.iload_n 1), 1) := rfl
theorem k_24_2 : cod 24 2 = some (.inr (17, 14, 2, 1, 0), 3) := rfl
theorem k_24_5 : cod 24 5 = some (.inl (.aload_n 0), 1) := rfl
theorem k_24_6 : cod 24 6 = some (.inr (0, 0, 2, 0, 0), 3) := rfl
theorem k_24_9 : cod 24 9 = some (.inr (17, 6, 1, 1, 8), 3) := rfl
theorem k_24_12 : cod 24 12 = some (.inl (.istore_n 2), 1) := rfl
theorem k_24_13 : cod 24 13 = some (.inl (.iload_n 2), 1) := rfl
theorem k_24_14 : cod 24 14 = some (.inl (.sipush 500), 3) := rfl
theorem k_24_17 : cod 24 17 = some (.inl (.if_icmp .lt 13), 3) := rfl
theorem k_24_20 : cod 24 20 = some (.inr (16, 11, 0, 0, 0), 10) := rfl
theorem k_24_30 : cod 24 30 = some (.inl (.aload_n 0), 1) := rfl
theorem k_24_31 : cod 24 31 = some (.inr (0, 0, 2, 0, 0), 3) := rfl
theorem k_24_34 : cod 24 34 = some (.inr (2, 4, 8, 0, 0), 3) := rfl
theorem k_24_37 : cod 24 37 = some (.inl .dup, 1) := rfl
theorem k_24_38 : cod 24 38 = some (.inl (.iload_n 2), 1) := rfl
theorem k_24_39 : cod 24 39 = some (.inl (.iload_n 1), 1) := rfl
theorem k_24_40 : cod 24 40 = some (.inl (.aload_n 0), 1) := rfl
theorem k_24_41 : cod 24 41 = some (.inr (0, 0, 0, 0, 0), 3) := rfl
theorem k_24_44 : cod 24 44 = some (.inl (.iload_n 1), 1) := rfl
theorem k_24_45 : cod 24 45 = some (.inl .aaload, 1) := rfl
theorem k_24_46 : cod 24 46 = some (.inr (0, 2, 1, 0, 0), 3) := rfl
theorem k_24_49 : cod 24 49 = some (.inr (17, 25, 4, 2, 0), 3) := rfl
theorem k_24_52 : cod 24 52 = some (.inr (17, 16, 2, 1, 8), 3) := rfl
theorem k_24_55 : cod 24 55 = some (.inl .pop, 1) := rfl
theorem k_24_56 : cod 24 56 = some (.inl (.iload_n 2), 1) := rfl
theorem k_24_57 : cod 24 57 = some (.inl .ireturn, 1) := rfl
theorem k_25_0 : cod 25 0 = some (.inl (.aload_n 0), 1) := rfl
theorem k_25_1 : cod 25 1 = some (.inr (7, 0, 0, 0, 0), 3) := rfl
theorem k_25_4 : cod 25 4 = some (.inl (.aload_n 0), 1) := rfl
theorem k_25_5 : cod 25 5 = some (.inl (.iload_n 1), 1) := rfl
theorem k_25_6 : cod 25 6 = some (.inr (1, 4, 0, 0, 0), 3) := rfl
theorem k_25_9 : cod 25 9 = some (.inl (.aload_n 0), 1) := rfl
theorem k_25_10 : cod 25 10 = some (.inl (.iload_n 2), 1) := rfl
theorem k_25_11 : cod 25 11 = some (.inr (1, 4, 1, 0, 0), 3) := rfl
theorem k_25_14 : cod 25 14 = some (.inl (.aload_n 0), 1) := rfl
theorem k_25_15 : cod 25 15 = some (.inl (.aload_n 3), 1) := rfl
theorem k_25_16 : cod 25 16 = some (.inr (10, 0, 0, 0, 0), 3) := rfl
theorem k_25_19 : cod 25 19 = some (.inr (5, 0, 0, 0, 0), 3) := rfl
theorem k_25_22 : cod 25 22 = some (.inr (1, 4, 2, 3, 0), 3) := rfl
theorem k_25_25 : cod 25 25 = some (.inl (.aload_n 0), 1) := rfl
theorem k_25_26 : cod 25 26 = some (.inr (2, 8, 3, 0, 0), 3) := rfl
theorem k_25_29 : cod 25 29 = some (.inl .dup, 1) := rfl
theorem k_25_30 : cod 25 30 = some (.inr (17, 1, 1, 2, 0), 3) := rfl
theorem k_25_33 : cod 25 33 = some (.inr (1, 4, 3, 3, 0), 3) := rfl
theorem k_25_36 : cod 25 36 = some (.inl (.aload_n 0), 1) := rfl
theorem k_25_37 : cod 25 37 = some (.inr (2, 8, 3, 0, 0), 3) := rfl
theorem k_25_40 : cod 25 40 = some (.inl .dup, 1) := rfl
theorem k_25_41 : cod 25 41 = some (.inr (17, 1, 1, 2, 0), 3) := rfl
theorem k_25_44 : cod 25 44 = some (.inr (1, 4, 4, 3, 0), 3) := rfl
theorem k_25_47 : cod 25 47 = some (.inl (.aload_n 0), 1) := rfl
theorem k_25_48 : cod 25 48 = some (.inl (.iconst 0), 1) := rfl
theorem k_25_49 : cod 25 49 = some (.inr (1, 4, 5, 0, 0), 3) := rfl
theorem k_25_52 : cod 25 52 = some (.inl .return_, 1) := rfl
theorem k_26_0 : cod 26 0 = some (.inl (.aload_n 3), 1) := rfl
theorem k_26_1 : cod 26 1 = some (.inl (.iconst 0), 1) := rfl
theorem k_26_2 : cod 26 2 = some (.inl (.aload_n 0), 1) := rfl
theorem k_26_3 : cod 26 3 = some (.inl (.iload_n 1), 1) := rfl
theorem k_26_4 : cod 26 4 = some (.inl (.iload_n 2), 1) := rfl
theorem k_26_5 : cod 26 5 = some (.inr (17, 27, 3, 1, 0), 3) := rfl
theorem k_26_8 : cod 26 8 = some (.inl .lastore, 1) := rfl
theorem k_26_9 : cod 26 9 = some (.inl (.goto 11), 3) := rfl
theorem k_26_12 : cod 26 12 = some (.inl (.astore 4), 2) := rfl
theorem k_26_14 : cod 26 14 = some (.inl (.iconst 1), 1) := rfl
theorem k_26_15 : cod 26 15 = some (.inl .ireturn, 1) := rfl
theorem k_26_16 : cod 26 16 = some (.inl (.astore 4), 2) := rfl
theorem k_26_18 : cod 26 18 = some (.inl (.iconst 2), 1) := rfl
theorem k_26_19 : cod 26 19 = some (.inl .ireturn, 1) := rfl
theorem k_26_20 : cod 26 20 = some (.inl (.iconst 0), 1) := rfl
theorem k_26_21 : cod 26 21 = some (.inl .ireturn, 1) := rfl
theorem k_27_0 : cod 27 0 = some (.inl (.aload_n 0), 1) := rfl
theorem k_27_1 : cod 27 1 = some (.inl (.iload_n 1), 1) := rfl
theorem k_27_2 : cod 27 2 = some (.inr (17, 28, 2, 1, 0), 3) := rfl
theorem k_27_5 : cod 27 5 = some (.inl (.astore_n 3), 1) := rfl
theorem k_27_6 : cod 27 6 = some (.inl (.aload_n 0), 1) := rfl
theorem k_27_7 : cod 27 7 = some (.inl (.iload_n 2), 1) := rfl
theorem k_27_8 : cod 27 8 = some (.inr (17, 33, 2, 1, 0), 3) := rfl
theorem k_27_11 : cod 27 11 = some (.inl (.astore 4), 2) := rfl
theorem k_27_13 : cod 27 13 = some (.inl (.aload_n 0), 1) := rfl
theorem k_27_14 : cod 27 14 = some (.inl (.aload_n 3), 1) := rfl
theorem k_27_15 : cod 27 15 = some (.inr (17, 35, 2, 1, 0), 3) := rfl
theorem k_27_18 : cod 27 18 = some (.inl (.aload_n 3), 1) := rfl
theorem k_27_19 : cod 27 19 = some (.inl (.aload 4), 2) := rfl
theorem k_27_21 : cod 27 21 = some (.inr (17, 36, 2, 1, 4), 3) := rfl
theorem k_27_24 : cod 27 24 = some (.inl .lreturn, 1) := rfl
theorem k_28_0 : cod 28 0 = some (.inl (.iload_n 1), 1) := rfl
theorem k_28_1 : cod 28 1 = some (.inl (.ifCond .lt 14), 3) := rfl
theorem k_28_4 : cod 28 4 = some (.inl (.iload_n 1), 1) := rfl
theorem k_28_5 : cod 28 5 = some (.inl (.aload_n 0), 1) := rfl
theorem k_28_6 : cod 28 6 = some (.inr (0, 0, 2, 0, 0), 3) := rfl
theorem k_28_9 : cod 28 9 = some (.inr (17, 6, 1, 1, 8), 3) := rfl
theorem k_28_12 : cod 28 12 = some (.inl (.if_icmp .lt 13), 3) := rfl
theorem k_28_15 : cod 28 15 = some (.inr (16, 10, 0, 0, 0), 10) := rfl
theorem k_28_25 : cod 28 25 = some (.inl (.aload_n 0), 1) := rfl
theorem k_28_26 : cod 28 26 = some (.inr (0, 0, 2, 0, 0), 3) := rfl
theorem k_28_29 : cod 28 29 = some (.inl (.iload_n 1), 1) := rfl
theorem k_28_30 : cod 28 30 = some (.inr (17, 29, 2, 1, 8), 3) := rfl
theorem k_28_33 : cod 28 33 = some (.inr (4, 4, 0, 0, 0), 3) := rfl
theorem k_28_36 : cod 28 36 = some (.inl .areturn, 1) := rfl
theorem k_29_0 : cod 29 0 = some (.inl (.iload_n 1), 1) := rfl
theorem k_29_1 : cod 29 1 = some (.inl (.aload_n 0), 1) := rfl
theorem k_29_2 : cod 29 2 = some (.inr (0, 8, 1, 0, 0), 3) := rfl
theorem k_29_5 : cod 29 5 = some (.inr (17, 30, 2, 0, 0), 3) := rfl
theorem k_29_8 : cod 29 8 = some (.inl .pop, 1) := rfl
theorem k_29_9 : cod 29 9 = some (.inl (.aload_n 0), 1) := rfl
theorem k_29_10 : cod 29 10 = some (.inl (.iload_n 1), 1) := rfl
theorem k_29_11 : cod 29 11 = some (.inr (17, 32, 2, 1, 8), 3) := rfl
theorem k_29_14 : cod 29 14 = some (.inl .areturn, 1) := rfl
theorem k_30_0 : cod 30 0 = some (.inl (.iload_n 0), 1) := rfl
theorem k_30_1 : cod 30 1 = some (.inl (.iload_n 1), 1) := rfl
theorem k_30_2 : cod 30 2 = some (.inl .aconst_null, 1) := rfl
theorem k_30_3 : cod 30 3 = some (.inr (17, 31, 3, 0, 0), 3) := rfl
theorem k_30_6 : cod 30 6 = some (.inl .ireturn, 1) := rfl
theorem k_31_0 : cod 31 0 = some (.inl (.iload_n 0), 1) := rfl
theorem k_31_1 : cod 31 1 = some (.inl (.ifCond .lt 8), 3) := rfl
theorem k_31_4 : cod 31 4 = some (.inl (.iload_n 0), 1) := rfl
theorem k_31_5 : cod 31 5 = some (.inl (.iload_n 1), 1) := rfl
theorem k_31_6 : cod 31 6 = some (.inl (.if_icmp .lt 10), 3) := rfl
theorem k_31_9 : cod 31 9 = some (.inl (.aload_n 2), 1) := rfl
theorem k_31_10 : cod 31 10 = some (.inl (.iload_n 0), 1) := rfl
theorem k_31_11 : cod 31 11 = some (.inl (.iload_n 1), 1) := rfl
theorem k_31_16 : cod 31 16 = some (.inl (.iload_n 0), 1) := rfl
theorem k_31_17 : cod 31 17 = some (.inl .ireturn, 1) := rfl
theorem k_32_0 : cod 32 0 = some (.inl (.aload_n 0), 1) := rfl
theorem k_32_1 : cod 32 1 = some (.inr (0, 8, 0, 0, 0), 3) := rfl
theorem k_32_4 : cod 32 4 = some (.inl (.iload_n 1), 1) := rfl
theorem k_32_5 : cod 32 5 = some (.inl .aaload, 1) := rfl
theorem k_32_6 : cod 32 6 = some (.inl .areturn, 1) := rfl
theorem k_33_0 : cod 33 0 = some (.inl (.aload_n 0), 1) := rfl
theorem k_33_1 : cod 33 1 = some (.inl (.iload_n 1), 1) := rfl
theorem k_33_2 : cod 33 2 = some (.inr (17, 34, 2, 1, 0), 3) := rfl
theorem k_33_5 : cod 33 5 = some (.inl (.astore_n 2), 1) := rfl
theorem k_33_6 : cod 33 6 = some (.inl (.aload_n 2), 1) := rfl
theorem k_33_7 : cod 33 7 = some (.inr (0, 3, 1, 0, 0), 3) := rfl
theorem k_33_10 : cod 33 10 = some (.inl (.ifCond .eq 13), 3) := rfl
theorem k_33_13 : cod 33 13 = some (.inr (16, 10, 0, 0, 0), 10) := rfl
theorem k_33_23 : cod 33 23 = some (.inl (.aload_n 2), 1) := rfl
theorem k_33_24 : cod 33 24 = some (.inl .areturn, 1) := rfl
theorem k_34_0 : cod 34 0 = some (.inl (.iload_n 1), 1) := rfl
theorem k_34_1 : cod 34 1 = some (.inl (.ifCond .lt 14), 3) := rfl
theorem k_34_4 : cod 34 4 = some (.inl (.iload_n 1), 1) := rfl
theorem k_34_5 : cod 34 5 = some (.inl (.aload_n 0), 1) := rfl
theorem k_34_6 : cod 34 6 = some (.inr (0, 0, 1, 0, 0), 3) := rfl
theorem k_34_9 : cod 34 9 = some (.inr (17, 6, 1, 1, 8), 3) := rfl
theorem k_34_12 : cod 34 12 = some (.inl (.if_icmp .lt 13), 3) := rfl
theorem k_34_15 : cod 34 15 = some (.inr (16, 10, 0, 0, 0), 10) := rfl
theorem k_34_25 : cod 34 25 = some (.inl (.aload_n 0), 1) := rfl
theorem k_34_26 : cod 34 26 = some (.inr (0, 0, 1, 0, 0), 3) := rfl
theorem k_34_29 : cod 34 29 = some (.inl (.iload_n 1), 1) := rfl
theorem k_34_30 : cod 34 30 = some (.inr (17, 29, 2, 1, 8), 3) := rfl
theorem k_34_33 : cod 34 33 = some (.inr (4, 3, 0, 0, 0), 3) := rfl
theorem k_34_36 : cod 34 36 = some (.inl .areturn, 1) := rfl
theorem k_35_0 : cod 35 0 = some (.inl (.aload_n 1), 1) := rfl
theorem k_35_1 : cod 35 1 = some (.inr (0, 4, 5, 0, 0), 3) := rfl
theorem k_35_4 : cod 35 4 = some (.inl (.ifCond .eq 13), 3) := rfl
theorem k_35_7 : cod 35 7 = some (.inr (16, 11, 0, 0, 0), 10) := rfl
theorem k_35_17 : cod 35 17 = some (.inl .return_, 1) := rfl
theorem k_36_0 : cod 36 0 = some (.inl (.aload_n 0), 1) := rfl
theorem k_36_1 : cod 36 1 = some (.inl (.aload_n 1), 1) := rfl
theorem k_36_2 : cod 36 2 = some (.inr (17, 37, 2, 1, 4), 3) := rfl
theorem k_36_5 : cod 36 5 = some (.inl (.astore_n 2), 1) := rfl
theorem k_36_6 : cod 36 6 = some (.inl (.aload_n 2), 1) := rfl
theorem k_36_7 : cod 36 7 = some (.inl (.ifnull 8), 3) := rfl
theorem k_36_10 : cod 36 10 = some (.inl (.aload_n 2), 1) := rfl
theorem k_36_11 : cod 36 11 = some (.inr (0, 5, 2, 0, 0), 3) := rfl
theorem k_36_14 : cod 36 14 = some (.inl .lreturn, 1) := rfl
theorem k_36_15 : cod 36 15 = some (.inl (.aload_n 1), 1) := rfl
theorem k_36_16 : cod 36 16 = some (.inr (0, 3, 2, 0, 0), 3) := rfl
theorem k_36_19 : cod 36 19 = some (.inr (17, 6, 1, 1, 8), 3) := rfl
theorem k_36_22 : cod 36 22 = some (.inl (.iconst 1), 1) := rfl
theorem k_36_23 : cod 36 23 = some (.inl .isub, 1) := rfl
theorem k_36_24 : cod 36 24 = some (.inl (.istore_n 3), 1) := rfl
theorem k_36_25 : cod 36 25 = some (.inl (.iload_n 3), 1) := rfl
theorem k_36_26 : cod 36 26 = some (.inl (.ifCond .lt 40), 3) := rfl
theorem k_36_29 : cod 36 29 = some (.inl (.aload_n 1), 1) := rfl
theorem k_36_30 : cod 36 30 = some (.inr (0, 3, 2, 0, 0), 3) := rfl
theorem k_36_33 : cod 36 33 = some (.inl (.iload_n 3), 1) := rfl
theorem k_36_34 : cod 36 34 = some (.inr (17, 29, 2, 1, 8), 3) := rfl
theorem k_36_37 : cod 36 37 = some (.inr (4, 5, 0, 0, 0), 3) := rfl
theorem k_36_40 : cod 36 40 = some (.inl (.astore 4), 2) := rfl
theorem k_36_42 : cod 36 42 = some (.inl (.aload_n 0), 1) := rfl
theorem k_36_43 : cod 36 43 = some (.inl (.aload 4), 2) := rfl
theorem k_36_45 : cod 36 45 = some (.inr (0, 5, 0, 0, 0), 3) := rfl
theorem k_36_48 : cod 36 48 = some (.inr (17, 38, 2, 1, 4), 3) := rfl
theorem k_36_51 : cod 36 51 = some (.inl (.ifCond .eq 9), 3) := rfl
theorem k_36_54 : cod 36 54 = some (.inl (.aload 4), 2) := rfl
theorem k_36_56 : cod 36 56 = some (.inr (0, 5, 2, 0, 0), 3) := rfl
theorem k_36_59 : cod 36 59 = some (.inl .lreturn, 1) := rfl
theorem k_36_60 : cod 36 60 = some (.inl (.iinc 3 (-1)), 3) := rfl
theorem k_36_63 : cod 36 63 = some (.inl (.goto (-38)), 3) := rfl
theorem k_36_66 : cod 36 66 = some (.inl (.lconst 0), 1) := rfl
theorem k_36_67 : cod 36 67 = some (.inl .lreturn, 1) := rfl
theorem k_37_0 : cod 37 0 = some (.inl (.iconst 0), 1) := rfl
theorem k_37_1 : cod 37 1 = some (.inl (.istore_n 2), 1) := rfl
theorem k_37_2 : cod 37 2 = some (.inl (.iload_n 2), 1) := rfl
theorem k_37_3 : cod 37 3 = some (.inl (.aload_n 0), 1) := rfl
theorem k_37_4 : cod 37 4 = some (.inr (0, 4, 3, 0, 0), 3) := rfl
theorem k_37_7 : cod 37 7 = some (.inr (17, 6, 1, 1, 8), 3) := rfl
theorem k_37_10 : cod 37 10 = some (.inl (.if_icmp .ge 39), 3) := rfl
theorem k_37_13 : cod 37 13 = some (.inl (.aload_n 0), 1) := rfl
theorem k_37_14 : cod 37 14 = some (.inr (0, 4, 3, 0, 0), 3) := rfl
theorem k_37_17 : cod 37 17 = some (.inl (.iload_n 2), 1) := rfl
theorem k_37_18 : cod 37 18 = some (.inr (17, 29, 2, 1, 8), 3) := rfl
theorem k_37_21 : cod 37 21 = some (.inr (4, 5, 0, 0, 0), 3) := rfl
theorem k_37_24 : cod 37 24 = some (.inr (0, 5, 1, 0, 0), 3) := rfl
theorem k_37_27 : cod 37 27 = some (.inl (.aload_n 1), 1) := rfl
theorem k_37_28 : cod 37 28 = some (.inl (.if_acmp .ne 15), 3) := rfl
theorem k_37_31 : cod 37 31 = some (.inl (.aload_n 0), 1) := rfl
theorem k_37_32 : cod 37 32 = some (.inr (0, 4, 3, 0, 0), 3) := rfl
theorem k_37_35 : cod 37 35 = some (.inl (.iload_n 2), 1) := rfl
theorem k_37_36 : cod 37 36 = some (.inr (17, 29, 2, 1, 8), 3) := rfl
theorem k_37_39 : cod 37 39 = some (.inr (4, 5, 0, 0, 0), 3) := rfl
theorem k_37_42 : cod 37 42 = some (.inl .areturn, 1) := rfl
theorem k_37_43 : cod 37 43 = some (.inl (.iinc 2 1), 3) := rfl
theorem k_37_46 : cod 37 46 = some (.inl (.goto (-44)), 3) := rfl
theorem k_37_49 : cod 37 49 = some (.inl .aconst_null, 1) := rfl
theorem k_37_50 : cod 37 50 = some (.inl .areturn, 1) := rfl
theorem k_38_0 : cod 38 0 = some (.inl (.aload_n 1), 1) := rfl
theorem k_38_1 : cod 38 1 = some (.inr (0, 4, 6, 0, 0), 3) := rfl
theorem k_38_4 : cod 38 4 = some (.inl (.ifCond .le 23), 3) := rfl
theorem k_38_7 : cod 38 7 = some (.inl (.aload_n 1), 1) := rfl
theorem k_38_8 : cod 38 8 = some (.inr (0, 4, 6, 0, 0), 3) := rfl
theorem k_38_11 : cod 38 11 = some (.inl (.aload_n 0), 1) := rfl
theorem k_38_12 : cod 38 12 = some (.inr (0, 4, 2, 0, 0), 3) := rfl
theorem k_38_15 : cod 38 15 = some (.inl (.aload_n 1), 1) := rfl
theorem k_38_16 : cod 38 16 = some (.inr (0, 4, 1, 0, 0), 3) := rfl
theorem k_38_19 : cod 38 19 = some (.inl .iaload, 1) := rfl
theorem k_38_20 : cod 38 20 = some (.inl (.if_icmp .gt 7), 3) := rfl
theorem k_38_23 : cod 38 23 = some (.inl (.iconst 1), 1) := rfl
theorem k_38_24 : cod 38 24 = some (.inl (.goto 4), 3) := rfl
theorem k_38_27 : cod 38 27 = some (.inl (.iconst 0), 1) := rfl
theorem k_38_28 : cod 38 28 = some (.inl .ireturn, 1) := rfl
theorem k_39_0 : cod 39 0 = some (.inl (.aload_n 0), 1) := rfl
theorem k_39_1 : cod 39 1 = some (.inl (.iload_n 1), 1) := rfl
theorem k_39_2 : cod 39 2 = some (.inl (.iload_n 2), 1) := rfl
theorem k_39_3 : cod 39 3 = some (.inl (.lload_n 3), 1) := rfl
theorem k_39_4 : cod 39 4 = some (.inr (17, 40, 4, 1, 0), 3) := rfl
theorem k_39_7 : cod 39 7 = some (.inl (.goto 11), 3) := rfl
theorem k_39_10 : cod 39 10 = some (.inl (.astore 5), 2) := rfl
theorem k_39_12 : cod 39 12 = some (.inl (.iconst 1), 1) := rfl
theorem k_39_13 : cod 39 13 = some (.inl .ireturn, 1) := rfl
theorem k_39_14 : cod 39 14 = some (.inl (.astore 5), 2) := rfl
theorem k_39_16 : cod 39 16 = some (.inl (.iconst 2), 1) := rfl
theorem k_39_17 : cod 39 17 = some (.inl .ireturn, 1) := rfl
theorem k_39_18 : cod 39 18 = some (.inl (.iconst 0), 1) := rfl
theorem k_39_19 : cod 39 19 = some (.inl .ireturn, 1) := rfl
theorem k_40_0 : cod 40 0 = some (.inl (.aload_n 0), 1) := rfl
theorem k_40_1 : cod 40 1 = some (.inl (.iload_n 1), 1) := rfl
theorem k_40_2 : cod 40 2 = some (.inr (17, 28, 2, 1, 0), 3) := rfl
theorem k_40_5 : cod 40 5 = some (.inl (.astore 5), 2) := rfl
theorem k_40_7 : cod 40 7 = some (.inl (.aload_n 0), 1) := rfl
theorem k_40_8 : cod 40 8 = some (.inl (.iload_n 2), 1) := rfl
theorem k_40_9 : cod 40 9 = some (.inr (17, 33, 2, 1, 0), 3) := rfl
theorem k_40_12 : cod 40 12 = some (.inl (.astore 6), 2) := rfl
theorem k_40_14 : cod 40 14 = some (.inl (.aload_n 0), 1) := rfl
theorem k_40_15 : cod 40 15 = some (.inl (.aload 5), 2) := rfl
theorem k_40_17 : cod 40 17 = some (.inr (17, 35, 2, 1, 0), 3) := rfl
theorem k_40_20 : cod 40 20 = some (.inl (.aload 5), 2) := rfl
theorem k_40_22 : cod 40 22 = some (.inl (.aload 6), 2) := rfl
theorem k_40_24 : cod 40 24 = some (.inl (.lload_n 3), 1) := rfl
theorem k_40_25 : cod 40 25 = some (.inr (17, 41, 3, 1, 4), 3) := rfl
theorem k_40_28 : cod 40 28 = some (.inl .return_, 1) := rfl
theorem k_41_0 : cod 41 0 = some (.inl (.aload_n 0), 1) := rfl
theorem k_41_1 : cod 41 1 = some (.inl (.aload_n 1), 1) := rfl
theorem k_41_2 : cod 41 2 = some (.inr (17, 37, 2, 1, 4), 3) := rfl
theorem k_41_5 : cod 41 5 = some (.inl (.astore 4), 2) := rfl
theorem k_41_7 : cod 41 7 = some (.inl (.aload 4), 2) := rfl
theorem k_41_9 : cod 41 9 = some (.inl (.ifnonnull 24), 3) := rfl
theorem k_41_12 : cod 41 12 = some (.inl (.aload_n 0), 1) := rfl
theorem k_41_13 : cod 41 13 = some (.inr (0, 4, 3, 0, 0), 3) := rfl
theorem k_41_16 : cod 41 16 = some (.inr (2, 5, 3, 0, 0), 3) := rfl
theorem k_41_19 : cod 41 19 = some (.inl .dup, 1) := rfl
theorem k_41_20 : cod 41 20 = some (.inl (.aload_n 0), 1) := rfl
theorem k_41_21 : cod 41 21 = some (.inl (.aload_n 1), 1) := rfl
theorem k_41_22 : cod 41 22 = some (.inl (.lload_n 2), 1) := rfl
theorem k_41_23 : cod 41 23 = some (.inr (17, 42, 4, 2, 0), 3) := rfl
theorem k_41_26 : cod 41 26 = some (.inr (17, 16, 2, 1, 8), 3) := rfl
theorem k_41_29 : cod 41 29 = some (.inl .pop, 1) := rfl
theorem k_41_30 : cod 41 30 = some (.inl (.goto 9), 3) := rfl
theorem k_41_33 : cod 41 33 = some (.inl (.aload 4), 2) := rfl
theorem k_41_35 : cod 41 35 = some (.inl (.lload_n 2), 1) := rfl
theorem k_41_36 : cod 41 36 = some (.inr (1, 5, 2, 2, 0), 3) := rfl
theorem k_41_39 : cod 41 39 = some (.inl .return_, 1) := rfl
theorem k_42_0 : cod 42 0 = some (.inl (.aload_n 0), 1) := rfl
theorem k_42_1 : cod 42 1 = some (.inr (7, 0, 0, 0, 0), 3) := rfl
theorem k_42_4 : cod 42 4 = some (.inl (.aload_n 0), 1) := rfl
theorem k_42_5 : cod 42 5 = some (.inl (.aload_n 1), 1) := rfl
theorem k_42_6 : cod 42 6 = some (.inr (1, 5, 0, 3, 0), 3) := rfl
theorem k_42_9 : cod 42 9 = some (.inl (.aload_n 0), 1) := rfl
theorem k_42_10 : cod 42 10 = some (.inl (.aload_n 2), 1) := rfl
theorem k_42_11 : cod 42 11 = some (.inr (1, 5, 1, 3, 0), 3) := rfl
theorem k_42_14 : cod 42 14 = some (.inl (.aload_n 0), 1) := rfl
theorem k_42_15 : cod 42 15 = some (.inl (.lload_n 3), 1) := rfl
theorem k_42_16 : cod 42 16 = some (.inr (1, 5, 2, 2, 0), 3) := rfl
theorem k_42_19 : cod 42 19 = some (.inl .return_, 1) := rfl
theorem k_43_0 : cod 43 0 = some (.inl (.aload_n 0), 1) := rfl
theorem k_43_1 : cod 43 1 = some (.inl (.iload_n 1), 1) := rfl
theorem k_43_2 : cod 43 2 = some (.inl (.iload_n 2), 1) := rfl
theorem k_43_3 : cod 43 3 = some (.inl (.iload_n 3), 1) := rfl
theorem k_43_4 : cod 43 4 = some (.inl (.iload 4), 2) := rfl
theorem k_43_6 : cod 43 6 = some (.inr (17, 44, 5, 1, 0), 3) := rfl
theorem k_43_9 : cod 43 9 = some (.inl (.goto 11), 3) := rfl
theorem k_43_12 : cod 43 12 = some (.inl (.astore 5), 2) := rfl
theorem k_43_14 : cod 43 14 = some (.inl (.iconst 1), 1) := rfl
theorem k_43_15 : cod 43 15 = some (.inl .ireturn, 1) := rfl
theorem k_43_16 : cod 43 16 = some (.inl (.astore 5), 2) := rfl
theorem k_43_18 : cod 43 18 = some (.inl (.iconst 2), 1) := rfl
theorem k_43_19 : cod 43 19 = some (.inl .ireturn, 1) := rfl
theorem k_43_20 : cod 43 20 = some (.inl (.iconst 0), 1) := rfl
theorem k_43_21 : cod 43 21 = some (.inl .ireturn, 1) := rfl
theorem k_44_0 : cod 44 0 = some (.inl (.aload_n 0), 1) := rfl
theorem k_44_1 : cod 44 1 = some (.inl (.iload_n 1), 1) := rfl
theorem k_44_2 : cod 44 2 = some (.inr (17, 28, 2, 1, 0), 3) := rfl
theorem k_44_5 : cod 44 5 = some (.inl (.astore 5), 2) := rfl
theorem k_44_7 : cod 44 7 = some (.inl (.aload_n 0), 1) := rfl
theorem k_44_8 : cod 44 8 = some (.inl (.iload_n 2), 1) := rfl
theorem k_44_9 : cod 44 9 = some (.inr (17, 45, 2, 1, 0), 3) := rfl
theorem k_44_12 : cod 44 12 = some (.inl (.astore 6), 2) := rfl
theorem k_44_14 : cod 44 14 = some (.inl (.aload_n 0), 1) := rfl
theorem k_44_15 : cod 44 15 = some (.inl (.aload 5), 2) := rfl
theorem k_44_17 : cod 44 17 = some (.inr (17, 35, 2, 1, 0), 3) := rfl
theorem k_44_20 : cod 44 20 = some (.inl (.aload_n 0), 1) := rfl
theorem k_44_21 : cod 44 21 = some (.inr (0, 0, 4, 0, 0), 3) := rfl
theorem k_44_24 : cod 44 24 = some (.inl (.sipush 512), 3) := rfl
theorem k_44_27 : cod 44 27 = some (.inl (.if_icmp .lt 13), 3) := rfl
theorem k_44_30 : cod 44 30 = some (.inr (16, 11, 0, 0, 0), 10) := rfl
theorem k_44_40 : cod 44 40 = some (.inl (.aload_n 0), 1) := rfl
theorem k_44_41 : cod 44 41 = some (.inl .dup, 1) := rfl
theorem k_44_42 : cod 44 42 = some (.inr (0, 0, 4, 0, 0), 3) := rfl
theorem k_44_45 : cod 44 45 = some (.inl (.iconst 1), 1) := rfl
theorem k_44_46 : cod 44 46 = some (.inl .iadd, 1) := rfl
theorem k_44_47 : cod 44 47 = some (.inr (1, 0, 4, 0, 0), 3) := rfl
theorem k_44_50 : cod 44 50 = some (.inl (.aload 5), 2) := rfl
theorem k_44_52 : cod 44 52 = some (.inr (0, 4, 4, 0, 0), 3) := rfl
theorem k_44_55 : cod 44 55 = some (.inr (2, 6, 4, 0, 0), 3) := rfl
theorem k_44_58 : cod 44 58 = some (.inl .dup, 1) := rfl
theorem k_44_59 : cod 44 59 = some (.inl (.aload 5), 2) := rfl
theorem k_44_61 : cod 44 61 = some (.inl (.aload 6), 2) := rfl
theorem k_44_63 : cod 44 63 = some (.inl (.iload_n 3), 1) := rfl
theorem k_44_64 : cod 44 64 = some (.inl (.iload 4), 2) := rfl
theorem k_44_66 : cod 44 66 = some (.inl (.ifCond .eq 7), 3) := rfl
theorem k_44_69 : cod 44 69 = some (.inl (.iconst 1), 1) := rfl
theorem k_44_70 : cod 44 70 = some (.inl (.goto 4), 3) := rfl
theorem k_44_73 : cod 44 73 = some (.inl (.iconst (-1)), 1) := rfl
theorem k_44_74 : cod 44 74 = some (.inr (17, 46, 5, 2, 0), 3) := rfl
theorem k_44_77 : cod 44 77 = some (.inr (17, 16, 2, 1, 8), 3) := rfl
theorem k_44_80 : cod 44 80 = some (.inl .pop, 1) := rfl
theorem k_44_81 : cod 44 81 = some (.inl .return_, 1) := rfl
theorem k_45_0 : cod 45 0 = some (.inl (.aload_n 0), 1) := rfl
theorem k_45_1 : cod 45 1 = some (.inl (.iload_n 1), 1) := rfl
theorem k_45_2 : cod 45 2 = some (.inr (17, 34, 2, 1, 0), 3) := rfl
theorem k_45_5 : cod 45 5 = some (.inl (.astore_n 2), 1) := rfl
theorem k_45_6 : cod 45 6 = some (.inl (.aload_n 2), 1) := rfl
theorem k_45_7 : cod 45 7 = some (.inr (0, 3, 1, 0, 0), 3) := rfl
theorem k_45_10 : cod 45 10 = some (.inl (.ifCond .ne 13), 3) := rfl
theorem k_45_13 : cod 45 13 = some (.inr (16, 10, 0, 0, 0), 10) := rfl
theorem k_45_23 : cod 45 23 = some (.inl (.aload_n 2), 1) := rfl
theorem k_45_24 : cod 45 24 = some (.inl .areturn, 1) := rfl
theorem k_46_0 : cod 46 0 = some (.inl (.aload_n 0), 1) := rfl
theorem k_46_1 : cod 46 1 = some (.inr (7, 0, 0, 0, 0), 3) := rfl
theorem k_46_4 : cod 46 4 = some (.inl (.aload_n 0), 1) := rfl
theorem k_46_5 : cod 46 5 = some (.inl (.aload_n 1), 1) := rfl
theorem k_46_6 : cod 46 6 = some (.inr (1, 6, 0, 3, 0), 3) := rfl
theorem k_46_9 : cod 46 9 = some (.inl (.aload_n 0), 1) := rfl
theorem k_46_10 : cod 46 10 = some (.inl (.aload_n 2), 1) := rfl
theorem k_46_11 : cod 46 11 = some (.inr (1, 6, 1, 3, 0), 3) := rfl
theorem k_46_14 : cod 46 14 = some (.inl (.aload_n 0), 1) := rfl
theorem k_46_15 : cod 46 15 = some (.inl (.iload_n 3), 1) := rfl
theorem k_46_16 : cod 46 16 = some (.inr (1, 6, 2, 0, 0), 3) := rfl
theorem k_46_19 : cod 46 19 = some (.inl (.aload_n 0), 1) := rfl
theorem k_46_20 : cod 46 20 = some (.inl (.iload 4), 2) := rfl
theorem k_46_22 : cod 46 22 = some (.inr (1, 6, 3, 0, 0), 3) := rfl
theorem k_46_25 : cod 46 25 = some (.inl .return_, 1) := rfl
theorem k_47_0 : cod 47 0 = some (.inl (.aload 4), 2) := rfl
theorem k_47_2 : cod 47 2 = some (.inl (.iconst 0), 1) := rfl
theorem k_47_3 : cod 47 3 = some (.inl (.aload_n 0), 1) := rfl
theorem k_47_4 : cod 47 4 = some (.inl (.iload_n 1), 1) := rfl
theorem k_47_5 : cod 47 5 = some (.inl (.iload_n 2), 1) := rfl
theorem k_47_6 : cod 47 6 = some (.inl (.iload_n 3), 1) := rfl
theorem k_47_7 : cod 47 7 = some (.inr (17, 48, 4, 1, 0), 3) := rfl
theorem k_47_10 : cod 47 10 = some (.inl .i2l, 1) := rfl
theorem k_47_11 : cod 47 11 = some (.inl .lastore, 1) := rfl
theorem k_47_12 : cod 47 12 = some (.inl (.goto 11), 3) := rfl
theorem k_47_15 : cod 47 15 = some (.inl (.astore 5), 2) := rfl
theorem k_47_17 : cod 47 17 = some (.inl (.iconst 1), 1) := rfl
theorem k_47_18 : cod 47 18 = some (.inl .ireturn, 1) := rfl
theorem k_47_19 : cod 47 19 = some (.inl (.astore 5), 2) := rfl
theorem k_47_21 : cod 47 21 = some (.inl (.iconst 2), 1) := rfl
theorem k_47_22 : cod 47 22 = some (.inl .ireturn, 1) := rfl
theorem k_47_23 : cod 47 23 = some (.inl (.iconst 0), 1) := rfl
theorem k_47_24 : cod 47 24 = some (.inl .ireturn, 1) := rfl
theorem k_48_0 : cod 48 0 = some (.inl (.aload_n 0), 1) := rfl
theorem k_48_1 : cod 48 1 = some (.inl (.iload_n 1), 1) := rfl
theorem k_48_2 : cod 48 2 = some (.inr (17, 28, 2, 1, 0), 3) := rfl
theorem k_48_5 : cod 48 5 = some (.inl (.astore 4), 2) := rfl
theorem k_48_7 : cod 48 7 = some (.inl (.aload_n 0), 1) := rfl
theorem k_48_8 : cod 48 8 = some (.inl (.iload_n 2), 1) := rfl
theorem k_48_9 : cod 48 9 = some (.inr (17, 45, 2, 1, 0), 3) := rfl
theorem k_48_12 : cod 48 12 = some (.inl (.astore 5), 2) := rfl
theorem k_48_14 : cod 48 14 = some (.inl (.aload_n 0), 1) := rfl
theorem k_48_15 : cod 48 15 = some (.inl (.aload 4), 2) := rfl
theorem k_48_17 : cod 48 17 = some (.inr (17, 35, 2, 1, 0), 3) := rfl
theorem k_48_20 : cod 48 20 = some (.inl (.aload 4), 2) := rfl
theorem k_48_22 : cod 48 22 = some (.inl (.aload 5), 2) := rfl
theorem k_48_24 : cod 48 24 = some (.inl (.iload_n 3), 1) := rfl
theorem k_48_25 : cod 48 25 = some (.inr (17, 49, 3, 1, 4), 3) := rfl
theorem k_48_28 : cod 48 28 = some (.inl .ireturn, 1) := rfl
theorem k_49_0 : cod 49 0 = some (.inl (.iconst 0), 1) := rfl
theorem k_49_1 : cod 49 1 = some (.inl (.istore_n 3), 1) := rfl
theorem k_49_2 : cod 49 2 = some (.inl (.iconst 0), 1) := rfl
theorem k_49_3 : cod 49 3 = some (.inl (.istore 4), 2) := rfl
theorem k_49_5 : cod 49 5 = some (.inl (.iload 4), 2) := rfl
theorem k_49_7 : cod 49 7 = some (.inl (.aload_n 1), 1) := rfl
theorem k_49_8 : cod 49 8 = some (.inr (0, 3, 3, 0, 0), 3) := rfl
theorem k_49_11 : cod 49 11 = some (.inr (17, 6, 1, 1, 8), 3) := rfl
theorem k_49_14 : cod 49 14 = some (.inl (.if_icmp .ge 52), 3) := rfl
theorem k_49_17 : cod 49 17 = some (.inl (.aload_n 1), 1) := rfl
theorem k_49_18 : cod 49 18 = some (.inr (0, 3, 3, 0, 0), 3) := rfl
theorem k_49_21 : cod 49 21 = some (.inl (.iload 4), 2) := rfl
theorem k_49_23 : cod 49 23 = some (.inr (17, 29, 2, 1, 8), 3) := rfl
theorem k_49_26 : cod 49 26 = some (.inr (4, 6, 0, 0, 0), 3) := rfl
theorem k_49_29 : cod 49 29 = some (.inl (.astore 5), 2) := rfl
theorem k_49_31 : cod 49 31 = some (.inl (.aload 5), 2) := rfl
theorem k_49_33 : cod 49 33 = some (.inr (0, 6, 2, 0, 0), 3) := rfl
theorem k_49_36 : cod 49 36 = some (.inl (.iload_n 2), 1) := rfl
theorem k_49_37 : cod 49 37 = some (.inl (.if_icmp .ne 23), 3) := rfl
theorem k_49_40 : cod 49 40 = some (.inl (.aload_n 0), 1) := rfl
theorem k_49_41 : cod 49 41 = some (.inl (.aload 5), 2) := rfl
theorem k_49_43 : cod 49 43 = some (.inr (0, 6, 0, 0, 0), 3) := rfl
theorem k_49_46 : cod 49 46 = some (.inr (17, 38, 2, 1, 4), 3) := rfl
theorem k_49_49 : cod 49 49 = some (.inl (.ifCond .eq 11), 3) := rfl
theorem k_49_52 : cod 49 52 = some (.inl (.iload_n 3), 1) := rfl
theorem k_49_53 : cod 49 53 = some (.inl (.aload 5), 2) := rfl
theorem k_49_55 : cod 49 55 = some (.inr (0, 6, 3, 0, 0), 3) := rfl
theorem k_49_58 : cod 49 58 = some (.inl .iadd, 1) := rfl
theorem k_49_59 : cod 49 59 = some (.inl (.istore_n 3), 1) := rfl
theorem k_49_60 : cod 49 60 = some (.inl (.iinc 4 1), 3) := rfl
theorem k_49_63 : cod 49 63 = some (.inl (.goto (-58)), 3) := rfl
theorem k_49_66 : cod 49 66 = some (.inl (.iconst 0), 1) := rfl
theorem k_49_67 : cod 49 67 = some (.inl (.istore 4), 2) := rfl
theorem k_49_69 : cod 49 69 = some (.inl (.iload 4), 2) := rfl
theorem k_49_71 : cod 49 71 = some (.inl (.aload_n 0), 1) := rfl
theorem k_49_72 : cod 49 72 = some (.inr (0, 4, 4, 0, 0), 3) := rfl
theorem k_49_75 : cod 49 75 = some (.inr (17, 6, 1, 1, 8), 3) := rfl
theorem k_49_78 : cod 49 78 = some (.inl (.if_icmp .ge 49), 3) := rfl
theorem k_49_81 : cod 49 81 = some (.inl (.aload_n 0), 1) := rfl
theorem k_49_82 : cod 49 82 = some (.inr (0, 4, 4, 0, 0), 3) := rfl
theorem k_49_85 : cod 49 85 = some (.inl (.iload 4), 2) := rfl
theorem k_49_87 : cod 49 87 = some (.inr (17, 29, 2, 1, 8), 3) := rfl
theorem k_49_90 : cod 49 90 = some (.inr (4, 6, 0, 0, 0), 3) := rfl
theorem k_49_93 : cod 49 93 = some (.inl (.astore 5), 2) := rfl
theorem k_49_95 : cod 49 95 = some (.inl (.aload 5), 2) := rfl
theorem k_49_97 : cod 49 97 = some (.inr (0, 6, 2, 0, 0), 3) := rfl
theorem k_49_100 : cod 49 100 = some (.inl (.iload_n 2), 1) := rfl
theorem k_49_101 : cod 49 101 = some (.inl (.if_icmp .ne 20), 3) := rfl
theorem k_49_104 : cod 49 104 = some (.inl (.aload 5), 2) := rfl
theorem k_49_106 : cod 49 106 = some (.inr (0, 6, 1, 0, 0), 3) := rfl
theorem k_49_109 : cod 49 109 = some (.inl (.aload_n 1), 1) := rfl
theorem k_49_110 : cod 49 110 = some (.inl (.if_acmp .ne 11), 3) := rfl
theorem k_49_113 : cod 49 113 = some (.inl (.iload_n 3), 1) := rfl
theorem k_49_114 : cod 49 114 = some (.inl (.aload 5), 2) := rfl
theorem k_49_116 : cod 49 116 = some (.inr (0, 6, 3, 0, 0), 3) := rfl
theorem k_49_119 : cod 49 119 = some (.inl .iadd, 1) := rfl
theorem k_49_120 : cod 49 120 = some (.inl (.istore_n 3), 1) := rfl
theorem k_49_121 : cod 49 121 = some (.inl (.iinc 4 1), 3) := rfl
theorem k_49_124 : cod 49 124 = some (.inl (.goto (-55)), 3) := rfl
theorem k_49_127 : cod 49 127 = some (.inl (.iload_n 3), 1) := rfl
theorem k_49_128 : cod 49 128 = some (.inl .ireturn, 1) := rfl
theorem k_50_0 : cod 50 0 = some (.inl (.aload 4), 2) := rfl
theorem k_50_2 : cod 50 2 = some (.inl (.iconst 0), 1) := rfl
theorem k_50_3 : cod 50 3 = some (.inl (.aload_n 0), 1) := rfl
theorem k_50_4 : cod 50 4 = some (.inl (.iload_n 1), 1) := rfl
theorem k_50_5 : cod 50 5 = some (.inl (.iload_n 2), 1) := rfl
theorem k_50_6 : cod 50 6 = some (.inl (.iload_n 3), 1) := rfl
theorem k_50_7 : cod 50 7 = some (.inr (17, 51, 4, 1, 0), 3) := rfl
theorem k_50_10 : cod 50 10 = some (.inl .i2l, 1) := rfl
theorem k_50_11 : cod 50 11 = some (.inl .lastore, 1) := rfl
theorem k_50_12 : cod 50 12 = some (.inl (.goto 15), 3) := rfl
theorem k_50_15 : cod 50 15 = some (.inl (.astore 5), 2) := rfl
theorem k_50_17 : cod 50 17 = some (.inl (.iconst 1), 1) := rfl
theorem k_50_18 : cod 50 18 = some (.inl .ireturn, 1) := rfl
theorem k_50_19 : cod 50 19 = some (.inl (.astore 5), 2) := rfl
theorem k_50_21 : cod 50 21 = some (.inl (.iconst 2), 1) := rfl
theorem k_50_22 : cod 50 22 = some (.inl .ireturn, 1) := rfl
theorem k_50_23 : cod 50 23 = some (.inl (.astore 5), 2) := rfl
theorem k_50_25 : cod 50 25 = some (.inl (.iconst 3), 1) := rfl
theorem k_50_26 : cod 50 26 = some (.inl .ireturn, 1) := rfl
theorem k_50_27 : cod 50 27 = some (.inl (.iconst 0), 1) := rfl
theorem k_50_28 : cod 50 28 = some (.inl .ireturn, 1) := rfl
theorem k_51_0 : cod 51 0 = some (.inl (.aload_n 0), 1) := rfl
theorem k_51_1 : cod 51 1 = some (.inl (.iload_n 1), 1) := rfl
theorem k_51_2 : cod 51 2 = some (.inr (17, 28, 2, 1, 0), 3) := rfl
theorem k_51_5 : cod 51 5 = some (.inl (.astore 4), 2) := rfl
theorem k_51_7 : cod 51 7 = some (.inl (.aload_n 0), 1) := rfl
theorem k_51_8 : cod 51 8 = some (.inl (.iload_n 2), 1) := rfl
theorem k_51_9 : cod 51 9 = some (.inr (17, 45, 2, 1, 0), 3) := rfl
theorem k_51_12 : cod 51 12 = some (.inl (.astore 5), 2) := rfl
theorem k_51_14 : cod 51 14 = some (.inl (.aload_n 0), 1) := rfl
theorem k_51_15 : cod 51 15 = some (.inl (.aload 4), 2) := rfl
theorem k_51_17 : cod 51 17 = some (.inr (17, 35, 2, 1, 0), 3) := rfl
theorem k_51_20 : cod 51 20 = some (.inl (.aload 4), 2) := rfl
theorem k_51_22 : cod 51 22 = some (.inl (.aload 5), 2) := rfl
theorem k_51_24 : cod 51 24 = some (.inl (.aload_n 0), 1) := rfl
theorem k_51_25 : cod 51 25 = some (.inr (0, 0, 3, 0, 0), 3) := rfl
theorem k_51_28 : cod 51 28 = some (.inr (17, 52, 3, 1, 4), 3) := rfl
theorem k_51_31 : cod 51 31 = some (.inl (.aload_n 0), 1) := rfl
theorem k_51_32 : cod 51 32 = some (.inr (0, 0, 3, 0, 0), 3) := rfl
theorem k_51_35 : cod 51 35 = some (.inl (.iload_n 3), 1) := rfl
theorem k_51_36 : cod 51 36 = some (.inr (17, 58, 2, 1, 1), 3) := rfl
theorem k_51_39 : cod 51 39 = some (.inl (.istore 6), 2) := rfl
theorem k_51_41 : cod 51 41 = some (.inl (.iload 6), 2) := rfl
theorem k_51_43 : cod 51 43 = some (.inl (.ifCond .ge 13), 3) := rfl
theorem k_51_56 : cod 51 56 = some (.inl (.aload_n 0), 1) := rfl
theorem k_51_57 : cod 51 57 = some (.inr (0, 0, 3, 0, 0), 3) := rfl
theorem k_51_60 : cod 51 60 = some (.inr (0, 1, 0, 0, 0), 3) := rfl
theorem k_51_63 : cod 51 63 = some (.inl (.iload 6), 2) := rfl
theorem k_51_65 : cod 51 65 = some (.inl .iaload, 1) := rfl
theorem k_51_66 : cod 51 66 = some (.inl .ireturn, 1) := rfl
theorem k_52_0 : cod 52 0 = some (.inl (.aload_n 2), 1) := rfl
theorem k_52_1 : cod 52 1 = some (.inr (17, 53, 1, 1, 1), 3) := rfl
theorem k_52_4 : cod 52 4 = some (.inl (.iconst 0), 1) := rfl
theorem k_52_5 : cod 52 5 = some (.inl (.istore_n 3), 1) := rfl
theorem k_52_6 : cod 52 6 = some (.inl (.iload_n 3), 1) := rfl
theorem k_52_7 : cod 52 7 = some (.inl (.aload_n 1), 1) := rfl
theorem k_52_8 : cod 52 8 = some (.inr (0, 3, 3, 0, 0), 3) := rfl
theorem k_52_11 : cod 52 11 = some (.inr (17, 6, 1, 1, 8), 3) := rfl
theorem k_52_14 : cod 52 14 = some (.inl (.if_icmp .ge 40), 3) := rfl
theorem k_52_17 : cod 52 17 = some (.inl (.aload_n 1), 1) := rfl
theorem k_52_18 : cod 52 18 = some (.inr (0, 3, 3, 0, 0), 3) := rfl
theorem k_52_21 : cod 52 21 = some (.inl (.iload_n 3), 1) := rfl
theorem k_52_22 : cod 52 22 = some (.inr (17, 29, 2, 1, 8), 3) := rfl
theorem k_52_25 : cod 52 25 = some (.inr (4, 6, 0, 0, 0), 3) := rfl
theorem k_52_28 : cod 52 28 = some (.inl (.astore 4), 2) := rfl
theorem k_52_30 : cod 52 30 = some (.inl (.aload_n 0), 1) := rfl
theorem k_52_31 : cod 52 31 = some (.inl (.aload 4), 2) := rfl
theorem k_52_33 : cod 52 33 = some (.inr (0, 6, 0, 0, 0), 3) := rfl
theorem k_52_36 : cod 52 36 = some (.inr (17, 38, 2, 1, 4), 3) := rfl
theorem k_52_39 : cod 52 39 = some (.inl (.ifCond .eq 9), 3) := rfl
theorem k_52_42 : cod 52 42 = some (.inl (.aload_n 2), 1) := rfl
theorem k_52_43 : cod 52 43 = some (.inl (.aload 4), 2) := rfl
theorem k_52_45 : cod 52 45 = some (.inr (17, 54, 2, 1, 1), 3) := rfl
theorem k_52_48 : cod 52 48 = some (.inl (.iinc 3 1), 3) := rfl
theorem k_52_51 : cod 52 51 = some (.inl (.goto (-45)), 3) := rfl
theorem k_52_54 : cod 52 54 = some (.inl (.iconst 0), 1) := rfl
theorem k_52_55 : cod 52 55 = some (.inl (.istore_n 3), 1) := rfl
theorem k_52_56 : cod 52 56 = some (.inl (.iload_n 3), 1) := rfl
theorem k_52_57 : cod 52 57 = some (.inl (.aload_n 0), 1) := rfl
theorem k_52_58 : cod 52 58 = some (.inr (0, 4, 4, 0, 0), 3) := rfl
theorem k_52_61 : cod 52 61 = some (.inr (17, 6, 1, 1, 8), 3) := rfl
theorem k_52_64 : cod 52 64 = some (.inl (.if_icmp .ge 37), 3) := rfl
theorem k_52_67 : cod 52 67 = some (.inl (.aload_n 0), 1) := rfl
theorem k_52_68 : cod 52 68 = some (.inr (0, 4, 4, 0, 0), 3) := rfl
theorem k_52_71 : cod 52 71 = some (.inl (.iload_n 3), 1) := rfl
theorem k_52_72 : cod 52 72 = some (.inr (17, 29, 2, 1, 8), 3) := rfl
theorem k_52_75 : cod 52 75 = some (.inr (4, 6, 0, 0, 0), 3) := rfl
theorem k_52_78 : cod 52 78 = some (.inl (.astore 4), 2) := rfl
theorem k_52_80 : cod 52 80 = some (.inl (.aload 4), 2) := rfl
theorem k_52_82 : cod 52 82 = some (.inr (0, 6, 1, 0, 0), 3) := rfl
theorem k_52_85 : cod 52 85 = some (.inl (.aload_n 1), 1) := rfl
theorem k_52_86 : cod 52 86 = some (.inl (.if_acmp .ne 9), 3) := rfl
theorem k_52_89 : cod 52 89 = some (.inl (.aload_n 2), 1) := rfl
theorem k_52_90 : cod 52 90 = some (.inl (.aload 4), 2) := rfl
theorem k_52_92 : cod 52 92 = some (.inr (17, 54, 2, 1, 1), 3) := rfl
theorem k_52_95 : cod 52 95 = some (.inl (.iinc 3 1), 3) := rfl
theorem k_52_98 : cod 52 98 = some (.inl (.goto (-42)), 3) := rfl
theorem k_52_101 : cod 52 101 = some (.inl .return_, 1) := rfl
theorem k_53_0 : cod 53 0 = some (.inl (.aload_n 0), 1) := rfl
theorem k_53_1 : cod 53 1 = some (.inl (.iconst 0), 1) := rfl
theorem k_53_2 : cod 53 2 = some (.inr (1, 1, 2, 0, 0), 3) := rfl
theorem k_53_5 : cod 53 5 = some (.inl .return_, 1) := rfl
theorem k_54_0 : cod 54 0 = some (.inl (.aload_n 0), 1) := rfl
theorem k_54_1 : cod 54 1 = some (.inl (.aload_n 1), 1) := rfl
theorem k_54_2 : cod 54 2 = some (.inr (0, 6, 2, 0, 0), 3) := rfl
theorem k_54_5 : cod 54 5 = some (.inr (17, 55, 2, 1, 1), 3) := rfl
theorem k_54_8 : cod 54 8 = some (.inl (.istore_n 2), 1) := rfl
theorem k_54_9 : cod 54 9 = some (.inl (.iload_n 2), 1) := rfl
theorem k_54_10 : cod 54 10 = some (.inl (.aload_n 0), 1) := rfl
theorem k_54_11 : cod 54 11 = some (.inr (0, 1, 2, 0, 0), 3) := rfl
theorem k_54_14 : cod 54 14 = some (.inl (.if_icmp .eq 16), 3) := rfl
theorem k_54_17 : cod 54 17 = some (.inl (.aload_n 0), 1) := rfl
theorem k_54_18 : cod 54 18 = some (.inr (0, 1, 0, 0, 0), 3) := rfl
theorem k_54_21 : cod 54 21 = some (.inl (.iload_n 2), 1) := rfl
theorem k_54_22 : cod 54 22 = some (.inl .iaload, 1) := rfl
theorem k_54_23 : cod 54 23 = some (.inl (.aload_n 1), 1) := rfl
theorem k_54_24 : cod 54 24 = some (.inr (0, 6, 2, 0, 0), 3) := rfl
theorem k_54_27 : cod 54 27 = some (.inl (.if_icmp .eq 25), 3) := rfl
theorem k_54_30 : cod 54 30 = some (.inl (.aload_n 0), 1) := rfl
theorem k_54_31 : cod 54 31 = some (.inl (.iload_n 2), 1) := rfl
theorem k_54_32 : cod 54 32 = some (.inr (17, 56, 2, 1, 1), 3) := rfl
theorem k_54_35 : cod 54 35 = some (.inl (.aload_n 0), 1) := rfl
theorem k_54_36 : cod 54 36 = some (.inr (0, 1, 0, 0, 0), 3) := rfl
theorem k_54_39 : cod 54 39 = some (.inl (.iload_n 2), 1) := rfl
theorem k_54_40 : cod 54 40 = some (.inl (.aload_n 1), 1) := rfl
theorem k_54_41 : cod 54 41 = some (.inr (0, 6, 2, 0, 0), 3) := rfl
theorem k_54_44 : cod 54 44 = some (.inl .iastore, 1) := rfl
theorem k_54_45 : cod 54 45 = some (.inl (.aload_n 0), 1) := rfl
theorem k_54_46 : cod 54 46 = some (.inr (0, 1, 1, 0, 0), 3) := rfl
theorem k_54_49 : cod 54 49 = some (.inl (.iload_n 2), 1) := rfl
theorem k_54_50 : cod 54 50 = some (.inl (.iconst 0), 1) := rfl
theorem k_54_51 : cod 54 51 = some (.inl .iastore, 1) := rfl
theorem k_54_52 : cod 54 52 = some (.inl (.aload_n 0), 1) := rfl
theorem k_54_53 : cod 54 53 = some (.inr (0, 1, 1, 0, 0), 3) := rfl
theorem k_54_56 : cod 54 56 = some (.inl (.iload_n 2), 1) := rfl
theorem k_54_57 : cod 54 57 = some (.inl .dup2, 1) := rfl
theorem k_54_58 : cod 54 58 = some (.inl .iaload, 1) := rfl
theorem k_54_59 : cod 54 59 = some (.inl (.aload_n 1), 1) := rfl
theorem k_54_60 : cod 54 60 = some (.inr (0, 6, 3, 0, 0), 3) := rfl
theorem k_54_63 : cod 54 63 = some (.inl .iadd, 1) := rfl
theorem k_54_64 : cod 54 64 = some (.inl .iastore, 1) := rfl
theorem k_54_65 : cod 54 65 = some (.inl .return_, 1) := rfl
theorem k_55_0 : cod 55 0 = some (.inl (.iconst 0), 1) := rfl
theorem k_55_1 : cod 55 1 = some (.inl (.istore_n 2), 1) := rfl
theorem k_55_2 : cod 55 2 = some (.inl (.aload_n 0), 1) := rfl
theorem k_55_3 : cod 55 3 = some (.inr (0, 1, 2, 0, 0), 3) := rfl
theorem k_55_6 : cod 55 6 = some (.inl (.istore_n 3), 1) := rfl
theorem k_55_7 : cod 55 7 = some (.inl (.aload_n 0), 1) := rfl
theorem k_55_8 : cod 55 8 = some (.inr (0, 1, 2, 0, 0), 3) := rfl
theorem k_55_11 : cod 55 11 = some (.inl (.istore 4), 2) := rfl
theorem k_55_13 : cod 55 13 = some (.inl (.iload_n 2), 1) := rfl
theorem k_55_14 : cod 55 14 = some (.inl (.iload_n 3), 1) := rfl
theorem k_55_15 : cod 55 15 = some (.inl (.if_icmp .ge 43), 3) := rfl
theorem k_55_18 : cod 55 18 = some (.inl (.iload 4), 2) := rfl
theorem k_55_20 : cod 55 20 = some (.inl (.ifCond .le 38), 3) := rfl
theorem k_55_23 : cod 55 23 = some (.inl (.iload_n 2), 1) := rfl
theorem k_55_24 : cod 55 24 = some (.inl (.iload_n 3), 1) := rfl
theorem k_55_25 : cod 55 25 = some (.inl .iadd, 1) := rfl
theorem k_55_26 : cod 55 26 = some (.inl (.iconst 2), 1) := rfl
theorem k_55_27 : cod 55 27 = some (.inl .idiv, 1) := rfl
theorem k_55_28 : cod 55 28 = some (.inl (.istore 5), 2) := rfl
theorem k_55_30 : cod 55 30 = some (.inl (.aload_n 0), 1) := rfl
theorem k_55_31 : cod 55 31 = some (.inr (0, 1, 0, 0, 0), 3) := rfl
theorem k_55_34 : cod 55 34 = some (.inl (.iload 5), 2) := rfl
theorem k_55_36 : cod 55 36 = some (.inl .iaload, 1) := rfl
theorem k_55_37 : cod 55 37 = some (.inl (.iload_n 1), 1) := rfl
theorem k_55_38 : cod 55 38 = some (.inl (.if_icmp .ge 11), 3) := rfl
theorem k_55_41 : cod 55 41 = some (.inl (.iload 5), 2) := rfl
theorem k_55_43 : cod 55 43 = some (.inl (.iconst 1), 1) := rfl
theorem k_55_44 : cod 55 44 = some (.inl .iadd, 1) := rfl
theorem k_55_45 : cod 55 45 = some (.inl (.istore_n 2), 1) := rfl
theorem k_55_46 : cod 55 46 = some (.inl (.goto 6), 3) := rfl
theorem k_55_49 : cod 55 49 = some (.inl (.iload 5), 2) := rfl
theorem k_55_51 : cod 55 51 = some (.inl (.istore_n 3), 1) := rfl
theorem k_55_52 : cod 55 52 = some (.inl (.iinc 4 (-1)), 3) := rfl
theorem k_55_55 : cod 55 55 = some (.inl (.goto (-42)), 3) := rfl
theorem k_55_58 : cod 55 58 = some (.inl (.iload_n 2), 1) := rfl
theorem k_55_59 : cod 55 59 = some (.inl .ireturn, 1) := rfl
theorem k_56_0 : cod 56 0 = some (.inl (.aload_n 0), 1) := rfl
theorem k_56_1 : cod 56 1 = some (.inr (0, 1, 2, 0, 0), 3) := rfl
theorem k_56_4 : cod 56 4 = some (.inl (.aload_n 0), 1) := rfl
theorem k_56_5 : cod 56 5 = some (.inr (0, 1, 0, 0, 0), 3) := rfl
theorem k_56_8 : cod 56 8 = some (.inl .arraylength, 1) := rfl
theorem k_56_9 : cod 56 9 = some (.inl (.if_icmp .ne 37), 3) := rfl
theorem k_56_12 : cod 56 12 = some (.inl (.aload_n 0), 1) := rfl
theorem k_56_13 : cod 56 13 = some (.inl (.aload_n 0), 1) := rfl
theorem k_56_14 : cod 56 14 = some (.inr (0, 1, 0, 0, 0), 3) := rfl
theorem k_56_17 : cod 56 17 = some (.inl (.iconst 2), 1) := rfl
theorem k_56_18 : cod 56 18 = some (.inl (.aload_n 0), 1) := rfl
theorem k_56_19 : cod 56 19 = some (.inr (0, 1, 2, 0, 0), 3) := rfl
theorem k_56_22 : cod 56 22 = some (.inl .imul, 1) := rfl
theorem k_56_23 : cod 56 23 = some (.inr (17, 57, 2, 0, 0), 3) := rfl
theorem k_56_26 : cod 56 26 = some (.inr (1, 1, 0, 3, 0), 3) := rfl
theorem k_56_29 : cod 56 29 = some (.inl (.aload_n 0), 1) := rfl
theorem k_56_30 : cod 56 30 = some (.inl (.aload_n 0), 1) := rfl
theorem k_56_31 : cod 56 31 = some (.inr (0, 1, 1, 0, 0), 3) := rfl
theorem k_56_34 : cod 56 34 = some (.inl (.iconst 2), 1) := rfl
theorem k_56_35 : cod 56 35 = some (.inl (.aload_n 0), 1) := rfl
theorem k_56_36 : cod 56 36 = some (.inr (0, 1, 2, 0, 0), 3) := rfl
theorem k_56_39 : cod 56 39 = some (.inl .imul, 1) := rfl
theorem k_56_40 : cod 56 40 = some (.inr (17, 57, 2, 0, 0), 3) := rfl
theorem k_56_43 : cod 56 43 = some (.inr (1, 1, 1, 3, 0), 3) := rfl
theorem k_56_46 : cod 56 46 = some (.inl (.aload_n 0), 1) := rfl
theorem k_56_47 : cod 56 47 = some (.inr (0, 1, 0, 0, 0), 3) := rfl
theorem k_56_50 : cod 56 50 = some (.inl (.iload_n 1), 1) := rfl
theorem k_56_51 : cod 56 51 = some (.inl (.aload_n 0), 1) := rfl
theorem k_56_52 : cod 56 52 = some (.inr (0, 1, 0, 0, 0), 3) := rfl
theorem k_56_55 : cod 56 55 = some (.inl (.iload_n 1), 1) := rfl
theorem k_56_56 : cod 56 56 = some (.inl (.iconst 1), 1) := rfl
theorem k_56_57 : cod 56 57 = some (.inl .iadd, 1) := rfl
theorem k_56_58 : cod 56 58 = some (.inl (.aload_n 0), 1) := rfl
theorem k_56_59 : cod 56 59 = some (.inr (0, 1, 2, 0, 0), 3) := rfl
theorem k_56_62 : cod 56 62 = some (.inl (.iload_n 1), 1) := rfl
theorem k_56_63 : cod 56 63 = some (.inl .isub, 1) := rfl
theorem k_56_64 : cod 56 64 = some (.inr (8, 0, 0, 0, 0), 3) := rfl
theorem k_56_67 : cod 56 67 = some (.inl (.aload_n 0), 1) := rfl
theorem k_56_68 : cod 56 68 = some (.inr (0, 1, 1, 0, 0), 3) := rfl
theorem k_56_71 : cod 56 71 = some (.inl (.iload_n 1), 1) := rfl
theorem k_56_72 : cod 56 72 = some (.inl (.aload_n 0), 1) := rfl
theorem k_56_73 : cod 56 73 = some (.inr (0, 1, 1, 0, 0), 3) := rfl
theorem k_56_76 : cod 56 76 = some (.inl (.iload_n 1), 1) := rfl
theorem k_56_77 : cod 56 77 = some (.inl (.iconst 1), 1) := rfl
theorem k_56_78 : cod 56 78 = some (.inl .iadd, 1) := rfl
theorem k_56_79 : cod 56 79 = some (.inl (.aload_n 0), 1) := rfl
theorem k_56_80 : cod 56 80 = some (.inr (0, 1, 2, 0, 0), 3) := rfl
theorem k_56_83 : cod 56 83 = some (.inl (.iload_n 1), 1) := rfl
theorem k_56_84 : cod 56 84 = some (.inl .isub, 1) := rfl
theorem k_56_85 : cod 56 85 = some (.inr (8, 0, 0, 0, 0), 3) := rfl
theorem k_56_88 : cod 56 88 = some (.inl (.aload_n 0), 1) := rfl
theorem k_56_89 : cod 56 89 = some (.inl .dup, 1) := rfl
theorem k_56_90 : cod 56 90 = some (.inr (0, 1, 2, 0, 0), 3) := rfl
theorem k_56_93 : cod 56 93 = some (.inl (.iconst 1), 1) := rfl
theorem k_56_94 : cod 56 94 = some (.inl .iadd, 1) := rfl
theorem k_56_95 : cod 56 95 = some (.inr (1, 1, 2, 0, 0), 3) := rfl
theorem k_56_98 : cod 56 98 = some (.inl .return_, 1) := rfl
theorem k_57_0 : cod 57 0 = some (.inl (.iload_n 1), 1) := rfl
theorem k_57_1 : cod 57 1 = some (.inl (.aload_n 0), 1) := rfl
theorem k_57_2 : cod 57 2 = some (.inl .arraylength, 1) := rfl
theorem k_57_3 : cod 57 3 = some (.inl (.if_icmp .ne 11), 3) := rfl
theorem k_57_6 : cod 57 6 = some (.inl (.aload_n 0), 1) := rfl
theorem k_57_7 : cod 57 7 = some (.inr (10, 0, 0, 0, 0), 3) := rfl
theorem k_57_10 : cod 57 10 = some (.inr (5, 0, 0, 0, 0), 3) := rfl
theorem k_57_13 : cod 57 13 = some (.inl .areturn, 1) := rfl
theorem k_57_14 : cod 57 14 = some (.inl (.iload_n 1), 1) := rfl
theorem k_57_15 : cod 57 15 = some (.inl (.newarray .int), 2) := rfl
theorem k_57_17 : cod 57 17 = some (.inl (.astore_n 2), 1) := rfl
theorem k_57_18 : cod 57 18 = some (.inl (.aload_n 0), 1) := rfl
theorem k_57_19 : cod 57 19 = some (.inl (.iconst 0), 1) := rfl
theorem k_57_20 : cod 57 20 = some (.inl (.aload_n 2), 1) := rfl
theorem k_57_21 : cod 57 21 = some (.inl (.iconst 0), 1) := rfl
theorem k_57_22 : cod 57 22 = some (.inl (.aload_n 0), 1) := rfl
theorem k_57_23 : cod 57 23 = some (.inl .arraylength, 1) := rfl
theorem k_57_24 : cod 57 24 = some (.inl (.iload_n 1), 1) := rfl
theorem k_57_25 : cod 57 25 = some (.inr (12, 0, 0, 0, 0), 3) := rfl
theorem k_57_28 : cod 57 28 = some (.inr (8, 0, 0, 0, 0), 3) := rfl
theorem k_57_31 : cod 57 31 = some (.inl (.aload_n 2), 1) := rfl
theorem k_57_32 : cod 57 32 = some (.inl .areturn, 1) := rfl
theorem k_58_0 : cod 58 0 = some (.inl (.iconst 0), 1) := rfl
theorem k_58_1 : cod 58 1 = some (.inl (.istore_n 2), 1) := rfl
theorem k_58_2 : cod 58 2 = some (.inl (.iconst 0), 1) := rfl
theorem k_58_3 : cod 58 3 = some (.inl (.istore_n 3), 1) := rfl
theorem k_58_4 : cod 58 4 = some (.inl (.iload_n 3), 1) := rfl
theorem k_58_5 : cod 58 5 = some (.inl (.aload_n 0), 1) := rfl
theorem k_58_6 : cod 58 6 = some (.inr (0, 1, 2, 0, 0), 3) := rfl
theorem k_58_9 : cod 58 9 = some (.inl (.if_icmp .ge 28), 3) := rfl
theorem k_58_12 : cod 58 12 = some (.inl (.aload_n 0), 1) := rfl
theorem k_58_13 : cod 58 13 = some (.inr (0, 1, 1, 0, 0), 3) := rfl
theorem k_58_16 : cod 58 16 = some (.inl (.iload_n 3), 1) := rfl
theorem k_58_17 : cod 58 17 = some (.inl .iaload, 1) := rfl
theorem k_58_18 : cod 58 18 = some (.inl (.ifCond .eq 13), 3) := rfl
theorem k_58_21 : cod 58 21 = some (.inl (.iload_n 2), 1) := rfl
theorem k_58_22 : cod 58 22 = some (.inl (.iload_n 1), 1) := rfl
theorem k_58_23 : cod 58 23 = some (.inl (.if_icmp .ne 5), 3) := rfl
theorem k_58_26 : cod 58 26 = some (.inl (.iload_n 3), 1) := rfl
theorem k_58_27 : cod 58 27 = some (.inl .ireturn, 1) := rfl
theorem k_58_28 : cod 58 28 = some (.inl (.iinc 2 1), 3) := rfl
theorem k_58_31 : cod 58 31 = some (.inl (.iinc 3 1), 3) := rfl
theorem k_58_34 : cod 58 34 = some (.inl (.goto (-30)), 3) := rfl
theorem k_58_37 : cod 58 37 = some (.inl (.iconst (-1)), 1) := rfl
theorem k_58_38 : cod 58 38 = some (.inl .ireturn, 1) := rfl
theorem k_59_0 : cod 59 0 = some (.inl (.aload_n 2), 1) := rfl
theorem k_59_1 : cod 59 1 = some (.inl (.iconst 0), 1) := rfl
theorem k_59_2 : cod 59 2 = some (.inl (.aload_n 0), 1) := rfl
theorem k_59_3 : cod 59 3 = some (.inl (.iload_n 1), 1) := rfl
theorem k_59_4 : cod 59 4 = some (.inr (17, 60, 2, 1, 0), 3) := rfl
theorem k_59_7 : cod 59 7 = some (.inl .i2l, 1) := rfl
theorem k_59_8 : cod 59 8 = some (.inl .lastore, 1) := rfl
theorem k_59_9 : cod 59 9 = some (.inl (.goto 9), 3) := rfl
theorem k_59_12 : cod 59 12 = some (.inl (.astore_n 3), 1) := rfl
theorem k_59_13 : cod 59 13 = some (.inl (.iconst 1), 1) := rfl
theorem k_59_14 : cod 59 14 = some (.inl .ireturn, 1) := rfl
theorem k_59_15 : cod 59 15 = some (.inl (.astore_n 3), 1) := rfl
theorem k_59_16 : cod 59 16 = some (.inl (.iconst 2), 1) := rfl
theorem k_59_17 : cod 59 17 = some (.inl .ireturn, 1) := rfl
theorem k_59_18 : cod 59 18 = some (.inl (.iconst 0), 1) := rfl
theorem k_59_19 : cod 59 19 = some (.inl .ireturn, 1) := rfl
theorem k_60_0 : cod 60 0 = some (.inl (.aload_n 0), 1) := rfl
theorem k_60_1 : cod 60 1 = some (.inl (.iload_n 1), 1) := rfl
theorem k_60_2 : cod 60 2 = some (.inr (17, 28, 2, 1, 0), 3) := rfl
theorem k_60_5 : cod 60 5 = some (.inl (.astore_n 2), 1) := rfl
theorem k_60_6 : cod 60 6 = some (.inl (.aload_n 0), 1) := rfl
theorem k_60_7 : cod 60 7 = some (.inl (.aload_n 2), 1) := rfl
theorem k_60_8 : cod 60 8 = some (.inr (17, 35, 2, 1, 0), 3) := rfl
theorem k_60_11 : cod 60 11 = some (.inl (.aload_n 0), 1) := rfl
theorem k_60_12 : cod 60 12 = some (.inl (.aload_n 2), 1) := rfl
theorem k_60_13 : cod 60 13 = some (.inr (17, 61, 2, 1, 0), 3) := rfl
theorem k_60_16 : cod 60 16 = some (.inl (.aload_n 2), 1) := rfl
theorem k_60_17 : cod 60 17 = some (.inr (0, 4, 5, 0, 0), 3) := rfl
theorem k_60_20 : cod 60 20 = some (.inl .ireturn, 1) := rfl
theorem k_61_0 : cod 61 0 = some (.inl (.aload_n 1), 1) := rfl
theorem k_61_1 : cod 61 1 = some (.inr (0, 4, 3, 0, 0), 3) := rfl
theorem k_61_4 : cod 61 4 = some (.inr (17, 62, 1, 1, 8), 3) := rfl
theorem k_61_7 : cod 61 7 = some (.inl (.ifCond .eq 19), 3) := rfl
theorem k_61_10 : cod 61 10 = some (.inl (.aload_n 1), 1) := rfl
theorem k_61_11 : cod 61 11 = some (.inr (0, 4, 4, 0, 0), 3) := rfl
theorem k_61_14 : cod 61 14 = some (.inr (17, 62, 1, 1, 8), 3) := rfl
theorem k_61_17 : cod 61 17 = some (.inl (.ifCond .eq 9), 3) := rfl
theorem k_61_20 : cod 61 20 = some (.inl (.aload_n 1), 1) := rfl
theorem k_61_21 : cod 61 21 = some (.inl (.iconst 1), 1) := rfl
theorem k_61_22 : cod 61 22 = some (.inr (1, 4, 5, 0, 0), 3) := rfl
theorem k_61_25 : cod 61 25 = some (.inl .return_, 1) := rfl
theorem k_61_26 : cod 61 26 = some (.inl (.aload_n 0), 1) := rfl
theorem k_61_27 : cod 61 27 = some (.inr (0, 0, 0, 0, 0), 3) := rfl
theorem k_61_30 : cod 61 30 = some (.inl (.aload_n 1), 1) := rfl
theorem k_61_31 : cod 61 31 = some (.inr (0, 4, 1, 0, 0), 3) := rfl
theorem k_61_34 : cod 61 34 = some (.inl .aaload, 1) := rfl
theorem k_61_35 : cod 61 35 = some (.inl (.astore_n 2), 1) := rfl
theorem k_61_36 : cod 61 36 = some (.inl (.aload_n 1), 1) := rfl
theorem k_61_37 : cod 61 37 = some (.inl (.aload_n 2), 1) := rfl
theorem k_61_38 : cod 61 38 = some (.inr (17, 63, 2, 1, 4), 3) := rfl
theorem k_61_41 : cod 61 41 = some (.inl (.ifCond .eq 9), 3) := rfl
theorem k_61_44 : cod 61 44 = some (.inl (.aload_n 1), 1) := rfl
theorem k_61_45 : cod 61 45 = some (.inl (.iconst 2), 1) := rfl
theorem k_61_46 : cod 61 46 = some (.inr (1, 4, 5, 0, 0), 3) := rfl
theorem k_61_49 : cod 61 49 = some (.inl .return_, 1) := rfl
theorem k_61_50 : cod 61 50 = some (.inl (.aload_n 0), 1) := rfl
theorem k_61_51 : cod 61 51 = some (.inl (.aload_n 1), 1) := rfl
theorem k_61_52 : cod 61 52 = some (.inr (17, 66, 2, 1, 0), 3) := rfl
theorem k_61_55 : cod 61 55 = some (.inl (.istore_n 3), 1) := rfl
theorem k_61_56 : cod 61 56 = some (.inl (.iload_n 3), 1) := rfl
theorem k_61_57 : cod 61 57 = some (.inl (.ifCond .ne 9), 3) := rfl
theorem k_61_60 : cod 61 60 = some (.inl (.aload_n 0), 1) := rfl
theorem k_61_61 : cod 61 61 = some (.inl (.aload_n 1), 1) := rfl
theorem k_61_62 : cod 61 62 = some (.inr (17, 68, 2, 1, 0), 3) := rfl
theorem k_61_65 : cod 61 65 = some (.inl .return_, 1) := rfl
theorem k_61_66 : cod 61 66 = some (.inl (.aload_n 1), 1) := rfl
theorem k_61_67 : cod 61 67 = some (.inl (.aload_n 2), 1) := rfl
theorem k_61_68 : cod 61 68 = some (.inr (17, 73, 2, 1, 4), 3) := rfl
theorem k_61_71 : cod 61 71 = some (.inl (.aload_n 1), 1) := rfl
theorem k_61_72 : cod 61 72 = some (.inl (.iconst 3), 1) := rfl
theorem k_61_73 : cod 61 73 = some (.inr (1, 4, 5, 0, 0), 3) := rfl
theorem k_61_76 : cod 61 76 = some (.inl (.aload_n 1), 1) := rfl
theorem k_61_77 : cod 61 77 = some (.inl (.iload_n 3), 1) := rfl
theorem k_61_78 : cod 61 78 = some (.inr (1, 4, 7, 0, 0), 3) := rfl
theorem k_61_81 : cod 61 81 = some (.inl (.aload_n 0), 1) := rfl
theorem k_61_82 : cod 61 82 = some (.inl (.aload_n 1), 1) := rfl
theorem k_61_83 : cod 61 83 = some (.inl (.iconst 1), 1) := rfl
theorem k_61_84 : cod 61 84 = some (.inl (.iconst (-1)), 1) := rfl
theorem k_61_85 : cod 61 85 = some (.inr (17, 74, 4, 1, 0), 3) := rfl
theorem k_61_88 : cod 61 88 = some (.inl .return_, 1) := rfl
theorem k_62_0 : cod 62 0 = some (.inl (.aload_n 0), 1) := rfl
theorem k_62_1 : cod 62 1 = some (.inr (0, 8, 1, 0, 0), 3) := rfl
theorem k_62_4 : cod 62 4 = some (.inl (.ifCond .ne 7), 3) := rfl
theorem k_62_7 : cod 62 7 = some (.inl (.iconst 1), 1) := rfl
theorem k_62_8 : cod 62 8 = some (.inl (.goto 4), 3) := rfl
theorem k_62_11 : cod 62 11 = some (.inl (.iconst 0), 1) := rfl
theorem k_62_12 : cod 62 12 = some (.inl .ireturn, 1) := rfl
theorem k_63_0 : cod 63 0 = some (.inl (.iconst 0), 1) := rfl
theorem k_63_1 : cod 63 1 = some (.inl (.istore_n 2), 1) := rfl
theorem k_63_2 : cod 63 2 = some (.inl (.iload_n 2), 1) := rfl
theorem k_63_3 : cod 63 3 = some (.inl (.aload_n 0), 1) := rfl
theorem k_63_4 : cod 63 4 = some (.inr (0, 4, 3, 0, 0), 3) := rfl
theorem k_63_7 : cod 63 7 = some (.inr (17, 6, 1, 1, 8), 3) := rfl
theorem k_63_10 : cod 63 10 = some (.inl (.if_icmp .ge 46), 3) := rfl
theorem k_63_13 : cod 63 13 = some (.inl (.aload_n 0), 1) := rfl
theorem k_63_14 : cod 63 14 = some (.inr (0, 4, 3, 0, 0), 3) := rfl
theorem k_63_17 : cod 63 17 = some (.inl (.iload_n 2), 1) := rfl
theorem k_63_18 : cod 63 18 = some (.inr (17, 29, 2, 1, 8), 3) := rfl
theorem k_63_21 : cod 63 21 = some (.inr (4, 5, 0, 0, 0), 3) := rfl
theorem k_63_24 : cod 63 24 = some (.inr (0, 5, 1, 0, 0), 3) := rfl
theorem k_63_27 : cod 63 27 = some (.inl (.astore_n 3), 1) := rfl
theorem k_63_28 : cod 63 28 = some (.inl (.aload_n 3), 1) := rfl
theorem k_63_29 : cod 63 29 = some (.inr (0, 3, 0, 0, 0), 3) := rfl
theorem k_63_32 : cod 63 32 = some (.inl (.aload_n 1), 1) := rfl
theorem k_63_33 : cod 63 33 = some (.inr (0, 2, 0, 0, 0), 3) := rfl
theorem k_63_36 : cod 63 36 = some (.inl (.if_icmp .ne 14), 3) := rfl
theorem k_63_39 : cod 63 39 = some (.inl (.aload_n 3), 1) := rfl
theorem k_63_40 : cod 63 40 = some (.inl (.aload_n 0), 1) := rfl
theorem k_63_41 : cod 63 41 = some (.inl (.aload_n 1), 1) := rfl
theorem k_63_42 : cod 63 42 = some (.inr (17, 64, 3, 1, 3), 3) := rfl
theorem k_63_45 : cod 63 45 = some (.inl (.ifCond .eq 5), 3) := rfl
theorem k_63_48 : cod 63 48 = some (.inl (.iconst 1), 1) := rfl
theorem k_63_49 : cod 63 49 = some (.inl .ireturn, 1) := rfl
theorem k_63_50 : cod 63 50 = some (.inl (.iinc 2 1), 3) := rfl
theorem k_63_53 : cod 63 53 = some (.inl (.goto (-51)), 3) := rfl
theorem k_63_56 : cod 63 56 = some (.inl (.iconst 0), 1) := rfl
theorem k_63_57 : cod 63 57 = some (.inl .ireturn, 1) := rfl
theorem k_64_0 : cod 64 0 = some (.inl (.aload_n 0), 1) := rfl
theorem k_64_1 : cod 64 1 = some (.inr (0, 3, 4, 0, 0), 3) := rfl
theorem k_64_4 : cod 64 4 = some (.inl (.iconst (-1)), 1) := rfl
theorem k_64_5 : cod 64 5 = some (.inl (.if_icmp .eq 16), 3) := rfl
theorem k_64_8 : cod 64 8 = some (.inl (.aload_n 0), 1) := rfl
theorem k_64_9 : cod 64 9 = some (.inr (0, 3, 4, 0, 0), 3) := rfl
theorem k_64_12 : cod 64 12 = some (.inl (.aload_n 1), 1) := rfl
theorem k_64_13 : cod 64 13 = some (.inr (0, 4, 0, 0, 0), 3) := rfl
theorem k_64_16 : cod 64 16 = some (.inl (.if_icmp .eq 5), 3) := rfl
theorem k_64_19 : cod 64 19 = some (.inl (.iconst 1), 1) := rfl
theorem k_64_20 : cod 64 20 = some (.inl .ireturn, 1) := rfl
theorem k_64_21 : cod 64 21 = some (.inl (.iconst 0), 1) := rfl
theorem k_64_22 : cod 64 22 = some (.inl (.istore_n 3), 1) := rfl
theorem k_64_23 : cod 64 23 = some (.inl (.iload_n 3), 1) := rfl
theorem k_64_24 : cod 64 24 = some (.inl (.aload_n 0), 1) := rfl
theorem k_64_25 : cod 64 25 = some (.inr (0, 3, 2, 0, 0), 3) := rfl
theorem k_64_28 : cod 64 28 = some (.inr (17, 6, 1, 1, 8), 3) := rfl
theorem k_64_31 : cod 64 31 = some (.inl (.if_icmp .ge 45), 3) := rfl
theorem k_64_34 : cod 64 34 = some (.inl (.aload_n 0), 1) := rfl
theorem k_64_35 : cod 64 35 = some (.inr (0, 3, 2, 0, 0), 3) := rfl
theorem k_64_38 : cod 64 38 = some (.inl (.iload_n 3), 1) := rfl
theorem k_64_39 : cod 64 39 = some (.inr (17, 29, 2, 1, 8), 3) := rfl
theorem k_64_42 : cod 64 42 = some (.inr (4, 5, 0, 0, 0), 3) := rfl
theorem k_64_45 : cod 64 45 = some (.inr (0, 5, 0, 0, 0), 3) := rfl
theorem k_64_48 : cod 64 48 = some (.inl (.astore 4), 2) := rfl
theorem k_64_50 : cod 64 50 = some (.inl (.aload_n 2), 1) := rfl
theorem k_64_51 : cod 64 51 = some (.inl (.aload 4), 2) := rfl
theorem k_64_53 : cod 64 53 = some (.inr (17, 65, 2, 1, 2), 3) := rfl
theorem k_64_56 : cod 64 56 = some (.inl (.ifCond .eq 14), 3) := rfl
theorem k_64_59 : cod 64 59 = some (.inl (.aload_n 1), 1) := rfl
theorem k_64_60 : cod 64 60 = some (.inl (.aload 4), 2) := rfl
theorem k_64_62 : cod 64 62 = some (.inr (17, 38, 2, 1, 4), 3) := rfl
theorem k_64_65 : cod 64 65 = some (.inl (.ifCond .ne 5), 3) := rfl
theorem k_64_68 : cod 64 68 = some (.inl (.iconst 1), 1) := rfl
theorem k_64_69 : cod 64 69 = some (.inl .ireturn, 1) := rfl
theorem k_64_70 : cod 64 70 = some (.inl (.iinc 3 1), 3) := rfl
theorem k_64_73 : cod 64 73 = some (.inl (.goto (-50)), 3) := rfl
theorem k_64_76 : cod 64 76 = some (.inl (.iconst 0), 1) := rfl
theorem k_64_77 : cod 64 77 = some (.inl .ireturn, 1) := rfl
theorem k_65_0 : cod 65 0 = some (.inl (.aload_n 1), 1) := rfl
theorem k_65_1 : cod 65 1 = some (.inr (0, 4, 6, 0, 0), 3) := rfl
theorem k_65_4 : cod 65 4 = some (.inl (.ifCond .le 23), 3) := rfl
theorem k_65_7 : cod 65 7 = some (.inl (.aload_n 1), 1) := rfl
theorem k_65_8 : cod 65 8 = some (.inr (0, 4, 6, 0, 0), 3) := rfl
theorem k_65_11 : cod 65 11 = some (.inl (.aload_n 0), 1) := rfl
theorem k_65_12 : cod 65 12 = some (.inr (0, 2, 1, 0, 0), 3) := rfl
theorem k_65_15 : cod 65 15 = some (.inl (.aload_n 1), 1) := rfl
theorem k_65_16 : cod 65 16 = some (.inr (0, 4, 1, 0, 0), 3) := rfl
theorem k_65_19 : cod 65 19 = some (.inl .iaload, 1) := rfl
theorem k_65_20 : cod 65 20 = some (.inl (.if_icmp .gt 7), 3) := rfl
theorem k_65_23 : cod 65 23 = some (.inl (.iconst 1), 1) := rfl
theorem k_65_24 : cod 65 24 = some (.inl (.goto 4), 3) := rfl
theorem k_65_27 : cod 65 27 = some (.inl (.iconst 0), 1) := rfl
theorem k_65_28 : cod 65 28 = some (.inl .ireturn, 1) := rfl
theorem k_66_0 : cod 66 0 = some (.inl (.iconst 0), 1) := rfl
theorem k_66_1 : cod 66 1 = some (.inl (.istore_n 2), 1) := rfl
theorem k_66_2 : cod 66 2 = some (.inl (.iconst 0), 1) := rfl
theorem k_66_3 : cod 66 3 = some (.inl (.istore_n 3), 1) := rfl
theorem k_66_4 : cod 66 4 = some (.inl (.iload_n 3), 1) := rfl
theorem k_66_5 : cod 66 5 = some (.inl (.aload_n 0), 1) := rfl
theorem k_66_6 : cod 66 6 = some (.inr (0, 0, 0, 0, 0), 3) := rfl
theorem k_66_9 : cod 66 9 = some (.inl .arraylength, 1) := rfl
theorem k_66_10 : cod 66 10 = some (.inl (.if_icmp .ge 20), 3) := rfl
theorem k_66_13 : cod 66 13 = some (.inl (.aload_n 1), 1) := rfl
theorem k_66_14 : cod 66 14 = some (.inl (.iload_n 3), 1) := rfl
theorem k_66_15 : cod 66 15 = some (.inr (17, 67, 2, 1, 4), 3) := rfl
theorem k_66_18 : cod 66 18 = some (.inl (.ifCond .eq 6), 3) := rfl
theorem k_66_21 : cod 66 21 = some (.inl (.iinc 2 1), 3) := rfl
theorem k_66_24 : cod 66 24 = some (.inl (.iinc 3 1), 3) := rfl
theorem k_66_27 : cod 66 27 = some (.inl (.goto (-23)), 3) := rfl
theorem k_66_30 : cod 66 30 = some (.inl (.iload_n 2), 1) := rfl
theorem k_66_31 : cod 66 31 = some (.inl .ireturn, 1) := rfl
theorem k_67_0 : cod 67 0 = some (.inl (.iload_n 1), 1) := rfl
theorem k_67_1 : cod 67 1 = some (.inl (.aload_n 0), 1) := rfl
theorem k_67_2 : cod 67 2 = some (.inr (0, 4, 1, 0, 0), 3) := rfl
theorem k_67_5 : cod 67 5 = some (.inl (.if_icmp .ne 5), 3) := rfl
theorem k_67_8 : cod 67 8 = some (.inl (.iconst 0), 1) := rfl
theorem k_67_9 : cod 67 9 = some (.inl .ireturn, 1) := rfl
theorem k_67_10 : cod 67 10 = some (.inl (.iconst 0), 1) := rfl
theorem k_67_11 : cod 67 11 = some (.inl (.istore_n 2), 1) := rfl
theorem k_67_12 : cod 67 12 = some (.inl (.iload_n 2), 1) := rfl
theorem k_67_13 : cod 67 13 = some (.inl (.aload_n 0), 1) := rfl
theorem k_67_14 : cod 67 14 = some (.inr (0, 4, 3, 0, 0), 3) := rfl
theorem k_67_17 : cod 67 17 = some (.inr (17, 6, 1, 1, 8), 3) := rfl
theorem k_67_20 : cod 67 20 = some (.inl (.if_icmp .ge 32), 3) := rfl
theorem k_67_23 : cod 67 23 = some (.inl (.aload_n 0), 1) := rfl
theorem k_67_24 : cod 67 24 = some (.inr (0, 4, 3, 0, 0), 3) := rfl
theorem k_67_27 : cod 67 27 = some (.inl (.iload_n 2), 1) := rfl
theorem k_67_28 : cod 67 28 = some (.inr (17, 29, 2, 1, 8), 3) := rfl
theorem k_67_31 : cod 67 31 = some (.inr (4, 5, 0, 0, 0), 3) := rfl
theorem k_67_34 : cod 67 34 = some (.inr (0, 5, 1, 0, 0), 3) := rfl
theorem k_67_37 : cod 67 37 = some (.inr (0, 3, 0, 0, 0), 3) := rfl
theorem k_67_40 : cod 67 40 = some (.inl (.iload_n 1), 1) := rfl
theorem k_67_41 : cod 67 41 = some (.inl (.if_icmp .ne 5), 3) := rfl
theorem k_67_44 : cod 67 44 = some (.inl (.iconst 1), 1) := rfl
theorem k_67_45 : cod 67 45 = some (.inl .ireturn, 1) := rfl
theorem k_67_46 : cod 67 46 = some (.inl (.iinc 2 1), 3) := rfl
theorem k_67_49 : cod 67 49 = some (.inl (.goto (-37)), 3) := rfl
theorem k_67_52 : cod 67 52 = some (.inl (.iconst 0), 1) := rfl
theorem k_67_53 : cod 67 53 = some (.inl .ireturn, 1) := rfl
theorem k_68_0 : cod 68 0 = some (.inl (.aload_n 0), 1) := rfl
theorem k_68_1 : cod 68 1 = some (.inr (0, 0, 0, 0, 0), 3) := rfl
theorem k_68_4 : cod 68 4 = some (.inl (.aload_n 1), 1) := rfl
theorem k_68_5 : cod 68 5 = some (.inr (0, 4, 1, 0, 0), 3) := rfl
theorem k_68_8 : cod 68 8 = some (.inl .aaload, 1) := rfl
theorem k_68_9 : cod 68 9 = some (.inl (.astore_n 2), 1) := rfl
theorem k_68_10 : cod 68 10 = some (.inl (.aload_n 1), 1) := rfl
theorem k_68_11 : cod 68 11 = some (.inl (.iconst 1), 1) := rfl
theorem k_68_12 : cod 68 12 = some (.inr (1, 4, 5, 0, 0), 3) := rfl
theorem k_68_15 : cod 68 15 = some (.inl (.aload_n 1), 1) := rfl
theorem k_68_16 : cod 68 16 = some (.inl (.aload_n 2), 1) := rfl
theorem k_68_17 : cod 68 17 = some (.inr (0, 2, 1, 0, 0), 3) := rfl
theorem k_68_20 : cod 68 20 = some (.inl (.aload_n 1), 1) := rfl
theorem k_68_21 : cod 68 21 = some (.inr (0, 4, 1, 0, 0), 3) := rfl
theorem k_68_24 : cod 68 24 = some (.inl .iaload, 1) := rfl
theorem k_68_25 : cod 68 25 = some (.inl (.iconst 1), 1) := rfl
theorem k_68_26 : cod 68 26 = some (.inl .iadd, 1) := rfl
theorem k_68_27 : cod 68 27 = some (.inr (1, 4, 6, 0, 0), 3) := rfl
theorem k_68_30 : cod 68 30 = some (.inl (.aload_n 0), 1) := rfl
theorem k_68_31 : cod 68 31 = some (.inl .dup, 1) := rfl
theorem k_68_32 : cod 68 32 = some (.inr (0, 0, 5, 0, 0), 3) := rfl
theorem k_68_35 : cod 68 35 = some (.inl (.iconst 1), 1) := rfl
theorem k_68_36 : cod 68 36 = some (.inl .iadd, 1) := rfl
theorem k_68_37 : cod 68 37 = some (.inr (1, 0, 5, 0, 0), 3) := rfl
theorem k_68_40 : cod 68 40 = some (.inl (.aload_n 1), 1) := rfl
theorem k_68_41 : cod 68 41 = some (.inr (17, 69, 1, 1, 4), 3) := rfl
theorem k_68_44 : cod 68 44 = some (.inl (.aload_n 2), 1) := rfl
theorem k_68_45 : cod 68 45 = some (.inl (.aload_n 1), 1) := rfl
theorem k_68_46 : cod 68 46 = some (.inr (17, 70, 2, 1, 2), 3) := rfl
theorem k_68_49 : cod 68 49 = some (.inl (.iconst 0), 1) := rfl
theorem k_68_50 : cod 68 50 = some (.inl (.istore_n 3), 1) := rfl
theorem k_68_51 : cod 68 51 = some (.inl (.iload_n 3), 1) := rfl
theorem k_68_52 : cod 68 52 = some (.inl (.aload_n 0), 1) := rfl
theorem k_68_53 : cod 68 53 = some (.inr (0, 0, 0, 0, 0), 3) := rfl
theorem k_68_56 : cod 68 56 = some (.inl .arraylength, 1) := rfl
theorem k_68_57 : cod 68 57 = some (.inl (.if_icmp .ge 43), 3) := rfl
theorem k_68_60 : cod 68 60 = some (.inl (.iload_n 3), 1) := rfl
theorem k_68_61 : cod 68 61 = some (.inl (.aload_n 1), 1) := rfl
theorem k_68_62 : cod 68 62 = some (.inr (0, 4, 1, 0, 0), 3) := rfl
theorem k_68_65 : cod 68 65 = some (.inl (.if_icmp .eq 29), 3) := rfl
theorem k_68_68 : cod 68 68 = some (.inl (.aload_n 0), 1) := rfl
theorem k_68_69 : cod 68 69 = some (.inr (0, 0, 0, 0, 0), 3) := rfl
theorem k_68_72 : cod 68 72 = some (.inl (.iload_n 3), 1) := rfl
theorem k_68_73 : cod 68 73 = some (.inl .aaload, 1) := rfl
theorem k_68_74 : cod 68 74 = some (.inr (0, 2, 3, 0, 0), 3) := rfl
theorem k_68_77 : cod 68 77 = some (.inr (2, 7, 3, 0, 0), 3) := rfl
theorem k_68_80 : cod 68 80 = some (.inl .dup, 1) := rfl
theorem k_68_81 : cod 68 81 = some (.inl (.iconst 5), 1) := rfl
theorem k_68_82 : cod 68 82 = some (.inl (.aload_n 1), 1) := rfl
theorem k_68_83 : cod 68 83 = some (.inr (0, 4, 1, 0, 0), 3) := rfl
theorem k_68_86 : cod 68 86 = some (.inl (.aload_n 1), 1) := rfl
theorem k_68_87 : cod 68 87 = some (.inr (17, 72, 4, 2, 0), 3) := rfl
theorem k_68_90 : cod 68 90 = some (.inr (17, 16, 2, 1, 8), 3) := rfl
theorem k_68_93 : cod 68 93 = some (.inl .pop, 1) := rfl
theorem k_68_94 : cod 68 94 = some (.inl (.iinc 3 1), 3) := rfl
theorem k_68_97 : cod 68 97 = some (.inl (.goto (-46)), 3) := rfl
theorem k_68_100 : cod 68 100 = some (.inl .return_, 1) := rfl
theorem k_69_0 : cod 69 0 = some (.inl (.iconst 0), 1) := rfl
theorem k_69_1 : cod 69 1 = some (.inl (.istore_n 1), 1) := rfl
theorem k_69_2 : cod 69 2 = some (.inl (.iload_n 1), 1) := rfl
theorem k_69_3 : cod 69 3 = some (.inl (.aload_n 0), 1) := rfl
theorem k_69_4 : cod 69 4 = some (.inr (0, 4, 3, 0, 0), 3) := rfl
theorem k_69_7 : cod 69 7 = some (.inr (17, 6, 1, 1, 8), 3) := rfl
theorem k_69_10 : cod 69 10 = some (.inl (.if_icmp .ge 41), 3) := rfl
theorem k_69_13 : cod 69 13 = some (.inl (.aload_n 0), 1) := rfl
theorem k_69_14 : cod 69 14 = some (.inr (0, 4, 3, 0, 0), 3) := rfl
theorem k_69_17 : cod 69 17 = some (.inl (.iload_n 1), 1) := rfl
theorem k_69_18 : cod 69 18 = some (.inr (17, 29, 2, 1, 8), 3) := rfl
theorem k_69_21 : cod 69 21 = some (.inr (4, 5, 0, 0, 0), 3) := rfl
theorem k_69_24 : cod 69 24 = some (.inr (0, 5, 1, 0, 0), 3) := rfl
theorem k_69_27 : cod 69 27 = some (.inr (0, 3, 2, 0, 0), 3) := rfl
theorem k_69_30 : cod 69 30 = some (.inl (.aload_n 0), 1) := rfl
theorem k_69_31 : cod 69 31 = some (.inr (0, 4, 3, 0, 0), 3) := rfl
theorem k_69_34 : cod 69 34 = some (.inl (.iload_n 1), 1) := rfl
theorem k_69_35 : cod 69 35 = some (.inr (17, 29, 2, 1, 8), 3) := rfl
theorem k_69_38 : cod 69 38 = some (.inr (4, 5, 0, 0, 0), 3) := rfl
theorem k_69_41 : cod 69 41 = some (.inr (17, 16, 2, 1, 8), 3) := rfl
theorem k_69_44 : cod 69 44 = some (.inl .pop, 1) := rfl
theorem k_69_45 : cod 69 45 = some (.inl (.iinc 1 1), 3) := rfl
theorem k_69_48 : cod 69 48 = some (.inl (.goto (-46)), 3) := rfl
theorem k_69_51 : cod 69 51 = some (.inl (.iconst 0), 1) := rfl
theorem k_69_52 : cod 69 52 = some (.inl (.istore_n 1), 1) := rfl
theorem k_69_53 : cod 69 53 = some (.inl (.iload_n 1), 1) := rfl
theorem k_69_54 : cod 69 54 = some (.inl (.aload_n 0), 1) := rfl
theorem k_69_55 : cod 69 55 = some (.inr (0, 4, 4, 0, 0), 3) := rfl
theorem k_69_58 : cod 69 58 = some (.inr (17, 6, 1, 1, 8), 3) := rfl
theorem k_69_61 : cod 69 61 = some (.inl (.if_icmp .ge 41), 3) := rfl
theorem k_69_64 : cod 69 64 = some (.inl (.aload_n 0), 1) := rfl
theorem k_69_65 : cod 69 65 = some (.inr (0, 4, 4, 0, 0), 3) := rfl
theorem k_69_68 : cod 69 68 = some (.inl (.iload_n 1), 1) := rfl
theorem k_69_69 : cod 69 69 = some (.inr (17, 29, 2, 1, 8), 3) := rfl
theorem k_69_72 : cod 69 72 = some (.inr (4, 6, 0, 0, 0), 3) := rfl
theorem k_69_75 : cod 69 75 = some (.inr (0, 6, 1, 0, 0), 3) := rfl
theorem k_69_78 : cod 69 78 = some (.inr (0, 3, 3, 0, 0), 3) := rfl
theorem k_69_81 : cod 69 81 = some (.inl (.aload_n 0), 1) := rfl
theorem k_69_82 : cod 69 82 = some (.inr (0, 4, 4, 0, 0), 3) := rfl
theorem k_69_85 : cod 69 85 = some (.inl (.iload_n 1), 1) := rfl
theorem k_69_86 : cod 69 86 = some (.inr (17, 29, 2, 1, 8), 3) := rfl
theorem k_69_89 : cod 69 89 = some (.inr (4, 6, 0, 0, 0), 3) := rfl
theorem k_69_92 : cod 69 92 = some (.inr (17, 16, 2, 1, 8), 3) := rfl
theorem k_69_95 : cod 69 95 = some (.inl .pop, 1) := rfl
theorem k_69_96 : cod 69 96 = some (.inl (.iinc 1 1), 3) := rfl
theorem k_69_99 : cod 69 99 = some (.inl (.goto (-46)), 3) := rfl
theorem k_69_102 : cod 69 102 = some (.inl .return_, 1) := rfl
theorem k_70_0 : cod 70 0 = some (.inl (.aload_n 0), 1) := rfl
theorem k_70_1 : cod 70 1 = some (.inr (0, 2, 1, 0, 0), 3) := rfl
theorem k_70_4 : cod 70 4 = some (.inl (.aload_n 1), 1) := rfl
theorem k_70_5 : cod 70 5 = some (.inr (0, 4, 1, 0, 0), 3) := rfl
theorem k_70_8 : cod 70 8 = some (.inl (.aload_n 1), 1) := rfl
theorem k_70_9 : cod 70 9 = some (.inr (0, 4, 6, 0, 0), 3) := rfl
theorem k_70_12 : cod 70 12 = some (.inl .iastore, 1) := rfl
theorem k_70_13 : cod 70 13 = some (.inl (.aload_n 1), 1) := rfl
theorem k_70_14 : cod 70 14 = some (.inl (.aload_n 0), 1) := rfl
theorem k_70_15 : cod 70 15 = some (.inr (17, 71, 2, 1, 4), 3) := rfl
theorem k_70_18 : cod 70 18 = some (.inl .return_, 1) := rfl
theorem k_71_0 : cod 71 0 = some (.inl (.iconst 0), 1) := rfl
theorem k_71_1 : cod 71 1 = some (.inl (.istore_n 2), 1) := rfl
theorem k_71_2 : cod 71 2 = some (.inl (.iload_n 2), 1) := rfl
theorem k_71_3 : cod 71 3 = some (.inl (.aload_n 0), 1) := rfl
theorem k_71_4 : cod 71 4 = some (.inr (0, 4, 3, 0, 0), 3) := rfl
theorem k_71_7 : cod 71 7 = some (.inr (17, 6, 1, 1, 8), 3) := rfl
theorem k_71_10 : cod 71 10 = some (.inl (.if_icmp .ge 51), 3) := rfl
theorem k_71_13 : cod 71 13 = some (.inl (.aload_n 0), 1) := rfl
theorem k_71_14 : cod 71 14 = some (.inr (0, 4, 3, 0, 0), 3) := rfl
theorem k_71_17 : cod 71 17 = some (.inl (.iload_n 2), 1) := rfl
theorem k_71_18 : cod 71 18 = some (.inr (17, 29, 2, 1, 8), 3) := rfl
theorem k_71_21 : cod 71 21 = some (.inr (4, 5, 0, 0, 0), 3) := rfl
theorem k_71_24 : cod 71 24 = some (.inr (0, 5, 1, 0, 0), 3) := rfl
theorem k_71_27 : cod 71 27 = some (.inl (.astore_n 3), 1) := rfl
theorem k_71_28 : cod 71 28 = some (.inl (.aload_n 3), 1) := rfl
theorem k_71_29 : cod 71 29 = some (.inr (0, 3, 0, 0, 0), 3) := rfl
theorem k_71_32 : cod 71 32 = some (.inl (.aload_n 1), 1) := rfl
theorem k_71_33 : cod 71 33 = some (.inr (0, 2, 0, 0, 0), 3) := rfl
theorem k_71_36 : cod 71 36 = some (.inl (.if_icmp .ne 19), 3) := rfl
theorem k_71_39 : cod 71 39 = some (.inl (.aload_n 3), 1) := rfl
theorem k_71_40 : cod 71 40 = some (.inr (0, 3, 4, 0, 0), 3) := rfl
theorem k_71_43 : cod 71 43 = some (.inl (.aload_n 0), 1) := rfl
theorem k_71_44 : cod 71 44 = some (.inr (0, 4, 0, 0, 0), 3) := rfl
theorem k_71_47 : cod 71 47 = some (.inl (.if_icmp .ne 8), 3) := rfl
theorem k_71_50 : cod 71 50 = some (.inl (.aload_n 3), 1) := rfl
theorem k_71_51 : cod 71 51 = some (.inl (.iconst (-1)), 1) := rfl
theorem k_71_52 : cod 71 52 = some (.inr (1, 3, 4, 0, 0), 3) := rfl
theorem k_71_55 : cod 71 55 = some (.inl (.iinc 2 1), 3) := rfl
theorem k_71_58 : cod 71 58 = some (.inl (.goto (-56)), 3) := rfl
theorem k_71_61 : cod 71 61 = some (.inl .return_, 1) := rfl
theorem k_72_0 : cod 72 0 = some (.inl (.aload_n 0), 1) := rfl
theorem k_72_1 : cod 72 1 = some (.inr (7, 0, 0, 0, 0), 3) := rfl
theorem k_72_4 : cod 72 4 = some (.inl (.aload_n 0), 1) := rfl
theorem k_72_5 : cod 72 5 = some (.inl (.iload_n 1), 1) := rfl
theorem k_72_6 : cod 72 6 = some (.inr (1, 7, 0, 0, 0), 3) := rfl
theorem k_72_9 : cod 72 9 = some (.inl (.aload_n 0), 1) := rfl
theorem k_72_10 : cod 72 10 = some (.inl (.iload_n 2), 1) := rfl
theorem k_72_11 : cod 72 11 = some (.inr (1, 7, 1, 0, 0), 3) := rfl
theorem k_72_14 : cod 72 14 = some (.inl (.aload_n 0), 1) := rfl
theorem k_72_15 : cod 72 15 = some (.inl (.aload_n 3), 1) := rfl
theorem k_72_16 : cod 72 16 = some (.inr (1, 7, 2, 3, 0), 3) := rfl
theorem k_72_19 : cod 72 19 = some (.inl .return_, 1) := rfl
theorem k_73_0 : cod 73 0 = some (.inl (.iconst 0), 1) := rfl
theorem k_73_1 : cod 73 1 = some (.inl (.istore_n 2), 1) := rfl
theorem k_73_2 : cod 73 2 = some (.inl (.iload_n 2), 1) := rfl
theorem k_73_3 : cod 73 3 = some (.inl (.aload_n 0), 1) := rfl
theorem k_73_4 : cod 73 4 = some (.inr (0, 4, 3, 0, 0), 3) := rfl
theorem k_73_7 : cod 73 7 = some (.inr (17, 6, 1, 1, 8), 3) := rfl
theorem k_73_10 : cod 73 10 = some (.inl (.if_icmp .ge 43), 3) := rfl
theorem k_73_13 : cod 73 13 = some (.inl (.aload_n 0), 1) := rfl
theorem k_73_14 : cod 73 14 = some (.inr (0, 4, 3, 0, 0), 3) := rfl
theorem k_73_17 : cod 73 17 = some (.inl (.iload_n 2), 1) := rfl
theorem k_73_18 : cod 73 18 = some (.inr (17, 29, 2, 1, 8), 3) := rfl
theorem k_73_21 : cod 73 21 = some (.inr (4, 5, 0, 0, 0), 3) := rfl
theorem k_73_24 : cod 73 24 = some (.inr (0, 5, 1, 0, 0), 3) := rfl
theorem k_73_27 : cod 73 27 = some (.inl (.astore_n 3), 1) := rfl
theorem k_73_28 : cod 73 28 = some (.inl (.aload_n 3), 1) := rfl
theorem k_73_29 : cod 73 29 = some (.inr (0, 3, 0, 0, 0), 3) := rfl
theorem k_73_32 : cod 73 32 = some (.inl (.aload_n 1), 1) := rfl
theorem k_73_33 : cod 73 33 = some (.inr (0, 2, 0, 0, 0), 3) := rfl
theorem k_73_36 : cod 73 36 = some (.inl (.if_icmp .ne 11), 3) := rfl
theorem k_73_39 : cod 73 39 = some (.inl (.aload_n 3), 1) := rfl
theorem k_73_40 : cod 73 40 = some (.inl (.aload_n 0), 1) := rfl
theorem k_73_41 : cod 73 41 = some (.inr (0, 4, 0, 0, 0), 3) := rfl
theorem k_73_44 : cod 73 44 = some (.inr (1, 3, 4, 0, 0), 3) := rfl
theorem k_73_47 : cod 73 47 = some (.inl (.iinc 2 1), 3) := rfl
theorem k_73_50 : cod 73 50 = some (.inl (.goto (-48)), 3) := rfl
theorem k_73_53 : cod 73 53 = some (.inl .return_, 1) := rfl
theorem k_74_0 : cod 74 0 = some (.inl (.iconst 0), 1) := rfl
theorem k_74_1 : cod 74 1 = some (.inl (.istore 4), 2) := rfl
theorem k_74_3 : cod 74 3 = some (.inl (.iload 4), 2) := rfl
theorem k_74_5 : cod 74 5 = some (.inl (.aload_n 0), 1) := rfl
theorem k_74_6 : cod 74 6 = some (.inr (0, 0, 0, 0, 0), 3) := rfl
theorem k_74_9 : cod 74 9 = some (.inl .arraylength, 1) := rfl
theorem k_74_10 : cod 74 10 = some (.inl (.if_icmp .ge 51), 3) := rfl
theorem k_74_13 : cod 74 13 = some (.inl (.aload_n 1), 1) := rfl
theorem k_74_14 : cod 74 14 = some (.inl (.iload 4), 2) := rfl
theorem k_74_16 : cod 74 16 = some (.inr (17, 67, 2, 1, 4), 3) := rfl
theorem k_74_19 : cod 74 19 = some (.inl (.ifCond .eq 36), 3) := rfl
theorem k_74_22 : cod 74 22 = some (.inl (.iload 4), 2) := rfl
theorem k_74_24 : cod 74 24 = some (.inl (.iload_n 3), 1) := rfl
theorem k_74_25 : cod 74 25 = some (.inl (.if_icmp .eq 30), 3) := rfl
theorem k_74_28 : cod 74 28 = some (.inl (.aload_n 0), 1) := rfl
theorem k_74_29 : cod 74 29 = some (.inr (0, 0, 0, 0, 0), 3) := rfl
theorem k_74_32 : cod 74 32 = some (.inl (.iload 4), 2) := rfl
theorem k_74_34 : cod 74 34 = some (.inl .aaload, 1) := rfl
theorem k_74_35 : cod 74 35 = some (.inr (0, 2, 3, 0, 0), 3) := rfl
theorem k_74_38 : cod 74 38 = some (.inr (2, 7, 3, 0, 0), 3) := rfl
theorem k_74_41 : cod 74 41 = some (.inl .dup, 1) := rfl
theorem k_74_42 : cod 74 42 = some (.inl (.iload_n 2), 1) := rfl
theorem k_74_43 : cod 74 43 = some (.inl (.aload_n 1), 1) := rfl
theorem k_74_44 : cod 74 44 = some (.inr (0, 4, 1, 0, 0), 3) := rfl
theorem k_74_47 : cod 74 47 = some (.inl (.aload_n 1), 1) := rfl
theorem k_74_48 : cod 74 48 = some (.inr (17, 72, 4, 2, 0), 3) := rfl
theorem k_74_51 : cod 74 51 = some (.inr (17, 16, 2, 1, 8), 3) := rfl
theorem k_74_54 : cod 74 54 = some (.inl .pop, 1) := rfl
theorem k_74_55 : cod 74 55 = some (.inl (.iinc 4 1), 3) := rfl
theorem k_74_58 : cod 74 58 = some (.inl (.goto (-55)), 3) := rfl
theorem k_74_61 : cod 74 61 = some (.inl .return_, 1) := rfl
theorem k_75_0 : cod 75 0 = some (.inl (.aload_n 0), 1) := rfl
theorem k_75_1 : cod 75 1 = some (.inl (.iload_n 1), 1) := rfl
theorem k_75_2 : cod 75 2 = some (.inr (17, 76, 2, 1, 0), 3) := rfl
theorem k_75_5 : cod 75 5 = some (.inl (.goto 9), 3) := rfl
theorem k_75_8 : cod 75 8 = some (.inl (.astore_n 2), 1) := rfl
theorem k_75_9 : cod 75 9 = some (.inl (.iconst 1), 1) := rfl
theorem k_75_10 : cod 75 10 = some (.inl .ireturn, 1) := rfl
theorem k_75_11 : cod 75 11 = some (.inl (.astore_n 2), 1) := rfl
theorem k_75_12 : cod 75 12 = some (.inl (.iconst 2), 1) := rfl
theorem k_75_13 : cod 75 13 = some (.inl .ireturn, 1) := rfl
theorem k_75_14 : cod 75 14 = some (.inl (.iconst 0), 1) := rfl
theorem k_75_15 : cod 75 15 = some (.inl .ireturn, 1) := rfl
theorem k_76_0 : cod 76 0 = some (.inl (.aload_n 0), 1) := rfl
theorem k_76_1 : cod 76 1 = some (.inl (.iload_n 1), 1) := rfl
theorem k_76_2 : cod 76 2 = some (.inr (17, 28, 2, 1, 0), 3) := rfl
theorem k_76_5 : cod 76 5 = some (.inl (.astore_n 2), 1) := rfl
theorem k_76_6 : cod 76 6 = some (.inl (.aload_n 0), 1) := rfl
theorem k_76_7 : cod 76 7 = some (.inl (.aload_n 2), 1) := rfl
theorem k_76_8 : cod 76 8 = some (.inr (17, 35, 2, 1, 0), 3) := rfl
theorem k_76_11 : cod 76 11 = some (.inl (.aload_n 2), 1) := rfl
theorem k_76_12 : cod 76 12 = some (.inl (.iconst 2), 1) := rfl
theorem k_76_13 : cod 76 13 = some (.inr (1, 4, 5, 0, 0), 3) := rfl
theorem k_76_16 : cod 76 16 = some (.inl .return_, 1) := rfl
theorem k_77_0 : cod 77 0 = some (.inl (.aload_n 3), 1) := rfl
theorem k_77_1 : cod 77 1 = some (.inl (.iconst 0), 1) := rfl
theorem k_77_2 : cod 77 2 = some (.inl (.aload_n 0), 1) := rfl
theorem k_77_3 : cod 77 3 = some (.inl (.iload_n 1), 1) := rfl
theorem k_77_4 : cod 77 4 = some (.inl (.iload_n 2), 1) := rfl
theorem k_77_5 : cod 77 5 = some (.inr (17, 78, 3, 1, 0), 3) := rfl
theorem k_77_8 : cod 77 8 = some (.inl .i2l, 1) := rfl
theorem k_77_9 : cod 77 9 = some (.inl .lastore, 1) := rfl
theorem k_77_10 : cod 77 10 = some (.inl (.goto 11), 3) := rfl
theorem k_77_13 : cod 77 13 = some (.inl (.astore 4), 2) := rfl
theorem k_77_15 : cod 77 15 = some (.inl (.iconst 1), 1) := rfl
theorem k_77_16 : cod 77 16 = some (.inl .ireturn, 1) := rfl
theorem k_77_17 : cod 77 17 = some (.inl (.astore 4), 2) := rfl
theorem k_77_19 : cod 77 19 = some (.inl (.iconst 2), 1) := rfl
theorem k_77_20 : cod 77 20 = some (.inl .ireturn, 1) := rfl
theorem k_77_21 : cod 77 21 = some (.inl (.iconst 0), 1) := rfl
theorem k_77_22 : cod 77 22 = some (.inl .ireturn, 1) := rfl
theorem k_78_0 : cod 78 0 = some (.inl (.aload_n 0), 1) := rfl
theorem k_78_1 : cod 78 1 = some (.inl (.iload_n 1), 1) := rfl
theorem k_78_2 : cod 78 2 = some (.inl (.iload_n 2), 1) := rfl
theorem k_78_3 : cod 78 3 = some (.inr (17, 79, 3, 1, 0), 3) := rfl
theorem k_78_6 : cod 78 6 = some (.inl (.aload_n 0), 1) := rfl
theorem k_78_7 : cod 78 7 = some (.inr (0, 0, 0, 0, 0), 3) := rfl
theorem k_78_10 : cod 78 10 = some (.inl (.iload_n 2), 1) := rfl
theorem k_78_11 : cod 78 11 = some (.inl .aaload, 1) := rfl
theorem k_78_12 : cod 78 12 = some (.inl (.iload_n 1), 1) := rfl
theorem k_78_13 : cod 78 13 = some (.inr (17, 80, 2, 1, 2), 3) := rfl
theorem k_78_16 : cod 78 16 = some (.inl (.astore_n 3), 1) := rfl
theorem k_78_17 : cod 78 17 = some (.inl (.aload_n 3), 1) := rfl
theorem k_78_18 : cod 78 18 = some (.inl (.ifnonnull 5), 3) := rfl
theorem k_78_21 : cod 78 21 = some (.inl (.iconst 0), 1) := rfl
theorem k_78_22 : cod 78 22 = some (.inl .ireturn, 1) := rfl
theorem k_78_23 : cod 78 23 = some (.inl (.aload_n 0), 1) := rfl
theorem k_78_24 : cod 78 24 = some (.inl (.aload_n 3), 1) := rfl
theorem k_78_25 : cod 78 25 = some (.inl (.aload_n 0), 1) := rfl
theorem k_78_26 : cod 78 26 = some (.inr (0, 0, 0, 0, 0), 3) := rfl
theorem k_78_29 : cod 78 29 = some (.inl (.iload_n 2), 1) := rfl
theorem k_78_30 : cod 78 30 = some (.inl .aaload, 1) := rfl
theorem k_78_31 : cod 78 31 = some (.inr (17, 83, 3, 1, 0), 3) := rfl
theorem k_78_34 : cod 78 34 = some (.inl (.aload_n 3), 1) := rfl
theorem k_78_35 : cod 78 35 = some (.inr (0, 7, 0, 0, 0), 3) := rfl
theorem k_78_38 : cod 78 38 = some (.inl .ireturn, 1) := rfl
theorem k_79_0 : cod 79 0 = some (.inl (.aload_n 0), 1) := rfl
theorem k_79_1 : cod 79 1 = some (.inl (.iload_n 1), 1) := rfl
theorem k_79_2 : cod 79 2 = some (.inr (17, 14, 2, 1, 0), 3) := rfl
theorem k_79_5 : cod 79 5 = some (.inl (.aload_n 0), 1) := rfl
theorem k_79_6 : cod 79 6 = some (.inl (.iload_n 2), 1) := rfl
theorem k_79_7 : cod 79 7 = some (.inr (17, 14, 2, 1, 0), 3) := rfl
theorem k_79_10 : cod 79 10 = some (.inl (.iload_n 1), 1) := rfl
theorem k_79_11 : cod 79 11 = some (.inl (.iload_n 2), 1) := rfl
theorem k_79_12 : cod 79 12 = some (.inl (.if_icmp .ne 13), 3) := rfl
theorem k_79_15 : cod 79 15 = some (.inr (16, 10, 0, 0, 0), 10) := rfl
theorem k_79_25 : cod 79 25 = some (.inl .return_, 1) := rfl
theorem k_80_0 : cod 80 0 = some (.inl (.iconst 0), 1) := rfl
theorem k_80_1 : cod 80 1 = some (.inl (.istore_n 2), 1) := rfl
theorem k_80_2 : cod 80 2 = some (.inl (.iload_n 2), 1) := rfl
theorem k_80_3 : cod 80 3 = some (.inl (.aload_n 0), 1) := rfl
theorem k_80_4 : cod 80 4 = some (.inr (0, 2, 3, 0, 0), 3) := rfl
theorem k_80_7 : cod 80 7 = some (.inr (17, 6, 1, 1, 8), 3) := rfl
theorem k_80_10 : cod 80 10 = some (.inl (.if_icmp .ge 39), 3) := rfl
theorem k_80_13 : cod 80 13 = some (.inl (.aload_n 0), 1) := rfl
theorem k_80_14 : cod 80 14 = some (.inr (0, 2, 3, 0, 0), 3) := rfl
theorem k_80_17 : cod 80 17 = some (.inl (.iload_n 2), 1) := rfl
theorem k_80_18 : cod 80 18 = some (.inr (17, 29, 2, 1, 8), 3) := rfl
theorem k_80_21 : cod 80 21 = some (.inr (4, 7, 0, 0, 0), 3) := rfl
theorem k_80_24 : cod 80 24 = some (.inr (0, 7, 1, 0, 0), 3) := rfl
theorem k_80_27 : cod 80 27 = some (.inl (.iload_n 1), 1) := rfl
theorem k_80_28 : cod 80 28 = some (.inl (.if_icmp .ne 15), 3) := rfl
theorem k_80_31 : cod 80 31 = some (.inl (.aload_n 0), 1) := rfl
theorem k_80_32 : cod 80 32 = some (.inr (0, 2, 3, 0, 0), 3) := rfl
theorem k_80_35 : cod 80 35 = some (.inl (.iload_n 2), 1) := rfl
theorem k_80_36 : cod 80 36 = some (.inr (17, 81, 2, 1, 8), 3) := rfl
theorem k_80_39 : cod 80 39 = some (.inr (4, 7, 0, 0, 0), 3) := rfl
theorem k_80_42 : cod 80 42 = some (.inl .areturn, 1) := rfl
theorem k_80_43 : cod 80 43 = some (.inl (.iinc 2 1), 3) := rfl
theorem k_80_46 : cod 80 46 = some (.inl (.goto (-44)), 3) := rfl
theorem k_80_49 : cod 80 49 = some (.inl .aconst_null, 1) := rfl
theorem k_80_50 : cod 80 50 = some (.inl .areturn, 1) := rfl
theorem k_81_0 : cod 81 0 = some (.inl (.iload_n 1), 1) := rfl
theorem k_81_1 : cod 81 1 = some (.inl (.aload_n 0), 1) := rfl
theorem k_81_2 : cod 81 2 = some (.inr (0, 8, 1, 0, 0), 3) := rfl
theorem k_81_5 : cod 81 5 = some (.inr (17, 30, 2, 0, 0), 3) := rfl
theorem k_81_8 : cod 81 8 = some (.inl .pop, 1) := rfl
theorem k_81_9 : cod 81 9 = some (.inl (.aload_n 0), 1) := rfl
theorem k_81_10 : cod 81 10 = some (.inr (0, 8, 0, 0, 0), 3) := rfl
theorem k_81_13 : cod 81 13 = some (.inl (.astore_n 2), 1) := rfl
theorem k_81_14 : cod 81 14 = some (.inl (.aload_n 2), 1) := rfl
theorem k_81_15 : cod 81 15 = some (.inl (.iload_n 1), 1) := rfl
theorem k_81_16 : cod 81 16 = some (.inl .aaload, 1) := rfl
theorem k_81_17 : cod 81 17 = some (.inl (.astore_n 3), 1) := rfl
theorem k_81_18 : cod 81 18 = some (.inl (.aload_n 0), 1) := rfl
theorem k_81_19 : cod 81 19 = some (.inl (.aload_n 2), 1) := rfl
theorem k_81_20 : cod 81 20 = some (.inl (.iload_n 1), 1) := rfl
theorem k_81_21 : cod 81 21 = some (.inr (17, 82, 3, 1, 8), 3) := rfl
theorem k_81_24 : cod 81 24 = some (.inl (.aload_n 3), 1) := rfl
theorem k_81_25 : cod 81 25 = some (.inl .areturn, 1) := rfl
theorem k_82_0 : cod 82 0 = some (.inl (.aload_n 0), 1) := rfl
theorem k_82_1 : cod 82 1 = some (.inl .dup, 1) := rfl
theorem k_82_2 : cod 82 2 = some (.inr (0, 8, 2, 0, 0), 3) := rfl
theorem k_82_5 : cod 82 5 = some (.inl (.iconst 1), 1) := rfl
theorem k_82_6 : cod 82 6 = some (.inl .iadd, 1) := rfl
theorem k_82_7 : cod 82 7 = some (.inr (1, 8, 2, 0, 0), 3) := rfl
theorem k_82_10 : cod 82 10 = some (.inl (.aload_n 0), 1) := rfl
theorem k_82_11 : cod 82 11 = some (.inr (0, 8, 1, 0, 0), 3) := rfl
theorem k_82_14 : cod 82 14 = some (.inl (.iconst 1), 1) := rfl
theorem k_82_15 : cod 82 15 = some (.inl .isub, 1) := rfl
theorem k_82_16 : cod 82 16 = some (.inl .dup, 1) := rfl
theorem k_82_17 : cod 82 17 = some (.inl (.istore_n 3), 1) := rfl
theorem k_82_18 : cod 82 18 = some (.inl (.iload_n 2), 1) := rfl
theorem k_82_19 : cod 82 19 = some (.inl (.if_icmp .le 15), 3) := rfl
theorem k_82_22 : cod 82 22 = some (.inl (.aload_n 1), 1) := rfl
theorem k_82_23 : cod 82 23 = some (.inl (.iload_n 2), 1) := rfl
theorem k_82_24 : cod 82 24 = some (.inl (.iconst 1), 1) := rfl
theorem k_82_25 : cod 82 25 = some (.inl .iadd, 1) := rfl
theorem k_82_26 : cod 82 26 = some (.inl (.aload_n 1), 1) := rfl
theorem k_82_27 : cod 82 27 = some (.inl (.iload_n 2), 1) := rfl
theorem k_82_28 : cod 82 28 = some (.inl (.iload_n 3), 1) := rfl
theorem k_82_29 : cod 82 29 = some (.inl (.iload_n 2), 1) := rfl
theorem k_82_30 : cod 82 30 = some (.inl .isub, 1) := rfl
theorem k_82_31 : cod 82 31 = some (.inr (9, 0, 0, 0, 0), 3) := rfl
theorem k_82_34 : cod 82 34 = some (.inl (.aload_n 1), 1) := rfl
theorem k_82_35 : cod 82 35 = some (.inl (.aload_n 0), 1) := rfl
theorem k_82_36 : cod 82 36 = some (.inl (.iload_n 3), 1) := rfl
theorem k_82_37 : cod 82 37 = some (.inl .dup_x1, 1) := rfl
theorem k_82_38 : cod 82 38 = some (.inr (1, 8, 1, 0, 0), 3) := rfl
theorem k_82_41 : cod 82 41 = some (.inl .aconst_null, 1) := rfl
theorem k_82_42 : cod 82 42 = some (.inl .aastore, 1) := rfl
theorem k_82_43 : cod 82 43 = some (.inl .return_, 1) := rfl
theorem k_83_0 : cod 83 0 = some (.inl (.aload_n 1), 1) := rfl
theorem k_83_1 : cod 83 1 = some (.inr (0, 7, 2, 0, 0), 3) := rfl
theorem k_83_4 : cod 83 4 = some (.inl (.astore_n 3), 1) := rfl
theorem k_83_5 : cod 83 5 = some (.inl (.aload_n 1), 1) := rfl
theorem k_83_6 : cod 83 6 = some (.inr (0, 7, 0, 0, 0), 3) := rfl
theorem k_83_9 : cod 83 9 = some (.inl (.tableswitch 68 1 4 #[31, 40, 48, 60]), 31) := rfl
theorem k_83_40 : cod 83 40 = some (.inl (.aload_n 0), 1) := rfl
theorem k_83_41 : cod 83 41 = some (.inl (.aload_n 3), 1) := rfl
theorem k_83_42 : cod 83 42 = some (.inl (.aload_n 2), 1) := rfl
theorem k_83_43 : cod 83 43 = some (.inr (17, 84, 3, 1, 0), 3) := rfl
theorem k_83_46 : cod 83 46 = some (.inl (.goto 36), 3) := rfl
theorem k_83_49 : cod 83 49 = some (.inl (.aload_n 0), 1) := rfl
theorem k_83_50 : cod 83 50 = some (.inl (.aload_n 3), 1) := rfl
theorem k_83_51 : cod 83 51 = some (.inr (17, 85, 2, 1, 0), 3) := rfl
theorem k_83_54 : cod 83 54 = some (.inl (.goto 28), 3) := rfl
theorem k_83_57 : cod 83 57 = some (.inl (.aload_n 0), 1) := rfl
theorem k_83_58 : cod 83 58 = some (.inl (.aload_n 3), 1) := rfl
theorem k_83_59 : cod 83 59 = some (.inl (.aload_n 1), 1) := rfl
theorem k_83_60 : cod 83 60 = some (.inr (0, 7, 1, 0, 0), 3) := rfl
theorem k_83_63 : cod 83 63 = some (.inr (17, 86, 3, 1, 0), 3) := rfl
theorem k_83_66 : cod 83 66 = some (.inl (.goto 16), 3) := rfl
theorem k_83_69 : cod 83 69 = some (.inl (.aload_n 3), 1) := rfl
theorem k_83_70 : cod 83 70 = some (.inl (.aload_n 2), 1) := rfl
theorem k_83_71 : cod 83 71 = some (.inr (17, 71, 2, 1, 4), 3) := rfl
theorem k_83_74 : cod 83 74 = some (.inl (.goto 8), 3) := rfl
theorem k_83_77 : cod 83 77 = some (.inl (.aload_n 2), 1) := rfl
theorem k_83_78 : cod 83 78 = some (.inl (.aload_n 3), 1) := rfl
theorem k_83_79 : cod 83 79 = some (.inr (17, 87, 2, 1, 2), 3) := rfl
theorem k_83_82 : cod 83 82 = some (.inl .return_, 1) := rfl
theorem k_84_0 : cod 84 0 = some (.inl (.iconst 3), 1) := rfl
theorem k_84_1 : cod 84 1 = some (.inl (.istore_n 3), 1) := rfl
theorem k_84_2 : cod 84 2 = some (.inl (.aload_n 1), 1) := rfl
theorem k_84_3 : cod 84 3 = some (.inl (.aload_n 2), 1) := rfl
theorem k_84_4 : cod 84 4 = some (.inr (17, 63, 2, 1, 4), 3) := rfl
theorem k_84_7 : cod 84 7 = some (.inl (.ifCond .ne 10), 3) := rfl
theorem k_84_10 : cod 84 10 = some (.inl (.aload_n 1), 1) := rfl
theorem k_84_11 : cod 84 11 = some (.inl (.aload_n 2), 1) := rfl
theorem k_84_12 : cod 84 12 = some (.inr (17, 73, 2, 1, 4), 3) := rfl
theorem k_84_15 : cod 84 15 = some (.inl (.iconst 2), 1) := rfl
theorem k_84_16 : cod 84 16 = some (.inl (.istore_n 3), 1) := rfl
theorem k_84_17 : cod 84 17 = some (.inl (.aload_n 0), 1) := rfl
theorem k_84_18 : cod 84 18 = some (.inr (0, 0, 0, 0, 0), 3) := rfl
theorem k_84_21 : cod 84 21 = some (.inl (.aload_n 1), 1) := rfl
theorem k_84_22 : cod 84 22 = some (.inr (0, 4, 1, 0, 0), 3) := rfl
theorem k_84_25 : cod 84 25 = some (.inl .aaload, 1) := rfl
theorem k_84_26 : cod 84 26 = some (.inr (0, 2, 3, 0, 0), 3) := rfl
theorem k_84_29 : cod 84 29 = some (.inr (2, 7, 3, 0, 0), 3) := rfl
theorem k_84_32 : cod 84 32 = some (.inl .dup, 1) := rfl
theorem k_84_33 : cod 84 33 = some (.inl (.iload_n 3), 1) := rfl
theorem k_84_34 : cod 84 34 = some (.inl (.aload_n 2), 1) := rfl
theorem k_84_35 : cod 84 35 = some (.inr (0, 2, 0, 0, 0), 3) := rfl
theorem k_84_38 : cod 84 38 = some (.inl (.aload_n 1), 1) := rfl
theorem k_84_39 : cod 84 39 = some (.inr (17, 72, 4, 2, 0), 3) := rfl
theorem k_84_42 : cod 84 42 = some (.inr (17, 16, 2, 1, 8), 3) := rfl
theorem k_84_45 : cod 84 45 = some (.inl .pop, 1) := rfl
theorem k_84_46 : cod 84 46 = some (.inl .return_, 1) := rfl
theorem k_85_0 : cod 85 0 = some (.inl (.aload_n 1), 1) := rfl
theorem k_85_1 : cod 85 1 = some (.inr (0, 4, 5, 0, 0), 3) := rfl
theorem k_85_4 : cod 85 4 = some (.inl (.iconst 3), 1) := rfl
theorem k_85_5 : cod 85 5 = some (.inl (.if_icmp .eq 4), 3) := rfl
theorem k_85_8 : cod 85 8 = some (.inl .return_, 1) := rfl
theorem k_85_9 : cod 85 9 = some (.inl (.aload_n 1), 1) := rfl
theorem k_85_10 : cod 85 10 = some (.inl .dup, 1) := rfl
theorem k_85_11 : cod 85 11 = some (.inr (0, 4, 7, 0, 0), 3) := rfl
theorem k_85_14 : cod 85 14 = some (.inl (.iconst 1), 1) := rfl
theorem k_85_15 : cod 85 15 = some (.inl .isub, 1) := rfl
theorem k_85_16 : cod 85 16 = some (.inr (1, 4, 7, 0, 0), 3) := rfl
theorem k_85_19 : cod 85 19 = some (.inl (.aload_n 1), 1) := rfl
theorem k_85_20 : cod 85 20 = some (.inr (0, 4, 7, 0, 0), 3) := rfl
theorem k_85_23 : cod 85 23 = some (.inl (.ifCond .ne 8), 3) := rfl
theorem k_85_26 : cod 85 26 = some (.inl (.aload_n 0), 1) := rfl
theorem k_85_27 : cod 85 27 = some (.inl (.aload_n 1), 1) := rfl
theorem k_85_28 : cod 85 28 = some (.inr (17, 68, 2, 1, 0), 3) := rfl
theorem k_85_31 : cod 85 31 = some (.inl .return_, 1) := rfl
theorem k_86_0 : cod 86 0 = some (.inl (.aload_n 1), 1) := rfl
theorem k_86_1 : cod 86 1 = some (.inr (0, 4, 5, 0, 0), 3) := rfl
theorem k_86_4 : cod 86 4 = some (.inl (.iconst 3), 1) := rfl
theorem k_86_5 : cod 86 5 = some (.inl (.if_icmp .eq 4), 3) := rfl
theorem k_86_8 : cod 86 8 = some (.inl .return_, 1) := rfl
theorem k_86_9 : cod 86 9 = some (.inl (.aload_n 1), 1) := rfl
theorem k_86_10 : cod 86 10 = some (.inl (.iconst 2), 1) := rfl
theorem k_86_11 : cod 86 11 = some (.inr (1, 4, 5, 0, 0), 3) := rfl
theorem k_86_14 : cod 86 14 = some (.inl (.aload_n 1), 1) := rfl
theorem k_86_15 : cod 86 15 = some (.inl (.aload_n 0), 1) := rfl
theorem k_86_16 : cod 86 16 = some (.inr (0, 0, 0, 0, 0), 3) := rfl
theorem k_86_19 : cod 86 19 = some (.inl (.aload_n 1), 1) := rfl
theorem k_86_20 : cod 86 20 = some (.inr (0, 4, 1, 0, 0), 3) := rfl
theorem k_86_23 : cod 86 23 = some (.inl .aaload, 1) := rfl
theorem k_86_24 : cod 86 24 = some (.inr (17, 71, 2, 1, 4), 3) := rfl
theorem k_86_27 : cod 86 27 = some (.inl (.aload_n 0), 1) := rfl
theorem k_86_28 : cod 86 28 = some (.inl (.aload_n 1), 1) := rfl
theorem k_86_29 : cod 86 29 = some (.inl (.iconst 4), 1) := rfl
theorem k_86_30 : cod 86 30 = some (.inl (.iload_n 2), 1) := rfl
theorem k_86_31 : cod 86 31 = some (.inr (17, 74, 4, 1, 0), 3) := rfl
theorem k_86_34 : cod 86 34 = some (.inl .return_, 1) := rfl
theorem k_87_0 : cod 87 0 = some (.inl (.aload_n 0), 1) := rfl
theorem k_87_1 : cod 87 1 = some (.inl (.aload_n 1), 1) := rfl
theorem k_87_2 : cod 87 2 = some (.inr (17, 88, 2, 1, 2), 3) := rfl
theorem k_87_5 : cod 87 5 = some (.inl (.ifCond .eq 15), 3) := rfl
theorem k_87_8 : cod 87 8 = some (.inl (.aload_n 0), 1) := rfl
theorem k_87_9 : cod 87 9 = some (.inl (.aload_n 1), 1) := rfl
theorem k_87_10 : cod 87 10 = some (.inr (17, 70, 2, 1, 2), 3) := rfl
theorem k_87_13 : cod 87 13 = some (.inl (.aload_n 0), 1) := rfl
theorem k_87_14 : cod 87 14 = some (.inr (17, 89, 1, 1, 2), 3) := rfl
theorem k_87_17 : cod 87 17 = some (.inl (.goto 12), 3) := rfl
theorem k_87_20 : cod 87 20 = some (.inl (.aload_n 0), 1) := rfl
theorem k_87_21 : cod 87 21 = some (.inr (0, 2, 2, 0, 0), 3) := rfl
theorem k_87_24 : cod 87 24 = some (.inl (.aload_n 1), 1) := rfl
theorem k_87_25 : cod 87 25 = some (.inr (17, 16, 2, 1, 8), 3) := rfl
theorem k_87_28 : cod 87 28 = some (.inl .pop, 1) := rfl
theorem k_87_29 : cod 87 29 = some (.inl .return_, 1) := rfl
theorem k_88_0 : cod 88 0 = some (.inl (.aload_n 0), 1) := rfl
theorem k_88_1 : cod 88 1 = some (.inr (0, 2, 1, 0, 0), 3) := rfl
theorem k_88_4 : cod 88 4 = some (.inl (.aload_n 1), 1) := rfl
theorem k_88_5 : cod 88 5 = some (.inr (0, 4, 1, 0, 0), 3) := rfl
theorem k_88_8 : cod 88 8 = some (.inl .iaload, 1) := rfl
theorem k_88_9 : cod 88 9 = some (.inl (.aload_n 1), 1) := rfl
theorem k_88_10 : cod 88 10 = some (.inr (0, 4, 6, 0, 0), 3) := rfl
theorem k_88_13 : cod 88 13 = some (.inl (.iconst 1), 1) := rfl
theorem k_88_14 : cod 88 14 = some (.inl .isub, 1) := rfl
theorem k_88_15 : cod 88 15 = some (.inl (.if_icmp .eq 5), 3) := rfl
theorem k_88_18 : cod 88 18 = some (.inl (.iconst 0), 1) := rfl
theorem k_88_19 : cod 88 19 = some (.inl .ireturn, 1) := rfl
theorem k_88_20 : cod 88 20 = some (.inl (.iconst 0), 1) := rfl
theorem k_88_21 : cod 88 21 = some (.inl (.istore_n 2), 1) := rfl
theorem k_88_22 : cod 88 22 = some (.inl (.iload_n 2), 1) := rfl
theorem k_88_23 : cod 88 23 = some (.inl (.aload_n 0), 1) := rfl
theorem k_88_24 : cod 88 24 = some (.inr (0, 2, 1, 0, 0), 3) := rfl
theorem k_88_27 : cod 88 27 = some (.inl .arraylength, 1) := rfl
theorem k_88_28 : cod 88 28 = some (.inl (.if_icmp .ge 26), 3) := rfl
theorem k_88_31 : cod 88 31 = some (.inl (.aload_n 0), 1) := rfl
theorem k_88_32 : cod 88 32 = some (.inr (0, 2, 1, 0, 0), 3) := rfl
theorem k_88_35 : cod 88 35 = some (.inl (.iload_n 2), 1) := rfl
theorem k_88_36 : cod 88 36 = some (.inl .iaload, 1) := rfl
theorem k_88_37 : cod 88 37 = some (.inl (.aload_n 1), 1) := rfl
theorem k_88_38 : cod 88 38 = some (.inr (0, 4, 2, 0, 0), 3) := rfl
theorem k_88_41 : cod 88 41 = some (.inl (.iload_n 2), 1) := rfl
theorem k_88_42 : cod 88 42 = some (.inl .iaload, 1) := rfl
theorem k_88_43 : cod 88 43 = some (.inl (.if_icmp .ge 5), 3) := rfl
theorem k_88_46 : cod 88 46 = some (.inl (.iconst 0), 1) := rfl
theorem k_88_47 : cod 88 47 = some (.inl .ireturn, 1) := rfl
theorem k_88_48 : cod 88 48 = some (.inl (.iinc 2 1), 3) := rfl
theorem k_88_51 : cod 88 51 = some (.inl (.goto (-29)), 3) := rfl
theorem k_88_54 : cod 88 54 = some (.inl (.iconst 1), 1) := rfl
theorem k_88_55 : cod 88 55 = some (.inl .ireturn, 1) := rfl
theorem k_89_0 : cod 89 0 = some (.inl (.aload_n 0), 1) := rfl
theorem k_89_1 : cod 89 1 = some (.inr (0, 2, 2, 0, 0), 3) := rfl
theorem k_89_4 : cod 89 4 = some (.inr (17, 6, 1, 1, 8), 3) := rfl
theorem k_89_7 : cod 89 7 = some (.inl (.istore_n 1), 1) := rfl
theorem k_89_8 : cod 89 8 = some (.inl (.iload_n 1), 1) := rfl
theorem k_89_9 : cod 89 9 = some (.inl (.ifCond .le 34), 3) := rfl
theorem k_89_12 : cod 89 12 = some (.inl (.aload_n 0), 1) := rfl
theorem k_89_13 : cod 89 13 = some (.inr (17, 90, 1, 1, 2), 3) := rfl
theorem k_89_16 : cod 89 16 = some (.inl (.istore_n 2), 1) := rfl
theorem k_89_17 : cod 89 17 = some (.inl (.iload_n 2), 1) := rfl
theorem k_89_18 : cod 89 18 = some (.inl (.ifCond .ge 4), 3) := rfl
theorem k_89_21 : cod 89 21 = some (.inl .return_, 1) := rfl
theorem k_89_22 : cod 89 22 = some (.inl (.aload_n 0), 1) := rfl
theorem k_89_23 : cod 89 23 = some (.inl (.aload_n 0), 1) := rfl
theorem k_89_24 : cod 89 24 = some (.inr (0, 2, 2, 0, 0), 3) := rfl
theorem k_89_27 : cod 89 27 = some (.inl (.iload_n 2), 1) := rfl
theorem k_89_28 : cod 89 28 = some (.inr (17, 81, 2, 1, 8), 3) := rfl
theorem k_89_31 : cod 89 31 = some (.inr (4, 4, 0, 0, 0), 3) := rfl
theorem k_89_34 : cod 89 34 = some (.inr (17, 70, 2, 1, 2), 3) := rfl
theorem k_89_37 : cod 89 37 = some (.inl (.iinc 1 (-1)), 3) := rfl
theorem k_89_40 : cod 89 40 = some (.inl (.goto (-32)), 3) := rfl
theorem k_89_43 : cod 89 43 = some (.inl .return_, 1) := rfl
theorem k_90_0 : cod 90 0 = some (.inl (.iconst 0), 1) := rfl
theorem k_90_1 : cod 90 1 = some (.inl (.istore_n 1), 1) := rfl
theorem k_90_2 : cod 90 2 = some (.inl (.iload_n 1), 1) := rfl
theorem k_90_3 : cod 90 3 = some (.inl (.aload_n 0), 1) := rfl
theorem k_90_4 : cod 90 4 = some (.inr (0, 2, 2, 0, 0), 3) := rfl
theorem k_90_7 : cod 90 7 = some (.inr (17, 6, 1, 1, 8), 3) := rfl
theorem k_90_10 : cod 90 10 = some (.inl (.if_icmp .ge 29), 3) := rfl
theorem k_90_13 : cod 90 13 = some (.inl (.aload_n 0), 1) := rfl
theorem k_90_14 : cod 90 14 = some (.inl (.aload_n 0), 1) := rfl
theorem k_90_15 : cod 90 15 = some (.inr (0, 2, 2, 0, 0), 3) := rfl
theorem k_90_18 : cod 90 18 = some (.inl (.iload_n 1), 1) := rfl
theorem k_90_19 : cod 90 19 = some (.inr (17, 29, 2, 1, 8), 3) := rfl
theorem k_90_22 : cod 90 22 = some (.inr (4, 4, 0, 0, 0), 3) := rfl
theorem k_90_25 : cod 90 25 = some (.inr (17, 88, 2, 1, 2), 3) := rfl
theorem k_90_28 : cod 90 28 = some (.inl (.ifCond .eq 5), 3) := rfl
theorem k_90_31 : cod 90 31 = some (.inl (.iload_n 1), 1) := rfl
theorem k_90_32 : cod 90 32 = some (.inl .ireturn, 1) := rfl
theorem k_90_33 : cod 90 33 = some (.inl (.iinc 1 1), 3) := rfl
theorem k_90_36 : cod 90 36 = some (.inl (.goto (-34)), 3) := rfl
theorem k_90_39 : cod 90 39 = some (.inl (.iconst (-1)), 1) := rfl
theorem k_90_40 : cod 90 40 = some (.inl .ireturn, 1) := rfl
theorem k_91_0 : cod 91 0 = some (.inl (.aload_n 3), 1) := rfl
theorem k_91_1 : cod 91 1 = some (.inl (.iconst 0), 1) := rfl
theorem k_91_2 : cod 91 2 = some (.inl (.aload_n 0), 1) := rfl
theorem k_91_3 : cod 91 3 = some (.inl (.iload_n 1), 1) := rfl
theorem k_91_4 : cod 91 4 = some (.inl (.iload_n 2), 1) := rfl
theorem k_91_5 : cod 91 5 = some (.inr (17, 92, 3, 1, 0), 3) := rfl
theorem k_91_8 : cod 91 8 = some (.inl .i2l, 1) := rfl
theorem k_91_9 : cod 91 9 = some (.inl .lastore, 1) := rfl
theorem k_91_10 : cod 91 10 = some (.inl (.goto 11), 3) := rfl
theorem k_91_13 : cod 91 13 = some (.inl (.astore 4), 2) := rfl
theorem k_91_15 : cod 91 15 = some (.inl (.iconst 1), 1) := rfl
theorem k_91_16 : cod 91 16 = some (.inl .ireturn, 1) := rfl
theorem k_91_17 : cod 91 17 = some (.inl (.astore 4), 2) := rfl
theorem k_91_19 : cod 91 19 = some (.inl (.iconst 2), 1) := rfl
theorem k_91_20 : cod 91 20 = some (.inl .ireturn, 1) := rfl
theorem k_91_21 : cod 91 21 = some (.inl (.iconst 0), 1) := rfl
theorem k_91_22 : cod 91 22 = some (.inl .ireturn, 1) := rfl
theorem k_92_0 : cod 92 0 = some (.inl (.aload_n 0), 1) := rfl
theorem k_92_1 : cod 92 1 = some (.inl (.iload_n 1), 1) := rfl
theorem k_92_2 : cod 92 2 = some (.inl (.iload_n 2), 1) := rfl
theorem k_92_3 : cod 92 3 = some (.inr (17, 79, 3, 1, 0), 3) := rfl
theorem k_92_6 : cod 92 6 = some (.inl (.aload_n 0), 1) := rfl
theorem k_92_7 : cod 92 7 = some (.inr (0, 0, 0, 0, 0), 3) := rfl
theorem k_92_10 : cod 92 10 = some (.inl (.iload_n 2), 1) := rfl
theorem k_92_11 : cod 92 11 = some (.inl .aaload, 1) := rfl
theorem k_92_12 : cod 92 12 = some (.inl (.iload_n 1), 1) := rfl
theorem k_92_13 : cod 92 13 = some (.inr (17, 93, 2, 1, 2), 3) := rfl
theorem k_92_16 : cod 92 16 = some (.inl .ireturn, 1) := rfl
theorem k_93_0 : cod 93 0 = some (.inl (.iconst 0), 1) := rfl
theorem k_93_1 : cod 93 1 = some (.inl (.istore_n 2), 1) := rfl
theorem k_93_2 : cod 93 2 = some (.inl (.iconst 0), 1) := rfl
theorem k_93_3 : cod 93 3 = some (.inl (.istore_n 3), 1) := rfl
theorem k_93_4 : cod 93 4 = some (.inl (.iload_n 3), 1) := rfl
theorem k_93_5 : cod 93 5 = some (.inl (.aload_n 0), 1) := rfl
theorem k_93_6 : cod 93 6 = some (.inr (0, 2, 3, 0, 0), 3) := rfl
theorem k_93_9 : cod 93 9 = some (.inr (17, 6, 1, 1, 8), 3) := rfl
theorem k_93_12 : cod 93 12 = some (.inl (.if_icmp .ge 30), 3) := rfl
theorem k_93_15 : cod 93 15 = some (.inl (.aload_n 0), 1) := rfl
theorem k_93_16 : cod 93 16 = some (.inr (0, 2, 3, 0, 0), 3) := rfl
theorem k_93_19 : cod 93 19 = some (.inl (.iload_n 3), 1) := rfl
theorem k_93_20 : cod 93 20 = some (.inr (17, 29, 2, 1, 8), 3) := rfl
theorem k_93_23 : cod 93 23 = some (.inr (4, 7, 0, 0, 0), 3) := rfl
theorem k_93_26 : cod 93 26 = some (.inr (0, 7, 1, 0, 0), 3) := rfl
theorem k_93_29 : cod 93 29 = some (.inl (.iload_n 1), 1) := rfl
theorem k_93_30 : cod 93 30 = some (.inl (.if_icmp .ne 6), 3) := rfl
theorem k_93_33 : cod 93 33 = some (.inl (.iinc 2 1), 3) := rfl
theorem k_93_36 : cod 93 36 = some (.inl (.iinc 3 1), 3) := rfl
theorem k_93_39 : cod 93 39 = some (.inl (.goto (-35)), 3) := rfl
theorem k_93_42 : cod 93 42 = some (.inl (.iload_n 2), 1) := rfl
theorem k_93_43 : cod 93 43 = some (.inl .ireturn, 1) := rfl
theorem k_94_0 : cod 94 0 = some (.inl (.aload_n 3), 1) := rfl
theorem k_94_1 : cod 94 1 = some (.inl (.iconst 0), 1) := rfl
theorem k_94_2 : cod 94 2 = some (.inl (.aload_n 0), 1) := rfl
theorem k_94_3 : cod 94 3 = some (.inl (.iload_n 1), 1) := rfl
theorem k_94_4 : cod 94 4 = some (.inl (.iload_n 2), 1) := rfl
theorem k_94_5 : cod 94 5 = some (.inr (17, 95, 3, 1, 0), 3) := rfl
theorem k_94_8 : cod 94 8 = some (.inl .i2l, 1) := rfl
theorem k_94_9 : cod 94 9 = some (.inl .lastore, 1) := rfl
theorem k_94_10 : cod 94 10 = some (.inl (.goto 11), 3) := rfl
theorem k_94_13 : cod 94 13 = some (.inl (.astore 4), 2) := rfl
theorem k_94_15 : cod 94 15 = some (.inl (.iconst 1), 1) := rfl
theorem k_94_16 : cod 94 16 = some (.inl .ireturn, 1) := rfl
theorem k_94_17 : cod 94 17 = some (.inl (.astore 4), 2) := rfl
theorem k_94_19 : cod 94 19 = some (.inl (.iconst 2), 1) := rfl
theorem k_94_20 : cod 94 20 = some (.inl .ireturn, 1) := rfl
theorem k_94_21 : cod 94 21 = some (.inl (.iconst 0), 1) := rfl
theorem k_94_22 : cod 94 22 = some (.inl .ireturn, 1) := rfl
theorem k_95_0 : cod 95 0 = some (.inl (.aload_n 0), 1) := rfl
theorem k_95_1 : cod 95 1 = some (.inl (.iload_n 1), 1) := rfl
theorem k_95_2 : cod 95 2 = some (.inr (17, 14, 2, 1, 0), 3) := rfl
theorem k_95_5 : cod 95 5 = some (.inl (.aload_n 0), 1) := rfl
theorem k_95_6 : cod 95 6 = some (.inl (.iload_n 2), 1) := rfl
theorem k_95_7 : cod 95 7 = some (.inr (17, 14, 2, 1, 0), 3) := rfl
theorem k_95_10 : cod 95 10 = some (.inl (.aload_n 0), 1) := rfl
theorem k_95_11 : cod 95 11 = some (.inr (0, 0, 0, 0, 0), 3) := rfl
theorem k_95_14 : cod 95 14 = some (.inl (.iload_n 1), 1) := rfl
theorem k_95_15 : cod 95 15 = some (.inl .aaload, 1) := rfl
theorem k_95_16 : cod 95 16 = some (.inr (0, 2, 1, 0, 0), 3) := rfl
theorem k_95_19 : cod 95 19 = some (.inl (.iload_n 2), 1) := rfl
theorem k_95_20 : cod 95 20 = some (.inl .iaload, 1) := rfl
theorem k_95_21 : cod 95 21 = some (.inl .ireturn, 1) := rfl
theorem k_96_0 : cod 96 0 = some (.inl (.aload_n 3), 1) := rfl
theorem k_96_1 : cod 96 1 = some (.inl (.iconst 0), 1) := rfl
theorem k_96_2 : cod 96 2 = some (.inl (.aload_n 0), 1) := rfl
theorem k_96_3 : cod 96 3 = some (.inl (.iload_n 1), 1) := rfl
theorem k_96_4 : cod 96 4 = some (.inl (.iload_n 2), 1) := rfl
theorem k_96_5 : cod 96 5 = some (.inr (17, 97, 3, 1, 0), 3) := rfl
theorem k_96_8 : cod 96 8 = some (.inl .i2l, 1) := rfl
theorem k_96_9 : cod 96 9 = some (.inl .lastore, 1) := rfl
theorem k_96_10 : cod 96 10 = some (.inl (.goto 11), 3) := rfl
theorem k_96_13 : cod 96 13 = some (.inl (.astore 4), 2) := rfl
theorem k_96_15 : cod 96 15 = some (.inl (.iconst 1), 1) := rfl
theorem k_96_16 : cod 96 16 = some (.inl .ireturn, 1) := rfl
theorem k_96_17 : cod 96 17 = some (.inl (.astore 4), 2) := rfl
theorem k_96_19 : cod 96 19 = some (.inl (.iconst 2), 1) := rfl
theorem k_96_20 : cod 96 20 = some (.inl .ireturn, 1) := rfl
theorem k_96_21 : cod 96 21 = some (.inl (.iconst 0), 1) := rfl
theorem k_96_22 : cod 96 22 = some (.inl .ireturn, 1) := rfl
theorem k_97_0 : cod 97 0 = some (.inl (.aload_n 0), 1) := rfl
theorem k_97_1 : cod 97 1 = some (.inl (.iload_n 1), 1) := rfl
theorem k_97_2 : cod 97 2 = some (.inr (17, 28, 2, 1, 0), 3) := rfl
theorem k_97_5 : cod 97 5 = some (.inl (.astore_n 3), 1) := rfl
theorem k_97_6 : cod 97 6 = some (.inl (.iload_n 2), 1) := rfl
theorem k_97_7 : cod 97 7 = some (.inl (.tableswitch 62 0 3 #[29, 34, 39, 45]), 29) := rfl
theorem k_97_36 : cod 97 36 = some (.inl (.aload_n 3), 1) := rfl
theorem k_97_37 : cod 97 37 = some (.inr (0, 4, 5, 0, 0), 3) := rfl
theorem k_97_40 : cod 97 40 = some (.inl .ireturn, 1) := rfl
theorem k_97_41 : cod 97 41 = some (.inl (.aload_n 3), 1) := rfl
theorem k_97_42 : cod 97 42 = some (.inr (0, 4, 6, 0, 0), 3) := rfl
theorem k_97_45 : cod 97 45 = some (.inl .ireturn, 1) := rfl
theorem k_97_46 : cod 97 46 = some (.inl (.aload_n 0), 1) := rfl
theorem k_97_47 : cod 97 47 = some (.inl (.aload_n 3), 1) := rfl
theorem k_97_48 : cod 97 48 = some (.inr (17, 98, 2, 1, 0), 3) := rfl
theorem k_97_51 : cod 97 51 = some (.inl .ireturn, 1) := rfl
theorem k_97_52 : cod 97 52 = some (.inl (.aload_n 3), 1) := rfl
theorem k_97_53 : cod 97 53 = some (.inr (0, 4, 5, 0, 0), 3) := rfl
theorem k_97_56 : cod 97 56 = some (.inl (.iconst 3), 1) := rfl
theorem k_97_57 : cod 97 57 = some (.inl (.if_icmp .ne 10), 3) := rfl
theorem k_97_60 : cod 97 60 = some (.inl (.aload_n 3), 1) := rfl
theorem k_97_61 : cod 97 61 = some (.inr (0, 4, 7, 0, 0), 3) := rfl
theorem k_97_64 : cod 97 64 = some (.inl (.goto 4), 3) := rfl
theorem k_97_67 : cod 97 67 = some (.inl (.iconst 0), 1) := rfl
theorem k_97_68 : cod 97 68 = some (.inl .ireturn, 1) := rfl
theorem k_97_69 : cod 97 69 = some (.inr (16, 10, 0, 0, 0), 10) := rfl
theorem k_98_0 : cod 98 0 = some (.inl (.iconst 0), 1) := rfl
theorem k_98_1 : cod 98 1 = some (.inl (.istore_n 2), 1) := rfl
theorem k_98_2 : cod 98 2 = some (.inl (.iconst 0), 1) := rfl
theorem k_98_3 : cod 98 3 = some (.inl (.istore_n 3), 1) := rfl
theorem k_98_4 : cod 98 4 = some (.inl (.iload_n 3), 1) := rfl
theorem k_98_5 : cod 98 5 = some (.inl (.aload_n 0), 1) := rfl
theorem k_98_6 : cod 98 6 = some (.inr (0, 0, 0, 0, 0), 3) := rfl
theorem k_98_9 : cod 98 9 = some (.inl .arraylength, 1) := rfl
theorem k_98_10 : cod 98 10 = some (.inl (.if_icmp .ge 25), 3) := rfl
theorem k_98_13 : cod 98 13 = some (.inl (.aload_n 0), 1) := rfl
theorem k_98_14 : cod 98 14 = some (.inr (0, 0, 0, 0, 0), 3) := rfl
theorem k_98_17 : cod 98 17 = some (.inl (.iload_n 3), 1) := rfl
theorem k_98_18 : cod 98 18 = some (.inl .aaload, 1) := rfl
theorem k_98_19 : cod 98 19 = some (.inl (.aload_n 1), 1) := rfl
theorem k_98_20 : cod 98 20 = some (.inr (17, 65, 2, 1, 2), 3) := rfl
theorem k_98_23 : cod 98 23 = some (.inl (.ifCond .eq 6), 3) := rfl
theorem k_98_26 : cod 98 26 = some (.inl (.iinc 2 1), 3) := rfl
theorem k_98_29 : cod 98 29 = some (.inl (.iinc 3 1), 3) := rfl
theorem k_98_32 : cod 98 32 = some (.inl (.goto (-28)), 3) := rfl
theorem k_98_35 : cod 98 35 = some (.inl (.iload_n 2), 1) := rfl
theorem k_98_36 : cod 98 36 = some (.inl .ireturn, 1) := rfl
theorem k_99_0 : cod 99 0 = some (.inl (.aload_n 2), 1) := rfl
theorem k_99_1 : cod 99 1 = some (.inl (.iconst 0), 1) := rfl
theorem k_99_2 : cod 99 2 = some (.inl (.aload_n 0), 1) := rfl
theorem k_99_3 : cod 99 3 = some (.inl (.iload_n 1), 1) := rfl
theorem k_99_4 : cod 99 4 = some (.inr (17, 100, 2, 1, 0), 3) := rfl
theorem k_99_7 : cod 99 7 = some (.inl .i2l, 1) := rfl
theorem k_99_8 : cod 99 8 = some (.inl .lastore, 1) := rfl
theorem k_99_9 : cod 99 9 = some (.inl (.goto 9), 3) := rfl
theorem k_99_12 : cod 99 12 = some (.inl (.astore_n 3), 1) := rfl
theorem k_99_13 : cod 99 13 = some (.inl (.iconst 1), 1) := rfl
theorem k_99_14 : cod 99 14 = some (.inl .ireturn, 1) := rfl
theorem k_99_15 : cod 99 15 = some (.inl (.astore_n 3), 1) := rfl
theorem k_99_16 : cod 99 16 = some (.inl (.iconst 2), 1) := rfl
theorem k_99_17 : cod 99 17 = some (.inl .ireturn, 1) := rfl
theorem k_99_18 : cod 99 18 = some (.inl (.iconst 0), 1) := rfl
theorem k_99_19 : cod 99 19 = some (.inl .ireturn, 1) := rfl
theorem k_100_0 : cod 100 0 = some (.inl (.aload_n 0), 1) := rfl
theorem k_100_1 : cod 100 1 = some (.inl (.iload_n 1), 1) := rfl
theorem k_100_2 : cod 100 2 = some (.inr (17, 34, 2, 1, 0), 3) := rfl
theorem k_100_5 : cod 100 5 = some (.inr (0, 3, 4, 0, 0), 3) := rfl
theorem k_100_8 : cod 100 8 = some (.inl .ireturn, 1) := rfl
theorem k_101_0 : cod 101 0 = some (.inl (.aload_n 0), 1) := rfl
theorem k_101_1 : cod 101 1 = some (.inr (7, 0, 0, 0, 0), 3) := rfl
theorem k_101_4 : cod 101 4 = some (.inl (.aload_n 0), 1) := rfl
theorem k_101_5 : cod 101 5 = some (.inl (.sipush 200), 3) := rfl
theorem k_101_8 : cod 101 8 = some (.inl (.newarray .int), 2) := rfl
theorem k_101_10 : cod 101 10 = some (.inr (1, 9, 7, 3, 0), 3) := rfl
theorem k_101_13 : cod 101 13 = some (.inl (.aload_n 0), 1) := rfl
theorem k_101_14 : cod 101 14 = some (.inl (.sipush 200), 3) := rfl
theorem k_101_17 : cod 101 17 = some (.inl (.newarray .int), 2) := rfl
theorem k_101_19 : cod 101 19 = some (.inr (1, 9, 8, 3, 0), 3) := rfl
theorem k_101_22 : cod 101 22 = some (.inl (.aload_n 0), 1) := rfl
theorem k_101_23 : cod 101 23 = some (.inl (.sipush 200), 3) := rfl
theorem k_101_26 : cod 101 26 = some (.inl (.newarray .boolean), 2) := rfl
theorem k_101_28 : cod 101 28 = some (.inr (1, 9, 9, 3, 0), 3) := rfl
theorem k_101_31 : cod 101 31 = some (.inl (.aload_n 0), 1) := rfl
theorem k_101_32 : cod 101 32 = some (.inl (.sipush 500), 3) := rfl
theorem k_101_35 : cod 101 35 = some (.inl (.newarray .int), 2) := rfl
theorem k_101_37 : cod 101 37 = some (.inr (1, 9, 10, 3, 0), 3) := rfl
theorem k_101_40 : cod 101 40 = some (.inl (.aload_n 0), 1) := rfl
theorem k_101_41 : cod 101 41 = some (.inl (.sipush 500), 3) := rfl
theorem k_101_44 : cod 101 44 = some (.inl (.newarray .int), 2) := rfl
theorem k_101_46 : cod 101 46 = some (.inr (1, 9, 11, 3, 0), 3) := rfl
theorem k_101_49 : cod 101 49 = some (.inl (.aload_n 0), 1) := rfl
theorem k_101_50 : cod 101 50 = some (.inl (.sipush 500), 3) := rfl
theorem k_101_53 : cod 101 53 = some (.inl (.newarray .int), 2) := rfl
theorem k_101_55 : cod 101 55 = some (.inr (1, 9, 12, 3, 0), 3) := rfl
theorem k_101_58 : cod 101 58 = some (.inl (.aload_n 0), 1) := rfl
theorem k_101_59 : cod 101 59 = some (.inl (.sipush 3000), 3) := rfl
theorem k_101_62 : cod 101 62 = some (.inl (.newarray .int), 2) := rfl
theorem k_101_64 : cod 101 64 = some (.inr (1, 9, 13, 3, 0), 3) := rfl
theorem k_101_67 : cod 101 67 = some (.inl (.aload_n 0), 1) := rfl
theorem k_101_68 : cod 101 68 = some (.inl (.sipush 500), 3) := rfl
theorem k_101_71 : cod 101 71 = some (.inl (.newarray .int), 2) := rfl
theorem k_101_73 : cod 101 73 = some (.inr (1, 9, 14, 3, 0), 3) := rfl
theorem k_101_76 : cod 101 76 = some (.inl (.aload_n 0), 1) := rfl
theorem k_101_77 : cod 101 77 = some (.inl (.sipush 500), 3) := rfl
theorem k_101_80 : cod 101 80 = some (.inl (.newarray .int), 2) := rfl
theorem k_101_82 : cod 101 82 = some (.inr (1, 9, 15, 3, 0), 3) := rfl
theorem k_101_85 : cod 101 85 = some (.inl (.aload_n 0), 1) := rfl
theorem k_101_86 : cod 101 86 = some (.inl (.sipush 4200), 3) := rfl
theorem k_101_89 : cod 101 89 = some (.inl (.newarray .int), 2) := rfl
theorem k_101_91 : cod 101 91 = some (.inr (1, 9, 16, 3, 0), 3) := rfl
theorem k_101_94 : cod 101 94 = some (.inl (.aload_n 0), 1) := rfl
theorem k_101_95 : cod 101 95 = some (.inl (.sipush 4200), 3) := rfl
theorem k_101_98 : cod 101 98 = some (.inl (.newarray .int), 2) := rfl
theorem k_101_100 : cod 101 100 = some (.inr (1, 9, 17, 3, 0), 3) := rfl
theorem k_101_103 : cod 101 103 = some (.inl (.aload_n 0), 1) := rfl
theorem k_101_104 : cod 101 104 = some (.inl (.sipush 4200), 3) := rfl
theorem k_101_107 : cod 101 107 = some (.inl (.newarray .int), 2) := rfl
theorem k_101_109 : cod 101 109 = some (.inr (1, 9, 18, 3, 0), 3) := rfl
theorem k_101_112 : cod 101 112 = some (.inl (.aload_n 0), 1) := rfl
theorem k_101_113 : cod 101 113 = some (.inl (.sipush 4200), 3) := rfl
theorem k_101_116 : cod 101 116 = some (.inl (.newarray .long), 2) := rfl
theorem k_101_118 : cod 101 118 = some (.inr (1, 9, 19, 3, 0), 3) := rfl
theorem k_101_121 : cod 101 121 = some (.inl (.aload_n 0), 1) := rfl
theorem k_101_122 : cod 101 122 = some (.inl (.bipush 36), 2) := rfl
theorem k_101_124 : cod 101 124 = some (.inl (.newarray .int), 2) := rfl
theorem k_101_126 : cod 101 126 = some (.inr (1, 9, 20, 3, 0), 3) := rfl
theorem k_101_129 : cod 101 129 = some (.inl (.aload_n 0), 1) := rfl
theorem k_101_130 : cod 101 130 = some (.inl (.bipush 6), 2) := rfl
theorem k_101_132 : cod 101 132 = some (.inl (.newarray .int), 2) := rfl
theorem k_101_134 : cod 101 134 = some (.inr (1, 9, 21, 3, 0), 3) := rfl
theorem k_101_137 : cod 101 137 = some (.inl (.aload_n 0), 1) := rfl
theorem k_101_138 : cod 101 138 = some (.inl (.sipush 3006), 3) := rfl
theorem k_101_141 : cod 101 141 = some (.inl (.newarray .int), 2) := rfl
theorem k_101_143 : cod 101 143 = some (.inr (1, 9, 22, 3, 0), 3) := rfl
theorem k_101_146 : cod 101 146 = some (.inl (.aload_n 0), 1) := rfl
theorem k_101_147 : cod 101 147 = some (.inl (.sipush 16000), 3) := rfl
theorem k_101_150 : cod 101 150 = some (.inl (.newarray .int), 2) := rfl
theorem k_101_152 : cod 101 152 = some (.inr (1, 9, 23, 3, 0), 3) := rfl
theorem k_101_155 : cod 101 155 = some (.inl (.aload_n 0), 1) := rfl
theorem k_101_156 : cod 101 156 = some (.inl (.sipush 16000), 3) := rfl
theorem k_101_159 : cod 101 159 = some (.inl (.newarray .int), 2) := rfl
theorem k_101_161 : cod 101 161 = some (.inr (1, 9, 24, 3, 0), 3) := rfl
theorem k_101_164 : cod 101 164 = some (.inl (.aload_n 0), 1) := rfl
theorem k_101_165 : cod 101 165 = some (.inl (.sipush 16000), 3) := rfl
theorem k_101_168 : cod 101 168 = some (.inl (.newarray .int), 2) := rfl
theorem k_101_170 : cod 101 170 = some (.inr (1, 9, 25, 3, 0), 3) := rfl
theorem k_101_173 : cod 101 173 = some (.inl (.aload_n 0), 1) := rfl
theorem k_101_174 : cod 101 174 = some (.inl (.sipush 16000), 3) := rfl
theorem k_101_177 : cod 101 177 = some (.inl (.newarray .int), 2) := rfl
theorem k_101_179 : cod 101 179 = some (.inr (1, 9, 26, 3, 0), 3) := rfl
theorem k_101_182 : cod 101 182 = some (.inl (.aload_n 0), 1) := rfl
theorem k_101_183 : cod 101 183 = some (.inl (.sipush 3000), 3) := rfl
theorem k_101_186 : cod 101 186 = some (.inl (.newarray .int), 2) := rfl
theorem k_101_188 : cod 101 188 = some (.inr (1, 9, 27, 3, 0), 3) := rfl
theorem k_101_191 : cod 101 191 = some (.inl (.aload_n 0), 1) := rfl
theorem k_101_192 : cod 101 192 = some (.inl (.bipush 6), 2) := rfl
theorem k_101_194 : cod 101 194 = some (.inl (.newarray .int), 2) := rfl
theorem k_101_196 : cod 101 196 = some (.inr (1, 9, 28, 3, 0), 3) := rfl
theorem k_101_199 : cod 101 199 = some (.inl .return_, 1) := rfl
theorem k_102_0 : cod 102 0 = some (.inl (.aload_n 0), 1) := rfl
theorem k_102_1 : cod 102 1 = some (.inr (0, 9, 0, 0, 0), 3) := rfl
theorem k_102_4 : cod 102 4 = some (.inl .ireturn, 1) := rfl
theorem k_103_0 : cod 103 0 = some (.inl (.aload_n 0), 1) := rfl
theorem k_103_1 : cod 103 1 = some (.inl (.iload_n 1), 1) := rfl
theorem k_103_2 : cod 103 2 = some (.inl (.iconst 1), 1) := rfl
theorem k_103_3 : cod 103 3 = some (.inl (.if_icmp .lt 9), 3) := rfl
theorem k_103_6 : cod 103 6 = some (.inl (.iload_n 1), 1) := rfl
theorem k_103_7 : cod 103 7 = some (.inl (.bipush 6), 2) := rfl
theorem k_103_9 : cod 103 9 = some (.inl (.if_icmp .le 7), 3) := rfl
theorem k_103_12 : cod 103 12 = some (.inl (.iconst 1), 1) := rfl
theorem k_103_13 : cod 103 13 = some (.inl (.goto 4), 3) := rfl
theorem k_103_16 : cod 103 16 = some (.inl (.iconst 0), 1) := rfl
theorem k_103_17 : cod 103 17 = some (.inl (.aload_n 0), 1) := rfl
theorem k_103_18 : cod 103 18 = some (.inr (0, 9, 1, 0, 0), 3) := rfl
theorem k_103_21 : cod 103 21 = some (.inl (.ifCond .le 7), 3) := rfl
theorem k_103_24 : cod 103 24 = some (.inl (.iconst 1), 1) := rfl
theorem k_103_25 : cod 103 25 = some (.inl (.goto 4), 3) := rfl
theorem k_103_28 : cod 103 28 = some (.inl (.iconst 0), 1) := rfl
theorem k_103_29 : cod 103 29 = some (.inr (17, 104, 3, 1, 9), 3) := rfl
theorem k_103_32 : cod 103 32 = some (.inl (.ifCond .eq 4), 3) := rfl
theorem k_103_35 : cod 103 35 = some (.inl .return_, 1) := rfl
theorem k_103_36 : cod 103 36 = some (.inl (.aload_n 0), 1) := rfl
theorem k_103_37 : cod 103 37 = some (.inl (.iload_n 1), 1) := rfl
theorem k_103_38 : cod 103 38 = some (.inr (1, 9, 1, 0, 0), 3) := rfl
theorem k_103_41 : cod 103 41 = some (.inl .return_, 1) := rfl
theorem k_104_0 : cod 104 0 = some (.inl (.aload_n 0), 1) := rfl
theorem k_104_1 : cod 104 1 = some (.inl (.iload_n 1), 1) := rfl
theorem k_104_2 : cod 104 2 = some (.inl (.ifCond .eq 7), 3) := rfl
theorem k_104_5 : cod 104 5 = some (.inl (.iconst 1), 1) := rfl
theorem k_104_6 : cod 104 6 = some (.inl (.goto 12), 3) := rfl
theorem k_104_9 : cod 104 9 = some (.inl (.iload_n 2), 1) := rfl
theorem k_104_10 : cod 104 10 = some (.inl (.ifCond .eq 7), 3) := rfl
theorem k_104_13 : cod 104 13 = some (.inl (.iconst 2), 1) := rfl
theorem k_104_14 : cod 104 14 = some (.inl (.goto 4), 3) := rfl
theorem k_104_17 : cod 104 17 = some (.inl (.iconst 0), 1) := rfl
theorem k_104_18 : cod 104 18 = some (.inr (1, 9, 0, 0, 0), 3) := rfl
theorem k_104_21 : cod 104 21 = some (.inl (.aload_n 0), 1) := rfl
theorem k_104_22 : cod 104 22 = some (.inr (0, 9, 0, 0, 0), 3) := rfl
theorem k_104_25 : cod 104 25 = some (.inl (.ifCond .eq 7), 3) := rfl
theorem k_104_28 : cod 104 28 = some (.inl (.iconst 1), 1) := rfl
theorem k_104_29 : cod 104 29 = some (.inl (.goto 4), 3) := rfl
theorem k_104_32 : cod 104 32 = some (.inl (.iconst 0), 1) := rfl
theorem k_104_33 : cod 104 33 = some (.inl .ireturn, 1) := rfl
theorem k_105_0 : cod 105 0 = some (.inl (.aload_n 0), 1) := rfl
theorem k_105_1 : cod 105 1 = some (.inl (.aload_n 0), 1) := rfl
theorem k_105_2 : cod 105 2 = some (.inl (.iload_n 1), 1) := rfl
theorem k_105_3 : cod 105 3 = some (.inr (17, 106, 2, 1, 9), 3) := rfl
theorem k_105_6 : cod 105 6 = some (.inl (.ifCond .ne 7), 3) := rfl
theorem k_105_9 : cod 105 9 = some (.inl (.iconst 1), 1) := rfl
theorem k_105_10 : cod 105 10 = some (.inl (.goto 4), 3) := rfl
theorem k_105_13 : cod 105 13 = some (.inl (.iconst 0), 1) := rfl
theorem k_105_14 : cod 105 14 = some (.inl (.aload_n 0), 1) := rfl
theorem k_105_15 : cod 105 15 = some (.inr (0, 9, 2, 0, 0), 3) := rfl
theorem k_105_18 : cod 105 18 = some (.inl (.sipush 200), 3) := rfl
theorem k_105_21 : cod 105 21 = some (.inl (.if_icmp .ne 7), 3) := rfl
theorem k_105_24 : cod 105 24 = some (.inl (.iconst 1), 1) := rfl
theorem k_105_25 : cod 105 25 = some (.inl (.goto 4), 3) := rfl
theorem k_105_28 : cod 105 28 = some (.inl (.iconst 0), 1) := rfl
theorem k_105_29 : cod 105 29 = some (.inr (17, 104, 3, 1, 9), 3) := rfl
theorem k_105_32 : cod 105 32 = some (.inl (.ifCond .eq 5), 3) := rfl
theorem k_105_35 : cod 105 35 = some (.inl (.iconst 0), 1) := rfl
theorem k_105_36 : cod 105 36 = some (.inl .ireturn, 1) := rfl
theorem k_105_37 : cod 105 37 = some (.inl (.aload_n 0), 1) := rfl
theorem k_105_38 : cod 105 38 = some (.inr (0, 9, 7, 0, 0), 3) := rfl
theorem k_105_41 : cod 105 41 = some (.inl (.aload_n 0), 1) := rfl
theorem k_105_42 : cod 105 42 = some (.inr (0, 9, 2, 0, 0), 3) := rfl
theorem k_105_45 : cod 105 45 = some (.inl (.iload_n 1), 1) := rfl
theorem k_105_46 : cod 105 46 = some (.inl .iastore, 1) := rfl
theorem k_105_47 : cod 105 47 = some (.inl (.aload_n 0), 1) := rfl
theorem k_105_48 : cod 105 48 = some (.inr (0, 9, 9, 0, 0), 3) := rfl
theorem k_105_51 : cod 105 51 = some (.inl (.aload_n 0), 1) := rfl
theorem k_105_52 : cod 105 52 = some (.inr (0, 9, 2, 0, 0), 3) := rfl
theorem k_105_55 : cod 105 55 = some (.inl (.iload_n 2), 1) := rfl
theorem k_105_56 : cod 105 56 = some (.inl .bastore, 1) := rfl
theorem k_105_57 : cod 105 57 = some (.inl (.aload_n 0), 1) := rfl
theorem k_105_58 : cod 105 58 = some (.inr (0, 9, 8, 0, 0), 3) := rfl
theorem k_105_61 : cod 105 61 = some (.inl (.aload_n 0), 1) := rfl
theorem k_105_62 : cod 105 62 = some (.inr (0, 9, 2, 0, 0), 3) := rfl
theorem k_105_65 : cod 105 65 = some (.inl (.iconst (-1)), 1) := rfl
theorem k_105_66 : cod 105 66 = some (.inl .iastore, 1) := rfl
theorem k_105_67 : cod 105 67 = some (.inl (.aload_n 0), 1) := rfl
theorem k_105_68 : cod 105 68 = some (.inl .dup, 1) := rfl
theorem k_105_69 : cod 105 69 = some (.inr (0, 9, 2, 0, 0), 3) := rfl
theorem k_105_72 : cod 105 72 = some (.inl (.iconst 1), 1) := rfl
theorem k_105_73 : cod 105 73 = some (.inl .iadd, 1) := rfl
theorem k_105_74 : cod 105 74 = some (.inr (1, 9, 2, 0, 0), 3) := rfl
theorem k_105_77 : cod 105 77 = some (.inl (.aload_n 0), 1) := rfl
theorem k_105_78 : cod 105 78 = some (.inr (0, 9, 2, 0, 0), 3) := rfl
theorem k_105_81 : cod 105 81 = some (.inl (.iconst 1), 1) := rfl
theorem k_105_82 : cod 105 82 = some (.inl .isub, 1) := rfl
theorem k_105_83 : cod 105 83 = some (.inl .ireturn, 1) := rfl
theorem k_106_0 : cod 106 0 = some (.inl (.iload_n 1), 1) := rfl
theorem k_106_1 : cod 106 1 = some (.inl (.ifCond .lt 15), 3) := rfl
theorem k_106_4 : cod 106 4 = some (.inl (.iload_n 1), 1) := rfl
theorem k_106_5 : cod 106 5 = some (.inl (.aload_n 0), 1) := rfl
theorem k_106_6 : cod 106 6 = some (.inr (0, 9, 1, 0, 0), 3) := rfl
theorem k_106_9 : cod 106 9 = some (.inl (.if_icmp .ge 7), 3) := rfl
theorem k_106_12 : cod 106 12 = some (.inl (.iconst 1), 1) := rfl
theorem k_106_13 : cod 106 13 = some (.inl (.goto 4), 3) := rfl
theorem k_106_16 : cod 106 16 = some (.inl (.iconst 0), 1) := rfl
theorem k_106_17 : cod 106 17 = some (.inl .ireturn, 1) := rfl
theorem k_107_0 : cod 107 0 = some (.inl (.aload_n 0), 1) := rfl
theorem k_107_1 : cod 107 1 = some (.inl (.aload_n 0), 1) := rfl
theorem k_107_2 : cod 107 2 = some (.inl (.iload_n 1), 1) := rfl
theorem k_107_3 : cod 107 3 = some (.inr (17, 106, 2, 1, 9), 3) := rfl
theorem k_107_6 : cod 107 6 = some (.inl (.ifCond .ne 7), 3) := rfl
theorem k_107_9 : cod 107 9 = some (.inl (.iconst 1), 1) := rfl
theorem k_107_10 : cod 107 10 = some (.inl (.goto 4), 3) := rfl
theorem k_107_13 : cod 107 13 = some (.inl (.iconst 0), 1) := rfl
theorem k_107_14 : cod 107 14 = some (.inl (.aload_n 0), 1) := rfl
theorem k_107_15 : cod 107 15 = some (.inr (0, 9, 3, 0, 0), 3) := rfl
theorem k_107_18 : cod 107 18 = some (.inl (.sipush 500), 3) := rfl
theorem k_107_21 : cod 107 21 = some (.inl (.if_icmp .ne 7), 3) := rfl
theorem k_107_24 : cod 107 24 = some (.inl (.iconst 1), 1) := rfl
theorem k_107_25 : cod 107 25 = some (.inl (.goto 4), 3) := rfl
theorem k_107_28 : cod 107 28 = some (.inl (.iconst 0), 1) := rfl
theorem k_107_29 : cod 107 29 = some (.inr (17, 104, 3, 1, 9), 3) := rfl
theorem k_107_32 : cod 107 32 = some (.inl (.ifCond .eq 5), 3) := rfl
theorem k_107_35 : cod 107 35 = some (.inl (.iconst 0), 1) := rfl
theorem k_107_36 : cod 107 36 = some (.inl .ireturn, 1) := rfl
theorem k_107_37 : cod 107 37 = some (.inl (.aload_n 0), 1) := rfl
theorem k_107_38 : cod 107 38 = some (.inr (0, 9, 3, 0, 0), 3) := rfl
theorem k_107_41 : cod 107 41 = some (.inl (.istore_n 2), 1) := rfl
theorem k_107_42 : cod 107 42 = some (.inl (.aload_n 0), 1) := rfl
theorem k_107_43 : cod 107 43 = some (.inl .dup, 1) := rfl
theorem k_107_44 : cod 107 44 = some (.inr (0, 9, 3, 0, 0), 3) := rfl
theorem k_107_47 : cod 107 47 = some (.inl (.iconst 1), 1) := rfl
theorem k_107_48 : cod 107 48 = some (.inl .iadd, 1) := rfl
theorem k_107_49 : cod 107 49 = some (.inr (1, 9, 3, 0, 0), 3) := rfl
theorem k_107_52 : cod 107 52 = some (.inl (.aload_n 0), 1) := rfl
theorem k_107_53 : cod 107 53 = some (.inr (0, 9, 10, 0, 0), 3) := rfl
theorem k_107_56 : cod 107 56 = some (.inl (.iload_n 2), 1) := rfl
theorem k_107_57 : cod 107 57 = some (.inl (.iload_n 1), 1) := rfl
theorem k_107_58 : cod 107 58 = some (.inl .iastore, 1) := rfl
theorem k_107_59 : cod 107 59 = some (.inl (.iconst 0), 1) := rfl
theorem k_107_60 : cod 107 60 = some (.inl (.istore_n 3), 1) := rfl
theorem k_107_61 : cod 107 61 = some (.inl (.iload_n 3), 1) := rfl
theorem k_107_62 : cod 107 62 = some (.inl (.aload_n 0), 1) := rfl
theorem k_107_63 : cod 107 63 = some (.inr (0, 9, 1, 0, 0), 3) := rfl
theorem k_107_66 : cod 107 66 = some (.inl (.if_icmp .ge 31), 3) := rfl
theorem k_107_69 : cod 107 69 = some (.inl (.aload_n 0), 1) := rfl
theorem k_107_70 : cod 107 70 = some (.inr (0, 9, 13, 0, 0), 3) := rfl
theorem k_107_73 : cod 107 73 = some (.inl (.bipush 6), 2) := rfl
theorem k_107_75 : cod 107 75 = some (.inl (.iload_n 2), 1) := rfl
theorem k_107_76 : cod 107 76 = some (.inl .imul, 1) := rfl
theorem k_107_77 : cod 107 77 = some (.inl (.iload_n 3), 1) := rfl
theorem k_107_78 : cod 107 78 = some (.inl .iadd, 1) := rfl
theorem k_107_79 : cod 107 79 = some (.inl (.aload_n 0), 1) := rfl
theorem k_107_80 : cod 107 80 = some (.inr (0, 9, 20, 0, 0), 3) := rfl
theorem k_107_83 : cod 107 83 = some (.inl (.bipush 6), 2) := rfl
theorem k_107_85 : cod 107 85 = some (.inl (.iload_n 1), 1) := rfl
theorem k_107_86 : cod 107 86 = some (.inl .imul, 1) := rfl
theorem k_107_87 : cod 107 87 = some (.inl (.iload_n 3), 1) := rfl
theorem k_107_88 : cod 107 88 = some (.inl .iadd, 1) := rfl
theorem k_107_89 : cod 107 89 = some (.inl .iaload, 1) := rfl
theorem k_107_90 : cod 107 90 = some (.inl .iastore, 1) := rfl
theorem k_107_91 : cod 107 91 = some (.inl (.iinc 3 1), 3) := rfl
theorem k_107_94 : cod 107 94 = some (.inl (.goto (-33)), 3) := rfl
theorem k_107_97 : cod 107 97 = some (.inl (.iload_n 2), 1) := rfl
theorem k_107_98 : cod 107 98 = some (.inl .ireturn, 1) := rfl
theorem k_108_0 : cod 108 0 = some (.inl (.aload_n 0), 1) := rfl
theorem k_108_1 : cod 108 1 = some (.inl (.iload_n 1), 1) := rfl
theorem k_108_2 : cod 108 2 = some (.inl (.iload_n 2), 1) := rfl
theorem k_108_3 : cod 108 3 = some (.inl (.iconst 0), 1) := rfl
theorem k_108_4 : cod 108 4 = some (.inr (17, 109, 4, 1, 9), 3) := rfl
theorem k_108_7 : cod 108 7 = some (.inl (.ifCond .eq 5), 3) := rfl
theorem k_108_10 : cod 108 10 = some (.inl (.lconst 0), 1) := rfl
theorem k_108_11 : cod 108 11 = some (.inl .lreturn, 1) := rfl
theorem k_108_12 : cod 108 12 = some (.inl (.aload_n 0), 1) := rfl
theorem k_108_13 : cod 108 13 = some (.inl (.iload_n 1), 1) := rfl
theorem k_108_14 : cod 108 14 = some (.inl (.iload_n 2), 1) := rfl
theorem k_108_15 : cod 108 15 = some (.inr (17, 112, 3, 1, 9), 3) := rfl
theorem k_108_18 : cod 108 18 = some (.inl (.ifCond .eq 10), 3) := rfl
theorem k_108_21 : cod 108 21 = some (.inl (.aload_n 0), 1) := rfl
theorem k_108_22 : cod 108 22 = some (.inl (.iload_n 1), 1) := rfl
theorem k_108_23 : cod 108 23 = some (.inl (.iload_n 2), 1) := rfl
theorem k_108_24 : cod 108 24 = some (.inr (17, 113, 3, 1, 9), 3) := rfl
theorem k_108_27 : cod 108 27 = some (.inl .lreturn, 1) := rfl
theorem k_108_28 : cod 108 28 = some (.inl (.iconst (-1)), 1) := rfl
theorem k_108_29 : cod 108 29 = some (.inl (.istore_n 3), 1) := rfl
theorem k_108_30 : cod 108 30 = some (.inl (.iconst 0), 1) := rfl
theorem k_108_31 : cod 108 31 = some (.inl (.istore 4), 2) := rfl
theorem k_108_33 : cod 108 33 = some (.inl (.iload 4), 2) := rfl
theorem k_108_35 : cod 108 35 = some (.inl (.aload_n 0), 1) := rfl
theorem k_108_36 : cod 108 36 = some (.inr (0, 9, 3, 0, 0), 3) := rfl
theorem k_108_39 : cod 108 39 = some (.inl (.if_icmp .ge 49), 3) := rfl
theorem k_108_42 : cod 108 42 = some (.inl (.aload_n 0), 1) := rfl
theorem k_108_43 : cod 108 43 = some (.inl (.iload 4), 2) := rfl
theorem k_108_45 : cod 108 45 = some (.inl (.iload_n 1), 1) := rfl
theorem k_108_46 : cod 108 46 = some (.inr (17, 114, 3, 1, 9), 3) := rfl
theorem k_108_49 : cod 108 49 = some (.inl (.ifCond .eq 33), 3) := rfl
theorem k_108_52 : cod 108 52 = some (.inl (.aload_n 0), 1) := rfl
theorem k_108_53 : cod 108 53 = some (.inl (.iload 4), 2) := rfl
theorem k_108_55 : cod 108 55 = some (.inl (.iload_n 2), 1) := rfl
theorem k_108_56 : cod 108 56 = some (.inr (17, 112, 3, 1, 9), 3) := rfl
theorem k_108_59 : cod 108 59 = some (.inl (.ifCond .ne 6), 3) := rfl
theorem k_108_62 : cod 108 62 = some (.inl (.goto 20), 3) := rfl
theorem k_108_65 : cod 108 65 = some (.inl (.iload_n 3), 1) := rfl
theorem k_108_66 : cod 108 66 = some (.inl (.ifCond .lt 13), 3) := rfl
theorem k_108_69 : cod 108 69 = some (.inl (.aload_n 0), 1) := rfl
theorem k_108_70 : cod 108 70 = some (.inl (.iload_n 3), 1) := rfl
theorem k_108_71 : cod 108 71 = some (.inl (.iload 4), 2) := rfl
theorem k_108_73 : cod 108 73 = some (.inr (17, 114, 3, 1, 9), 3) := rfl
theorem k_108_76 : cod 108 76 = some (.inl (.ifCond .eq 6), 3) := rfl
theorem k_108_79 : cod 108 79 = some (.inl (.iload 4), 2) := rfl
theorem k_108_81 : cod 108 81 = some (.inl (.istore_n 3), 1) := rfl
theorem k_108_82 : cod 108 82 = some (.inl (.iinc 4 1), 3) := rfl
theorem k_108_85 : cod 108 85 = some (.inl (.goto (-52)), 3) := rfl
theorem k_108_88 : cod 108 88 = some (.inl (.iload_n 3), 1) := rfl
theorem k_108_89 : cod 108 89 = some (.inl (.ifCond .ge 7), 3) := rfl
theorem k_108_92 : cod 108 92 = some (.inl (.lconst 0), 1) := rfl
theorem k_108_93 : cod 108 93 = some (.inl (.goto 9), 3) := rfl
theorem k_108_96 : cod 108 96 = some (.inl (.aload_n 0), 1) := rfl
theorem k_108_97 : cod 108 97 = some (.inl (.iload_n 3), 1) := rfl
theorem k_108_98 : cod 108 98 = some (.inl (.iload_n 2), 1) := rfl
theorem k_108_99 : cod 108 99 = some (.inr (17, 113, 3, 1, 9), 3) := rfl
theorem k_108_102 : cod 108 102 = some (.inl .lreturn, 1) := rfl
theorem k_109_0 : cod 109 0 = some (.inl (.aload_n 0), 1) := rfl
theorem k_109_1 : cod 109 1 = some (.inl (.aload_n 0), 1) := rfl
theorem k_109_2 : cod 109 2 = some (.inl (.iload_n 1), 1) := rfl
theorem k_109_3 : cod 109 3 = some (.inr (17, 110, 2, 1, 9), 3) := rfl
theorem k_109_6 : cod 109 6 = some (.inl (.ifCond .eq 21), 3) := rfl
theorem k_109_9 : cod 109 9 = some (.inl (.aload_n 0), 1) := rfl
theorem k_109_10 : cod 109 10 = some (.inl (.iload_n 2), 1) := rfl
theorem k_109_11 : cod 109 11 = some (.inr (17, 111, 2, 1, 9), 3) := rfl
theorem k_109_14 : cod 109 14 = some (.inl (.ifCond .eq 13), 3) := rfl
theorem k_109_17 : cod 109 17 = some (.inl (.aload_n 0), 1) := rfl
theorem k_109_18 : cod 109 18 = some (.inr (0, 9, 9, 0, 0), 3) := rfl
theorem k_109_21 : cod 109 21 = some (.inl (.iload_n 2), 1) := rfl
theorem k_109_22 : cod 109 22 = some (.inl .baload, 1) := rfl
theorem k_109_23 : cod 109 23 = some (.inl (.iload_n 3), 1) := rfl
theorem k_109_24 : cod 109 24 = some (.inl (.if_icmp .eq 7), 3) := rfl
theorem k_109_27 : cod 109 27 = some (.inl (.iconst 1), 1) := rfl
theorem k_109_28 : cod 109 28 = some (.inl (.goto 4), 3) := rfl
theorem k_109_31 : cod 109 31 = some (.inl (.iconst 0), 1) := rfl
theorem k_109_32 : cod 109 32 = some (.inl (.aload_n 0), 1) := rfl
theorem k_109_33 : cod 109 33 = some (.inl (.iload_n 1), 1) := rfl
theorem k_109_34 : cod 109 34 = some (.inr (17, 110, 2, 1, 9), 3) := rfl
theorem k_109_37 : cod 109 37 = some (.inl (.ifCond .eq 16), 3) := rfl
theorem k_109_40 : cod 109 40 = some (.inl (.aload_n 0), 1) := rfl
theorem k_109_41 : cod 109 41 = some (.inr (0, 9, 11, 0, 0), 3) := rfl
theorem k_109_44 : cod 109 44 = some (.inl (.iload_n 1), 1) := rfl
theorem k_109_45 : cod 109 45 = some (.inl .iaload, 1) := rfl
theorem k_109_46 : cod 109 46 = some (.inl (.ifCond .eq 7), 3) := rfl
theorem k_109_49 : cod 109 49 = some (.inl (.iconst 1), 1) := rfl
theorem k_109_50 : cod 109 50 = some (.inl (.goto 4), 3) := rfl
theorem k_109_53 : cod 109 53 = some (.inl (.iconst 0), 1) := rfl
theorem k_109_54 : cod 109 54 = some (.inr (17, 104, 3, 1, 9), 3) := rfl
theorem k_109_57 : cod 109 57 = some (.inl .ireturn, 1) := rfl
theorem k_110_0 : cod 110 0 = some (.inl (.iload_n 1), 1) := rfl
theorem k_110_1 : cod 110 1 = some (.inl (.ifCond .lt 15), 3) := rfl
theorem k_110_4 : cod 110 4 = some (.inl (.iload_n 1), 1) := rfl
theorem k_110_5 : cod 110 5 = some (.inl (.aload_n 0), 1) := rfl
theorem k_110_6 : cod 110 6 = some (.inr (0, 9, 3, 0, 0), 3) := rfl
theorem k_110_9 : cod 110 9 = some (.inl (.if_icmp .ge 7), 3) := rfl
theorem k_110_12 : cod 110 12 = some (.inl (.iconst 1), 1) := rfl
theorem k_110_13 : cod 110 13 = some (.inl (.goto 4), 3) := rfl
theorem k_110_16 : cod 110 16 = some (.inl (.iconst 0), 1) := rfl
theorem k_110_17 : cod 110 17 = some (.inl .ireturn, 1) := rfl
theorem k_111_0 : cod 111 0 = some (.inl (.iload_n 1), 1) := rfl
theorem k_111_1 : cod 111 1 = some (.inl (.ifCond .lt 15), 3) := rfl
theorem k_111_4 : cod 111 4 = some (.inl (.iload_n 1), 1) := rfl
theorem k_111_5 : cod 111 5 = some (.inl (.aload_n 0), 1) := rfl
theorem k_111_6 : cod 111 6 = some (.inr (0, 9, 2, 0, 0), 3) := rfl
theorem k_111_9 : cod 111 9 = some (.inl (.if_icmp .ge 7), 3) := rfl
theorem k_111_12 : cod 111 12 = some (.inl (.iconst 1), 1) := rfl
theorem k_111_13 : cod 111 13 = some (.inl (.goto 4), 3) := rfl
theorem k_111_16 : cod 111 16 = some (.inl (.iconst 0), 1) := rfl
theorem k_111_17 : cod 111 17 = some (.inl .ireturn, 1) := rfl
theorem k_112_0 : cod 112 0 = some (.inl (.iconst 0), 1) := rfl
theorem k_112_1 : cod 112 1 = some (.inl (.istore_n 3), 1) := rfl
theorem k_112_2 : cod 112 2 = some (.inl (.iload_n 3), 1) := rfl
theorem k_112_3 : cod 112 3 = some (.inl (.aload_n 0), 1) := rfl
theorem k_112_4 : cod 112 4 = some (.inr (0, 9, 4, 0, 0), 3) := rfl
theorem k_112_7 : cod 112 7 = some (.inl (.if_icmp .ge 31), 3) := rfl
theorem k_112_10 : cod 112 10 = some (.inl (.aload_n 0), 1) := rfl
theorem k_112_11 : cod 112 11 = some (.inr (0, 9, 16, 0, 0), 3) := rfl
theorem k_112_14 : cod 112 14 = some (.inl (.iload_n 3), 1) := rfl
theorem k_112_15 : cod 112 15 = some (.inl .iaload, 1) := rfl
theorem k_112_16 : cod 112 16 = some (.inl (.iload_n 1), 1) := rfl
theorem k_112_17 : cod 112 17 = some (.inl (.if_icmp .ne 15), 3) := rfl
theorem k_112_20 : cod 112 20 = some (.inl (.aload_n 0), 1) := rfl
theorem k_112_21 : cod 112 21 = some (.inr (0, 9, 17, 0, 0), 3) := rfl
theorem k_112_24 : cod 112 24 = some (.inl (.iload_n 3), 1) := rfl
theorem k_112_25 : cod 112 25 = some (.inl .iaload, 1) := rfl
theorem k_112_26 : cod 112 26 = some (.inl (.iload_n 2), 1) := rfl
theorem k_112_27 : cod 112 27 = some (.inl (.if_icmp .ne 5), 3) := rfl
theorem k_112_30 : cod 112 30 = some (.inl (.iconst 1), 1) := rfl
theorem k_112_31 : cod 112 31 = some (.inl .ireturn, 1) := rfl
theorem k_112_32 : cod 112 32 = some (.inl (.iinc 3 1), 3) := rfl
theorem k_112_35 : cod 112 35 = some (.inl (.goto (-33)), 3) := rfl
theorem k_112_38 : cod 112 38 = some (.inl (.iconst 0), 1) := rfl
theorem k_112_39 : cod 112 39 = some (.inl .ireturn, 1) := rfl
theorem k_113_0 : cod 113 0 = some (.inl (.lconst 0), 1) := rfl
theorem k_113_1 : cod 113 1 = some (.inl (.lstore_n 3), 1) := rfl
theorem k_113_2 : cod 113 2 = some (.inl (.iconst 0), 1) := rfl
theorem k_113_3 : cod 113 3 = some (.inl (.istore 5), 2) := rfl
theorem k_113_5 : cod 113 5 = some (.inl (.iload 5), 2) := rfl
theorem k_113_7 : cod 113 7 = some (.inl (.aload_n 0), 1) := rfl
theorem k_113_8 : cod 113 8 = some (.inr (0, 9, 4, 0, 0), 3) := rfl
theorem k_113_11 : cod 113 11 = some (.inl (.if_icmp .ge 39), 3) := rfl
theorem k_113_14 : cod 113 14 = some (.inl (.aload_n 0), 1) := rfl
theorem k_113_15 : cod 113 15 = some (.inr (0, 9, 16, 0, 0), 3) := rfl
theorem k_113_18 : cod 113 18 = some (.inl (.iload 5), 2) := rfl
theorem k_113_20 : cod 113 20 = some (.inl .iaload, 1) := rfl
theorem k_113_21 : cod 113 21 = some (.inl (.iload_n 1), 1) := rfl
theorem k_113_22 : cod 113 22 = some (.inl (.if_icmp .ne 22), 3) := rfl
theorem k_113_25 : cod 113 25 = some (.inl (.aload_n 0), 1) := rfl
theorem k_113_26 : cod 113 26 = some (.inr (0, 9, 17, 0, 0), 3) := rfl
theorem k_113_29 : cod 113 29 = some (.inl (.iload 5), 2) := rfl
theorem k_113_31 : cod 113 31 = some (.inl .iaload, 1) := rfl
theorem k_113_32 : cod 113 32 = some (.inl (.iload_n 2), 1) := rfl
theorem k_113_33 : cod 113 33 = some (.inl (.if_icmp .ne 11), 3) := rfl
theorem k_113_36 : cod 113 36 = some (.inl (.aload_n 0), 1) := rfl
theorem k_113_37 : cod 113 37 = some (.inr (0, 9, 19, 0, 0), 3) := rfl
theorem k_113_40 : cod 113 40 = some (.inl (.iload 5), 2) := rfl
theorem k_113_42 : cod 113 42 = some (.inl .laload, 1) := rfl
theorem k_113_43 : cod 113 43 = some (.inl (.lstore_n 3), 1) := rfl
theorem k_113_44 : cod 113 44 = some (.inl (.iinc 5 1), 3) := rfl
theorem k_113_47 : cod 113 47 = some (.inl (.goto (-42)), 3) := rfl
theorem k_113_50 : cod 113 50 = some (.inl (.lload_n 3), 1) := rfl
theorem k_113_51 : cod 113 51 = some (.inl .lreturn, 1) := rfl
theorem k_114_0 : cod 114 0 = some (.inl (.aload_n 0), 1) := rfl
theorem k_114_1 : cod 114 1 = some (.inr (0, 9, 12, 0, 0), 3) := rfl
theorem k_114_4 : cod 114 4 = some (.inl (.iload_n 1), 1) := rfl
theorem k_114_5 : cod 114 5 = some (.inl .iaload, 1) := rfl
theorem k_114_6 : cod 114 6 = some (.inl (.ifCond .le 32), 3) := rfl
theorem k_114_9 : cod 114 9 = some (.inl (.aload_n 0), 1) := rfl
theorem k_114_10 : cod 114 10 = some (.inr (0, 9, 12, 0, 0), 3) := rfl
theorem k_114_13 : cod 114 13 = some (.inl (.iload_n 1), 1) := rfl
theorem k_114_14 : cod 114 14 = some (.inl .iaload, 1) := rfl
theorem k_114_15 : cod 114 15 = some (.inl (.aload_n 0), 1) := rfl
theorem k_114_16 : cod 114 16 = some (.inr (0, 9, 13, 0, 0), 3) := rfl
theorem k_114_19 : cod 114 19 = some (.inl (.bipush 6), 2) := rfl
theorem k_114_21 : cod 114 21 = some (.inl (.iload_n 2), 1) := rfl
theorem k_114_22 : cod 114 22 = some (.inl .imul, 1) := rfl
theorem k_114_23 : cod 114 23 = some (.inl (.aload_n 0), 1) := rfl
theorem k_114_24 : cod 114 24 = some (.inr (0, 9, 10, 0, 0), 3) := rfl
theorem k_114_27 : cod 114 27 = some (.inl (.iload_n 1), 1) := rfl
theorem k_114_28 : cod 114 28 = some (.inl .iaload, 1) := rfl
theorem k_114_29 : cod 114 29 = some (.inl .iadd, 1) := rfl
theorem k_114_30 : cod 114 30 = some (.inl .iaload, 1) := rfl
theorem k_114_31 : cod 114 31 = some (.inl (.if_icmp .gt 7), 3) := rfl
theorem k_114_34 : cod 114 34 = some (.inl (.iconst 1), 1) := rfl
theorem k_114_35 : cod 114 35 = some (.inl (.goto 4), 3) := rfl
theorem k_114_38 : cod 114 38 = some (.inl (.iconst 0), 1) := rfl
theorem k_114_39 : cod 114 39 = some (.inl .ireturn, 1) := rfl
theorem k_115_0 : cod 115 0 = some (.inl (.aload_n 0), 1) := rfl
theorem k_115_1 : cod 115 1 = some (.inl (.iload_n 1), 1) := rfl
theorem k_115_2 : cod 115 2 = some (.inl (.iload_n 2), 1) := rfl
theorem k_115_3 : cod 115 3 = some (.inl (.iconst 0), 1) := rfl
theorem k_115_4 : cod 115 4 = some (.inr (17, 109, 4, 1, 9), 3) := rfl
theorem k_115_7 : cod 115 7 = some (.inl (.ifCond .ne 11), 3) := rfl
theorem k_115_10 : cod 115 10 = some (.inl (.aload_n 0), 1) := rfl
theorem k_115_11 : cod 115 11 = some (.inl (.iload_n 1), 1) := rfl
theorem k_115_12 : cod 115 12 = some (.inl (.iload_n 2), 1) := rfl
theorem k_115_13 : cod 115 13 = some (.inl (.lload_n 3), 1) := rfl
theorem k_115_14 : cod 115 14 = some (.inl (.iconst 0), 1) := rfl
theorem k_115_15 : cod 115 15 = some (.inr (17, 116, 5, 1, 9), 3) := rfl
theorem k_115_18 : cod 115 18 = some (.inl .return_, 1) := rfl
theorem k_116_0 : cod 116 0 = some (.inl (.aload_n 0), 1) := rfl
theorem k_116_1 : cod 116 1 = some (.inr (0, 9, 16, 0, 0), 3) := rfl
theorem k_116_4 : cod 116 4 = some (.inl (.aload_n 0), 1) := rfl
theorem k_116_5 : cod 116 5 = some (.inr (0, 9, 4, 0, 0), 3) := rfl
theorem k_116_8 : cod 116 8 = some (.inl (.iload_n 1), 1) := rfl
theorem k_116_9 : cod 116 9 = some (.inl .iastore, 1) := rfl
theorem k_116_10 : cod 116 10 = some (.inl (.aload_n 0), 1) := rfl
theorem k_116_11 : cod 116 11 = some (.inr (0, 9, 17, 0, 0), 3) := rfl
theorem k_116_14 : cod 116 14 = some (.inl (.aload_n 0), 1) := rfl
theorem k_116_15 : cod 116 15 = some (.inr (0, 9, 4, 0, 0), 3) := rfl
theorem k_116_18 : cod 116 18 = some (.inl (.iload_n 2), 1) := rfl
theorem k_116_19 : cod 116 19 = some (.inl .iastore, 1) := rfl
theorem k_116_20 : cod 116 20 = some (.inl (.aload_n 0), 1) := rfl
theorem k_116_21 : cod 116 21 = some (.inr (0, 9, 19, 0, 0), 3) := rfl
theorem k_116_24 : cod 116 24 = some (.inl (.aload_n 0), 1) := rfl
theorem k_116_25 : cod 116 25 = some (.inr (0, 9, 4, 0, 0), 3) := rfl
theorem k_116_28 : cod 116 28 = some (.inl (.lload_n 3), 1) := rfl
theorem k_116_29 : cod 116 29 = some (.inl .lastore, 1) := rfl
theorem k_116_30 : cod 116 30 = some (.inl (.aload_n 0), 1) := rfl
theorem k_116_31 : cod 116 31 = some (.inr (0, 9, 18, 0, 0), 3) := rfl
theorem k_116_34 : cod 116 34 = some (.inl (.aload_n 0), 1) := rfl
theorem k_116_35 : cod 116 35 = some (.inr (0, 9, 4, 0, 0), 3) := rfl
theorem k_116_38 : cod 116 38 = some (.inl (.iload 5), 2) := rfl
theorem k_116_40 : cod 116 40 = some (.inl .iastore, 1) := rfl
theorem k_116_41 : cod 116 41 = some (.inl (.aload_n 0), 1) := rfl
theorem k_116_42 : cod 116 42 = some (.inl .dup, 1) := rfl
theorem k_116_43 : cod 116 43 = some (.inr (0, 9, 4, 0, 0), 3) := rfl
theorem k_116_46 : cod 116 46 = some (.inl (.iconst 1), 1) := rfl
theorem k_116_47 : cod 116 47 = some (.inl .iadd, 1) := rfl
theorem k_116_48 : cod 116 48 = some (.inr (1, 9, 4, 0, 0), 3) := rfl
theorem k_116_51 : cod 116 51 = some (.inl .return_, 1) := rfl
theorem k_117_0 : cod 117 0 = some (.inl (.aload_n 0), 1) := rfl
theorem k_117_1 : cod 117 1 = some (.inl (.iload_n 1), 1) := rfl
theorem k_117_2 : cod 117 2 = some (.inl (.iload_n 2), 1) := rfl
theorem k_117_3 : cod 117 3 = some (.inl (.iconst 1), 1) := rfl
theorem k_117_4 : cod 117 4 = some (.inr (17, 109, 4, 1, 9), 3) := rfl
theorem k_117_7 : cod 117 7 = some (.inl (.ifCond .ne 21), 3) := rfl
theorem k_117_10 : cod 117 10 = some (.inl (.aload_n 0), 1) := rfl
theorem k_117_11 : cod 117 11 = some (.inl (.iload_n 1), 1) := rfl
theorem k_117_12 : cod 117 12 = some (.inl (.iload_n 2), 1) := rfl
theorem k_117_13 : cod 117 13 = some (.inl (.iload_n 3), 1) := rfl
theorem k_117_14 : cod 117 14 = some (.inl .i2l, 1) := rfl
theorem k_117_15 : cod 117 15 = some (.inl (.iload 4), 2) := rfl
theorem k_117_17 : cod 117 17 = some (.inl (.ifCond .eq 7), 3) := rfl
theorem k_117_20 : cod 117 20 = some (.inl (.iconst 1), 1) := rfl
theorem k_117_21 : cod 117 21 = some (.inl (.goto 4), 3) := rfl
theorem k_117_24 : cod 117 24 = some (.inl (.iconst (-1)), 1) := rfl
theorem k_117_25 : cod 117 25 = some (.inr (17, 116, 5, 1, 9), 3) := rfl
theorem k_117_28 : cod 117 28 = some (.inl .return_, 1) := rfl
theorem k_118_0 : cod 118 0 = some (.inl (.aload_n 0), 1) := rfl
theorem k_118_1 : cod 118 1 = some (.inl (.iload_n 1), 1) := rfl
theorem k_118_2 : cod 118 2 = some (.inl (.iload_n 2), 1) := rfl
theorem k_118_3 : cod 118 3 = some (.inl (.iconst 1), 1) := rfl
theorem k_118_4 : cod 118 4 = some (.inr (17, 109, 4, 1, 9), 3) := rfl
theorem k_118_7 : cod 118 7 = some (.inl (.ifCond .eq 7), 3) := rfl
theorem k_118_10 : cod 118 10 = some (.inl (.iconst 0), 1) := rfl
theorem k_118_11 : cod 118 11 = some (.inl (.goto 11), 3) := rfl
theorem k_118_14 : cod 118 14 = some (.inl (.aload_n 0), 1) := rfl
theorem k_118_15 : cod 118 15 = some (.inl (.iload_n 1), 1) := rfl
theorem k_118_16 : cod 118 16 = some (.inl (.iload_n 2), 1) := rfl
theorem k_118_17 : cod 118 17 = some (.inl (.iload_n 3), 1) := rfl
theorem k_118_18 : cod 118 18 = some (.inl .i2l, 1) := rfl
theorem k_118_19 : cod 118 19 = some (.inr (17, 119, 4, 1, 9), 3) := rfl
theorem k_118_22 : cod 118 22 = some (.inl .ireturn, 1) := rfl
theorem k_119_0 : cod 119 0 = some (.inl (.iconst 0), 1) := rfl
theorem k_119_1 : cod 119 1 = some (.inl (.istore 5), 2) := rfl
theorem k_119_3 : cod 119 3 = some (.inl (.iconst 0), 1) := rfl
theorem k_119_4 : cod 119 4 = some (.inl (.istore 6), 2) := rfl
theorem k_119_6 : cod 119 6 = some (.inl (.iload 6), 2) := rfl
theorem k_119_8 : cod 119 8 = some (.inl (.aload_n 0), 1) := rfl
theorem k_119_9 : cod 119 9 = some (.inr (0, 9, 4, 0, 0), 3) := rfl
theorem k_119_12 : cod 119 12 = some (.inl (.if_icmp .ge 70), 3) := rfl
theorem k_119_15 : cod 119 15 = some (.inl (.aload_n 0), 1) := rfl
theorem k_119_16 : cod 119 16 = some (.inr (0, 9, 17, 0, 0), 3) := rfl
theorem k_119_19 : cod 119 19 = some (.inl (.iload 6), 2) := rfl
theorem k_119_21 : cod 119 21 = some (.inl .iaload, 1) := rfl
theorem k_119_22 : cod 119 22 = some (.inl (.iload_n 2), 1) := rfl
theorem k_119_23 : cod 119 23 = some (.inl (.if_icmp .ne 53), 3) := rfl
theorem k_119_26 : cod 119 26 = some (.inl (.aload_n 0), 1) := rfl
theorem k_119_27 : cod 119 27 = some (.inr (0, 9, 19, 0, 0), 3) := rfl
theorem k_119_30 : cod 119 30 = some (.inl (.iload 6), 2) := rfl
theorem k_119_32 : cod 119 32 = some (.inl .laload, 1) := rfl
theorem k_119_33 : cod 119 33 = some (.inl (.lload_n 3), 1) := rfl
theorem k_119_34 : cod 119 34 = some (.inl .lcmp, 1) := rfl
theorem k_119_35 : cod 119 35 = some (.inl (.ifCond .ne 41), 3) := rfl
theorem k_119_38 : cod 119 38 = some (.inl (.aload_n 0), 1) := rfl
theorem k_119_39 : cod 119 39 = some (.inr (0, 9, 16, 0, 0), 3) := rfl
theorem k_119_42 : cod 119 42 = some (.inl (.iload 6), 2) := rfl
theorem k_119_44 : cod 119 44 = some (.inl .iaload, 1) := rfl
theorem k_119_45 : cod 119 45 = some (.inl (.iload_n 1), 1) := rfl
theorem k_119_46 : cod 119 46 = some (.inl (.if_icmp .eq 18), 3) := rfl
theorem k_119_49 : cod 119 49 = some (.inl (.aload_n 0), 1) := rfl
theorem k_119_50 : cod 119 50 = some (.inl (.aload_n 0), 1) := rfl
theorem k_119_51 : cod 119 51 = some (.inr (0, 9, 16, 0, 0), 3) := rfl
theorem k_119_54 : cod 119 54 = some (.inl (.iload 6), 2) := rfl
theorem k_119_56 : cod 119 56 = some (.inl .iaload, 1) := rfl
theorem k_119_57 : cod 119 57 = some (.inl (.iload_n 1), 1) := rfl
theorem k_119_58 : cod 119 58 = some (.inr (17, 114, 3, 1, 9), 3) := rfl
theorem k_119_61 : cod 119 61 = some (.inl (.ifCond .eq 15), 3) := rfl
theorem k_119_64 : cod 119 64 = some (.inl (.iload 5), 2) := rfl
theorem k_119_66 : cod 119 66 = some (.inl (.aload_n 0), 1) := rfl
theorem k_119_67 : cod 119 67 = some (.inr (0, 9, 18, 0, 0), 3) := rfl
theorem k_119_70 : cod 119 70 = some (.inl (.iload 6), 2) := rfl
theorem k_119_72 : cod 119 72 = some (.inl .iaload, 1) := rfl
theorem k_119_73 : cod 119 73 = some (.inl .iadd, 1) := rfl
theorem k_119_74 : cod 119 74 = some (.inl (.istore 5), 2) := rfl
theorem k_119_76 : cod 119 76 = some (.inl (.iinc 6 1), 3) := rfl
theorem k_119_79 : cod 119 79 = some (.inl (.goto (-73)), 3) := rfl
theorem k_119_82 : cod 119 82 = some (.inl (.iload 5), 2) := rfl
theorem k_119_84 : cod 119 84 = some (.inl .ireturn, 1) := rfl
theorem k_120_0 : cod 120 0 = some (.inl (.aload_n 0), 1) := rfl
theorem k_120_1 : cod 120 1 = some (.inl (.iload_n 1), 1) := rfl
theorem k_120_2 : cod 120 2 = some (.inl (.iload_n 2), 1) := rfl
theorem k_120_3 : cod 120 3 = some (.inl (.iconst 1), 1) := rfl
theorem k_120_4 : cod 120 4 = some (.inr (17, 109, 4, 1, 9), 3) := rfl
theorem k_120_7 : cod 120 7 = some (.inl (.ifCond .eq 5), 3) := rfl
theorem k_120_10 : cod 120 10 = some (.inl (.iconst 0), 1) := rfl
theorem k_120_11 : cod 120 11 = some (.inl .ireturn, 1) := rfl
theorem k_120_12 : cod 120 12 = some (.inr (15, 9223372036854775808, 1, 0, 0), 3) := rfl
theorem k_120_15 : cod 120 15 = some (.inl (.lstore 4), 2) := rfl
theorem k_120_17 : cod 120 17 = some (.inl (.iconst 0), 1) := rfl
theorem k_120_18 : cod 120 18 = some (.inl (.istore 6), 2) := rfl
theorem k_120_20 : cod 120 20 = some (.inl (.iload 6), 2) := rfl
theorem k_120_22 : cod 120 22 = some (.inl (.iload_n 3), 1) := rfl
theorem k_120_23 : cod 120 23 = some (.inl (.if_icmp .gt 113), 3) := rfl
theorem k_120_26 : cod 120 26 = some (.inr (15, 9223372036854775807, 0, 0, 0), 3) := rfl
theorem k_120_29 : cod 120 29 = some (.inl (.lstore 7), 2) := rfl
theorem k_120_31 : cod 120 31 = some (.inl (.iconst 0), 1) := rfl
theorem k_120_32 : cod 120 32 = some (.inl (.istore 9), 2) := rfl
theorem k_120_34 : cod 120 34 = some (.inl (.iload 9), 2) := rfl
theorem k_120_36 : cod 120 36 = some (.inl (.aload_n 0), 1) := rfl
theorem k_120_37 : cod 120 37 = some (.inr (0, 9, 4, 0, 0), 3) := rfl
theorem k_120_40 : cod 120 40 = some (.inl (.if_icmp .ge 71), 3) := rfl
theorem k_120_43 : cod 120 43 = some (.inl (.aload_n 0), 1) := rfl
theorem k_120_44 : cod 120 44 = some (.inr (0, 9, 17, 0, 0), 3) := rfl
theorem k_120_47 : cod 120 47 = some (.inl (.iload 9), 2) := rfl
theorem k_120_49 : cod 120 49 = some (.inl .iaload, 1) := rfl
theorem k_120_50 : cod 120 50 = some (.inl (.iload_n 2), 1) := rfl
theorem k_120_51 : cod 120 51 = some (.inl (.if_icmp .ne 54), 3) := rfl
theorem k_120_54 : cod 120 54 = some (.inl (.aload_n 0), 1) := rfl
theorem k_120_55 : cod 120 55 = some (.inr (0, 9, 19, 0, 0), 3) := rfl
theorem k_120_58 : cod 120 58 = some (.inl (.iload 9), 2) := rfl
theorem k_120_60 : cod 120 60 = some (.inl .laload, 1) := rfl
theorem k_120_61 : cod 120 61 = some (.inl (.lload 4), 2) := rfl
theorem k_120_63 : cod 120 63 = some (.inl .lcmp, 1) := rfl
theorem k_120_64 : cod 120 64 = some (.inl (.ifCond .le 41), 3) := rfl
theorem k_120_67 : cod 120 67 = some (.inl (.aload_n 0), 1) := rfl
theorem k_120_68 : cod 120 68 = some (.inr (0, 9, 19, 0, 0), 3) := rfl
theorem k_120_71 : cod 120 71 = some (.inl (.iload 9), 2) := rfl
theorem k_120_73 : cod 120 73 = some (.inl .laload, 1) := rfl
theorem k_120_74 : cod 120 74 = some (.inl (.lload 7), 2) := rfl
theorem k_120_76 : cod 120 76 = some (.inl .lcmp, 1) := rfl
theorem k_120_77 : cod 120 77 = some (.inl (.ifCond .ge 28), 3) := rfl
theorem k_120_80 : cod 120 80 = some (.inl (.aload_n 0), 1) := rfl
theorem k_120_81 : cod 120 81 = some (.inl (.iload_n 1), 1) := rfl
theorem k_120_82 : cod 120 82 = some (.inl (.iload_n 2), 1) := rfl
theorem k_120_83 : cod 120 83 = some (.inl (.aload_n 0), 1) := rfl
theorem k_120_84 : cod 120 84 = some (.inr (0, 9, 19, 0, 0), 3) := rfl
theorem k_120_87 : cod 120 87 = some (.inl (.iload 9), 2) := rfl
theorem k_120_89 : cod 120 89 = some (.inl .laload, 1) := rfl
theorem k_120_90 : cod 120 90 = some (.inr (17, 119, 4, 1, 9), 3) := rfl
theorem k_120_93 : cod 120 93 = some (.inl (.ifCond .eq 12), 3) := rfl
theorem k_120_96 : cod 120 96 = some (.inl (.aload_n 0), 1) := rfl
theorem k_120_97 : cod 120 97 = some (.inr (0, 9, 19, 0, 0), 3) := rfl
theorem k_120_100 : cod 120 100 = some (.inl (.iload 9), 2) := rfl
theorem k_120_102 : cod 120 102 = some (.inl .laload, 1) := rfl
theorem k_120_103 : cod 120 103 = some (.inl (.lstore 7), 2) := rfl
theorem k_120_105 : cod 120 105 = some (.inl (.iinc 9 1), 3) := rfl
theorem k_120_108 : cod 120 108 = some (.inl (.goto (-74)), 3) := rfl
theorem k_120_111 : cod 120 111 = some (.inl (.lload 7), 2) := rfl
theorem k_120_113 : cod 120 113 = some (.inr (15, 9223372036854775807, 0, 0, 0), 3) := rfl
theorem k_120_116 : cod 120 116 = some (.inl .lcmp, 1) := rfl
theorem k_120_117 : cod 120 117 = some (.inl (.ifCond .ne 9), 3) := rfl
theorem k_120_120 : cod 120 120 = some (.inl (.aload_n 0), 1) := rfl
theorem k_120_121 : cod 120 121 = some (.inl (.iconst 3), 1) := rfl
theorem k_120_122 : cod 120 122 = some (.inr (17, 121, 2, 1, 9), 3) := rfl
theorem k_120_125 : cod 120 125 = some (.inl .ireturn, 1) := rfl
theorem k_120_126 : cod 120 126 = some (.inl (.lload 7), 2) := rfl
theorem k_120_128 : cod 120 128 = some (.inl (.lstore 4), 2) := rfl
theorem k_120_130 : cod 120 130 = some (.inl (.iinc 6 1), 3) := rfl
theorem k_120_133 : cod 120 133 = some (.inl (.goto (-113)), 3) := rfl
theorem k_120_136 : cod 120 136 = some (.inl (.iload_n 3), 1) := rfl
theorem k_120_137 : cod 120 137 = some (.inl (.ifCond .ge 11), 3) := rfl
theorem k_120_140 : cod 120 140 = some (.inl (.aload_n 0), 1) := rfl
theorem k_120_141 : cod 120 141 = some (.inl (.iconst 3), 1) := rfl
theorem k_120_142 : cod 120 142 = some (.inr (17, 121, 2, 1, 9), 3) := rfl
theorem k_120_145 : cod 120 145 = some (.inl (.goto 6), 3) := rfl
theorem k_120_148 : cod 120 148 = some (.inl (.lload 4), 2) := rfl
theorem k_120_150 : cod 120 150 = some (.inl .l2i, 1) := rfl
theorem k_120_151 : cod 120 151 = some (.inl .ireturn, 1) := rfl
theorem k_121_0 : cod 121 0 = some (.inl (.aload_n 0), 1) := rfl
theorem k_121_1 : cod 121 1 = some (.inl (.iload_n 1), 1) := rfl
theorem k_121_2 : cod 121 2 = some (.inr (1, 9, 0, 0, 0), 3) := rfl
theorem k_121_5 : cod 121 5 = some (.inl (.iconst 0), 1) := rfl
theorem k_121_6 : cod 121 6 = some (.inl .ireturn, 1) := rfl
theorem k_122_0 : cod 122 0 = some (.inl (.aload_n 0), 1) := rfl
theorem k_122_1 : cod 122 1 = some (.inl (.aload_n 0), 1) := rfl
theorem k_122_2 : cod 122 2 = some (.inl (.iload_n 1), 1) := rfl
theorem k_122_3 : cod 122 3 = some (.inr (17, 110, 2, 1, 9), 3) := rfl
theorem k_122_6 : cod 122 6 = some (.inl (.ifCond .ne 7), 3) := rfl
theorem k_122_9 : cod 122 9 = some (.inl (.iconst 1), 1) := rfl
theorem k_122_10 : cod 122 10 = some (.inl (.goto 4), 3) := rfl
theorem k_122_13 : cod 122 13 = some (.inl (.iconst 0), 1) := rfl
theorem k_122_14 : cod 122 14 = some (.inl (.aload_n 0), 1) := rfl
theorem k_122_15 : cod 122 15 = some (.inl (.iload_n 1), 1) := rfl
theorem k_122_16 : cod 122 16 = some (.inr (17, 110, 2, 1, 9), 3) := rfl
theorem k_122_19 : cod 122 19 = some (.inl (.ifCond .eq 16), 3) := rfl
theorem k_122_22 : cod 122 22 = some (.inl (.aload_n 0), 1) := rfl
theorem k_122_23 : cod 122 23 = some (.inr (0, 9, 11, 0, 0), 3) := rfl
theorem k_122_26 : cod 122 26 = some (.inl (.iload_n 1), 1) := rfl
theorem k_122_27 : cod 122 27 = some (.inl .iaload, 1) := rfl
theorem k_122_28 : cod 122 28 = some (.inl (.ifCond .eq 7), 3) := rfl
theorem k_122_31 : cod 122 31 = some (.inl (.iconst 1), 1) := rfl
theorem k_122_32 : cod 122 32 = some (.inl (.goto 4), 3) := rfl
theorem k_122_35 : cod 122 35 = some (.inl (.iconst 0), 1) := rfl
theorem k_122_36 : cod 122 36 = some (.inr (17, 104, 3, 1, 9), 3) := rfl
theorem k_122_39 : cod 122 39 = some (.inl (.ifCond .eq 5), 3) := rfl
theorem k_122_42 : cod 122 42 = some (.inl (.iconst 0), 1) := rfl
theorem k_122_43 : cod 122 43 = some (.inl .ireturn, 1) := rfl
theorem k_122_44 : cod 122 44 = some (.inl (.iconst 0), 1) := rfl
theorem k_122_45 : cod 122 45 = some (.inl (.istore_n 2), 1) := rfl
theorem k_122_46 : cod 122 46 = some (.inl (.iconst 0), 1) := rfl
theorem k_122_47 : cod 122 47 = some (.inl (.istore_n 3), 1) := rfl
theorem k_122_48 : cod 122 48 = some (.inl (.iconst 0), 1) := rfl
theorem k_122_49 : cod 122 49 = some (.inl (.istore 4), 2) := rfl
theorem k_122_51 : cod 122 51 = some (.inl (.aload_n 0), 1) := rfl
theorem k_122_52 : cod 122 52 = some (.inr (0, 9, 10, 0, 0), 3) := rfl
theorem k_122_55 : cod 122 55 = some (.inl (.iload_n 1), 1) := rfl
theorem k_122_56 : cod 122 56 = some (.inl .iaload, 1) := rfl
theorem k_122_57 : cod 122 57 = some (.inl (.istore 5), 2) := rfl
theorem k_122_59 : cod 122 59 = some (.inl (.iconst 0), 1) := rfl
theorem k_122_60 : cod 122 60 = some (.inl (.istore 6), 2) := rfl
theorem k_122_62 : cod 122 62 = some (.inl (.iload 6), 2) := rfl
theorem k_122_64 : cod 122 64 = some (.inl (.aload_n 0), 1) := rfl
theorem k_122_65 : cod 122 65 = some (.inr (0, 9, 4, 0, 0), 3) := rfl
theorem k_122_68 : cod 122 68 = some (.inl (.if_icmp .ge 77), 3) := rfl
theorem k_122_71 : cod 122 71 = some (.inl (.aload_n 0), 1) := rfl
theorem k_122_72 : cod 122 72 = some (.inr (0, 9, 16, 0, 0), 3) := rfl
theorem k_122_75 : cod 122 75 = some (.inl (.iload 6), 2) := rfl
theorem k_122_77 : cod 122 77 = some (.inl .iaload, 1) := rfl
theorem k_122_78 : cod 122 78 = some (.inl (.iload_n 1), 1) := rfl
theorem k_122_79 : cod 122 79 = some (.inl (.if_icmp .eq 6), 3) := rfl
theorem k_122_82 : cod 122 82 = some (.inl (.goto 57), 3) := rfl
theorem k_122_85 : cod 122 85 = some (.inl (.iconst 1), 1) := rfl
theorem k_122_86 : cod 122 86 = some (.inl (.istore_n 3), 1) := rfl
theorem k_122_87 : cod 122 87 = some (.inl (.aload_n 0), 1) := rfl
theorem k_122_88 : cod 122 88 = some (.inr (0, 9, 9, 0, 0), 3) := rfl
theorem k_122_91 : cod 122 91 = some (.inl (.aload_n 0), 1) := rfl
theorem k_122_92 : cod 122 92 = some (.inr (0, 9, 17, 0, 0), 3) := rfl
theorem k_122_95 : cod 122 95 = some (.inl (.iload 6), 2) := rfl
theorem k_122_97 : cod 122 97 = some (.inl .iaload, 1) := rfl
theorem k_122_98 : cod 122 98 = some (.inl .baload, 1) := rfl
theorem k_122_99 : cod 122 99 = some (.inl (.ifCond .ne 5), 3) := rfl
theorem k_122_102 : cod 122 102 = some (.inl (.iconst 1), 1) := rfl
theorem k_122_103 : cod 122 103 = some (.inl (.istore_n 2), 1) := rfl
theorem k_122_104 : cod 122 104 = some (.inl (.aload_n 0), 1) := rfl
theorem k_122_105 : cod 122 105 = some (.inr (0, 9, 9, 0, 0), 3) := rfl
theorem k_122_108 : cod 122 108 = some (.inl (.aload_n 0), 1) := rfl
theorem k_122_109 : cod 122 109 = some (.inr (0, 9, 17, 0, 0), 3) := rfl
theorem k_122_112 : cod 122 112 = some (.inl (.iload 6), 2) := rfl
theorem k_122_114 : cod 122 114 = some (.inl .iaload, 1) := rfl
theorem k_122_115 : cod 122 115 = some (.inl .baload, 1) := rfl
theorem k_122_116 : cod 122 116 = some (.inl (.ifCond .ne 23), 3) := rfl
theorem k_122_119 : cod 122 119 = some (.inl (.aload_n 0), 1) := rfl
theorem k_122_120 : cod 122 120 = some (.inr (0, 9, 7, 0, 0), 3) := rfl
theorem k_122_123 : cod 122 123 = some (.inl (.aload_n 0), 1) := rfl
theorem k_122_124 : cod 122 124 = some (.inr (0, 9, 17, 0, 0), 3) := rfl
theorem k_122_127 : cod 122 127 = some (.inl (.iload 6), 2) := rfl
theorem k_122_129 : cod 122 129 = some (.inl .iaload, 1) := rfl
theorem k_122_130 : cod 122 130 = some (.inl .iaload, 1) := rfl
theorem k_122_131 : cod 122 131 = some (.inl (.iload 5), 2) := rfl
theorem k_122_133 : cod 122 133 = some (.inl (.if_icmp .eq 6), 3) := rfl
theorem k_122_136 : cod 122 136 = some (.inl (.iconst 1), 1) := rfl
theorem k_122_137 : cod 122 137 = some (.inl (.istore 4), 2) := rfl
theorem k_122_139 : cod 122 139 = some (.inl (.iinc 6 1), 3) := rfl
theorem k_122_142 : cod 122 142 = some (.inl (.goto (-80)), 3) := rfl
theorem k_122_145 : cod 122 145 = some (.inl (.iload_n 3), 1) := rfl
theorem k_122_146 : cod 122 146 = some (.inl (.ifCond .ne 13), 3) := rfl
theorem k_122_149 : cod 122 149 = some (.inl (.aload_n 0), 1) := rfl
theorem k_122_150 : cod 122 150 = some (.inr (0, 9, 11, 0, 0), 3) := rfl
theorem k_122_153 : cod 122 153 = some (.inl (.iload_n 1), 1) := rfl
theorem k_122_154 : cod 122 154 = some (.inl (.iconst 1), 1) := rfl
theorem k_122_155 : cod 122 155 = some (.inl .iastore, 1) := rfl
theorem k_122_156 : cod 122 156 = some (.inl (.goto 120), 3) := rfl
theorem k_122_159 : cod 122 159 = some (.inl (.iload_n 2), 1) := rfl
theorem k_122_160 : cod 122 160 = some (.inl (.ifCond .ne 11), 3) := rfl
theorem k_122_163 : cod 122 163 = some (.inl (.aload_n 0), 1) := rfl
theorem k_122_164 : cod 122 164 = some (.inl (.iload_n 1), 1) := rfl
theorem k_122_165 : cod 122 165 = some (.inr (17, 123, 2, 1, 9), 3) := rfl
theorem k_122_168 : cod 122 168 = some (.inl (.goto 108), 3) := rfl
theorem k_122_171 : cod 122 171 = some (.inl (.aload_n 0), 1) := rfl
theorem k_122_172 : cod 122 172 = some (.inl (.iload_n 1), 1) := rfl
theorem k_122_173 : cod 122 173 = some (.inl (.iload 5), 2) := rfl
theorem k_122_175 : cod 122 175 = some (.inr (17, 128, 3, 1, 9), 3) := rfl
theorem k_122_178 : cod 122 178 = some (.inl (.ifCond .eq 13), 3) := rfl
theorem k_122_181 : cod 122 181 = some (.inl (.aload_n 0), 1) := rfl
theorem k_122_182 : cod 122 182 = some (.inr (0, 9, 11, 0, 0), 3) := rfl
theorem k_122_185 : cod 122 185 = some (.inl (.iload_n 1), 1) := rfl
theorem k_122_186 : cod 122 186 = some (.inl (.iconst 2), 1) := rfl
theorem k_122_187 : cod 122 187 = some (.inl .iastore, 1) := rfl
theorem k_122_188 : cod 122 188 = some (.inl (.goto 88), 3) := rfl
theorem k_122_191 : cod 122 191 = some (.inl (.iload 4), 2) := rfl
theorem k_122_193 : cod 122 193 = some (.inl (.ifCond .ne 11), 3) := rfl
theorem k_122_196 : cod 122 196 = some (.inl (.aload_n 0), 1) := rfl
theorem k_122_197 : cod 122 197 = some (.inl (.iload_n 1), 1) := rfl
theorem k_122_198 : cod 122 198 = some (.inr (17, 123, 2, 1, 9), 3) := rfl
theorem k_122_201 : cod 122 201 = some (.inl (.goto 75), 3) := rfl
theorem k_122_204 : cod 122 204 = some (.inl (.aload_n 0), 1) := rfl
theorem k_122_205 : cod 122 205 = some (.inl (.iload_n 1), 1) := rfl
theorem k_122_206 : cod 122 206 = some (.inl (.iload 5), 2) := rfl
theorem k_122_208 : cod 122 208 = some (.inr (17, 130, 3, 1, 9), 3) := rfl
theorem k_122_211 : cod 122 211 = some (.inl (.aload_n 0), 1) := rfl
theorem k_122_212 : cod 122 212 = some (.inr (0, 9, 11, 0, 0), 3) := rfl
theorem k_122_215 : cod 122 215 = some (.inl (.iload_n 1), 1) := rfl
theorem k_122_216 : cod 122 216 = some (.inl (.iconst 3), 1) := rfl
theorem k_122_217 : cod 122 217 = some (.inl .iastore, 1) := rfl
theorem k_122_218 : cod 122 218 = some (.inl (.iconst 0), 1) := rfl
theorem k_122_219 : cod 122 219 = some (.inl (.istore 6), 2) := rfl
theorem k_122_221 : cod 122 221 = some (.inl (.iload 6), 2) := rfl
theorem k_122_223 : cod 122 223 = some (.inl (.aload_n 0), 1) := rfl
theorem k_122_224 : cod 122 224 = some (.inr (0, 9, 1, 0, 0), 3) := rfl
theorem k_122_227 : cod 122 227 = some (.inl (.if_icmp .ge 49), 3) := rfl
theorem k_122_230 : cod 122 230 = some (.inl (.iload 6), 2) := rfl
theorem k_122_232 : cod 122 232 = some (.inl (.iload 5), 2) := rfl
theorem k_122_234 : cod 122 234 = some (.inl (.if_icmp .eq 36), 3) := rfl
theorem k_122_237 : cod 122 237 = some (.inl (.aload_n 0), 1) := rfl
theorem k_122_238 : cod 122 238 = some (.inl (.iload_n 1), 1) := rfl
theorem k_122_239 : cod 122 239 = some (.inl (.iload 6), 2) := rfl
theorem k_122_241 : cod 122 241 = some (.inr (17, 131, 3, 1, 9), 3) := rfl
theorem k_122_244 : cod 122 244 = some (.inl (.ifCond .ne 6), 3) := rfl
theorem k_122_247 : cod 122 247 = some (.inl (.goto 23), 3) := rfl
theorem k_122_250 : cod 122 250 = some (.inl (.aload_n 0), 1) := rfl
theorem k_122_251 : cod 122 251 = some (.inl (.iload 5), 2) := rfl
theorem k_122_253 : cod 122 253 = some (.inl (.iload 6), 2) := rfl
theorem k_122_255 : cod 122 255 = some (.inl (.iconst 1), 1) := rfl
theorem k_122_256 : cod 122 256 = some (.inl (.iload_n 1), 1) := rfl
theorem k_122_257 : cod 122 257 = some (.inr (17, 125, 5, 1, 9), 3) := rfl
theorem k_122_260 : cod 122 260 = some (.inl (.aload_n 0), 1) := rfl
theorem k_122_261 : cod 122 261 = some (.inr (0, 9, 15, 0, 0), 3) := rfl
theorem k_122_264 : cod 122 264 = some (.inl (.iload_n 1), 1) := rfl
theorem k_122_265 : cod 122 265 = some (.inl .dup2, 1) := rfl
theorem k_122_266 : cod 122 266 = some (.inl .iaload, 1) := rfl
theorem k_122_267 : cod 122 267 = some (.inl (.iconst 1), 1) := rfl
theorem k_122_268 : cod 122 268 = some (.inl .iadd, 1) := rfl
theorem k_122_269 : cod 122 269 = some (.inl .iastore, 1) := rfl
theorem k_122_270 : cod 122 270 = some (.inl (.iinc 6 1), 3) := rfl
theorem k_122_273 : cod 122 273 = some (.inl (.goto (-52)), 3) := rfl
theorem k_122_276 : cod 122 276 = some (.inl (.aload_n 0), 1) := rfl
theorem k_122_277 : cod 122 277 = some (.inr (0, 9, 11, 0, 0), 3) := rfl
theorem k_122_280 : cod 122 280 = some (.inl (.iload_n 1), 1) := rfl
theorem k_122_281 : cod 122 281 = some (.inl .iaload, 1) := rfl
theorem k_122_282 : cod 122 282 = some (.inl .ireturn, 1) := rfl
theorem k_123_0 : cod 123 0 = some (.inl (.aload_n 0), 1) := rfl
theorem k_123_1 : cod 123 1 = some (.inr (0, 9, 10, 0, 0), 3) := rfl
theorem k_123_4 : cod 123 4 = some (.inl (.iload_n 1), 1) := rfl
theorem k_123_5 : cod 123 5 = some (.inl .iaload, 1) := rfl
theorem k_123_6 : cod 123 6 = some (.inl (.istore_n 2), 1) := rfl
theorem k_123_7 : cod 123 7 = some (.inl (.aload_n 0), 1) := rfl
theorem k_123_8 : cod 123 8 = some (.inr (0, 9, 11, 0, 0), 3) := rfl
theorem k_123_11 : cod 123 11 = some (.inl (.iload_n 1), 1) := rfl
theorem k_123_12 : cod 123 12 = some (.inl (.iconst 1), 1) := rfl
theorem k_123_13 : cod 123 13 = some (.inl .iastore, 1) := rfl
theorem k_123_14 : cod 123 14 = some (.inl (.aload_n 0), 1) := rfl
theorem k_123_15 : cod 123 15 = some (.inr (0, 9, 21, 0, 0), 3) := rfl
theorem k_123_18 : cod 123 18 = some (.inl (.iload_n 2), 1) := rfl
theorem k_123_19 : cod 123 19 = some (.inl .dup2, 1) := rfl
theorem k_123_20 : cod 123 20 = some (.inl .iaload, 1) := rfl
theorem k_123_21 : cod 123 21 = some (.inl (.iconst 1), 1) := rfl
theorem k_123_22 : cod 123 22 = some (.inl .iadd, 1) := rfl
theorem k_123_23 : cod 123 23 = some (.inl .iastore, 1) := rfl
theorem k_123_24 : cod 123 24 = some (.inl (.aload_n 0), 1) := rfl
theorem k_123_25 : cod 123 25 = some (.inl .dup, 1) := rfl
theorem k_123_26 : cod 123 26 = some (.inr (0, 9, 6, 0, 0), 3) := rfl
theorem k_123_29 : cod 123 29 = some (.inl (.iconst 1), 1) := rfl
theorem k_123_30 : cod 123 30 = some (.inl .iadd, 1) := rfl
theorem k_123_31 : cod 123 31 = some (.inr (1, 9, 6, 0, 0), 3) := rfl
theorem k_123_34 : cod 123 34 = some (.inl (.aload_n 0), 1) := rfl
theorem k_123_35 : cod 123 35 = some (.inr (0, 9, 12, 0, 0), 3) := rfl
theorem k_123_38 : cod 123 38 = some (.inl (.iload_n 1), 1) := rfl
theorem k_123_39 : cod 123 39 = some (.inl (.aload_n 0), 1) := rfl
theorem k_123_40 : cod 123 40 = some (.inr (0, 9, 21, 0, 0), 3) := rfl
theorem k_123_43 : cod 123 43 = some (.inl (.iload_n 2), 1) := rfl
theorem k_123_44 : cod 123 44 = some (.inl .iaload, 1) := rfl
theorem k_123_45 : cod 123 45 = some (.inl .iastore, 1) := rfl
theorem k_123_46 : cod 123 46 = some (.inl (.aload_n 0), 1) := rfl
theorem k_123_47 : cod 123 47 = some (.inr (0, 9, 22, 0, 0), 3) := rfl
theorem k_123_50 : cod 123 50 = some (.inl (.iload_n 2), 1) := rfl
theorem k_123_51 : cod 123 51 = some (.inl (.sipush 501), 3) := rfl
theorem k_123_54 : cod 123 54 = some (.inl .imul, 1) := rfl
theorem k_123_55 : cod 123 55 = some (.inl (.aload_n 0), 1) := rfl
theorem k_123_56 : cod 123 56 = some (.inr (0, 9, 21, 0, 0), 3) := rfl
theorem k_123_59 : cod 123 59 = some (.inl (.iload_n 2), 1) := rfl
theorem k_123_60 : cod 123 60 = some (.inl .iaload, 1) := rfl
theorem k_123_61 : cod 123 61 = some (.inl .iadd, 1) := rfl
theorem k_123_62 : cod 123 62 = some (.inl (.iload_n 1), 1) := rfl
theorem k_123_63 : cod 123 63 = some (.inl .iastore, 1) := rfl
theorem k_123_64 : cod 123 64 = some (.inl (.aload_n 0), 1) := rfl
theorem k_123_65 : cod 123 65 = some (.inr (0, 9, 20, 0, 0), 3) := rfl
theorem k_123_68 : cod 123 68 = some (.inl (.bipush 6), 2) := rfl
theorem k_123_70 : cod 123 70 = some (.inl (.iload_n 2), 1) := rfl
theorem k_123_71 : cod 123 71 = some (.inl .imul, 1) := rfl
theorem k_123_72 : cod 123 72 = some (.inl (.iload_n 2), 1) := rfl
theorem k_123_73 : cod 123 73 = some (.inl .iadd, 1) := rfl
theorem k_123_74 : cod 123 74 = some (.inl (.aload_n 0), 1) := rfl
theorem k_123_75 : cod 123 75 = some (.inr (0, 9, 21, 0, 0), 3) := rfl
theorem k_123_78 : cod 123 78 = some (.inl (.iload_n 2), 1) := rfl
theorem k_123_79 : cod 123 79 = some (.inl .iaload, 1) := rfl
theorem k_123_80 : cod 123 80 = some (.inl .iastore, 1) := rfl
theorem k_123_81 : cod 123 81 = some (.inl (.aload_n 0), 1) := rfl
theorem k_123_82 : cod 123 82 = some (.inl (.iload_n 1), 1) := rfl
theorem k_123_83 : cod 123 83 = some (.inl (.iload_n 2), 1) := rfl
theorem k_123_84 : cod 123 84 = some (.inr (17, 124, 3, 1, 9), 3) := rfl
theorem k_123_87 : cod 123 87 = some (.inl (.iconst 0), 1) := rfl
theorem k_123_88 : cod 123 88 = some (.inl (.istore_n 3), 1) := rfl
theorem k_123_89 : cod 123 89 = some (.inl (.iload_n 3), 1) := rfl
theorem k_123_90 : cod 123 90 = some (.inl (.aload_n 0), 1) := rfl
theorem k_123_91 : cod 123 91 = some (.inr (0, 9, 1, 0, 0), 3) := rfl
theorem k_123_94 : cod 123 94 = some (.inl (.if_icmp .ge 22), 3) := rfl
theorem k_123_97 : cod 123 97 = some (.inl (.iload_n 3), 1) := rfl
theorem k_123_98 : cod 123 98 = some (.inl (.iload_n 2), 1) := rfl
theorem k_123_99 : cod 123 99 = some (.inl (.if_icmp .eq 11), 3) := rfl
theorem k_123_102 : cod 123 102 = some (.inl (.aload_n 0), 1) := rfl
theorem k_123_103 : cod 123 103 = some (.inl (.iload_n 2), 1) := rfl
theorem k_123_104 : cod 123 104 = some (.inl (.iload_n 3), 1) := rfl
theorem k_123_105 : cod 123 105 = some (.inl (.iconst 5), 1) := rfl
theorem k_123_106 : cod 123 106 = some (.inl (.iload_n 1), 1) := rfl
theorem k_123_107 : cod 123 107 = some (.inr (17, 125, 5, 1, 9), 3) := rfl
theorem k_123_110 : cod 123 110 = some (.inl (.iinc 3 1), 3) := rfl
theorem k_123_113 : cod 123 113 = some (.inl (.goto (-24)), 3) := rfl
theorem k_123_116 : cod 123 116 = some (.inl (.aload_n 0), 1) := rfl
theorem k_123_117 : cod 123 117 = some (.inl (.iload_n 2), 1) := rfl
theorem k_123_118 : cod 123 118 = some (.inr (17, 126, 2, 1, 9), 3) := rfl
theorem k_123_121 : cod 123 121 = some (.inl .return_, 1) := rfl
theorem k_124_0 : cod 124 0 = some (.inl (.iconst 0), 1) := rfl
theorem k_124_1 : cod 124 1 = some (.inl (.istore_n 3), 1) := rfl
theorem k_124_2 : cod 124 2 = some (.inl (.iload_n 3), 1) := rfl
theorem k_124_3 : cod 124 3 = some (.inl (.aload_n 0), 1) := rfl
theorem k_124_4 : cod 124 4 = some (.inr (0, 9, 2, 0, 0), 3) := rfl
theorem k_124_7 : cod 124 7 = some (.inl (.if_icmp .ge 36), 3) := rfl
theorem k_124_10 : cod 124 10 = some (.inl (.aload_n 0), 1) := rfl
theorem k_124_11 : cod 124 11 = some (.inr (0, 9, 7, 0, 0), 3) := rfl
theorem k_124_14 : cod 124 14 = some (.inl (.iload_n 3), 1) := rfl
theorem k_124_15 : cod 124 15 = some (.inl .iaload, 1) := rfl
theorem k_124_16 : cod 124 16 = some (.inl (.iload_n 2), 1) := rfl
theorem k_124_17 : cod 124 17 = some (.inl (.if_icmp .ne 20), 3) := rfl
theorem k_124_20 : cod 124 20 = some (.inl (.aload_n 0), 1) := rfl
theorem k_124_21 : cod 124 21 = some (.inr (0, 9, 8, 0, 0), 3) := rfl
theorem k_124_24 : cod 124 24 = some (.inl (.iload_n 3), 1) := rfl
theorem k_124_25 : cod 124 25 = some (.inl .iaload, 1) := rfl
theorem k_124_26 : cod 124 26 = some (.inl (.iload_n 1), 1) := rfl
theorem k_124_27 : cod 124 27 = some (.inl (.if_icmp .ne 10), 3) := rfl
theorem k_124_30 : cod 124 30 = some (.inl (.aload_n 0), 1) := rfl
theorem k_124_31 : cod 124 31 = some (.inr (0, 9, 8, 0, 0), 3) := rfl
theorem k_124_34 : cod 124 34 = some (.inl (.iload_n 3), 1) := rfl
theorem k_124_35 : cod 124 35 = some (.inl (.iconst (-1)), 1) := rfl
theorem k_124_36 : cod 124 36 = some (.inl .iastore, 1) := rfl
theorem k_124_37 : cod 124 37 = some (.inl (.iinc 3 1), 3) := rfl
theorem k_124_40 : cod 124 40 = some (.inl (.goto (-38)), 3) := rfl
theorem k_124_43 : cod 124 43 = some (.inl .return_, 1) := rfl
theorem k_125_0 : cod 125 0 = some (.inl (.aload_n 0), 1) := rfl
theorem k_125_1 : cod 125 1 = some (.inr (0, 9, 23, 0, 0), 3) := rfl
theorem k_125_4 : cod 125 4 = some (.inl (.aload_n 0), 1) := rfl
theorem k_125_5 : cod 125 5 = some (.inr (0, 9, 5, 0, 0), 3) := rfl
theorem k_125_8 : cod 125 8 = some (.inl (.iload_n 1), 1) := rfl
theorem k_125_9 : cod 125 9 = some (.inl .iastore, 1) := rfl
theorem k_125_10 : cod 125 10 = some (.inl (.aload_n 0), 1) := rfl
theorem k_125_11 : cod 125 11 = some (.inr (0, 9, 24, 0, 0), 3) := rfl
theorem k_125_14 : cod 125 14 = some (.inl (.aload_n 0), 1) := rfl
theorem k_125_15 : cod 125 15 = some (.inr (0, 9, 5, 0, 0), 3) := rfl
theorem k_125_18 : cod 125 18 = some (.inl (.iload_n 2), 1) := rfl
theorem k_125_19 : cod 125 19 = some (.inl .iastore, 1) := rfl
theorem k_125_20 : cod 125 20 = some (.inl (.aload_n 0), 1) := rfl
theorem k_125_21 : cod 125 21 = some (.inr (0, 9, 25, 0, 0), 3) := rfl
theorem k_125_24 : cod 125 24 = some (.inl (.aload_n 0), 1) := rfl
theorem k_125_25 : cod 125 25 = some (.inr (0, 9, 5, 0, 0), 3) := rfl
theorem k_125_28 : cod 125 28 = some (.inl (.iload_n 3), 1) := rfl
theorem k_125_29 : cod 125 29 = some (.inl .iastore, 1) := rfl
theorem k_125_30 : cod 125 30 = some (.inl (.aload_n 0), 1) := rfl
theorem k_125_31 : cod 125 31 = some (.inr (0, 9, 26, 0, 0), 3) := rfl
theorem k_125_34 : cod 125 34 = some (.inl (.aload_n 0), 1) := rfl
theorem k_125_35 : cod 125 35 = some (.inr (0, 9, 5, 0, 0), 3) := rfl
theorem k_125_38 : cod 125 38 = some (.inl (.iload 4), 2) := rfl
theorem k_125_40 : cod 125 40 = some (.inl .iastore, 1) := rfl
theorem k_125_41 : cod 125 41 = some (.inl (.aload_n 0), 1) := rfl
theorem k_125_42 : cod 125 42 = some (.inl .dup, 1) := rfl
theorem k_125_43 : cod 125 43 = some (.inr (0, 9, 5, 0, 0), 3) := rfl
theorem k_125_46 : cod 125 46 = some (.inl (.iconst 1), 1) := rfl
theorem k_125_47 : cod 125 47 = some (.inl .iadd, 1) := rfl
theorem k_125_48 : cod 125 48 = some (.inr (1, 9, 5, 0, 0), 3) := rfl
theorem k_125_51 : cod 125 51 = some (.inl .return_, 1) := rfl
theorem k_126_0 : cod 126 0 = some (.inl (.iconst 1), 1) := rfl
theorem k_126_1 : cod 126 1 = some (.inl (.istore_n 2), 1) := rfl
theorem k_126_2 : cod 126 2 = some (.inl (.iload_n 2), 1) := rfl
theorem k_126_3 : cod 126 3 = some (.inl (.ifCond .eq 145), 3) := rfl
theorem k_126_6 : cod 126 6 = some (.inl (.iconst 0), 1) := rfl
theorem k_126_7 : cod 126 7 = some (.inl (.istore_n 2), 1) := rfl
theorem k_126_8 : cod 126 8 = some (.inl (.iconst 0), 1) := rfl
theorem k_126_9 : cod 126 9 = some (.inl (.istore_n 3), 1) := rfl
theorem k_126_10 : cod 126 10 = some (.inl (.iload_n 3), 1) := rfl
theorem k_126_11 : cod 126 11 = some (.inl (.aload_n 0), 1) := rfl
theorem k_126_12 : cod 126 12 = some (.inr (0, 9, 28, 0, 0), 3) := rfl
theorem k_126_15 : cod 126 15 = some (.inl (.iload_n 1), 1) := rfl
theorem k_126_16 : cod 126 16 = some (.inl .iaload, 1) := rfl
theorem k_126_17 : cod 126 17 = some (.inl (.if_icmp .ge 128), 3) := rfl
theorem k_126_20 : cod 126 20 = some (.inl (.iload_n 2), 1) := rfl
theorem k_126_21 : cod 126 21 = some (.inl (.ifCond .ne 124), 3) := rfl
theorem k_126_24 : cod 126 24 = some (.inl (.aload_n 0), 1) := rfl
theorem k_126_25 : cod 126 25 = some (.inr (0, 9, 27, 0, 0), 3) := rfl
theorem k_126_28 : cod 126 28 = some (.inl (.sipush 500), 3) := rfl
theorem k_126_31 : cod 126 31 = some (.inl (.iload_n 1), 1) := rfl
theorem k_126_32 : cod 126 32 = some (.inl .imul, 1) := rfl
theorem k_126_33 : cod 126 33 = some (.inl (.iload_n 3), 1) := rfl
theorem k_126_34 : cod 126 34 = some (.inl .iadd, 1) := rfl
theorem k_126_35 : cod 126 35 = some (.inl .iaload, 1) := rfl
theorem k_126_36 : cod 126 36 = some (.inl (.istore 4), 2) := rfl
theorem k_126_38 : cod 126 38 = some (.inl (.aload_n 0), 1) := rfl
theorem k_126_39 : cod 126 39 = some (.inl (.iload 4), 2) := rfl
theorem k_126_41 : cod 126 41 = some (.inl (.iload_n 1), 1) := rfl
theorem k_126_42 : cod 126 42 = some (.inr (17, 127, 3, 1, 9), 3) := rfl
theorem k_126_45 : cod 126 45 = some (.inl (.ifCond .ne 6), 3) := rfl
theorem k_126_48 : cod 126 48 = some (.inl (.goto 91), 3) := rfl
theorem k_126_51 : cod 126 51 = some (.inl (.aload_n 0), 1) := rfl
theorem k_126_52 : cod 126 52 = some (.inr (0, 9, 28, 0, 0), 3) := rfl
theorem k_126_55 : cod 126 55 = some (.inl (.iload_n 1), 1) := rfl
theorem k_126_56 : cod 126 56 = some (.inl .dup2, 1) := rfl
theorem k_126_57 : cod 126 57 = some (.inl .iaload, 1) := rfl
theorem k_126_58 : cod 126 58 = some (.inl (.iconst 1), 1) := rfl
theorem k_126_59 : cod 126 59 = some (.inl .isub, 1) := rfl
theorem k_126_60 : cod 126 60 = some (.inl .iastore, 1) := rfl
theorem k_126_61 : cod 126 61 = some (.inl (.iload_n 3), 1) := rfl
theorem k_126_62 : cod 126 62 = some (.inl (.istore 5), 2) := rfl
theorem k_126_64 : cod 126 64 = some (.inl (.iload 5), 2) := rfl
theorem k_126_66 : cod 126 66 = some (.inl (.aload_n 0), 1) := rfl
theorem k_126_67 : cod 126 67 = some (.inr (0, 9, 28, 0, 0), 3) := rfl
theorem k_126_70 : cod 126 70 = some (.inl (.iload_n 1), 1) := rfl
theorem k_126_71 : cod 126 71 = some (.inl .iaload, 1) := rfl
theorem k_126_72 : cod 126 72 = some (.inl (.if_icmp .ge 37), 3) := rfl
theorem k_126_75 : cod 126 75 = some (.inl (.aload_n 0), 1) := rfl
theorem k_126_76 : cod 126 76 = some (.inr (0, 9, 27, 0, 0), 3) := rfl
theorem k_126_79 : cod 126 79 = some (.inl (.sipush 500), 3) := rfl
theorem k_126_82 : cod 126 82 = some (.inl (.iload_n 1), 1) := rfl
theorem k_126_83 : cod 126 83 = some (.inl .imul, 1) := rfl
theorem k_126_84 : cod 126 84 = some (.inl (.iload 5), 2) := rfl
theorem k_126_86 : cod 126 86 = some (.inl .iadd, 1) := rfl
theorem k_126_87 : cod 126 87 = some (.inl (.aload_n 0), 1) := rfl
theorem k_126_88 : cod 126 88 = some (.inr (0, 9, 27, 0, 0), 3) := rfl
theorem k_126_91 : cod 126 91 = some (.inl (.sipush 500), 3) := rfl
theorem k_126_94 : cod 126 94 = some (.inl (.iload_n 1), 1) := rfl
theorem k_126_95 : cod 126 95 = some (.inl .imul, 1) := rfl
theorem k_126_96 : cod 126 96 = some (.inl (.iload 5), 2) := rfl
theorem k_126_98 : cod 126 98 = some (.inl .iadd, 1) := rfl
theorem k_126_99 : cod 126 99 = some (.inl (.iconst 1), 1) := rfl
theorem k_126_100 : cod 126 100 = some (.inl .iadd, 1) := rfl
theorem k_126_101 : cod 126 101 = some (.inl .iaload, 1) := rfl
theorem k_126_102 : cod 126 102 = some (.inl .iastore, 1) := rfl
theorem k_126_103 : cod 126 103 = some (.inl (.iinc 5 1), 3) := rfl
theorem k_126_106 : cod 126 106 = some (.inl (.goto (-42)), 3) := rfl
theorem k_126_109 : cod 126 109 = some (.inl (.aload_n 0), 1) := rfl
theorem k_126_110 : cod 126 110 = some (.inr (0, 9, 20, 0, 0), 3) := rfl
theorem k_126_113 : cod 126 113 = some (.inl (.bipush 6), 2) := rfl
theorem k_126_115 : cod 126 115 = some (.inl (.iload_n 1), 1) := rfl
theorem k_126_116 : cod 126 116 = some (.inl .imul, 1) := rfl
theorem k_126_117 : cod 126 117 = some (.inl (.aload_n 0), 1) := rfl
theorem k_126_118 : cod 126 118 = some (.inr (0, 9, 10, 0, 0), 3) := rfl
theorem k_126_121 : cod 126 121 = some (.inl (.iload 4), 2) := rfl
theorem k_126_123 : cod 126 123 = some (.inl .iaload, 1) := rfl
theorem k_126_124 : cod 126 124 = some (.inl .iadd, 1) := rfl
theorem k_126_125 : cod 126 125 = some (.inl .dup2, 1) := rfl
theorem k_126_126 : cod 126 126 = some (.inl .iaload, 1) := rfl
theorem k_126_127 : cod 126 127 = some (.inl (.iconst 1), 1) := rfl
theorem k_126_128 : cod 126 128 = some (.inl .iadd, 1) := rfl
theorem k_126_129 : cod 126 129 = some (.inl .iastore, 1) := rfl
theorem k_126_130 : cod 126 130 = some (.inl (.aload_n 0), 1) := rfl
theorem k_126_131 : cod 126 131 = some (.inl (.iload 4), 2) := rfl
theorem k_126_133 : cod 126 133 = some (.inl (.iload_n 1), 1) := rfl
theorem k_126_134 : cod 126 134 = some (.inr (17, 124, 3, 1, 9), 3) := rfl
theorem k_126_137 : cod 126 137 = some (.inl (.iconst 1), 1) := rfl
theorem k_126_138 : cod 126 138 = some (.inl (.istore_n 2), 1) := rfl
theorem k_126_139 : cod 126 139 = some (.inl (.iinc 3 1), 3) := rfl
theorem k_126_142 : cod 126 142 = some (.inl (.goto (-132)), 3) := rfl
theorem k_126_145 : cod 126 145 = some (.inl (.goto (-143)), 3) := rfl
theorem k_126_148 : cod 126 148 = some (.inl .return_, 1) := rfl
theorem k_127_0 : cod 127 0 = some (.inl (.aload_n 0), 1) := rfl
theorem k_127_1 : cod 127 1 = some (.inr (0, 9, 12, 0, 0), 3) := rfl
theorem k_127_4 : cod 127 4 = some (.inl (.iload_n 1), 1) := rfl
theorem k_127_5 : cod 127 5 = some (.inl .iaload, 1) := rfl
theorem k_127_6 : cod 127 6 = some (.inl (.aload_n 0), 1) := rfl
theorem k_127_7 : cod 127 7 = some (.inr (0, 9, 20, 0, 0), 3) := rfl
theorem k_127_10 : cod 127 10 = some (.inl (.bipush 6), 2) := rfl
theorem k_127_12 : cod 127 12 = some (.inl (.iload_n 2), 1) := rfl
theorem k_127_13 : cod 127 13 = some (.inl .imul, 1) := rfl
theorem k_127_14 : cod 127 14 = some (.inl (.aload_n 0), 1) := rfl
theorem k_127_15 : cod 127 15 = some (.inr (0, 9, 10, 0, 0), 3) := rfl
theorem k_127_18 : cod 127 18 = some (.inl (.iload_n 1), 1) := rfl
theorem k_127_19 : cod 127 19 = some (.inl .iaload, 1) := rfl
theorem k_127_20 : cod 127 20 = some (.inl .iadd, 1) := rfl
theorem k_127_21 : cod 127 21 = some (.inl .iaload, 1) := rfl
theorem k_127_22 : cod 127 22 = some (.inl (.iconst 1), 1) := rfl
theorem k_127_23 : cod 127 23 = some (.inl .iadd, 1) := rfl
theorem k_127_24 : cod 127 24 = some (.inl (.if_icmp .eq 5), 3) := rfl
theorem k_127_27 : cod 127 27 = some (.inl (.iconst 0), 1) := rfl
theorem k_127_28 : cod 127 28 = some (.inl .ireturn, 1) := rfl
theorem k_127_29 : cod 127 29 = some (.inl (.iconst 0), 1) := rfl
theorem k_127_30 : cod 127 30 = some (.inl (.istore_n 3), 1) := rfl
theorem k_127_31 : cod 127 31 = some (.inl (.iload_n 3), 1) := rfl
theorem k_127_32 : cod 127 32 = some (.inl (.aload_n 0), 1) := rfl
theorem k_127_33 : cod 127 33 = some (.inr (0, 9, 1, 0, 0), 3) := rfl
theorem k_127_36 : cod 127 36 = some (.inl (.if_icmp .ge 36), 3) := rfl
theorem k_127_39 : cod 127 39 = some (.inl (.aload_n 0), 1) := rfl
theorem k_127_40 : cod 127 40 = some (.inr (0, 9, 13, 0, 0), 3) := rfl
theorem k_127_43 : cod 127 43 = some (.inl (.bipush 6), 2) := rfl
theorem k_127_45 : cod 127 45 = some (.inl (.iload_n 1), 1) := rfl
theorem k_127_46 : cod 127 46 = some (.inl .imul, 1) := rfl
theorem k_127_47 : cod 127 47 = some (.inl (.iload_n 3), 1) := rfl
theorem k_127_48 : cod 127 48 = some (.inl .iadd, 1) := rfl
theorem k_127_49 : cod 127 49 = some (.inl .iaload, 1) := rfl
theorem k_127_50 : cod 127 50 = some (.inl (.aload_n 0), 1) := rfl
theorem k_127_51 : cod 127 51 = some (.inr (0, 9, 20, 0, 0), 3) := rfl
theorem k_127_54 : cod 127 54 = some (.inl (.bipush 6), 2) := rfl
theorem k_127_56 : cod 127 56 = some (.inl (.iload_n 2), 1) := rfl
theorem k_127_57 : cod 127 57 = some (.inl .imul, 1) := rfl
theorem k_127_58 : cod 127 58 = some (.inl (.iload_n 3), 1) := rfl
theorem k_127_59 : cod 127 59 = some (.inl .iadd, 1) := rfl
theorem k_127_60 : cod 127 60 = some (.inl .iaload, 1) := rfl
theorem k_127_61 : cod 127 61 = some (.inl (.if_icmp .le 5), 3) := rfl
theorem k_127_64 : cod 127 64 = some (.inl (.iconst 0), 1) := rfl
theorem k_127_65 : cod 127 65 = some (.inl .ireturn, 1) := rfl
theorem k_127_66 : cod 127 66 = some (.inl (.iinc 3 1), 3) := rfl
theorem k_127_69 : cod 127 69 = some (.inl (.goto (-38)), 3) := rfl
theorem k_127_72 : cod 127 72 = some (.inl (.iconst 1), 1) := rfl
theorem k_127_73 : cod 127 73 = some (.inl .ireturn, 1) := rfl
theorem k_128_0 : cod 128 0 = some (.inl (.iconst 0), 1) := rfl
theorem k_128_1 : cod 128 1 = some (.inl (.istore_n 3), 1) := rfl
theorem k_128_2 : cod 128 2 = some (.inl (.iload_n 3), 1) := rfl
theorem k_128_3 : cod 128 3 = some (.inl (.aload_n 0), 1) := rfl
theorem k_128_4 : cod 128 4 = some (.inr (0, 9, 2, 0, 0), 3) := rfl
theorem k_128_7 : cod 128 7 = some (.inl (.if_icmp .ge 48), 3) := rfl
theorem k_128_10 : cod 128 10 = some (.inl (.aload_n 0), 1) := rfl
theorem k_128_11 : cod 128 11 = some (.inr (0, 9, 9, 0, 0), 3) := rfl
theorem k_128_14 : cod 128 14 = some (.inl (.iload_n 3), 1) := rfl
theorem k_128_15 : cod 128 15 = some (.inl .baload, 1) := rfl
theorem k_128_16 : cod 128 16 = some (.inl (.ifCond .ne 33), 3) := rfl
theorem k_128_19 : cod 128 19 = some (.inl (.aload_n 0), 1) := rfl
theorem k_128_20 : cod 128 20 = some (.inr (0, 9, 7, 0, 0), 3) := rfl
theorem k_128_23 : cod 128 23 = some (.inl (.iload_n 3), 1) := rfl
theorem k_128_24 : cod 128 24 = some (.inl .iaload, 1) := rfl
theorem k_128_25 : cod 128 25 = some (.inl (.iload_n 2), 1) := rfl
theorem k_128_26 : cod 128 26 = some (.inl (.if_icmp .ne 23), 3) := rfl
theorem k_128_29 : cod 128 29 = some (.inl (.aload_n 0), 1) := rfl
theorem k_128_30 : cod 128 30 = some (.inl (.iload_n 1), 1) := rfl
theorem k_128_31 : cod 128 31 = some (.inl (.iload_n 3), 1) := rfl
theorem k_128_32 : cod 128 32 = some (.inr (17, 112, 3, 1, 9), 3) := rfl
theorem k_128_35 : cod 128 35 = some (.inl (.ifCond .eq 14), 3) := rfl
theorem k_128_38 : cod 128 38 = some (.inl (.aload_n 0), 1) := rfl
theorem k_128_39 : cod 128 39 = some (.inl (.iload_n 1), 1) := rfl
theorem k_128_40 : cod 128 40 = some (.inl (.iload_n 3), 1) := rfl
theorem k_128_41 : cod 128 41 = some (.inr (17, 129, 3, 1, 9), 3) := rfl
theorem k_128_44 : cod 128 44 = some (.inl (.ifCond .eq 5), 3) := rfl
theorem k_128_47 : cod 128 47 = some (.inl (.iconst 1), 1) := rfl
theorem k_128_48 : cod 128 48 = some (.inl .ireturn, 1) := rfl
theorem k_128_49 : cod 128 49 = some (.inl (.iinc 3 1), 3) := rfl
theorem k_128_52 : cod 128 52 = some (.inl (.goto (-50)), 3) := rfl
theorem k_128_55 : cod 128 55 = some (.inl (.iconst 0), 1) := rfl
theorem k_128_56 : cod 128 56 = some (.inl .ireturn, 1) := rfl
theorem k_129_0 : cod 129 0 = some (.inl (.aload_n 0), 1) := rfl
theorem k_129_1 : cod 129 1 = some (.inr (0, 9, 7, 0, 0), 3) := rfl
theorem k_129_4 : cod 129 4 = some (.inl (.iload_n 2), 1) := rfl
theorem k_129_5 : cod 129 5 = some (.inl .iaload, 1) := rfl
theorem k_129_6 : cod 129 6 = some (.inl (.istore_n 3), 1) := rfl
theorem k_129_7 : cod 129 7 = some (.inl (.aload_n 0), 1) := rfl
theorem k_129_8 : cod 129 8 = some (.inr (0, 9, 8, 0, 0), 3) := rfl
theorem k_129_11 : cod 129 11 = some (.inl (.iload_n 2), 1) := rfl
theorem k_129_12 : cod 129 12 = some (.inl .iaload, 1) := rfl
theorem k_129_13 : cod 129 13 = some (.inl (.ifCond .lt 15), 3) := rfl
theorem k_129_16 : cod 129 16 = some (.inl (.aload_n 0), 1) := rfl
theorem k_129_17 : cod 129 17 = some (.inr (0, 9, 8, 0, 0), 3) := rfl
theorem k_129_20 : cod 129 20 = some (.inl (.iload_n 2), 1) := rfl
theorem k_129_21 : cod 129 21 = some (.inl .iaload, 1) := rfl
theorem k_129_22 : cod 129 22 = some (.inl (.iload_n 1), 1) := rfl
theorem k_129_23 : cod 129 23 = some (.inl (.if_icmp .eq 5), 3) := rfl
theorem k_129_26 : cod 129 26 = some (.inl (.iconst 1), 1) := rfl
theorem k_129_27 : cod 129 27 = some (.inl .ireturn, 1) := rfl
theorem k_129_28 : cod 129 28 = some (.inl (.iconst 0), 1) := rfl
theorem k_129_29 : cod 129 29 = some (.inl (.istore 4), 2) := rfl
theorem k_129_31 : cod 129 31 = some (.inl (.iload 4), 2) := rfl
theorem k_129_33 : cod 129 33 = some (.inl (.aload_n 0), 1) := rfl
theorem k_129_34 : cod 129 34 = some (.inr (0, 9, 3, 0, 0), 3) := rfl
theorem k_129_37 : cod 129 37 = some (.inl (.if_icmp .ge 86), 3) := rfl
theorem k_129_40 : cod 129 40 = some (.inl (.aload_n 0), 1) := rfl
theorem k_129_41 : cod 129 41 = some (.inr (0, 9, 12, 0, 0), 3) := rfl
theorem k_129_44 : cod 129 44 = some (.inl (.iload 4), 2) := rfl
theorem k_129_46 : cod 129 46 = some (.inl .iaload, 1) := rfl
theorem k_129_47 : cod 129 47 = some (.inl (.ifCond .le 34), 3) := rfl
theorem k_129_50 : cod 129 50 = some (.inl (.aload_n 0), 1) := rfl
theorem k_129_51 : cod 129 51 = some (.inr (0, 9, 12, 0, 0), 3) := rfl
theorem k_129_54 : cod 129 54 = some (.inl (.iload 4), 2) := rfl
theorem k_129_56 : cod 129 56 = some (.inl .iaload, 1) := rfl
theorem k_129_57 : cod 129 57 = some (.inl (.aload_n 0), 1) := rfl
theorem k_129_58 : cod 129 58 = some (.inr (0, 9, 20, 0, 0), 3) := rfl
theorem k_129_61 : cod 129 61 = some (.inl (.bipush 6), 2) := rfl
theorem k_129_63 : cod 129 63 = some (.inl (.iload_n 3), 1) := rfl
theorem k_129_64 : cod 129 64 = some (.inl .imul, 1) := rfl
theorem k_129_65 : cod 129 65 = some (.inl (.aload_n 0), 1) := rfl
theorem k_129_66 : cod 129 66 = some (.inr (0, 9, 10, 0, 0), 3) := rfl
theorem k_129_69 : cod 129 69 = some (.inl (.iload 4), 2) := rfl
theorem k_129_71 : cod 129 71 = some (.inl .iaload, 1) := rfl
theorem k_129_72 : cod 129 72 = some (.inl .iadd, 1) := rfl
theorem k_129_73 : cod 129 73 = some (.inl .iaload, 1) := rfl
theorem k_129_74 : cod 129 74 = some (.inl (.if_icmp .gt 7), 3) := rfl
theorem k_129_77 : cod 129 77 = some (.inl (.iconst 1), 1) := rfl
theorem k_129_78 : cod 129 78 = some (.inl (.goto 4), 3) := rfl
theorem k_129_81 : cod 129 81 = some (.inl (.iconst 0), 1) := rfl
theorem k_129_82 : cod 129 82 = some (.inl (.istore 5), 2) := rfl
theorem k_129_84 : cod 129 84 = some (.inl (.iload 4), 2) := rfl
theorem k_129_86 : cod 129 86 = some (.inl (.iload_n 1), 1) := rfl
theorem k_129_87 : cod 129 87 = some (.inl (.if_icmp .eq 30), 3) := rfl
theorem k_129_90 : cod 129 90 = some (.inl (.iload 5), 2) := rfl
theorem k_129_92 : cod 129 92 = some (.inl (.ifCond .eq 25), 3) := rfl
theorem k_129_95 : cod 129 95 = some (.inl (.aload_n 0), 1) := rfl
theorem k_129_96 : cod 129 96 = some (.inl (.iload 4), 2) := rfl
theorem k_129_98 : cod 129 98 = some (.inl (.iload_n 1), 1) := rfl
theorem k_129_99 : cod 129 99 = some (.inr (17, 114, 3, 1, 9), 3) := rfl
theorem k_129_102 : cod 129 102 = some (.inl (.ifCond .ne 15), 3) := rfl
theorem k_129_105 : cod 129 105 = some (.inl (.aload_n 0), 1) := rfl
theorem k_129_106 : cod 129 106 = some (.inl (.iload 4), 2) := rfl
theorem k_129_108 : cod 129 108 = some (.inl (.iload_n 2), 1) := rfl
theorem k_129_109 : cod 129 109 = some (.inr (17, 112, 3, 1, 9), 3) := rfl
theorem k_129_112 : cod 129 112 = some (.inl (.ifCond .eq 5), 3) := rfl
theorem k_129_115 : cod 129 115 = some (.inl (.iconst 1), 1) := rfl
theorem k_129_116 : cod 129 116 = some (.inl .ireturn, 1) := rfl
theorem k_129_117 : cod 129 117 = some (.inl (.iinc 4 1), 3) := rfl
theorem k_129_120 : cod 129 120 = some (.inl (.goto (-89)), 3) := rfl
theorem k_129_123 : cod 129 123 = some (.inl (.iconst 0), 1) := rfl
theorem k_129_124 : cod 129 124 = some (.inl .ireturn, 1) := rfl
theorem k_130_0 : cod 130 0 = some (.inl (.iconst 0), 1) := rfl
theorem k_130_1 : cod 130 1 = some (.inl (.istore_n 3), 1) := rfl
theorem k_130_2 : cod 130 2 = some (.inl (.iload_n 3), 1) := rfl
theorem k_130_3 : cod 130 3 = some (.inl (.aload_n 0), 1) := rfl
theorem k_130_4 : cod 130 4 = some (.inr (0, 9, 2, 0, 0), 3) := rfl
theorem k_130_7 : cod 130 7 = some (.inl (.if_icmp .ge 44), 3) := rfl
theorem k_130_10 : cod 130 10 = some (.inl (.aload_n 0), 1) := rfl
theorem k_130_11 : cod 130 11 = some (.inr (0, 9, 9, 0, 0), 3) := rfl
theorem k_130_14 : cod 130 14 = some (.inl (.iload_n 3), 1) := rfl
theorem k_130_15 : cod 130 15 = some (.inl .baload, 1) := rfl
theorem k_130_16 : cod 130 16 = some (.inl (.ifCond .ne 29), 3) := rfl
theorem k_130_19 : cod 130 19 = some (.inl (.aload_n 0), 1) := rfl
theorem k_130_20 : cod 130 20 = some (.inr (0, 9, 7, 0, 0), 3) := rfl
theorem k_130_23 : cod 130 23 = some (.inl (.iload_n 3), 1) := rfl
theorem k_130_24 : cod 130 24 = some (.inl .iaload, 1) := rfl
theorem k_130_25 : cod 130 25 = some (.inl (.iload_n 2), 1) := rfl
theorem k_130_26 : cod 130 26 = some (.inl (.if_icmp .ne 19), 3) := rfl
theorem k_130_29 : cod 130 29 = some (.inl (.aload_n 0), 1) := rfl
theorem k_130_30 : cod 130 30 = some (.inl (.iload_n 1), 1) := rfl
theorem k_130_31 : cod 130 31 = some (.inl (.iload_n 3), 1) := rfl
theorem k_130_32 : cod 130 32 = some (.inr (17, 112, 3, 1, 9), 3) := rfl
theorem k_130_35 : cod 130 35 = some (.inl (.ifCond .eq 10), 3) := rfl
theorem k_130_38 : cod 130 38 = some (.inl (.aload_n 0), 1) := rfl
theorem k_130_39 : cod 130 39 = some (.inr (0, 9, 8, 0, 0), 3) := rfl
theorem k_130_42 : cod 130 42 = some (.inl (.iload_n 3), 1) := rfl
theorem k_130_43 : cod 130 43 = some (.inl (.iload_n 1), 1) := rfl
theorem k_130_44 : cod 130 44 = some (.inl .iastore, 1) := rfl
theorem k_130_45 : cod 130 45 = some (.inl (.iinc 3 1), 3) := rfl
theorem k_130_48 : cod 130 48 = some (.inl (.goto (-46)), 3) := rfl
theorem k_130_51 : cod 130 51 = some (.inl .return_, 1) := rfl
theorem k_131_0 : cod 131 0 = some (.inl (.iconst 0), 1) := rfl
theorem k_131_1 : cod 131 1 = some (.inl (.istore_n 3), 1) := rfl
theorem k_131_2 : cod 131 2 = some (.inl (.iload_n 3), 1) := rfl
theorem k_131_3 : cod 131 3 = some (.inl (.aload_n 0), 1) := rfl
theorem k_131_4 : cod 131 4 = some (.inr (0, 9, 2, 0, 0), 3) := rfl
theorem k_131_7 : cod 131 7 = some (.inl (.if_icmp .ge 39), 3) := rfl
theorem k_131_10 : cod 131 10 = some (.inl (.aload_n 0), 1) := rfl
theorem k_131_11 : cod 131 11 = some (.inr (0, 9, 9, 0, 0), 3) := rfl
theorem k_131_14 : cod 131 14 = some (.inl (.iload_n 3), 1) := rfl
theorem k_131_15 : cod 131 15 = some (.inl .baload, 1) := rfl
theorem k_131_16 : cod 131 16 = some (.inl (.ifCond .ne 24), 3) := rfl
theorem k_131_19 : cod 131 19 = some (.inl (.aload_n 0), 1) := rfl
theorem k_131_20 : cod 131 20 = some (.inr (0, 9, 7, 0, 0), 3) := rfl
theorem k_131_23 : cod 131 23 = some (.inl (.iload_n 3), 1) := rfl
theorem k_131_24 : cod 131 24 = some (.inl .iaload, 1) := rfl
theorem k_131_25 : cod 131 25 = some (.inl (.iload_n 2), 1) := rfl
theorem k_131_26 : cod 131 26 = some (.inl (.if_icmp .ne 14), 3) := rfl
theorem k_131_29 : cod 131 29 = some (.inl (.aload_n 0), 1) := rfl
theorem k_131_30 : cod 131 30 = some (.inl (.iload_n 1), 1) := rfl
theorem k_131_31 : cod 131 31 = some (.inl (.iload_n 3), 1) := rfl
theorem k_131_32 : cod 131 32 = some (.inr (17, 112, 3, 1, 9), 3) := rfl
theorem k_131_35 : cod 131 35 = some (.inl (.ifCond .eq 5), 3) := rfl
theorem k_131_38 : cod 131 38 = some (.inl (.iconst 1), 1) := rfl
theorem k_131_39 : cod 131 39 = some (.inl .ireturn, 1) := rfl
theorem k_131_40 : cod 131 40 = some (.inl (.iinc 3 1), 3) := rfl
theorem k_131_43 : cod 131 43 = some (.inl (.goto (-41)), 3) := rfl
theorem k_131_46 : cod 131 46 = some (.inl (.iconst 0), 1) := rfl
theorem k_131_47 : cod 131 47 = some (.inl .ireturn, 1) := rfl
theorem k_132_0 : cod 132 0 = some (.inl (.aload_n 0), 1) := rfl
theorem k_132_1 : cod 132 1 = some (.inl (.aload_n 0), 1) := rfl
theorem k_132_2 : cod 132 2 = some (.inl (.iload_n 1), 1) := rfl
theorem k_132_3 : cod 132 3 = some (.inr (17, 110, 2, 1, 9), 3) := rfl
theorem k_132_6 : cod 132 6 = some (.inl (.ifCond .ne 7), 3) := rfl
theorem k_132_9 : cod 132 9 = some (.inl (.iconst 1), 1) := rfl
theorem k_132_10 : cod 132 10 = some (.inl (.goto 4), 3) := rfl
theorem k_132_13 : cod 132 13 = some (.inl (.iconst 0), 1) := rfl
theorem k_132_14 : cod 132 14 = some (.inl (.aload_n 0), 1) := rfl
theorem k_132_15 : cod 132 15 = some (.inl (.iload_n 1), 1) := rfl
theorem k_132_16 : cod 132 16 = some (.inr (17, 110, 2, 1, 9), 3) := rfl
theorem k_132_19 : cod 132 19 = some (.inl (.ifCond .eq 16), 3) := rfl
theorem k_132_22 : cod 132 22 = some (.inl (.aload_n 0), 1) := rfl
theorem k_132_23 : cod 132 23 = some (.inr (0, 9, 11, 0, 0), 3) := rfl
theorem k_132_26 : cod 132 26 = some (.inl (.iload_n 1), 1) := rfl
theorem k_132_27 : cod 132 27 = some (.inl .iaload, 1) := rfl
theorem k_132_28 : cod 132 28 = some (.inl (.ifCond .eq 7), 3) := rfl
theorem k_132_31 : cod 132 31 = some (.inl (.iconst 1), 1) := rfl
theorem k_132_32 : cod 132 32 = some (.inl (.goto 4), 3) := rfl
theorem k_132_35 : cod 132 35 = some (.inl (.iconst 0), 1) := rfl
theorem k_132_36 : cod 132 36 = some (.inr (17, 104, 3, 1, 9), 3) := rfl
theorem k_132_39 : cod 132 39 = some (.inl (.ifCond .eq 4), 3) := rfl
theorem k_132_42 : cod 132 42 = some (.inl .return_, 1) := rfl
theorem k_132_43 : cod 132 43 = some (.inl (.aload_n 0), 1) := rfl
theorem k_132_44 : cod 132 44 = some (.inr (0, 9, 11, 0, 0), 3) := rfl
theorem k_132_47 : cod 132 47 = some (.inl (.iload_n 1), 1) := rfl
theorem k_132_48 : cod 132 48 = some (.inl (.iconst 2), 1) := rfl
theorem k_132_49 : cod 132 49 = some (.inl .iastore, 1) := rfl
theorem k_132_50 : cod 132 50 = some (.inl .return_, 1) := rfl
theorem k_133_0 : cod 133 0 = some (.inl (.aload_n 0), 1) := rfl
theorem k_133_1 : cod 133 1 = some (.inl (.aload_n 0), 1) := rfl
theorem k_133_2 : cod 133 2 = some (.inl (.iload_n 1), 1) := rfl
theorem k_133_3 : cod 133 3 = some (.inr (17, 106, 2, 1, 9), 3) := rfl
theorem k_133_6 : cod 133 6 = some (.inl (.ifCond .eq 16), 3) := rfl
theorem k_133_9 : cod 133 9 = some (.inl (.aload_n 0), 1) := rfl
theorem k_133_10 : cod 133 10 = some (.inl (.iload_n 2), 1) := rfl
theorem k_133_11 : cod 133 11 = some (.inr (17, 106, 2, 1, 9), 3) := rfl
theorem k_133_14 : cod 133 14 = some (.inl (.ifCond .eq 8), 3) := rfl
theorem k_133_17 : cod 133 17 = some (.inl (.iload_n 1), 1) := rfl
theorem k_133_18 : cod 133 18 = some (.inl (.iload_n 2), 1) := rfl
theorem k_133_19 : cod 133 19 = some (.inl (.if_icmp .ne 7), 3) := rfl
theorem k_133_22 : cod 133 22 = some (.inl (.iconst 1), 1) := rfl
theorem k_133_23 : cod 133 23 = some (.inl (.goto 4), 3) := rfl
theorem k_133_26 : cod 133 26 = some (.inl (.iconst 0), 1) := rfl
theorem k_133_27 : cod 133 27 = some (.inl (.iconst 0), 1) := rfl
theorem k_133_28 : cod 133 28 = some (.inr (17, 104, 3, 1, 9), 3) := rfl
theorem k_133_31 : cod 133 31 = some (.inl (.ifCond .eq 5), 3) := rfl
theorem k_133_34 : cod 133 34 = some (.inl (.iconst 0), 1) := rfl
theorem k_133_35 : cod 133 35 = some (.inl .ireturn, 1) := rfl
theorem k_133_36 : cod 133 36 = some (.inl (.iconst 0), 1) := rfl
theorem k_133_37 : cod 133 37 = some (.inl (.istore_n 3), 1) := rfl
theorem k_133_38 : cod 133 38 = some (.inl (.iload_n 3), 1) := rfl
theorem k_133_39 : cod 133 39 = some (.inl (.aload_n 0), 1) := rfl
theorem k_133_40 : cod 133 40 = some (.inr (0, 9, 5, 0, 0), 3) := rfl
theorem k_133_43 : cod 133 43 = some (.inl (.if_icmp .ge 73), 3) := rfl
theorem k_133_46 : cod 133 46 = some (.inl (.aload_n 0), 1) := rfl
theorem k_133_47 : cod 133 47 = some (.inr (0, 9, 25, 0, 0), 3) := rfl
theorem k_133_50 : cod 133 50 = some (.inl (.iload_n 3), 1) := rfl
theorem k_133_51 : cod 133 51 = some (.inl .iaload, 1) := rfl
theorem k_133_52 : cod 133 52 = some (.inl (.ifCond .eq 58), 3) := rfl
theorem k_133_55 : cod 133 55 = some (.inl (.aload_n 0), 1) := rfl
theorem k_133_56 : cod 133 56 = some (.inr (0, 9, 23, 0, 0), 3) := rfl
theorem k_133_59 : cod 133 59 = some (.inl (.iload_n 3), 1) := rfl
theorem k_133_60 : cod 133 60 = some (.inl .iaload, 1) := rfl
theorem k_133_61 : cod 133 61 = some (.inl (.iload_n 1), 1) := rfl
theorem k_133_62 : cod 133 62 = some (.inl (.if_icmp .ne 48), 3) := rfl
theorem k_133_65 : cod 133 65 = some (.inl (.aload_n 0), 1) := rfl
theorem k_133_66 : cod 133 66 = some (.inr (0, 9, 24, 0, 0), 3) := rfl
theorem k_133_69 : cod 133 69 = some (.inl (.iload_n 3), 1) := rfl
theorem k_133_70 : cod 133 70 = some (.inl .iaload, 1) := rfl
theorem k_133_71 : cod 133 71 = some (.inl (.iload_n 2), 1) := rfl
theorem k_133_72 : cod 133 72 = some (.inl (.if_icmp .eq 6), 3) := rfl
theorem k_133_75 : cod 133 75 = some (.inl (.goto 35), 3) := rfl
theorem k_133_78 : cod 133 78 = some (.inl (.aload_n 0), 1) := rfl
theorem k_133_79 : cod 133 79 = some (.inr (0, 9, 25, 0, 0), 3) := rfl
theorem k_133_82 : cod 133 82 = some (.inl (.iload_n 3), 1) := rfl
theorem k_133_83 : cod 133 83 = some (.inl .iaload, 1) := rfl
theorem k_133_84 : cod 133 84 = some (.inl (.istore 4), 2) := rfl
theorem k_133_86 : cod 133 86 = some (.inl (.aload_n 0), 1) := rfl
theorem k_133_87 : cod 133 87 = some (.inr (0, 9, 25, 0, 0), 3) := rfl
theorem k_133_90 : cod 133 90 = some (.inl (.iload_n 3), 1) := rfl
theorem k_133_91 : cod 133 91 = some (.inl (.iconst 0), 1) := rfl
theorem k_133_92 : cod 133 92 = some (.inl .iastore, 1) := rfl
theorem k_133_93 : cod 133 93 = some (.inl (.aload_n 0), 1) := rfl
theorem k_133_94 : cod 133 94 = some (.inl (.iload 4), 2) := rfl
theorem k_133_96 : cod 133 96 = some (.inl (.aload_n 0), 1) := rfl
theorem k_133_97 : cod 133 97 = some (.inr (0, 9, 26, 0, 0), 3) := rfl
theorem k_133_100 : cod 133 100 = some (.inl (.iload_n 3), 1) := rfl
theorem k_133_101 : cod 133 101 = some (.inl .iaload, 1) := rfl
theorem k_133_102 : cod 133 102 = some (.inl (.iload_n 1), 1) := rfl
theorem k_133_103 : cod 133 103 = some (.inl (.iload_n 2), 1) := rfl
theorem k_133_104 : cod 133 104 = some (.inr (17, 134, 5, 1, 9), 3) := rfl
theorem k_133_107 : cod 133 107 = some (.inl (.iload 4), 2) := rfl
theorem k_133_109 : cod 133 109 = some (.inl .ireturn, 1) := rfl
theorem k_133_110 : cod 133 110 = some (.inl (.iinc 3 1), 3) := rfl
theorem k_133_113 : cod 133 113 = some (.inl (.goto (-75)), 3) := rfl
theorem k_133_116 : cod 133 116 = some (.inl (.iconst 0), 1) := rfl
theorem k_133_117 : cod 133 117 = some (.inl .ireturn, 1) := rfl
theorem k_134_0 : cod 134 0 = some (.inl (.iload_n 1), 1) := rfl
theorem k_134_1 : cod 134 1 = some (.inl (.tableswitch 209 1 4 #[31, 72, 118, 199]), 31) := rfl
theorem k_134_32 : cod 134 32 = some (.inl (.aload_n 0), 1) := rfl
theorem k_134_33 : cod 134 33 = some (.inl (.iload_n 2), 1) := rfl
theorem k_134_34 : cod 134 34 = some (.inl (.iload 4), 2) := rfl
theorem k_134_36 : cod 134 36 = some (.inr (17, 128, 3, 1, 9), 3) := rfl
theorem k_134_39 : cod 134 39 = some (.inl (.ifCond .eq 15), 3) := rfl
theorem k_134_42 : cod 134 42 = some (.inl (.aload_n 0), 1) := rfl
theorem k_134_43 : cod 134 43 = some (.inl (.iload 4), 2) := rfl
theorem k_134_45 : cod 134 45 = some (.inl (.iload_n 3), 1) := rfl
theorem k_134_46 : cod 134 46 = some (.inl (.iconst 3), 1) := rfl
theorem k_134_47 : cod 134 47 = some (.inl (.iload_n 2), 1) := rfl
theorem k_134_48 : cod 134 48 = some (.inr (17, 125, 5, 1, 9), 3) := rfl
theorem k_134_51 : cod 134 51 = some (.inl (.goto 196), 3) := rfl
theorem k_134_54 : cod 134 54 = some (.inl (.aload_n 0), 1) := rfl
theorem k_134_55 : cod 134 55 = some (.inl (.iload_n 2), 1) := rfl
theorem k_134_56 : cod 134 56 = some (.inl (.iload 4), 2) := rfl
theorem k_134_58 : cod 134 58 = some (.inr (17, 130, 3, 1, 9), 3) := rfl
theorem k_134_61 : cod 134 61 = some (.inl (.aload_n 0), 1) := rfl
theorem k_134_62 : cod 134 62 = some (.inl (.iload 4), 2) := rfl
theorem k_134_64 : cod 134 64 = some (.inl (.iload_n 3), 1) := rfl
theorem k_134_65 : cod 134 65 = some (.inl (.iconst 2), 1) := rfl
theorem k_134_66 : cod 134 66 = some (.inl (.iload_n 2), 1) := rfl
theorem k_134_67 : cod 134 67 = some (.inr (17, 125, 5, 1, 9), 3) := rfl
theorem k_134_70 : cod 134 70 = some (.inl (.goto 177), 3) := rfl
theorem k_134_73 : cod 134 73 = some (.inl (.aload_n 0), 1) := rfl
theorem k_134_74 : cod 134 74 = some (.inr (0, 9, 11, 0, 0), 3) := rfl
theorem k_134_77 : cod 134 77 = some (.inl (.iload_n 2), 1) := rfl
theorem k_134_78 : cod 134 78 = some (.inl .iaload, 1) := rfl
theorem k_134_79 : cod 134 79 = some (.inl (.iconst 3), 1) := rfl
theorem k_134_80 : cod 134 80 = some (.inl (.if_icmp .eq 6), 3) := rfl
theorem k_134_83 : cod 134 83 = some (.inl (.goto 164), 3) := rfl
theorem k_134_86 : cod 134 86 = some (.inl (.aload_n 0), 1) := rfl
theorem k_134_87 : cod 134 87 = some (.inr (0, 9, 14, 0, 0), 3) := rfl
theorem k_134_90 : cod 134 90 = some (.inl (.iload_n 2), 1) := rfl
theorem k_134_91 : cod 134 91 = some (.inl .dup2, 1) := rfl
theorem k_134_92 : cod 134 92 = some (.inl .iaload, 1) := rfl
theorem k_134_93 : cod 134 93 = some (.inl (.iconst 1), 1) := rfl
theorem k_134_94 : cod 134 94 = some (.inl .iadd, 1) := rfl
theorem k_134_95 : cod 134 95 = some (.inl .iastore, 1) := rfl
theorem k_134_96 : cod 134 96 = some (.inl (.aload_n 0), 1) := rfl
theorem k_134_97 : cod 134 97 = some (.inr (0, 9, 14, 0, 0), 3) := rfl
theorem k_134_100 : cod 134 100 = some (.inl (.iload_n 2), 1) := rfl
theorem k_134_101 : cod 134 101 = some (.inl .iaload, 1) := rfl
theorem k_134_102 : cod 134 102 = some (.inl (.aload_n 0), 1) := rfl
theorem k_134_103 : cod 134 103 = some (.inr (0, 9, 15, 0, 0), 3) := rfl
theorem k_134_106 : cod 134 106 = some (.inl (.iload_n 2), 1) := rfl
theorem k_134_107 : cod 134 107 = some (.inl .iaload, 1) := rfl
theorem k_134_108 : cod 134 108 = some (.inl (.if_icmp .ne 139), 3) := rfl
theorem k_134_111 : cod 134 111 = some (.inl (.aload_n 0), 1) := rfl
theorem k_134_112 : cod 134 112 = some (.inl (.iload_n 2), 1) := rfl
theorem k_134_113 : cod 134 113 = some (.inr (17, 123, 2, 1, 9), 3) := rfl
theorem k_134_116 : cod 134 116 = some (.inl (.goto 131), 3) := rfl
theorem k_134_119 : cod 134 119 = some (.inl (.aload_n 0), 1) := rfl
theorem k_134_120 : cod 134 120 = some (.inr (0, 9, 11, 0, 0), 3) := rfl
theorem k_134_123 : cod 134 123 = some (.inl (.iload_n 2), 1) := rfl
theorem k_134_124 : cod 134 124 = some (.inl .iaload, 1) := rfl
theorem k_134_125 : cod 134 125 = some (.inl (.iconst 3), 1) := rfl
theorem k_134_126 : cod 134 126 = some (.inl (.if_icmp .eq 6), 3) := rfl
theorem k_134_129 : cod 134 129 = some (.inl (.goto 118), 3) := rfl
theorem k_134_132 : cod 134 132 = some (.inl (.aload_n 0), 1) := rfl
theorem k_134_133 : cod 134 133 = some (.inr (0, 9, 11, 0, 0), 3) := rfl
theorem k_134_136 : cod 134 136 = some (.inl (.iload_n 2), 1) := rfl
theorem k_134_137 : cod 134 137 = some (.inl (.iconst 2), 1) := rfl
theorem k_134_138 : cod 134 138 = some (.inl .iastore, 1) := rfl
theorem k_134_139 : cod 134 139 = some (.inl (.aload_n 0), 1) := rfl
theorem k_134_140 : cod 134 140 = some (.inl (.iload_n 2), 1) := rfl
theorem k_134_141 : cod 134 141 = some (.inl (.iload 4), 2) := rfl
theorem k_134_143 : cod 134 143 = some (.inr (17, 124, 3, 1, 9), 3) := rfl
theorem k_134_146 : cod 134 146 = some (.inl (.iconst 0), 1) := rfl
theorem k_134_147 : cod 134 147 = some (.inl (.istore 5), 2) := rfl
theorem k_134_149 : cod 134 149 = some (.inl (.iload 5), 2) := rfl
theorem k_134_151 : cod 134 151 = some (.inl (.aload_n 0), 1) := rfl
theorem k_134_152 : cod 134 152 = some (.inr (0, 9, 1, 0, 0), 3) := rfl
theorem k_134_155 : cod 134 155 = some (.inl (.if_icmp .ge 42), 3) := rfl
theorem k_134_158 : cod 134 158 = some (.inl (.iload 5), 2) := rfl
theorem k_134_160 : cod 134 160 = some (.inl (.iload 4), 2) := rfl
theorem k_134_162 : cod 134 162 = some (.inl (.if_icmp .eq 29), 3) := rfl
theorem k_134_165 : cod 134 165 = some (.inl (.iload 5), 2) := rfl
theorem k_134_167 : cod 134 167 = some (.inl (.iload_n 3), 1) := rfl
theorem k_134_168 : cod 134 168 = some (.inl (.if_icmp .eq 23), 3) := rfl
theorem k_134_171 : cod 134 171 = some (.inl (.aload_n 0), 1) := rfl
theorem k_134_172 : cod 134 172 = some (.inl (.iload_n 2), 1) := rfl
theorem k_134_173 : cod 134 173 = some (.inl (.iload 5), 2) := rfl
theorem k_134_175 : cod 134 175 = some (.inr (17, 131, 3, 1, 9), 3) := rfl
theorem k_134_178 : cod 134 178 = some (.inl (.ifCond .eq 13), 3) := rfl
theorem k_134_181 : cod 134 181 = some (.inl (.aload_n 0), 1) := rfl
theorem k_134_182 : cod 134 182 = some (.inl (.iload 4), 2) := rfl
theorem k_134_184 : cod 134 184 = some (.inl (.iload 5), 2) := rfl
theorem k_134_186 : cod 134 186 = some (.inl (.iconst 4), 1) := rfl
theorem k_134_187 : cod 134 187 = some (.inl (.iload_n 2), 1) := rfl
theorem k_134_188 : cod 134 188 = some (.inr (17, 125, 5, 1, 9), 3) := rfl
theorem k_134_191 : cod 134 191 = some (.inl (.iinc 5 1), 3) := rfl
theorem k_134_194 : cod 134 194 = some (.inl (.goto (-45)), 3) := rfl
theorem k_134_197 : cod 134 197 = some (.inl (.goto 50), 3) := rfl
theorem k_134_200 : cod 134 200 = some (.inl (.aload_n 0), 1) := rfl
theorem k_134_201 : cod 134 201 = some (.inl (.iload_n 2), 1) := rfl
theorem k_134_202 : cod 134 202 = some (.inl (.iload 4), 2) := rfl
theorem k_134_204 : cod 134 204 = some (.inr (17, 124, 3, 1, 9), 3) := rfl
theorem k_134_207 : cod 134 207 = some (.inl (.goto 40), 3) := rfl
theorem k_134_210 : cod 134 210 = some (.inl (.aload_n 0), 1) := rfl
theorem k_134_211 : cod 134 211 = some (.inr (0, 9, 27, 0, 0), 3) := rfl
theorem k_134_214 : cod 134 214 = some (.inl (.sipush 500), 3) := rfl
theorem k_134_217 : cod 134 217 = some (.inl (.iload 4), 2) := rfl
theorem k_134_219 : cod 134 219 = some (.inl .imul, 1) := rfl
theorem k_134_220 : cod 134 220 = some (.inl (.aload_n 0), 1) := rfl
theorem k_134_221 : cod 134 221 = some (.inr (0, 9, 28, 0, 0), 3) := rfl
theorem k_134_224 : cod 134 224 = some (.inl (.iload 4), 2) := rfl
theorem k_134_226 : cod 134 226 = some (.inl .iaload, 1) := rfl
theorem k_134_227 : cod 134 227 = some (.inl .iadd, 1) := rfl
theorem k_134_228 : cod 134 228 = some (.inl (.iload_n 2), 1) := rfl
theorem k_134_229 : cod 134 229 = some (.inl .iastore, 1) := rfl
theorem k_134_230 : cod 134 230 = some (.inl (.aload_n 0), 1) := rfl
theorem k_134_231 : cod 134 231 = some (.inr (0, 9, 28, 0, 0), 3) := rfl
theorem k_134_234 : cod 134 234 = some (.inl (.iload 4), 2) := rfl
theorem k_134_236 : cod 134 236 = some (.inl .dup2, 1) := rfl
theorem k_134_237 : cod 134 237 = some (.inl .iaload, 1) := rfl
theorem k_134_238 : cod 134 238 = some (.inl (.iconst 1), 1) := rfl
theorem k_134_239 : cod 134 239 = some (.inl .iadd, 1) := rfl
theorem k_134_240 : cod 134 240 = some (.inl .iastore, 1) := rfl
theorem k_134_241 : cod 134 241 = some (.inl (.aload_n 0), 1) := rfl
theorem k_134_242 : cod 134 242 = some (.inl (.iload 4), 2) := rfl
theorem k_134_244 : cod 134 244 = some (.inr (17, 126, 2, 1, 9), 3) := rfl
theorem k_134_247 : cod 134 247 = some (.inl .return_, 1) := rfl
theorem k_135_0 : cod 135 0 = some (.inl (.aload_n 0), 1) := rfl
theorem k_135_1 : cod 135 1 = some (.inl (.aload_n 0), 1) := rfl
theorem k_135_2 : cod 135 2 = some (.inl (.iload_n 1), 1) := rfl
theorem k_135_3 : cod 135 3 = some (.inr (17, 106, 2, 1, 9), 3) := rfl
theorem k_135_6 : cod 135 6 = some (.inl (.ifCond .eq 16), 3) := rfl
theorem k_135_9 : cod 135 9 = some (.inl (.aload_n 0), 1) := rfl
theorem k_135_10 : cod 135 10 = some (.inl (.iload_n 2), 1) := rfl
theorem k_135_11 : cod 135 11 = some (.inr (17, 106, 2, 1, 9), 3) := rfl
theorem k_135_14 : cod 135 14 = some (.inl (.ifCond .eq 8), 3) := rfl
theorem k_135_17 : cod 135 17 = some (.inl (.iload_n 1), 1) := rfl
theorem k_135_18 : cod 135 18 = some (.inl (.iload_n 2), 1) := rfl
theorem k_135_19 : cod 135 19 = some (.inl (.if_icmp .ne 7), 3) := rfl
theorem k_135_22 : cod 135 22 = some (.inl (.iconst 1), 1) := rfl
theorem k_135_23 : cod 135 23 = some (.inl (.goto 4), 3) := rfl
theorem k_135_26 : cod 135 26 = some (.inl (.iconst 0), 1) := rfl
theorem k_135_27 : cod 135 27 = some (.inl (.iconst 0), 1) := rfl
theorem k_135_28 : cod 135 28 = some (.inr (17, 104, 3, 1, 9), 3) := rfl
theorem k_135_31 : cod 135 31 = some (.inl (.ifCond .eq 5), 3) := rfl
theorem k_135_34 : cod 135 34 = some (.inl (.iconst 0), 1) := rfl
theorem k_135_35 : cod 135 35 = some (.inl .ireturn, 1) := rfl
theorem k_135_36 : cod 135 36 = some (.inl (.iconst 0), 1) := rfl
theorem k_135_37 : cod 135 37 = some (.inl (.istore_n 3), 1) := rfl
theorem k_135_38 : cod 135 38 = some (.inl (.iconst 0), 1) := rfl
theorem k_135_39 : cod 135 39 = some (.inl (.istore 4), 2) := rfl
theorem k_135_41 : cod 135 41 = some (.inl (.iload 4), 2) := rfl
theorem k_135_43 : cod 135 43 = some (.inl (.aload_n 0), 1) := rfl
theorem k_135_44 : cod 135 44 = some (.inr (0, 9, 5, 0, 0), 3) := rfl
theorem k_135_47 : cod 135 47 = some (.inl (.if_icmp .ge 44), 3) := rfl
theorem k_135_50 : cod 135 50 = some (.inl (.aload_n 0), 1) := rfl
theorem k_135_51 : cod 135 51 = some (.inr (0, 9, 25, 0, 0), 3) := rfl
theorem k_135_54 : cod 135 54 = some (.inl (.iload 4), 2) := rfl
theorem k_135_56 : cod 135 56 = some (.inl .iaload, 1) := rfl
theorem k_135_57 : cod 135 57 = some (.inl (.ifCond .eq 28), 3) := rfl
theorem k_135_60 : cod 135 60 = some (.inl (.aload_n 0), 1) := rfl
theorem k_135_61 : cod 135 61 = some (.inr (0, 9, 23, 0, 0), 3) := rfl
theorem k_135_64 : cod 135 64 = some (.inl (.iload 4), 2) := rfl
theorem k_135_66 : cod 135 66 = some (.inl .iaload, 1) := rfl
theorem k_135_67 : cod 135 67 = some (.inl (.iload_n 1), 1) := rfl
theorem k_135_68 : cod 135 68 = some (.inl (.if_icmp .ne 17), 3) := rfl
theorem k_135_71 : cod 135 71 = some (.inl (.aload_n 0), 1) := rfl
theorem k_135_72 : cod 135 72 = some (.inr (0, 9, 24, 0, 0), 3) := rfl
theorem k_135_75 : cod 135 75 = some (.inl (.iload 4), 2) := rfl
theorem k_135_77 : cod 135 77 = some (.inl .iaload, 1) := rfl
theorem k_135_78 : cod 135 78 = some (.inl (.iload_n 2), 1) := rfl
theorem k_135_79 : cod 135 79 = some (.inl (.if_icmp .ne 6), 3) := rfl
theorem k_135_82 : cod 135 82 = some (.inl (.iinc 3 1), 3) := rfl
theorem k_135_85 : cod 135 85 = some (.inl (.iinc 4 1), 3) := rfl
theorem k_135_88 : cod 135 88 = some (.inl (.goto (-47)), 3) := rfl
theorem k_135_91 : cod 135 91 = some (.inl (.iload_n 3), 1) := rfl
theorem k_135_92 : cod 135 92 = some (.inl .ireturn, 1) := rfl
theorem k_136_0 : cod 136 0 = some (.inl (.aload_n 0), 1) := rfl
theorem k_136_1 : cod 136 1 = some (.inl (.aload_n 0), 1) := rfl
theorem k_136_2 : cod 136 2 = some (.inl (.iload_n 1), 1) := rfl
theorem k_136_3 : cod 136 3 = some (.inr (17, 106, 2, 1, 9), 3) := rfl
theorem k_136_6 : cod 136 6 = some (.inl (.ifCond .eq 11), 3) := rfl
theorem k_136_9 : cod 136 9 = some (.inl (.aload_n 0), 1) := rfl
theorem k_136_10 : cod 136 10 = some (.inl (.iload_n 2), 1) := rfl
theorem k_136_11 : cod 136 11 = some (.inr (17, 106, 2, 1, 9), 3) := rfl
theorem k_136_14 : cod 136 14 = some (.inl (.ifCond .ne 7), 3) := rfl
theorem k_136_17 : cod 136 17 = some (.inl (.iconst 1), 1) := rfl
theorem k_136_18 : cod 136 18 = some (.inl (.goto 4), 3) := rfl
theorem k_136_21 : cod 136 21 = some (.inl (.iconst 0), 1) := rfl
theorem k_136_22 : cod 136 22 = some (.inl (.iconst 0), 1) := rfl
theorem k_136_23 : cod 136 23 = some (.inr (17, 104, 3, 1, 9), 3) := rfl
theorem k_136_26 : cod 136 26 = some (.inl (.ifCond .eq 7), 3) := rfl
theorem k_136_29 : cod 136 29 = some (.inl (.iconst 0), 1) := rfl
theorem k_136_30 : cod 136 30 = some (.inl (.goto 14), 3) := rfl
theorem k_136_33 : cod 136 33 = some (.inl (.aload_n 0), 1) := rfl
theorem k_136_34 : cod 136 34 = some (.inr (0, 9, 20, 0, 0), 3) := rfl
theorem k_136_37 : cod 136 37 = some (.inl (.bipush 6), 2) := rfl
theorem k_136_39 : cod 136 39 = some (.inl (.iload_n 1), 1) := rfl
theorem k_136_40 : cod 136 40 = some (.inl .imul, 1) := rfl
theorem k_136_41 : cod 136 41 = some (.inl (.iload_n 2), 1) := rfl
theorem k_136_42 : cod 136 42 = some (.inl .iadd, 1) := rfl
theorem k_136_43 : cod 136 43 = some (.inl .iaload, 1) := rfl
theorem k_136_44 : cod 136 44 = some (.inl .ireturn, 1) := rfl
theorem k_137_0 : cod 137 0 = some (.inl (.aload_n 0), 1) := rfl
theorem k_137_1 : cod 137 1 = some (.inl (.aload_n 0), 1) := rfl
theorem k_137_2 : cod 137 2 = some (.inl (.iload_n 1), 1) := rfl
theorem k_137_3 : cod 137 3 = some (.inr (17, 110, 2, 1, 9), 3) := rfl
theorem k_137_6 : cod 137 6 = some (.inl (.ifCond .eq 12), 3) := rfl
theorem k_137_9 : cod 137 9 = some (.inl (.iload_n 2), 1) := rfl
theorem k_137_10 : cod 137 10 = some (.inl (.ifCond .lt 8), 3) := rfl
theorem k_137_13 : cod 137 13 = some (.inl (.iload_n 2), 1) := rfl
theorem k_137_14 : cod 137 14 = some (.inl (.iconst 3), 1) := rfl
theorem k_137_15 : cod 137 15 = some (.inl (.if_icmp .le 7), 3) := rfl
theorem k_137_18 : cod 137 18 = some (.inl (.iconst 1), 1) := rfl
theorem k_137_19 : cod 137 19 = some (.inl (.goto 4), 3) := rfl
theorem k_137_22 : cod 137 22 = some (.inl (.iconst 0), 1) := rfl
theorem k_137_23 : cod 137 23 = some (.inl (.iconst 0), 1) := rfl
theorem k_137_24 : cod 137 24 = some (.inr (17, 104, 3, 1, 9), 3) := rfl
theorem k_137_27 : cod 137 27 = some (.inl (.ifCond .eq 5), 3) := rfl
theorem k_137_30 : cod 137 30 = some (.inl (.iconst 0), 1) := rfl
theorem k_137_31 : cod 137 31 = some (.inl .ireturn, 1) := rfl
theorem k_137_32 : cod 137 32 = some (.inl (.iload_n 2), 1) := rfl
theorem k_137_33 : cod 137 33 = some (.inl (.ifCond .ne 10), 3) := rfl
theorem k_137_36 : cod 137 36 = some (.inl (.aload_n 0), 1) := rfl
theorem k_137_37 : cod 137 37 = some (.inr (0, 9, 11, 0, 0), 3) := rfl
theorem k_137_40 : cod 137 40 = some (.inl (.iload_n 1), 1) := rfl
theorem k_137_41 : cod 137 41 = some (.inl .iaload, 1) := rfl
theorem k_137_42 : cod 137 42 = some (.inl .ireturn, 1) := rfl
theorem k_137_43 : cod 137 43 = some (.inl (.iload_n 2), 1) := rfl
theorem k_137_44 : cod 137 44 = some (.inl (.iconst 1), 1) := rfl
theorem k_137_45 : cod 137 45 = some (.inl (.if_icmp .ne 10), 3) := rfl
theorem k_137_48 : cod 137 48 = some (.inl (.aload_n 0), 1) := rfl
theorem k_137_49 : cod 137 49 = some (.inr (0, 9, 12, 0, 0), 3) := rfl
theorem k_137_52 : cod 137 52 = some (.inl (.iload_n 1), 1) := rfl
theorem k_137_53 : cod 137 53 = some (.inl .iaload, 1) := rfl
theorem k_137_54 : cod 137 54 = some (.inl .ireturn, 1) := rfl
theorem k_137_55 : cod 137 55 = some (.inl (.iload_n 2), 1) := rfl
theorem k_137_56 : cod 137 56 = some (.inl (.iconst 3), 1) := rfl
theorem k_137_57 : cod 137 57 = some (.inl (.if_icmp .ne 31), 3) := rfl
theorem k_137_60 : cod 137 60 = some (.inl (.aload_n 0), 1) := rfl
theorem k_137_61 : cod 137 61 = some (.inr (0, 9, 11, 0, 0), 3) := rfl
theorem k_137_64 : cod 137 64 = some (.inl (.iload_n 1), 1) := rfl
theorem k_137_65 : cod 137 65 = some (.inl .iaload, 1) := rfl
theorem k_137_66 : cod 137 66 = some (.inl (.iconst 3), 1) := rfl
theorem k_137_67 : cod 137 67 = some (.inl (.if_icmp .ne 19), 3) := rfl
theorem k_137_70 : cod 137 70 = some (.inl (.aload_n 0), 1) := rfl
theorem k_137_71 : cod 137 71 = some (.inr (0, 9, 15, 0, 0), 3) := rfl
theorem k_137_74 : cod 137 74 = some (.inl (.iload_n 1), 1) := rfl
theorem k_137_75 : cod 137 75 = some (.inl .iaload, 1) := rfl
theorem k_137_76 : cod 137 76 = some (.inl (.aload_n 0), 1) := rfl
theorem k_137_77 : cod 137 77 = some (.inr (0, 9, 14, 0, 0), 3) := rfl
theorem k_137_80 : cod 137 80 = some (.inl (.iload_n 1), 1) := rfl
theorem k_137_81 : cod 137 81 = some (.inl .iaload, 1) := rfl
theorem k_137_82 : cod 137 82 = some (.inl .isub, 1) := rfl
theorem k_137_83 : cod 137 83 = some (.inl (.goto 4), 3) := rfl
theorem k_137_86 : cod 137 86 = some (.inl (.iconst 0), 1) := rfl
theorem k_137_87 : cod 137 87 = some (.inl .ireturn, 1) := rfl
theorem k_137_88 : cod 137 88 = some (.inl (.iconst 0), 1) := rfl
theorem k_137_89 : cod 137 89 = some (.inl (.istore_n 3), 1) := rfl
theorem k_137_90 : cod 137 90 = some (.inl (.iconst 0), 1) := rfl
theorem k_137_91 : cod 137 91 = some (.inl (.istore 4), 2) := rfl
theorem k_137_93 : cod 137 93 = some (.inl (.iload 4), 2) := rfl
theorem k_137_95 : cod 137 95 = some (.inl (.aload_n 0), 1) := rfl
theorem k_137_96 : cod 137 96 = some (.inr (0, 9, 1, 0, 0), 3) := rfl
theorem k_137_99 : cod 137 99 = some (.inl (.if_icmp .ge 47), 3) := rfl
theorem k_137_102 : cod 137 102 = some (.inl (.aload_n 0), 1) := rfl
theorem k_137_103 : cod 137 103 = some (.inr (0, 9, 12, 0, 0), 3) := rfl
theorem k_137_106 : cod 137 106 = some (.inl (.iload_n 1), 1) := rfl
theorem k_137_107 : cod 137 107 = some (.inl .iaload, 1) := rfl
theorem k_137_108 : cod 137 108 = some (.inl (.ifCond .le 32), 3) := rfl
theorem k_137_111 : cod 137 111 = some (.inl (.aload_n 0), 1) := rfl
theorem k_137_112 : cod 137 112 = some (.inr (0, 9, 20, 0, 0), 3) := rfl
theorem k_137_115 : cod 137 115 = some (.inl (.bipush 6), 2) := rfl
theorem k_137_117 : cod 137 117 = some (.inl (.iload 4), 2) := rfl
theorem k_137_119 : cod 137 119 = some (.inl .imul, 1) := rfl
theorem k_137_120 : cod 137 120 = some (.inl (.aload_n 0), 1) := rfl
theorem k_137_121 : cod 137 121 = some (.inr (0, 9, 10, 0, 0), 3) := rfl
theorem k_137_124 : cod 137 124 = some (.inl (.iload_n 1), 1) := rfl
theorem k_137_125 : cod 137 125 = some (.inl .iaload, 1) := rfl
theorem k_137_126 : cod 137 126 = some (.inl .iadd, 1) := rfl
theorem k_137_127 : cod 137 127 = some (.inl .iaload, 1) := rfl
theorem k_137_128 : cod 137 128 = some (.inl (.aload_n 0), 1) := rfl
theorem k_137_129 : cod 137 129 = some (.inr (0, 9, 12, 0, 0), 3) := rfl
theorem k_137_132 : cod 137 132 = some (.inl (.iload_n 1), 1) := rfl
theorem k_137_133 : cod 137 133 = some (.inl .iaload, 1) := rfl
theorem k_137_134 : cod 137 134 = some (.inl (.if_icmp .lt 6), 3) := rfl
theorem k_137_137 : cod 137 137 = some (.inl (.iinc 3 1), 3) := rfl
theorem k_137_140 : cod 137 140 = some (.inl (.iinc 4 1), 3) := rfl
theorem k_137_143 : cod 137 143 = some (.inl (.goto (-50)), 3) := rfl
theorem k_137_146 : cod 137 146 = some (.inl (.iload_n 3), 1) := rfl
theorem k_137_147 : cod 137 147 = some (.inl .ireturn, 1) := rfl
theorem k_138_0 : cod 138 0 = some (.inl (.aload_n 0), 1) := rfl
theorem k_138_1 : cod 138 1 = some (.inl (.aload_n 0), 1) := rfl
theorem k_138_2 : cod 138 2 = some (.inl (.iload_n 1), 1) := rfl
theorem k_138_3 : cod 138 3 = some (.inr (17, 111, 2, 1, 9), 3) := rfl
theorem k_138_6 : cod 138 6 = some (.inl (.ifCond .ne 7), 3) := rfl
theorem k_138_9 : cod 138 9 = some (.inl (.iconst 1), 1) := rfl
theorem k_138_10 : cod 138 10 = some (.inl (.goto 4), 3) := rfl
theorem k_138_13 : cod 138 13 = some (.inl (.iconst 0), 1) := rfl
theorem k_138_14 : cod 138 14 = some (.inl (.iconst 0), 1) := rfl
theorem k_138_15 : cod 138 15 = some (.inr (17, 104, 3, 1, 9), 3) := rfl
theorem k_138_18 : cod 138 18 = some (.inl (.ifCond .eq 7), 3) := rfl
theorem k_138_21 : cod 138 21 = some (.inl (.iconst 0), 1) := rfl
theorem k_138_22 : cod 138 22 = some (.inl (.goto 9), 3) := rfl
theorem k_138_25 : cod 138 25 = some (.inl (.aload_n 0), 1) := rfl
theorem k_138_26 : cod 138 26 = some (.inr (0, 9, 8, 0, 0), 3) := rfl
theorem k_138_29 : cod 138 29 = some (.inl (.iload_n 1), 1) := rfl
theorem k_138_30 : cod 138 30 = some (.inl .iaload, 1) := rfl
theorem k_138_31 : cod 138 31 = some (.inl .ireturn, 1) := rfl
theorem k_139_0 : cod 139 0 = some (.inl (.aload_n 0), 1) := rfl
theorem k_139_1 : cod 139 1 = some (.inl (.iconst 0), 1) := rfl
theorem k_139_2 : cod 139 2 = some (.inr (1, 9, 0, 0, 0), 3) := rfl
theorem k_139_5 : cod 139 5 = some (.inl (.iconst 0), 1) := rfl
theorem k_139_6 : cod 139 6 = some (.inl (.istore_n 2), 1) := rfl
theorem k_139_7 : cod 139 7 = some (.inl (.iload_n 1), 1) := rfl
theorem k_139_8 : cod 139 8 = some (.inl (.tableswitch 117 0 5 #[40, 45, 50, 55, 60, 87]), 40) := rfl
theorem k_139_48 : cod 139 48 = some (.inl (.aload_n 0), 1) := rfl
theorem k_139_49 : cod 139 49 = some (.inr (0, 9, 1, 0, 0), 3) := rfl
theorem k_139_52 : cod 139 52 = some (.inl .ireturn, 1) := rfl
theorem k_139_53 : cod 139 53 = some (.inl (.aload_n 0), 1) := rfl
theorem k_139_54 : cod 139 54 = some (.inr (0, 9, 2, 0, 0), 3) := rfl
theorem k_139_57 : cod 139 57 = some (.inl .ireturn, 1) := rfl
theorem k_139_58 : cod 139 58 = some (.inl (.aload_n 0), 1) := rfl
theorem k_139_59 : cod 139 59 = some (.inr (0, 9, 3, 0, 0), 3) := rfl
theorem k_139_62 : cod 139 62 = some (.inl .ireturn, 1) := rfl
theorem k_139_63 : cod 139 63 = some (.inl (.aload_n 0), 1) := rfl
theorem k_139_64 : cod 139 64 = some (.inr (0, 9, 6, 0, 0), 3) := rfl
theorem k_139_67 : cod 139 67 = some (.inl .ireturn, 1) := rfl
theorem k_139_68 : cod 139 68 = some (.inl (.iconst 0), 1) := rfl
theorem k_139_69 : cod 139 69 = some (.inl (.istore_n 3), 1) := rfl
theorem k_139_70 : cod 139 70 = some (.inl (.iload_n 3), 1) := rfl
theorem k_139_71 : cod 139 71 = some (.inl (.aload_n 0), 1) := rfl
theorem k_139_72 : cod 139 72 = some (.inr (0, 9, 1, 0, 0), 3) := rfl
theorem k_139_75 : cod 139 75 = some (.inl (.if_icmp .ge 18), 3) := rfl
theorem k_139_78 : cod 139 78 = some (.inl (.iload_n 2), 1) := rfl
theorem k_139_79 : cod 139 79 = some (.inl (.aload_n 0), 1) := rfl
theorem k_139_80 : cod 139 80 = some (.inr (0, 9, 28, 0, 0), 3) := rfl
theorem k_139_83 : cod 139 83 = some (.inl (.iload_n 3), 1) := rfl
theorem k_139_84 : cod 139 84 = some (.inl .iaload, 1) := rfl
theorem k_139_85 : cod 139 85 = some (.inl .iadd, 1) := rfl
theorem k_139_86 : cod 139 86 = some (.inl (.istore_n 2), 1) := rfl
theorem k_139_87 : cod 139 87 = some (.inl (.iinc 3 1), 3) := rfl
theorem k_139_90 : cod 139 90 = some (.inl (.goto (-20)), 3) := rfl
theorem k_139_93 : cod 139 93 = some (.inl (.iload_n 2), 1) := rfl
theorem k_139_94 : cod 139 94 = some (.inl .ireturn, 1) := rfl
theorem k_139_95 : cod 139 95 = some (.inl (.iconst 0), 1) := rfl
theorem k_139_96 : cod 139 96 = some (.inl (.istore_n 3), 1) := rfl
theorem k_139_97 : cod 139 97 = some (.inl (.iload_n 3), 1) := rfl
theorem k_139_98 : cod 139 98 = some (.inl (.aload_n 0), 1) := rfl
theorem k_139_99 : cod 139 99 = some (.inr (0, 9, 5, 0, 0), 3) := rfl
theorem k_139_102 : cod 139 102 = some (.inl (.if_icmp .ge 21), 3) := rfl
theorem k_139_105 : cod 139 105 = some (.inl (.aload_n 0), 1) := rfl
theorem k_139_106 : cod 139 106 = some (.inr (0, 9, 25, 0, 0), 3) := rfl
theorem k_139_109 : cod 139 109 = some (.inl (.iload_n 3), 1) := rfl
theorem k_139_110 : cod 139 110 = some (.inl .iaload, 1) := rfl
theorem k_139_111 : cod 139 111 = some (.inl (.ifCond .eq 6), 3) := rfl
theorem k_139_114 : cod 139 114 = some (.inl (.iinc 2 1), 3) := rfl
theorem k_139_117 : cod 139 117 = some (.inl (.iinc 3 1), 3) := rfl
theorem k_139_120 : cod 139 120 = some (.inl (.goto (-23)), 3) := rfl
theorem k_139_123 : cod 139 123 = some (.inl (.iload_n 2), 1) := rfl
theorem k_139_124 : cod 139 124 = some (.inl .ireturn, 1) := rfl
theorem k_139_125 : cod 139 125 = some (.inl (.iconst (-1)), 1) := rfl
theorem k_139_126 : cod 139 126 = some (.inl .ireturn, 1) := rfl
end
section
/-! booleans as ints -/
def bI (b : Bool) : Int := if b then 1 else 0
theorem bI_r (b : Bool) : inR (bI b) := by cases b <;> decide
theorem bI_01 (b : Bool) : bI b = 0 ∨ bI b = 1 := by cases b <;> simp [bI]
theorem x_ifeq_b {i pc len t : Nat} {L : AL} {st : List AV} {h : AH} {Q : AR → AH → Prop} {off : Int} {b : Bool} (hk : cod i pc = some (.inl (.ifCond .eq off), len)) (ht : tg pc off = t) (kt : b = false → Rn i t L st h Q) (kf : b = true → Rn i (pc + len) L st h Q) : Rn i pc L (aI (bI b) :: st) h Q :=
  x_ifeq hk ht (bI_r b) (fun q => kt (by cases b; rfl; exact absurd q (by decide))) (fun q => kf (by cases b; exact absurd rfl q; rfl))
theorem x_ifne_b {i pc len t : Nat} {L : AL} {st : List AV} {h : AH} {Q : AR → AH → Prop} {off : Int} {b : Bool} (hk : cod i pc = some (.inl (.ifCond .ne off), len)) (ht : tg pc off = t) (kt : b = true → Rn i t L st h Q) (kf : b = false → Rn i (pc + len) L st h Q) : Rn i pc L (aI (bI b) :: st) h Q :=
  x_ifne hk ht (bI_r b) (fun q => kt (by cases b; exact absurd rfl q; rfl)) (fun q => kf (by cases b; rfl; exact absurd (by decide : ¬ bI true = 0) q))
/-! THE REFERENCE's memory: C its seven ints, A its arrays (22, in the order of the fields) -/
def mfs (ad : Nat → Nat) (C : Nat → Int) : List AV := [aI (C 0), aI (C 1), aI (C 2), aI (C 3), aI (C 4), aI (C 5), aI (C 6), aR (ad 0), aR (ad 1), aR (ad 2), aR (ad 3), aR (ad 4), aR (ad 5), aR (ad 6), aR (ad 7), aR (ad 8), aR (ad 9), aR (ad 10), aR (ad 11), aR (ad 12), aR (ad 13), aR (ad 14), aR (ad 15), aR (ad 16), aR (ad 17), aR (ad 18), aR (ad 19), aR (ad 20), aR (ad 21)]
def mtag (k : Nat) : Nat := if k = 2 then 2 else if k = 12 then 1 else 0
def mlen (k : Nat) : Nat := [200, 200, 200, 500, 500, 500, 3000, 500, 500, 4200, 4200, 4200, 4200, 36, 6, 3006, 16000, 16000, 16000, 16000, 3000, 6].getD k 0
def marr (k : Nat) (f : Nat → Int) : AA := if k = 12 then .inr (.inl f) else .inl f
def MP (am : Nat) (ad : Nat → Nat) (C : Nat → Int) (A : Nat → Nat → Int) (h : AH) : Prop := h.1 am = some (.inr (9, mfs ad C)) ∧ (∀ k, k < 22 → h.1 (ad k) = some (.inl (mtag k, mlen k, marr k (A k)))) ∧ ∀ j k, j < 22 → k < 22 → ad j = ad k → j = k
/-- nothing but the reference's own cells has changed -/
def Mv (am : Nat) (ad : Nat → Nat) (h h' : AH) : Prop := h'.2 = h.2 ∧ ∀ b, b ≠ am → (∀ k, k < 22 → b ≠ ad k) → h'.1 b = h.1 b
section MPs
variable {am : Nat} {ad : Nat → Nat} {C : Nat → Int} {A : Nat → Nat → Int} {h h' h2 : AH}
theorem Mv.rf : Mv am ad h h := ⟨rfl, fun _ _ _ => rfl⟩
theorem Mv.tr (a : Mv am ad h h') (b : Mv am ad h' h2) : Mv am ad h h2 := ⟨b.1.trans a.1, fun q w1 w2 => (b.2 q w1 w2).trans (a.2 q w1 w2)⟩
theorem Mv.mo {e : AE} : Mv am ad h (hput h am e) := ⟨rfl, fun q w1 _ => hput_n w1⟩
theorem Mv.ma {e : AE} {k : Nat} (hk : k < 22) : Mv am ad h (hput h (ad k) e) := ⟨rfl, fun q _ w2 => hput_n (w2 k hk)⟩
theorem MP.ne (M : MP am ad C A h) {k : Nat} (hk : k < 22) : ad k ≠ am := fun q => by
  have h1 := M.2.1 k hk
  rw [q, M.1] at h1
  cases h1
theorem MP.put (M : MP am ad C A h) {C' : Nat → Int} {fs : List AV} (hf : fs = mfs ad C') : MP am ad C' A (hput h am (.inr (9, fs))) :=
  ⟨by rw [hput_s, hf], fun k hk => by rw [hput_n (M.ne hk)]; exact M.2.1 k hk, M.2.2⟩
theorem MP.sto (M : MP am ad C A h) {k : Nat} (hk : k < 22) (f : Nat → Int) : MP am ad C (up A k f) (hput h (ad k) (.inl (mtag k, mlen k, marr k f))) := by
  refine ⟨by rw [hput_n (M.ne hk).symm]; exact M.1, fun j hj => ?_, M.2.2⟩
  by_cases hjk : j = k
  · subst hjk
    rw [hput_s]
    simp [up]
  · rw [hput_n (fun q => hjk (M.2.2 j k hj hk q))]
    simpa [up, hjk] using M.2.1 j hj
theorem MP.mv (M : MP am ad C A h) {C' : Nat → Int} {A' : Nat → Nat → Int} (hc : ∀ k, k < 7 → C k = C' k) (ha : ∀ k, k < 22 → A k = A' k) : MP am ad C' A' h := by
  refine ⟨?_, fun k hk => by rw [← ha k hk]; exact M.2.1 k hk, M.2.2⟩
  rw [M.1]
  simp only [mfs, hc 0 (by decide), hc 1 (by decide), hc 2 (by decide), hc 3 (by decide), hc 4 (by decide), hc 5 (by decide), hc 6 (by decide)]
theorem MP.a0 (M : MP am ad C A h) : h.1 (ad 0) = some (.inl (0, 200, .inl (A 0))) := M.2.1 0 (by decide)
theorem MP.s0 (M : MP am ad C A h) (f : Nat → Int) : MP am ad C (up A 0 f) (hput h (ad 0) (.inl (0, 200, .inl f))) := M.sto (k := 0) (by decide) f
theorem MP.a1 (M : MP am ad C A h) : h.1 (ad 1) = some (.inl (0, 200, .inl (A 1))) := M.2.1 1 (by decide)
theorem MP.s1 (M : MP am ad C A h) (f : Nat → Int) : MP am ad C (up A 1 f) (hput h (ad 1) (.inl (0, 200, .inl f))) := M.sto (k := 1) (by decide) f
theorem MP.a2 (M : MP am ad C A h) : h.1 (ad 2) = some (.inl (2, 200, .inl (A 2))) := M.2.1 2 (by decide)
theorem MP.s2 (M : MP am ad C A h) (f : Nat → Int) : MP am ad C (up A 2 f) (hput h (ad 2) (.inl (2, 200, .inl f))) := M.sto (k := 2) (by decide) f
theorem MP.a3 (M : MP am ad C A h) : h.1 (ad 3) = some (.inl (0, 500, .inl (A 3))) := M.2.1 3 (by decide)
theorem MP.s3 (M : MP am ad C A h) (f : Nat → Int) : MP am ad C (up A 3 f) (hput h (ad 3) (.inl (0, 500, .inl f))) := M.sto (k := 3) (by decide) f
theorem MP.a4 (M : MP am ad C A h) : h.1 (ad 4) = some (.inl (0, 500, .inl (A 4))) := M.2.1 4 (by decide)
theorem MP.s4 (M : MP am ad C A h) (f : Nat → Int) : MP am ad C (up A 4 f) (hput h (ad 4) (.inl (0, 500, .inl f))) := M.sto (k := 4) (by decide) f
theorem MP.a5 (M : MP am ad C A h) : h.1 (ad 5) = some (.inl (0, 500, .inl (A 5))) := M.2.1 5 (by decide)
theorem MP.s5 (M : MP am ad C A h) (f : Nat → Int) : MP am ad C (up A 5 f) (hput h (ad 5) (.inl (0, 500, .inl f))) := M.sto (k := 5) (by decide) f
theorem MP.a6 (M : MP am ad C A h) : h.1 (ad 6) = some (.inl (0, 3000, .inl (A 6))) := M.2.1 6 (by decide)
theorem MP.s6 (M : MP am ad C A h) (f : Nat → Int) : MP am ad C (up A 6 f) (hput h (ad 6) (.inl (0, 3000, .inl f))) := M.sto (k := 6) (by decide) f
theorem MP.a7 (M : MP am ad C A h) : h.1 (ad 7) = some (.inl (0, 500, .inl (A 7))) := M.2.1 7 (by decide)
theorem MP.s7 (M : MP am ad C A h) (f : Nat → Int) : MP am ad C (up A 7 f) (hput h (ad 7) (.inl (0, 500, .inl f))) := M.sto (k := 7) (by decide) f
theorem MP.a8 (M : MP am ad C A h) : h.1 (ad 8) = some (.inl (0, 500, .inl (A 8))) := M.2.1 8 (by decide)
theorem MP.s8 (M : MP am ad C A h) (f : Nat → Int) : MP am ad C (up A 8 f) (hput h (ad 8) (.inl (0, 500, .inl f))) := M.sto (k := 8) (by decide) f
theorem MP.a9 (M : MP am ad C A h) : h.1 (ad 9) = some (.inl (0, 4200, .inl (A 9))) := M.2.1 9 (by decide)
theorem MP.s9 (M : MP am ad C A h) (f : Nat → Int) : MP am ad C (up A 9 f) (hput h (ad 9) (.inl (0, 4200, .inl f))) := M.sto (k := 9) (by decide) f
theorem MP.a10 (M : MP am ad C A h) : h.1 (ad 10) = some (.inl (0, 4200, .inl (A 10))) := M.2.1 10 (by decide)
theorem MP.s10 (M : MP am ad C A h) (f : Nat → Int) : MP am ad C (up A 10 f) (hput h (ad 10) (.inl (0, 4200, .inl f))) := M.sto (k := 10) (by decide) f
theorem MP.a11 (M : MP am ad C A h) : h.1 (ad 11) = some (.inl (0, 4200, .inl (A 11))) := M.2.1 11 (by decide)
theorem MP.s11 (M : MP am ad C A h) (f : Nat → Int) : MP am ad C (up A 11 f) (hput h (ad 11) (.inl (0, 4200, .inl f))) := M.sto (k := 11) (by decide) f
theorem MP.a12 (M : MP am ad C A h) : h.1 (ad 12) = some (.inl (1, 4200, .inr (.inl (A 12)))) := M.2.1 12 (by decide)
theorem MP.s12 (M : MP am ad C A h) (f : Nat → Int) : MP am ad C (up A 12 f) (hput h (ad 12) (.inl (1, 4200, .inr (.inl f)))) := M.sto (k := 12) (by decide) f
theorem MP.a13 (M : MP am ad C A h) : h.1 (ad 13) = some (.inl (0, 36, .inl (A 13))) := M.2.1 13 (by decide)
theorem MP.s13 (M : MP am ad C A h) (f : Nat → Int) : MP am ad C (up A 13 f) (hput h (ad 13) (.inl (0, 36, .inl f))) := M.sto (k := 13) (by decide) f
theorem MP.a14 (M : MP am ad C A h) : h.1 (ad 14) = some (.inl (0, 6, .inl (A 14))) := M.2.1 14 (by decide)
theorem MP.s14 (M : MP am ad C A h) (f : Nat → Int) : MP am ad C (up A 14 f) (hput h (ad 14) (.inl (0, 6, .inl f))) := M.sto (k := 14) (by decide) f
theorem MP.a15 (M : MP am ad C A h) : h.1 (ad 15) = some (.inl (0, 3006, .inl (A 15))) := M.2.1 15 (by decide)
theorem MP.s15 (M : MP am ad C A h) (f : Nat → Int) : MP am ad C (up A 15 f) (hput h (ad 15) (.inl (0, 3006, .inl f))) := M.sto (k := 15) (by decide) f
theorem MP.a16 (M : MP am ad C A h) : h.1 (ad 16) = some (.inl (0, 16000, .inl (A 16))) := M.2.1 16 (by decide)
theorem MP.s16 (M : MP am ad C A h) (f : Nat → Int) : MP am ad C (up A 16 f) (hput h (ad 16) (.inl (0, 16000, .inl f))) := M.sto (k := 16) (by decide) f
theorem MP.a17 (M : MP am ad C A h) : h.1 (ad 17) = some (.inl (0, 16000, .inl (A 17))) := M.2.1 17 (by decide)
theorem MP.s17 (M : MP am ad C A h) (f : Nat → Int) : MP am ad C (up A 17 f) (hput h (ad 17) (.inl (0, 16000, .inl f))) := M.sto (k := 17) (by decide) f
theorem MP.a18 (M : MP am ad C A h) : h.1 (ad 18) = some (.inl (0, 16000, .inl (A 18))) := M.2.1 18 (by decide)
theorem MP.s18 (M : MP am ad C A h) (f : Nat → Int) : MP am ad C (up A 18 f) (hput h (ad 18) (.inl (0, 16000, .inl f))) := M.sto (k := 18) (by decide) f
theorem MP.a19 (M : MP am ad C A h) : h.1 (ad 19) = some (.inl (0, 16000, .inl (A 19))) := M.2.1 19 (by decide)
theorem MP.s19 (M : MP am ad C A h) (f : Nat → Int) : MP am ad C (up A 19 f) (hput h (ad 19) (.inl (0, 16000, .inl f))) := M.sto (k := 19) (by decide) f
theorem MP.a20 (M : MP am ad C A h) : h.1 (ad 20) = some (.inl (0, 3000, .inl (A 20))) := M.2.1 20 (by decide)
theorem MP.s20 (M : MP am ad C A h) (f : Nat → Int) : MP am ad C (up A 20 f) (hput h (ad 20) (.inl (0, 3000, .inl f))) := M.sto (k := 20) (by decide) f
theorem MP.a21 (M : MP am ad C A h) : h.1 (ad 21) = some (.inl (0, 6, .inl (A 21))) := M.2.1 21 (by decide)
theorem MP.s21 (M : MP am ad C A h) (f : Nat → Int) : MP am ad C (up A 21 f) (hput h (ad 21) (.inl (0, 6, .inl f))) := M.sto (k := 21) (by decide) f
theorem MP.c0 (M : MP am ad C A h) (x : Int) : MP am ad (up C 0 x) A (hput h am (.inr (9, (mfs ad C).set 0 (aI x)))) := M.put (by simp [mfs, up])
theorem MP.c1 (M : MP am ad C A h) (x : Int) : MP am ad (up C 1 x) A (hput h am (.inr (9, (mfs ad C).set 1 (aI x)))) := M.put (by simp [mfs, up])
theorem MP.c2 (M : MP am ad C A h) (x : Int) : MP am ad (up C 2 x) A (hput h am (.inr (9, (mfs ad C).set 2 (aI x)))) := M.put (by simp [mfs, up])
theorem MP.c3 (M : MP am ad C A h) (x : Int) : MP am ad (up C 3 x) A (hput h am (.inr (9, (mfs ad C).set 3 (aI x)))) := M.put (by simp [mfs, up])
theorem MP.c4 (M : MP am ad C A h) (x : Int) : MP am ad (up C 4 x) A (hput h am (.inr (9, (mfs ad C).set 4 (aI x)))) := M.put (by simp [mfs, up])
theorem MP.c5 (M : MP am ad C A h) (x : Int) : MP am ad (up C 5 x) A (hput h am (.inr (9, (mfs ad C).set 5 (aI x)))) := M.put (by simp [mfs, up])
theorem MP.c6 (M : MP am ad C A h) (x : Int) : MP am ad (up C 6 x) A (hput h am (.inr (9, (mfs ad C).set 6 (aI x)))) := M.put (by simp [mfs, up])
end MPs
end
section
section M1
variable {am : Nat} {ad : Nat → Nat} {C : Nat → Int} {A : Nat → Nat → Int} {h : AH} {Q : AR → AH → Prop}
theorem ret_1 {P : Prop} [Decidable P] (hp : P) (k : Q (.inl (some (aI (bI (decide P))))) h) : Q (.inl (some (aI 1))) h := by simpa [bI, hp] using k
theorem ret_0 {P : Prop} [Decidable P] (hp : ¬ P) (k : Q (.inl (some (aI (bI (decide P))))) h) : Q (.inl (some (aI 0))) h := by simpa [bI, hp] using k
def wcd (b r : Bool) : Int := if b then 1 else if r then 2 else 0
theorem r_thrown (M : MP am ad C A h) (k : Q (.inl (some (aI (C 0)))) h) : Rn 102 0 (entL 102 [aR am]) [] h Q := by
  show Rn 102 0 [some (aR am)] [] h Q
  refine x_aload_n k_102_0 rfl ?_
  refine x_get k_102_1 M.1 rfl ?_
  refine x_ireturn k_102_4 rfl ?_
  exact k
theorem r_no (M : MP am ad C A h) {x : Int} (k : ∀ h', MP am ad (up C 0 x) A h' → Mv am ad h h' → Q (.inl (some (aI 0))) h') : Rn 121 0 (entL 121 [aR am, aI x]) [] h Q := by
  show Rn 121 0 [some (aR am), some (aI x)] [] h Q
  refine x_aload_n k_121_0 rfl ?_
  refine x_iload_n k_121_1 rfl ?_
  refine x_put k_121_2 M.1 (Nat.le_of_ble_eq_true rfl) rfl ?_
  refine x_iconst k_121_5 ?_
  refine x_ireturn k_121_6 rfl ?_
  exact k _ (M.c0 x) Mv.mo
theorem r_isSite (M : MP am ad C A h) {s : Int} (hs : inR s) (hc : inR (C 1)) (k : Q (.inl (some (aI (bI (decide (0 ≤ s ∧ s < C 1)))))) h) : Rn 106 0 (entL 106 [aR am, aI s]) [] h Q := by
  show Rn 106 0 [some (aR am), some (aI s)] [] h Q
  refine x_iload_n k_106_0 rfl ?_
  refine x_iflt (t := 16) k_106_1 rfl hs (fun hb => ?_) (fun hb => ?_)
  · refine x_iconst k_106_16 ?_
    refine x_zreturn k_106_17 rfl (by first | exact Or.inl rfl | exact Or.inr rfl) ?_
    exact ret_0 (by omega) k
  · refine x_iload_n k_106_4 rfl ?_
    refine x_aload_n k_106_5 rfl ?_
    refine x_get k_106_6 M.1 rfl ?_
    refine x_icmpge (t := 16) k_106_9 rfl ⟨hs, hc⟩ (fun hb => ?_) (fun hb => ?_)
    · refine x_iconst k_106_16 ?_
      refine x_zreturn k_106_17 rfl (by first | exact Or.inl rfl | exact Or.inr rfl) ?_
      exact ret_0 (by omega) k
    · refine x_iconst k_106_12 ?_
      refine x_goto (t := 17) k_106_13 rfl ?_
      refine x_zreturn k_106_17 rfl (by first | exact Or.inl rfl | exact Or.inr rfl) ?_
      exact ret_1 (by omega) k
theorem r_isTran (M : MP am ad C A h) {s : Int} (hs : inR s) (hc : inR (C 3)) (k : Q (.inl (some (aI (bI (decide (0 ≤ s ∧ s < C 3)))))) h) : Rn 110 0 (entL 110 [aR am, aI s]) [] h Q := by
  show Rn 110 0 [some (aR am), some (aI s)] [] h Q
  refine x_iload_n k_110_0 rfl ?_
  refine x_iflt (t := 16) k_110_1 rfl hs (fun hb => ?_) (fun hb => ?_)
  · refine x_iconst k_110_16 ?_
    refine x_zreturn k_110_17 rfl (by first | exact Or.inl rfl | exact Or.inr rfl) ?_
    exact ret_0 (by omega) k
  · refine x_iload_n k_110_4 rfl ?_
    refine x_aload_n k_110_5 rfl ?_
    refine x_get k_110_6 M.1 rfl ?_
    refine x_icmpge (t := 16) k_110_9 rfl ⟨hs, hc⟩ (fun hb => ?_) (fun hb => ?_)
    · refine x_iconst k_110_16 ?_
      refine x_zreturn k_110_17 rfl (by first | exact Or.inl rfl | exact Or.inr rfl) ?_
      exact ret_0 (by omega) k
    · refine x_iconst k_110_12 ?_
      refine x_goto (t := 17) k_110_13 rfl ?_
      refine x_zreturn k_110_17 rfl (by first | exact Or.inl rfl | exact Or.inr rfl) ?_
      exact ret_1 (by omega) k
theorem r_isObject (M : MP am ad C A h) {s : Int} (hs : inR s) (hc : inR (C 2)) (k : Q (.inl (some (aI (bI (decide (0 ≤ s ∧ s < C 2)))))) h) : Rn 111 0 (entL 111 [aR am, aI s]) [] h Q := by
  show Rn 111 0 [some (aR am), some (aI s)] [] h Q
  refine x_iload_n k_111_0 rfl ?_
  refine x_iflt (t := 16) k_111_1 rfl hs (fun hb => ?_) (fun hb => ?_)
  · refine x_iconst k_111_16 ?_
    refine x_zreturn k_111_17 rfl (by first | exact Or.inl rfl | exact Or.inr rfl) ?_
    exact ret_0 (by omega) k
  · refine x_iload_n k_111_4 rfl ?_
    refine x_aload_n k_111_5 rfl ?_
    refine x_get k_111_6 M.1 rfl ?_
    refine x_icmpge (t := 16) k_111_9 rfl ⟨hs, hc⟩ (fun hb => ?_) (fun hb => ?_)
    · refine x_iconst k_111_16 ?_
      refine x_zreturn k_111_17 rfl (by first | exact Or.inl rfl | exact Or.inr rfl) ?_
      exact ret_0 (by omega) k
    · refine x_iconst k_111_12 ?_
      refine x_goto (t := 17) k_111_13 rfl ?_
      refine x_zreturn k_111_17 rfl (by first | exact Or.inl rfl | exact Or.inr rfl) ?_
      exact ret_1 (by omega) k
theorem r_fails (M : MP am ad C A h) {b r : Bool} (k : ∀ h', MP am ad (up C 0 (wcd b r)) A h' → Mv am ad h h' → Q (.inl (some (aI (bI (decide (wcd b r ≠ 0)))))) h') : Rn 104 0 (entL 104 [aR am, aI (bI b), aI (bI r)]) [] h Q := by
  show Rn 104 0 [some (aR am), some (aI (bI b)), some (aI (bI r))] [] h Q
  refine x_aload_n k_104_0 rfl ?_
  refine x_iload_n k_104_1 rfl ?_
  have fin : ∀ x : Int, x = wcd b r → inR x → Rn 104 18 [some (aR am), some (aI (bI b)), some (aI (bI r))] [aI x, aR am] h Q := by
    intro x hx hr
    refine x_put k_104_18 M.1 (Nat.le_of_ble_eq_true rfl) rfl ?_
    refine x_aload_n k_104_21 rfl ?_
    refine x_get k_104_22 (M.c0 x).1 rfl ?_
    refine x_ifeq (t := 32) k_104_25 rfl hr (fun hb => ?_) (fun hb => ?_)
    · refine x_iconst k_104_32 ?_
      refine x_zreturn k_104_33 rfl (Or.inl rfl) ?_
      have hb : x = 0 := hb
      subst hx
      exact ret_0 (by omega) (k _ (M.c0 _) Mv.mo)
    · refine x_iconst k_104_28 ?_
      refine x_goto (t := 33) k_104_29 rfl ?_
      refine x_zreturn k_104_33 rfl (Or.inr rfl) ?_
      have hb : ¬ x = 0 := hb
      subst hx
      exact ret_1 hb (k _ (M.c0 _) Mv.mo)
  refine x_ifeq_b (t := 9) k_104_2 rfl (fun hb => ?_) (fun hb => ?_)
  · refine x_iload_n k_104_9 rfl ?_
    refine x_ifeq_b (t := 17) k_104_10 rfl (fun hr => ?_) (fun hr => ?_)
    · refine x_iconst k_104_17 ?_
      exact fin 0 (by simp [wcd, hb, hr]) (by decide)
    · refine x_iconst k_104_13 ?_
      refine x_goto (t := 18) k_104_14 rfl ?_
      exact fin 2 (by simp [wcd, hb, hr]) (by decide)
  · refine x_iconst k_104_5 ?_
    refine x_goto (t := 18) k_104_6 rfl ?_
    exact fin 1 (by simp [wcd, hb]) (by decide)
end M1
end
section
/-- the bounds of the reference's memory -/
def RB (C : Nat → Int) (A : Nat → Nat → Int) : Prop := (0 ≤ C 1 ∧ C 1 ≤ 6) ∧ (0 ≤ C 2 ∧ C 2 ≤ 200) ∧ (0 ≤ C 3 ∧ C 3 ≤ 500) ∧ (0 ≤ C 4 ∧ C 4 ≤ 4000) ∧ (0 ≤ C 5 ∧ C 5 ≤ 15000) ∧ (0 ≤ C 6 ∧ C 6 ≤ 1000) ∧
  (∀ j, 0 ≤ A 0 j ∧ A 0 j < 6) ∧ (∀ j, -1 ≤ A 1 j ∧ A 1 j < 500) ∧ (∀ j, A 2 j = 0 ∨ A 2 j = 1) ∧ (∀ j, 0 ≤ A 3 j ∧ A 3 j < 6) ∧ (∀ j, 0 ≤ A 4 j ∧ A 4 j ≤ 3) ∧ (∀ j, 0 ≤ A 5 j ∧ A 5 j ≤ 500) ∧ (∀ j, 0 ≤ A 6 j ∧ A 6 j ≤ 500) ∧ (∀ j, 0 ≤ A 7 j ∧ A 7 j ≤ 10) ∧ (∀ j, 0 ≤ A 8 j ∧ A 8 j ≤ 10) ∧ (∀ j, 0 ≤ A 9 j ∧ A 9 j < 500) ∧ (∀ j, 0 ≤ A 10 j ∧ A 10 j < 200) ∧ (∀ j, -1 ≤ A 11 j ∧ A 11 j ≤ 1) ∧ (∀ j, inL (A 12 j)) ∧ (∀ j, 0 ≤ A 13 j ∧ A 13 j ≤ 500) ∧ (∀ j, 0 ≤ A 14 j ∧ A 14 j ≤ 500) ∧ (∀ j, 0 ≤ A 16 j ∧ A 16 j < 6) ∧ (∀ j, 0 ≤ A 17 j ∧ A 17 j < 6) ∧ (∀ j, 0 ≤ A 18 j ∧ A 18 j ≤ 5) ∧ (∀ j, 0 ≤ A 19 j ∧ A 19 j < 500) ∧ (∀ j, 0 ≤ A 20 j ∧ A 20 j < 500) ∧ (∀ j, 0 ≤ A 21 j ∧ A 21 j ≤ 500)
section RBs
variable {C : Nat → Int} {A : Nat → Nat → Int}
theorem RB.c1 (b : RB C A) : 0 ≤ C 1 ∧ C 1 ≤ 6 := b.1
theorem RB.c2 (b : RB C A) : 0 ≤ C 2 ∧ C 2 ≤ 200 := b.2.1
theorem RB.c3 (b : RB C A) : 0 ≤ C 3 ∧ C 3 ≤ 500 := b.2.2.1
theorem RB.c4 (b : RB C A) : 0 ≤ C 4 ∧ C 4 ≤ 4000 := b.2.2.2.1
theorem RB.c5 (b : RB C A) : 0 ≤ C 5 ∧ C 5 ≤ 15000 := b.2.2.2.2.1
theorem RB.c6 (b : RB C A) : 0 ≤ C 6 ∧ C 6 ≤ 1000 := b.2.2.2.2.2.1
theorem RB.v0 (b : RB C A) (j : Nat) : 0 ≤ A 0 j ∧ A 0 j < 6 := b.2.2.2.2.2.2.1 j
theorem RB.v1 (b : RB C A) (j : Nat) : -1 ≤ A 1 j ∧ A 1 j < 500 := b.2.2.2.2.2.2.2.1 j
theorem RB.v2 (b : RB C A) (j : Nat) : A 2 j = 0 ∨ A 2 j = 1 := b.2.2.2.2.2.2.2.2.1 j
theorem RB.v3 (b : RB C A) (j : Nat) : 0 ≤ A 3 j ∧ A 3 j < 6 := b.2.2.2.2.2.2.2.2.2.1 j
theorem RB.v4 (b : RB C A) (j : Nat) : 0 ≤ A 4 j ∧ A 4 j ≤ 3 := b.2.2.2.2.2.2.2.2.2.2.1 j
theorem RB.v5 (b : RB C A) (j : Nat) : 0 ≤ A 5 j ∧ A 5 j ≤ 500 := b.2.2.2.2.2.2.2.2.2.2.2.1 j
theorem RB.v6 (b : RB C A) (j : Nat) : 0 ≤ A 6 j ∧ A 6 j ≤ 500 := b.2.2.2.2.2.2.2.2.2.2.2.2.1 j
theorem RB.v7 (b : RB C A) (j : Nat) : 0 ≤ A 7 j ∧ A 7 j ≤ 10 := b.2.2.2.2.2.2.2.2.2.2.2.2.2.1 j
theorem RB.v8 (b : RB C A) (j : Nat) : 0 ≤ A 8 j ∧ A 8 j ≤ 10 := b.2.2.2.2.2.2.2.2.2.2.2.2.2.2.1 j
theorem RB.v9 (b : RB C A) (j : Nat) : 0 ≤ A 9 j ∧ A 9 j < 500 := b.2.2.2.2.2.2.2.2.2.2.2.2.2.2.2.1 j
theorem RB.v10 (b : RB C A) (j : Nat) : 0 ≤ A 10 j ∧ A 10 j < 200 := b.2.2.2.2.2.2.2.2.2.2.2.2.2.2.2.2.1 j
theorem RB.v11 (b : RB C A) (j : Nat) : -1 ≤ A 11 j ∧ A 11 j ≤ 1 := b.2.2.2.2.2.2.2.2.2.2.2.2.2.2.2.2.2.1 j
theorem RB.v12 (b : RB C A) (j : Nat) : inL (A 12 j) := b.2.2.2.2.2.2.2.2.2.2.2.2.2.2.2.2.2.2.1 j
theorem RB.v13 (b : RB C A) (j : Nat) : 0 ≤ A 13 j ∧ A 13 j ≤ 500 := b.2.2.2.2.2.2.2.2.2.2.2.2.2.2.2.2.2.2.2.1 j
theorem RB.v14 (b : RB C A) (j : Nat) : 0 ≤ A 14 j ∧ A 14 j ≤ 500 := b.2.2.2.2.2.2.2.2.2.2.2.2.2.2.2.2.2.2.2.2.1 j
theorem RB.v16 (b : RB C A) (j : Nat) : 0 ≤ A 16 j ∧ A 16 j < 6 := b.2.2.2.2.2.2.2.2.2.2.2.2.2.2.2.2.2.2.2.2.2.1 j
theorem RB.v17 (b : RB C A) (j : Nat) : 0 ≤ A 17 j ∧ A 17 j < 6 := b.2.2.2.2.2.2.2.2.2.2.2.2.2.2.2.2.2.2.2.2.2.2.1 j
theorem RB.v18 (b : RB C A) (j : Nat) : 0 ≤ A 18 j ∧ A 18 j ≤ 5 := b.2.2.2.2.2.2.2.2.2.2.2.2.2.2.2.2.2.2.2.2.2.2.2.1 j
theorem RB.v19 (b : RB C A) (j : Nat) : 0 ≤ A 19 j ∧ A 19 j < 500 := b.2.2.2.2.2.2.2.2.2.2.2.2.2.2.2.2.2.2.2.2.2.2.2.2.1 j
theorem RB.v20 (b : RB C A) (j : Nat) : 0 ≤ A 20 j ∧ A 20 j < 500 := b.2.2.2.2.2.2.2.2.2.2.2.2.2.2.2.2.2.2.2.2.2.2.2.2.2.1 j
theorem RB.v21 (b : RB C A) (j : Nat) : 0 ≤ A 21 j ∧ A 21 j ≤ 500 := b.2.2.2.2.2.2.2.2.2.2.2.2.2.2.2.2.2.2.2.2.2.2.2.2.2.2 j
end RBs
section M2
variable {am : Nat} {ad : Nat → Nat} {C : Nat → Int} {A : Nat → Nat → Int} {h : AH} {Q : AR → AH → Prop}
def visB (A : Nat → Nat → Int) (c t : Nat) : Bool := decide (0 < A 5 c) && decide (A 5 c ≤ A 6 (6 * t + (A 3 c).toNat))
def wrtB (C : Nat → Int) (A : Nat → Nat → Int) (t o : Nat) : Bool := (List.range (C 4).toNat).any (fun k => decide (A 9 k = t) && decide (A 10 k = o))
theorem ret_t {b : Bool} (hb : b = true) (k : Q (.inl (some (aI (bI b)))) h) : Q (.inl (some (aI 1))) h := by subst hb; exact k
theorem ret_f {b : Bool} (hb : b = false) (k : Q (.inl (some (aI (bI b)))) h) : Q (.inl (some (aI 0))) h := by subst hb; exact k
theorem r_visible (M : MP am ad C A h) (b : RB C A) {c t : Nat} (hc : c < 500) (ht : t < 500) (k : Q (.inl (some (aI (bI (visB A c t))))) h) : Rn 114 0 (entL 114 [aR am, aI c, aI t]) [] h Q := by
  show Rn 114 0 [some (aR am), some (aI c), some (aI t)] [] h Q
  have b5 := b.v5 c
  have b3 := b.v3 c
  have b6 := b.v6 (6 * t + (A 3 c).toNat)
  have e6 : ((6 : Int) * (t : Int) + A 3 c).toNat = 6 * t + (A 3 c).toNat := by omega
  refine x_aload_n k_114_0 rfl ?_
  refine x_get k_114_1 M.1 rfl ?_
  refine x_iload_n k_114_4 rfl ?_
  refine x_iaload k_114_5 M.a5 (Or.inl rfl) (by omega) (by omega) ?_
  refine x_ifle (t := 38) k_114_6 rfl (by show inR (A 5 c); omega) (fun hb => ?_) (fun hb => ?_)
  · refine x_iconst k_114_38 ?_
    refine x_zreturn k_114_39 rfl (by first | exact Or.inl rfl | exact Or.inr rfl) ?_
    have hb : A 5 c ≤ 0 := hb
    exact ret_f (by simp [visB]; omega) k
  · have hb : ¬ A 5 c ≤ 0 := hb
    refine x_aload_n k_114_9 rfl ?_
    refine x_get k_114_10 M.1 rfl ?_
    refine x_iload_n k_114_13 rfl ?_
    refine x_iaload k_114_14 M.a5 (Or.inl rfl) (by omega) (by omega) ?_
    refine x_aload_n k_114_15 rfl ?_
    refine x_get k_114_16 M.1 rfl ?_
    refine x_bipush k_114_19 ?_
    refine x_iload_n k_114_21 rfl ?_
    refine x_imul k_114_22 ?_
    refine x_aload_n k_114_23 rfl ?_
    refine x_get k_114_24 M.1 rfl ?_
    refine x_iload_n k_114_27 rfl ?_
    refine x_iaload k_114_28 M.a3 (Or.inl rfl) (by omega) (by omega) ?_
    refine x_iadd k_114_29 ?_
    refine x_iaload k_114_30 M.a6 (Or.inl rfl) (by show (0 : Int) ≤ 6 * (t : Int) + A 3 c; omega) (by show 6 * (t : Int) + A 3 c < 3000; omega) ?_
    refine x_icmpgt (t := 38) k_114_31 rfl ⟨by show inR (A 5 c); omega, by show inR (A 6 ((6 : Int) * (t : Int) + A 3 c).toNat); rw [e6]; omega⟩ (fun hb => ?_) (fun hb => ?_)
    · refine x_iconst k_114_38 ?_
      refine x_zreturn k_114_39 rfl (by first | exact Or.inl rfl | exact Or.inr rfl) ?_
      have hb2 : A 6 ((6 : Int) * (t : Int) + A 3 c).toNat < A 5 c := by assumption
      rw [e6] at hb2
      exact ret_f (by simp [visB]; omega) k
    · refine x_iconst k_114_34 ?_
      refine x_goto (t := 39) k_114_35 rfl ?_
      refine x_zreturn k_114_39 rfl (by first | exact Or.inl rfl | exact Or.inr rfl) ?_
      have hb2 : ¬ A 6 ((6 : Int) * (t : Int) + A 3 c).toNat < A 5 c := by assumption
      rw [e6] at hb2
      exact ret_t (by simp [visB]; omega) k
theorem lp_wrote (M : MP am ad C A h) (b : RB C A) {t o : Nat} (ht : t < 500) (ho : o < 200) (k : Q (.inl (some (aI (bI (wrtB C A t o))))) h) : ∀ n j : Nat, j + n = (C 4).toNat → (∀ q, q < j → ¬ (A 9 q = t ∧ A 10 q = o)) → Rn 112 2 [some (aR am), some (aI t), some (aI o), some (aI j)] [] h Q := by
  have c4 := b.c4
  intro n
  induction n with
  | zero =>
    intro j hj hq
    refine x_iload_n k_112_2 rfl ?_
    refine x_aload_n k_112_3 rfl ?_
    refine x_get k_112_4 M.1 rfl ?_
    refine x_icmpge (t := 38) k_112_7 rfl (by omega) (fun hb => ?_) (fun hb => ?_)
    · refine x_iconst k_112_38 ?_
      refine x_zreturn k_112_39 rfl (by first | exact Or.inl rfl | exact Or.inr rfl) ?_
      refine ret_f ?_ k
      rw [← Bool.not_eq_true]
      intro hw
      obtain ⟨q, hq1, hq2⟩ := List.any_eq_true.mp hw
      have hq1 := List.mem_range.mp hq1
      simp only [Bool.and_eq_true, decide_eq_true_eq] at hq2
      exact hq q (by omega) hq2
    · exact absurd hb (by omega)
  | succ n ih =>
    intro j hj hq
    have b9 := b.v9 j
    have b10 := b.v10 j
    refine x_iload_n k_112_2 rfl ?_
    refine x_aload_n k_112_3 rfl ?_
    refine x_get k_112_4 M.1 rfl ?_
    refine x_icmpge (t := 38) k_112_7 rfl (by omega) (fun hb => ?_) (fun hb => ?_)
    · exact absurd hb (by omega)
    · refine x_aload_n k_112_10 rfl ?_
      refine x_get k_112_11 M.1 rfl ?_
      refine x_iload_n k_112_14 rfl ?_
      refine x_iaload k_112_15 M.a9 (Or.inl rfl) (by omega) (by omega) ?_
      refine x_iload_n k_112_16 rfl ?_
      refine x_icmpne (t := 32) k_112_17 rfl (by show inR (A 9 j) ∧ inR (t : Int); omega) (fun hb => ?_) (fun hb => ?_)
      · refine x_inc3 k_112_32 rfl ?_
        refine x_goto (t := 2) k_112_35 rfl ?_
        have hb : ¬ A 9 j = t := by assumption
        refine ih (j + 1) (by omega) (fun q hq1 hq2 => ?_)
        rcases Nat.lt_or_ge q j with hz | hz
        · exact hq q hz hq2
        · rw [show q = j by omega] at hq2
          exact hb hq2.1
      · refine x_aload_n k_112_20 rfl ?_
        refine x_get k_112_21 M.1 rfl ?_
        refine x_iload_n k_112_24 rfl ?_
        refine x_iaload k_112_25 M.a10 (Or.inl rfl) (by omega) (by omega) ?_
        refine x_iload_n k_112_26 rfl ?_
        refine x_icmpne (t := 32) k_112_27 rfl (by show inR (A 10 j) ∧ inR (o : Int); omega) (fun hb => ?_) (fun hb => ?_)
        · refine x_inc3 k_112_32 rfl ?_
          refine x_goto (t := 2) k_112_35 rfl ?_
          have hb : ¬ A 10 j = o := by assumption
          refine ih (j + 1) (by omega) (fun q hq1 hq2 => ?_)
          rcases Nat.lt_or_ge q j with hz | hz
          · exact hq q hz hq2
          · rw [show q = j by omega] at hq2
            exact hb hq2.2
        · refine x_iconst k_112_30 ?_
          refine x_zreturn k_112_31 rfl (by first | exact Or.inl rfl | exact Or.inr rfl) ?_
          have h9 : ¬ ¬ A 9 j = t := by assumption
          have h10 : ¬ ¬ A 10 j = o := by assumption
          refine ret_t ?_ k
          refine List.any_eq_true.mpr ⟨j, List.mem_range.mpr (by omega), ?_⟩
          simp only [Bool.and_eq_true, decide_eq_true_eq]
          exact ⟨by omega, by omega⟩
theorem r_wrote (M : MP am ad C A h) (b : RB C A) {t o : Nat} (ht : t < 500) (ho : o < 200) (k : Q (.inl (some (aI (bI (wrtB C A t o))))) h) : Rn 112 0 (entL 112 [aR am, aI t, aI o]) [] h Q := by
  show Rn 112 0 [some (aR am), some (aI t), some (aI o), none] [] h Q
  refine x_iconst k_112_0 ?_
  refine x_is3n k_112_1 rfl ?_
  exact lp_wrote M b ht ho k (C 4).toNat 0 (by omega) (fun q hq => absurd hq (Nat.not_lt_zero q))
end M2
end
section
section Rows3
variable {i pc len : Nat} {st : List AV} {h h0 : AH} {Q : AR → AH → Prop} {L : AL} {am : Nat} {ad : Nat → Nat} {C C' : Nat → Int} {A A' : Nat → Nat → Int}
theorem x_top {x y : Int} (e : x = y) (k : Rn i pc L (aI y :: st) h Q) : Rn i pc L (aI x :: st) h Q := by rw [e]; exact k
theorem y_iaload {a t n m : Nat} {F : Nat → Int} {j : Int} (hk : cod i pc = some (.inl .iaload, len)) (he : h.1 a = some (.inl (t, n, .inl F))) (ht : t = 0 ∨ t = 9) (hj : j = (m : Int)) (h1 : m < n) (k : Rn i (pc + len) L (aI (F m) :: st) h Q) : Rn i pc L (aI j :: aR a :: st) h Q := by
  subst hj
  exact x_iaload hk he ht (by omega) (by omega) k
theorem y_baload {a n m : Nat} {F : Nat → Int} {j : Int} (hk : cod i pc = some (.inl .baload, len)) (he : h.1 a = some (.inl (2, n, .inl F))) (hj : j = (m : Int)) (h1 : m < n) (k : Rn i (pc + len) L (aI (F m) :: st) h Q) : Rn i pc L (aI j :: aR a :: st) h Q := by
  subst hj
  exact x_baload hk he (by omega) (by omega) k
theorem y_laload {a n m : Nat} {F : Nat → Int} {j : Int} (hk : cod i pc = some (.inl .laload, len)) (he : h.1 a = some (.inl (1, n, .inr (.inl F)))) (hj : j = (m : Int)) (h1 : m < n) (k : Rn i (pc + len) L (aL (F m) :: st) h Q) : Rn i pc L (aI j :: aR a :: st) h Q := by
  subst hj
  exact x_laload hk he (by omega) (by omega) k
theorem y_iastore {a n m : Nat} {F : Nat → Int} {j x : Int} (hk : cod i pc = some (.inl .iastore, len)) (he : h.1 a = some (.inl (0, n, .inl F))) (hj : j = (m : Int)) (h1 : m < n) (k : Rn i (pc + len) L st (hput h a (.inl (0, n, .inl (up F m x)))) Q) : Rn i pc L (aI x :: aI j :: aR a :: st) h Q := by
  subst hj
  exact x_iastore hk he (by omega) (by omega) k
theorem y_bastore {a n m : Nat} {F : Nat → Int} {j x : Int} (hk : cod i pc = some (.inl .bastore, len)) (he : h.1 a = some (.inl (2, n, .inl F))) (hx : x = 0 ∨ x = 1) (hj : j = (m : Int)) (h1 : m < n) (k : Rn i (pc + len) L st (hput h a (.inl (2, n, .inl (up F m x)))) Q) : Rn i pc L (aI x :: aI j :: aR a :: st) h Q := by
  subst hj
  exact x_bastore hk he hx (by omega) (by omega) k
theorem y_lastore {a n m : Nat} {F : Nat → Int} {j x : Int} (hk : cod i pc = some (.inl .lastore, len)) (he : h.1 a = some (.inl (1, n, .inr (.inl F)))) (hj : j = (m : Int)) (h1 : m < n) (k : Rn i (pc + len) L st (hput h a (.inl (1, n, .inr (.inl (up F m x))))) Q) : Rn i pc L (aL x :: aI j :: aR a :: st) h Q := by
  subst hj
  exact x_lastore hk he (by omega) (by omega) k
theorem mgo {h' : AH} (M' : MP am ad C' A' h') (V : Mv am ad h0 h') (k : ∀ h', MP am ad C' A' h' → Mv am ad h0 h' → Rn i pc L st h' Q) : Rn i pc L st h' Q := k h' M' V
theorem cmp_r (x y : Int) : inR (if x < y then -1 else if x = y then 0 else 1) := by split; decide; split <;> decide
theorem cmp_eq (x y : Int) : (if x < y then (-1 : Int) else if x = y then 0 else 1) = 0 ↔ x = y := by split; constructor <;> intro q <;> omega; split <;> constructor <;> intro q <;> omega
theorem cmp_ne (x y : Int) : ¬ (if x < y then (-1 : Int) else if x = y then 0 else 1) = 0 ↔ ¬ x = y := not_congr (cmp_eq x y)
theorem cmp_le (x y : Int) : (if x < y then (-1 : Int) else if x = y then 0 else 1) ≤ 0 ↔ x ≤ y := by split; constructor <;> intro q <;> omega; split <;> constructor <;> intro q <;> omega
theorem cmp_ge (x y : Int) : 0 ≤ (if x < y then (-1 : Int) else if x = y then 0 else 1) ↔ y ≤ x := by split; constructor <;> intro q <;> omega; split <;> constructor <;> intro q <;> omega
theorem cmp_lt (x y : Int) : (if x < y then (-1 : Int) else if x = y then 0 else 1) < 0 ↔ x < y := by split; constructor <;> intro q <;> omega; split <;> constructor <;> intro q <;> omega
theorem cmp_gt (x y : Int) : 0 < (if x < y then (-1 : Int) else if x = y then 0 else 1) ↔ y < x := by split; constructor <;> intro q <;> omega; split <;> constructor <;> intro q <;> omega
theorem x_ifeq_p {t : Nat} {off : Int} {P : Prop} [Decidable P] (hk : cod i pc = some (.inl (.ifCond .eq off), len)) (ht : tg pc off = t) (kt : ¬ P → Rn i t L st h Q) (kf : P → Rn i (pc + len) L st h Q) : Rn i pc L (aI (bI (decide P)) :: st) h Q :=
  x_ifeq_b hk ht (fun q => kt (of_decide_eq_false q)) (fun q => kf (of_decide_eq_true q))
theorem x_ifne_p {t : Nat} {off : Int} {P : Prop} [Decidable P] (hk : cod i pc = some (.inl (.ifCond .ne off), len)) (ht : tg pc off = t) (kt : P → Rn i t L st h Q) (kf : ¬ P → Rn i (pc + len) L st h Q) : Rn i pc L (aI (bI (decide P)) :: st) h Q :=
  x_ifne_b hk ht (fun q => kt (of_decide_eq_true q)) (fun q => kf (of_decide_eq_false q))
theorem bI_1 {P : Prop} [Decidable P] (hp : P) : (1 : Int) = bI (decide P) := by simp [bI, hp]
theorem bI_0 {P : Prop} [Decidable P] (hp : ¬ P) : (0 : Int) = bI (decide P) := by simp [bI, hp]
theorem RB.u0 {x : Int} (b : RB C A) : RB (up C 0 x) A := b
theorem RB.d1 {x : Int} (b : RB C A) (hx : 0 ≤ x ∧ x ≤ 6) : RB (up C 1 x) A := ⟨hx, b.c2, b.c3, b.c4, b.c5, b.c6, b.v0, b.v1, b.v2, b.v3, b.v4, b.v5, b.v6, b.v7, b.v8, b.v9, b.v10, b.v11, b.v12, b.v13, b.v14, b.v16, b.v17, b.v18, b.v19, b.v20, b.v21⟩
theorem RB.d2 {x : Int} (b : RB C A) (hx : 0 ≤ x ∧ x ≤ 200) : RB (up C 2 x) A := ⟨b.c1, hx, b.c3, b.c4, b.c5, b.c6, b.v0, b.v1, b.v2, b.v3, b.v4, b.v5, b.v6, b.v7, b.v8, b.v9, b.v10, b.v11, b.v12, b.v13, b.v14, b.v16, b.v17, b.v18, b.v19, b.v20, b.v21⟩
theorem RB.d3 {x : Int} (b : RB C A) (hx : 0 ≤ x ∧ x ≤ 500) : RB (up C 3 x) A := ⟨b.c1, b.c2, hx, b.c4, b.c5, b.c6, b.v0, b.v1, b.v2, b.v3, b.v4, b.v5, b.v6, b.v7, b.v8, b.v9, b.v10, b.v11, b.v12, b.v13, b.v14, b.v16, b.v17, b.v18, b.v19, b.v20, b.v21⟩
theorem RB.d4 {x : Int} (b : RB C A) (hx : 0 ≤ x ∧ x ≤ 4000) : RB (up C 4 x) A := ⟨b.c1, b.c2, b.c3, hx, b.c5, b.c6, b.v0, b.v1, b.v2, b.v3, b.v4, b.v5, b.v6, b.v7, b.v8, b.v9, b.v10, b.v11, b.v12, b.v13, b.v14, b.v16, b.v17, b.v18, b.v19, b.v20, b.v21⟩
theorem RB.d5 {x : Int} (b : RB C A) (hx : 0 ≤ x ∧ x ≤ 15000) : RB (up C 5 x) A := ⟨b.c1, b.c2, b.c3, b.c4, hx, b.c6, b.v0, b.v1, b.v2, b.v3, b.v4, b.v5, b.v6, b.v7, b.v8, b.v9, b.v10, b.v11, b.v12, b.v13, b.v14, b.v16, b.v17, b.v18, b.v19, b.v20, b.v21⟩
theorem RB.d6 {x : Int} (b : RB C A) (hx : 0 ≤ x ∧ x ≤ 1000) : RB (up C 6 x) A := ⟨b.c1, b.c2, b.c3, b.c4, b.c5, hx, b.v0, b.v1, b.v2, b.v3, b.v4, b.v5, b.v6, b.v7, b.v8, b.v9, b.v10, b.v11, b.v12, b.v13, b.v14, b.v16, b.v17, b.v18, b.v19, b.v20, b.v21⟩
theorem RB.s0 {f : Nat → Int} (b : RB C A) (hf : ∀ j, 0 ≤ f j ∧ f j < 6) : RB C (up A 0 f) := ⟨b.c1, b.c2, b.c3, b.c4, b.c5, b.c6, hf, b.v1, b.v2, b.v3, b.v4, b.v5, b.v6, b.v7, b.v8, b.v9, b.v10, b.v11, b.v12, b.v13, b.v14, b.v16, b.v17, b.v18, b.v19, b.v20, b.v21⟩
theorem RB.s1 {f : Nat → Int} (b : RB C A) (hf : ∀ j, -1 ≤ f j ∧ f j < 500) : RB C (up A 1 f) := ⟨b.c1, b.c2, b.c3, b.c4, b.c5, b.c6, b.v0, hf, b.v2, b.v3, b.v4, b.v5, b.v6, b.v7, b.v8, b.v9, b.v10, b.v11, b.v12, b.v13, b.v14, b.v16, b.v17, b.v18, b.v19, b.v20, b.v21⟩
theorem RB.s2 {f : Nat → Int} (b : RB C A) (hf : ∀ j, f j = 0 ∨ f j = 1) : RB C (up A 2 f) := ⟨b.c1, b.c2, b.c3, b.c4, b.c5, b.c6, b.v0, b.v1, hf, b.v3, b.v4, b.v5, b.v6, b.v7, b.v8, b.v9, b.v10, b.v11, b.v12, b.v13, b.v14, b.v16, b.v17, b.v18, b.v19, b.v20, b.v21⟩
theorem RB.s3 {f : Nat → Int} (b : RB C A) (hf : ∀ j, 0 ≤ f j ∧ f j < 6) : RB C (up A 3 f) := ⟨b.c1, b.c2, b.c3, b.c4, b.c5, b.c6, b.v0, b.v1, b.v2, hf, b.v4, b.v5, b.v6, b.v7, b.v8, b.v9, b.v10, b.v11, b.v12, b.v13, b.v14, b.v16, b.v17, b.v18, b.v19, b.v20, b.v21⟩
theorem RB.s4 {f : Nat → Int} (b : RB C A) (hf : ∀ j, 0 ≤ f j ∧ f j ≤ 3) : RB C (up A 4 f) := ⟨b.c1, b.c2, b.c3, b.c4, b.c5, b.c6, b.v0, b.v1, b.v2, b.v3, hf, b.v5, b.v6, b.v7, b.v8, b.v9, b.v10, b.v11, b.v12, b.v13, b.v14, b.v16, b.v17, b.v18, b.v19, b.v20, b.v21⟩
theorem RB.s5 {f : Nat → Int} (b : RB C A) (hf : ∀ j, 0 ≤ f j ∧ f j ≤ 500) : RB C (up A 5 f) := ⟨b.c1, b.c2, b.c3, b.c4, b.c5, b.c6, b.v0, b.v1, b.v2, b.v3, b.v4, hf, b.v6, b.v7, b.v8, b.v9, b.v10, b.v11, b.v12, b.v13, b.v14, b.v16, b.v17, b.v18, b.v19, b.v20, b.v21⟩
theorem RB.s6 {f : Nat → Int} (b : RB C A) (hf : ∀ j, 0 ≤ f j ∧ f j ≤ 500) : RB C (up A 6 f) := ⟨b.c1, b.c2, b.c3, b.c4, b.c5, b.c6, b.v0, b.v1, b.v2, b.v3, b.v4, b.v5, hf, b.v7, b.v8, b.v9, b.v10, b.v11, b.v12, b.v13, b.v14, b.v16, b.v17, b.v18, b.v19, b.v20, b.v21⟩
theorem RB.s7 {f : Nat → Int} (b : RB C A) (hf : ∀ j, 0 ≤ f j ∧ f j ≤ 10) : RB C (up A 7 f) := ⟨b.c1, b.c2, b.c3, b.c4, b.c5, b.c6, b.v0, b.v1, b.v2, b.v3, b.v4, b.v5, b.v6, hf, b.v8, b.v9, b.v10, b.v11, b.v12, b.v13, b.v14, b.v16, b.v17, b.v18, b.v19, b.v20, b.v21⟩
theorem RB.s8 {f : Nat → Int} (b : RB C A) (hf : ∀ j, 0 ≤ f j ∧ f j ≤ 10) : RB C (up A 8 f) := ⟨b.c1, b.c2, b.c3, b.c4, b.c5, b.c6, b.v0, b.v1, b.v2, b.v3, b.v4, b.v5, b.v6, b.v7, hf, b.v9, b.v10, b.v11, b.v12, b.v13, b.v14, b.v16, b.v17, b.v18, b.v19, b.v20, b.v21⟩
theorem RB.s9 {f : Nat → Int} (b : RB C A) (hf : ∀ j, 0 ≤ f j ∧ f j < 500) : RB C (up A 9 f) := ⟨b.c1, b.c2, b.c3, b.c4, b.c5, b.c6, b.v0, b.v1, b.v2, b.v3, b.v4, b.v5, b.v6, b.v7, b.v8, hf, b.v10, b.v11, b.v12, b.v13, b.v14, b.v16, b.v17, b.v18, b.v19, b.v20, b.v21⟩
theorem RB.s10 {f : Nat → Int} (b : RB C A) (hf : ∀ j, 0 ≤ f j ∧ f j < 200) : RB C (up A 10 f) := ⟨b.c1, b.c2, b.c3, b.c4, b.c5, b.c6, b.v0, b.v1, b.v2, b.v3, b.v4, b.v5, b.v6, b.v7, b.v8, b.v9, hf, b.v11, b.v12, b.v13, b.v14, b.v16, b.v17, b.v18, b.v19, b.v20, b.v21⟩
theorem RB.s11 {f : Nat → Int} (b : RB C A) (hf : ∀ j, -1 ≤ f j ∧ f j ≤ 1) : RB C (up A 11 f) := ⟨b.c1, b.c2, b.c3, b.c4, b.c5, b.c6, b.v0, b.v1, b.v2, b.v3, b.v4, b.v5, b.v6, b.v7, b.v8, b.v9, b.v10, hf, b.v12, b.v13, b.v14, b.v16, b.v17, b.v18, b.v19, b.v20, b.v21⟩
theorem RB.s12 {f : Nat → Int} (b : RB C A) (hf : ∀ j, inL (f j)) : RB C (up A 12 f) := ⟨b.c1, b.c2, b.c3, b.c4, b.c5, b.c6, b.v0, b.v1, b.v2, b.v3, b.v4, b.v5, b.v6, b.v7, b.v8, b.v9, b.v10, b.v11, hf, b.v13, b.v14, b.v16, b.v17, b.v18, b.v19, b.v20, b.v21⟩
theorem RB.s13 {f : Nat → Int} (b : RB C A) (hf : ∀ j, 0 ≤ f j ∧ f j ≤ 500) : RB C (up A 13 f) := ⟨b.c1, b.c2, b.c3, b.c4, b.c5, b.c6, b.v0, b.v1, b.v2, b.v3, b.v4, b.v5, b.v6, b.v7, b.v8, b.v9, b.v10, b.v11, b.v12, hf, b.v14, b.v16, b.v17, b.v18, b.v19, b.v20, b.v21⟩
theorem RB.s14 {f : Nat → Int} (b : RB C A) (hf : ∀ j, 0 ≤ f j ∧ f j ≤ 500) : RB C (up A 14 f) := ⟨b.c1, b.c2, b.c3, b.c4, b.c5, b.c6, b.v0, b.v1, b.v2, b.v3, b.v4, b.v5, b.v6, b.v7, b.v8, b.v9, b.v10, b.v11, b.v12, b.v13, hf, b.v16, b.v17, b.v18, b.v19, b.v20, b.v21⟩
theorem RB.s16 {f : Nat → Int} (b : RB C A) (hf : ∀ j, 0 ≤ f j ∧ f j < 6) : RB C (up A 16 f) := ⟨b.c1, b.c2, b.c3, b.c4, b.c5, b.c6, b.v0, b.v1, b.v2, b.v3, b.v4, b.v5, b.v6, b.v7, b.v8, b.v9, b.v10, b.v11, b.v12, b.v13, b.v14, hf, b.v17, b.v18, b.v19, b.v20, b.v21⟩
theorem RB.s17 {f : Nat → Int} (b : RB C A) (hf : ∀ j, 0 ≤ f j ∧ f j < 6) : RB C (up A 17 f) := ⟨b.c1, b.c2, b.c3, b.c4, b.c5, b.c6, b.v0, b.v1, b.v2, b.v3, b.v4, b.v5, b.v6, b.v7, b.v8, b.v9, b.v10, b.v11, b.v12, b.v13, b.v14, b.v16, hf, b.v18, b.v19, b.v20, b.v21⟩
theorem RB.s18 {f : Nat → Int} (b : RB C A) (hf : ∀ j, 0 ≤ f j ∧ f j ≤ 5) : RB C (up A 18 f) := ⟨b.c1, b.c2, b.c3, b.c4, b.c5, b.c6, b.v0, b.v1, b.v2, b.v3, b.v4, b.v5, b.v6, b.v7, b.v8, b.v9, b.v10, b.v11, b.v12, b.v13, b.v14, b.v16, b.v17, hf, b.v19, b.v20, b.v21⟩
theorem RB.s19 {f : Nat → Int} (b : RB C A) (hf : ∀ j, 0 ≤ f j ∧ f j < 500) : RB C (up A 19 f) := ⟨b.c1, b.c2, b.c3, b.c4, b.c5, b.c6, b.v0, b.v1, b.v2, b.v3, b.v4, b.v5, b.v6, b.v7, b.v8, b.v9, b.v10, b.v11, b.v12, b.v13, b.v14, b.v16, b.v17, b.v18, hf, b.v20, b.v21⟩
theorem RB.s20 {f : Nat → Int} (b : RB C A) (hf : ∀ j, 0 ≤ f j ∧ f j < 500) : RB C (up A 20 f) := ⟨b.c1, b.c2, b.c3, b.c4, b.c5, b.c6, b.v0, b.v1, b.v2, b.v3, b.v4, b.v5, b.v6, b.v7, b.v8, b.v9, b.v10, b.v11, b.v12, b.v13, b.v14, b.v16, b.v17, b.v18, b.v19, hf, b.v21⟩
theorem RB.s21 {f : Nat → Int} (b : RB C A) (hf : ∀ j, 0 ≤ f j ∧ f j ≤ 500) : RB C (up A 21 f) := ⟨b.c1, b.c2, b.c3, b.c4, b.c5, b.c6, b.v0, b.v1, b.v2, b.v3, b.v4, b.v5, b.v6, b.v7, b.v8, b.v9, b.v10, b.v11, b.v12, b.v13, b.v14, b.v16, b.v17, b.v18, b.v19, b.v20, hf⟩
theorem RB.t0 {x : Int} {m : Nat} (b : RB C A) (hx : 0 ≤ x ∧ x < 6) : RB C (up A 0 (up (A 0) m x)) := b.s0 (fun j => by unfold up; split; exact hx; exact b.v0 j)
theorem RB.t1 {x : Int} {m : Nat} (b : RB C A) (hx : -1 ≤ x ∧ x < 500) : RB C (up A 1 (up (A 1) m x)) := b.s1 (fun j => by unfold up; split; exact hx; exact b.v1 j)
theorem RB.t2 {x : Int} {m : Nat} (b : RB C A) (hx : x = 0 ∨ x = 1) : RB C (up A 2 (up (A 2) m x)) := b.s2 (fun j => by unfold up; split; exact hx; exact b.v2 j)
theorem RB.t3 {x : Int} {m : Nat} (b : RB C A) (hx : 0 ≤ x ∧ x < 6) : RB C (up A 3 (up (A 3) m x)) := b.s3 (fun j => by unfold up; split; exact hx; exact b.v3 j)
theorem RB.t4 {x : Int} {m : Nat} (b : RB C A) (hx : 0 ≤ x ∧ x ≤ 3) : RB C (up A 4 (up (A 4) m x)) := b.s4 (fun j => by unfold up; split; exact hx; exact b.v4 j)
theorem RB.t5 {x : Int} {m : Nat} (b : RB C A) (hx : 0 ≤ x ∧ x ≤ 500) : RB C (up A 5 (up (A 5) m x)) := b.s5 (fun j => by unfold up; split; exact hx; exact b.v5 j)
theorem RB.t6 {x : Int} {m : Nat} (b : RB C A) (hx : 0 ≤ x ∧ x ≤ 500) : RB C (up A 6 (up (A 6) m x)) := b.s6 (fun j => by unfold up; split; exact hx; exact b.v6 j)
theorem RB.t7 {x : Int} {m : Nat} (b : RB C A) (hx : 0 ≤ x ∧ x ≤ 10) : RB C (up A 7 (up (A 7) m x)) := b.s7 (fun j => by unfold up; split; exact hx; exact b.v7 j)
theorem RB.t8 {x : Int} {m : Nat} (b : RB C A) (hx : 0 ≤ x ∧ x ≤ 10) : RB C (up A 8 (up (A 8) m x)) := b.s8 (fun j => by unfold up; split; exact hx; exact b.v8 j)
theorem RB.t9 {x : Int} {m : Nat} (b : RB C A) (hx : 0 ≤ x ∧ x < 500) : RB C (up A 9 (up (A 9) m x)) := b.s9 (fun j => by unfold up; split; exact hx; exact b.v9 j)
theorem RB.t10 {x : Int} {m : Nat} (b : RB C A) (hx : 0 ≤ x ∧ x < 200) : RB C (up A 10 (up (A 10) m x)) := b.s10 (fun j => by unfold up; split; exact hx; exact b.v10 j)
theorem RB.t11 {x : Int} {m : Nat} (b : RB C A) (hx : -1 ≤ x ∧ x ≤ 1) : RB C (up A 11 (up (A 11) m x)) := b.s11 (fun j => by unfold up; split; exact hx; exact b.v11 j)
theorem RB.t12 {x : Int} {m : Nat} (b : RB C A) (hx : inL (x)) : RB C (up A 12 (up (A 12) m x)) := b.s12 (fun j => by unfold up; split; exact hx; exact b.v12 j)
theorem RB.t13 {x : Int} {m : Nat} (b : RB C A) (hx : 0 ≤ x ∧ x ≤ 500) : RB C (up A 13 (up (A 13) m x)) := b.s13 (fun j => by unfold up; split; exact hx; exact b.v13 j)
theorem RB.t14 {x : Int} {m : Nat} (b : RB C A) (hx : 0 ≤ x ∧ x ≤ 500) : RB C (up A 14 (up (A 14) m x)) := b.s14 (fun j => by unfold up; split; exact hx; exact b.v14 j)
theorem RB.t16 {x : Int} {m : Nat} (b : RB C A) (hx : 0 ≤ x ∧ x < 6) : RB C (up A 16 (up (A 16) m x)) := b.s16 (fun j => by unfold up; split; exact hx; exact b.v16 j)
theorem RB.t17 {x : Int} {m : Nat} (b : RB C A) (hx : 0 ≤ x ∧ x < 6) : RB C (up A 17 (up (A 17) m x)) := b.s17 (fun j => by unfold up; split; exact hx; exact b.v17 j)
theorem RB.t18 {x : Int} {m : Nat} (b : RB C A) (hx : 0 ≤ x ∧ x ≤ 5) : RB C (up A 18 (up (A 18) m x)) := b.s18 (fun j => by unfold up; split; exact hx; exact b.v18 j)
theorem RB.t19 {x : Int} {m : Nat} (b : RB C A) (hx : 0 ≤ x ∧ x < 500) : RB C (up A 19 (up (A 19) m x)) := b.s19 (fun j => by unfold up; split; exact hx; exact b.v19 j)
theorem RB.t20 {x : Int} {m : Nat} (b : RB C A) (hx : 0 ≤ x ∧ x < 500) : RB C (up A 20 (up (A 20) m x)) := b.s20 (fun j => by unfold up; split; exact hx; exact b.v20 j)
theorem RB.t21 {x : Int} {m : Nat} (b : RB C A) (hx : 0 ≤ x ∧ x ≤ 500) : RB C (up A 21 (up (A 21) m x)) := b.s21 (fun j => by unfold up; split; exact hx; exact b.v21 j)
theorem RB.s15 {f : Nat → Int} (b : RB C A) : RB C (up A 15 f) := b
end Rows3
section M3
variable {am : Nat} {ad : Nat → Nat} {C : Nat → Int} {A : Nat → Nat → Int} {h : AH} {Q : AR → AH → Prop}
abbrev badP (C : Nat → Int) (A : Nat → Nat → Int) (t o : Int) (s : Bool) : Prop := ¬ (0 ≤ t ∧ t < C 3) ∨ ¬ (0 ≤ o ∧ o < C 2) ∨ ¬ A 2 o.toNat = bI s
abbrev refP (C : Nat → Int) (A : Nat → Nat → Int) (t : Int) : Prop := (0 ≤ t ∧ t < C 3) ∧ ¬ A 4 t.toNat = 0
/-- the last op of t at o, among the first k -/
def lst (A : Nat → Nat → Int) (t o : Nat) : Nat → Int
  | 0 => 0
  | k + 1 => if A 9 k = t ∧ A 10 k = o then A 12 k else lst A t o k
theorem lp_lastOf (M : MP am ad C A h) (b : RB C A) {t o : Nat} (ht : t < 500) (ho : o < 200) (k : Q (.inl (some (aL (lst A t o (C 4).toNat)))) h) : ∀ n j : Nat, j + n = (C 4).toNat → Rn 113 5 [some (aR am), some (aI t), some (aI o), some (aL (lst A t o j)), none, some (aI j)] [] h Q := by
  intro n
  induction n using Nat.strongRecOn with | ind n ih => ?_
  intro j hj
  refine x_iload k_113_5 rfl ?_
  refine x_aload_n k_113_7 rfl ?_
  refine x_get k_113_8 M.1 rfl ?_
  have f8 := b.c4
  refine x_icmpge (t := 50) k_113_11 rfl (by show inR ((j : Int)) ∧ inR (C 4); omega) (fun hb => ?_) (fun hb => ?_)
  · have c11 : C 4 ≤ (j : Int) := hb
    refine x_lload_n k_113_50 rfl ?_
    refine x_lreturn k_113_51 ?_
    have e : (C 4).toNat = j := by omega
    rw [e] at k
    exact k
  · have c11 : ¬ (C 4 ≤ (j : Int)) := hb
    refine x_aload_n k_113_14 rfl ?_
    refine x_get k_113_15 M.1 rfl ?_
    refine x_iload k_113_18 rfl ?_
    refine y_iaload (m := j) k_113_20 M.a9 (Or.inl rfl) rfl (by omega) ?_
    have f20 := b.v9 (j)
    refine x_iload_n k_113_21 rfl ?_
    refine x_icmpne (t := 44) k_113_22 rfl (by show inR (A 9 j) ∧ inR ((t : Int)); omega) (fun hb => ?_) (fun hb => ?_)
    · have c22 : ¬ A 9 j = (t : Int) := hb
      refine x_inc5 k_113_44 rfl ?_
      refine x_goto (t := 5) k_113_47 rfl ?_
      rw [show lst A t o j = lst A t o (j + 1) by simp only [lst]; rw [if_neg (by omega)]]
      exact ih (n - 1) (by omega) (j + 1) (by omega)
    · have c22 : ¬ (¬ A 9 j = (t : Int)) := hb
      refine x_aload_n k_113_25 rfl ?_
      refine x_get k_113_26 M.1 rfl ?_
      refine x_iload k_113_29 rfl ?_
      refine y_iaload (m := j) k_113_31 M.a10 (Or.inl rfl) rfl (by omega) ?_
      have f31 := b.v10 (j)
      refine x_iload_n k_113_32 rfl ?_
      refine x_icmpne (t := 44) k_113_33 rfl (by show inR (A 10 j) ∧ inR ((o : Int)); omega) (fun hb => ?_) (fun hb => ?_)
      · have c33 : ¬ A 10 j = (o : Int) := hb
        refine x_inc5 k_113_44 rfl ?_
        refine x_goto (t := 5) k_113_47 rfl ?_
        rw [show lst A t o j = lst A t o (j + 1) by simp only [lst]; rw [if_neg (by omega)]]
        exact ih (n - 1) (by omega) (j + 1) (by omega)
      · have c33 : ¬ (¬ A 10 j = (o : Int)) := hb
        refine x_aload_n k_113_36 rfl ?_
        refine x_get k_113_37 M.1 rfl ?_
        refine x_iload k_113_40 rfl ?_
        refine y_laload (m := j) k_113_42 M.a12 rfl (by omega) ?_
        have f42 := b.v12 (j)
        refine x_ls3n k_113_43 rfl ?_
        refine x_inc5 k_113_44 rfl ?_
        refine x_goto (t := 5) k_113_47 rfl ?_
        rw [show A 12 j = lst A t o (j + 1) by simp only [lst]; rw [if_pos ⟨by omega, by omega⟩]]
        exact ih (n - 1) (by omega) (j + 1) (by omega)
theorem r_lastOf (M : MP am ad C A h) (b : RB C A) {t o : Nat} (ht : t < 500) (ho : o < 200) (k : Q (.inl (some (aL (lst A t o (C 4).toNat)))) h) : Rn 113 0 (entL 113 [aR am, aI t, aI o]) [] h Q := by
  show Rn 113 0 [some (aR am), some (aI t), some (aI o), none, none, none] [] h Q
  refine x_lconst k_113_0 ?_
  refine x_ls3n k_113_1 rfl ?_
  refine x_iconst k_113_2 ?_
  refine x_is5 k_113_3 rfl ?_
  exact lp_lastOf M b ht ho k (C 4).toNat 0 (by omega)
/-- one more op -/
def didC (C : Nat → Int) : Nat → Int := up C 4 (C 4 + 1)
def didA (C : Nat → Int) (A : Nat → Nat → Int) (t o v s : Int) : Nat → Nat → Int := up (up (up (up A 9 (up (A 9) (C 4).toNat t)) 10 (up (A 10) (C 4).toNat o)) 12 (up (A 12) (C 4).toNat v)) 11 (up (A 11) (C 4).toNat s)
theorem r_did (M : MP am ad C A h) (b : RB C A) {t o v s : Int} (k : ∀ h', MP am ad (didC C) (didA C A t o v s) h' → Mv am ad h h' → Q (.inl none) h') : Rn 116 0 (entL 116 [aR am, aI t, aI o, aL v, aI s]) [] h Q := by
  show Rn 116 0 [some (aR am), some (aI t), some (aI o), some (aL v), none, some (aI s)] [] h Q
  have V : Mv am ad h h := Mv.rf
  refine x_aload_n k_116_0 rfl ?_
  refine x_get k_116_1 M.1 rfl ?_
  refine x_aload_n k_116_4 rfl ?_
  refine x_get k_116_5 M.1 rfl ?_
  have f5 := b.c4
  refine x_iload_n k_116_8 rfl ?_
  refine y_iastore (m := (C 4).toNat) k_116_9 M.a9 (by omega) (by omega) ?_
  refine mgo (M.s9 _) (V.tr (Mv.ma (Nat.le_of_ble_eq_true rfl))) (fun h M V => ?_)
  obtain ⟨A9, eA9⟩ : ∃ B, B = up A 9 (up (A 9) ((C 4).toNat) (t)) := ⟨_, rfl⟩
  have M : MP am ad C A9 h := by rw [eA9]; exact M
  refine x_aload_n k_116_10 rfl ?_
  refine x_get k_116_11 M.1 rfl ?_
  refine x_aload_n k_116_14 rfl ?_
  refine x_get k_116_15 M.1 rfl ?_
  have f15 := b.c4
  refine x_iload_n k_116_18 rfl ?_
  refine y_iastore (m := (C 4).toNat) k_116_19 M.a10 (by omega) (by omega) ?_
  refine mgo (M.s10 _) (V.tr (Mv.ma (Nat.le_of_ble_eq_true rfl))) (fun h M V => ?_)
  obtain ⟨A19, eA19⟩ : ∃ B, B = up A9 10 (up (A9 10) ((C 4).toNat) (o)) := ⟨_, rfl⟩
  have M : MP am ad C A19 h := by rw [eA19]; exact M
  refine x_aload_n k_116_20 rfl ?_
  refine x_get k_116_21 M.1 rfl ?_
  refine x_aload_n k_116_24 rfl ?_
  refine x_get k_116_25 M.1 rfl ?_
  have f25 := b.c4
  refine x_lload_n k_116_28 rfl ?_
  refine y_lastore (m := (C 4).toNat) k_116_29 M.a12 (by omega) (by omega) ?_
  refine mgo (M.s12 _) (V.tr (Mv.ma (Nat.le_of_ble_eq_true rfl))) (fun h M V => ?_)
  obtain ⟨A29, eA29⟩ : ∃ B, B = up A19 12 (up (A19 12) ((C 4).toNat) (v)) := ⟨_, rfl⟩
  have M : MP am ad C A29 h := by rw [eA29]; exact M
  refine x_aload_n k_116_30 rfl ?_
  refine x_get k_116_31 M.1 rfl ?_
  refine x_aload_n k_116_34 rfl ?_
  refine x_get k_116_35 M.1 rfl ?_
  have f35 := b.c4
  refine x_iload k_116_38 rfl ?_
  refine y_iastore (m := (C 4).toNat) k_116_40 M.a11 (by omega) (by omega) ?_
  refine mgo (M.s11 _) (V.tr (Mv.ma (Nat.le_of_ble_eq_true rfl))) (fun h M V => ?_)
  obtain ⟨A40, eA40⟩ : ∃ B, B = up A29 11 (up (A29 11) ((C 4).toNat) (s)) := ⟨_, rfl⟩
  have M : MP am ad C A40 h := by rw [eA40]; exact M
  refine x_aload_n k_116_41 rfl ?_
  refine x_dup k_116_42 rfl ?_
  refine x_get k_116_43 M.1 rfl ?_
  have f43 := b.c4
  refine x_iconst k_116_46 ?_
  refine x_iadd k_116_47 ?_
  refine x_put k_116_48 M.1 (Nat.le_of_ble_eq_true rfl) rfl ?_
  refine mgo (M.c4 _) (V.tr Mv.mo) (fun h M V => ?_)
  obtain ⟨C48, eC48⟩ : ∃ B, B = up C 4 ((C 4 + 1)) := ⟨_, rfl⟩
  have M : MP am ad C48 A40 h := by rw [eC48]; exact M
  refine x_return k_116_51 ?_
  refine k h ?_ V
  subst eA40
  subst eA29
  subst eA19
  subst eA9
  subst eC48
  exact M
theorem r_isWrong (M : MP am ad C A h) (b : RB C A) {t o : Int} {s : Bool} (ht : inR t) (ho : inR o) (k : ∀ h', MP am ad (up C 0 (wcd (decide (badP C A t o s)) (decide (refP C A t)))) A h' → Mv am ad h h' → Q (.inl (some (aI (bI (decide (wcd (decide (badP C A t o s)) (decide (refP C A t)) ≠ 0)))))) h') : Rn 109 0 (entL 109 [aR am, aI t, aI o, aI (bI s)]) [] h Q := by
  show Rn 109 0 [some (aR am), some (aI t), some (aI o), some (aI (bI s))] [] h Q
  have c2 := b.c2
  have c3 := b.c3
  have bs := bI_01 s
  have J54 : ∀ y : Int, y = bI (decide (refP C A t)) → Rn 109 54 [some (aR am), some (aI t), some (aI o), some (aI (bI s))] [aI y, aI (bI (decide (badP C A t o s))), aR am] h Q := by
    intro y hy
    subst hy
    refine x_call3 k_109_54 (Nat.le_of_ble_eq_true rfl) (rcv_1 M.1) (Nat.le_of_ble_eq_true rfl) ?_
    refine r_fails M (fun h' M' V' => bh_1 ?_)
    refine x_zreturn k_109_57 rfl (bI_01 _) ?_
    exact k h' M' V'
  have J32 : ∀ x : Int, x = bI (decide (badP C A t o s)) → Rn 109 32 [some (aR am), some (aI t), some (aI o), some (aI (bI s))] [aI x, aR am] h Q := by
    intro x hx
    subst hx
    refine x_aload_n k_109_32 rfl ?_
    refine x_iload_n k_109_33 rfl ?_
    refine x_call2 k_109_34 (Nat.le_of_ble_eq_true rfl) (rcv_1 M.1) (Nat.le_of_ble_eq_true rfl) ?_
    refine r_isTran M (by omega) (by omega) (bh_1 ?_)
    refine x_ifeq_p (t := 53) k_109_37 rfl (fun c37 => ?_) (fun c37 => ?_)
    · refine x_iconst k_109_53 ?_
      exact J54 0 (bI_0 (by unfold refP; omega))
    · refine x_aload_n k_109_40 rfl ?_
      refine x_get k_109_41 M.1 rfl ?_
      refine x_iload_n k_109_44 rfl ?_
      refine y_iaload (m := t.toNat) k_109_45 M.a4 (Or.inl rfl) (by omega) (by omega) ?_
      have f45 := b.v4 (t.toNat)
      refine x_ifeq (t := 53) k_109_46 rfl (by show inR (A 4 (t.toNat)); omega) (fun hb => ?_) (fun hb => ?_)
      · have c46 : A 4 (t.toNat) = 0 := hb
        refine x_iconst k_109_53 ?_
        exact J54 0 (bI_0 (by unfold refP; omega))
      · have c46 : ¬ (A 4 (t.toNat) = 0) := hb
        refine x_iconst k_109_49 ?_
        refine x_goto (t := 54) k_109_50 rfl ?_
        exact J54 1 (bI_1 (by unfold refP; omega))
  refine x_aload_n k_109_0 rfl ?_
  refine x_aload_n k_109_1 rfl ?_
  refine x_iload_n k_109_2 rfl ?_
  refine x_call2 k_109_3 (Nat.le_of_ble_eq_true rfl) (rcv_1 M.1) (Nat.le_of_ble_eq_true rfl) ?_
  refine r_isTran M (by omega) (by omega) (bh_1 ?_)
  refine x_ifeq_p (t := 27) k_109_6 rfl (fun c6 => ?_) (fun c6 => ?_)
  · refine x_iconst k_109_27 ?_
    refine x_goto (t := 32) k_109_28 rfl ?_
    exact J32 1 (bI_1 (by unfold badP; omega))
  · refine x_aload_n k_109_9 rfl ?_
    refine x_iload_n k_109_10 rfl ?_
    refine x_call2 k_109_11 (Nat.le_of_ble_eq_true rfl) (rcv_1 M.1) (Nat.le_of_ble_eq_true rfl) ?_
    refine r_isObject M (by omega) (by omega) (bh_1 ?_)
    refine x_ifeq_p (t := 27) k_109_14 rfl (fun c14 => ?_) (fun c14 => ?_)
    · refine x_iconst k_109_27 ?_
      refine x_goto (t := 32) k_109_28 rfl ?_
      exact J32 1 (bI_1 (by unfold badP; omega))
    · refine x_aload_n k_109_17 rfl ?_
      refine x_get k_109_18 M.1 rfl ?_
      refine x_iload_n k_109_21 rfl ?_
      refine y_baload (m := o.toNat) k_109_22 M.a2 (by omega) (by omega) ?_
      have f22 := b.v2 (o.toNat)
      refine x_iload_n k_109_23 rfl ?_
      refine x_icmpeq (t := 31) k_109_24 rfl (by show inR (A 2 (o.toNat)) ∧ inR (bI (s)); omega) (fun hb => ?_) (fun hb => ?_)
      · have c24 : A 2 (o.toNat) = bI (s) := hb
        refine x_iconst k_109_31 ?_
        exact J32 0 (bI_0 (by unfold badP; omega))
      · have c24 : ¬ (A 2 (o.toNat) = bI (s)) := hb
        refine x_iconst k_109_27 ?_
        refine x_goto (t := 32) k_109_28 rfl ?_
        exact J32 1 (bI_1 (by unfold badP; omega))
end M3
end
section
section M4
variable {am : Nat} {ad : Nat → Nat} {C : Nat → Int} {A : Nat → Nat → Int} {h : AH} {Q : AR → AH → Prop}
theorem wcd_z {P R : Prop} [Decidable P] [Decidable R] (q : ¬ wcd (decide P) (decide R) ≠ 0) : wcd (decide P) (decide R) = 0 ∧ ¬ P ∧ ¬ R := by
  have q : wcd (decide P) (decide R) = 0 := Decidable.not_not.mp q
  refine ⟨q, fun p => ?_, fun r => ?_⟩
  · simp [wcd, p] at q
  · by_cases p : P <;> simp [wcd, p, r] at q
theorem wcd_1 {P R : Prop} [Decidable P] [Decidable R] (p : P) : wcd (decide P) (decide R) = 1 := by simp [wcd, p]
theorem wcd_2 {P R : Prop} [Decidable P] [Decidable R] (p : ¬ P) (r : R) : wcd (decide P) (decide R) = 2 := by simp [wcd, p, r]
theorem wcd_0 {P R : Prop} [Decidable P] [Decidable R] (p : ¬ P) (r : ¬ R) : wcd (decide P) (decide R) = 0 := by simp [wcd, p, r]
theorem r_sites (M : MP am ad C A h) (b : RB C A) {n : Int} (hn : inR n) (kf : ∀ h', wcd (decide (n < 1 ∨ 6 < n)) (decide (0 < C 1)) ≠ 0 → MP am ad (up C 0 (wcd (decide (n < 1 ∨ 6 < n)) (decide (0 < C 1)))) A h' → Mv am ad h h' → Q (.inl none) h') (k0 : ∀ h', (¬ (n < 1 ∨ 6 < n) ∧ ¬ 0 < C 1) → MP am ad (up (up C 0 0) 1 n) A h' → Mv am ad h h' → Q (.inl none) h') : Rn 103 0 (entL 103 [aR am, aI n]) [] h Q := by
  show Rn 103 0 [some (aR am), some (aI (n))] [] h Q
  have b1 := b.c1
  have b2 := b.c2
  have b3 := b.c3
  have J : ∀ x y : Int, x = bI (decide (n < 1 ∨ 6 < n)) → y = bI (decide (0 < C 1)) → Rn 103 29 [some (aR am), some (aI (n))] [aI y, aI x, aR am] h Q := by
    intro x y hx hy
    subst hx hy
    refine x_call3 k_103_29 (Nat.le_of_ble_eq_true rfl) (rcv_1 M.1) (Nat.le_of_ble_eq_true rfl) ?_
    refine r_fails M (fun h M V => bh_1 ?_)
    refine x_ifeq_p (t := 36) k_103_32 rfl (fun cF => ?_) (fun cF => ?_)
    · have cG := wcd_z cF
      have M : MP am ad (up C 0 0) A h := by rw [← cG.1]; exact M
      refine x_aload_n k_103_36 rfl ?_
      refine x_iload_n k_103_37 rfl ?_
      refine x_put k_103_38 M.1 (Nat.le_of_ble_eq_true rfl) rfl ?_
      refine mgo (M.c1 _) (V.tr Mv.mo) (fun h M V => ?_)
      refine x_return k_103_41 ?_
      exact k0 h cG.2 M V
    · refine x_return k_103_35 ?_
      exact kf h cF M V
  refine x_aload_n k_103_0 rfl ?_
  refine x_iload_n k_103_1 rfl ?_
  refine x_iconst k_103_2 ?_
  refine x_icmplt (t := 12) k_103_3 rfl (by show inR (n) ∧ inR (1); omega) (fun hb => ?_) (fun hb => ?_)
  · have c3 : n < 1 := hb
    refine x_iconst k_103_12 ?_
    refine x_goto (t := 17) k_103_13 rfl ?_
    refine x_aload_n k_103_17 rfl ?_
    refine x_get k_103_18 M.1 rfl ?_
    have f18 := b.c1
    refine x_ifle (t := 28) k_103_21 rfl (by show inR (C 1); omega) (fun hb => ?_) (fun hb => ?_)
    · have c21 : C 1 ≤ 0 := hb
      refine x_iconst k_103_28 ?_
      exact J 1 0 (bI_1 (by omega)) (bI_0 (by first | omega | exact id))
    · have c21 : ¬ (C 1 ≤ 0) := hb
      refine x_iconst k_103_24 ?_
      refine x_goto (t := 29) k_103_25 rfl ?_
      exact J 1 1 (bI_1 (by omega)) (bI_1 (by omega))
  · have c3 : ¬ (n < 1) := hb
    refine x_iload_n k_103_6 rfl ?_
    refine x_bipush k_103_7 ?_
    refine x_icmple (t := 16) k_103_9 rfl (by show inR (n) ∧ inR (6); omega) (fun hb => ?_) (fun hb => ?_)
    · have c9 : n ≤ 6 := hb
      refine x_iconst k_103_16 ?_
      refine x_aload_n k_103_17 rfl ?_
      refine x_get k_103_18 M.1 rfl ?_
      have f18 := b.c1
      refine x_ifle (t := 28) k_103_21 rfl (by show inR (C 1); omega) (fun hb => ?_) (fun hb => ?_)
      · have c21 : C 1 ≤ 0 := hb
        refine x_iconst k_103_28 ?_
        exact J 0 0 (bI_0 (by first | omega | exact id)) (bI_0 (by first | omega | exact id))
      · have c21 : ¬ (C 1 ≤ 0) := hb
        refine x_iconst k_103_24 ?_
        refine x_goto (t := 29) k_103_25 rfl ?_
        exact J 0 1 (bI_0 (by first | omega | exact id)) (bI_1 (by omega))
    · have c9 : ¬ (n ≤ 6) := hb
      refine x_iconst k_103_12 ?_
      refine x_goto (t := 17) k_103_13 rfl ?_
      refine x_aload_n k_103_17 rfl ?_
      refine x_get k_103_18 M.1 rfl ?_
      have f18 := b.c1
      refine x_ifle (t := 28) k_103_21 rfl (by show inR (C 1); omega) (fun hb => ?_) (fun hb => ?_)
      · have c21 : C 1 ≤ 0 := hb
        refine x_iconst k_103_28 ?_
        exact J 1 0 (bI_1 (by omega)) (bI_0 (by first | omega | exact id))
      · have c21 : ¬ (C 1 ≤ 0) := hb
        refine x_iconst k_103_24 ?_
        refine x_goto (t := 29) k_103_25 rfl ?_
        exact J 1 1 (bI_1 (by omega)) (bI_1 (by omega))
theorem r_object (M : MP am ad C A h) (b : RB C A) {s : Int} {w : Bool} (hs : inR s) (kf : ∀ h', wcd (decide (¬ (0 ≤ s ∧ s < C 1))) (decide (C 2 = 200)) ≠ 0 → MP am ad (up C 0 (wcd (decide (¬ (0 ≤ s ∧ s < C 1))) (decide (C 2 = 200)))) A h' → Mv am ad h h' → Q (.inl (some (aI 0))) h') (k0 : ∀ h', (¬ ¬ (0 ≤ s ∧ s < C 1) ∧ ¬ C 2 = 200) → MP am ad (up (up C 0 0) 2 (C 2 + 1)) (up (up (up A 0 (up (A 0) (C 2).toNat s)) 2 (up (A 2) (C 2).toNat (bI w))) 1 (up (A 1) (C 2).toNat (-1))) h' → Mv am ad h h' → Q (.inl (some (aI (C 2)))) h') : Rn 105 0 (entL 105 [aR am, aI s, aI (bI w)]) [] h Q := by
  show Rn 105 0 [some (aR am), some (aI (s)), some (aI (bI (w)))] [] h Q
  have b1 := b.c1
  have b2 := b.c2
  have b3 := b.c3
  have J : ∀ x y : Int, x = bI (decide (¬ (0 ≤ s ∧ s < C 1))) → y = bI (decide (C 2 = 200)) → Rn 105 29 [some (aR am), some (aI (s)), some (aI (bI (w)))] [aI y, aI x, aR am] h Q := by
    intro x y hx hy
    subst hx hy
    refine x_call3 k_105_29 (Nat.le_of_ble_eq_true rfl) (rcv_1 M.1) (Nat.le_of_ble_eq_true rfl) ?_
    refine r_fails M (fun h M V => bh_1 ?_)
    refine x_ifeq_p (t := 37) k_105_32 rfl (fun cF => ?_) (fun cF => ?_)
    · have cG := wcd_z cF
      have M : MP am ad (up C 0 0) A h := by rw [← cG.1]; exact M
      refine x_aload_n k_105_37 rfl ?_
      refine x_get k_105_38 M.1 rfl ?_
      refine x_aload_n k_105_41 rfl ?_
      refine x_get k_105_42 M.1 rfl ?_
      have f42 := b.c2
      refine x_iload_n k_105_45 rfl ?_
      refine y_iastore (m := (C 2).toNat) k_105_46 M.a0 (show C 2 = (((C 2).toNat : Nat) : Int) by omega) (by omega) ?_
      refine mgo (M.s0 _) (V.tr (Mv.ma (Nat.le_of_ble_eq_true rfl))) (fun h M V => ?_)
      refine x_aload_n k_105_47 rfl ?_
      refine x_get k_105_48 M.1 rfl ?_
      refine x_aload_n k_105_51 rfl ?_
      refine x_get k_105_52 M.1 rfl ?_
      have f52 := b.c2
      refine x_iload_n k_105_55 rfl ?_
      refine y_bastore (m := (C 2).toNat) k_105_56 M.a2 (bI_01 w) (show C 2 = (((C 2).toNat : Nat) : Int) by omega) (by omega) ?_
      refine mgo (M.s2 _) (V.tr (Mv.ma (Nat.le_of_ble_eq_true rfl))) (fun h M V => ?_)
      refine x_aload_n k_105_57 rfl ?_
      refine x_get k_105_58 M.1 rfl ?_
      refine x_aload_n k_105_61 rfl ?_
      refine x_get k_105_62 M.1 rfl ?_
      have f62 := b.c2
      refine x_iconst k_105_65 ?_
      refine y_iastore (m := (C 2).toNat) k_105_66 M.a1 (show C 2 = (((C 2).toNat : Nat) : Int) by omega) (by omega) ?_
      refine mgo (M.s1 _) (V.tr (Mv.ma (Nat.le_of_ble_eq_true rfl))) (fun h M V => ?_)
      refine x_aload_n k_105_67 rfl ?_
      refine x_dup k_105_68 rfl ?_
      refine x_get k_105_69 M.1 rfl ?_
      have f69 := b.c2
      refine x_iconst k_105_72 ?_
      refine x_iadd k_105_73 ?_
      refine x_put k_105_74 M.1 (Nat.le_of_ble_eq_true rfl) rfl ?_
      refine mgo (M.c2 _) (V.tr Mv.mo) (fun h M V => ?_)
      refine x_aload_n k_105_77 rfl ?_
      refine x_get k_105_78 M.1 rfl ?_
      refine x_iconst k_105_81 ?_
      refine x_isub k_105_82 ?_
      refine x_top (show ((C 2 + 1) - 1) = C 2 by omega) ?_
      refine x_ireturn k_105_83 rfl ?_
      exact k0 h cG.2 M V
    · refine x_iconst k_105_35 ?_
      refine x_ireturn k_105_36 rfl ?_
      exact kf h cF M V
  refine x_aload_n k_105_0 rfl ?_
  refine x_aload_n k_105_1 rfl ?_
  refine x_iload_n k_105_2 rfl ?_
  refine x_call2 k_105_3 (Nat.le_of_ble_eq_true rfl) (rcv_1 M.1) (Nat.le_of_ble_eq_true rfl) ?_
  refine r_isSite M (by omega) (by omega) (bh_1 ?_)
  refine x_ifne_p (t := 13) k_105_6 rfl (fun c6 => ?_) (fun c6 => ?_)
  · refine x_iconst k_105_13 ?_
    refine x_aload_n k_105_14 rfl ?_
    refine x_get k_105_15 M.1 rfl ?_
    have f15 := b.c2
    refine x_sipush k_105_18 ?_
    refine x_icmpne (t := 28) k_105_21 rfl (by show inR (C 2) ∧ inR (200); omega) (fun hb => ?_) (fun hb => ?_)
    · have c21 : ¬ C 2 = 200 := hb
      refine x_iconst k_105_28 ?_
      exact J 0 0 (bI_0 (by first | omega | exact id)) (bI_0 (by first | omega | exact id))
    · have c21 : ¬ (¬ C 2 = 200) := hb
      refine x_iconst k_105_24 ?_
      refine x_goto (t := 29) k_105_25 rfl ?_
      exact J 0 1 (bI_0 (by first | omega | exact id)) (bI_1 (by omega))
  · refine x_iconst k_105_9 ?_
    refine x_goto (t := 14) k_105_10 rfl ?_
    refine x_aload_n k_105_14 rfl ?_
    refine x_get k_105_15 M.1 rfl ?_
    have f15 := b.c2
    refine x_sipush k_105_18 ?_
    refine x_icmpne (t := 28) k_105_21 rfl (by show inR (C 2) ∧ inR (200); omega) (fun hb => ?_) (fun hb => ?_)
    · have c21 : ¬ C 2 = 200 := hb
      refine x_iconst k_105_28 ?_
      exact J 1 0 (bI_1 (by omega)) (bI_0 (by first | omega | exact id))
    · have c21 : ¬ (¬ C 2 = 200) := hb
      refine x_iconst k_105_24 ?_
      refine x_goto (t := 29) k_105_25 rfl ?_
      exact J 1 1 (bI_1 (by omega)) (bI_1 (by omega))
theorem r_seen (M : MP am ad C A h) (b : RB C A) {s u : Int} (hs : inR s) (hu : inR u) (kf : ∀ h', wcd (decide (¬ ((0 ≤ s ∧ s < C 1) ∧ (0 ≤ u ∧ u < C 1)))) (decide (False)) ≠ 0 → MP am ad (up C 0 (wcd (decide (¬ ((0 ≤ s ∧ s < C 1) ∧ (0 ≤ u ∧ u < C 1)))) (decide (False)))) A h' → Mv am ad h h' → Q (.inl (some (aI 0))) h') (k0 : ∀ h', (¬ ¬ ((0 ≤ s ∧ s < C 1) ∧ (0 ≤ u ∧ u < C 1)) ∧ ¬ False) → MP am ad (up C 0 0) A h' → Mv am ad h h' → Q (.inl (some (aI (A 13 (6 * s.toNat + u.toNat))))) h') : Rn 136 0 (entL 136 [aR am, aI s, aI u]) [] h Q := by
  show Rn 136 0 [some (aR am), some (aI (s)), some (aI (u))] [] h Q
  have b1 := b.c1
  have b2 := b.c2
  have b3 := b.c3
  have J : ∀ x y : Int, x = bI (decide (¬ ((0 ≤ s ∧ s < C 1) ∧ (0 ≤ u ∧ u < C 1)))) → y = bI (decide (False)) → Rn 136 23 [some (aR am), some (aI (s)), some (aI (u))] [aI y, aI x, aR am] h Q := by
    intro x y hx hy
    subst hx hy
    refine x_call3 k_136_23 (Nat.le_of_ble_eq_true rfl) (rcv_1 M.1) (Nat.le_of_ble_eq_true rfl) ?_
    refine r_fails M (fun h M V => bh_1 ?_)
    refine x_ifeq_p (t := 33) k_136_26 rfl (fun cF => ?_) (fun cF => ?_)
    · have cG := wcd_z cF
      have M : MP am ad (up C 0 0) A h := by rw [← cG.1]; exact M
      refine x_aload_n k_136_33 rfl ?_
      refine x_get k_136_34 M.1 rfl ?_
      refine x_bipush k_136_37 ?_
      refine x_iload_n k_136_39 rfl ?_
      refine x_imul k_136_40 ?_
      refine x_iload_n k_136_41 rfl ?_
      refine x_iadd k_136_42 ?_
      refine y_iaload (m := 6 * s.toNat + u.toNat) k_136_43 M.a13 (Or.inl rfl) (show ((6 * s) + u) = ((6 * s.toNat + u.toNat : Nat) : Int) by omega) (by omega) ?_
      have f43 := b.v13 (6 * s.toNat + u.toNat)
      refine x_ireturn k_136_44 rfl ?_
      exact k0 h cG.2 M V
    · refine x_iconst k_136_29 ?_
      refine x_goto (t := 44) k_136_30 rfl ?_
      refine x_ireturn k_136_44 rfl ?_
      exact kf h cF M V
  refine x_aload_n k_136_0 rfl ?_
  refine x_aload_n k_136_1 rfl ?_
  refine x_iload_n k_136_2 rfl ?_
  refine x_call2 k_136_3 (Nat.le_of_ble_eq_true rfl) (rcv_1 M.1) (Nat.le_of_ble_eq_true rfl) ?_
  refine r_isSite M (by omega) (by omega) (bh_1 ?_)
  refine x_ifeq_p (t := 17) k_136_6 rfl (fun c6 => ?_) (fun c6 => ?_)
  · refine x_iconst k_136_17 ?_
    refine x_goto (t := 22) k_136_18 rfl ?_
    refine x_iconst k_136_22 ?_
    exact J 1 0 (bI_1 (by omega)) (bI_0 (by first | omega | exact id))
  · refine x_aload_n k_136_9 rfl ?_
    refine x_iload_n k_136_10 rfl ?_
    refine x_call2 k_136_11 (Nat.le_of_ble_eq_true rfl) (rcv_1 M.1) (Nat.le_of_ble_eq_true rfl) ?_
    refine r_isSite M (by omega) (by omega) (bh_1 ?_)
    refine x_ifne_p (t := 21) k_136_14 rfl (fun c14 => ?_) (fun c14 => ?_)
    · refine x_iconst k_136_21 ?_
      refine x_iconst k_136_22 ?_
      exact J 0 0 (bI_0 (by first | omega | exact id)) (bI_0 (by first | omega | exact id))
    · refine x_iconst k_136_17 ?_
      refine x_goto (t := 22) k_136_18 rfl ?_
      refine x_iconst k_136_22 ?_
      exact J 1 0 (bI_1 (by omega)) (bI_0 (by first | omega | exact id))
theorem r_locked (M : MP am ad C A h) (b : RB C A) {u : Int} (hu : inR u) (kf : ∀ h', wcd (decide (¬ (0 ≤ u ∧ u < C 2))) (decide (False)) ≠ 0 → MP am ad (up C 0 (wcd (decide (¬ (0 ≤ u ∧ u < C 2))) (decide (False)))) A h' → Mv am ad h h' → Q (.inl (some (aI 0))) h') (k0 : ∀ h', (¬ ¬ (0 ≤ u ∧ u < C 2) ∧ ¬ False) → MP am ad (up C 0 0) A h' → Mv am ad h h' → Q (.inl (some (aI (A 1 u.toNat)))) h') : Rn 138 0 (entL 138 [aR am, aI u]) [] h Q := by
  show Rn 138 0 [some (aR am), some (aI (u))] [] h Q
  have b1 := b.c1
  have b2 := b.c2
  have b3 := b.c3
  have J : ∀ x y : Int, x = bI (decide (¬ (0 ≤ u ∧ u < C 2))) → y = bI (decide (False)) → Rn 138 15 [some (aR am), some (aI (u))] [aI y, aI x, aR am] h Q := by
    intro x y hx hy
    subst hx hy
    refine x_call3 k_138_15 (Nat.le_of_ble_eq_true rfl) (rcv_1 M.1) (Nat.le_of_ble_eq_true rfl) ?_
    refine r_fails M (fun h M V => bh_1 ?_)
    refine x_ifeq_p (t := 25) k_138_18 rfl (fun cF => ?_) (fun cF => ?_)
    · have cG := wcd_z cF
      have M : MP am ad (up C 0 0) A h := by rw [← cG.1]; exact M
      refine x_aload_n k_138_25 rfl ?_
      refine x_get k_138_26 M.1 rfl ?_
      refine x_iload_n k_138_29 rfl ?_
      refine y_iaload (m := u.toNat) k_138_30 M.a1 (Or.inl rfl) (show u = ((u.toNat : Nat) : Int) by omega) (by omega) ?_
      have f30 := b.v1 (u.toNat)
      refine x_ireturn k_138_31 rfl ?_
      exact k0 h cG.2 M V
    · refine x_iconst k_138_21 ?_
      refine x_goto (t := 31) k_138_22 rfl ?_
      refine x_ireturn k_138_31 rfl ?_
      exact kf h cF M V
  refine x_aload_n k_138_0 rfl ?_
  refine x_aload_n k_138_1 rfl ?_
  refine x_iload_n k_138_2 rfl ?_
  refine x_call2 k_138_3 (Nat.le_of_ble_eq_true rfl) (rcv_1 M.1) (Nat.le_of_ble_eq_true rfl) ?_
  refine r_isObject M (by omega) (by omega) (bh_1 ?_)
  refine x_ifne_p (t := 13) k_138_6 rfl (fun c6 => ?_) (fun c6 => ?_)
  · refine x_iconst k_138_13 ?_
    refine x_iconst k_138_14 ?_
    exact J 0 0 (bI_0 (by first | omega | exact id)) (bI_0 (by first | omega | exact id))
  · refine x_iconst k_138_9 ?_
    refine x_goto (t := 14) k_138_10 rfl ?_
    refine x_iconst k_138_14 ?_
    exact J 1 0 (bI_1 (by omega)) (bI_0 (by first | omega | exact id))
theorem r_abort (M : MP am ad C A h) (b : RB C A) {t : Int} (ht : inR t) (kf : ∀ h', wcd (decide (¬ (0 ≤ t ∧ t < C 3))) (decide ((0 ≤ t ∧ t < C 3) ∧ ¬ A 4 t.toNat = 0)) ≠ 0 → MP am ad (up C 0 (wcd (decide (¬ (0 ≤ t ∧ t < C 3))) (decide ((0 ≤ t ∧ t < C 3) ∧ ¬ A 4 t.toNat = 0)))) A h' → Mv am ad h h' → Q (.inl none) h') (k0 : ∀ h', (¬ ¬ (0 ≤ t ∧ t < C 3) ∧ ¬ ((0 ≤ t ∧ t < C 3) ∧ ¬ A 4 t.toNat = 0)) → MP am ad (up C 0 0) (up A 4 (up (A 4) t.toNat 2)) h' → Mv am ad h h' → Q (.inl none) h') : Rn 132 0 (entL 132 [aR am, aI t]) [] h Q := by
  show Rn 132 0 [some (aR am), some (aI (t))] [] h Q
  have b1 := b.c1
  have b2 := b.c2
  have b3 := b.c3
  have J : ∀ x y : Int, x = bI (decide (¬ (0 ≤ t ∧ t < C 3))) → y = bI (decide ((0 ≤ t ∧ t < C 3) ∧ ¬ A 4 t.toNat = 0)) → Rn 132 36 [some (aR am), some (aI (t))] [aI y, aI x, aR am] h Q := by
    intro x y hx hy
    subst hx hy
    refine x_call3 k_132_36 (Nat.le_of_ble_eq_true rfl) (rcv_1 M.1) (Nat.le_of_ble_eq_true rfl) ?_
    refine r_fails M (fun h M V => bh_1 ?_)
    refine x_ifeq_p (t := 43) k_132_39 rfl (fun cF => ?_) (fun cF => ?_)
    · have cG := wcd_z cF
      have M : MP am ad (up C 0 0) A h := by rw [← cG.1]; exact M
      refine x_aload_n k_132_43 rfl ?_
      refine x_get k_132_44 M.1 rfl ?_
      refine x_iload_n k_132_47 rfl ?_
      refine x_iconst k_132_48 ?_
      refine y_iastore (m := t.toNat) k_132_49 M.a4 (show t = ((t.toNat : Nat) : Int) by omega) (by omega) ?_
      refine mgo (M.s4 _) (V.tr (Mv.ma (Nat.le_of_ble_eq_true rfl))) (fun h M V => ?_)
      refine x_return k_132_50 ?_
      exact k0 h cG.2 M V
    · refine x_return k_132_42 ?_
      exact kf h cF M V
  refine x_aload_n k_132_0 rfl ?_
  refine x_aload_n k_132_1 rfl ?_
  refine x_iload_n k_132_2 rfl ?_
  refine x_call2 k_132_3 (Nat.le_of_ble_eq_true rfl) (rcv_1 M.1) (Nat.le_of_ble_eq_true rfl) ?_
  refine r_isTran M (by omega) (by omega) (bh_1 ?_)
  refine x_ifne_p (t := 13) k_132_6 rfl (fun c6 => ?_) (fun c6 => ?_)
  · refine x_iconst k_132_13 ?_
    refine x_aload_n k_132_14 rfl ?_
    refine x_iload_n k_132_15 rfl ?_
    refine x_call2 k_132_16 (Nat.le_of_ble_eq_true rfl) (rcv_1 M.1) (Nat.le_of_ble_eq_true rfl) ?_
    refine r_isTran M (by omega) (by omega) (bh_1 ?_)
    refine x_ifeq_p (t := 35) k_132_19 rfl (fun c19 => ?_) (fun c19 => ?_)
    · refine x_iconst k_132_35 ?_
      exact J 0 0 (bI_0 (by first | omega | exact id)) (bI_0 (by first | omega | exact id))
    · refine x_aload_n k_132_22 rfl ?_
      refine x_get k_132_23 M.1 rfl ?_
      refine x_iload_n k_132_26 rfl ?_
      refine y_iaload (m := t.toNat) k_132_27 M.a4 (Or.inl rfl) (show t = ((t.toNat : Nat) : Int) by omega) (by omega) ?_
      have f27 := b.v4 (t.toNat)
      refine x_ifeq (t := 35) k_132_28 rfl (by show inR (A 4 (t.toNat)); omega) (fun hb => ?_) (fun hb => ?_)
      · have c28 : A 4 (t.toNat) = 0 := hb
        refine x_iconst k_132_35 ?_
        exact J 0 0 (bI_0 (by first | omega | exact id)) (bI_0 (by first | omega | exact id))
      · have c28 : ¬ (A 4 (t.toNat) = 0) := hb
        refine x_iconst k_132_31 ?_
        refine x_goto (t := 36) k_132_32 rfl ?_
        exact J 0 1 (bI_0 (by first | omega | exact id)) (bI_1 (by omega))
  · refine x_iconst k_132_9 ?_
    refine x_goto (t := 14) k_132_10 rfl ?_
    refine x_aload_n k_132_14 rfl ?_
    refine x_iload_n k_132_15 rfl ?_
    refine x_call2 k_132_16 (Nat.le_of_ble_eq_true rfl) (rcv_1 M.1) (Nat.le_of_ble_eq_true rfl) ?_
    refine r_isTran M (by omega) (by omega) (bh_1 ?_)
    refine x_ifeq_p (t := 35) k_132_19 rfl (fun c19 => ?_) (fun c19 => ?_)
    · refine x_iconst k_132_35 ?_
      exact J 1 0 (bI_1 (by omega)) (bI_0 (by first | omega | exact id))
    · refine x_aload_n k_132_22 rfl ?_
      refine x_get k_132_23 M.1 rfl ?_
      refine x_iload_n k_132_26 rfl ?_
      refine y_iaload (m := t.toNat) k_132_27 M.a4 (Or.inl rfl) (show t = ((t.toNat : Nat) : Int) by omega) (by omega) ?_
      have f27 := b.v4 (t.toNat)
      refine x_ifeq (t := 35) k_132_28 rfl (by show inR (A 4 (t.toNat)); omega) (fun hb => ?_) (fun hb => ?_)
      · have c28 : A 4 (t.toNat) = 0 := hb
        refine x_iconst k_132_35 ?_
        exact J 1 0 (bI_1 (by omega)) (bI_0 (by first | omega | exact id))
      · have c28 : ¬ (A 4 (t.toNat) = 0) := hb
        refine x_iconst k_132_31 ?_
        refine x_goto (t := 36) k_132_32 rfl ?_
        exact J 1 1 (bI_1 (by omega)) (bI_1 (by omega))
theorem r_write (M : MP am ad C A h) (b : RB C A) {t o v : Int} (ht : inR t) (ho : inR o) (kf : ∀ h', wcd (decide (badP C A t o false)) (decide (refP C A t)) ≠ 0 → MP am ad (up C 0 (wcd (decide (badP C A t o false)) (decide (refP C A t)))) A h' → Mv am ad h h' → Q (.inl none) h') (k0 : ∀ h', (¬ badP C A t o false ∧ ¬ refP C A t) → MP am ad (didC (up C 0 0)) (didA (up C 0 0) A t o v 0) h' → Mv am ad h h' → Q (.inl none) h') : Rn 115 0 (entL 115 [aR am, aI t, aI o, aL v]) [] h Q := by
  show Rn 115 0 [some (aR am), some (aI (t)), some (aI (o)), some (aL (v)), none] [] h Q
  refine x_aload_n k_115_0 rfl ?_
  refine x_iload_n k_115_1 rfl ?_
  refine x_iload_n k_115_2 rfl ?_
  refine x_iconst k_115_3 ?_
  refine x_call4 k_115_4 (Nat.le_of_ble_eq_true rfl) (rcv_1 M.1) (Nat.le_of_ble_eq_true rfl) ?_
  refine r_isWrong (s := false) M b (by omega) (by omega) (fun h M V => bh_1 ?_)
  refine x_ifne_p (t := 18) k_115_7 rfl (fun c7 => ?_) (fun c7 => ?_)
  · refine x_return k_115_18 ?_
    exact kf h c7 M V
  · have cG := wcd_z c7
    have M : MP am ad (up C 0 0) A h := by rw [← cG.1]; exact M
    refine x_aload_n k_115_10 rfl ?_
    refine x_iload_n k_115_11 rfl ?_
    refine x_iload_n k_115_12 rfl ?_
    refine x_lload_n k_115_13 rfl ?_
    refine x_iconst k_115_14 ?_
    refine x_call5 k_115_15 (Nat.le_of_ble_eq_true rfl) (rcv_1 M.1) (Nat.le_of_ble_eq_true rfl) ?_
    refine r_did M b (fun h M V1 => bh_v ?_)
    have V := V.tr V1
    refine x_return k_115_18 ?_
    exact k0 h cG.2 M V
theorem r_change (M : MP am ad C A h) (b : RB C A) {t o x : Int} {w : Bool} (ht : inR t) (ho : inR o) (hx : inR x) (kf : ∀ h', wcd (decide (badP C A t o true)) (decide (refP C A t)) ≠ 0 → MP am ad (up C 0 (wcd (decide (badP C A t o true)) (decide (refP C A t)))) A h' → Mv am ad h h' → Q (.inl none) h') (k0 : ∀ h', (¬ badP C A t o true ∧ ¬ refP C A t) → MP am ad (didC (up C 0 0)) (didA (up C 0 0) A t o x (if w = true then 1 else -1)) h' → Mv am ad h h' → Q (.inl none) h') : Rn 117 0 (entL 117 [aR am, aI t, aI o, aI x, aI (bI w)]) [] h Q := by
  show Rn 117 0 [some (aR am), some (aI (t)), some (aI (o)), some (aI (x)), some (aI (bI (w)))] [] h Q
  refine x_aload_n k_117_0 rfl ?_
  refine x_iload_n k_117_1 rfl ?_
  refine x_iload_n k_117_2 rfl ?_
  refine x_iconst k_117_3 ?_
  refine x_call4 k_117_4 (Nat.le_of_ble_eq_true rfl) (rcv_1 M.1) (Nat.le_of_ble_eq_true rfl) ?_
  refine r_isWrong (s := true) M b (by omega) (by omega) (fun h M V => bh_1 ?_)
  refine x_ifne_p (t := 28) k_117_7 rfl (fun c7 => ?_) (fun c7 => ?_)
  · refine x_return k_117_28 ?_
    exact kf h c7 M V
  · have cG := wcd_z c7
    have M : MP am ad (up C 0 0) A h := by rw [← cG.1]; exact M
    refine x_aload_n k_117_10 rfl ?_
    refine x_iload_n k_117_11 rfl ?_
    refine x_iload_n k_117_12 rfl ?_
    refine x_iload_n k_117_13 rfl ?_
    refine x_i2l k_117_14 (by show inR (x); omega) ?_
    refine x_iload k_117_15 rfl ?_
    refine x_ifeq_b (t := 24) k_117_17 rfl (fun c17 => ?_) (fun c17 => ?_)
    · refine x_iconst k_117_24 ?_
      refine x_call5 k_117_25 (Nat.le_of_ble_eq_true rfl) (rcv_1 M.1) (Nat.le_of_ble_eq_true rfl) ?_
      refine r_did M b (fun h M V1 => bh_v ?_)
      have V := V.tr V1
      refine x_return k_117_28 ?_
      exact k0 h cG.2 (by rw [if_neg (by rw [c17]; decide)]; exact M) V
    · refine x_iconst k_117_20 ?_
      refine x_goto (t := 25) k_117_21 rfl ?_
      refine x_call5 k_117_25 (Nat.le_of_ble_eq_true rfl) (rcv_1 M.1) (Nat.le_of_ble_eq_true rfl) ?_
      refine r_did M b (fun h M V1 => bh_v ?_)
      have V := V.tr V1
      refine x_return k_117_28 ?_
      exact k0 h cG.2 (by rw [if_pos c17]; exact M) V
abbrev cntP (A : Nat → Nat → Int) (t o : Nat) (e : Int) (k : Nat) : Prop := A 10 k = o ∧ A 12 k = e ∧ (A 9 k = t ∨ visB A (A 9 k).toNat t = true)
def cnt (A : Nat → Nat → Int) (t o : Nat) (e : Int) : Nat → Int
  | 0 => 0
  | k + 1 => if cntP A t o e k then cnt A t o e k + A 11 k else cnt A t o e k
theorem lp_countOf (M : MP am ad C A h) (b : RB C A) {t o : Nat} {e : Int} (ht : t < 500) (ho : o < 200) (he : inL e) (k : Q (.inl (some (aI (cnt A t o e (C 4).toNat)))) h) : ∀ n j : Nat, j + n = (C 4).toNat → Rn 119 6 [some (aR am), some (aI ((t : Int))), some (aI ((o : Int))), some (aL (e)), none, some (aI (cnt A t o e j)), some (aI ((j : Int)))] [] h Q := by
  intro n
  induction n using Nat.strongRecOn with | ind n ih => ?_
  intro j hj
  refine x_iload k_119_6 rfl ?_
  refine x_aload_n k_119_8 rfl ?_
  refine x_get k_119_9 M.1 rfl ?_
  have f9 := b.c4
  refine x_icmpge (t := 82) k_119_12 rfl (by show inR ((j : Int)) ∧ inR (C 4); omega) (fun hb => ?_) (fun hb => ?_)
  · have c12 : C 4 ≤ (j : Int) := hb
    refine x_iload k_119_82 rfl ?_
    refine x_ireturn k_119_84 rfl ?_
    have q : (C 4).toNat = j := by omega
    rw [q] at k
    exact k
  · have c12 : ¬ (C 4 ≤ (j : Int)) := hb
    refine x_aload_n k_119_15 rfl ?_
    refine x_get k_119_16 M.1 rfl ?_
    refine x_iload k_119_19 rfl ?_
    refine y_iaload (m := j) k_119_21 M.a10 (Or.inl rfl) rfl (by omega) ?_
    have f21 := b.v10 (j)
    refine x_iload_n k_119_22 rfl ?_
    refine x_icmpne (t := 76) k_119_23 rfl (by show inR (A 10 j) ∧ inR ((o : Int)); omega) (fun hb => ?_) (fun hb => ?_)
    · have c23 : ¬ A 10 j = (o : Int) := hb
      refine x_inc6 k_119_76 rfl ?_
      refine x_goto (t := 6) k_119_79 rfl ?_
      rw [show cnt A t o e j = cnt A t o e (j + 1) by simp only [cnt]; rw [if_neg (fun z => c23 z.1)]]
      exact ih (n - 1) (by omega) (j + 1) (by omega)
    · have c23 : ¬ (¬ A 10 j = (o : Int)) := hb
      refine x_aload_n k_119_26 rfl ?_
      refine x_get k_119_27 M.1 rfl ?_
      refine x_iload k_119_30 rfl ?_
      refine y_laload (m := j) k_119_32 M.a12 rfl (by omega) ?_
      have f32 := b.v12 (j)
      refine x_lload_n k_119_33 rfl ?_
      refine x_lcmp k_119_34 (by show inL (A 12 j) ∧ inL (e); exact ⟨by omega, by omega⟩) ?_
      refine x_ifne (t := 76) k_119_35 rfl (cmp_r _ _) (fun hb => ?_) (fun hb => ?_)
      · have c35 : ¬ A 12 j = e := (cmp_ne _ _).mp hb
        refine x_inc6 k_119_76 rfl ?_
        refine x_goto (t := 6) k_119_79 rfl ?_
        rw [show cnt A t o e j = cnt A t o e (j + 1) by simp only [cnt]; rw [if_neg (fun z => c35 z.2.1)]]
        exact ih (n - 1) (by omega) (j + 1) (by omega)
      · have c35 : ¬ (¬ A 12 j = e) := fun w => hb ((cmp_ne _ _).mpr w)
        refine x_aload_n k_119_38 rfl ?_
        refine x_get k_119_39 M.1 rfl ?_
        refine x_iload k_119_42 rfl ?_
        refine y_iaload (m := j) k_119_44 M.a9 (Or.inl rfl) rfl (by omega) ?_
        have f44 := b.v9 (j)
        refine x_iload_n k_119_45 rfl ?_
        refine x_icmpeq (t := 64) k_119_46 rfl (by show inR (A 9 j) ∧ inR ((t : Int)); omega) (fun hb => ?_) (fun hb => ?_)
        · have c46 : A 9 j = (t : Int) := hb
          refine x_iload k_119_64 rfl ?_
          refine x_aload_n k_119_66 rfl ?_
          refine x_get k_119_67 M.1 rfl ?_
          refine x_iload k_119_70 rfl ?_
          refine y_iaload (m := j) k_119_72 M.a11 (Or.inl rfl) rfl (by omega) ?_
          have f72 := b.v11 (j)
          refine x_iadd k_119_73 ?_
          refine x_is5 k_119_74 rfl ?_
          refine x_inc6 k_119_76 rfl ?_
          refine x_goto (t := 6) k_119_79 rfl ?_
          rw [show cnt A t o e j + A 11 j = cnt A t o e (j + 1) by simp only [cnt]; rw [if_pos ⟨by omega, by omega, Or.inl (by omega)⟩]]
          exact ih (n - 1) (by omega) (j + 1) (by omega)
        · have c46 : ¬ (A 9 j = (t : Int)) := hb
          refine x_aload_n k_119_49 rfl ?_
          refine x_aload_n k_119_50 rfl ?_
          refine x_get k_119_51 M.1 rfl ?_
          refine x_iload k_119_54 rfl ?_
          refine y_iaload (m := j) k_119_56 M.a9 (Or.inl rfl) rfl (by omega) ?_
          have f56 := b.v9 (j)
          refine x_top (show A 9 j = (((A 9 j).toNat : Nat) : Int) from by omega) ?_
          refine x_iload_n k_119_57 rfl ?_
          refine x_call3 k_119_58 (Nat.le_of_ble_eq_true rfl) (rcv_1 M.1) (Nat.le_of_ble_eq_true rfl) ?_
          refine r_visible (c := ((A 9 j).toNat)) (t := t) M b (by omega) (by omega) (bh_1 ?_)
          refine x_ifeq_b (t := 76) k_119_61 rfl (fun c61 => ?_) (fun c61 => ?_)
          · refine x_inc6 k_119_76 rfl ?_
            refine x_goto (t := 6) k_119_79 rfl ?_
            rw [show cnt A t o e j = cnt A t o e (j + 1) by simp only [cnt]; rw [if_neg (fun z => z.2.2.elim (fun y => c46 y) (fun y => by rw [c61] at y; cases y))]]
            exact ih (n - 1) (by omega) (j + 1) (by omega)
          · refine x_iload k_119_64 rfl ?_
            refine x_aload_n k_119_66 rfl ?_
            refine x_get k_119_67 M.1 rfl ?_
            refine x_iload k_119_70 rfl ?_
            refine y_iaload (m := j) k_119_72 M.a11 (Or.inl rfl) rfl (by omega) ?_
            have f72 := b.v11 (j)
            refine x_iadd k_119_73 ?_
            refine x_is5 k_119_74 rfl ?_
            refine x_inc6 k_119_76 rfl ?_
            refine x_goto (t := 6) k_119_79 rfl ?_
            rw [show cnt A t o e j + A 11 j = cnt A t o e (j + 1) by simp only [cnt]; rw [if_pos ⟨by omega, by omega, Or.inr c61⟩]]
            exact ih (n - 1) (by omega) (j + 1) (by omega)
theorem r_countOf (M : MP am ad C A h) (b : RB C A) {t o : Nat} {e : Int} (ht : t < 500) (ho : o < 200) (he : inL e) (k : Q (.inl (some (aI (cnt A t o e (C 4).toNat)))) h) : Rn 119 0 (entL 119 [aR am, aI t, aI o, aL e]) [] h Q := by
  show Rn 119 0 [some (aR am), some (aI t), some (aI o), some (aL e), none, none, none] [] h Q
  refine x_iconst k_119_0 ?_
  refine x_is5 k_119_1 rfl ?_
  refine x_iconst k_119_3 ?_
  refine x_is6 k_119_4 rfl ?_
  exact lp_countOf M b ht ho he k (C 4).toNat 0 (by omega)
theorem r_count3 (M : MP am ad C A h) (b : RB C A) {t o x : Int} (ht : inR t) (ho : inR o) (hx : inR x) (kf : ∀ h', wcd (decide (badP C A t o true)) (decide (refP C A t)) ≠ 0 → MP am ad (up C 0 (wcd (decide (badP C A t o true)) (decide (refP C A t)))) A h' → Mv am ad h h' → Q (.inl (some (aI 0))) h') (k0 : ∀ h', (¬ badP C A t o true ∧ ¬ refP C A t) → MP am ad (up C 0 0) A h' → Mv am ad h h' → Q (.inl (some (aI (cnt A t.toNat o.toNat x (C 4).toNat)))) h') : Rn 118 0 (entL 118 [aR am, aI t, aI o, aI x]) [] h Q := by
  show Rn 118 0 [some (aR am), some (aI (t)), some (aI (o)), some (aI (x))] [] h Q
  refine x_aload_n k_118_0 rfl ?_
  refine x_iload_n k_118_1 rfl ?_
  refine x_iload_n k_118_2 rfl ?_
  refine x_iconst k_118_3 ?_
  refine x_call4 k_118_4 (Nat.le_of_ble_eq_true rfl) (rcv_1 M.1) (Nat.le_of_ble_eq_true rfl) ?_
  refine r_isWrong (s := true) M b (by omega) (by omega) (fun h M V => bh_1 ?_)
  refine x_ifeq_p (t := 14) k_118_7 rfl (fun c7 => ?_) (fun c7 => ?_)
  · have cG := wcd_z c7
    have M : MP am ad (up C 0 0) A h := by rw [← cG.1]; exact M
    have b2 := b.c2
    have b3 := b.c3
    have cG2 := cG.2.1
    unfold badP at cG2
    refine x_aload_n k_118_14 rfl ?_
    refine x_iload_n k_118_15 rfl ?_
    refine x_top (show t = ((t.toNat : Nat) : Int) from by omega) ?_
    refine x_iload_n k_118_16 rfl ?_
    refine x_top (show o = ((o.toNat : Nat) : Int) from by omega) ?_
    refine x_iload_n k_118_17 rfl ?_
    refine x_i2l k_118_18 (by show inR (x); omega) ?_
    refine x_call4 k_118_19 (Nat.le_of_ble_eq_true rfl) (rcv_1 M.1) (Nat.le_of_ble_eq_true rfl) ?_
    refine r_countOf (C := up C 0 0) (t := t.toNat) (o := o.toNat) M b (by omega) (by omega) (by omega) (bh_1 ?_)
    refine x_ireturn k_118_22 rfl ?_
    exact k0 h cG.2 M V
  · refine x_iconst k_118_10 ?_
    refine x_goto (t := 22) k_118_11 rfl ?_
    refine x_ireturn k_118_22 rfl ?_
    exact kf h c7 M V
end M4
end
section
section M5
variable {am : Nat} {ad : Nat → Nat} {C : Nat → Int} {A : Nat → Nat → Int} {h : AH} {Q : AR → AH → Prop}
/-- a proposition as an int -/
noncomputable def pI (P : Prop) : Int := @ite Int P (Classical.propDecidable P) 1 0
theorem pI_1 {P : Prop} (hp : P) : pI P = 1 := by unfold pI; exact if_pos hp
theorem pI_0 {P : Prop} (hp : ¬ P) : pI P = 0 := by unfold pI; exact if_neg hp
theorem pI_01 (P : Prop) : pI P = 0 ∨ pI P = 1 := (Classical.em P).elim (fun p => Or.inr (pI_1 p)) (fun p => Or.inl (pI_0 p))
theorem x_ifeq_P {i pc len t : Nat} {L : AL} {st : List AV} {off : Int} {P : Prop} (hk : cod i pc = some (.inl (.ifCond .eq off), len)) (ht : tg pc off = t) (kt : ¬ P → Rn i t L st h Q) (kf : P → Rn i (pc + len) L st h Q) : Rn i pc L (aI (pI P) :: st) h Q :=
  x_ifeq hk ht (by have := pI_01 P; omega) (fun q => kt (fun p => by rw [pI_1 p] at q; exact absurd q (by decide))) (fun q => kf (Classical.byContradiction (fun p => q (pI_0 p))))
theorem x_ifne_P {i pc len t : Nat} {L : AL} {st : List AV} {off : Int} {P : Prop} (hk : cod i pc = some (.inl (.ifCond .ne off), len)) (ht : tg pc off = t) (kt : P → Rn i t L st h Q) (kf : ¬ P → Rn i (pc + len) L st h Q) : Rn i pc L (aI (pI P) :: st) h Q :=
  x_ifne hk ht (by have := pI_01 P; omega) (fun q => kt (Classical.byContradiction (fun p => q (pI_0 p)))) (fun q => kf (fun p => q (by rw [pI_1 p]; decide)))
theorem ret_1P {P : Prop} (hp : P) (k : Q (.inl (some (aI (pI P)))) h) : Q (.inl (some (aI 1))) h := by rw [pI_1 hp] at k; exact k
theorem ret_0P {P : Prop} (hp : ¬ P) (k : Q (.inl (some (aI (pI P)))) h) : Q (.inl (some (aI 0))) h := by rw [pI_0 hp] at k; exact k
theorem nx_all {P : Nat → Prop} {j : Nat} (hq : ∀ q, q < j → ¬ P q) (hj : ¬ P j) : ∀ q, q < j + 1 → ¬ P q := fun q h1 h2 => (Nat.lt_or_ge q j).elim (fun z => hq q z h2) (fun z => hj ((show q = j by omega) ▸ h2))
theorem up2 {A : Nat → Nat → Int} {k : Nat} {f g : Nat → Int} : up (up A k f) k g = up A k g := by funext j; unfold up; split <;> rfl
theorem upe {A : Nat → Nat → Int} {k : Nat} {f g : Nat → Int} (e : ∀ q, f q = g q) : up A k f = up A k g := by rw [show f = g from funext e]
theorem upself {A : Nat → Nat → Int} {k : Nat} {f : Nat → Int} (e : ∀ q, f q = A k q) : up A k f = A := by
  funext j
  by_cases q : j = k
  · subst q
    simp only [up, if_pos]
    exact funext e
  · simp only [up, if_neg q]
theorem MP.ce {A1 A2 : Nat → Nat → Int} (M : MP am ad C A1 h) (e : A1 = A2) : MP am ad C A2 h := e ▸ M
abbrev cfq (C : Nat → Int) (A : Nat → Nat → Int) (t o c : Nat) : Prop := ¬ c = t ∧ (0 < A 5 c ∧ A 5 c ≤ A 13 (6 * (A 0 o).toNat + (A 3 c).toNat)) ∧ visB A c t = false ∧ wrtB C A c o = true
def cflP (C : Nat → Int) (A : Nat → Nat → Int) (t o : Nat) : Prop := (0 ≤ A 1 o ∧ ¬ A 1 o = t) ∨ ∃ c, c < (C 3).toNat ∧ cfq C A t o c
abbrev wrq (C : Nat → Int) (A : Nat → Nat → Int) (t s o : Nat) : Prop := A 2 o = 0 ∧ A 0 o = s ∧ wrtB C A t o = true
def wraP (C : Nat → Int) (A : Nat → Nat → Int) (t s : Nat) : Prop := ∃ o, o < (C 2).toNat ∧ wrq C A t s o
def acfP (C : Nat → Int) (A : Nat → Nat → Int) (t s : Nat) : Prop := ∃ o, o < (C 2).toNat ∧ wrq C A t s o ∧ cflP C A t o
theorem lp_conflict (M : MP am ad C A h) (b : RB C A) {t o : Nat} (ht : t < 500) (ho : o < 200) (hl : ¬ (0 ≤ A 1 o ∧ ¬ A 1 o = t)) (k : Q (.inl (some (aI (pI (cflP C A t o))))) h) : ∀ n j : Nat, j + n = (C 3).toNat → (∀ q, q < j → ¬ cfq C A t o q) → ∀ z : Option AV, Rn 129 31 [some (aR am), some (aI ((t : Int))), some (aI ((o : Int))), some (aI (A 0 o)), some (aI ((j : Int))), z] [] h Q := by
  intro n
  induction n using Nat.strongRecOn with | ind n ih => ?_
  intro j hj hq z
  have hc3 := b.c3
  have f0 := b.v0 o
  refine x_iload k_129_31 rfl ?_
  refine x_aload_n k_129_33 rfl ?_
  refine x_get k_129_34 M.1 rfl ?_
  have f34 := b.c3
  refine x_icmpge (t := 123) k_129_37 rfl (by show inR ((j : Int)) ∧ inR (C 3); omega) (fun hb => ?_) (fun hb => ?_)
  · have c37 : C 3 ≤ (j : Int) := hb
    refine x_iconst k_129_123 ?_
    refine x_zreturn k_129_124 rfl (by first | exact Or.inl rfl | exact Or.inr rfl) ?_
    exact ret_0P (fun z => z.elim (fun y => hl y) (fun ⟨q, y1, y2⟩ => hq q (by omega) y2)) k
  · have c37 : ¬ (C 3 ≤ (j : Int)) := hb
    refine x_aload_n k_129_40 rfl ?_
    refine x_get k_129_41 M.1 rfl ?_
    refine x_iload k_129_44 rfl ?_
    refine y_iaload (m := j) k_129_46 M.a5 (Or.inl rfl) rfl (by omega) ?_
    have f46 := b.v5 (j)
    refine x_ifle (t := 81) k_129_47 rfl (by show inR (A 5 j); omega) (fun hb => ?_) (fun hb => ?_)
    · have c47 : A 5 j ≤ 0 := hb
      refine x_iconst k_129_81 ?_
      refine x_is5 k_129_82 rfl ?_
      refine x_iload k_129_84 rfl ?_
      refine x_iload_n k_129_86 rfl ?_
      refine x_icmpeq (t := 117) k_129_87 rfl (by show inR ((j : Int)) ∧ inR ((t : Int)); omega) (fun hb => ?_) (fun hb => ?_)
      · have c87 : (j : Int) = (t : Int) := hb
        refine x_inc4 k_129_117 rfl ?_
        refine x_goto (t := 31) k_129_120 rfl ?_
        exact ih (n - 1) (by omega) (j + 1) (by omega) (nx_all hq (fun z => by obtain ⟨z1, ⟨z2, z3⟩, z4, z5⟩ := z; omega)) _
      · have c87 : ¬ ((j : Int) = (t : Int)) := hb
        refine x_iload k_129_90 rfl ?_
        refine x_ifeq (t := 117) k_129_92 rfl (by show inR (0); omega) (fun hb => ?_) (fun hb => ?_)
        · refine x_inc4 k_129_117 rfl ?_
          refine x_goto (t := 31) k_129_120 rfl ?_
          exact ih (n - 1) (by omega) (j + 1) (by omega) (nx_all hq (fun z => by obtain ⟨z1, ⟨z2, z3⟩, z4, z5⟩ := z; omega)) _
        · exact absurd hb (by decide)
    · have c47 : ¬ (A 5 j ≤ 0) := hb
      refine x_aload_n k_129_50 rfl ?_
      refine x_get k_129_51 M.1 rfl ?_
      refine x_iload k_129_54 rfl ?_
      refine y_iaload (m := j) k_129_56 M.a5 (Or.inl rfl) rfl (by omega) ?_
      have f56 := b.v5 (j)
      refine x_aload_n k_129_57 rfl ?_
      refine x_get k_129_58 M.1 rfl ?_
      refine x_bipush k_129_61 ?_
      refine x_iload_n k_129_63 rfl ?_
      refine x_imul k_129_64 ?_
      refine x_aload_n k_129_65 rfl ?_
      refine x_get k_129_66 M.1 rfl ?_
      refine x_iload k_129_69 rfl ?_
      refine y_iaload (m := j) k_129_71 M.a3 (Or.inl rfl) rfl (by omega) ?_
      have f71 := b.v3 (j)
      refine x_iadd k_129_72 ?_
      refine y_iaload (m := 6 * (A 0 o).toNat + (A 3 j).toNat) k_129_73 M.a13 (Or.inl rfl) (show ((6 * A 0 o) + A 3 j) = ((6 * (A 0 o).toNat + (A 3 j).toNat : Nat) : Int) by omega) (by omega) ?_
      have f73 := b.v13 (6 * (A 0 o).toNat + (A 3 j).toNat)
      refine x_icmpgt (t := 81) k_129_74 rfl (by show inR (A 5 j) ∧ inR (A 13 (6 * (A 0 o).toNat + (A 3 j).toNat)); omega) (fun hb => ?_) (fun hb => ?_)
      · have c74 : A 13 (6 * (A 0 o).toNat + (A 3 j).toNat) < A 5 j := hb
        refine x_iconst k_129_81 ?_
        refine x_is5 k_129_82 rfl ?_
        refine x_iload k_129_84 rfl ?_
        refine x_iload_n k_129_86 rfl ?_
        refine x_icmpeq (t := 117) k_129_87 rfl (by show inR ((j : Int)) ∧ inR ((t : Int)); omega) (fun hb => ?_) (fun hb => ?_)
        · have c87 : (j : Int) = (t : Int) := hb
          refine x_inc4 k_129_117 rfl ?_
          refine x_goto (t := 31) k_129_120 rfl ?_
          exact ih (n - 1) (by omega) (j + 1) (by omega) (nx_all hq (fun z => by obtain ⟨z1, ⟨z2, z3⟩, z4, z5⟩ := z; omega)) _
        · have c87 : ¬ ((j : Int) = (t : Int)) := hb
          refine x_iload k_129_90 rfl ?_
          refine x_ifeq (t := 117) k_129_92 rfl (by show inR (0); omega) (fun hb => ?_) (fun hb => ?_)
          · refine x_inc4 k_129_117 rfl ?_
            refine x_goto (t := 31) k_129_120 rfl ?_
            exact ih (n - 1) (by omega) (j + 1) (by omega) (nx_all hq (fun z => by obtain ⟨z1, ⟨z2, z3⟩, z4, z5⟩ := z; omega)) _
          · exact absurd hb (by decide)
      · have c74 : ¬ (A 13 (6 * (A 0 o).toNat + (A 3 j).toNat) < A 5 j) := hb
        refine x_iconst k_129_77 ?_
        refine x_goto (t := 82) k_129_78 rfl ?_
        refine x_is5 k_129_82 rfl ?_
        refine x_iload k_129_84 rfl ?_
        refine x_iload_n k_129_86 rfl ?_
        refine x_icmpeq (t := 117) k_129_87 rfl (by show inR ((j : Int)) ∧ inR ((t : Int)); omega) (fun hb => ?_) (fun hb => ?_)
        · have c87 : (j : Int) = (t : Int) := hb
          refine x_inc4 k_129_117 rfl ?_
          refine x_goto (t := 31) k_129_120 rfl ?_
          exact ih (n - 1) (by omega) (j + 1) (by omega) (nx_all hq (fun z => by obtain ⟨z1, ⟨z2, z3⟩, z4, z5⟩ := z; omega)) _
        · have c87 : ¬ ((j : Int) = (t : Int)) := hb
          refine x_iload k_129_90 rfl ?_
          refine x_ifeq (t := 117) k_129_92 rfl (by show inR (1); omega) (fun hb => ?_) (fun hb => ?_)
          · exact absurd hb (by decide)
          · refine x_aload_n k_129_95 rfl ?_
            refine x_iload k_129_96 rfl ?_
            refine x_iload_n k_129_98 rfl ?_
            refine x_call3 k_129_99 (Nat.le_of_ble_eq_true rfl) (rcv_1 M.1) (Nat.le_of_ble_eq_true rfl) ?_
            refine r_visible (c := j) (t := t) M b (by omega) (by omega) (bh_1 ?_)
            refine x_ifne_b (t := 117) k_129_102 rfl (fun c102 => ?_) (fun c102 => ?_)
            · refine x_inc4 k_129_117 rfl ?_
              refine x_goto (t := 31) k_129_120 rfl ?_
              exact ih (n - 1) (by omega) (j + 1) (by omega) (nx_all hq (fun z => by obtain ⟨z1, ⟨z2, z3⟩, z4, z5⟩ := z; rw [c102] at z4; cases z4)) _
            · refine x_aload_n k_129_105 rfl ?_
              refine x_iload k_129_106 rfl ?_
              refine x_iload_n k_129_108 rfl ?_
              refine x_call3 k_129_109 (Nat.le_of_ble_eq_true rfl) (rcv_1 M.1) (Nat.le_of_ble_eq_true rfl) ?_
              refine r_wrote (t := j) (o := o) M b (by omega) (by omega) (bh_1 ?_)
              refine x_ifeq_b (t := 117) k_129_112 rfl (fun c112 => ?_) (fun c112 => ?_)
              · refine x_inc4 k_129_117 rfl ?_
                refine x_goto (t := 31) k_129_120 rfl ?_
                exact ih (n - 1) (by omega) (j + 1) (by omega) (nx_all hq (fun z => by obtain ⟨z1, ⟨z2, z3⟩, z4, z5⟩ := z; rw [c112] at z5; cases z5)) _
              · refine x_iconst k_129_115 ?_
                refine x_zreturn k_129_116 rfl (by first | exact Or.inl rfl | exact Or.inr rfl) ?_
                exact ret_1P (Or.inr ⟨j, by omega, by omega, by omega, c102, c112⟩) k
theorem r_conflict (M : MP am ad C A h) (b : RB C A) {t o : Nat} (ht : t < 500) (ho : o < 200) (k : Q (.inl (some (aI (pI (cflP C A t o))))) h) : Rn 129 0 (entL 129 [aR am, aI t, aI o]) [] h Q := by
  show Rn 129 0 [some (aR am), some (aI ((t : Int))), some (aI ((o : Int))), none, none, none] [] h Q
  refine x_aload_n k_129_0 rfl ?_
  refine x_get k_129_1 M.1 rfl ?_
  refine x_iload_n k_129_4 rfl ?_
  refine y_iaload (m := o) k_129_5 M.a0 (Or.inl rfl) rfl (by omega) ?_
  have f5 := b.v0 (o)
  refine x_is3n k_129_6 rfl ?_
  refine x_aload_n k_129_7 rfl ?_
  refine x_get k_129_8 M.1 rfl ?_
  refine x_iload_n k_129_11 rfl ?_
  refine y_iaload (m := o) k_129_12 M.a1 (Or.inl rfl) rfl (by omega) ?_
  have f12 := b.v1 (o)
  refine x_iflt (t := 28) k_129_13 rfl (by show inR (A 1 o); omega) (fun hb => ?_) (fun hb => ?_)
  · have c13 : A 1 o < 0 := hb
    refine x_iconst k_129_28 ?_
    refine x_is4 k_129_29 rfl ?_
    exact lp_conflict M b ht ho (by omega) k (C 3).toNat 0 (by omega) (fun q hq => absurd hq (Nat.not_lt_zero q)) _
  · have c13 : ¬ (A 1 o < 0) := hb
    refine x_aload_n k_129_16 rfl ?_
    refine x_get k_129_17 M.1 rfl ?_
    refine x_iload_n k_129_20 rfl ?_
    refine y_iaload (m := o) k_129_21 M.a1 (Or.inl rfl) rfl (by omega) ?_
    have f21 := b.v1 (o)
    refine x_iload_n k_129_22 rfl ?_
    refine x_icmpeq (t := 28) k_129_23 rfl (by show inR (A 1 o) ∧ inR ((t : Int)); omega) (fun hb => ?_) (fun hb => ?_)
    · have c23 : A 1 o = (t : Int) := hb
      refine x_iconst k_129_28 ?_
      refine x_is4 k_129_29 rfl ?_
      exact lp_conflict M b ht ho (by omega) k (C 3).toNat 0 (by omega) (fun q hq => absurd hq (Nat.not_lt_zero q)) _
    · have c23 : ¬ (A 1 o = (t : Int)) := hb
      refine x_iconst k_129_26 ?_
      refine x_zreturn k_129_27 rfl (by first | exact Or.inl rfl | exact Or.inr rfl) ?_
      exact ret_1P (Or.inl ⟨by omega, by omega⟩) k
theorem lp_writesAt (M : MP am ad C A h) (b : RB C A) {t s : Nat} (ht : t < 500) (hs : s < 6) (k : Q (.inl (some (aI (pI (wraP C A t s))))) h) : ∀ n j : Nat, j + n = (C 2).toNat → (∀ q, q < j → ¬ wrq C A t s q) → Rn 131 2 [some (aR am), some (aI ((t : Int))), some (aI ((s : Int))), some (aI ((j : Int)))] [] h Q := by
  intro n
  induction n using Nat.strongRecOn with | ind n ih => ?_
  intro j hj hq
  have hc2 := b.c2
  refine x_iload_n k_131_2 rfl ?_
  refine x_aload_n k_131_3 rfl ?_
  refine x_get k_131_4 M.1 rfl ?_
  have f4 := b.c2
  refine x_icmpge (t := 46) k_131_7 rfl (by show inR ((j : Int)) ∧ inR (C 2); omega) (fun hb => ?_) (fun hb => ?_)
  · have c7 : C 2 ≤ (j : Int) := hb
    refine x_iconst k_131_46 ?_
    refine x_zreturn k_131_47 rfl (by first | exact Or.inl rfl | exact Or.inr rfl) ?_
    exact ret_0P (fun ⟨q, y1, y2⟩ => hq q (by omega) y2) k
  · have c7 : ¬ (C 2 ≤ (j : Int)) := hb
    refine x_aload_n k_131_10 rfl ?_
    refine x_get k_131_11 M.1 rfl ?_
    refine x_iload_n k_131_14 rfl ?_
    refine y_baload (m := j) k_131_15 M.a2 rfl (by omega) ?_
    have f15 := b.v2 (j)
    refine x_ifne (t := 40) k_131_16 rfl (by show inR (A 2 j); omega) (fun hb => ?_) (fun hb => ?_)
    · have c16 : ¬ A 2 j = 0 := hb
      refine x_inc3 k_131_40 rfl ?_
      refine x_goto (t := 2) k_131_43 rfl ?_
      exact ih (n - 1) (by omega) (j + 1) (by omega) (nx_all hq (fun z => by obtain ⟨z1, z2, z3⟩ := z; omega))
    · have c16 : ¬ (¬ A 2 j = 0) := hb
      refine x_aload_n k_131_19 rfl ?_
      refine x_get k_131_20 M.1 rfl ?_
      refine x_iload_n k_131_23 rfl ?_
      refine y_iaload (m := j) k_131_24 M.a0 (Or.inl rfl) rfl (by omega) ?_
      have f24 := b.v0 (j)
      refine x_iload_n k_131_25 rfl ?_
      refine x_icmpne (t := 40) k_131_26 rfl (by show inR (A 0 j) ∧ inR ((s : Int)); omega) (fun hb => ?_) (fun hb => ?_)
      · have c26 : ¬ A 0 j = (s : Int) := hb
        refine x_inc3 k_131_40 rfl ?_
        refine x_goto (t := 2) k_131_43 rfl ?_
        exact ih (n - 1) (by omega) (j + 1) (by omega) (nx_all hq (fun z => by obtain ⟨z1, z2, z3⟩ := z; omega))
      · have c26 : ¬ (¬ A 0 j = (s : Int)) := hb
        refine x_aload_n k_131_29 rfl ?_
        refine x_iload_n k_131_30 rfl ?_
        refine x_iload_n k_131_31 rfl ?_
        refine x_call3 k_131_32 (Nat.le_of_ble_eq_true rfl) (rcv_1 M.1) (Nat.le_of_ble_eq_true rfl) ?_
        refine r_wrote (t := t) (o := j) M b (by omega) (by omega) (bh_1 ?_)
        refine x_ifeq_b (t := 40) k_131_35 rfl (fun c35 => ?_) (fun c35 => ?_)
        · refine x_inc3 k_131_40 rfl ?_
          refine x_goto (t := 2) k_131_43 rfl ?_
          exact ih (n - 1) (by omega) (j + 1) (by omega) (nx_all hq (fun z => by obtain ⟨z1, z2, z3⟩ := z; rw [c35] at z3; cases z3))
        · refine x_iconst k_131_38 ?_
          refine x_zreturn k_131_39 rfl (by first | exact Or.inl rfl | exact Or.inr rfl) ?_
          exact ret_1P ⟨j, by omega, ⟨by omega, by omega, c35⟩⟩ k
theorem r_writesAt (M : MP am ad C A h) (b : RB C A) {t s : Nat} (ht : t < 500) (hs : s < 6) (k : Q (.inl (some (aI (pI (wraP C A t s))))) h) : Rn 131 0 (entL 131 [aR am, aI t, aI s]) [] h Q := by
  show Rn 131 0 [some (aR am), some (aI ((t : Int))), some (aI ((s : Int))), none] [] h Q
  refine x_iconst k_131_0 ?_
  refine x_is3n k_131_1 rfl ?_
  exact lp_writesAt M b ht hs k (C 2).toNat 0 (by omega) (fun q hq => absurd hq (Nat.not_lt_zero q))
theorem lp_anyConflict (M : MP am ad C A h) (b : RB C A) {t s : Nat} (ht : t < 500) (hs : s < 6) (k : Q (.inl (some (aI (pI (acfP C A t s))))) h) : ∀ n j : Nat, j + n = (C 2).toNat → (∀ q, q < j → ¬ (fun o => wrq C A t s o ∧ cflP C A t o) q) → Rn 128 2 [some (aR am), some (aI ((t : Int))), some (aI ((s : Int))), some (aI ((j : Int)))] [] h Q := by
  intro n
  induction n using Nat.strongRecOn with | ind n ih => ?_
  intro j hj hq
  have hc2 := b.c2
  refine x_iload_n k_128_2 rfl ?_
  refine x_aload_n k_128_3 rfl ?_
  refine x_get k_128_4 M.1 rfl ?_
  have f4 := b.c2
  refine x_icmpge (t := 55) k_128_7 rfl (by show inR ((j : Int)) ∧ inR (C 2); omega) (fun hb => ?_) (fun hb => ?_)
  · have c7 : C 2 ≤ (j : Int) := hb
    refine x_iconst k_128_55 ?_
    refine x_zreturn k_128_56 rfl (by first | exact Or.inl rfl | exact Or.inr rfl) ?_
    exact ret_0P (fun ⟨q, y1, y2⟩ => hq q (by omega) y2) k
  · have c7 : ¬ (C 2 ≤ (j : Int)) := hb
    refine x_aload_n k_128_10 rfl ?_
    refine x_get k_128_11 M.1 rfl ?_
    refine x_iload_n k_128_14 rfl ?_
    refine y_baload (m := j) k_128_15 M.a2 rfl (by omega) ?_
    have f15 := b.v2 (j)
    refine x_ifne (t := 49) k_128_16 rfl (by show inR (A 2 j); omega) (fun hb => ?_) (fun hb => ?_)
    · have c16 : ¬ A 2 j = 0 := hb
      refine x_inc3 k_128_49 rfl ?_
      refine x_goto (t := 2) k_128_52 rfl ?_
      exact ih (n - 1) (by omega) (j + 1) (by omega) (nx_all hq (fun z => by obtain ⟨⟨z1, z2, z3⟩, z4⟩ := z; omega))
    · have c16 : ¬ (¬ A 2 j = 0) := hb
      refine x_aload_n k_128_19 rfl ?_
      refine x_get k_128_20 M.1 rfl ?_
      refine x_iload_n k_128_23 rfl ?_
      refine y_iaload (m := j) k_128_24 M.a0 (Or.inl rfl) rfl (by omega) ?_
      have f24 := b.v0 (j)
      refine x_iload_n k_128_25 rfl ?_
      refine x_icmpne (t := 49) k_128_26 rfl (by show inR (A 0 j) ∧ inR ((s : Int)); omega) (fun hb => ?_) (fun hb => ?_)
      · have c26 : ¬ A 0 j = (s : Int) := hb
        refine x_inc3 k_128_49 rfl ?_
        refine x_goto (t := 2) k_128_52 rfl ?_
        exact ih (n - 1) (by omega) (j + 1) (by omega) (nx_all hq (fun z => by obtain ⟨⟨z1, z2, z3⟩, z4⟩ := z; omega))
      · have c26 : ¬ (¬ A 0 j = (s : Int)) := hb
        refine x_aload_n k_128_29 rfl ?_
        refine x_iload_n k_128_30 rfl ?_
        refine x_iload_n k_128_31 rfl ?_
        refine x_call3 k_128_32 (Nat.le_of_ble_eq_true rfl) (rcv_1 M.1) (Nat.le_of_ble_eq_true rfl) ?_
        refine r_wrote (t := t) (o := j) M b (by omega) (by omega) (bh_1 ?_)
        refine x_ifeq_b (t := 49) k_128_35 rfl (fun c35 => ?_) (fun c35 => ?_)
        · refine x_inc3 k_128_49 rfl ?_
          refine x_goto (t := 2) k_128_52 rfl ?_
          exact ih (n - 1) (by omega) (j + 1) (by omega) (nx_all hq (fun z => by obtain ⟨⟨z1, z2, z3⟩, z4⟩ := z; rw [c35] at z3; cases z3))
        · refine x_aload_n k_128_38 rfl ?_
          refine x_iload_n k_128_39 rfl ?_
          refine x_iload_n k_128_40 rfl ?_
          refine x_call3 k_128_41 (Nat.le_of_ble_eq_true rfl) (rcv_1 M.1) (Nat.le_of_ble_eq_true rfl) ?_
          refine r_conflict (t := t) (o := j) M b (by omega) (by omega) (bh_1 ?_)
          refine x_ifeq_P (t := 49) k_128_44 rfl (fun c44 => ?_) (fun c44 => ?_)
          · refine x_inc3 k_128_49 rfl ?_
            refine x_goto (t := 2) k_128_52 rfl ?_
            exact ih (n - 1) (by omega) (j + 1) (by omega) (nx_all hq (fun z => by obtain ⟨⟨z1, z2, z3⟩, z4⟩ := z; exact c44 z4))
          · refine x_iconst k_128_47 ?_
            refine x_zreturn k_128_48 rfl (by first | exact Or.inl rfl | exact Or.inr rfl) ?_
            exact ret_1P ⟨j, by omega, ⟨⟨by omega, by omega, c35⟩, c44⟩⟩ k
theorem r_anyConflict (M : MP am ad C A h) (b : RB C A) {t s : Nat} (ht : t < 500) (hs : s < 6) (k : Q (.inl (some (aI (pI (acfP C A t s))))) h) : Rn 128 0 (entL 128 [aR am, aI t, aI s]) [] h Q := by
  show Rn 128 0 [some (aR am), some (aI ((t : Int))), some (aI ((s : Int))), none] [] h Q
  refine x_iconst k_128_0 ?_
  refine x_is3n k_128_1 rfl ?_
  exact lp_anyConflict M b ht hs k (C 2).toNat 0 (by omega) (fun q hq => absurd hq (Nat.not_lt_zero q))
def lckF (C : Nat → Int) (A : Nat → Nat → Int) (t s n : Nat) : Nat → Int := fun o => if o < n ∧ wrq C A t s o then (t : Int) else A 1 o
def unlF (A : Nat → Nat → Int) (t s n : Nat) : Nat → Int := fun o => if o < n ∧ A 0 o = s ∧ A 1 o = t then (-1 : Int) else A 1 o
theorem lckF_n {t s j q : Nat} (hn : ¬ wrq C A t s j) : lckF C A t s j q = lckF C A t s (j + 1) q := by
  unfold lckF
  by_cases hq : q = j
  · subst hq
    rw [if_neg (fun z => hn z.2), if_neg (fun z => hn z.2)]
  · by_cases hz : q < j ∧ wrq C A t s q
    · rw [if_pos hz, if_pos ⟨by omega, hz.2⟩]
    · rw [if_neg hz, if_neg (fun z => hz ⟨by omega, z.2⟩)]
theorem lckF_y {t s j q : Nat} (hn : wrq C A t s j) : up (lckF C A t s j) j (t : Int) q = lckF C A t s (j + 1) q := by
  unfold up
  by_cases hq : q = j
  · subst hq
    rw [if_pos rfl]
    unfold lckF
    rw [if_pos ⟨by omega, hn⟩]
  · rw [if_neg hq]
    unfold lckF
    by_cases hz : q < j ∧ wrq C A t s q
    · rw [if_pos hz, if_pos ⟨by omega, hz.2⟩]
    · rw [if_neg hz, if_neg (fun z => hz ⟨by omega, z.2⟩)]
theorem unlF_n {t s j q : Nat} (hn : ¬ (A 0 j = s ∧ A 1 j = t)) : unlF A t s j q = unlF A t s (j + 1) q := by
  unfold unlF
  by_cases hq : q = j
  · subst hq
    rw [if_neg (fun z => hn z.2), if_neg (fun z => hn z.2)]
  · by_cases hz : q < j ∧ A 0 q = s ∧ A 1 q = t
    · rw [if_pos hz, if_pos ⟨by omega, hz.2⟩]
    · rw [if_neg hz, if_neg (fun z => hz ⟨by omega, z.2⟩)]
theorem unlF_y {t s j q : Nat} (hn : A 0 j = s ∧ A 1 j = t) : up (unlF A t s j) j (-1 : Int) q = unlF A t s (j + 1) q := by
  unfold up
  by_cases hq : q = j
  · subst hq
    rw [if_pos rfl]
    unfold unlF
    rw [if_pos ⟨by omega, hn⟩]
  · rw [if_neg hq]
    unfold unlF
    by_cases hz : q < j ∧ A 0 q = s ∧ A 1 q = t
    · rw [if_pos hz, if_pos ⟨by omega, hz.2⟩]
    · rw [if_neg hz, if_neg (fun z => hz ⟨by omega, z.2⟩)]
theorem lckF_b (b : RB C A) {t s n : Nat} (ht : t < 500) (j : Nat) : -1 ≤ lckF C A t s n j ∧ lckF C A t s n j < 500 := by
  have := b.v1 j
  unfold lckF
  split <;> omega
theorem unlF_b (b : RB C A) {t s n : Nat} (j : Nat) : -1 ≤ unlF A t s n j ∧ unlF A t s n j < 500 := by
  have := b.v1 j
  unfold unlF
  split <;> omega
theorem lp_locks {h0 : AH} (b : RB C A) {t s : Nat} (ht : t < 500) (hs : s < 6) (k : ∀ h', MP am ad C (up A 1 (lckF C A t s (C 2).toNat)) h' → Mv am ad h0 h' → Q (.inl none) h') : ∀ n j : Nat, j + n = (C 2).toNat → ∀ h, MP am ad C (up A 1 (lckF C A t s j)) h → Mv am ad h0 h → Rn 130 2 [some (aR am), some (aI ((t : Int))), some (aI ((s : Int))), some (aI ((j : Int)))] [] h Q := by
  intro n
  induction n using Nat.strongRecOn with | ind n ih => ?_
  intro j hj h M V
  have hc2 := b.c2
  refine x_iload_n k_130_2 rfl ?_
  refine x_aload_n k_130_3 rfl ?_
  refine x_get k_130_4 M.1 rfl ?_
  have f4 := b.c2
  refine x_icmpge (t := 51) k_130_7 rfl (by show inR ((j : Int)) ∧ inR (C 2); omega) (fun hb => ?_) (fun hb => ?_)
  · have c7 : C 2 ≤ (j : Int) := hb
    refine x_return k_130_51 ?_
    have e : (C 2).toNat = j := by omega
    rw [e] at k
    exact k h M V
  · have c7 : ¬ (C 2 ≤ (j : Int)) := hb
    refine x_aload_n k_130_10 rfl ?_
    refine x_get k_130_11 M.1 rfl ?_
    refine x_iload_n k_130_14 rfl ?_
    refine y_baload (m := j) k_130_15 M.a2 rfl (by omega) ?_
    have f15 := b.v2 (j)
    refine x_ifne (t := 45) k_130_16 rfl (by show inR (A 2 j); omega) (fun hb => ?_) (fun hb => ?_)
    · have c16 : ¬ A 2 j = 0 := hb
      refine x_inc3 k_130_45 rfl ?_
      refine x_goto (t := 2) k_130_48 rfl ?_
      exact ih (n - 1) (by omega) (j + 1) (by omega) h (M.ce (upe (fun q => lckF_n (fun z => by obtain ⟨z1, z2, z3⟩ := z; omega)))) V
    · have c16 : ¬ (¬ A 2 j = 0) := hb
      refine x_aload_n k_130_19 rfl ?_
      refine x_get k_130_20 M.1 rfl ?_
      refine x_iload_n k_130_23 rfl ?_
      refine y_iaload (m := j) k_130_24 M.a0 (Or.inl rfl) rfl (by omega) ?_
      have f24 := b.v0 (j)
      refine x_iload_n k_130_25 rfl ?_
      refine x_icmpne (t := 45) k_130_26 rfl (by show inR (A 0 j) ∧ inR ((s : Int)); omega) (fun hb => ?_) (fun hb => ?_)
      · have c26 : ¬ A 0 j = (s : Int) := hb
        refine x_inc3 k_130_45 rfl ?_
        refine x_goto (t := 2) k_130_48 rfl ?_
        exact ih (n - 1) (by omega) (j + 1) (by omega) h (M.ce (upe (fun q => lckF_n (fun z => by obtain ⟨z1, z2, z3⟩ := z; omega)))) V
      · have c26 : ¬ (¬ A 0 j = (s : Int)) := hb
        refine x_aload_n k_130_29 rfl ?_
        refine x_iload_n k_130_30 rfl ?_
        refine x_iload_n k_130_31 rfl ?_
        refine x_call3 k_130_32 (Nat.le_of_ble_eq_true rfl) (rcv_1 M.1) (Nat.le_of_ble_eq_true rfl) ?_
        refine r_wrote (t := t) (o := j) M (b.s1 (lckF_b b ht)) (by omega) (by omega) (bh_1 ?_)
        refine x_ifeq_b (t := 45) k_130_35 rfl (fun c35 => ?_) (fun c35 => ?_)
        · refine x_inc3 k_130_45 rfl ?_
          refine x_goto (t := 2) k_130_48 rfl ?_
          exact ih (n - 1) (by omega) (j + 1) (by omega) h (M.ce (upe (fun q => lckF_n (fun z => by obtain ⟨z1, z2, z3⟩ := z; rw [show wrtB C A t j = false from c35] at z3; cases z3)))) V
        · refine x_aload_n k_130_38 rfl ?_
          refine x_get k_130_39 M.1 rfl ?_
          refine x_iload_n k_130_42 rfl ?_
          refine x_iload_n k_130_43 rfl ?_
          refine y_iastore (m := j) k_130_44 M.a1 rfl (by omega) ?_
          refine mgo (M.s1 _) (V.tr (Mv.ma (Nat.le_of_ble_eq_true rfl))) (fun h M V => ?_)
          refine x_inc3 k_130_45 rfl ?_
          refine x_goto (t := 2) k_130_48 rfl ?_
          exact ih (n - 1) (by omega) (j + 1) (by omega) h (M.ce (up2.trans (upe (fun q => lckF_y ⟨by omega, by omega, c35⟩)))) V
theorem r_locks (M : MP am ad C A h) (b : RB C A) {t s : Nat} (ht : t < 500) (hs : s < 6) (k : ∀ h', MP am ad C (up A 1 (lckF C A t s (C 2).toNat)) h' → Mv am ad h h' → Q (.inl none) h') : Rn 130 0 (entL 130 [aR am, aI t, aI s]) [] h Q := by
  show Rn 130 0 [some (aR am), some (aI ((t : Int))), some (aI ((s : Int))), none] [] h Q
  refine x_iconst k_130_0 ?_
  refine x_is3n k_130_1 rfl ?_
  refine lp_locks b ht hs k (C 2).toNat 0 (by omega) h (M.ce (upself (fun q => ?_)).symm) Mv.rf
  exact if_neg (by omega)
theorem lp_unlock {h0 : AH} (b : RB C A) {t s : Nat} (ht : t < 500) (hs : s < 6) (k : ∀ h', MP am ad C (up A 1 (unlF A t s (C 2).toNat)) h' → Mv am ad h0 h' → Q (.inl none) h') : ∀ n j : Nat, j + n = (C 2).toNat → ∀ h, MP am ad C (up A 1 (unlF A t s j)) h → Mv am ad h0 h → Rn 124 2 [some (aR am), some (aI ((t : Int))), some (aI ((s : Int))), some (aI ((j : Int)))] [] h Q := by
  intro n
  induction n using Nat.strongRecOn with | ind n ih => ?_
  intro j hj h M V
  have hc2 := b.c2
  refine x_iload_n k_124_2 rfl ?_
  refine x_aload_n k_124_3 rfl ?_
  refine x_get k_124_4 M.1 rfl ?_
  have f4 := b.c2
  refine x_icmpge (t := 43) k_124_7 rfl (by show inR ((j : Int)) ∧ inR (C 2); omega) (fun hb => ?_) (fun hb => ?_)
  · have c7 : C 2 ≤ (j : Int) := hb
    refine x_return k_124_43 ?_
    have e : (C 2).toNat = j := by omega
    rw [e] at k
    exact k h M V
  · have c7 : ¬ (C 2 ≤ (j : Int)) := hb
    refine x_aload_n k_124_10 rfl ?_
    refine x_get k_124_11 M.1 rfl ?_
    refine x_iload_n k_124_14 rfl ?_
    refine y_iaload (m := j) k_124_15 M.a0 (Or.inl rfl) rfl (by omega) ?_
    have f15 := b.v0 (j)
    refine x_iload_n k_124_16 rfl ?_
    refine x_icmpne (t := 37) k_124_17 rfl (by show inR (A 0 j) ∧ inR ((s : Int)); omega) (fun hb => ?_) (fun hb => ?_)
    · have c17 : ¬ A 0 j = (s : Int) := hb
      refine x_inc3 k_124_37 rfl ?_
      refine x_goto (t := 2) k_124_40 rfl ?_
      exact ih (n - 1) (by omega) (j + 1) (by omega) h (M.ce (upe (fun q => unlF_n (by omega)))) V
    · have c17 : ¬ (¬ A 0 j = (s : Int)) := hb
      have e25 : unlF A t s j j = A 1 j := if_neg (by omega)
      have f25 := b.v1 j
      refine x_aload_n k_124_20 rfl ?_
      refine x_get k_124_21 M.1 rfl ?_
      refine x_iload_n k_124_24 rfl ?_
      refine y_iaload (m := j) k_124_25 M.a1 (Or.inl rfl) rfl (by omega) ?_
      refine x_iload_n k_124_26 rfl ?_
      refine x_icmpne (t := 37) k_124_27 rfl (by show inR ((unlF A t s j) j) ∧ inR ((t : Int)); omega) (fun hb => ?_) (fun hb => ?_)
      · have c27 : ¬ (unlF A t s j) j = (t : Int) := hb
        refine x_inc3 k_124_37 rfl ?_
        refine x_goto (t := 2) k_124_40 rfl ?_
        exact ih (n - 1) (by omega) (j + 1) (by omega) h (M.ce (upe (fun q => unlF_n (by omega)))) V
      · have c27 : ¬ (¬ (unlF A t s j) j = (t : Int)) := hb
        refine x_aload_n k_124_30 rfl ?_
        refine x_get k_124_31 M.1 rfl ?_
        refine x_iload_n k_124_34 rfl ?_
        refine x_iconst k_124_35 ?_
        refine y_iastore (m := j) k_124_36 M.a1 rfl (by omega) ?_
        refine mgo (M.s1 _) (V.tr (Mv.ma (Nat.le_of_ble_eq_true rfl))) (fun h M V => ?_)
        refine x_inc3 k_124_37 rfl ?_
        refine x_goto (t := 2) k_124_40 rfl ?_
        exact ih (n - 1) (by omega) (j + 1) (by omega) h (M.ce (up2.trans (upe (fun q => unlF_y ⟨by omega, by omega⟩)))) V
theorem r_unlock (M : MP am ad C A h) (b : RB C A) {t s : Nat} (ht : t < 500) (hs : s < 6) (k : ∀ h', MP am ad C (up A 1 (unlF A t s (C 2).toNat)) h' → Mv am ad h h' → Q (.inl none) h') : Rn 124 0 (entL 124 [aR am, aI t, aI s]) [] h Q := by
  show Rn 124 0 [some (aR am), some (aI ((t : Int))), some (aI ((s : Int))), none] [] h Q
  refine x_iconst k_124_0 ?_
  refine x_is3n k_124_1 rfl ?_
  refine lp_unlock b ht hs k (C 2).toNat 0 (by omega) h (M.ce (upself (fun q => ?_)).symm) Mv.rf
  exact if_neg (by omega)
/-- one more message -/
def sndC (C : Nat → Int) : Nat → Int := up C 5 (C 5 + 1)
def sndA (C : Nat → Int) (A : Nat → Nat → Int) (a d s t : Int) : Nat → Nat → Int := up (up (up (up A 16 (up (A 16) (C 5).toNat a)) 17 (up (A 17) (C 5).toNat d)) 18 (up (A 18) (C 5).toNat s)) 19 (up (A 19) (C 5).toNat t)
theorem r_send (M : MP am ad C A h) (b : RB C A) {a d s t : Int} (k : ∀ h', MP am ad (sndC C) (sndA C A a d s t) h' → Mv am ad h h' → Q (.inl none) h') : Rn 125 0 (entL 125 [aR am, aI a, aI d, aI s, aI t]) [] h Q := by
  show Rn 125 0 [some (aR am), some (aI (a)), some (aI (d)), some (aI (s)), some (aI (t))] [] h Q
  have V : Mv am ad h h := Mv.rf
  refine x_aload_n k_125_0 rfl ?_
  refine x_get k_125_1 M.1 rfl ?_
  refine x_aload_n k_125_4 rfl ?_
  refine x_get k_125_5 M.1 rfl ?_
  have f5 := b.c5
  refine x_iload_n k_125_8 rfl ?_
  refine y_iastore (m := (C 5).toNat) k_125_9 M.a16 (show C 5 = (((C 5).toNat : Nat) : Int) by omega) (by omega) ?_
  refine mgo (M.s16 _) (V.tr (Mv.ma (Nat.le_of_ble_eq_true rfl))) (fun h M V => ?_)
  refine x_aload_n k_125_10 rfl ?_
  refine x_get k_125_11 M.1 rfl ?_
  refine x_aload_n k_125_14 rfl ?_
  refine x_get k_125_15 M.1 rfl ?_
  have f15 := b.c5
  refine x_iload_n k_125_18 rfl ?_
  refine y_iastore (m := (C 5).toNat) k_125_19 M.a17 (show C 5 = (((C 5).toNat : Nat) : Int) by omega) (by omega) ?_
  refine mgo (M.s17 _) (V.tr (Mv.ma (Nat.le_of_ble_eq_true rfl))) (fun h M V => ?_)
  refine x_aload_n k_125_20 rfl ?_
  refine x_get k_125_21 M.1 rfl ?_
  refine x_aload_n k_125_24 rfl ?_
  refine x_get k_125_25 M.1 rfl ?_
  have f25 := b.c5
  refine x_iload_n k_125_28 rfl ?_
  refine y_iastore (m := (C 5).toNat) k_125_29 M.a18 (show C 5 = (((C 5).toNat : Nat) : Int) by omega) (by omega) ?_
  refine mgo (M.s18 _) (V.tr (Mv.ma (Nat.le_of_ble_eq_true rfl))) (fun h M V => ?_)
  refine x_aload_n k_125_30 rfl ?_
  refine x_get k_125_31 M.1 rfl ?_
  refine x_aload_n k_125_34 rfl ?_
  refine x_get k_125_35 M.1 rfl ?_
  have f35 := b.c5
  refine x_iload k_125_38 rfl ?_
  refine y_iastore (m := (C 5).toNat) k_125_40 M.a19 (show C 5 = (((C 5).toNat : Nat) : Int) by omega) (by omega) ?_
  refine mgo (M.s19 _) (V.tr (Mv.ma (Nat.le_of_ble_eq_true rfl))) (fun h M V => ?_)
  refine x_aload_n k_125_41 rfl ?_
  refine x_dup k_125_42 rfl ?_
  refine x_get k_125_43 M.1 rfl ?_
  have f43 := b.c5
  refine x_iconst k_125_46 ?_
  refine x_iadd k_125_47 ?_
  refine x_put k_125_48 M.1 (Nat.le_of_ble_eq_true rfl) rfl ?_
  refine mgo (M.c5 _) (V.tr Mv.mo) (fun h M V => ?_)
  refine x_return k_125_51 ?_
  exact k h M V
abbrev cbq (A : Nat → Nat → Int) (t s u : Nat) : Prop := A 6 (6 * t + u) ≤ A 13 (6 * s + u)
def cbP (C : Nat → Int) (A : Nat → Nat → Int) (t s : Nat) : Prop := A 5 t = A 13 (6 * s + (A 3 t).toNat) + 1 ∧ ∀ u, u < (C 1).toNat → cbq A t s u
theorem lp_canBe (M : MP am ad C A h) (b : RB C A) {t s : Nat} (ht : t < 500) (hs : s < 6) (h5 : A 5 t = A 13 (6 * s + (A 3 t).toNat) + 1) (k : Q (.inl (some (aI (pI (cbP C A t s))))) h) : ∀ n j : Nat, j + n = (C 1).toNat → (∀ q, q < j → cbq A t s q) → Rn 127 31 [some (aR am), some (aI ((t : Int))), some (aI ((s : Int))), some (aI ((j : Int)))] [] h Q := by
  intro n
  induction n using Nat.strongRecOn with | ind n ih => ?_
  intro j hj hq
  have hc1 := b.c1
  refine x_iload_n k_127_31 rfl ?_
  refine x_aload_n k_127_32 rfl ?_
  refine x_get k_127_33 M.1 rfl ?_
  have f33 := b.c1
  refine x_icmpge (t := 72) k_127_36 rfl (by show inR ((j : Int)) ∧ inR (C 1); omega) (fun hb => ?_) (fun hb => ?_)
  · have c36 : C 1 ≤ (j : Int) := hb
    refine x_iconst k_127_72 ?_
    refine x_zreturn k_127_73 rfl (by first | exact Or.inl rfl | exact Or.inr rfl) ?_
    exact ret_1P ⟨h5, fun u hu => hq u (by omega)⟩ k
  · have c36 : ¬ (C 1 ≤ (j : Int)) := hb
    refine x_aload_n k_127_39 rfl ?_
    refine x_get k_127_40 M.1 rfl ?_
    refine x_bipush k_127_43 ?_
    refine x_iload_n k_127_45 rfl ?_
    refine x_imul k_127_46 ?_
    refine x_iload_n k_127_47 rfl ?_
    refine x_iadd k_127_48 ?_
    refine y_iaload (m := 6 * t + j) k_127_49 M.a6 (Or.inl rfl) (show ((6 * (t : Int)) + (j : Int)) = ((6 * t + j : Nat) : Int) by omega) (by omega) ?_
    have f49 := b.v6 (6 * t + j)
    refine x_aload_n k_127_50 rfl ?_
    refine x_get k_127_51 M.1 rfl ?_
    refine x_bipush k_127_54 ?_
    refine x_iload_n k_127_56 rfl ?_
    refine x_imul k_127_57 ?_
    refine x_iload_n k_127_58 rfl ?_
    refine x_iadd k_127_59 ?_
    refine y_iaload (m := 6 * s + j) k_127_60 M.a13 (Or.inl rfl) (show ((6 * (s : Int)) + (j : Int)) = ((6 * s + j : Nat) : Int) by omega) (by omega) ?_
    have f60 := b.v13 (6 * s + j)
    refine x_icmple (t := 66) k_127_61 rfl (by show inR (A 6 (6 * t + j)) ∧ inR (A 13 (6 * s + j)); omega) (fun hb => ?_) (fun hb => ?_)
    · have c61 : A 6 (6 * t + j) ≤ A 13 (6 * s + j) := hb
      refine x_inc3 k_127_66 rfl ?_
      refine x_goto (t := 31) k_127_69 rfl ?_
      exact ih (n - 1) (by omega) (j + 1) (by omega) (fun q hq1 => (Nat.lt_or_ge q j).elim (fun z => hq q z) (fun z => (show q = j by omega) ▸ c61))
    · have c61 : ¬ (A 6 (6 * t + j) ≤ A 13 (6 * s + j)) := hb
      refine x_iconst k_127_64 ?_
      refine x_zreturn k_127_65 rfl (by first | exact Or.inl rfl | exact Or.inr rfl) ?_
      exact ret_0P (fun z => c61 (z.2 j (by omega))) k
theorem r_canBe (M : MP am ad C A h) (b : RB C A) {t s : Nat} (ht : t < 500) (hs : s < 6) (k : Q (.inl (some (aI (pI (cbP C A t s))))) h) : Rn 127 0 (entL 127 [aR am, aI t, aI s]) [] h Q := by
  show Rn 127 0 [some (aR am), some (aI ((t : Int))), some (aI ((s : Int))), none] [] h Q
  refine x_aload_n k_127_0 rfl ?_
  refine x_get k_127_1 M.1 rfl ?_
  refine x_iload_n k_127_4 rfl ?_
  refine y_iaload (m := t) k_127_5 M.a5 (Or.inl rfl) rfl (by omega) ?_
  have f5 := b.v5 (t)
  refine x_aload_n k_127_6 rfl ?_
  refine x_get k_127_7 M.1 rfl ?_
  refine x_bipush k_127_10 ?_
  refine x_iload_n k_127_12 rfl ?_
  refine x_imul k_127_13 ?_
  refine x_aload_n k_127_14 rfl ?_
  refine x_get k_127_15 M.1 rfl ?_
  refine x_iload_n k_127_18 rfl ?_
  refine y_iaload (m := t) k_127_19 M.a3 (Or.inl rfl) rfl (by omega) ?_
  have f19 := b.v3 (t)
  refine x_iadd k_127_20 ?_
  refine y_iaload (m := 6 * s + (A 3 t).toNat) k_127_21 M.a13 (Or.inl rfl) (show ((6 * (s : Int)) + A 3 t) = ((6 * s + (A 3 t).toNat : Nat) : Int) by omega) (by omega) ?_
  have f21 := b.v13 (6 * s + (A 3 t).toNat)
  refine x_iconst k_127_22 ?_
  refine x_iadd k_127_23 ?_
  refine x_icmpeq (t := 29) k_127_24 rfl (by show inR (A 5 t) ∧ inR ((A 13 (6 * s + (A 3 t).toNat) + 1)); omega) (fun hb => ?_) (fun hb => ?_)
  · have c24 : A 5 t = (A 13 (6 * s + (A 3 t).toNat) + 1) := hb
    refine x_iconst k_127_29 ?_
    refine x_is3n k_127_30 rfl ?_
    exact lp_canBe M b ht hs (by omega) k (C 1).toNat 0 (by omega) (fun q hq => absurd hq (Nat.not_lt_zero q))
  · have c24 : ¬ (A 5 t = (A 13 (6 * s + (A 3 t).toNat) + 1)) := hb
    refine x_iconst k_127_27 ?_
    refine x_zreturn k_127_28 rfl (by first | exact Or.inl rfl | exact Or.inr rfl) ?_
    exact ret_0P (fun z => c24 z.1) k
end M5
end
