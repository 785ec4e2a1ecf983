section
-- ===== PART A: goes FIRST, ahead of the names: the tables' words, and 'selects' of the private methods out of them =====
/-- a private method of a class that the tables say can be made, by its rows of tables_1 -/
def lw_okq (q : MethodName × Nat) : Prop := (q.1.cls ≠ "java/lang/invoke/MethodHandle" ∧ q.1.cls ≠ "java/lang/invoke/VarHandle") ∧ Cond.instantiable q.1.cls q.2 ∈ tables_1 ∧ Cond.privateMethod q.1 ∈ tables_1 ∧ Cond.instanceMethod q.1 ∈ tables_1
theorem lw_p0 : lw_okq (⟨"Slidewarden", "checkVersion", "(I)V"⟩, 12) := ⟨⟨by decide +kernel, by decide +kernel⟩, List.mem_of_getElem? (i := 17) (by decide +kernel), List.mem_of_getElem? (i := 160) (by decide +kernel), List.mem_of_getElem? (i := 161) (by decide +kernel)⟩
theorem lw_p1 : lw_okq (⟨"java/lang/Throwable", "fillInStackTrace", "(I)Ljava/lang/Throwable;"⟩, 6) := ⟨⟨by decide +kernel, by decide +kernel⟩, List.mem_of_getElem? (i := 202) (by decide +kernel), List.mem_of_getElem? (i := 200) (by decide +kernel), List.mem_of_getElem? (i := 201) (by decide +kernel)⟩
theorem lw_p2 : lw_okq (⟨"Slidewarden", "checkBranch", "(I)V"⟩, 12) := ⟨⟨by decide +kernel, by decide +kernel⟩, List.mem_of_getElem? (i := 17) (by decide +kernel), List.mem_of_getElem? (i := 255) (by decide +kernel), List.mem_of_getElem? (i := 256) (by decide +kernel)⟩
theorem lw_p3 : lw_okq (⟨"Slidewarden", "headDeck", "(I)LSlidewarden$Deck;"⟩, 12) := ⟨⟨by decide +kernel, by decide +kernel⟩, List.mem_of_getElem? (i := 17) (by decide +kernel), List.mem_of_getElem? (i := 260) (by decide +kernel), List.mem_of_getElem? (i := 261) (by decide +kernel)⟩
theorem lw_p4 : lw_okq (⟨"Slidewarden", "checkRoomForVersion", "()V"⟩, 12) := ⟨⟨by decide +kernel, by decide +kernel⟩, List.mem_of_getElem? (i := 17) (by decide +kernel), List.mem_of_getElem? (i := 267) (by decide +kernel), List.mem_of_getElem? (i := 268) (by decide +kernel)⟩
theorem lw_p5 : lw_okq (⟨"Slidewarden", "makeVersion", "(II)LSlidewarden$Deck;"⟩, 12) := ⟨⟨by decide +kernel, by decide +kernel⟩, List.mem_of_getElem? (i := 17) (by decide +kernel), List.mem_of_getElem? (i := 272) (by decide +kernel), List.mem_of_getElem? (i := 273) (by decide +kernel)⟩
theorem lw_p6 : lw_okq (⟨"Slidewarden$Deck", "move", "(II)V"⟩, 3) := ⟨⟨by decide +kernel, by decide +kernel⟩, List.mem_of_getElem? (i := 31) (by decide +kernel), List.mem_of_getElem? (i := 287) (by decide +kernel), List.mem_of_getElem? (i := 288) (by decide +kernel)⟩
theorem lw_p7 : lw_okq (⟨"Slidewarden", "placeInHead", "(II)I"⟩, 12) := ⟨⟨by decide +kernel, by decide +kernel⟩, List.mem_of_getElem? (i := 17) (by decide +kernel), List.mem_of_getElem? (i := 307) (by decide +kernel), List.mem_of_getElem? (i := 308) (by decide +kernel)⟩
theorem lw_p8 : lw_okq (⟨"Slidewarden", "checkSlide", "(I)V"⟩, 12) := ⟨⟨by decide +kernel, by decide +kernel⟩, List.mem_of_getElem? (i := 17) (by decide +kernel), List.mem_of_getElem? (i := 377) (by decide +kernel), List.mem_of_getElem? (i := 378) (by decide +kernel)⟩
theorem lw_p9 : lw_okq (⟨"Slidewarden", "baseOf", "(II)I"⟩, 12) := ⟨⟨by decide +kernel, by decide +kernel⟩, List.mem_of_getElem? (i := 17) (by decide +kernel), List.mem_of_getElem? (i := 406) (by decide +kernel), List.mem_of_getElem? (i := 407) (by decide +kernel)⟩
theorem lw_p10 : lw_okq (⟨"Slidewarden", "mergeOf", "(II)LSlidewarden$Merge;"⟩, 12) := ⟨⟨by decide +kernel, by decide +kernel⟩, List.mem_of_getElem? (i := 17) (by decide +kernel), List.mem_of_getElem? (i := 417) (by decide +kernel), List.mem_of_getElem? (i := 418) (by decide +kernel)⟩
theorem lw_p11 : lw_okq (⟨"Slidewarden$Merge", "isSlideClash", "(I)Z"⟩, 3) := ⟨⟨by decide +kernel, by decide +kernel⟩, List.mem_of_getElem? (i := 421) (by decide +kernel), List.mem_of_getElem? (i := 441) (by decide +kernel), List.mem_of_getElem? (i := 442) (by decide +kernel)⟩
theorem lw_p12 : lw_okq (⟨"Slidewarden$Merge", "isObjectClash", "(II)Z"⟩, 3) := ⟨⟨by decide +kernel, by decide +kernel⟩, List.mem_of_getElem? (i := 421) (by decide +kernel), List.mem_of_getElem? (i := 453) (by decide +kernel), List.mem_of_getElem? (i := 454) (by decide +kernel)⟩
theorem lw_p13 : lw_okq (⟨"Slidewarden$Merge", "isKept", "(II)Z"⟩, 3) := ⟨⟨by decide +kernel, by decide +kernel⟩, List.mem_of_getElem? (i := 421) (by decide +kernel), List.mem_of_getElem? (i := 470) (by decide +kernel), List.mem_of_getElem? (i := 471) (by decide +kernel)⟩
theorem lw_p14 : lw_okq (⟨"Slidewarden$Merge", "keptValue", "(III)I"⟩, 3) := ⟨⟨by decide +kernel, by decide +kernel⟩, List.mem_of_getElem? (i := 421) (by decide +kernel), List.mem_of_getElem? (i := 474) (by decide +kernel), List.mem_of_getElem? (i := 475) (by decide +kernel)⟩
theorem lw_p15 : lw_okq (⟨"Slidewarden$Merge", "append", "(LSlidewarden$Deck;II)V"⟩, 3) := ⟨⟨by decide +kernel, by decide +kernel⟩, List.mem_of_getElem? (i := 421) (by decide +kernel), List.mem_of_getElem? (i := 495) (by decide +kernel), List.mem_of_getElem? (i := 496) (by decide +kernel)⟩
def lw_privs_1 : List (MethodName × Nat) := [(⟨"Slidewarden", "checkVersion", "(I)V"⟩, 12), (⟨"java/lang/Throwable", "fillInStackTrace", "(I)Ljava/lang/Throwable;"⟩, 6), (⟨"Slidewarden", "checkBranch", "(I)V"⟩, 12), (⟨"Slidewarden", "headDeck", "(I)LSlidewarden$Deck;"⟩, 12), (⟨"Slidewarden", "checkRoomForVersion", "()V"⟩, 12), (⟨"Slidewarden", "makeVersion", "(II)LSlidewarden$Deck;"⟩, 12), (⟨"Slidewarden$Deck", "move", "(II)V"⟩, 3), (⟨"Slidewarden", "placeInHead", "(II)I"⟩, 12), (⟨"Slidewarden", "checkSlide", "(I)V"⟩, 12), (⟨"Slidewarden", "baseOf", "(II)I"⟩, 12), (⟨"Slidewarden", "mergeOf", "(II)LSlidewarden$Merge;"⟩, 12), (⟨"Slidewarden$Merge", "isSlideClash", "(I)Z"⟩, 3), (⟨"Slidewarden$Merge", "isObjectClash", "(II)Z"⟩, 3), (⟨"Slidewarden$Merge", "isKept", "(II)Z"⟩, 3), (⟨"Slidewarden$Merge", "keptValue", "(III)I"⟩, 3), (⟨"Slidewarden$Merge", "append", "(LSlidewarden$Deck;II)V"⟩, 3)]
theorem lw_r1 : ∀ q ∈ lw_privs_1, lw_okq q := List.forall_mem_cons.mpr ⟨lw_p0, List.forall_mem_cons.mpr ⟨lw_p1, List.forall_mem_cons.mpr ⟨lw_p2, List.forall_mem_cons.mpr ⟨lw_p3, List.forall_mem_cons.mpr ⟨lw_p4, List.forall_mem_cons.mpr ⟨lw_p5, List.forall_mem_cons.mpr ⟨lw_p6, List.forall_mem_cons.mpr ⟨lw_p7, List.forall_mem_cons.mpr ⟨lw_p8, List.forall_mem_cons.mpr ⟨lw_p9, List.forall_mem_cons.mpr ⟨lw_p10, List.forall_mem_cons.mpr ⟨lw_p11, List.forall_mem_cons.mpr ⟨lw_p12, List.forall_mem_cons.mpr ⟨lw_p13, List.forall_mem_cons.mpr ⟨lw_p14, List.forall_mem_cons.mpr ⟨lw_p15, fun _ h => absurd h List.not_mem_nil⟩⟩⟩⟩⟩⟩⟩⟩⟩⟩⟩⟩⟩⟩⟩⟩
theorem lw_p16 : lw_okq (⟨"Slidewarden", "countBlocks", "(LSlidewarden$Deck;)I"⟩, 12) := ⟨⟨by decide +kernel, by decide +kernel⟩, List.mem_of_getElem? (i := 17) (by decide +kernel), List.mem_of_getElem? (i := 501) (by decide +kernel), List.mem_of_getElem? (i := 502) (by decide +kernel)⟩
theorem lw_p17 : lw_okq (⟨"Slidewarden", "countBlocksAt", "(LSlidewarden$Deck;I)I"⟩, 12) := ⟨⟨by decide +kernel, by decide +kernel⟩, List.mem_of_getElem? (i := 17) (by decide +kernel), List.mem_of_getElem? (i := 505) (by decide +kernel), List.mem_of_getElem? (i := 506) (by decide +kernel)⟩
theorem lw_p18 : lw_okq (⟨"Slidewarden", "isBlocking", "(II)Z"⟩, 12) := ⟨⟨by decide +kernel, by decide +kernel⟩, List.mem_of_getElem? (i := 17) (by decide +kernel), List.mem_of_getElem? (i := 514) (by decide +kernel), List.mem_of_getElem? (i := 515) (by decide +kernel)⟩
theorem lw_p19 : lw_okq (⟨"Slidewarden", "isWaived", "(II)Z"⟩, 12) := ⟨⟨by decide +kernel, by decide +kernel⟩, List.mem_of_getElem? (i := 17) (by decide +kernel), List.mem_of_getElem? (i := 518) (by decide +kernel), List.mem_of_getElem? (i := 519) (by decide +kernel)⟩
theorem lw_p20 : lw_okq (⟨"Slidewarden", "checkRule", "(I)V"⟩, 12) := ⟨⟨by decide +kernel, by decide +kernel⟩, List.mem_of_getElem? (i := 17) (by decide +kernel), List.mem_of_getElem? (i := 540) (by decide +kernel), List.mem_of_getElem? (i := 541) (by decide +kernel)⟩
theorem lw_p21 : lw_okq (⟨"Slidewarden", "blockedVersions", "()J"⟩, 12) := ⟨⟨by decide +kernel, by decide +kernel⟩, List.mem_of_getElem? (i := 17) (by decide +kernel), List.mem_of_getElem? (i := 545) (by decide +kernel), List.mem_of_getElem? (i := 546) (by decide +kernel)⟩
theorem lw_p22 : lw_okq (⟨"SlidewardenModel", "isVersion", "(I)Z"⟩, 28) := ⟨⟨by decide +kernel, by decide +kernel⟩, List.mem_of_getElem? (i := 605) (by decide +kernel), List.mem_of_getElem? (i := 705) (by decide +kernel), List.mem_of_getElem? (i := 706) (by decide +kernel)⟩
theorem lw_p23 : lw_okq (⟨"SlidewardenModel", "isBranch", "(I)Z"⟩, 28) := ⟨⟨by decide +kernel, by decide +kernel⟩, List.mem_of_getElem? (i := 605) (by decide +kernel), List.mem_of_getElem? (i := 716) (by decide +kernel), List.mem_of_getElem? (i := 717) (by decide +kernel)⟩
theorem lw_p24 : lw_okq (⟨"SlidewardenModel", "edits", "(II)I"⟩, 28) := ⟨⟨by decide +kernel, by decide +kernel⟩, List.mem_of_getElem? (i := 605) (by decide +kernel), List.mem_of_getElem? (i := 720) (by decide +kernel), List.mem_of_getElem? (i := 721) (by decide +kernel)⟩
theorem lw_p25 : lw_okq (⟨"SlidewardenModel", "isInHead", "(II)Z"⟩, 28) := ⟨⟨by decide +kernel, by decide +kernel⟩, List.mem_of_getElem? (i := 605) (by decide +kernel), List.mem_of_getElem? (i := 728) (by decide +kernel), List.mem_of_getElem? (i := 729) (by decide +kernel)⟩
theorem lw_p26 : lw_okq (⟨"SlidewardenModel", "placeOf", "(II)I"⟩, 28) := ⟨⟨by decide +kernel, by decide +kernel⟩, List.mem_of_getElem? (i := 605) (by decide +kernel), List.mem_of_getElem? (i := 732) (by decide +kernel), List.mem_of_getElem? (i := 733) (by decide +kernel)⟩
theorem lw_p27 : lw_okq (⟨"SlidewardenModel", "layAncestors", "(IZ)I"⟩, 28) := ⟨⟨by decide +kernel, by decide +kernel⟩, List.mem_of_getElem? (i := 605) (by decide +kernel), List.mem_of_getElem? (i := 751) (by decide +kernel), List.mem_of_getElem? (i := 752) (by decide +kernel)⟩
theorem lw_p28 : lw_okq (⟨"SlidewardenModel", "isSlide", "(I)Z"⟩, 28) := ⟨⟨by decide +kernel, by decide +kernel⟩, List.mem_of_getElem? (i := 605) (by decide +kernel), List.mem_of_getElem? (i := 759) (by decide +kernel), List.mem_of_getElem? (i := 760) (by decide +kernel)⟩
theorem lw_p29 : lw_okq (⟨"SlidewardenModel", "valueOf", "(III)I"⟩, 28) := ⟨⟨by decide +kernel, by decide +kernel⟩, List.mem_of_getElem? (i := 605) (by decide +kernel), List.mem_of_getElem? (i := 763) (by decide +kernel), List.mem_of_getElem? (i := 764) (by decide +kernel)⟩
theorem lw_p30 : lw_okq (⟨"SlidewardenModel", "wrong", "(II)I"⟩, 28) := ⟨⟨by decide +kernel, by decide +kernel⟩, List.mem_of_getElem? (i := 605) (by decide +kernel), List.mem_of_getElem? (i := 775) (by decide +kernel), List.mem_of_getElem? (i := 776) (by decide +kernel)⟩
theorem lw_p31 : lw_okq (⟨"SlidewardenModel", "baseOf", "(II)I"⟩, 28) := ⟨⟨by decide +kernel, by decide +kernel⟩, List.mem_of_getElem? (i := 605) (by decide +kernel), List.mem_of_getElem? (i := 779) (by decide +kernel), List.mem_of_getElem? (i := 780) (by decide +kernel)⟩
def lw_privs_2 : List (MethodName × Nat) := [(⟨"Slidewarden", "countBlocks", "(LSlidewarden$Deck;)I"⟩, 12), (⟨"Slidewarden", "countBlocksAt", "(LSlidewarden$Deck;I)I"⟩, 12), (⟨"Slidewarden", "isBlocking", "(II)Z"⟩, 12), (⟨"Slidewarden", "isWaived", "(II)Z"⟩, 12), (⟨"Slidewarden", "checkRule", "(I)V"⟩, 12), (⟨"Slidewarden", "blockedVersions", "()J"⟩, 12), (⟨"SlidewardenModel", "isVersion", "(I)Z"⟩, 28), (⟨"SlidewardenModel", "isBranch", "(I)Z"⟩, 28), (⟨"SlidewardenModel", "edits", "(II)I"⟩, 28), (⟨"SlidewardenModel", "isInHead", "(II)Z"⟩, 28), (⟨"SlidewardenModel", "placeOf", "(II)I"⟩, 28), (⟨"SlidewardenModel", "layAncestors", "(IZ)I"⟩, 28), (⟨"SlidewardenModel", "isSlide", "(I)Z"⟩, 28), (⟨"SlidewardenModel", "valueOf", "(III)I"⟩, 28), (⟨"SlidewardenModel", "wrong", "(II)I"⟩, 28), (⟨"SlidewardenModel", "baseOf", "(II)I"⟩, 28)]
theorem lw_r2 : ∀ q ∈ lw_privs_2, lw_okq q := List.forall_mem_cons.mpr ⟨lw_p16, List.forall_mem_cons.mpr ⟨lw_p17, List.forall_mem_cons.mpr ⟨lw_p18, List.forall_mem_cons.mpr ⟨lw_p19, List.forall_mem_cons.mpr ⟨lw_p20, List.forall_mem_cons.mpr ⟨lw_p21, List.forall_mem_cons.mpr ⟨lw_p22, List.forall_mem_cons.mpr ⟨lw_p23, List.forall_mem_cons.mpr ⟨lw_p24, List.forall_mem_cons.mpr ⟨lw_p25, List.forall_mem_cons.mpr ⟨lw_p26, List.forall_mem_cons.mpr ⟨lw_p27, List.forall_mem_cons.mpr ⟨lw_p28, List.forall_mem_cons.mpr ⟨lw_p29, List.forall_mem_cons.mpr ⟨lw_p30, List.forall_mem_cons.mpr ⟨lw_p31, fun _ h => absurd h List.not_mem_nil⟩⟩⟩⟩⟩⟩⟩⟩⟩⟩⟩⟩⟩⟩⟩⟩
theorem lw_p32 : lw_okq (⟨"SlidewardenModel", "clashesOf", "(III)I"⟩, 28) := ⟨⟨by decide +kernel, by decide +kernel⟩, List.mem_of_getElem? (i := 605) (by decide +kernel), List.mem_of_getElem? (i := 787) (by decide +kernel), List.mem_of_getElem? (i := 788) (by decide +kernel)⟩
theorem lw_p33 : lw_okq (⟨"SlidewardenModel", "fate", "(IIII)I"⟩, 28) := ⟨⟨by decide +kernel, by decide +kernel⟩, List.mem_of_getElem? (i := 605) (by decide +kernel), List.mem_of_getElem? (i := 791) (by decide +kernel), List.mem_of_getElem? (i := 792) (by decide +kernel)⟩
theorem lw_p34 : lw_okq (⟨"SlidewardenModel", "isAs", "(III)Z"⟩, 28) := ⟨⟨by decide +kernel, by decide +kernel⟩, List.mem_of_getElem? (i := 605) (by decide +kernel), List.mem_of_getElem? (i := 795) (by decide +kernel), List.mem_of_getElem? (i := 796) (by decide +kernel)⟩
theorem lw_p35 : lw_okq (⟨"SlidewardenModel", "meets", "(IIIIIZ)I"⟩, 28) := ⟨⟨by decide +kernel, by decide +kernel⟩, List.mem_of_getElem? (i := 605) (by decide +kernel), List.mem_of_getElem? (i := 799) (by decide +kernel), List.mem_of_getElem? (i := 800) (by decide +kernel)⟩
theorem lw_p36 : lw_okq (⟨"SlidewardenModel", "settles", "(IIIIII)I"⟩, 28) := ⟨⟨by decide +kernel, by decide +kernel⟩, List.mem_of_getElem? (i := 605) (by decide +kernel), List.mem_of_getElem? (i := 807) (by decide +kernel), List.mem_of_getElem? (i := 808) (by decide +kernel)⟩
theorem lw_p37 : lw_okq (⟨"SlidewardenModel", "layDeck", "(IIII)V"⟩, 28) := ⟨⟨by decide +kernel, by decide +kernel⟩, List.mem_of_getElem? (i := 605) (by decide +kernel), List.mem_of_getElem? (i := 815) (by decide +kernel), List.mem_of_getElem? (i := 816) (by decide +kernel)⟩
theorem lw_p38 : lw_okq (⟨"SlidewardenModel", "lays", "(IIIII)V"⟩, 28) := ⟨⟨by decide +kernel, by decide +kernel⟩, List.mem_of_getElem? (i := 605) (by decide +kernel), List.mem_of_getElem? (i := 819) (by decide +kernel), List.mem_of_getElem? (i := 820) (by decide +kernel)⟩
theorem lw_p39 : lw_okq (⟨"SlidewardenModel", "isBlocked", "(III)Z"⟩, 28) := ⟨⟨by decide +kernel, by decide +kernel⟩, List.mem_of_getElem? (i := 605) (by decide +kernel), List.mem_of_getElem? (i := 823) (by decide +kernel), List.mem_of_getElem? (i := 824) (by decide +kernel)⟩
theorem lw_p40 : lw_okq (⟨"SlidewardenModel", "breaks", "(II)Z"⟩, 28) := ⟨⟨by decide +kernel, by decide +kernel⟩, List.mem_of_getElem? (i := 605) (by decide +kernel), List.mem_of_getElem? (i := 827) (by decide +kernel), List.mem_of_getElem? (i := 828) (by decide +kernel)⟩
theorem lw_p41 : lw_okq (⟨"SlidewardenModel", "isWaived", "(II)Z"⟩, 28) := ⟨⟨by decide +kernel, by decide +kernel⟩, List.mem_of_getElem? (i := 605) (by decide +kernel), List.mem_of_getElem? (i := 831) (by decide +kernel), List.mem_of_getElem? (i := 832) (by decide +kernel)⟩
theorem lw_p42 : lw_okq (⟨"SlidewardenModel", "blocksOf", "(I)I"⟩, 28) := ⟨⟨by decide +kernel, by decide +kernel⟩, List.mem_of_getElem? (i := 605) (by decide +kernel), List.mem_of_getElem? (i := 843) (by decide +kernel), List.mem_of_getElem? (i := 844) (by decide +kernel)⟩
def lw_privs_3 : List (MethodName × Nat) := [(⟨"SlidewardenModel", "clashesOf", "(III)I"⟩, 28), (⟨"SlidewardenModel", "fate", "(IIII)I"⟩, 28), (⟨"SlidewardenModel", "isAs", "(III)Z"⟩, 28), (⟨"SlidewardenModel", "meets", "(IIIIIZ)I"⟩, 28), (⟨"SlidewardenModel", "settles", "(IIIIII)I"⟩, 28), (⟨"SlidewardenModel", "layDeck", "(IIII)V"⟩, 28), (⟨"SlidewardenModel", "lays", "(IIIII)V"⟩, 28), (⟨"SlidewardenModel", "isBlocked", "(III)Z"⟩, 28), (⟨"SlidewardenModel", "breaks", "(II)Z"⟩, 28), (⟨"SlidewardenModel", "isWaived", "(II)Z"⟩, 28), (⟨"SlidewardenModel", "blocksOf", "(I)I"⟩, 28)]
theorem lw_r3 : ∀ q ∈ lw_privs_3, lw_okq q := List.forall_mem_cons.mpr ⟨lw_p32, List.forall_mem_cons.mpr ⟨lw_p33, List.forall_mem_cons.mpr ⟨lw_p34, List.forall_mem_cons.mpr ⟨lw_p35, List.forall_mem_cons.mpr ⟨lw_p36, List.forall_mem_cons.mpr ⟨lw_p37, List.forall_mem_cons.mpr ⟨lw_p38, List.forall_mem_cons.mpr ⟨lw_p39, List.forall_mem_cons.mpr ⟨lw_p40, List.forall_mem_cons.mpr ⟨lw_p41, List.forall_mem_cons.mpr ⟨lw_p42, fun _ h => absurd h List.not_mem_nil⟩⟩⟩⟩⟩⟩⟩⟩⟩⟩⟩
def lw_privs : List (MethodName × Nat) := lw_privs_1 ++ (lw_privs_2 ++ (lw_privs_3))
def lw_tbl : List Cond := k2_sels lw_privs ++ tables_1
theorem lw_privs_ok : ∀ q ∈ lw_privs, lw_okq q := by
  show ∀ q ∈ lw_privs_1 ++ (lw_privs_2 ++ (lw_privs_3)), lw_okq q
  exact List.forall_mem_append.mpr ⟨lw_r1, List.forall_mem_append.mpr ⟨lw_r2, lw_r3⟩⟩
end
section
/-! ===== BEGIN words of one list among another's, by their places ===== -/
theorem goodIn_r {big : List Cond} (ws : List Cond) (ps : List Nat) (hp : ws = ps.filterMap (fun i => big[i]?)) (h : ws.all goodWord = true) : GoodIn big ws := by
  intro w hw
  have h1 := List.all_eq_true.mp h w hw
  rw [hp] at hw
  obtain ⟨i, -, hi⟩ := List.mem_filterMap.mp hw
  have hm : w ∈ big := by first | exact List.mem_of_getElem? hi | exact List.getElem?_mem hi
  exact ⟨hm, good_of_word h1⟩
theorem goodIn_app {big a b : List Cond} (ha : GoodIn big a) (hb : GoodIn big b) : GoodIn big (a ++ b) := fun w h => (List.mem_append.mp h).elim (ha w) (hb w)
theorem goodIn_ca {big a b : List Cond} {c : Cond} (ha : GoodIn big (c :: a)) (hb : GoodIn big b) : GoodIn big (c :: (a ++ b)) := fun w h => (List.mem_cons.mp h).elim (fun e => ha w (List.mem_cons.mpr (Or.inl e))) (fun h => (List.mem_append.mp h).elim (fun h => ha w (List.mem_cons.mpr (Or.inr h))) (hb w))
theorem goodIn_sub {big ws : List Cond} (hm : ∀ w ∈ ws, w ∈ big) (h : ws.all goodWord = true) : GoodIn big ws := fun w hw => ⟨hm w hw, good_of_word (List.all_eq_true.mp h w hw)⟩
/-! ===== END ===== -/

/-! ===== BEGIN exceptions that leave a method, and their catching by the caller (launches without stack traces) ===== -/
section VXA
/-! The laws vx_back, vx_callV, vx_callS, vx_callSW, vx_throw0, vx_throwS follow proofs of the library, with one case more: JvmDerived/Free/Laws.lean (Back.of_free), Shelf42/LK1.lean (callV, callS), Shelf/KitTraced.lean (throwNew0V, throwNewS). -/
/-- where a method has thrown q: the class by its name, the cell, what was written, the world -/
def vx_T (XC : String → State → State → Prop) (st : State) (q : Addr) (t : State) (mc ms : Nat) (free : Addr → Prop) : Prop :=
  ∃ (E : String) (ce : Cell) (L : List Loc), XC E st t ∧ t.heap[q]? = some ce ∧ ce.vm = .none ∧ st.vm.findClass E = some ce.cls ∧ st.WarmedH t.vm ∧ st.sameButNew ({ t with vm := st.vm } : State) L mc ms ∧ ∀ z ∈ L, free z.base
def vx_Q (Qc : Array Value → State → Outcome → State → Prop) (XC : String → State → State → Prop) (mc ms : Nat) (free : Addr → Prop) : Array Value → State → Outcome → State → Prop := fun a st o t =>
  (Qc a st o t ∧ ∃ L, FrameEnd st o t L mc ms ∧ ∀ q ∈ L, free q.base) ∨ ∃ q, o = .threw q ∧ vx_T XC st q t mc ms free
/-- a callee that returns or throws -/
def vx_Met (l : Launch) (y : MethodName) (ws : List Cond) (rm : Room) (Pc : Array Value → State → Prop) (Qc : Array Value → State → Outcome → State → Prop) (XC : String → State → State → Prop) (mc ms : Nat) (free : Addr → Prop) : Prop :=
  MetFree l y (headSpec ws rm) Pc (fun _ _ _ _ _ => True) (vx_Q Qc XC mc ms free)
def vx_Post (XC : String → State → State → Prop) (mc ms : Nat) (free : Addr → Prop) : Pt → Array Value → Addr → Pt → Prop := fun A a q B =>
  ∃ (g : JFrame) (mk : MethodId) (t : State) (L : List Loc) (E : String) (ce : Cell), B.U.heap = t.heap ∧ B.U.vm = t.vm ∧ XC E (A.U.calling g mk a) t ∧ t.heap[q]? = some ce ∧ ce.vm = .none ∧ A.U.vm.findClass E = some ce.cls ∧ B.locs = A.locs ++ L ∧ (∀ z ∈ L, free z.base) ∧ B.cells = A.cells + mc ∧ B.slots = A.slots + ms
def vx_Back (l : Launch) (R : Room) (p : Program) (e : Env) (below : List Frame) (s : State) (sargs : Array Value) (y : MethodName) (len W9 : Nat)
    (Pre : Pt → Array Value → Prop) (Post : Pt → Array Value → Option Value → Pt → Prop) (PostX : Pt → Array Value → Addr → Pt → Prop) : Prop :=
  ∀ (m : MethodId) (meth : Method) (c : Code) (A : Pt) (g : JFrame) (ig : Instr) (mk : MethodId) (a : Array Value),
    Stand p l e R s m sargs below meth c A.U A.locs A.cells A.slots → g.method = m → g.locals.size = c.maxLocals → decode c.code g.pc = .ok (ig, len) →
    2 * g.monitorRoom + (g.stack.map fun v => v.category).sum ≤ W9 → A.U.methodNamed? y = some mk → Pre A a →
    (∃ (v : Option Value) (B : Pt), Stand p l e R s m sargs below meth c B.U B.locs B.cells B.slots ∧ Post A a v B ∧
      Steps p.tables e below (doInvoke e (A.U.setTop g) [] mk a).1 (B.U.setTop { g with pc := g.pc + len, stack := v.toList ++ g.stack })) ∨
    (∃ (q : Addr) (B : Pt), Stand p l e R s m sargs below meth c B.U B.locs B.cells B.slots ∧ PostX A a q B ∧
      Steps p.tables e below (doInvoke e (A.U.setTop g) [] mk a).1 ((B.U.setTop g).pushFrame (.throwing q)))
section Payer
variable {l : Launch} {R : Room} {p : Program} {e : Env} {below : List Frame} {s : State} {sargs : Array Value} {y : MethodName} {len W9 : Nat}
theorem vx_back {ws : List Cond} {rm : Room} {Pc : Array Value → State → Prop} {Qc : Array Value → State → Outcome → State → Prop} {XC : String → State → State → Prop} {mc ms : Nat} {free : Addr → Prop} {bytes : ByteArray} {maxL : Nat} {ret : Option FieldType}
    (hM : vx_Met l y ws rm Pc Qc XC mc ms free) (hblind : FrameBlind Pc) (hrc : rm.cells = mc) (hrs : rm.slots = ms)
    (hframes : rm.frames + 1 ≤ R.frames) (hlocals : W9 + (maxL + 11) + rm.locals ≤ R.locals)
    (hws : ∀ w ∈ ws, ∀ a' U, s.WarmedH U.vm → w.before a' U = true) (hcode : Cond.code y bytes maxL ret ∈ ws) (hinit : ∀ a' U, s.WarmedH U.vm → (Cond.initialized y.cls).before a' U = true) :
    vx_Back l R p e below s sargs y len W9 (PreOf R mc ms Pc) (PostOf Qc mc ms free) (vx_Post XC mc ms free) := by
  intro m meth c A g ig mk a X hg hsize hdg hW hn hp
  have h1 : (headSpec ws rm).pre.before a A.U = true := atoms_intro fun w hw => hws w hw _ _ X.warmed
  have h2 : (Cond.code y bytes maxL ret).before a A.U = true := hws _ hcode _ _ X.warmed
  have h3 : (Cond.initialized y.cls).before a A.U = true := hinit _ _ X.warmed
  have h4 : A.cells + (headSpec ws rm).room.cells ≤ R.cells := by rw [show (headSpec ws rm).room.cells = mc from hrc]; exact hp.1
  have h5 : A.slots + (headSpec ws rm).room.slots ≤ R.slots := by rw [show (headSpec ws rm).room.slots = ms from hrs]; exact hp.2.1
  have hPc : Pc a (A.U.calling g mk a) := hblind _ _ _ _ hp.2.2
  obtain ⟨U, Ls, c0, s0⟩ := A
  dsimp only [Pt.U, Pt.locs, Pt.cells, Pt.slots] at h1 h2 h3 h4 h5 X hn hPc ⊢
  obtain ⟨methY, cY, hmY, hcY, -, hlY, -, -, -, -⟩ := Cond.code_spec hn h2
  obtain ⟨kY, hkY, -⟩ := className_of_methodNamed hn
  have hinitY : kY.init = .initialized := Cond.initialized_spec (findClass_of_methodNamed hn) hkY h3
  have h : At U g.method c below := by rw [hg]; exact X.here
  have hlocals9 : W9 + (maxL + 11) + (headSpec ws rm).room.locals ≤ R.locals := hlocals
  have happ : (headSpec ws rm).appliesLoose y e.platform (U.calling g mk a) = true :=
    Spec.appliesLoose_calling (g := g) h hdg hn hkY hinitY
      (X.room_calling (g := g) (R' := (headSpec ws rm).room) hsize hmY hcY hframes (by rw [hlY]; omega) h4 h5) h1
  obtain ⟨mid, hmid⟩ := h.above
  have hfr : (U.setTop g).frames = (.java g :: mid) ++ below := by rw [State.frames_setTop' g h.top, hmid]; rfl
  obtain ⟨o, s₂, hsteps, -, hend, hq⟩ := Steps.callFree hM p X.admits X.cas X.clock (acts := []) hfr happ hPc trivial
  have hq' : vx_Q Qc XC mc ms free a (U.calling g mk a) o s₂ := hq
  rw [State.frames_setTop' g h.top] at hend
  obtain ⟨g₀, hg0⟩ := Option.isSome_iff_exists.mp h.top
  obtain ⟨r, hr⟩ := State.topJava?_eq_some.mp hg0
  have hr' : (({ U with heap := s₂.heap, slotsUsed := s₂.slotsUsed } : State).setVm s₂.vm).frames = .java g₀ :: r := hr
  rcases hq' with ⟨hqc, L, hfe, hL⟩ | ⟨q, rfl, E, ce, L, hx, hce, hcv, hcl, hW₂, hsm, hL⟩
  · obtain ⟨⟨v, rfl⟩, hW₂, e2, q2, q3, q4, q5, q6⟩ := id hfe
    have e3 : s₂ = ({ (U.calling g mk a).setFrames s₂.frames with heap := s₂.heap, slotsUsed := s₂.slotsUsed } : State).setVm s₂.vm := by
      have : s₂ = ({ s₂ with vm := (U.calling g mk a).vm } : State).setVm s₂.vm := rfl
      rw [e2] at this
      exact this
    obtain ⟨c₂, i₂, len₂, hc₂, hd₂, hf₂⟩ := hend
    have hW' : U.WarmedH s₂.vm := hW₂
    have hcc : c₂ = c := by
      have h1 : s₂.code? g.method = U.code? g.method := by
        rw [State.code?_eq, State.code?_eq, hW'.alike.method?]
      exact Option.some.inj (hc₂.symm.trans (h1.trans h.code))
    subst hcc
    have hlen : len₂ = len := by rw [hdg] at hd₂; cases hd₂; rfl
    subst hlen
    have hs₂ : s₂ = (({ U with heap := s₂.heap, slotsUsed := s₂.slotsUsed } : State).setVm s₂.vm).setTop { g with pc := g.pc + len₂, stack := v.toList ++ g.stack } := by
      refine e3.trans ?_
      rw [hf₂, State.calling_eq h.top, State.setFrames_setFrames, State.setTop_of_frames _ hr', hr]
      rfl
    have hsame : U.sameButNew ({ U with heap := s₂.heap, slotsUsed := s₂.slotsUsed } : State) L mc ms := by
      refine ⟨?_, q2, q3, q4, q5, q6⟩
      obtain ⟨t, ht, -⟩ := State.frames_cons hr
      show ({ U with heap := s₂.heap, slotsUsed := s₂.slotsUsed } : State) = { U.setFrames U.frames with heap := s₂.heap, slotsUsed := s₂.slotsUsed }
      rw [State.setFrames_self ht]
    subst hg
    refine Or.inl ⟨v, ⟨(({ U with heap := s₂.heap, slotsUsed := s₂.slotsUsed } : State).setVm s₂.vm), Ls ++ L, c0 + mc, s0 + ms⟩,
      ⟨X.admits, X.cas, X.clock, X.frames, X.room, X.hears, X.method, X.code, (X.here.setHeapUsed s₂.heap s₂.slotsUsed).setVm hW'.alike, X.tail, State.WarmedH.trans X.warmed hW', X.limits, X.bytes, X.same.trans (hsame.setVm s.vm)⟩,
      ⟨g, mk, s₂, L, rfl, rfl, hqc, rfl, hL, rfl, rfl⟩, ?_⟩
    show Steps p.tables e below _ ((({ U with heap := s₂.heap, slotsUsed := s₂.slotsUsed } : State).setVm s₂.vm).setTop { g with pc := g.pc + len₂, stack := v.toList ++ g.stack })
    rw [← hs₂]
    exact hsteps
  · obtain ⟨e2, q2, q3, q4, q5, q6⟩ := id hsm
    have e3 : s₂ = ({ (U.calling g mk a).setFrames s₂.frames with heap := s₂.heap, slotsUsed := s₂.slotsUsed } : State).setVm s₂.vm := by
      have : s₂ = ({ s₂ with vm := (U.calling g mk a).vm } : State).setVm s₂.vm := rfl
      rw [e2] at this
      exact this
    have hf₂ : s₂.frames = .throwing q :: .java g :: U.frames.tail := hend
    have hW' : U.WarmedH s₂.vm := hW₂
    have hs₂ : s₂ = ((({ U with heap := s₂.heap, slotsUsed := s₂.slotsUsed } : State).setVm s₂.vm).setTop g).pushFrame (.throwing q) := by
      refine e3.trans ?_
      rw [hf₂, State.calling_eq h.top, State.setFrames_setFrames, State.pushFrame, State.frames_setTop _ hr', State.setTop_of_frames _ hr', State.setFrames_setFrames, hr]
      rfl
    have hsame : U.sameButNew ({ U with heap := s₂.heap, slotsUsed := s₂.slotsUsed } : State) L mc ms := by
      refine ⟨?_, q2, q3, q4, q5, q6⟩
      obtain ⟨t, ht, -⟩ := State.frames_cons hr
      show ({ U with heap := s₂.heap, slotsUsed := s₂.slotsUsed } : State) = { U.setFrames U.frames with heap := s₂.heap, slotsUsed := s₂.slotsUsed }
      rw [State.setFrames_self ht]
    subst hg
    refine Or.inr ⟨q, ⟨(({ U with heap := s₂.heap, slotsUsed := s₂.slotsUsed } : State).setVm s₂.vm), Ls ++ L, c0 + mc, s0 + ms⟩,
      ⟨X.admits, X.cas, X.clock, X.frames, X.room, X.hears, X.method, X.code, (X.here.setHeapUsed s₂.heap s₂.slotsUsed).setVm hW'.alike, X.tail, State.WarmedH.trans X.warmed hW', X.limits, X.bytes, X.same.trans (hsame.setVm s.vm)⟩,
      ⟨g, mk, s₂, L, E, ce, rfl, rfl, hx, hce, hcv, hcl, rfl, hL, rfl, rfl⟩, ?_⟩
    show Steps p.tables e below _ (((({ U with heap := s₂.heap, slotsUsed := s₂.slotsUsed } : State).setVm s₂.vm).setTop g).pushFrame (.throwing q))
    rw [← hs₂]
    exact hsteps
end Payer
section Calls
variable {p : Program} {l : Launch} {e : Env} {R : Room} {s : State} {m : MethodId} {args : Array Value} {below : List Frame} {meth : Method} {c : Code} {T : State} {locs : List Loc} {cells slots : Nat}
theorem vx_callV (X : Stand p l e R s m args below meth c T locs cells slots) (hexec : p.tables.exec = Jvm.exec) {own C : String} {index : Nat} {y : MethodName} {bytes : ByteArray} {maxL : Nat} {ret : Option FieldType}
    (hown : s.vm.findClass own = some m.cls) (hlink : (Cond.methodLink own index y).before args s = true) (hinst : (Cond.instanceMethod y).before args s = true) (hsel : (Cond.selects C y y).before args s = true)
    (hcode : (Cond.code y bytes maxL ret).before args s = true) (hy : y.cls ≠ "java/lang/invoke/MethodHandle" ∧ y.cls ≠ "java/lang/invoke/VarHandle")
    {W9 : Nat} {Pre : Pt → Array Value → Prop} {Post : Pt → Array Value → Option Value → Pt → Prop} {PostX : Pt → Array Value → Addr → Pt → Prop} (hK : vx_Back l R p e below s args y 3 W9 Pre Post PostX)
    {b : Addr} {cellB : Cell} (hcell : T.heap[b]? = some cellB) (hobj : cellB.vm.isStatics = false) (hcls : s.vm.findClass C = some cellB.cls)
    {g : JFrame} (hg : g.method = m) (hsize : g.locals.size = c.maxLocals) {argsL rest : List Value} (hlen : ∀ sig, parseMethodDescriptor y.desc = some sig → argsL.length = sig.parameters.length)
    (hstack : g.stack = argsL.reverse ++ .ref b :: rest) (hW : 2 * g.monitorRoom + (rest.map fun v => v.category).sum ≤ W9) (hdg : decode c.code g.pc = .ok (.invokevirtual index, 3))
    (hpre : ∀ vm₁, s.WarmedH vm₁ → Pre ⟨T.setVm vm₁, locs, cells, slots⟩ (Value.ref b :: argsL).toArray) :
    (∃ (v : Option Value) (vm₁ : Vm) (B : Pt), s.WarmedH vm₁ ∧ Stand p l e R s m args below meth c B.U B.locs B.cells B.slots ∧ Post ⟨T.setVm vm₁, locs, cells, slots⟩ (Value.ref b :: argsL).toArray v B ∧
      ∀ target, Steps p.tables e below (B.U.setTop { g with pc := g.pc + 3, stack := v.toList ++ rest }) target → Steps p.tables e below (T.setTop g) target) ∨
    (∃ (q : Addr) (vm₁ : Vm) (B : Pt), s.WarmedH vm₁ ∧ Stand p l e R s m args below meth c B.U B.locs B.cells B.slots ∧ PostX ⟨T.setVm vm₁, locs, cells, slots⟩ (Value.ref b :: argsL).toArray q B ∧
      Steps p.tables e below (T.setTop g) ((B.U.setTop { g with stack := rest }).pushFrame (.throwing q))) := by
  obtain ⟨mk, methM, hnamed, hmethM, hstM, habM⟩ := Cond.instanceMethod_spec hinst
  obtain ⟨methM', cM, hmethM', -, -, -, -, -, -, hsigM⟩ := Cond.code_spec hnamed hcode
  cases hmethM.symm.trans hmethM'
  obtain ⟨c2, r2, m2, q1, q2, q3, q4, kP, hkP, hkPi⟩ := Cond.selects_spec hsel
  cases hcls.symm.trans q1
  cases (State.methodFound?_of_named hnamed hy).symm.trans q2
  cases hnamed.symm.trans q3
  have hselP : selectMethod e.platform s.vm cellB.cls mk = .method mk := by rw [Launch.admits_selectMethod X.admits]; exact q4
  obtain ⟨vm₁, X₁, hstep₁⟩ := X.invokevirtual hexec hown hlink hnamed hmethM hstM hkP hkPi hy (a := b) (cell := cellB) hcell
    (fun z h => by rw [h] at hobj; cases hobj) hselP hmethM habM hkP hkPi (g := g) hg (argsL := argsL) (rest := rest) (hlen _ hsigM) hstack hdg
  rcases hK m meth c ⟨T.setVm vm₁, locs, cells, slots⟩ { g with stack := rest } (.invokevirtual index) mk (Value.ref b :: argsL).toArray X₁ hg hsize hdg hW (X₁.named hnamed) (hpre vm₁ X₁.warmed) with ⟨v, B, X', hpost, hsteps⟩ | ⟨q, B, X', hpost, hsteps⟩
  · exact Or.inl ⟨v, vm₁, B, X₁.warmed, X', hpost, fun target h => hstep₁ _ fun acts => by rw [doInvoke_state]; exact hsteps.trans h⟩
  · exact Or.inr ⟨q, vm₁, B, X₁.warmed, X', hpost, hstep₁ _ fun acts => by rw [doInvoke_state]; exact hsteps⟩
theorem vx_callS (X : Stand p l e R s m args below meth c T locs cells slots) (hexec : p.tables.exec = Jvm.exec) {own : String} {index : Nat} {y : MethodName} {bytes : ByteArray} {maxL : Nat} {ret : Option FieldType}
    (hown : s.vm.findClass own = some m.cls) (hlink : (Cond.methodLink own index y).before args s = true) (hstat : (Cond.static y).before args s = true) (hinit : (Cond.initialized y.cls).before args s = true)
    (hcode : (Cond.code y bytes maxL ret).before args s = true) (hy : y.cls ≠ "java/lang/invoke/MethodHandle" ∧ y.cls ≠ "java/lang/invoke/VarHandle")
    {W9 : Nat} {Pre : Pt → Array Value → Prop} {Post : Pt → Array Value → Option Value → Pt → Prop} {PostX : Pt → Array Value → Addr → Pt → Prop} (hK : vx_Back l R p e below s args y 3 W9 Pre Post PostX)
    {g : JFrame} (hg : g.method = m) (hsize : g.locals.size = c.maxLocals) {argsL rest : List Value} (hlen : ∀ sig, parseMethodDescriptor y.desc = some sig → argsL.length = sig.parameters.length)
    (hstack : g.stack = argsL.reverse ++ rest) (hW : 2 * g.monitorRoom + (rest.map fun v => v.category).sum ≤ W9) (hdg : decode c.code g.pc = .ok (.invokestatic index, 3))
    (hpre : ∀ vm₁, s.WarmedH vm₁ → Pre ⟨T.setVm vm₁, locs, cells, slots⟩ argsL.toArray) :
    (∃ (v : Option Value) (vm₁ : Vm) (B : Pt), s.WarmedH vm₁ ∧ Stand p l e R s m args below meth c B.U B.locs B.cells B.slots ∧ Post ⟨T.setVm vm₁, locs, cells, slots⟩ argsL.toArray v B ∧
      ∀ target, Steps p.tables e below (B.U.setTop { g with pc := g.pc + 3, stack := v.toList ++ rest }) target → Steps p.tables e below (T.setTop g) target) ∨
    (∃ (q : Addr) (vm₁ : Vm) (B : Pt), s.WarmedH vm₁ ∧ Stand p l e R s m args below meth c B.U B.locs B.cells B.slots ∧ PostX ⟨T.setVm vm₁, locs, cells, slots⟩ argsL.toArray q B ∧
      Steps p.tables e below (T.setTop g) ((B.U.setTop { g with stack := rest }).pushFrame (.throwing q))) := by
  obtain ⟨mk, hnamed⟩ := Cond.code_named hcode
  obtain ⟨methM, cM, hmethM, -, -, -, -, -, -, hsigM⟩ := Cond.code_spec hnamed hcode
  have hstatic : methM.isStatic = true := Cond.static_spec hnamed hmethM hstat
  obtain ⟨kP, hkP, -⟩ := className_of_methodNamed hnamed
  have hinitP : kP.init = .initialized := Cond.initialized_spec (findClass_of_methodNamed hnamed) hkP hinit
  obtain ⟨vm₁, X₁, hstep₁⟩ := X.invokestatic hexec hown hlink hnamed hmethM hstatic hkP hinitP hy (g := g) hg (argsL := argsL) (rest := rest) (hlen _ hsigM) hstack hdg
  rcases hK m meth c ⟨T.setVm vm₁, locs, cells, slots⟩ { g with stack := rest } (.invokestatic index) mk argsL.toArray X₁ hg hsize hdg hW (X₁.named hnamed) (hpre vm₁ X₁.warmed) with ⟨v, B, X', hpost, hsteps⟩ | ⟨q, B, X', hpost, hsteps⟩
  · exact Or.inl ⟨v, vm₁, B, X₁.warmed, X', hpost, fun target h => hstep₁ _ fun acts => by rw [doInvoke_state]; exact hsteps.trans h⟩
  · exact Or.inr ⟨q, vm₁, B, X₁.warmed, X', hpost, hstep₁ _ fun acts => by rw [doInvoke_state]; exact hsteps⟩
end Calls
theorem vx_cls {s : State} {T : State} {vm₁ : Vm} {E : String} {k : ClassId} (hW : s.WarmedH vm₁) (h : (T.setVm vm₁).vm.findClass E = some k) : s.vm.findClass E = some k := by
  have h1 : vm₁.findClass E = some k := h
  rw [hW.alike.findClass] at h1
  exact h1
/-- the method's frame g, with q thrown over it -/
def vx_W (p : Program) (l : Launch) (e : Env) (R : Room) (s : State) (m : MethodId) (args : Array Value) (below : List Frame) (meth : Method) (c : Code) (H : Heap) (locs : List Loc) (cells slots : Nat) (Q : State → Prop) (g : JFrame) (q : Addr) : Prop :=
  ∀ T : State, T.heap = H → Stand p l e R s m args below meth c T locs cells slots → ∃ t, Steps p.tables e below ((T.setTop g).pushFrame (.throwing q)) t ∧ Q t
def vx_Run (p : Program) (l : Launch) (e : Env) (R : Room) (s : State) (m : MethodId) (args : Array Value) (below : List Frame) (meth : Method) (c : Code) (H : Heap) (locs : List Loc) (cells slots mc ms : Nat) (g : JFrame) (rest : List Value) (Qa : State → Outcome → State → Prop) (XC : String → State → State → Prop) (free : Addr → Prop) : Prop :=
  ∀ T : State, T.heap = H → Stand p l e R s m args below meth c T locs cells slots →
    (∃ (v : Option Value) (st₀ t T' : State) (L : List Loc), st₀.heap = H ∧ Stand p l e R s m args below meth c T' (locs ++ L) (cells + mc) (slots + ms) ∧ (∀ q ∈ L, free q.base) ∧ T'.heap = t.heap ∧ T'.vm = t.vm ∧ Qa st₀ (.returned v) t ∧
      Goes p e below T g T' { g with pc := g.pc + 3, stack := v.toList ++ rest }) ∨
    (∃ (q : Addr) (st₀ t T' : State) (L : List Loc) (E : String) (ce : Cell), st₀.heap = H ∧ Stand p l e R s m args below meth c T' (locs ++ L) (cells + mc) (slots + ms) ∧ (∀ z ∈ L, free z.base) ∧ T'.heap = t.heap ∧ T'.vm = t.vm ∧ XC E st₀ t ∧ t.heap[q]? = some ce ∧ ce.vm = .none ∧ s.vm.findClass E = some ce.cls ∧
      Steps p.tables e below (T.setTop g) ((T'.setTop { g with stack := rest }).pushFrame (.throwing q)))
def vx_X {S : Type} (px : S → Prop) (B : String → S → State → Prop) (A : Nat → Prop) : String → State → State → Prop := fun E st t => ∃ u : S, px u ∧ B E u t ∧ va_F A st t
section Runs
variable {p : Program} {l : Launch} {e : Env} {R : Room} {s : State} {m : MethodId} {args : Array Value} {below : List Frame} {meth : Method} {c : Code} {H : Heap} {locs : List Loc} {cells slots : Nat}
variable {y : MethodName} {bytes cc : ByteArray} {maxL nL mc ms n index : Nat} {ret : Option FieldType} {ws : List Cond} {rm : Room} {Pc : Array Value → State → Prop} {Qc : Array Value → State → Outcome → State → Prop} {XC : String → State → State → Prop} {free : Addr → Prop} {Ts : List Cond} {own C : String} {b : Addr} {As rest : List Value} {g : JFrame}
theorem vx_callBack (cb : CallB R s args own index y bytes maxL ret ws rm mc ms n) (hM : vx_Met l y ws rm Pc Qc XC mc ms free) (hbl : FrameBlind Pc) : vx_Back l R p e below s args y 3 8 (PreOf R mc ms Pc) (PostOf Qc mc ms free) (vx_Post XC mc ms free) := by
  obtain ⟨hrc, hrs, hfr, hlo, hws, hcw, -, hini, -⟩ := cb
  exact vx_back (bytes := bytes) (maxL := maxL) (ret := ret) hM hbl hrc hrs hfr hlo hws hcw (fun a' U hW => word_at hW (Or.inl (by first | rfl | simp [Cond.onTables, Cond.keeps, Cond.steady])) hini)
theorem vx_runV (S : CallFix p m c cc nL s args Ts own) (hM : vx_Met l y ws rm Pc Qc XC mc ms free) (cw : CallW R s args own C index y bytes maxL ret ws rm mc ms n) (hp : PreV s H C b Pc As)
    (hg : g.method = m) (hn : As.length = n) (hsize : g.locals.size = nL) (hstack : g.stack = As.reverse ++ .ref b :: rest) (hW : 2 * g.monitorRoom + (rest.map fun v => v.category).sum ≤ 8) (hdg : decode cc g.pc = .ok (.invokevirtual index, 3)) (hf : cells + mc ≤ R.cells ∧ slots + ms ≤ R.slots) :
    vx_Run p l e R s m args below meth c H locs cells slots mc ms g rest (Qc (Value.ref b :: As).toArray) XC free := by
  have hK : vx_Back l R p e below s args y 3 8 (PreOf R mc ms Pc) (PostOf Qc mc ms free) (vx_Post XC mc ms free) := vx_callBack cw.1 hM hp.1
  obtain ⟨⟨-, -, -, -, -, -, hcode, -, hy, hlen, hl⟩, hin, hse⟩ := cw
  obtain ⟨hx, hb, hml, ho, -⟩ := S
  obtain ⟨-, ⟨cellB, hcB, hoB, hclB⟩, hPc⟩ := hp
  intro T hT X
  rcases vx_callV X hx (C := C) (bytes := bytes) (maxL := maxL) (ret := ret) ho hl hin hse hcode hy hK (by rw [hT]; exact hcB) hoB hclB hg (hsize.trans hml.symm) (argsL := As) (rest := rest) (fun sig h => hn.trans (hlen sig h)) hstack hW (by rw [hb]; exact hdg)
    (fun vm₁ hW₁ => ⟨hf.1, hf.2, hPc (T.setVm vm₁) hT hW₁⟩) with ⟨v, vm₁, ⟨U', l2, c2, s2⟩, hW₁, X', ⟨g', mk, t, L, e1, e2, hq, h1, hL, h2, h3⟩, st⟩ | ⟨q, vm₁, ⟨U', l2, c2, s2⟩, hW₁, X', ⟨g', mk, t, L, E, ce, e1, e2, hq, hce, hcv, hcl, h1, hL, h2, h3⟩, st⟩
  · dsimp only [Pt.U, Pt.locs, Pt.cells, Pt.slots] at X' e1 e2 h1 h2 h3 st
    subst h1; subst h2; subst h3
    exact Or.inl ⟨v, (T.setVm vm₁).calling g' mk (Value.ref b :: As).toArray, t, U', L, hT, X', hL, e1, e2, hq, st⟩
  · dsimp only [Pt.U, Pt.locs, Pt.cells, Pt.slots] at X' e1 e2 h1 h2 h3 st hcl
    subst h1; subst h2; subst h3
    exact Or.inr ⟨q, (T.setVm vm₁).calling g' mk (Value.ref b :: As).toArray, t, U', L, E, ce, hT, X', hL, e1, e2, hq, hce, hcv, vx_cls hW₁ hcl, st⟩
theorem vx_runS (S : CallFix p m c cc nL s args Ts own) (hM : vx_Met l y ws rm Pc Qc XC mc ms free) (cw : CallB R s args own index y bytes maxL ret ws rm mc ms n ∧ (Cond.static y).before args s = true) (hp : PreS s H Pc As)
    (hg : g.method = m) (hn : As.length = n) (hsize : g.locals.size = nL) (hstack : g.stack = As.reverse ++ rest) (hW : 2 * g.monitorRoom + (rest.map fun v => v.category).sum ≤ 8) (hdg : decode cc g.pc = .ok (.invokestatic index, 3)) (hf : cells + mc ≤ R.cells ∧ slots + ms ≤ R.slots) :
    vx_Run p l e R s m args below meth c H locs cells slots mc ms g rest (Qc As.toArray) XC free := by
  have hK : vx_Back l R p e below s args y 3 8 (PreOf R mc ms Pc) (PostOf Qc mc ms free) (vx_Post XC mc ms free) := vx_callBack cw.1 hM hp.1
  obtain ⟨⟨-, -, -, -, -, -, hcode, hini, hy, hlen, hl⟩, hstt⟩ := cw
  obtain ⟨hx, hb, hml, ho, -⟩ := S
  intro T hT X
  rcases vx_callS X hx (bytes := bytes) (maxL := maxL) (ret := ret) ho hl hstt hini hcode hy hK hg (hsize.trans hml.symm) (argsL := As) (rest := rest) (fun sig h => hn.trans (hlen sig h)) hstack hW (by rw [hb]; exact hdg)
    (fun vm₁ hW₁ => ⟨hf.1, hf.2, hp.2 (T.setVm vm₁) hT hW₁⟩) with ⟨v, vm₁, ⟨U', l2, c2, s2⟩, hW₁, X', ⟨g', mk, t, L, e1, e2, hq, h1, hL, h2, h3⟩, st⟩ | ⟨q, vm₁, ⟨U', l2, c2, s2⟩, hW₁, X', ⟨g', mk, t, L, E, ce, e1, e2, hq, hce, hcv, hcl, h1, hL, h2, h3⟩, st⟩
  · dsimp only [Pt.U, Pt.locs, Pt.cells, Pt.slots] at X' e1 e2 h1 h2 h3 st
    subst h1; subst h2; subst h3
    exact Or.inl ⟨v, (T.setVm vm₁).calling g' mk As.toArray, t, U', L, hT, X', hL, e1, e2, hq, st⟩
  · dsimp only [Pt.U, Pt.locs, Pt.cells, Pt.slots] at X' e1 e2 h1 h2 h3 st hcl
    subst h1; subst h2; subst h3
    exact Or.inr ⟨q, (T.setVm vm₁).calling g' mk As.toArray, t, U', L, E, ce, hT, X', hL, e1, e2, hq, hce, hcv, vx_cls hW₁ hcl, st⟩
end Runs
section Rows
variable {p : Program} {l : Launch} {e : Env} {R : Room} {s : State} {m : MethodId} {args : Array Value} {below : List Frame} {meth : Method} {c : Code} {H : Heap} {locs : List Loc} {cells slots : Nat} {Q : State → Prop}
variable {mc ms : Nat} {free : Addr → Prop} {A0 A1 : Nat → Prop} {H0 : Heap} {a : Array Value} {pc : Nat} {ls : Array Slot} {st0 rest : List Value}
theorem vx_keep {st₀ t T' : State} {L : List Loc} (h0 : st₀.heap = H) (e1 : T'.heap = t.heap) (hS : va_S A0 H0 H locs) (hA : ∀ q, q < H.size → A1 q → A0 q) (hf : ∀ q, free q → A0 q) (hL : ∀ q ∈ L, free q.base) (hF : va_F A1 st₀ t) :
    H.size ≤ T'.heap.size ∧ (∀ q : Nat, q < H.size → ¬ A1 q → T'.heap[q]? = H[q]?) ∧ va_S A0 H0 T'.heap (locs ++ L) := by
  obtain ⟨hz, hk⟩ := hF
  rw [h0] at hz hk
  exact ⟨by rw [e1]; exact hz, fun q h1 h2 => by rw [e1]; exact hk q h1 h2,
    ⟨Nat.le_trans hS.1 (by rw [e1]; exact hz), fun q h1 h2 => by rw [e1, hk q (Nat.lt_of_lt_of_le h1 hS.1) (fun z => h2 (hA q (Nat.lt_of_lt_of_le h1 hS.1) z))]; exact hS.2.1 q h1 h2, fun q hq => by
      rcases List.mem_append.mp hq with h | h
      · exact hS.2.2 q h
      · exact hf _ (hL q h)⟩⟩
theorem vx_calli {S SX : Type} {post : Int32 → S → Prop} {px : SX → Prop} {B : S → State → Prop} {BX : String → SX → State → Prop} {AX : Nat → Prop} (hr : vx_Run p l e R s m args below meth c H locs cells slots mc ms (F0 m pc ls st0) rest (va_Qi post B A1 a) (vx_X px BX AX) free) (hS : va_S A0 H0 H locs) (hA : ∀ q, q < H.size → A1 q → A0 q) (hf : ∀ q, free q → A0 q) (hAX : ∀ q, q < H.size → AX q → A0 q)
    (kx : ∀ (E : String) (ce : Cell) (q9 : Addr) (u : SX) (t : State) (H1 : Heap) (locs1 : List Loc), t.heap = H1 → s.vm.Alike t.vm → px u → BX E u t → H.size ≤ H1.size → (∀ q : Nat, q < H.size → ¬ AX q → H1[q]? = H[q]?) → va_S A0 H0 H1 locs1 → H1[q9]? = some ce → ce.vm = .none → s.vm.findClass E = some ce.cls → vx_W p l e R s m args below meth c H1 locs1 (cells + mc) (slots + ms) Q (F0 m pc ls rest) q9)
    (kk : ∀ (r : Int32) (u : S) (t : State) (H1 : Heap) (locs1 : List Loc), t.heap = H1 → s.vm.Alike t.vm → post r u → B u t → H.size ≤ H1.size → (∀ q : Nat, q < H.size → ¬ A1 q → H1[q]? = H[q]?) → va_S A0 H0 H1 locs1 → W p l e R s m args below meth c H1 locs1 (cells + mc) (slots + ms) Q (F0 m (pc + 3) ls (.int r :: rest))) : W p l e R s m args below meth c H locs cells slots Q (F0 m pc ls st0) := by
  intro T hT X
  rcases hr T hT X with ⟨v, st₀, t, T', L, h0, X', hL, e1, e2, ⟨⟨r, u, hv, hp, hb⟩, hF⟩, st⟩ | ⟨q, st₀, t, T', L, E, ce, h0, X', hL, e1, e2, ⟨u, hp, hb, hF⟩, hce, hcv, hcl, st⟩
  · cases hv
    obtain ⟨k1, k2, k3⟩ := vx_keep h0 e1 hS hA hf hL hF
    obtain ⟨t2, a1, b1⟩ := kk r u t T'.heap (locs ++ L) e1.symm (by rw [← e2]; exact X'.warmed.alike) hp hb k1 k2 k3 T' rfl X'
    exact ⟨t2, st t2 a1, b1⟩
  · obtain ⟨k1, k2, k3⟩ := vx_keep h0 e1 hS hAX hf hL hF
    obtain ⟨t2, a1, b1⟩ := kx E ce q u t T'.heap (locs ++ L) e1.symm (by rw [← e2]; exact X'.warmed.alike) hp hb k1 k2 k3 (by rw [e1]; exact hce) hcv hcl T' rfl X'
    exact ⟨t2, st.trans a1, b1⟩
theorem vx_calll {S SX : Type} {post : Int64 → S → Prop} {px : SX → Prop} {B : S → State → Prop} {BX : String → SX → State → Prop} {AX : Nat → Prop} (hr : vx_Run p l e R s m args below meth c H locs cells slots mc ms (F0 m pc ls st0) rest (va_Ql post B A1 a) (vx_X px BX AX) free) (hS : va_S A0 H0 H locs) (hA : ∀ q, q < H.size → A1 q → A0 q) (hf : ∀ q, free q → A0 q) (hAX : ∀ q, q < H.size → AX q → A0 q)
    (kx : ∀ (E : String) (ce : Cell) (q9 : Addr) (u : SX) (t : State) (H1 : Heap) (locs1 : List Loc), t.heap = H1 → s.vm.Alike t.vm → px u → BX E u t → H.size ≤ H1.size → (∀ q : Nat, q < H.size → ¬ AX q → H1[q]? = H[q]?) → va_S A0 H0 H1 locs1 → H1[q9]? = some ce → ce.vm = .none → s.vm.findClass E = some ce.cls → vx_W p l e R s m args below meth c H1 locs1 (cells + mc) (slots + ms) Q (F0 m pc ls rest) q9)
    (kk : ∀ (r : Int64) (u : S) (t : State) (H1 : Heap) (locs1 : List Loc), t.heap = H1 → s.vm.Alike t.vm → post r u → B u t → H.size ≤ H1.size → (∀ q : Nat, q < H.size → ¬ A1 q → H1[q]? = H[q]?) → va_S A0 H0 H1 locs1 → W p l e R s m args below meth c H1 locs1 (cells + mc) (slots + ms) Q (F0 m (pc + 3) ls (.long r :: rest))) : W p l e R s m args below meth c H locs cells slots Q (F0 m pc ls st0) := by
  intro T hT X
  rcases hr T hT X with ⟨v, st₀, t, T', L, h0, X', hL, e1, e2, ⟨⟨r, u, hv, hp, hb⟩, hF⟩, st⟩ | ⟨q, st₀, t, T', L, E, ce, h0, X', hL, e1, e2, ⟨u, hp, hb, hF⟩, hce, hcv, hcl, st⟩
  · cases hv
    obtain ⟨k1, k2, k3⟩ := vx_keep h0 e1 hS hA hf hL hF
    obtain ⟨t2, a1, b1⟩ := kk r u t T'.heap (locs ++ L) e1.symm (by rw [← e2]; exact X'.warmed.alike) hp hb k1 k2 k3 T' rfl X'
    exact ⟨t2, st t2 a1, b1⟩
  · obtain ⟨k1, k2, k3⟩ := vx_keep h0 e1 hS hAX hf hL hF
    obtain ⟨t2, a1, b1⟩ := kx E ce q u t T'.heap (locs ++ L) e1.symm (by rw [← e2]; exact X'.warmed.alike) hp hb k1 k2 k3 (by rw [e1]; exact hce) hcv hcl T' rfl X'
    exact ⟨t2, st.trans a1, b1⟩
theorem vx_callf {S SX : Type} {post : UInt32 → S → Prop} {px : SX → Prop} {B : S → State → Prop} {BX : String → SX → State → Prop} {AX : Nat → Prop} (hr : vx_Run p l e R s m args below meth c H locs cells slots mc ms (F0 m pc ls st0) rest (va_Qf post B A1 a) (vx_X px BX AX) free) (hS : va_S A0 H0 H locs) (hA : ∀ q, q < H.size → A1 q → A0 q) (hf : ∀ q, free q → A0 q) (hAX : ∀ q, q < H.size → AX q → A0 q)
    (kx : ∀ (E : String) (ce : Cell) (q9 : Addr) (u : SX) (t : State) (H1 : Heap) (locs1 : List Loc), t.heap = H1 → s.vm.Alike t.vm → px u → BX E u t → H.size ≤ H1.size → (∀ q : Nat, q < H.size → ¬ AX q → H1[q]? = H[q]?) → va_S A0 H0 H1 locs1 → H1[q9]? = some ce → ce.vm = .none → s.vm.findClass E = some ce.cls → vx_W p l e R s m args below meth c H1 locs1 (cells + mc) (slots + ms) Q (F0 m pc ls rest) q9)
    (kk : ∀ (r : UInt32) (u : S) (t : State) (H1 : Heap) (locs1 : List Loc), t.heap = H1 → s.vm.Alike t.vm → post r u → B u t → H.size ≤ H1.size → (∀ q : Nat, q < H.size → ¬ A1 q → H1[q]? = H[q]?) → va_S A0 H0 H1 locs1 → W p l e R s m args below meth c H1 locs1 (cells + mc) (slots + ms) Q (F0 m (pc + 3) ls (.float r :: rest))) : W p l e R s m args below meth c H locs cells slots Q (F0 m pc ls st0) := by
  intro T hT X
  rcases hr T hT X with ⟨v, st₀, t, T', L, h0, X', hL, e1, e2, ⟨⟨r, u, hv, hp, hb⟩, hF⟩, st⟩ | ⟨q, st₀, t, T', L, E, ce, h0, X', hL, e1, e2, ⟨u, hp, hb, hF⟩, hce, hcv, hcl, st⟩
  · cases hv
    obtain ⟨k1, k2, k3⟩ := vx_keep h0 e1 hS hA hf hL hF
    obtain ⟨t2, a1, b1⟩ := kk r u t T'.heap (locs ++ L) e1.symm (by rw [← e2]; exact X'.warmed.alike) hp hb k1 k2 k3 T' rfl X'
    exact ⟨t2, st t2 a1, b1⟩
  · obtain ⟨k1, k2, k3⟩ := vx_keep h0 e1 hS hAX hf hL hF
    obtain ⟨t2, a1, b1⟩ := kx E ce q u t T'.heap (locs ++ L) e1.symm (by rw [← e2]; exact X'.warmed.alike) hp hb k1 k2 k3 (by rw [e1]; exact hce) hcv hcl T' rfl X'
    exact ⟨t2, st.trans a1, b1⟩
theorem vx_calld {S SX : Type} {post : UInt64 → S → Prop} {px : SX → Prop} {B : S → State → Prop} {BX : String → SX → State → Prop} {AX : Nat → Prop} (hr : vx_Run p l e R s m args below meth c H locs cells slots mc ms (F0 m pc ls st0) rest (va_Qd post B A1 a) (vx_X px BX AX) free) (hS : va_S A0 H0 H locs) (hA : ∀ q, q < H.size → A1 q → A0 q) (hf : ∀ q, free q → A0 q) (hAX : ∀ q, q < H.size → AX q → A0 q)
    (kx : ∀ (E : String) (ce : Cell) (q9 : Addr) (u : SX) (t : State) (H1 : Heap) (locs1 : List Loc), t.heap = H1 → s.vm.Alike t.vm → px u → BX E u t → H.size ≤ H1.size → (∀ q : Nat, q < H.size → ¬ AX q → H1[q]? = H[q]?) → va_S A0 H0 H1 locs1 → H1[q9]? = some ce → ce.vm = .none → s.vm.findClass E = some ce.cls → vx_W p l e R s m args below meth c H1 locs1 (cells + mc) (slots + ms) Q (F0 m pc ls rest) q9)
    (kk : ∀ (r : UInt64) (u : S) (t : State) (H1 : Heap) (locs1 : List Loc), t.heap = H1 → s.vm.Alike t.vm → post r u → B u t → H.size ≤ H1.size → (∀ q : Nat, q < H.size → ¬ A1 q → H1[q]? = H[q]?) → va_S A0 H0 H1 locs1 → W p l e R s m args below meth c H1 locs1 (cells + mc) (slots + ms) Q (F0 m (pc + 3) ls (.double r :: rest))) : W p l e R s m args below meth c H locs cells slots Q (F0 m pc ls st0) := by
  intro T hT X
  rcases hr T hT X with ⟨v, st₀, t, T', L, h0, X', hL, e1, e2, ⟨⟨r, u, hv, hp, hb⟩, hF⟩, st⟩ | ⟨q, st₀, t, T', L, E, ce, h0, X', hL, e1, e2, ⟨u, hp, hb, hF⟩, hce, hcv, hcl, st⟩
  · cases hv
    obtain ⟨k1, k2, k3⟩ := vx_keep h0 e1 hS hA hf hL hF
    obtain ⟨t2, a1, b1⟩ := kk r u t T'.heap (locs ++ L) e1.symm (by rw [← e2]; exact X'.warmed.alike) hp hb k1 k2 k3 T' rfl X'
    exact ⟨t2, st t2 a1, b1⟩
  · obtain ⟨k1, k2, k3⟩ := vx_keep h0 e1 hS hAX hf hL hF
    obtain ⟨t2, a1, b1⟩ := kx E ce q u t T'.heap (locs ++ L) e1.symm (by rw [← e2]; exact X'.warmed.alike) hp hb k1 k2 k3 (by rw [e1]; exact hce) hcv hcl T' rfl X'
    exact ⟨t2, st.trans a1, b1⟩
theorem vx_callv {S SX : Type} {post : S → Prop} {px : SX → Prop} {B : S → State → Prop} {BX : String → SX → State → Prop} {AX : Nat → Prop} (hr : vx_Run p l e R s m args below meth c H locs cells slots mc ms (F0 m pc ls st0) rest (va_Qv post B A1 a) (vx_X px BX AX) free) (hS : va_S A0 H0 H locs) (hA : ∀ q, q < H.size → A1 q → A0 q) (hf : ∀ q, free q → A0 q) (hAX : ∀ q, q < H.size → AX q → A0 q)
    (kx : ∀ (E : String) (ce : Cell) (q9 : Addr) (u : SX) (t : State) (H1 : Heap) (locs1 : List Loc), t.heap = H1 → s.vm.Alike t.vm → px u → BX E u t → H.size ≤ H1.size → (∀ q : Nat, q < H.size → ¬ AX q → H1[q]? = H[q]?) → va_S A0 H0 H1 locs1 → H1[q9]? = some ce → ce.vm = .none → s.vm.findClass E = some ce.cls → vx_W p l e R s m args below meth c H1 locs1 (cells + mc) (slots + ms) Q (F0 m pc ls rest) q9)
    (kk : ∀ (u : S) (t : State) (H1 : Heap) (locs1 : List Loc), t.heap = H1 → s.vm.Alike t.vm → post u → B u t → H.size ≤ H1.size → (∀ q : Nat, q < H.size → ¬ A1 q → H1[q]? = H[q]?) → va_S A0 H0 H1 locs1 → W p l e R s m args below meth c H1 locs1 (cells + mc) (slots + ms) Q (F0 m (pc + 3) ls (rest))) : W p l e R s m args below meth c H locs cells slots Q (F0 m pc ls st0) := by
  intro T hT X
  rcases hr T hT X with ⟨v, st₀, t, T', L, h0, X', hL, e1, e2, ⟨⟨u, hv, hp, hb⟩, hF⟩, st⟩ | ⟨q, st₀, t, T', L, E, ce, h0, X', hL, e1, e2, ⟨u, hp, hb, hF⟩, hce, hcv, hcl, st⟩
  · cases hv
    obtain ⟨k1, k2, k3⟩ := vx_keep h0 e1 hS hA hf hL hF
    obtain ⟨t2, a1, b1⟩ := kk u t T'.heap (locs ++ L) e1.symm (by rw [← e2]; exact X'.warmed.alike) hp hb k1 k2 k3 T' rfl X'
    exact ⟨t2, st t2 a1, b1⟩
  · obtain ⟨k1, k2, k3⟩ := vx_keep h0 e1 hS hAX hf hL hF
    obtain ⟨t2, a1, b1⟩ := kx E ce q u t T'.heap (locs ++ L) e1.symm (by rw [← e2]; exact X'.warmed.alike) hp hb k1 k2 k3 (by rw [e1]; exact hce) hcv hcl T' rfl X'
    exact ⟨t2, st.trans a1, b1⟩
/-- caught by the row x of this method's table; the rows ahead don't take it -/
theorem vx_catch {own name : String} {E : String} {ce : Cell} {q : Addr} (hown : s.vm.findClass own = some m.cls) (pre : List ExceptionTableEntry) (x : ExceptionTableEntry) (suf : List ExceptionTableEntry) (hsplit : c.exceptionTable.toList = pre ++ x :: suf)
    (hpass : ∀ z ∈ pre, covers z pc = false ∨ (z.catchType ≠ 0 ∧ ∃ nm : String, (Cond.classLink own z.catchType nm).before args s = true ∧ va_Nc E nm s)) (hx : covers x pc = true) (h0 : x.catchType ≠ 0)
    (hlink : (Cond.classLink own x.catchType name).before args s = true) (hcast : (Cond.castable E name).before args s = true) (hcell : H[q]? = some ce) (hv : ce.vm = .none) (hcl : s.vm.findClass E = some ce.cls)
    (kk : W p l e R s m args below meth c H locs cells slots Q (F0 m x.handlerPc ls [.ref q])) : vx_W p l e R s m args below meth c H locs cells slots Q (F0 m pc ls rest) q := by
  intro T hT X
  have hpl : e.platform.magicAccessors = ({} : Platform).magicAccessors := by rw [X.admits.platform]
  obtain ⟨c3, c4, hc3, hc4, hasg⟩ := Cond.castable_spec hcast
  cases Option.some.inj (hc3.symm.trans hcl)
  obtain ⟨c5, hc5, hcl5⟩ := Cond.classLink_spec hown hlink e.platform hpl
  cases Option.some.inj (hc4.symm.trans hc5)
  obtain ⟨vm', X', st⟩ := X.thenCaughtThrough q (g := F0 m pc ls rest) rfl (Steps.refl _) (by rw [hT]; exact hcell) (by rw [hv]; rfl) (by obtain ⟨k9, h9, -⟩ := Vm.findClass_spec hcl; exact ⟨k9, h9⟩) pre x suf hsplit
    (fun z hz => by
      rcases hpass z hz with h | ⟨hz0, nm, hl1, hn1⟩
      · exact Or.inl h
      · obtain ⟨c6, hc6, hcl6⟩ := Cond.classLink_spec hown hl1 e.platform hpl
        obtain ⟨a8, b8, h1, h2, h3⟩ := hn1
        cases Option.some.inj (h1.symm.trans hcl)
        cases Option.some.inj (h2.symm.trans hc6)
        exact Or.inr ⟨hz0, _, hcl6, h3⟩) hx (Or.inr ⟨h0, c4, hcl5, hasg⟩)
  obtain ⟨t, a1, b1⟩ := kk (T.setVm vm') hT X'
  exact ⟨t, st.trans a1, b1⟩
end Rows
section Ends
variable {p : Program} {l : Launch} {e : Env} {R : Room} {s : State} {m : MethodId} {args : Array Value} {below : List Frame} {meth : Method} {c : Code} {H : Heap} {locs : List Loc} {cells slots : Nat} {Q : State → Prop}
variable {mc ms : Nat} {free : Addr → Prop} {A0 A1 : Nat → Prop} {H0 : Heap} {a : Array Value} {ls : Array Slot} {st0 rest : List Value}
variable {Qc : Array Value → State → Outcome → State → Prop} {XC : String → State → State → Prop}
/-- what a body that may throw owes at its end -/
def vx_MQ (below : List Frame) (Qc : Array Value → State → Outcome → State → Prop) (XC : String → State → State → Prop) (a : Array Value) (s : State) (mc ms : Nat) (free : Addr → Prop) : State → Prop := fun t =>
  ∃ o, t.status = .running ∧ Ended t below o ∧ vx_Q Qc XC mc ms free a s o t
theorem vx_ret {g : JFrame} {mc ms : Nat} (k : W p l e R s m args below meth c H locs cells slots (MQ below Qc args s mc ms free) g) : W p l e R s m args below meth c H locs cells slots (vx_MQ below Qc XC args s mc ms free) g := by
  intro T hT X
  obtain ⟨t, a1, o, b1, b2, b3, b4⟩ := k T hT X
  exact ⟨t, a1, o, b1, b2, Or.inl ⟨b3, b4⟩⟩
/-- not caught here: it goes on to the caller -/
theorem vx_widen {g : JFrame} {q : Addr} {k n : Nat} (h1 : cells ≤ k) (h2 : slots ≤ n) (kk : vx_W p l e R s m args below meth c H locs k n Q g q) : vx_W p l e R s m args below meth c H locs cells slots Q g q := fun T hT X => kk T hT (stand_widen X h1 h2)
theorem vx_out {pc : Nat} {E : String} {ce : Cell} {q : Addr} {mc ms : Nat} (hout : ∀ x ∈ c.exceptionTable.toList, covers x pc = false) (hlocks : meth.locks = false) (hcell : H[q]? = some ce) (hv : ce.vm = .none) (hcl : s.vm.findClass E = some ce.cls)
    (hx : ∀ t : State, t.heap = H → s.vm.Alike t.vm → XC E s t) (hf : ∀ z ∈ locs, free z.base) (hc : cells ≤ mc) (hs : slots ≤ ms) :
    vx_W p l e R s m args below meth c H locs cells slots (vx_MQ below Qc XC args s mc ms free) (F0 m pc ls rest) q := by
  intro T hT X
  obtain ⟨st1, hrun, hend, hW, hsm⟩ := X.leaveThrown q (g := F0 m pc ls rest) rfl rfl rfl hout hlocks
  have hcell9 : (T.setFrames (.throwing q :: below)).heap[q]? = some ce := by
    show T.heap[q]? = some ce
    rw [hT]; exact hcell
  exact ⟨_, st1, .threw q, hrun, hend, Or.inr ⟨q, rfl, E, ce, locs, hx _ hT hW.alike, hcell9, hv, hcl, hW, hsm.mono hc hs, hf⟩⟩
theorem vx_frame {U : State} {k n : Nat} (h : s.sameButNew ({ U with vm := s.vm } : State) locs k n) : s.heap.size ≤ U.heap.size ∧ ∀ q : Nat, q < s.heap.size → (∀ z ∈ locs, z.base ≠ q) → U.heap[q]? = s.heap[q]? := by
  obtain ⟨-, h2, -, -, -, h6⟩ := h
  refine ⟨h2, fun q hq hz => ?_⟩
  obtain ⟨c9, e1, e2, e3, e4⟩ := h6 q _ (Array.getElem?_eq_getElem hq)
  have hs : c9.slots = (s.heap[q]).slots := Array.ext_getElem? fun i => e4 i fun hm => hz _ hm rfl
  have h9 : c9 = s.heap[q] := by
    rw [hs] at e2
    exact e2
  have e5 : U.heap[q]? = some c9 := e1
  rw [e5, h9, Array.getElem?_eq_getElem hq]
/-- the words of a throw but the four that speak of the heap -/
def vx_no (w : Cond) : Bool := decide (w ≠ .isRef (.static Bundle.tN "UNASSIGNED_STACK" Bundle.steD)) && decide (w ≠ .isRef (.static Bundle.tN "SUPPRESSED_SENTINEL" Bundle.listD)) && decide (w ≠ .laysStatic Bundle.tN "UNASSIGNED_STACK" Bundle.steD) && decide (w ≠ .laysStatic Bundle.tN "SUPPRESSED_SENTINEL" Bundle.listD)
def vx_at0 (own : String) (ic : Nat) (X : String) (names : List String) : List Cond := (Bundle.ownAtoms0 own ic X names).filter vx_no
def vx_atS (own : String) (ic : Nat) (X : String) (names : List String) : List Cond := (Bundle.ownAtoms own ic X names).filter vx_no
/-- a word that the tables alone decide, or a good one -/
def vx_ot (w : Cond) : Bool := w.onTables || goodWord w
theorem vx_ot_at {args a' : Array Value} {s U : State} {w : Cond} (hW : s.WarmedH U.vm) (hvm : s.vm = U.vm) (hg : vx_ot w = true) (h : w.before args s = true) : w.before a' U = true := by
  simp only [vx_ot, Bool.or_eq_true] at hg
  rcases hg with hg | hg
  · exact va_tabs hg hvm h
  · exact word_at hW (good_of_word hg) h
/-- a list's words: the good ones out of the method's own list, the others by premises of their own -/
theorem vx_hat {args : Array Value} {s : State} {L B : List Cond} (h1 : ∀ w ∈ L.filter goodWord, w.before args s = true) (h2 : ∀ w ∈ L.filter (fun w => !goodWord w), w ∈ B) (h3 : ∀ w ∈ B, w.before args s = true) : ∀ w ∈ L, w.before args s = true := by
  intro w hw
  by_cases g : goodWord w = true
  · exact h1 w (List.mem_filter.mpr ⟨hw, g⟩)
  · refine h3 w (h2 w (List.mem_filter.mpr ⟨hw, ?_⟩))
    show (!goodWord w) = true
    cases hgw : goodWord w
    · rfl
    · exact absurd hgw g
theorem vx_c {args : Array Value} {s : State} {w : Cond} {B : List Cond} (h : w.before args s = true) (t : ∀ w ∈ B, w.before args s = true) : ∀ w' ∈ w :: B, w'.before args s = true := fun w' h' => (List.mem_cons.mp h').elim (fun e => by rw [e]; exact h) (t w')
theorem vx_n {args : Array Value} {s : State} : ∀ w ∈ ([] : List Cond), w.before args s = true := fun _ h => nomatch h
theorem vx_own {args : Array Value} {s : State} {L : List Cond} (h1 : ∀ w ∈ L.filter vx_no, w.before args s = true)
    (hU : (Cond.isRef (.static Bundle.tN "UNASSIGNED_STACK" Bundle.steD)).before args s = true) (hN : (Cond.isRef (.static Bundle.tN "SUPPRESSED_SENTINEL" Bundle.listD)).before args s = true)
    (lU : (Cond.laysStatic Bundle.tN "UNASSIGNED_STACK" Bundle.steD).before args s = true) (lN : (Cond.laysStatic Bundle.tN "SUPPRESSED_SENTINEL" Bundle.listD).before args s = true) : ∀ w ∈ L, w.before args s = true := by
  intro w hw
  by_cases e1 : w = .isRef (.static Bundle.tN "UNASSIGNED_STACK" Bundle.steD)
  · rw [e1]; exact hU
  · by_cases e2 : w = .isRef (.static Bundle.tN "SUPPRESSED_SENTINEL" Bundle.listD)
    · rw [e2]; exact hN
    · by_cases e3 : w = .laysStatic Bundle.tN "UNASSIGNED_STACK" Bundle.steD
      · rw [e3]; exact lU
      · by_cases e4 : w = .laysStatic Bundle.tN "SUPPRESSED_SENTINEL" Bundle.listD
        · rw [e4]; exact lN
        · exact h1 w (List.mem_filter.mpr ⟨hw, by unfold vx_no; rw [decide_eq_true e1, decide_eq_true e2, decide_eq_true e3, decide_eq_true e4]; rfl⟩)
/-- where a static field lies, its class's statics cell in H -/
def vx_L (C n d : String) (A : Nat → Prop) (U : State) (H : Heap) : Prop := ∃ (c : ClassId) (k : Class) (i : Nat) (f : Field) (a : Nat) (cell : Cell), U.vm.findClass C = some c ∧ U.fieldFound? C n d = some (c, k, i, f) ∧ f.isStatic = true ∧ k.statics = some a ∧ H[a]? = some cell ∧ cell.vm.isStatics = true ∧ cell.cls = c ∧ f.slot < cell.slots.size ∧ k.staticTypes[f.slot]? = some f.type ∧ ¬ A a
theorem vx_L.moved {C n d : String} {A : Nat → Prop} {u U : State} {H : Heap} (hvm : u.vm.Alike U.vm) (h : vx_L C n d A u H) : vx_L C n d A U H := by
  obtain ⟨c, k, i, f, a, cell, h1, h2, h3, h4, h5, h6, h7, h8, h9, h10⟩ := h
  obtain ⟨k', hi', he⟩ := State.fieldFound?_setVm hvm h2
  exact ⟨c, k', i, f, a, cell, by rw [hvm.findClass]; exact h1, hi', h3, by rw [he]; exact h4, h5, h6, h7, h8, by rw [he]; exact h9, h10⟩
theorem vx_L.kept {C n d : String} {A : Nat → Prop} {U : State} {H H1 : Heap} (h : vx_L C n d A U H) (hq : ∀ a : Nat, a < H.size → ¬ A a → H1[a]? = H[a]?) : vx_L C n d A U H1 := by
  obtain ⟨c, k, i, f, a, cell, h1, h2, h3, h4, h5, h6, h7, h8, h9, h10⟩ := h
  exact ⟨c, k, i, f, a, cell, h1, h2, h3, h4, by rw [hq a (Array.getElem?_eq_some_iff.mp h5).1 h10]; exact h5, h6, h7, h8, h9, h10⟩
theorem vx_L.narrow {C n d : String} {A B : Nat → Prop} {U : State} {H : Heap} (h : vx_L C n d A U H) (hAB : ∀ q, B q → A q) : vx_L C n d B U H := by
  obtain ⟨c, k, i, f, a, cell, h1, h2, h3, h4, h5, h6, h7, h8, h9, h10⟩ := h
  exact ⟨c, k, i, f, a, cell, h1, h2, h3, h4, h5, h6, h7, h8, h9, fun z => h10 (hAB _ z)⟩
theorem vx_L.word {C n d : String} {A : Nat → Prop} {s : State} {args : Array Value} (h : vx_L C n d A s s.heap) : (Cond.laysStatic C n d).before args s = true := by
  obtain ⟨c, k, i, f, a, cell, h1, h2, h3, h4, h5, h6, h7, h8, h9, -⟩ := h
  show (Cond.laysStatic C n d).holds args s none s [] = true
  exact Cond.laysStatic_of h1 h2 h3 h4 h5 h6 h7 h8 h9
/-- .. and what it holds: null or some reference -/
def vx_Zq (C n d : String) (A : Nat → Prop) (U : State) (H : Heap) : Prop := va_Zq C n d A U H ∧ vx_L C n d A U H
theorem vx_Zq.moved {C n d : String} {A : Nat → Prop} {u U : State} {H : Heap} (hvm : u.vm.Alike U.vm) (h : vx_Zq C n d A u H) : vx_Zq C n d A U H := ⟨va_Zq.moved hvm h.1, vx_L.moved hvm h.2⟩
theorem vx_Zq.kept {C n d : String} {A : Nat → Prop} {U : State} {H H1 : Heap} (h : vx_Zq C n d A U H) (hq : ∀ a : Nat, a < H.size → ¬ A a → H1[a]? = H[a]?) : vx_Zq C n d A U H1 := ⟨va_Zq.kept h.1 hq, vx_L.kept h.2 hq⟩
theorem vx_Zq.narrow {C n d : String} {A B : Nat → Prop} {U : State} {H : Heap} (h : vx_Zq C n d A U H) (hAB : ∀ q, B q → A q) : vx_Zq C n d B U H := ⟨va_Zq.narrow h.1 hAB, vx_L.narrow h.2 hAB⟩
theorem vx_Zqof {args : Array Value} {s : State} {C n d : String} {A : Nat → Prop} (hl : (Cond.laysStatic C n d).before args s = true) (hini : (Cond.initialized C).before args s = true) (h : (Cond.isRef (.static C n d)).before args s = true) (hA : ∀ a : Nat, a < s.heap.size → ¬ A a) : vx_Zq C n d A s s.heap := by
  refine ⟨va_Zqof hl hini h hA, ?_⟩
  obtain ⟨c, k, i, f, a, cell, h1, h2, h3, h4, h5, h6, h7, h8, h9⟩ := Cond.laysStatic_spec hl
  exact ⟨c, k, i, f, a, cell, h1, h2, h3, h4, h5, h6, h7, h8, h9, hA a (Array.getElem?_eq_some_iff.mp h5).1⟩
theorem vx_isRef {C n d : String} {v : Value} {A : Nat → Prop} {s : State} {args : Array Value} (h : va_Z C n d v A s s.heap) (hv : v.isRef = true) : (Cond.isRef (.static C n d)).before args s = true := by
  obtain ⟨cf, kf, fi, f, a, cell, h1, h2, h3, h4, h5, h6, h7, -⟩ := h
  have he : (Term.static C n d).eval args s none [] s = some v := by
    simp [Term.eval, State.fieldNamed?, h1, h2, h4, h5, h6, h7]
  simp only [Cond.before, Cond.holds, Cond.value, he]
  cases v <;> simp_all [Value.isRef]
theorem vx_isRefq {C n d : String} {A : Nat → Prop} {s : State} {args : Array Value} (h : va_Zq C n d A s s.heap) : (Cond.isRef (.static C n d)).before args s = true := by
  rcases h with h | ⟨t, h⟩
  · exact vx_isRef h rfl
  · exact vx_isRef h rfl
/-- the same frame, seen from here: as if the method were called anew in this heap -/
theorem vx_rebase {T : State} (X : Stand p l e R s m args below meth c T locs cells slots) {R' : Room} (hf : R'.frames ≤ R.frames) (hl : R'.locals ≤ R.locals) (hc : cells + R'.cells ≤ R.cells) (hs : slots + R'.slots ≤ R.slots) :
    Stand p l e R' ((T.setVm s.vm).setFrames (.invoking m args :: below)) m args below meth c T [] 0 0 := by
  have htop : (T.setVm s.vm).topJava?.isSome := X.here.top
  have hF : ((T.setVm s.vm).setFrames (.invoking m args :: below)).frames = .invoking m args :: below := State.frames_setFrames _ (State.cur_lt_of_top htop)
  obtain ⟨g₀, hg0⟩ := Option.isSome_iff_exists.mp htop
  obtain ⟨r, hr⟩ := State.topJava?_eq_some.mp hg0
  have hl9 : e.platform.stackLimits (T.setVm s.vm).me = e.platform.stackLimits s.me := X.limits
  have hb9 : (T.setVm s.vm).me.stackBytes = s.me.stackBytes := X.bytes
  refine ⟨X.admits, X.cas, X.clock, hF, ?_, X.hears, X.method, X.code, X.here, X.tail, X.warmed, ?_, ?_, ?_⟩
  · have h := X.room
    have hU : ((T.setVm s.vm).setFrames (.invoking m args :: below)).localsInUse = s.localsInUse := by
      rw [State.localsInUse_invoking hF (meth := meth) (c := c) X.method X.code, State.localsInUse_invoking X.frames X.method X.code]
    simp only [State.hasRoom, Bool.and_eq_true, decide_eq_true_eq] at h ⊢
    obtain ⟨⟨⟨⟨h1, h2, h3, h4, h5, h6⟩, h7⟩, h8⟩, h9⟩ := h
    rw [X.frames, List.length_cons] at h2 h3
    have q1 := X.heapSize
    have q2 := X.used
    simp only [hF, hU, List.length_cons, State.stackLimits_setFrames, State.stackBytes_setFrames, hl9, hb9]
    refine ⟨⟨⟨⟨by omega, by omega, by omega, by omega, by omega, h6⟩, ?_⟩, ?_⟩, X.book⟩
    · show T.heap.size + R'.cells ≤ e.platform.maxCells
      omega
    · show T.slotsUsed + R'.slots ≤ e.platform.maxSlots
      omega
  · rw [State.stackLimits_setFrames]; rfl
  · rw [State.stackBytes_setFrames]; rfl
  · refine ⟨?_, Nat.le_refl _, Nat.le_refl _, ?_, ?_, fun a c9 h9 => ⟨c9, h9, rfl, rfl, fun _ _ => rfl⟩⟩
    · obtain ⟨t, ht, -⟩ := State.frames_cons hr
      show T.setVm s.vm = { ((T.setVm s.vm).setFrames (.invoking m args :: below)).setFrames (T.setVm s.vm).frames with heap := T.heap, slotsUsed := T.slotsUsed }
      rw [State.setFrames_setFrames, State.setFrames_self ht]
      rfl
    · show T.slotsUsed = T.slotsUsed + ((T.heap.toList.drop T.heap.size).map (·.slots.size)).sum
      rw [List.drop_eq_nil_of_le (Nat.le_of_eq Array.length_toList)]
      rfl
    · show ((T.heap.toList.drop T.heap.size).map (·.slots.size)).sum ≤ 0
      rw [List.drop_eq_nil_of_le (Nat.le_of_eq Array.length_toList)]
      exact Nat.le_refl _
/-- 'throw new E()': new; dup; invokespecial; athrow -/
theorem vx_throw0 {cc : ByteArray} {pc : Nat} (hexec : p.tables.exec = Jvm.exec) (hb : c.code = cc) (hl : l.stackTraces = false) {own cls : String} {names : List String} {ik ic mc ms : Nat} {A : Nat → Prop}
    (hown : s.vm.findClass own = some m.cls) (hcls : Bundle.fit cls = true) (hnames : ∀ n ∈ names, Bundle.fit n = true)
    (hk : (Cond.classLink own ik cls).before args s = true) (hini : (Cond.initialized cls).before args s = true) (hat : ∀ w ∈ vx_at0 own ic cls names, w.before args s = true)
    (hgood : ∀ w ∈ Cond.classLink own ik cls :: Cond.initialized cls :: vx_at0 own ic cls names, vx_ot w = true)
    (hU : vx_Zq Bundle.tN "UNASSIGNED_STACK" Bundle.steD A s s.heap) (hN : vx_Zq Bundle.tN "SUPPRESSED_SENTINEL" Bundle.listD A s s.heap) (hS : va_S A s.heap H locs) (hsize : ls.size = c.maxLocals)
    (d0 : decode cc pc = .ok (.new ik, 3)) (d3 : decode cc (pc + 3) = .ok (.dup, 1)) (d4 : decode cc (pc + 4) = .ok (.invokespecial ic, 3)) (d7 : decode cc (pc + 7) = .ok (.athrow, 1))
    (hout : ∀ x ∈ c.exceptionTable.toList, covers x (pc + 7) = false)
    (hRframes : names.length + 3 < R.frames) (hRlocals : (rest.map fun v => v.category).sum + (13 * (names.length + 1) + 42) ≤ R.locals) (hRcells : cells + 1 ≤ R.cells) (hRslots : slots + 6 ≤ R.slots) (hlocks : meth.locks = false)
    (hx : ∀ t : State, s.vm.Alike t.vm → H.size ≤ t.heap.size → (∀ q : Nat, q < H.size → t.heap[q]? = H[q]?) → XC cls s t)
    (hf : ∀ z ∈ locs, free z.base) (hc : cells + 1 ≤ mc) (hs : slots + 6 ≤ ms) :
    W p l e R s m args below meth c H locs cells slots (vx_MQ below Qc XC args s mc ms free) (F0 m pc ls rest) := by
  intro T hT X
  have htr : e.platform.stackTraces = false := (show e.platform.stackTraces = l.stackTraces by rw [X.admits.platform]).trans hl
  have Y := vx_rebase X (R' := { frames := R.frames, locals := R.locals, cells := 1, slots := 6 }) (Nat.le_refl _) (Nat.le_refl _) hRcells hRslots
  obtain ⟨s', hA⟩ : ∃ z, z = (T.setVm s.vm).setFrames (.invoking m args :: below) := ⟨_, rfl⟩
  rw [← hA] at Y
  have hvm : s'.vm = s.vm := by rw [hA]; rfl
  have hhp : s'.heap = H := by rw [hA]; exact hT
  have hW0 : s.WarmedH s'.vm := by rw [hvm]; exact State.WarmedH.refl s
  have hat' : ∀ w ∈ vx_at0 own ic cls names, w.before args s' = true := fun w hw => vx_ot_at hW0 hvm.symm (hgood w (List.mem_cons_of_mem _ (List.mem_cons_of_mem _ hw))) (hat w hw)
  have hk' : (Cond.classLink own ik cls).before args s' = true := vx_ot_at hW0 hvm.symm (hgood _ List.mem_cons_self) hk
  have hini' : (Cond.initialized cls).before args s' = true := vx_ot_at hW0 hvm.symm (hgood _ (List.mem_cons_of_mem _ List.mem_cons_self)) hini
  have hU' : vx_Zq Bundle.tN "UNASSIGNED_STACK" Bundle.steD A s' s'.heap := by rw [hhp]; exact vx_Zq.moved hW0.alike (hU.kept hS.2.1)
  have hN' : vx_Zq Bundle.tN "SUPPRESSED_SENTINEL" Bundle.listD A s' s'.heap := by rw [hhp]; exact vx_Zq.moved hW0.alike (hN.kept hS.2.1)
  have h : ∀ w ∈ Bundle.ownAtoms0 own ic cls names, w.before args s' = true := vx_own hat' (vx_isRefq hU'.1) (vx_isRefq hN'.1) hU'.2.word hN'.2.word
  have hown' : s'.vm.findClass own = some m.cls := by rw [hvm]; exact hown
  have hins : (Cond.instantiable cls 6).before args s' = true := h _ (by simp [Bundle.ownAtoms0])
  obtain ⟨vm₁, cX, kX, hfX, hkX, -, -, X₁, st1⟩ := Y.newCold hexec (own := own) (C := cls) (index := ik) (n := 6) hown' hk' hins hini'
    (g := F0 m pc ls rest) rfl (by rw [hb]; exact d0) (Nat.le_refl _) (Nat.le_refl _)
  generalize hT1 : (T.setVm vm₁).pushCell { cls := cX, slots := kX.instanceTypes.map defaultValue, vm := .none } = T1 at X₁ st1
  have hcat : (Value.ref T.heap.size).category = 1 := rfl
  have hcellA : T1.heap[T.heap.size]? = some (freshCell cX kX) := by rw [← hT1]; exact State.heap_pushCell_size _ _
  have d3' : decode c.code (pc + 3) = .ok (.dup, 1) := by rw [hb]; exact d3
  obtain ⟨U, hsteps, hrun, hend, hW, hsame, ce, hce, hO⟩ := X₁.ctorThrow0 hexec htr (own := own) (cls := cls) (names := names) (ic := ic) hown' hcls hnames h (fun x hx => nomatch hx) hfX hkX hcellA (by rw [hhp, hT]; exact Nat.le_refl _)
    (g := { method := m, pc := pc + 4, locals := ls, stack := .ref T.heap.size :: .ref T.heap.size :: rest, locked := none }) rfl hsize rfl rfl (rest := rest) rfl
    (by rw [hb]; exact d4) (by rw [hb]; exact d7) hout hRframes (by simp only [List.map_cons, List.sum_cons, hcat]; omega) hlocks
  obtain ⟨f1, f2⟩ := vx_frame hsame
  rw [hhp] at f1 f2
  have hWs : s.WarmedH U.vm := State.WarmedH.trans hW0 hW
  have hcl : s.vm.findClass cls = some ce.cls := by
    have h9 := hO.cls
    rw [hvm] at h9
    exact h9
  have hall : s.sameButNew ({ U with vm := s.vm } : State) locs mc ms := by
    subst hA
    obtain ⟨e1, e2⟩ := hsame
    rw [State.setFrames_setFrames] at e1
    have h2 : (T.setVm s.vm).sameButNew ({ U with vm := s.vm } : State) [] (0 + 1) (0 + 6) := ⟨e1, e2⟩
    have h3 := X.same.trans h2
    rw [List.append_nil] at h3
    exact h3.mono hc hs
  refine ⟨U, ?_, .threw T.heap.size, hrun, hend, Or.inr ⟨T.heap.size, rfl, cls, ce, locs, hx U hWs.alike f1 (fun q hq => f2 q hq (fun z hz => nomatch hz)), hce, hO.vm, hcl, hWs, hall, hf⟩⟩
  refine st1 _ ?_
  show Steps p.tables e below (T1.setTop { method := m, pc := pc + 3, locals := ls, stack := .ref T.heap.size :: rest, locked := none }) _
  jvm_step X₁.here [X₁.here.top, hexec, d3', Value.category]
  exact hsteps
/-- 'throw new E("text")': new; dup; ldc; invokespecial; athrow -/
theorem vx_throwS {cc : ByteArray} {pc : Nat} (hexec : p.tables.exec = Jvm.exec) (hb : c.code = cc) (hl : l.stackTraces = false) {own cls text : String} {names : List String} {ik is ic mc ms sa : Nat} {A : Nat → Prop}
    (hown : s.vm.findClass own = some m.cls) (hcls : Bundle.fit cls = true) (hnames : ∀ n ∈ names, Bundle.fit n = true)
    (hk : (Cond.classLink own ik cls).before args s = true) (hini : (Cond.initialized cls).before args s = true) (hstr : vk_R own is text sa s) (hat : ∀ w ∈ vx_atS own ic cls names, w.before args s = true)
    (hgood : ∀ w ∈ Cond.classLink own ik cls :: Cond.initialized cls :: vx_atS own ic cls names, vx_ot w = true)
    (hU : vx_Zq Bundle.tN "UNASSIGNED_STACK" Bundle.steD A s s.heap) (hN : vx_Zq Bundle.tN "SUPPRESSED_SENTINEL" Bundle.listD A s s.heap) (hS : va_S A s.heap H locs) (hsize : ls.size = c.maxLocals)
    (d0 : decode cc pc = .ok (.new ik, 3)) (d3 : decode cc (pc + 3) = .ok (.dup, 1)) (d4 : decode cc (pc + 4) = .ok (.ldc is, 2)) (d6 : decode cc (pc + 6) = .ok (.invokespecial ic, 3)) (d9 : decode cc (pc + 9) = .ok (.athrow, 1))
    (hout : ∀ x ∈ c.exceptionTable.toList, covers x (pc + 9) = false)
    (hRframes : names.length + 3 < R.frames) (hRlocals : (rest.map fun v => v.category).sum + (13 * (names.length + 1) + 43) ≤ R.locals) (hRcells : cells + 1 ≤ R.cells) (hRslots : slots + 6 ≤ R.slots) (hlocks : meth.locks = false)
    (hx : ∀ t : State, s.vm.Alike t.vm → H.size ≤ t.heap.size → (∀ q : Nat, q < H.size → t.heap[q]? = H[q]?) → XC cls s t)
    (hf : ∀ z ∈ locs, free z.base) (hc : cells + 1 ≤ mc) (hs : slots + 6 ≤ ms) :
    W p l e R s m args below meth c H locs cells slots (vx_MQ below Qc XC args s mc ms free) (F0 m pc ls rest) := by
  intro T hT X
  have htr : e.platform.stackTraces = false := (show e.platform.stackTraces = l.stackTraces by rw [X.admits.platform]).trans hl
  have Y := vx_rebase X (R' := { frames := R.frames, locals := R.locals, cells := 1, slots := 6 }) (Nat.le_refl _) (Nat.le_refl _) hRcells hRslots
  obtain ⟨s', hA⟩ : ∃ z, z = (T.setVm s.vm).setFrames (.invoking m args :: below) := ⟨_, rfl⟩
  rw [← hA] at Y
  have hvm : s'.vm = s.vm := by rw [hA]; rfl
  have hhp : s'.heap = H := by rw [hA]; exact hT
  have hW0 : s.WarmedH s'.vm := by rw [hvm]; exact State.WarmedH.refl s
  have hat' : ∀ w ∈ vx_atS own ic cls names, w.before args s' = true := fun w hw => vx_ot_at hW0 hvm.symm (hgood w (List.mem_cons_of_mem _ (List.mem_cons_of_mem _ hw))) (hat w hw)
  have hk' : (Cond.classLink own ik cls).before args s' = true := vx_ot_at hW0 hvm.symm (hgood _ List.mem_cons_self) hk
  have hini' : (Cond.initialized cls).before args s' = true := vx_ot_at hW0 hvm.symm (hgood _ (List.mem_cons_of_mem _ List.mem_cons_self)) hini
  have hU' : vx_Zq Bundle.tN "UNASSIGNED_STACK" Bundle.steD A s' s'.heap := by rw [hhp]; exact vx_Zq.moved hW0.alike (hU.kept hS.2.1)
  have hN' : vx_Zq Bundle.tN "SUPPRESSED_SENTINEL" Bundle.listD A s' s'.heap := by rw [hhp]; exact vx_Zq.moved hW0.alike (hN.kept hS.2.1)
  have h : ∀ w ∈ Bundle.ownAtoms own ic cls names, w.before args s' = true := vx_own hat' (vx_isRefq hU'.1) (vx_isRefq hN'.1) hU'.2.word hN'.2.word
  have hown' : s'.vm.findClass own = some m.cls := by rw [hvm]; exact hown
  have hins : (Cond.instantiable cls 6).before args s' = true := h _ (by simp [Bundle.ownAtoms])
  obtain ⟨vm₁, cX, kX, hfX, hkX, -, -, X₁, st1⟩ := Y.newCold hexec (own := own) (C := cls) (index := ik) (n := 6) hown' hk' hins hini'
    (g := F0 m pc ls rest) rfl (by rw [hb]; exact d0) (Nat.le_refl _) (Nat.le_refl _)
  generalize hT1 : (T.setVm vm₁).pushCell { cls := cX, slots := kX.instanceTypes.map defaultValue, vm := .none } = T1 at X₁ st1
  have hcat : (Value.ref T.heap.size).category = 1 := rfl
  have hcellA : T1.heap[T.heap.size]? = some (freshCell cX kX) := by rw [← hT1]; exact State.heap_pushCell_size _ _
  have d3' : decode c.code (pc + 3) = .ok (.dup, 1) := by rw [hb]; exact d3
  have d4' : decode c.code (pc + 4) = .ok (.ldc is, 2) := by rw [hb]; exact d4
  have hstr' : vk_R own is text sa s' := vk_R.warm hW0 hstr
  obtain ⟨U, hsteps, hrun, hend, hW, hsame, ce, hce, hO⟩ := X₁.ctorThrowS hexec htr (own := own) (cls := cls) (names := names) (ic := ic) hown' hcls hnames h (fun x hx => nomatch hx) hfX hkX hcellA (by rw [hhp, hT]; exact Nat.le_refl _) (msg := .ref sa) rfl
    (g := { method := m, pc := pc + 6, locals := ls, stack := .ref sa :: .ref T.heap.size :: .ref T.heap.size :: rest, locked := none }) rfl hsize rfl rfl (rest := rest) rfl
    (by rw [hb]; exact d6) (by rw [hb]; exact d9) hout hRframes (by simp only [List.map_cons, List.sum_cons, hcat]; omega) hlocks
  obtain ⟨f1, f2⟩ := vx_frame hsame
  rw [hhp] at f1 f2
  have hWs : s.WarmedH U.vm := State.WarmedH.trans hW0 hW
  have hcl : s.vm.findClass cls = some ce.cls := by
    have h9 := hO.cls
    rw [hvm] at h9
    exact h9
  have hall : s.sameButNew ({ U with vm := s.vm } : State) locs mc ms := by
    subst hA
    obtain ⟨e1, e2⟩ := hsame
    rw [State.setFrames_setFrames] at e1
    have h2 : (T.setVm s.vm).sameButNew ({ U with vm := s.vm } : State) [] (0 + 1) (0 + 6) := ⟨e1, e2⟩
    have h3 := X.same.trans h2
    rw [List.append_nil] at h3
    exact h3.mono hc hs
  refine ⟨U, ?_, .threw T.heap.size, hrun, hend, Or.inr ⟨T.heap.size, rfl, cls, ce, locs, hx U hWs.alike f1 (fun q hq => f2 q hq (fun z hz => nomatch hz)), hce, hO.vm, hcl, hWs, hall, hf⟩⟩
  refine st1 _ ?_
  show Steps p.tables e below (T1.setTop { method := m, pc := pc + 3, locals := ls, stack := .ref T.heap.size :: rest, locked := none }) _
  jvm_step X₁.here [X₁.here.top, hexec, d3', Value.category]
  exact X₁.ldcString hexec (own := own) (text := text) (index := is) (a := sa) hown' hstr'.1 hstr'.2
    (g := { method := m, pc := pc + 4, locals := ls, stack := .ref T.heap.size :: .ref T.heap.size :: rest, locked := none }) rfl d4' _ hsteps
/-- 'throw new E("text")', the text by a wide index -/
theorem vx_throwSW {cc : ByteArray} {pc : Nat} (hexec : p.tables.exec = Jvm.exec) (hb : c.code = cc) (hl : l.stackTraces = false) {own cls text : String} {names : List String} {ik is ic mc ms sa : Nat} {A : Nat → Prop}
    (hown : s.vm.findClass own = some m.cls) (hcls : Bundle.fit cls = true) (hnames : ∀ n ∈ names, Bundle.fit n = true)
    (hk : (Cond.classLink own ik cls).before args s = true) (hini : (Cond.initialized cls).before args s = true) (hstr : vk_R own is text sa s) (hat : ∀ w ∈ vx_atS own ic cls names, w.before args s = true)
    (hgood : ∀ w ∈ Cond.classLink own ik cls :: Cond.initialized cls :: vx_atS own ic cls names, vx_ot w = true)
    (hU : vx_Zq Bundle.tN "UNASSIGNED_STACK" Bundle.steD A s s.heap) (hN : vx_Zq Bundle.tN "SUPPRESSED_SENTINEL" Bundle.listD A s s.heap) (hS : va_S A s.heap H locs) (hsize : ls.size = c.maxLocals)
    (d0 : decode cc pc = .ok (.new ik, 3)) (d3 : decode cc (pc + 3) = .ok (.dup, 1)) (d4 : decode cc (pc + 4) = .ok (.ldc_w is, 3)) (d7 : decode cc (pc + 7) = .ok (.invokespecial ic, 3)) (d10 : decode cc (pc + 10) = .ok (.athrow, 1))
    (hout : ∀ x ∈ c.exceptionTable.toList, covers x (pc + 10) = false)
    (hRframes : names.length + 3 < R.frames) (hRlocals : (rest.map fun v => v.category).sum + (13 * (names.length + 1) + 43) ≤ R.locals) (hRcells : cells + 1 ≤ R.cells) (hRslots : slots + 6 ≤ R.slots) (hlocks : meth.locks = false)
    (hx : ∀ t : State, s.vm.Alike t.vm → H.size ≤ t.heap.size → (∀ q : Nat, q < H.size → t.heap[q]? = H[q]?) → XC cls s t)
    (hf : ∀ z ∈ locs, free z.base) (hc : cells + 1 ≤ mc) (hs : slots + 6 ≤ ms) :
    W p l e R s m args below meth c H locs cells slots (vx_MQ below Qc XC args s mc ms free) (F0 m pc ls rest) := by
  intro T hT X
  have htr : e.platform.stackTraces = false := (show e.platform.stackTraces = l.stackTraces by rw [X.admits.platform]).trans hl
  have Y := vx_rebase X (R' := { frames := R.frames, locals := R.locals, cells := 1, slots := 6 }) (Nat.le_refl _) (Nat.le_refl _) hRcells hRslots
  obtain ⟨s', hA⟩ : ∃ z, z = (T.setVm s.vm).setFrames (.invoking m args :: below) := ⟨_, rfl⟩
  rw [← hA] at Y
  have hvm : s'.vm = s.vm := by rw [hA]; rfl
  have hhp : s'.heap = H := by rw [hA]; exact hT
  have hW0 : s.WarmedH s'.vm := by rw [hvm]; exact State.WarmedH.refl s
  have hat' : ∀ w ∈ vx_atS own ic cls names, w.before args s' = true := fun w hw => vx_ot_at hW0 hvm.symm (hgood w (List.mem_cons_of_mem _ (List.mem_cons_of_mem _ hw))) (hat w hw)
  have hk' : (Cond.classLink own ik cls).before args s' = true := vx_ot_at hW0 hvm.symm (hgood _ List.mem_cons_self) hk
  have hini' : (Cond.initialized cls).before args s' = true := vx_ot_at hW0 hvm.symm (hgood _ (List.mem_cons_of_mem _ List.mem_cons_self)) hini
  have hU' : vx_Zq Bundle.tN "UNASSIGNED_STACK" Bundle.steD A s' s'.heap := by rw [hhp]; exact vx_Zq.moved hW0.alike (hU.kept hS.2.1)
  have hN' : vx_Zq Bundle.tN "SUPPRESSED_SENTINEL" Bundle.listD A s' s'.heap := by rw [hhp]; exact vx_Zq.moved hW0.alike (hN.kept hS.2.1)
  have h : ∀ w ∈ Bundle.ownAtoms own ic cls names, w.before args s' = true := vx_own hat' (vx_isRefq hU'.1) (vx_isRefq hN'.1) hU'.2.word hN'.2.word
  have hown' : s'.vm.findClass own = some m.cls := by rw [hvm]; exact hown
  have hins : (Cond.instantiable cls 6).before args s' = true := h _ (by simp [Bundle.ownAtoms])
  obtain ⟨vm₁, cX, kX, hfX, hkX, -, -, X₁, st1⟩ := Y.newCold hexec (own := own) (C := cls) (index := ik) (n := 6) hown' hk' hins hini'
    (g := F0 m pc ls rest) rfl (by rw [hb]; exact d0) (Nat.le_refl _) (Nat.le_refl _)
  generalize hT1 : (T.setVm vm₁).pushCell { cls := cX, slots := kX.instanceTypes.map defaultValue, vm := .none } = T1 at X₁ st1
  have hcat : (Value.ref T.heap.size).category = 1 := rfl
  have hcellA : T1.heap[T.heap.size]? = some (freshCell cX kX) := by rw [← hT1]; exact State.heap_pushCell_size _ _
  have d3' : decode c.code (pc + 3) = .ok (.dup, 1) := by rw [hb]; exact d3
  have d4' : decode c.code (pc + 4) = .ok (.ldc_w is, 3) := by rw [hb]; exact d4
  have hstr' : vk_R own is text sa s' := vk_R.warm hW0 hstr
  obtain ⟨U, hsteps, hrun, hend, hW, hsame, ce, hce, hO⟩ := X₁.ctorThrowS hexec htr (own := own) (cls := cls) (names := names) (ic := ic) hown' hcls hnames h (fun x hx => nomatch hx) hfX hkX hcellA (by rw [hhp, hT]; exact Nat.le_refl _) (msg := .ref sa) rfl
    (g := { method := m, pc := pc + 7, locals := ls, stack := .ref sa :: .ref T.heap.size :: .ref T.heap.size :: rest, locked := none }) rfl hsize rfl rfl (rest := rest) rfl
    (by rw [hb]; exact d7) (by rw [hb]; exact d10) hout hRframes (by simp only [List.map_cons, List.sum_cons, hcat]; omega) hlocks
  obtain ⟨f1, f2⟩ := vx_frame hsame
  rw [hhp] at f1 f2
  have hWs : s.WarmedH U.vm := State.WarmedH.trans hW0 hW
  have hcl : s.vm.findClass cls = some ce.cls := by
    have h9 := hO.cls
    rw [hvm] at h9
    exact h9
  have hall : s.sameButNew ({ U with vm := s.vm } : State) locs mc ms := by
    subst hA
    obtain ⟨e1, e2⟩ := hsame
    rw [State.setFrames_setFrames] at e1
    have h2 : (T.setVm s.vm).sameButNew ({ U with vm := s.vm } : State) [] (0 + 1) (0 + 6) := ⟨e1, e2⟩
    have h3 := X.same.trans h2
    rw [List.append_nil] at h3
    exact h3.mono hc hs
  refine ⟨U, ?_, .threw T.heap.size, hrun, hend, Or.inr ⟨T.heap.size, rfl, cls, ce, locs, hx U hWs.alike f1 (fun q hq => f2 q hq (fun z hz => nomatch hz)), hce, hO.vm, hcl, hWs, hall, hf⟩⟩
  refine st1 _ ?_
  show Steps p.tables e below (T1.setTop { method := m, pc := pc + 3, locals := ls, stack := .ref T.heap.size :: rest, locked := none }) _
  jvm_step X₁.here [X₁.here.top, hexec, d3', Value.category]
  exact X₁.ldcStringW hexec (own := own) (text := text) (index := is) (a := sa) hown' hstr'.1 hstr'.2
    (g := { method := m, pc := pc + 4, locals := ls, stack := .ref T.heap.size :: .ref T.heap.size :: rest, locked := none }) rfl d4' _ hsteps
end Ends
section Bodies
variable {l : Launch}
theorem vx_ofW {y : MethodName} {ws ws' : List Cond} {rm : Room} {Pc : Array Value → State → Prop} {Qc : Array Value → State → Outcome → State → Prop} {XC : String → State → State → Prop} {mc ms : Nat} {free : Addr → Prop} {cc : ByteArray} {maxL : Nat} {ret : Option FieldType}
    (hy : plainName y.cls = true) (hw : ws = Cond.code y cc maxL ret :: ws')
    (body : ∀ p e s m args below meth c s₁, BodyLoose p l y (headSpec ws rm) cc maxL ret e s m args below meth c s₁ → c.maxLocals = maxL → (∀ x ∈ c.exceptionTable.toList, False) → Pc args s →
      W p l e (headSpec ws rm).room s m args below meth c s.heap [] 0 0 (vx_MQ below Qc XC args s mc ms free) (entryFrame m args maxL)) : vx_Met l y ws rm Pc Qc XC mc ms free := by
  refine MetFree.of_bodyS (code := cc) (maxLocals := maxL) (ret := ret) hy ?_ ?_
  · intro args s m h hn
    obtain ⟨meth, c, h1, h2, h3, h4, h5, h6, -, -⟩ := Cond.code_spec hn (atoms_spec (ws := ws) h _ (by rw [hw]; exact List.mem_cons_self))
    exact ⟨meth, c, h1, h2, h3, h4, h5, h6⟩
  · intro p e s m args below meth c s₁ B hml hP _
    have hh0 : s₁.heap = s.heap := by rw [B.state]; rfl
    have ht : ∀ x ∈ c.exceptionTable.toList, False := by
      obtain ⟨meth9, c9, h1, h2, -, -, -, -, h7, -⟩ := Cond.code_spec B.named (atoms_spec (ws := ws) B.pre _ (by rw [hw]; exact List.mem_cons_self))
      cases Option.some.inj (h1.symm.trans B.method)
      cases Option.some.inj (h2.symm.trans (Stand.of_body B).code)
      intro x hx
      rw [Array.isEmpty_iff.mp h7] at hx
      cases hx
    obtain ⟨t, a1, o, b1, b2, b3⟩ := body p e s m args below meth c s₁ B hml ht hP s₁ hh0 (Stand.of_body B)
    exact ⟨t, o, a1, b1, b2, b3⟩
/-- the table of a body with handlers -/
theorem vx_table {p : Program} {x y : MethodName} {S : Spec} {cc bytes : ByteArray} {maxL maxL' : Nat} {ret ret' : Option FieldType} {e : Env} {s s₁ : State} {m : MethodId} {args : Array Value} {below : List Frame} {meth : Method} {c : Code} {hh : List (Nat × Nat × Nat × Nat)}
    (B : BodyLoose p l y S cc maxL ret e s m args below meth c s₁) (h : (Cond.codeWith y bytes maxL' ret' hh).before args s = true) : c.exceptionTable.toList = tableOf hh := by
  obtain ⟨m9, meth9, c9, hn9, h1, h2, -, -, h6, -⟩ := Cond.codeWith_spec h
  cases Option.some.inj (hn9.symm.trans B.named)
  cases Option.some.inj (h1.symm.trans B.method)
  cases Option.some.inj (h2.symm.trans (Stand.of_body B).code)
  rw [← h6, table_eq]
end Bodies
end VXA
/-! ===== END ===== -/
/-! ===== BEGIN a static call of a method with an exception table ===== -/
section VXS
variable {p : Program} {l : Launch} {e : Env} {R : Room} {s : State} {m : MethodId} {args : Array Value} {below : List Frame} {meth : Method} {c : Code} {T : State} {H : Heap} {locs : List Loc} {cells slots : Nat}
abbrev vx_CSW (R : Room) (s : State) (args : Array Value) (own : String) (index : Nat) (y : MethodName) (bytes : ByteArray) (maxL : Nat) (ret : Option FieldType) (hh : List (Nat × Nat × Nat × Nat)) (ws : List Cond) (rm : Room) (mc ms n : Nat) : Prop :=
  (rm.cells = mc ∧ rm.slots = ms ∧ rm.frames + 1 ≤ R.frames ∧ 8 + (maxL + 11) + rm.locals ≤ R.locals ∧ (∀ w ∈ ws, ∀ (a' : Array Value) (U : State), s.WarmedH U.vm → w.before a' U = true) ∧ Cond.codeWith y bytes maxL ret hh ∈ ws) ∧
  (Cond.codeWith y bytes maxL ret hh).before args s = true ∧ (Cond.initialized y.cls).before args s = true ∧ (y.cls ≠ "java/lang/invoke/MethodHandle" ∧ y.cls ≠ "java/lang/invoke/VarHandle") ∧
  (∀ sig, parseMethodDescriptor y.desc = some sig → n = sig.parameters.length) ∧ (Cond.methodLink own index y).before args s = true ∧ (Cond.static y).before args s = true
theorem vx_cwSW {own : String} {index maxL mc ms : Nat} {y : MethodName} {bytes : ByteArray} {ret : Option FieldType} {hh : List (Nat × Nat × Nat × Nat)} {Ts ws ws' : List Cond} {rm : Room} (n : Nat) (ht : ∀ w ∈ Ts, w.before args s = true) (hT : GoodIn Ts (va_wsS own index y ws)) (hw : ws = Cond.codeWith y bytes maxL ret hh :: ws') (hrc : rm.cells = mc) (hrs : rm.slots = ms)
    (hd : y.cls ≠ "java/lang/invoke/MethodHandle" ∧ y.cls ≠ "java/lang/invoke/VarHandle" ∧ (parseMethodDescriptor y.desc).map (fun d => d.parameters.length) = some n) (hR : rm.frames + 1 ≤ R.frames ∧ 8 + (maxL + 11) + rm.locals ≤ R.locals) :
    vx_CSW R s args own index y bytes maxL ret hh ws rm mc ms n := by
  have ok : ∀ w ∈ va_wsS own index y ws, w.before args s = true := fun w h => ht w (hT w h).1
  have hG : GoodIn Ts ws := fun w h => hT w (by unfold va_wsS; exact List.mem_append_right _ h)
  have hc : Cond.codeWith y bytes maxL ret hh ∈ ws := by rw [hw]; exact List.mem_cons_self
  refine ⟨⟨hrc, hrs, hR.1, hR.2, pay_in ht hG, hc⟩, ht _ (hG _ hc).1, ok _ (by simp [va_wsS]), ⟨hd.1, hd.2.1⟩, fun sig h => ?_, ok _ (by simp [va_wsS]), ok _ (by simp [va_wsS])⟩
  have h2 := hd.2.2
  rw [h] at h2
  exact (Option.some.inj h2).symm
theorem vx_callSW (X : Stand p l e R s m args below meth c T locs cells slots) (hexec : p.tables.exec = Jvm.exec) {own : String} {index : Nat} {y : MethodName} {bytes : ByteArray} {maxL : Nat} {ret : Option FieldType} {hh : List (Nat × Nat × Nat × Nat)}
    (hown : s.vm.findClass own = some m.cls) (hlink : (Cond.methodLink own index y).before args s = true) (hstat : (Cond.static y).before args s = true) (hinit : (Cond.initialized y.cls).before args s = true)
    (hcode : (Cond.codeWith y bytes maxL ret hh).before args s = true) (hy : y.cls ≠ "java/lang/invoke/MethodHandle" ∧ y.cls ≠ "java/lang/invoke/VarHandle")
    {W9 : Nat} {Pre : Pt → Array Value → Prop} {Post : Pt → Array Value → Option Value → Pt → Prop} (hK : Back l R p e below s args y 3 W9 Pre Post)
    {g : JFrame} (hg : g.method = m) (hsize : g.locals.size = c.maxLocals) {argsL rest : List Value} (hlen : ∀ sig, parseMethodDescriptor y.desc = some sig → argsL.length = sig.parameters.length)
    (hstack : g.stack = argsL.reverse ++ rest) (hW : 2 * g.monitorRoom + (rest.map fun v => v.category).sum ≤ W9) (hdg : decode c.code g.pc = .ok (.invokestatic index, 3))
    (hpre : ∀ vm₁, s.WarmedH vm₁ → Pre ⟨T.setVm vm₁, locs, cells, slots⟩ argsL.toArray) :
    ∃ (v : Option Value) (vm₁ : Vm) (B : Pt), s.WarmedH vm₁ ∧ Stand p l e R s m args below meth c B.U B.locs B.cells B.slots ∧ Post ⟨T.setVm vm₁, locs, cells, slots⟩ argsL.toArray v B ∧
      ∀ target, Steps p.tables e below (B.U.setTop { g with pc := g.pc + 3, stack := v.toList ++ rest }) target → Steps p.tables e below (T.setTop g) target := by
  obtain ⟨mk, methM, cM, hnamed, hmethM, -, -, -, -, -, -, hsigM⟩ := Cond.codeWith_spec hcode
  have hstatic : methM.isStatic = true := Cond.static_spec hnamed hmethM hstat
  obtain ⟨kP, hkP, -⟩ := className_of_methodNamed hnamed
  have hinitP : kP.init = .initialized := Cond.initialized_spec (findClass_of_methodNamed hnamed) hkP hinit
  obtain ⟨vm₁, X₁, hstep₁⟩ := X.invokestatic hexec hown hlink hnamed hmethM hstatic hkP hinitP hy (g := g) hg (argsL := argsL) (rest := rest) (hlen _ hsigM) hstack hdg
  obtain ⟨v, B, X', hpost, hsteps⟩ := hK m meth c ⟨T.setVm vm₁, locs, cells, slots⟩ { g with stack := rest } (.invokestatic index) mk argsL.toArray X₁ hg hsize hdg hW (X₁.named hnamed) (hpre vm₁ X₁.warmed)
  exact ⟨v, vm₁, B, X₁.warmed, X', hpost, fun target h => hstep₁ _ fun acts => by rw [doInvoke_state]; exact hsteps.trans h⟩
theorem vx_runSW {y : MethodName} {bytes cc : ByteArray} {maxL nL mc ms n index : Nat} {ret : Option FieldType} {hh : List (Nat × Nat × Nat × Nat)} {ws : List Cond} {rm : Room} {Pc : Array Value → State → Prop} {Qc : Array Value → State → Outcome → State → Prop} {free : Addr → Prop} {Ts : List Cond} {own : String} {As rest : List Value} {g : JFrame}
    (S : CallFix p m c cc nL s args Ts own) (hM : Met l y ws rm Pc Qc mc ms free) (cw : vx_CSW R s args own index y bytes maxL ret hh ws rm mc ms n) (hp : PreS s H Pc As)
    (hg : g.method = m) (hn : As.length = n) (hsize : g.locals.size = nL) (hstack : g.stack = As.reverse ++ rest) (hW : 2 * g.monitorRoom + (rest.map fun v => v.category).sum ≤ 8) (hdg : decode cc g.pc = .ok (.invokestatic index, 3)) (hf : cells + mc ≤ R.cells ∧ slots + ms ≤ R.slots) :
    va_Run p l e R s m args below meth c H locs cells slots mc ms g rest (Qc As.toArray) (free) := by
  obtain ⟨⟨hrc, hrs, hfr, hlo, hws, hcw⟩, hcode, hini, hy, hlen, hl, hstt⟩ := cw
  have hK : Back l R p e below s args y 3 8 (PreOf R mc ms Pc) (PostOf Qc mc ms free) := va_backW (hh := hh) (bytes := bytes) (maxL := maxL) (ret := ret) hM hp.1 hrc hrs hfr hlo hws hcw (fun a' U hW => word_at hW (Or.inl (by first | rfl | simp [Cond.onTables, Cond.keeps, Cond.steady])) hini)
  obtain ⟨hx, hb, hml, ho, -⟩ := S
  intro T hT X
  obtain ⟨v, vm₁, ⟨U', l2, c2, s2⟩, hW₁, X', ⟨g', mk, t, L, e1, e2, hq, h1, hL, h2, h3⟩, st⟩ := vx_callSW X hx (hh := hh) (bytes := bytes) (maxL := maxL) (ret := ret) ho hl hstt hini hcode hy hK hg (hsize.trans hml.symm) (argsL := As) (rest := rest) (fun sig h => hn.trans (hlen sig h)) hstack hW (by rw [hb]; exact hdg)
    (fun vm₁ hW₁ => ⟨hf.1, hf.2, hp.2 (T.setVm vm₁) hT hW₁⟩)
  dsimp only [Pt.U, Pt.locs, Pt.cells, Pt.slots] at X' e1 e2 h1 h2 h3 st
  subst h1; subst h2; subst h3
  exact ⟨v, (T.setVm vm₁).calling g' mk As.toArray, t, U', L, hT, X', hL, e1, e2, hq, st⟩
/-- not caught here, past rows that name other classes: it goes on to the caller -/
theorem vx_outP {p : Program} {l : Launch} {e : Env} {R : Room} {s : State} {m : MethodId} {args : Array Value} {below : List Frame} {meth : Method} {c : Code} {H : Heap} {locs : List Loc} {cells slots : Nat} {free : Addr → Prop} {ls : Array Slot} {rest : List Value} {Qc : Array Value → State → Outcome → State → Prop} {XC : String → State → State → Prop}
    {pc : Nat} {own E : String} {ce : Cell} {q : Addr} {mc ms : Nat} (hown : s.vm.findClass own = some m.cls) (hlocks : meth.locks = false)
    (hpass : ∀ z ∈ c.exceptionTable.toList, covers z pc = false ∨ (z.catchType ≠ 0 ∧ ∃ nm : String, (Cond.classLink own z.catchType nm).before args s = true ∧ va_Nc E nm s)) (hcell : H[q]? = some ce) (hv : ce.vm = .none) (hcl : s.vm.findClass E = some ce.cls)
    (hx : ∀ t : State, t.heap = H → s.vm.Alike t.vm → XC E s t) (hf : ∀ z ∈ locs, free z.base) (hc : cells ≤ mc) (hs : slots ≤ ms) :
    vx_W p l e R s m args below meth c H locs cells slots (vx_MQ below Qc XC args s mc ms free) (F0 m pc ls rest) q := by
  intro T hT X
  have hpl : e.platform.magicAccessors = ({} : Platform).magicAccessors := by rw [X.admits.platform]
  obtain ⟨vm', hW', X', st⟩ := X.outThrough hlocks q (g := F0 m pc ls rest) rfl rfl rfl (cell := ce) (by rw [hT]; exact hcell) (by rw [hv]; rfl)
    (by obtain ⟨k9, h9, -⟩ := Vm.findClass_spec hcl; exact ⟨k9, h9⟩) (fun z hz => by
      rcases hpass z hz with h | ⟨hz0, nm, hl1, hn1⟩
      · exact Or.inl h
      · obtain ⟨c6, hc6, hcl6⟩ := Cond.classLink_spec hown hl1 e.platform hpl
        obtain ⟨a8, b8, h1, h2, h3⟩ := hn1
        cases Option.some.inj (h1.symm.trans hcl)
        cases Option.some.inj (h2.symm.trans hc6)
        exact Or.inr ⟨hz0, _, hcl6, h3⟩)
  obtain ⟨g₀, hfr⟩ := X'.frames_eq
  have hcell9 : ((T.setVm vm').setFrames (.throwing q :: below)).heap[q]? = some ce := by
    show T.heap[q]? = some ce
    rw [hT]; exact hcell
  have hend : Ended ((T.setVm vm').setFrames (.throwing q :: below)) below (.threw q) := State.frames_setFrames _ (State.cur_lt_of_frames hfr)
  refine ⟨(T.setVm vm').setFrames (.throwing q :: below), ?_, .threw q, X'.here.running, hend, Or.inr ⟨q, rfl, E, ce, locs, hx _ hT (X'.ends _).1.alike, hcell9, hv, hcl, (X'.ends _).1, (X'.ends _).2.mono hc hs, hf⟩⟩
  rw [X.pushThrowing_eq]
  exact st
/-- a thing of a world lies in the heap -/
theorem vx_lt {D : va_G} {cl : List vw_C} {ws : va_W} {H1 : Heap} (h : va_P D cl ws H1) {k : Nat} {q : Nat × va_E} (hk : ws[k]? = some q) : q.1 < H1.size := (h k q hk).lt
end VXS
/-! ===== END ===== -/
/-! ===== BEGIN methods with a table of their own: called by a name, returning or throwing ===== -/
section VXH
/-! vx_backW, vx_callVX, vx_callSX, vx_callVW, vx_runVW, vx_runVX, vx_runSX, vx_ofWH follow the same proofs as their sisters above (Free/Laws.lean, Shelf42/LK1.lean); vx_outP calls Shelf42/NT130.lean (outThrough). -/
section
variable {l : Launch} {R : Room} {p : Program} {e : Env} {below : List Frame} {s : State} {sargs : Array Value} {y : MethodName} {len W9 : Nat}
theorem vx_backW {ws : List Cond} {rm : Room} {Pc : Array Value → State → Prop} {Qc : Array Value → State → Outcome → State → Prop} {XC : String → State → State → Prop} {mc ms : Nat} {free : Addr → Prop} {bytes : ByteArray} {maxL : Nat} {ret : Option FieldType} {hh : List (Nat × Nat × Nat × Nat)}
    (hM : vx_Met l y ws rm Pc Qc XC mc ms free) (hblind : FrameBlind Pc) (hrc : rm.cells = mc) (hrs : rm.slots = ms)
    (hframes : rm.frames + 1 ≤ R.frames) (hlocals : W9 + (maxL + 11) + rm.locals ≤ R.locals)
    (hws : ∀ w ∈ ws, ∀ a' U, s.WarmedH U.vm → w.before a' U = true) (hcode : Cond.codeWith y bytes maxL ret hh ∈ ws) (hinit : ∀ a' U, s.WarmedH U.vm → (Cond.initialized y.cls).before a' U = true) :
    vx_Back l R p e below s sargs y len W9 (PreOf R mc ms Pc) (PostOf Qc mc ms free) (vx_Post XC mc ms free) := by
  intro m meth c A g ig mk a X hg hsize hdg hW hn hp
  have h1 : (headSpec ws rm).pre.before a A.U = true := atoms_intro fun w hw => hws w hw _ _ X.warmed
  have h2 : (Cond.codeWith y bytes maxL ret hh).before a A.U = true := hws _ hcode _ _ X.warmed
  have h3 : (Cond.initialized y.cls).before a A.U = true := hinit _ _ X.warmed
  have h4 : A.cells + (headSpec ws rm).room.cells ≤ R.cells := by rw [show (headSpec ws rm).room.cells = mc from hrc]; exact hp.1
  have h5 : A.slots + (headSpec ws rm).room.slots ≤ R.slots := by rw [show (headSpec ws rm).room.slots = ms from hrs]; exact hp.2.1
  have hPc : Pc a (A.U.calling g mk a) := hblind _ _ _ _ hp.2.2
  obtain ⟨U, Ls, c0, s0⟩ := A
  dsimp only [Pt.U, Pt.locs, Pt.cells, Pt.slots] at h1 h2 h3 h4 h5 X hn hPc ⊢
  obtain ⟨m9, methY, cY, hn9, hmY, hcY, -, hlY, -⟩ := Cond.codeWith_spec h2
  cases Option.some.inj (hn9.symm.trans hn)
  obtain ⟨kY, hkY, -⟩ := className_of_methodNamed hn
  have hinitY : kY.init = .initialized := Cond.initialized_spec (findClass_of_methodNamed hn) hkY h3
  have h : At U g.method c below := by rw [hg]; exact X.here
  have hlocals9 : W9 + (maxL + 11) + (headSpec ws rm).room.locals ≤ R.locals := hlocals
  have happ : (headSpec ws rm).appliesLoose y e.platform (U.calling g mk a) = true :=
    Spec.appliesLoose_calling (g := g) h hdg hn hkY hinitY
      (X.room_calling (g := g) (R' := (headSpec ws rm).room) hsize hmY hcY hframes (by rw [hlY]; omega) h4 h5) h1
  obtain ⟨mid, hmid⟩ := h.above
  have hfr : (U.setTop g).frames = (.java g :: mid) ++ below := by rw [State.frames_setTop' g h.top, hmid]; rfl
  obtain ⟨o, s₂, hsteps, -, hend, hq⟩ := Steps.callFree hM p X.admits X.cas X.clock (acts := []) hfr happ hPc trivial
  have hq' : vx_Q Qc XC mc ms free a (U.calling g mk a) o s₂ := hq
  rw [State.frames_setTop' g h.top] at hend
  obtain ⟨g₀, hg0⟩ := Option.isSome_iff_exists.mp h.top
  obtain ⟨r, hr⟩ := State.topJava?_eq_some.mp hg0
  have hr' : (({ U with heap := s₂.heap, slotsUsed := s₂.slotsUsed } : State).setVm s₂.vm).frames = .java g₀ :: r := hr
  rcases hq' with ⟨hqc, L, hfe, hL⟩ | ⟨q, rfl, E, ce, L, hx, hce, hcv, hcl, hW₂, hsm, hL⟩
  · obtain ⟨⟨v, rfl⟩, hW₂, e2, q2, q3, q4, q5, q6⟩ := id hfe
    have e3 : s₂ = ({ (U.calling g mk a).setFrames s₂.frames with heap := s₂.heap, slotsUsed := s₂.slotsUsed } : State).setVm s₂.vm := by
      have : s₂ = ({ s₂ with vm := (U.calling g mk a).vm } : State).setVm s₂.vm := rfl
      rw [e2] at this
      exact this
    obtain ⟨c₂, i₂, len₂, hc₂, hd₂, hf₂⟩ := hend
    have hW' : U.WarmedH s₂.vm := hW₂
    have hcc : c₂ = c := by
      have h1 : s₂.code? g.method = U.code? g.method := by
        rw [State.code?_eq, State.code?_eq, hW'.alike.method?]
      exact Option.some.inj (hc₂.symm.trans (h1.trans h.code))
    subst hcc
    have hlen : len₂ = len := by rw [hdg] at hd₂; cases hd₂; rfl
    subst hlen
    have hs₂ : s₂ = (({ U with heap := s₂.heap, slotsUsed := s₂.slotsUsed } : State).setVm s₂.vm).setTop { g with pc := g.pc + len₂, stack := v.toList ++ g.stack } := by
      refine e3.trans ?_
      rw [hf₂, State.calling_eq h.top, State.setFrames_setFrames, State.setTop_of_frames _ hr', hr]
      rfl
    have hsame : U.sameButNew ({ U with heap := s₂.heap, slotsUsed := s₂.slotsUsed } : State) L mc ms := by
      refine ⟨?_, q2, q3, q4, q5, q6⟩
      obtain ⟨t, ht, -⟩ := State.frames_cons hr
      show ({ U with heap := s₂.heap, slotsUsed := s₂.slotsUsed } : State) = { U.setFrames U.frames with heap := s₂.heap, slotsUsed := s₂.slotsUsed }
      rw [State.setFrames_self ht]
    subst hg
    refine Or.inl ⟨v, ⟨(({ U with heap := s₂.heap, slotsUsed := s₂.slotsUsed } : State).setVm s₂.vm), Ls ++ L, c0 + mc, s0 + ms⟩,
      ⟨X.admits, X.cas, X.clock, X.frames, X.room, X.hears, X.method, X.code, (X.here.setHeapUsed s₂.heap s₂.slotsUsed).setVm hW'.alike, X.tail, State.WarmedH.trans X.warmed hW', X.limits, X.bytes, X.same.trans (hsame.setVm s.vm)⟩,
      ⟨g, mk, s₂, L, rfl, rfl, hqc, rfl, hL, rfl, rfl⟩, ?_⟩
    show Steps p.tables e below _ ((({ U with heap := s₂.heap, slotsUsed := s₂.slotsUsed } : State).setVm s₂.vm).setTop { g with pc := g.pc + len₂, stack := v.toList ++ g.stack })
    rw [← hs₂]
    exact hsteps
  · obtain ⟨e2, q2, q3, q4, q5, q6⟩ := id hsm
    have e3 : s₂ = ({ (U.calling g mk a).setFrames s₂.frames with heap := s₂.heap, slotsUsed := s₂.slotsUsed } : State).setVm s₂.vm := by
      have : s₂ = ({ s₂ with vm := (U.calling g mk a).vm } : State).setVm s₂.vm := rfl
      rw [e2] at this
      exact this
    have hf₂ : s₂.frames = .throwing q :: .java g :: U.frames.tail := hend
    have hW' : U.WarmedH s₂.vm := hW₂
    have hs₂ : s₂ = ((({ U with heap := s₂.heap, slotsUsed := s₂.slotsUsed } : State).setVm s₂.vm).setTop g).pushFrame (.throwing q) := by
      refine e3.trans ?_
      rw [hf₂, State.calling_eq h.top, State.setFrames_setFrames, State.pushFrame, State.frames_setTop _ hr', State.setTop_of_frames _ hr', State.setFrames_setFrames, hr]
      rfl
    have hsame : U.sameButNew ({ U with heap := s₂.heap, slotsUsed := s₂.slotsUsed } : State) L mc ms := by
      refine ⟨?_, q2, q3, q4, q5, q6⟩
      obtain ⟨t, ht, -⟩ := State.frames_cons hr
      show ({ U with heap := s₂.heap, slotsUsed := s₂.slotsUsed } : State) = { U.setFrames U.frames with heap := s₂.heap, slotsUsed := s₂.slotsUsed }
      rw [State.setFrames_self ht]
    subst hg
    refine Or.inr ⟨q, ⟨(({ U with heap := s₂.heap, slotsUsed := s₂.slotsUsed } : State).setVm s₂.vm), Ls ++ L, c0 + mc, s0 + ms⟩,
      ⟨X.admits, X.cas, X.clock, X.frames, X.room, X.hears, X.method, X.code, (X.here.setHeapUsed s₂.heap s₂.slotsUsed).setVm hW'.alike, X.tail, State.WarmedH.trans X.warmed hW', X.limits, X.bytes, X.same.trans (hsame.setVm s.vm)⟩,
      ⟨g, mk, s₂, L, E, ce, rfl, rfl, hx, hce, hcv, hcl, rfl, hL, rfl, rfl⟩, ?_⟩
    show Steps p.tables e below _ (((({ U with heap := s₂.heap, slotsUsed := s₂.slotsUsed } : State).setVm s₂.vm).setTop g).pushFrame (.throwing q))
    rw [← hs₂]
    exact hsteps
end
variable {p : Program} {l : Launch} {e : Env} {R : Room} {s : State} {m : MethodId} {args : Array Value} {below : List Frame} {meth : Method} {c : Code} {T : State} {H : Heap} {locs : List Loc} {cells slots : Nat}
theorem vx_callVX (X : Stand p l e R s m args below meth c T locs cells slots) (hexec : p.tables.exec = Jvm.exec) {own C : String} {index : Nat} {y : MethodName} {bytes : ByteArray} {maxL : Nat} {ret : Option FieldType} {hh : List (Nat × Nat × Nat × Nat)}
    (hown : s.vm.findClass own = some m.cls) (hlink : (Cond.methodLink own index y).before args s = true) (hinst : (Cond.instanceMethod y).before args s = true) (hsel : (Cond.selects C y y).before args s = true)
    (hcode : (Cond.codeWith y bytes maxL ret hh).before args s = true) (hy : y.cls ≠ "java/lang/invoke/MethodHandle" ∧ y.cls ≠ "java/lang/invoke/VarHandle")
    {W9 : Nat} {Pre : Pt → Array Value → Prop} {Post : Pt → Array Value → Option Value → Pt → Prop} {PostX : Pt → Array Value → Addr → Pt → Prop} (hK : vx_Back l R p e below s args y 3 W9 Pre Post PostX)
    {b : Addr} {cellB : Cell} (hcell : T.heap[b]? = some cellB) (hobj : cellB.vm.isStatics = false) (hcls : s.vm.findClass C = some cellB.cls)
    {g : JFrame} (hg : g.method = m) (hsize : g.locals.size = c.maxLocals) {argsL rest : List Value} (hlen : ∀ sig, parseMethodDescriptor y.desc = some sig → argsL.length = sig.parameters.length)
    (hstack : g.stack = argsL.reverse ++ .ref b :: rest) (hW : 2 * g.monitorRoom + (rest.map fun v => v.category).sum ≤ W9) (hdg : decode c.code g.pc = .ok (.invokevirtual index, 3))
    (hpre : ∀ vm₁, s.WarmedH vm₁ → Pre ⟨T.setVm vm₁, locs, cells, slots⟩ (Value.ref b :: argsL).toArray) :
    (∃ (v : Option Value) (vm₁ : Vm) (B : Pt), s.WarmedH vm₁ ∧ Stand p l e R s m args below meth c B.U B.locs B.cells B.slots ∧ Post ⟨T.setVm vm₁, locs, cells, slots⟩ (Value.ref b :: argsL).toArray v B ∧
      ∀ target, Steps p.tables e below (B.U.setTop { g with pc := g.pc + 3, stack := v.toList ++ rest }) target → Steps p.tables e below (T.setTop g) target) ∨
    (∃ (q : Addr) (vm₁ : Vm) (B : Pt), s.WarmedH vm₁ ∧ Stand p l e R s m args below meth c B.U B.locs B.cells B.slots ∧ PostX ⟨T.setVm vm₁, locs, cells, slots⟩ (Value.ref b :: argsL).toArray q B ∧
      Steps p.tables e below (T.setTop g) ((B.U.setTop { g with stack := rest }).pushFrame (.throwing q))) := by
  obtain ⟨mk, methM, hnamed, hmethM, hstM, habM⟩ := Cond.instanceMethod_spec hinst
  obtain ⟨m8, methM', cM, hn8, hmethM', -, -, -, -, -, -, hsigM⟩ := Cond.codeWith_spec hcode
  cases Option.some.inj (hn8.symm.trans hnamed)
  cases hmethM.symm.trans hmethM'
  obtain ⟨c2, r2, m2, q1, q2, q3, q4, kP, hkP, hkPi⟩ := Cond.selects_spec hsel
  cases hcls.symm.trans q1
  cases (State.methodFound?_of_named hnamed hy).symm.trans q2
  cases hnamed.symm.trans q3
  have hselP : selectMethod e.platform s.vm cellB.cls mk = .method mk := by rw [Launch.admits_selectMethod X.admits]; exact q4
  obtain ⟨vm₁, X₁, hstep₁⟩ := X.invokevirtual hexec hown hlink hnamed hmethM hstM hkP hkPi hy (a := b) (cell := cellB) hcell
    (fun z h => by rw [h] at hobj; cases hobj) hselP hmethM habM hkP hkPi (g := g) hg (argsL := argsL) (rest := rest) (hlen _ hsigM) hstack hdg
  rcases hK m meth c ⟨T.setVm vm₁, locs, cells, slots⟩ { g with stack := rest } (.invokevirtual index) mk (Value.ref b :: argsL).toArray X₁ hg hsize hdg hW (X₁.named hnamed) (hpre vm₁ X₁.warmed) with ⟨v, B, X', hpost, hsteps⟩ | ⟨q, B, X', hpost, hsteps⟩
  · exact Or.inl ⟨v, vm₁, B, X₁.warmed, X', hpost, fun target h => hstep₁ _ fun acts => by rw [doInvoke_state]; exact hsteps.trans h⟩
  · exact Or.inr ⟨q, vm₁, B, X₁.warmed, X', hpost, hstep₁ _ fun acts => by rw [doInvoke_state]; exact hsteps⟩
theorem vx_callSX (X : Stand p l e R s m args below meth c T locs cells slots) (hexec : p.tables.exec = Jvm.exec) {own : String} {index : Nat} {y : MethodName} {bytes : ByteArray} {maxL : Nat} {ret : Option FieldType} {hh : List (Nat × Nat × Nat × Nat)}
    (hown : s.vm.findClass own = some m.cls) (hlink : (Cond.methodLink own index y).before args s = true) (hstat : (Cond.static y).before args s = true) (hinit : (Cond.initialized y.cls).before args s = true)
    (hcode : (Cond.codeWith y bytes maxL ret hh).before args s = true) (hy : y.cls ≠ "java/lang/invoke/MethodHandle" ∧ y.cls ≠ "java/lang/invoke/VarHandle")
    {W9 : Nat} {Pre : Pt → Array Value → Prop} {Post : Pt → Array Value → Option Value → Pt → Prop} {PostX : Pt → Array Value → Addr → Pt → Prop} (hK : vx_Back l R p e below s args y 3 W9 Pre Post PostX)
    {g : JFrame} (hg : g.method = m) (hsize : g.locals.size = c.maxLocals) {argsL rest : List Value} (hlen : ∀ sig, parseMethodDescriptor y.desc = some sig → argsL.length = sig.parameters.length)
    (hstack : g.stack = argsL.reverse ++ rest) (hW : 2 * g.monitorRoom + (rest.map fun v => v.category).sum ≤ W9) (hdg : decode c.code g.pc = .ok (.invokestatic index, 3))
    (hpre : ∀ vm₁, s.WarmedH vm₁ → Pre ⟨T.setVm vm₁, locs, cells, slots⟩ argsL.toArray) :
    (∃ (v : Option Value) (vm₁ : Vm) (B : Pt), s.WarmedH vm₁ ∧ Stand p l e R s m args below meth c B.U B.locs B.cells B.slots ∧ Post ⟨T.setVm vm₁, locs, cells, slots⟩ argsL.toArray v B ∧
      ∀ target, Steps p.tables e below (B.U.setTop { g with pc := g.pc + 3, stack := v.toList ++ rest }) target → Steps p.tables e below (T.setTop g) target) ∨
    (∃ (q : Addr) (vm₁ : Vm) (B : Pt), s.WarmedH vm₁ ∧ Stand p l e R s m args below meth c B.U B.locs B.cells B.slots ∧ PostX ⟨T.setVm vm₁, locs, cells, slots⟩ argsL.toArray q B ∧
      Steps p.tables e below (T.setTop g) ((B.U.setTop { g with stack := rest }).pushFrame (.throwing q))) := by
  obtain ⟨mk, methM, cM, hnamed, hmethM, -, -, -, -, -, -, hsigM⟩ := Cond.codeWith_spec hcode
  have hstatic : methM.isStatic = true := Cond.static_spec hnamed hmethM hstat
  obtain ⟨kP, hkP, -⟩ := className_of_methodNamed hnamed
  have hinitP : kP.init = .initialized := Cond.initialized_spec (findClass_of_methodNamed hnamed) hkP hinit
  obtain ⟨vm₁, X₁, hstep₁⟩ := X.invokestatic hexec hown hlink hnamed hmethM hstatic hkP hinitP hy (g := g) hg (argsL := argsL) (rest := rest) (hlen _ hsigM) hstack hdg
  rcases hK m meth c ⟨T.setVm vm₁, locs, cells, slots⟩ { g with stack := rest } (.invokestatic index) mk argsL.toArray X₁ hg hsize hdg hW (X₁.named hnamed) (hpre vm₁ X₁.warmed) with ⟨v, B, X', hpost, hsteps⟩ | ⟨q, B, X', hpost, hsteps⟩
  · exact Or.inl ⟨v, vm₁, B, X₁.warmed, X', hpost, fun target h => hstep₁ _ fun acts => by rw [doInvoke_state]; exact hsteps.trans h⟩
  · exact Or.inr ⟨q, vm₁, B, X₁.warmed, X', hpost, hstep₁ _ fun acts => by rw [doInvoke_state]; exact hsteps⟩
theorem vx_callVW (X : Stand p l e R s m args below meth c T locs cells slots) (hexec : p.tables.exec = Jvm.exec) {own C : String} {index : Nat} {y : MethodName} {bytes : ByteArray} {maxL : Nat} {ret : Option FieldType} {hh : List (Nat × Nat × Nat × Nat)}
    (hown : s.vm.findClass own = some m.cls) (hlink : (Cond.methodLink own index y).before args s = true) (hinst : (Cond.instanceMethod y).before args s = true) (hsel : (Cond.selects C y y).before args s = true)
    (hcode : (Cond.codeWith y bytes maxL ret hh).before args s = true) (hy : y.cls ≠ "java/lang/invoke/MethodHandle" ∧ y.cls ≠ "java/lang/invoke/VarHandle")
    {W9 : Nat} {Pre : Pt → Array Value → Prop} {Post : Pt → Array Value → Option Value → Pt → Prop} (hK : Back l R p e below s args y 3 W9 Pre Post)
    {b : Addr} {cellB : Cell} (hcell : T.heap[b]? = some cellB) (hobj : cellB.vm.isStatics = false) (hcls : s.vm.findClass C = some cellB.cls)
    {g : JFrame} (hg : g.method = m) (hsize : g.locals.size = c.maxLocals) {argsL rest : List Value} (hlen : ∀ sig, parseMethodDescriptor y.desc = some sig → argsL.length = sig.parameters.length)
    (hstack : g.stack = argsL.reverse ++ .ref b :: rest) (hW : 2 * g.monitorRoom + (rest.map fun v => v.category).sum ≤ W9) (hdg : decode c.code g.pc = .ok (.invokevirtual index, 3))
    (hpre : ∀ vm₁, s.WarmedH vm₁ → Pre ⟨T.setVm vm₁, locs, cells, slots⟩ (Value.ref b :: argsL).toArray) :
    ∃ (v : Option Value) (vm₁ : Vm) (B : Pt), s.WarmedH vm₁ ∧ Stand p l e R s m args below meth c B.U B.locs B.cells B.slots ∧ Post ⟨T.setVm vm₁, locs, cells, slots⟩ (Value.ref b :: argsL).toArray v B ∧
      ∀ target, Steps p.tables e below (B.U.setTop { g with pc := g.pc + 3, stack := v.toList ++ rest }) target → Steps p.tables e below (T.setTop g) target := by
  obtain ⟨mk, methM, hnamed, hmethM, hstM, habM⟩ := Cond.instanceMethod_spec hinst
  obtain ⟨m8, methM', cM, hn8, hmethM', -, -, -, -, -, -, hsigM⟩ := Cond.codeWith_spec hcode
  cases Option.some.inj (hn8.symm.trans hnamed)
  cases hmethM.symm.trans hmethM'
  obtain ⟨c2, r2, m2, q1, q2, q3, q4, kP, hkP, hkPi⟩ := Cond.selects_spec hsel
  cases hcls.symm.trans q1
  cases (State.methodFound?_of_named hnamed hy).symm.trans q2
  cases hnamed.symm.trans q3
  have hselP : selectMethod e.platform s.vm cellB.cls mk = .method mk := by rw [Launch.admits_selectMethod X.admits]; exact q4
  obtain ⟨vm₁, X₁, hstep₁⟩ := X.invokevirtual hexec hown hlink hnamed hmethM hstM hkP hkPi hy (a := b) (cell := cellB) hcell
    (fun z h => by rw [h] at hobj; cases hobj) hselP hmethM habM hkP hkPi (g := g) hg (argsL := argsL) (rest := rest) (hlen _ hsigM) hstack hdg
  obtain ⟨v, B, X', hpost, hsteps⟩ := hK m meth c ⟨T.setVm vm₁, locs, cells, slots⟩ { g with stack := rest } (.invokevirtual index) mk (Value.ref b :: argsL).toArray X₁ hg hsize hdg hW (X₁.named hnamed) (hpre vm₁ X₁.warmed)
  exact ⟨v, vm₁, B, X₁.warmed, X', hpost, fun target h => hstep₁ _ fun acts => by rw [doInvoke_state]; exact hsteps.trans h⟩
abbrev vx_CVW (R : Room) (s : State) (args : Array Value) (own C : String) (index : Nat) (y : MethodName) (bytes : ByteArray) (maxL : Nat) (ret : Option FieldType) (hh : List (Nat × Nat × Nat × Nat)) (ws : List Cond) (rm : Room) (mc ms n : Nat) : Prop :=
  (rm.cells = mc ∧ rm.slots = ms ∧ rm.frames + 1 ≤ R.frames ∧ 8 + (maxL + 11) + rm.locals ≤ R.locals ∧ (∀ w ∈ ws, ∀ (a' : Array Value) (U : State), s.WarmedH U.vm → w.before a' U = true) ∧ Cond.codeWith y bytes maxL ret hh ∈ ws) ∧
  (Cond.codeWith y bytes maxL ret hh).before args s = true ∧ (Cond.initialized y.cls).before args s = true ∧ (y.cls ≠ "java/lang/invoke/MethodHandle" ∧ y.cls ≠ "java/lang/invoke/VarHandle") ∧
  (∀ sig, parseMethodDescriptor y.desc = some sig → n = sig.parameters.length) ∧ (Cond.methodLink own index y).before args s = true ∧ (Cond.instanceMethod y).before args s = true ∧ (Cond.selects C y y).before args s = true
theorem vx_cwVW {own C : String} {index maxL mc ms : Nat} {y : MethodName} {bytes : ByteArray} {ret : Option FieldType} {hh : List (Nat × Nat × Nat × Nat)} {Ts ws ws' : List Cond} {rm : Room} (n : Nat) (ht : ∀ w ∈ Ts, w.before args s = true) (hT : GoodIn Ts (wsV own index C y ws)) (hw : ws = Cond.codeWith y bytes maxL ret hh :: ws') (hrc : rm.cells = mc) (hrs : rm.slots = ms)
    (hd : y.cls = C ∧ y.cls ≠ "java/lang/invoke/MethodHandle" ∧ y.cls ≠ "java/lang/invoke/VarHandle" ∧ (parseMethodDescriptor y.desc).map (fun d => d.parameters.length) = some n) (hR : rm.frames + 1 ≤ R.frames ∧ 8 + (maxL + 11) + rm.locals ≤ R.locals) :
    vx_CVW R s args own C index y bytes maxL ret hh ws rm mc ms n := by
  obtain ⟨hC, hd⟩ := hd
  subst hC
  have ok : ∀ w ∈ wsV own index y.cls y ws, w.before args s = true := fun w h => ht w (hT w h).1
  have hG : GoodIn Ts ws := fun w h => hT w (by unfold wsV; exact List.mem_append_right _ h)
  have hc : Cond.codeWith y bytes maxL ret hh ∈ ws := by rw [hw]; exact List.mem_cons_self
  refine ⟨⟨hrc, hrs, hR.1, hR.2, pay_in ht hG, hc⟩, ht _ (hG _ hc).1, ok _ (by simp [wsV]), ⟨hd.1, hd.2.1⟩, fun sig h => ?_, ok _ (by simp [wsV]), ok _ (by simp [wsV]), ok _ (by simp [wsV])⟩
  have h2 := hd.2.2
  rw [h] at h2
  exact (Option.some.inj h2).symm
theorem vx_runVW {y : MethodName} {bytes cc : ByteArray} {maxL nL mc ms n index : Nat} {ret : Option FieldType} {hh : List (Nat × Nat × Nat × Nat)} {ws : List Cond} {rm : Room} {Pc : Array Value → State → Prop} {Qc : Array Value → State → Outcome → State → Prop} {free : Addr → Prop} {Ts : List Cond} {own C : String} {b : Addr} {As rest : List Value} {g : JFrame}
    (S : CallFix p m c cc nL s args Ts own) (hM : Met l y ws rm Pc Qc mc ms free) (cw : vx_CVW R s args own C index y bytes maxL ret hh ws rm mc ms n) (hp : PreV s H C b Pc As)
    (hg : g.method = m) (hn : As.length = n) (hsize : g.locals.size = nL) (hstack : g.stack = As.reverse ++ .ref b :: rest) (hW : 2 * g.monitorRoom + (rest.map fun v => v.category).sum ≤ 8) (hdg : decode cc g.pc = .ok (.invokevirtual index, 3)) (hf : cells + mc ≤ R.cells ∧ slots + ms ≤ R.slots) :
    va_Run p l e R s m args below meth c H locs cells slots mc ms g rest (Qc (Value.ref b :: As).toArray) free := by
  obtain ⟨⟨hrc, hrs, hfr, hlo, hws, hcw⟩, hcode, hini, hy, hlen, hl, hin, hse⟩ := cw
  have hK : Back l R p e below s args y 3 8 (PreOf R mc ms Pc) (PostOf Qc mc ms free) := va_backW (hh := hh) (bytes := bytes) (maxL := maxL) (ret := ret) hM hp.1 hrc hrs hfr hlo hws hcw (fun a' U hW => word_at hW (Or.inl (by first | rfl | simp [Cond.onTables, Cond.keeps, Cond.steady])) hini)
  obtain ⟨hx, hb, hml, ho, -⟩ := S
  obtain ⟨-, ⟨cellB, hcB, hoB, hclB⟩, hPc⟩ := hp
  intro T hT X
  obtain ⟨v, vm₁, ⟨U', l2, c2, s2⟩, hW₁, X', ⟨g', mk, t, L, e1, e2, hq, h1, hL, h2, h3⟩, st⟩ := vx_callVW X hx (C := C) (hh := hh) (bytes := bytes) (maxL := maxL) (ret := ret) ho hl hin hse hcode hy hK (by rw [hT]; exact hcB) hoB hclB hg (hsize.trans hml.symm) (argsL := As) (rest := rest) (fun sig h => hn.trans (hlen sig h)) hstack hW (by rw [hb]; exact hdg)
    (fun vm₁ hW₁ => ⟨hf.1, hf.2, hPc (T.setVm vm₁) hT hW₁⟩)
  dsimp only [Pt.U, Pt.locs, Pt.cells, Pt.slots] at X' e1 e2 h1 h2 h3 st
  subst h1; subst h2; subst h3
  exact ⟨v, (T.setVm vm₁).calling g' mk (Value.ref b :: As).toArray, t, U', L, hT, X', hL, e1, e2, hq, st⟩
section
variable {y : MethodName} {bytes cc : ByteArray} {maxL nL mc ms n index : Nat} {ret : Option FieldType} {ws : List Cond} {rm : Room} {Pc : Array Value → State → Prop} {Qc : Array Value → State → Outcome → State → Prop} {XC : String → State → State → Prop} {free : Addr → Prop} {Ts : List Cond} {own C : String} {b : Addr} {As rest : List Value} {g : JFrame}
theorem vx_runVX {hh : List (Nat × Nat × Nat × Nat)} (S : CallFix p m c cc nL s args Ts own) (hM : vx_Met l y ws rm Pc Qc XC mc ms free) (cw : vx_CVW R s args own C index y bytes maxL ret hh ws rm mc ms n) (hp : PreV s H C b Pc As)
    (hg : g.method = m) (hn : As.length = n) (hsize : g.locals.size = nL) (hstack : g.stack = As.reverse ++ .ref b :: rest) (hW : 2 * g.monitorRoom + (rest.map fun v => v.category).sum ≤ 8) (hdg : decode cc g.pc = .ok (.invokevirtual index, 3)) (hf : cells + mc ≤ R.cells ∧ slots + ms ≤ R.slots) :
    vx_Run p l e R s m args below meth c H locs cells slots mc ms g rest (Qc (Value.ref b :: As).toArray) XC free := by
  obtain ⟨⟨hrc, hrs, hfr, hlo, hws, hcw⟩, hcode, hini, hy, hlen, hl, hin, hse⟩ := cw
  have hK : vx_Back l R p e below s args y 3 8 (PreOf R mc ms Pc) (PostOf Qc mc ms free) (vx_Post XC mc ms free) := vx_backW (hh := hh) (bytes := bytes) (maxL := maxL) (ret := ret) hM hp.1 hrc hrs hfr hlo hws hcw (fun a' U hW => word_at hW (Or.inl (by first | rfl | simp [Cond.onTables, Cond.keeps, Cond.steady])) hini)
  obtain ⟨hx, hb, hml, ho, -⟩ := S
  obtain ⟨-, ⟨cellB, hcB, hoB, hclB⟩, hPc⟩ := hp
  intro T hT X
  rcases vx_callVX X hx (C := C) (hh := hh) (bytes := bytes) (maxL := maxL) (ret := ret) ho hl hin hse hcode hy hK (by rw [hT]; exact hcB) hoB hclB hg (hsize.trans hml.symm) (argsL := As) (rest := rest) (fun sig h => hn.trans (hlen sig h)) hstack hW (by rw [hb]; exact hdg)
    (fun vm₁ hW₁ => ⟨hf.1, hf.2, hPc (T.setVm vm₁) hT hW₁⟩) with ⟨v, vm₁, ⟨U', l2, c2, s2⟩, hW₁, X', ⟨g', mk, t, L, e1, e2, hq, h1, hL, h2, h3⟩, st⟩ | ⟨q, vm₁, ⟨U', l2, c2, s2⟩, hW₁, X', ⟨g', mk, t, L, E, ce, e1, e2, hq, hce, hcv, hcl, h1, hL, h2, h3⟩, st⟩
  · dsimp only [Pt.U, Pt.locs, Pt.cells, Pt.slots] at X' e1 e2 h1 h2 h3 st
    subst h1; subst h2; subst h3
    exact Or.inl ⟨v, (T.setVm vm₁).calling g' mk (Value.ref b :: As).toArray, t, U', L, hT, X', hL, e1, e2, hq, st⟩
  · dsimp only [Pt.U, Pt.locs, Pt.cells, Pt.slots] at X' e1 e2 h1 h2 h3 st hcl
    subst h1; subst h2; subst h3
    exact Or.inr ⟨q, (T.setVm vm₁).calling g' mk (Value.ref b :: As).toArray, t, U', L, E, ce, hT, X', hL, e1, e2, hq, hce, hcv, vx_cls hW₁ hcl, st⟩
theorem vx_runSX {hh : List (Nat × Nat × Nat × Nat)} (S : CallFix p m c cc nL s args Ts own) (hM : vx_Met l y ws rm Pc Qc XC mc ms free) (cw : vx_CSW R s args own index y bytes maxL ret hh ws rm mc ms n) (hp : PreS s H Pc As)
    (hg : g.method = m) (hn : As.length = n) (hsize : g.locals.size = nL) (hstack : g.stack = As.reverse ++ rest) (hW : 2 * g.monitorRoom + (rest.map fun v => v.category).sum ≤ 8) (hdg : decode cc g.pc = .ok (.invokestatic index, 3)) (hf : cells + mc ≤ R.cells ∧ slots + ms ≤ R.slots) :
    vx_Run p l e R s m args below meth c H locs cells slots mc ms g rest (Qc As.toArray) XC free := by
  obtain ⟨⟨hrc, hrs, hfr, hlo, hws, hcw⟩, hcode, hini, hy, hlen, hl, hstt⟩ := cw
  have hK : vx_Back l R p e below s args y 3 8 (PreOf R mc ms Pc) (PostOf Qc mc ms free) (vx_Post XC mc ms free) := vx_backW (hh := hh) (bytes := bytes) (maxL := maxL) (ret := ret) hM hp.1 hrc hrs hfr hlo hws hcw (fun a' U hW => word_at hW (Or.inl (by first | rfl | simp [Cond.onTables, Cond.keeps, Cond.steady])) hini)
  obtain ⟨hx, hb, hml, ho, -⟩ := S
  intro T hT X
  rcases vx_callSX X hx (hh := hh) (bytes := bytes) (maxL := maxL) (ret := ret) ho hl hstt hini hcode hy hK hg (hsize.trans hml.symm) (argsL := As) (rest := rest) (fun sig h => hn.trans (hlen sig h)) hstack hW (by rw [hb]; exact hdg)
    (fun vm₁ hW₁ => ⟨hf.1, hf.2, hp.2 (T.setVm vm₁) hT hW₁⟩) with ⟨v, vm₁, ⟨U', l2, c2, s2⟩, hW₁, X', ⟨g', mk, t, L, e1, e2, hq, h1, hL, h2, h3⟩, st⟩ | ⟨q, vm₁, ⟨U', l2, c2, s2⟩, hW₁, X', ⟨g', mk, t, L, E, ce, e1, e2, hq, hce, hcv, hcl, h1, hL, h2, h3⟩, st⟩
  · dsimp only [Pt.U, Pt.locs, Pt.cells, Pt.slots] at X' e1 e2 h1 h2 h3 st
    subst h1; subst h2; subst h3
    exact Or.inl ⟨v, (T.setVm vm₁).calling g' mk As.toArray, t, U', L, hT, X', hL, e1, e2, hq, st⟩
  · dsimp only [Pt.U, Pt.locs, Pt.cells, Pt.slots] at X' e1 e2 h1 h2 h3 st hcl
    subst h1; subst h2; subst h3
    exact Or.inr ⟨q, (T.setVm vm₁).calling g' mk As.toArray, t, U', L, E, ce, hT, X', hL, e1, e2, hq, hce, hcv, vx_cls hW₁ hcl, st⟩
end
end VXH
theorem vx_ofWH {l : Launch} {y : MethodName} {ws ws' : List Cond} {rm : Room} {Pc : Array Value → State → Prop} {Qc : Array Value → State → Outcome → State → Prop} {XC : String → State → State → Prop} {mc ms : Nat} {free : Addr → Prop} {cc : ByteArray} {maxL : Nat} {ret : Option FieldType} {hh : List (Nat × Nat × Nat × Nat)}
    (hy : plainName y.cls = true) (hw : ws = Cond.codeWith y cc maxL ret hh :: ws')
    (body : ∀ p e s m args below meth c s₁, BodyLoose p l y (headSpec ws rm) cc maxL ret e s m args below meth c s₁ → c.maxLocals = maxL → Pc args s →
      W p l e (headSpec ws rm).room s m args below meth c s.heap [] 0 0 (vx_MQ below Qc XC args s mc ms free) (entryFrame m args maxL)) : vx_Met l y ws rm Pc Qc XC mc ms free := by
  refine MetFree.of_bodyS (code := cc) (maxLocals := maxL) (ret := ret) hy ?_ ?_
  · intro args s m h hn
    obtain ⟨m9, meth, c, hn9, h1, h2, h3, h4, -, h5, h6, -⟩ := Cond.codeWith_spec (atoms_spec (ws := ws) h _ (by rw [hw]; exact List.mem_cons_self))
    cases hn.symm.trans hn9
    exact ⟨meth, c, h1, h2, h3, h4, h5, h6⟩
  · intro p e s m args below meth c s₁ B hml hP _
    have hh0 : s₁.heap = s.heap := by rw [B.state]; rfl
    obtain ⟨t, a1, o, b1, b2, b3⟩ := body p e s m args below meth c s₁ B hml hP s₁ hh0 (Stand.of_body B)
    exact ⟨t, o, a1, b1, b2, b3⟩
/-! ===== END ===== -/
end
section
/-! ===== BEGIN printed: names, fields, word lists, decode rows ===== -/
def RX0 : String := "Slidewarden$Deck"
def TX0 : u_T := fun k => match k with
  | 0 => ("Slidewarden$Deck", "slides", "[I", true)
  | 1 => ("Slidewarden$Deck", "values", "[I", true)
  | _ => ("Slidewarden$Deck", "size", "I", false)
def tyX0 : Nat → FieldType := fun k => match k with
  | 0 => .array .int
  | 1 => .array .int
  | _ => .int
abbrev wsX00 : List Cond := u_ws RX0 TX0 3
theorem nmX0 : ∀ a, a < 3 → ∀ b, b < 3 → a ≠ b → (TX0 a).2.1 ≠ (TX0 b).2.1 := by decide +kernel
theorem tyX0_ok : ∀ k, k < 3 → parseFieldDescriptor (TX0 k).2.2.1 = some (tyX0 k) := by decide +kernel
abbrev cX0_init : ByteArray := prog_2_method_1_code
def yX0_init : MethodName := ⟨RX0, "<init>", "()V"⟩
abbrev cX0_placeOf : ByteArray := prog_2_method_2_code
def yX0_placeOf : MethodName := ⟨RX0, "placeOf", "(I)I"⟩
abbrev cX0_has : ByteArray := prog_2_method_3_code
def yX0_has : MethodName := ⟨RX0, "has", "(I)Z"⟩
abbrev cX0_valueAt : ByteArray := prog_2_method_4_code
def yX0_valueAt : MethodName := ⟨RX0, "valueAt", "(II)I"⟩
abbrev cX0_valueOf : ByteArray := prog_2_method_5_code
def yX0_valueOf : MethodName := ⟨RX0, "valueOf", "(II)I"⟩
abbrev cX0_isAlike : ByteArray := prog_2_method_6_code
def yX0_isAlike : MethodName := ⟨RX0, "isAlike", "(LSlidewarden$Deck;I)Z"⟩
abbrev cX0_put : ByteArray := prog_2_method_7_code
def yX0_put : MethodName := ⟨RX0, "put", "(III)V"⟩
abbrev cX0_insert : ByteArray := prog_2_method_8_code
def yX0_insert : MethodName := ⟨RX0, "insert", "(II)V"⟩
abbrev cX0_removeAt : ByteArray := prog_2_method_9_code
def yX0_removeAt : MethodName := ⟨RX0, "removeAt", "(I)V"⟩
abbrev cX0_move : ByteArray := prog_2_method_10_code
def yX0_move : MethodName := ⟨RX0, "move", "(II)V"⟩
abbrev cX0_copyFrom : ByteArray := prog_2_method_11_code
def yX0_copyFrom : MethodName := ⟨RX0, "copyFrom", "(LSlidewarden$Deck;)V"⟩
def RX1 : String := "Slidewarden$Merge"
def TX1 : u_T := fun k => match k with
  | 0 => ("Slidewarden$Merge", "old", "LSlidewarden$Deck;", true)
  | 1 => ("Slidewarden$Merge", "ours", "LSlidewarden$Deck;", true)
  | _ => ("Slidewarden$Merge", "theirs", "LSlidewarden$Deck;", true)
def tyX1 : Nat → FieldType := fun k => match k with
  | 0 => .object "Slidewarden$Deck"
  | 1 => .object "Slidewarden$Deck"
  | _ => .object "Slidewarden$Deck"
abbrev wsX10 : List Cond := u_ws RX1 TX1 3
theorem nmX1 : ∀ a, a < 3 → ∀ b, b < 3 → a ≠ b → (TX1 a).2.1 ≠ (TX1 b).2.1 := by decide +kernel
theorem tyX1_ok : ∀ k, k < 3 → parseFieldDescriptor (TX1 k).2.2.1 = some (tyX1 k) := by decide +kernel
abbrev cX1_init : ByteArray := prog_3_method_1_code
def yX1_init : MethodName := ⟨RX1, "<init>", "(LSlidewarden$Deck;LSlidewarden$Deck;LSlidewarden$Deck;)V"⟩
abbrev cX1_countClashes : ByteArray := prog_3_method_2_code
def yX1_countClashes : MethodName := ⟨RX1, "countClashes", "(I)I"⟩
abbrev cX1_countSlides : ByteArray := prog_3_method_3_code
def yX1_countSlides : MethodName := ⟨RX1, "countSlides", "(II)I"⟩
abbrev cX1_resultOf : ByteArray := prog_3_method_4_code
def yX1_resultOf : MethodName := ⟨RX1, "resultOf", "(III)I"⟩
abbrev cX1_keptValue : ByteArray := prog_3_method_5_code
def yX1_keptValue : MethodName := ⟨RX1, "keptValue", "(III)I"⟩
abbrev cX1_fill : ByteArray := prog_3_method_6_code
def yX1_fill : MethodName := ⟨RX1, "fill", "(LSlidewarden$Deck;I)V"⟩
abbrev cX1_append : ByteArray := prog_3_method_7_code
def yX1_append : MethodName := ⟨RX1, "append", "(LSlidewarden$Deck;II)V"⟩
abbrev cX1_isKept : ByteArray := prog_3_method_8_code
def yX1_isKept : MethodName := ⟨RX1, "isKept", "(II)Z"⟩
abbrev cX1_isSlideClash : ByteArray := prog_3_method_9_code
def yX1_isSlideClash : MethodName := ⟨RX1, "isSlideClash", "(I)Z"⟩
abbrev cX1_isObjectClash : ByteArray := prog_3_method_10_code
def yX1_isObjectClash : MethodName := ⟨RX1, "isObjectClash", "(II)Z"⟩
def RX2 : String := "Slidewarden$Rule"
def TX2 : u_T := fun k => match k with
  | 0 => ("Slidewarden$Rule", "rank", "I", false)
  | 1 => ("Slidewarden$Rule", "object", "I", false)
  | 2 => ("Slidewarden$Rule", "least", "I", false)
  | _ => ("Slidewarden$Rule", "most", "I", false)
def tyX2 : Nat → FieldType := fun k => match k with
  | 0 => .int
  | 1 => .int
  | 2 => .int
  | _ => .int
abbrev wsX20 : List Cond := u_ws RX2 TX2 4
theorem nmX2 : ∀ a, a < 4 → ∀ b, b < 4 → a ≠ b → (TX2 a).2.1 ≠ (TX2 b).2.1 := by decide +kernel
theorem tyX2_ok : ∀ k, k < 4 → parseFieldDescriptor (TX2 k).2.2.1 = some (tyX2 k) := by decide +kernel
abbrev cX2_init : ByteArray := prog_4_method_1_code
def yX2_init : MethodName := ⟨RX2, "<init>", "()V"⟩
abbrev cX2_isBrokenAt : ByteArray := prog_4_method_2_code
def yX2_isBrokenAt : MethodName := ⟨RX2, "isBrokenAt", "(LSlidewarden$Deck;I)Z"⟩
def RX3 : String := "Slidewarden$Version"
def TX3 : u_T := fun k => match k with
  | 0 => ("Slidewarden$Version", "deck", "LSlidewarden$Deck;", true)
  | 1 => ("Slidewarden$Version", "madeOn", "I", false)
  | 2 => ("Slidewarden$Version", "cameFrom", "I", false)
  | 3 => ("Slidewarden$Version", "mergedFrom", "I", false)
  | _ => ("Slidewarden$Version", "ancestors", "J", false)
def tyX3 : Nat → FieldType := fun k => match k with
  | 0 => .object "Slidewarden$Deck"
  | 1 => .int
  | 2 => .int
  | 3 => .int
  | _ => .long
abbrev wsX30 : List Cond := u_ws RX3 TX3 5
theorem nmX3 : ∀ a, a < 5 → ∀ b, b < 5 → a ≠ b → (TX3 a).2.1 ≠ (TX3 b).2.1 := by decide +kernel
theorem tyX3_ok : ∀ k, k < 5 → parseFieldDescriptor (TX3 k).2.2.1 = some (tyX3 k) := by decide +kernel
abbrev cX3_init : ByteArray := prog_5_method_1_code
def yX3_init : MethodName := ⟨RX3, "<init>", "()V"⟩
def RX4 : String := "Slidewarden$Waiver"
def TX4 : u_T := fun k => match k with
  | 0 => ("Slidewarden$Waiver", "rule", "I", false)
  | 1 => ("Slidewarden$Waiver", "slide", "I", false)
  | _ => ("Slidewarden$Waiver", "until", "I", false)
def tyX4 : Nat → FieldType := fun k => match k with
  | 0 => .int
  | 1 => .int
  | _ => .int
abbrev wsX40 : List Cond := u_ws RX4 TX4 3
theorem nmX4 : ∀ a, a < 3 → ∀ b, b < 3 → a ≠ b → (TX4 a).2.1 ≠ (TX4 b).2.1 := by decide +kernel
theorem tyX4_ok : ∀ k, k < 3 → parseFieldDescriptor (TX4 k).2.2.1 = some (tyX4 k) := by decide +kernel
abbrev cX4_init : ByteArray := prog_6_method_1_code
def yX4_init : MethodName := ⟨RX4, "<init>", "()V"⟩
def RX5 : String := "Slidewarden"
def TX5 : u_T := fun k => match k with
  | 0 => ("Slidewarden", "versions", "[LSlidewarden$Version;", true)
  | 1 => ("Slidewarden", "heads", "[I", true)
  | 2 => ("Slidewarden", "shownVersions", "[I", true)
  | 3 => ("Slidewarden", "rules", "[LSlidewarden$Rule;", true)
  | 4 => ("Slidewarden", "waivers", "[LSlidewarden$Waiver;", true)
  | 5 => ("Slidewarden", "trial", "LSlidewarden$Deck;", true)
  | 6 => ("Slidewarden", "versionCount", "I", false)
  | 7 => ("Slidewarden", "branchCount", "I", false)
  | 8 => ("Slidewarden", "slideCount", "I", false)
  | 9 => ("Slidewarden", "ruleCount", "I", false)
  | 10 => ("Slidewarden", "waiverCount", "I", false)
  | _ => ("Slidewarden", "day", "I", false)
def tyX5 : Nat → FieldType := fun k => match k with
  | 0 => .array (.object "Slidewarden$Version")
  | 1 => .array .int
  | 2 => .array .int
  | 3 => .array (.object "Slidewarden$Rule")
  | 4 => .array (.object "Slidewarden$Waiver")
  | 5 => .object "Slidewarden$Deck"
  | 6 => .int
  | 7 => .int
  | 8 => .int
  | 9 => .int
  | 10 => .int
  | _ => .int
abbrev wsX50 : List Cond := u_ws RX5 TX5 12
theorem nmX5 : ∀ a, a < 12 → ∀ b, b < 12 → a ≠ b → (TX5 a).2.1 ≠ (TX5 b).2.1 := by decide +kernel
theorem tyX5_ok : ∀ k, k < 12 → parseFieldDescriptor (TX5 k).2.2.1 = some (tyX5 k) := by decide +kernel
abbrev cX5_init : ByteArray := prog_1_method_1_code
def yX5_init : MethodName := ⟨RX5, "<init>", "()V"⟩
abbrev cX5_branch : ByteArray := prog_1_method_2_code
def yX5_branch : MethodName := ⟨RX5, "branch", "(I)I"⟩
abbrev cX5_add : ByteArray := prog_1_method_3_code
def yX5_add : MethodName := ⟨RX5, "add", "(II)I"⟩
abbrev cX5_set : ByteArray := prog_1_method_4_code
def yX5_set : MethodName := ⟨RX5, "set", "(IIII)I"⟩
abbrev cX5_drop : ByteArray := prog_1_method_5_code
def yX5_drop : MethodName := ⟨RX5, "drop", "(II)I"⟩
abbrev cX5_head : ByteArray := prog_1_method_6_code
def yX5_head : MethodName := ⟨RX5, "head", "(I)I"⟩
abbrev cX5_about : ByteArray := prog_1_method_7_code
def yX5_about : MethodName := ⟨RX5, "about", "(II)I"⟩
abbrev cX5_value : ByteArray := prog_1_method_8_code
def yX5_value : MethodName := ⟨RX5, "value", "(III)I"⟩
abbrev cX5_slideAt : ByteArray := prog_1_method_9_code
def yX5_slideAt : MethodName := ⟨RX5, "slideAt", "(II)I"⟩
abbrev cX5_base : ByteArray := prog_1_method_10_code
def yX5_base : MethodName := ⟨RX5, "base", "(II)I"⟩
abbrev cX5_clashes : ByteArray := prog_1_method_11_code
def yX5_clashes : MethodName := ⟨RX5, "clashes", "(II)I"⟩
abbrev cX5_merged : ByteArray := prog_1_method_12_code
def yX5_merged : MethodName := ⟨RX5, "merged", "(IIIII)I"⟩
abbrev cX5_merge : ByteArray := prog_1_method_13_code
def yX5_merge : MethodName := ⟨RX5, "merge", "(III)I"⟩
abbrev cX5_rule : ByteArray := prog_1_method_14_code
def yX5_rule : MethodName := ⟨RX5, "rule", "(IIII)I"⟩
abbrev cX5_tighten : ByteArray := prog_1_method_15_code
def yX5_tighten : MethodName := ⟨RX5, "tighten", "(III)I"⟩
abbrev cX5_waive : ByteArray := prog_1_method_16_code
def yX5_waive : MethodName := ⟨RX5, "waive", "(III)I"⟩
abbrev cX5_blocks : ByteArray := prog_1_method_17_code
def yX5_blocks : MethodName := ⟨RX5, "blocks", "(I)I"⟩
abbrev cX5_warnings : ByteArray := prog_1_method_18_code
def yX5_warnings : MethodName := ⟨RX5, "warnings", "(I)I"⟩
abbrev cX5_firstBlock : ByteArray := prog_1_method_19_code
def yX5_firstBlock : MethodName := ⟨RX5, "firstBlock", "(I)I"⟩
abbrev cX5_show : ByteArray := prog_1_method_20_code
def yX5_show : MethodName := ⟨RX5, "show", "(I)I"⟩
abbrev cX5_shown : ByteArray := prog_1_method_21_code
def yX5_shown : MethodName := ⟨RX5, "shown", "(I)I"⟩
abbrev cX5_pass : ByteArray := prog_1_method_22_code
def yX5_pass : MethodName := ⟨RX5, "pass", "(I)I"⟩
abbrev cX5_checkVersion : ByteArray := prog_1_method_23_code
def yX5_checkVersion : MethodName := ⟨RX5, "checkVersion", "(I)V"⟩
abbrev cX5_checkBranch : ByteArray := prog_1_method_24_code
def yX5_checkBranch : MethodName := ⟨RX5, "checkBranch", "(I)V"⟩
abbrev cX5_checkSlide : ByteArray := prog_1_method_25_code
def yX5_checkSlide : MethodName := ⟨RX5, "checkSlide", "(I)V"⟩
abbrev cX5_checkObject : ByteArray := prog_1_method_26_code
def yX5_checkObject : MethodName := ⟨RX5, "checkObject", "(I)V"⟩
abbrev cX5_checkRule : ByteArray := prog_1_method_27_code
def yX5_checkRule : MethodName := ⟨RX5, "checkRule", "(I)V"⟩
abbrev cX5_checkDifferent : ByteArray := prog_1_method_28_code
def yX5_checkDifferent : MethodName := ⟨RX5, "checkDifferent", "(II)V"⟩
abbrev cX5_checkRoomForVersion : ByteArray := prog_1_method_29_code
def yX5_checkRoomForVersion : MethodName := ⟨RX5, "checkRoomForVersion", "()V"⟩
abbrev cX5_placeInHead : ByteArray := prog_1_method_30_code
def yX5_placeInHead : MethodName := ⟨RX5, "placeInHead", "(II)I"⟩
abbrev cX5_headDeck : ByteArray := prog_1_method_31_code
def yX5_headDeck : MethodName := ⟨RX5, "headDeck", "(I)LSlidewarden$Deck;"⟩
abbrev cX5_makeVersion : ByteArray := prog_1_method_32_code
def yX5_makeVersion : MethodName := ⟨RX5, "makeVersion", "(II)LSlidewarden$Deck;"⟩
abbrev cX5_baseOf : ByteArray := prog_1_method_33_code
def yX5_baseOf : MethodName := ⟨RX5, "baseOf", "(II)I"⟩
abbrev cX5_mergeOf : ByteArray := prog_1_method_34_code
def yX5_mergeOf : MethodName := ⟨RX5, "mergeOf", "(II)LSlidewarden$Merge;"⟩
abbrev cX5_countBlocks : ByteArray := prog_1_method_35_code
def yX5_countBlocks : MethodName := ⟨RX5, "countBlocks", "(LSlidewarden$Deck;)I"⟩
abbrev cX5_countBlocksAt : ByteArray := prog_1_method_36_code
def yX5_countBlocksAt : MethodName := ⟨RX5, "countBlocksAt", "(LSlidewarden$Deck;I)I"⟩
abbrev cX5_isBlocking : ByteArray := prog_1_method_37_code
def yX5_isBlocking : MethodName := ⟨RX5, "isBlocking", "(II)Z"⟩
abbrev cX5_isWaived : ByteArray := prog_1_method_38_code
def yX5_isWaived : MethodName := ⟨RX5, "isWaived", "(II)Z"⟩
abbrev cX5_blockedVersions : ByteArray := prog_1_method_39_code
def yX5_blockedVersions : MethodName := ⟨RX5, "blockedVersions", "()J"⟩
def RX6 : String := "SlidewardenModel"
def TX6 : u_T := fun k => match k with
  | 0 => ("SlidewardenModel", "thrown", "I", false)
  | 1 => ("SlidewardenModel", "versions", "I", false)
  | 2 => ("SlidewardenModel", "madeOn", "[I", true)
  | 3 => ("SlidewardenModel", "came", "[I", true)
  | 4 => ("SlidewardenModel", "other", "[I", true)
  | 5 => ("SlidewardenModel", "many", "[I", true)
  | 6 => ("SlidewardenModel", "row", "[I", true)
  | 7 => ("SlidewardenModel", "value", "[I", true)
  | 8 => ("SlidewardenModel", "slides", "I", false)
  | 9 => ("SlidewardenModel", "branches", "I", false)
  | 10 => ("SlidewardenModel", "head", "[I", true)
  | 11 => ("SlidewardenModel", "shown", "[I", true)
  | 12 => ("SlidewardenModel", "rules", "I", false)
  | 13 => ("SlidewardenModel", "rank", "[I", true)
  | 14 => ("SlidewardenModel", "object", "[I", true)
  | 15 => ("SlidewardenModel", "least", "[I", true)
  | 16 => ("SlidewardenModel", "most", "[I", true)
  | 17 => ("SlidewardenModel", "waivers", "I", false)
  | 18 => ("SlidewardenModel", "ruleOf", "[I", true)
  | 19 => ("SlidewardenModel", "slideOf", "[I", true)
  | 20 => ("SlidewardenModel", "until", "[I", true)
  | 21 => ("SlidewardenModel", "today", "I", false)
  | 22 => ("SlidewardenModel", "deck", "I", false)
  | 23 => ("SlidewardenModel", "deckRow", "[I", true)
  | 24 => ("SlidewardenModel", "deckValue", "[I", true)
  | 25 => ("SlidewardenModel", "isOf", "[Z", true)
  | 26 => ("SlidewardenModel", "isOfOther", "[Z", true)
  | _ => ("SlidewardenModel", "was", "[Z", true)
def tyX6 : Nat → FieldType := fun k => match k with
  | 0 => .int
  | 1 => .int
  | 2 => .array .int
  | 3 => .array .int
  | 4 => .array .int
  | 5 => .array .int
  | 6 => .array .int
  | 7 => .array .int
  | 8 => .int
  | 9 => .int
  | 10 => .array .int
  | 11 => .array .int
  | 12 => .int
  | 13 => .array .int
  | 14 => .array .int
  | 15 => .array .int
  | 16 => .array .int
  | 17 => .int
  | 18 => .array .int
  | 19 => .array .int
  | 20 => .array .int
  | 21 => .int
  | 22 => .int
  | 23 => .array .int
  | 24 => .array .int
  | 25 => .array .boolean
  | 26 => .array .boolean
  | _ => .array .boolean
abbrev wsX60 : List Cond := u_ws RX6 TX6 28
theorem nmX6 : ∀ a, a < 28 → ∀ b, b < 28 → a ≠ b → (TX6 a).2.1 ≠ (TX6 b).2.1 := by decide +kernel
theorem tyX6_ok : ∀ k, k < 28 → parseFieldDescriptor (TX6 k).2.2.1 = some (tyX6 k) := by decide +kernel
abbrev cX6_init : ByteArray := prog_8_method_1_code
def yX6_init : MethodName := ⟨RX6, "<init>", "()V"⟩
abbrev cX6_thrown : ByteArray := prog_8_method_2_code
def yX6_thrown : MethodName := ⟨RX6, "thrown", "()I"⟩
abbrev cX6_in : ByteArray := prog_8_method_3_code
def yX6_in : MethodName := ⟨RX6, "in", "(III)Z"⟩
abbrev cX6_isVersion : ByteArray := prog_8_method_4_code
def yX6_isVersion : MethodName := ⟨RX6, "isVersion", "(I)Z"⟩
abbrev cX6_isBranch : ByteArray := prog_8_method_5_code
def yX6_isBranch : MethodName := ⟨RX6, "isBranch", "(I)Z"⟩
abbrev cX6_isObject : ByteArray := prog_8_method_6_code
def yX6_isObject : MethodName := ⟨RX6, "isObject", "(I)Z"⟩
abbrev cX6_placeOf : ByteArray := prog_8_method_7_code
def yX6_placeOf : MethodName := ⟨RX6, "placeOf", "(II)I"⟩
abbrev cX6_valueOf : ByteArray := prog_8_method_8_code
def yX6_valueOf : MethodName := ⟨RX6, "valueOf", "(III)I"⟩
abbrev cX6_branch : ByteArray := prog_8_method_9_code
def yX6_branch : MethodName := ⟨RX6, "branch", "(I)I"⟩
abbrev cX6_edits : ByteArray := prog_8_method_10_code
def yX6_edits : MethodName := ⟨RX6, "edits", "(II)I"⟩
abbrev cX6_add : ByteArray := prog_8_method_11_code
def yX6_add : MethodName := ⟨RX6, "add", "(II)I"⟩
abbrev cX6_isInHead : ByteArray := prog_8_method_12_code
def yX6_isInHead : MethodName := ⟨RX6, "isInHead", "(II)Z"⟩
abbrev cX6_set : ByteArray := prog_8_method_13_code
def yX6_set : MethodName := ⟨RX6, "set", "(IIII)I"⟩
abbrev cX6_drop : ByteArray := prog_8_method_14_code
def yX6_drop : MethodName := ⟨RX6, "drop", "(II)I"⟩
abbrev cX6_head : ByteArray := prog_8_method_15_code
def yX6_head : MethodName := ⟨RX6, "head", "(I)I"⟩
abbrev cX6_layAncestors : ByteArray := prog_8_method_16_code
def yX6_layAncestors : MethodName := ⟨RX6, "layAncestors", "(IZ)I"⟩
abbrev cX6_about : ByteArray := prog_8_method_17_code
def yX6_about : MethodName := ⟨RX6, "about", "(II)I"⟩
abbrev cX6_isSlide : ByteArray := prog_8_method_18_code
def yX6_isSlide : MethodName := ⟨RX6, "isSlide", "(I)Z"⟩
abbrev cX6_value : ByteArray := prog_8_method_19_code
def yX6_value : MethodName := ⟨RX6, "value", "(III)I"⟩
abbrev cX6_slideAt : ByteArray := prog_8_method_20_code
def yX6_slideAt : MethodName := ⟨RX6, "slideAt", "(II)I"⟩
abbrev cX6_baseOf : ByteArray := prog_8_method_21_code
def yX6_baseOf : MethodName := ⟨RX6, "baseOf", "(II)I"⟩
abbrev cX6_isAs : ByteArray := prog_8_method_22_code
def yX6_isAs : MethodName := ⟨RX6, "isAs", "(III)Z"⟩
abbrev cX6_fate : ByteArray := prog_8_method_23_code
def yX6_fate : MethodName := ⟨RX6, "fate", "(IIII)I"⟩
abbrev cX6_meets : ByteArray := prog_8_method_24_code
def yX6_meets : MethodName := ⟨RX6, "meets", "(IIIIIZ)I"⟩
abbrev cX6_clashesOf : ByteArray := prog_8_method_25_code
def yX6_clashesOf : MethodName := ⟨RX6, "clashesOf", "(III)I"⟩
abbrev cX6_settles : ByteArray := prog_8_method_26_code
def yX6_settles : MethodName := ⟨RX6, "settles", "(IIIIII)I"⟩
abbrev cX6_wrong : ByteArray := prog_8_method_27_code
def yX6_wrong : MethodName := ⟨RX6, "wrong", "(II)I"⟩
abbrev cX6_base : ByteArray := prog_8_method_28_code
def yX6_base : MethodName := ⟨RX6, "base", "(II)I"⟩
abbrev cX6_clashes : ByteArray := prog_8_method_29_code
def yX6_clashes : MethodName := ⟨RX6, "clashes", "(II)I"⟩
abbrev cX6_merged : ByteArray := prog_8_method_30_code
def yX6_merged : MethodName := ⟨RX6, "merged", "(IIIII)I"⟩
abbrev cX6_lays : ByteArray := prog_8_method_31_code
def yX6_lays : MethodName := ⟨RX6, "lays", "(IIIII)V"⟩
abbrev cX6_layDeck : ByteArray := prog_8_method_32_code
def yX6_layDeck : MethodName := ⟨RX6, "layDeck", "(IIII)V"⟩
abbrev cX6_merge : ByteArray := prog_8_method_33_code
def yX6_merge : MethodName := ⟨RX6, "merge", "(III)I"⟩
abbrev cX6_breaks : ByteArray := prog_8_method_34_code
def yX6_breaks : MethodName := ⟨RX6, "breaks", "(II)Z"⟩
abbrev cX6_isWaived : ByteArray := prog_8_method_35_code
def yX6_isWaived : MethodName := ⟨RX6, "isWaived", "(II)Z"⟩
abbrev cX6_isBlocked : ByteArray := prog_8_method_36_code
def yX6_isBlocked : MethodName := ⟨RX6, "isBlocked", "(III)Z"⟩
abbrev cX6_blocksOf : ByteArray := prog_8_method_37_code
def yX6_blocksOf : MethodName := ⟨RX6, "blocksOf", "(I)I"⟩
abbrev cX6_rule : ByteArray := prog_8_method_38_code
def yX6_rule : MethodName := ⟨RX6, "rule", "(IIII)I"⟩
abbrev cX6_tighten : ByteArray := prog_8_method_39_code
def yX6_tighten : MethodName := ⟨RX6, "tighten", "(III)I"⟩
abbrev cX6_waive : ByteArray := prog_8_method_40_code
def yX6_waive : MethodName := ⟨RX6, "waive", "(III)I"⟩
abbrev cX6_blocks : ByteArray := prog_8_method_41_code
def yX6_blocks : MethodName := ⟨RX6, "blocks", "(I)I"⟩
abbrev cX6_warnings : ByteArray := prog_8_method_42_code
def yX6_warnings : MethodName := ⟨RX6, "warnings", "(I)I"⟩
abbrev cX6_firstBlock : ByteArray := prog_8_method_43_code
def yX6_firstBlock : MethodName := ⟨RX6, "firstBlock", "(I)I"⟩
abbrev cX6_show : ByteArray := prog_8_method_44_code
def yX6_show : MethodName := ⟨RX6, "show", "(I)I"⟩
abbrev cX6_shown : ByteArray := prog_8_method_45_code
def yX6_shown : MethodName := ⟨RX6, "shown", "(I)I"⟩
abbrev cX6_pass : ByteArray := prog_8_method_46_code
def yX6_pass : MethodName := ⟨RX6, "pass", "(I)I"⟩
def RJ13 : String := "java/lang/Long"
def TJ13 : u_T := fun k => match k with
  | _ => ("", "", "", false)
def tyJ13 : Nat → FieldType := fun k => match k with
  | _ => .int
abbrev wsJ130 : List Cond := u_ws RJ13 TJ13 0
theorem nmJ13 : ∀ a, a < 0 → ∀ b, b < 0 → a ≠ b → (TJ13 a).2.1 ≠ (TJ13 b).2.1 := by decide +kernel
theorem tyJ13_ok : ∀ k, k < 0 → parseFieldDescriptor (TJ13 k).2.2.1 = some (tyJ13 k) := by decide +kernel
abbrev cJ13_bitCount_95d88 : ByteArray := prog_13_method_50_code
def yJ13_bitCount_95d88 : MethodName := ⟨RJ13, "bitCount", "(J)I"⟩
def RJ0 : String := "java/lang/String"
def TJ0 : u_T := fun k => match k with
  | _ => ("", "", "", false)
def tyJ0 : Nat → FieldType := fun k => match k with
  | _ => .int
abbrev wsJ00 : List Cond := u_ws RJ0 TJ0 0
theorem nmJ0 : ∀ a, a < 0 → ∀ b, b < 0 → a ≠ b → (TJ0 a).2.1 ≠ (TJ0 b).2.1 := by decide +kernel
theorem tyJ0_ok : ∀ k, k < 0 → parseFieldDescriptor (TJ0 k).2.2.1 = some (tyJ0 k) := by decide +kernel
def RJ10 : String := "java/lang/System"
def TJ10 : u_T := fun k => match k with
  | _ => ("", "", "", false)
def tyJ10 : Nat → FieldType := fun k => match k with
  | _ => .int
abbrev wsJ100 : List Cond := u_ws RJ10 TJ10 0
theorem nmJ10 : ∀ a, a < 0 → ∀ b, b < 0 → a ≠ b → (TJ10 a).2.1 ≠ (TJ10 b).2.1 := by decide +kernel
theorem tyJ10_ok : ∀ k, k < 0 → parseFieldDescriptor (TJ10 k).2.2.1 = some (tyJ10 k) := by decide +kernel
def RL : String := "SlidewardenLaw"
abbrev cL_branch : ByteArray := method_3_code
def yL_branch : MethodName := ⟨RL, "branch", "(LSlidewarden;I[J)I"⟩
abbrev cL_add : ByteArray := method_4_code
def yL_add : MethodName := ⟨RL, "add", "(LSlidewarden;II[J)I"⟩
abbrev cL_set : ByteArray := method_5_code
def yL_set : MethodName := ⟨RL, "set", "(LSlidewarden;IIII[J)I"⟩
abbrev cL_drop : ByteArray := method_6_code
def yL_drop : MethodName := ⟨RL, "drop", "(LSlidewarden;II[J)I"⟩
abbrev cL_head : ByteArray := method_7_code
def yL_head : MethodName := ⟨RL, "head", "(LSlidewarden;I[J)I"⟩
abbrev cL_about : ByteArray := method_8_code
def yL_about : MethodName := ⟨RL, "about", "(LSlidewarden;II[J)I"⟩
abbrev cL_value : ByteArray := method_9_code
def yL_value : MethodName := ⟨RL, "value", "(LSlidewarden;III[J)I"⟩
abbrev cL_slideAt : ByteArray := method_10_code
def yL_slideAt : MethodName := ⟨RL, "slideAt", "(LSlidewarden;II[J)I"⟩
abbrev cL_base : ByteArray := method_11_code
def yL_base : MethodName := ⟨RL, "base", "(LSlidewarden;II[J)I"⟩
abbrev cL_clashes : ByteArray := method_12_code
def yL_clashes : MethodName := ⟨RL, "clashes", "(LSlidewarden;II[J)I"⟩
abbrev cL_merged : ByteArray := method_13_code
def yL_merged : MethodName := ⟨RL, "merged", "(LSlidewarden;IIIII[J)I"⟩
abbrev cL_merge : ByteArray := method_14_code
def yL_merge : MethodName := ⟨RL, "merge", "(LSlidewarden;III[J)I"⟩
abbrev cL_rule : ByteArray := method_15_code
def yL_rule : MethodName := ⟨RL, "rule", "(LSlidewarden;IIII[J)I"⟩
abbrev cL_tighten : ByteArray := method_16_code
def yL_tighten : MethodName := ⟨RL, "tighten", "(LSlidewarden;III[J)I"⟩
abbrev cL_waive : ByteArray := method_17_code
def yL_waive : MethodName := ⟨RL, "waive", "(LSlidewarden;III[J)I"⟩
abbrev cL_blocks : ByteArray := method_18_code
def yL_blocks : MethodName := ⟨RL, "blocks", "(LSlidewarden;I[J)I"⟩
abbrev cL_warnings : ByteArray := method_19_code
def yL_warnings : MethodName := ⟨RL, "warnings", "(LSlidewarden;I[J)I"⟩
abbrev cL_firstBlock : ByteArray := method_20_code
def yL_firstBlock : MethodName := ⟨RL, "firstBlock", "(LSlidewarden;I[J)I"⟩
abbrev cL_show : ByteArray := method_21_code
def yL_show : MethodName := ⟨RL, "show", "(LSlidewarden;I[J)I"⟩
abbrev cL_shown : ByteArray := method_22_code
def yL_shown : MethodName := ⟨RL, "shown", "(LSlidewarden;I[J)I"⟩
abbrev cL_pass : ByteArray := method_23_code
def yL_pass : MethodName := ⟨RL, "pass", "(LSlidewarden;I[J)I"⟩
abbrev cL_law : ByteArray := code
def yL_law : MethodName := ⟨RL, "law", "([I)Z"⟩
def wsX0_init : List Cond := .code yX0_init cX0_init 1 none :: ([.methodLink RX0 3 objectInit, .instanceMethod objectInit, .code objectInit ⟨#[0xb1]⟩ 1 none, .arrayClass .int, .fieldLink RX0 9 "Slidewarden$Deck" "slides" "[I", .fieldLink RX0 15 "Slidewarden$Deck" "values" "[I"] ++ wsX00)
def wsX0_placeOf : List Cond := .code yX0_placeOf cX0_placeOf 3 (some .int) :: ([.fieldLink RX0 18 "Slidewarden$Deck" "size" "I", .fieldLink RX0 9 "Slidewarden$Deck" "slides" "[I"] ++ wsX00)
def wsX0_has : List Cond := .code yX0_has cX0_has 2 (some .boolean) :: ([.methodLink RX0 22 yX0_placeOf, .instanceMethod yX0_placeOf, .selects RX0 yX0_placeOf yX0_placeOf, .initialized RX0, .code yX0_placeOf cX0_placeOf 3 (some .int), .fieldLink RX0 18 "Slidewarden$Deck" "size" "I", .fieldLink RX0 9 "Slidewarden$Deck" "slides" "[I"] ++ wsX00)
def wsX0_valueAt : List Cond := .code yX0_valueAt cX0_valueAt 3 (some .int) :: ([.fieldLink RX0 15 "Slidewarden$Deck" "values" "[I"] ++ wsX00)
def wsX0_valueOf : List Cond := .code yX0_valueOf cX0_valueOf 4 (some .int) :: ([.methodLink RX0 22 yX0_placeOf, .instanceMethod yX0_placeOf, .selects RX0 yX0_placeOf yX0_placeOf, .initialized RX0, .code yX0_placeOf cX0_placeOf 3 (some .int), .fieldLink RX0 18 "Slidewarden$Deck" "size" "I", .fieldLink RX0 9 "Slidewarden$Deck" "slides" "[I", .methodLink RX0 26 yX0_valueAt, .instanceMethod yX0_valueAt, .selects RX0 yX0_valueAt yX0_valueAt, .code yX0_valueAt cX0_valueAt 3 (some .int), .fieldLink RX0 15 "Slidewarden$Deck" "values" "[I"] ++ wsX00)
def wsX0_isAlike : List Cond := .code yX0_isAlike cX0_isAlike 6 (some .boolean) :: ([.methodLink RX0 22 yX0_placeOf, .instanceMethod yX0_placeOf, .selects RX0 yX0_placeOf yX0_placeOf, .initialized RX0, .code yX0_placeOf cX0_placeOf 3 (some .int), .fieldLink RX0 18 "Slidewarden$Deck" "size" "I", .fieldLink RX0 9 "Slidewarden$Deck" "slides" "[I", .methodLink RX0 26 yX0_valueAt, .instanceMethod yX0_valueAt, .selects RX0 yX0_valueAt yX0_valueAt, .code yX0_valueAt cX0_valueAt 3 (some .int), .fieldLink RX0 15 "Slidewarden$Deck" "values" "[I"] ++ wsX00)
def wsX0_put : List Cond := .code yX0_put cX0_put 4 none :: ([.fieldLink RX0 15 "Slidewarden$Deck" "values" "[I"] ++ wsX00)
def wsX0_move : List Cond := .code yX0_move cX0_move 4 none :: ([.fieldLink RX0 9 "Slidewarden$Deck" "slides" "[I", .methodLink RX0 26 yX0_valueAt, .instanceMethod yX0_valueAt, .selects RX0 yX0_valueAt yX0_valueAt, .initialized RX0, .code yX0_valueAt cX0_valueAt 3 (some .int), .fieldLink RX0 15 "Slidewarden$Deck" "values" "[I", .methodLink RX0 34 yX0_put, .instanceMethod yX0_put, .selects RX0 yX0_put yX0_put, .code yX0_put cX0_put 4 none] ++ wsX00)
def wsX0_insert : List Cond := .code yX0_insert cX0_insert 4 none :: ([.fieldLink RX0 18 "Slidewarden$Deck" "size" "I", .fieldLink RX0 9 "Slidewarden$Deck" "slides" "[I", .methodLink RX0 30 yX0_move, .instanceMethod yX0_move, .selects RX0 yX0_move yX0_move, .initialized RX0, .code yX0_move cX0_move 4 none, .methodLink RX0 26 yX0_valueAt, .instanceMethod yX0_valueAt, .selects RX0 yX0_valueAt yX0_valueAt, .code yX0_valueAt cX0_valueAt 3 (some .int), .fieldLink RX0 15 "Slidewarden$Deck" "values" "[I", .methodLink RX0 34 yX0_put, .instanceMethod yX0_put, .selects RX0 yX0_put yX0_put, .code yX0_put cX0_put 4 none] ++ wsX00)
def wsX0_removeAt : List Cond := .code yX0_removeAt cX0_removeAt 3 none :: ([.fieldLink RX0 18 "Slidewarden$Deck" "size" "I", .methodLink RX0 30 yX0_move, .instanceMethod yX0_move, .selects RX0 yX0_move yX0_move, .initialized RX0, .code yX0_move cX0_move 4 none, .fieldLink RX0 9 "Slidewarden$Deck" "slides" "[I", .methodLink RX0 26 yX0_valueAt, .instanceMethod yX0_valueAt, .selects RX0 yX0_valueAt yX0_valueAt, .code yX0_valueAt cX0_valueAt 3 (some .int), .fieldLink RX0 15 "Slidewarden$Deck" "values" "[I", .methodLink RX0 34 yX0_put, .instanceMethod yX0_put, .selects RX0 yX0_put yX0_put, .code yX0_put cX0_put 4 none] ++ wsX00)
def wsX0_copyFrom : List Cond := .code yX0_copyFrom cX0_copyFrom 2 none :: ([.fieldLink RX0 9 "Slidewarden$Deck" "slides" "[I", .methodLink RX0 38 arraycopyName, .native arraycopyName, .static arraycopyName, .initialized "java/lang/System", .fieldLink RX0 15 "Slidewarden$Deck" "values" "[I", .fieldLink RX0 18 "Slidewarden$Deck" "size" "I"] ++ wsX00)
def wsX1_init : List Cond := .code yX1_init cX1_init 4 none :: ([.methodLink RX1 3 objectInit, .instanceMethod objectInit, .code objectInit ⟨#[0xb1]⟩ 1 none, .fieldLink RX1 9 "Slidewarden$Merge" "old" "LSlidewarden$Deck;", .fieldLink RX1 15 "Slidewarden$Merge" "ours" "LSlidewarden$Deck;", .fieldLink RX1 18 "Slidewarden$Merge" "theirs" "LSlidewarden$Deck;"] ++ wsX10)
def wsX1_isSlideClash : List Cond := .code yX1_isSlideClash cX1_isSlideClash 3 (some .boolean) :: ([.fieldLink RX1 15 "Slidewarden$Merge" "ours" "LSlidewarden$Deck;", .fieldLink RX1 18 "Slidewarden$Merge" "theirs" "LSlidewarden$Deck;", .fieldLink RX1 9 "Slidewarden$Merge" "old" "LSlidewarden$Deck;", .methodLink RX1 36 yX0_has, .instanceMethod yX0_has, .selects RX0 yX0_has yX0_has, .initialized RX0, .code yX0_has cX0_has 2 (some .boolean), .methodLink RX0 22 yX0_placeOf, .instanceMethod yX0_placeOf, .selects RX0 yX0_placeOf yX0_placeOf, .code yX0_placeOf cX0_placeOf 3 (some .int), .fieldLink RX0 18 "Slidewarden$Deck" "size" "I", .fieldLink RX0 9 "Slidewarden$Deck" "slides" "[I", .methodLink RX1 65 yX0_isAlike, .instanceMethod yX0_isAlike, .selects RX0 yX0_isAlike yX0_isAlike, .code yX0_isAlike cX0_isAlike 6 (some .boolean), .methodLink RX0 26 yX0_valueAt, .instanceMethod yX0_valueAt, .selects RX0 yX0_valueAt yX0_valueAt, .code yX0_valueAt cX0_valueAt 3 (some .int), .fieldLink RX0 15 "Slidewarden$Deck" "values" "[I"] ++ wsX10 ++ wsX00)
def wsX1_isObjectClash : List Cond := .code yX1_isObjectClash cX1_isObjectClash 6 (some .boolean) :: ([.fieldLink RX1 15 "Slidewarden$Merge" "ours" "LSlidewarden$Deck;", .fieldLink RX1 18 "Slidewarden$Merge" "theirs" "LSlidewarden$Deck;", .fieldLink RX1 9 "Slidewarden$Merge" "old" "LSlidewarden$Deck;", .methodLink RX1 36 yX0_has, .instanceMethod yX0_has, .selects RX0 yX0_has yX0_has, .initialized RX0, .code yX0_has cX0_has 2 (some .boolean), .methodLink RX0 22 yX0_placeOf, .instanceMethod yX0_placeOf, .selects RX0 yX0_placeOf yX0_placeOf, .code yX0_placeOf cX0_placeOf 3 (some .int), .fieldLink RX0 18 "Slidewarden$Deck" "size" "I", .fieldLink RX0 9 "Slidewarden$Deck" "slides" "[I", .methodLink RX1 41 yX0_valueOf, .instanceMethod yX0_valueOf, .selects RX0 yX0_valueOf yX0_valueOf, .code yX0_valueOf cX0_valueOf 4 (some .int), .methodLink RX0 26 yX0_valueAt, .instanceMethod yX0_valueAt, .selects RX0 yX0_valueAt yX0_valueAt, .code yX0_valueAt cX0_valueAt 3 (some .int), .fieldLink RX0 15 "Slidewarden$Deck" "values" "[I"] ++ wsX10 ++ wsX00)
def wsX1_countClashes_r1 : List Cond := [Cond.methodLink RX1 21 yX1_isSlideClash, Cond.instanceMethod yX1_isSlideClash, Cond.selects RX1 yX1_isSlideClash yX1_isSlideClash, Cond.initialized RX1, Cond.code yX1_isSlideClash cX1_isSlideClash 3 (some .boolean), Cond.fieldLink RX1 15 "Slidewarden$Merge" "ours" "LSlidewarden$Deck;", Cond.fieldLink RX1 18 "Slidewarden$Merge" "theirs" "LSlidewarden$Deck;", Cond.fieldLink RX1 9 "Slidewarden$Merge" "old" "LSlidewarden$Deck;", Cond.methodLink RX1 36 yX0_has, Cond.instanceMethod yX0_has, Cond.selects RX0 yX0_has yX0_has, Cond.initialized RX0, Cond.code yX0_has cX0_has 2 (some .boolean), Cond.methodLink RX0 22 yX0_placeOf, Cond.instanceMethod yX0_placeOf, Cond.selects RX0 yX0_placeOf yX0_placeOf, Cond.code yX0_placeOf cX0_placeOf 3 (some .int), Cond.fieldLink RX0 18 "Slidewarden$Deck" "size" "I", Cond.fieldLink RX0 9 "Slidewarden$Deck" "slides" "[I", Cond.methodLink RX1 65 yX0_isAlike, Cond.instanceMethod yX0_isAlike, Cond.selects RX0 yX0_isAlike yX0_isAlike, Cond.code yX0_isAlike cX0_isAlike 6 (some .boolean), Cond.methodLink RX0 26 yX0_valueAt]
def wsX1_countClashes_r2 : List Cond := [Cond.instanceMethod yX0_valueAt, Cond.selects RX0 yX0_valueAt yX0_valueAt, Cond.code yX0_valueAt cX0_valueAt 3 (some .int), Cond.fieldLink RX0 15 "Slidewarden$Deck" "values" "[I", Cond.methodLink RX1 25 yX1_isObjectClash, Cond.instanceMethod yX1_isObjectClash, Cond.selects RX1 yX1_isObjectClash yX1_isObjectClash, Cond.code yX1_isObjectClash cX1_isObjectClash 6 (some .boolean), Cond.methodLink RX1 41 yX0_valueOf, Cond.instanceMethod yX0_valueOf, Cond.selects RX0 yX0_valueOf yX0_valueOf, Cond.code yX0_valueOf cX0_valueOf 4 (some .int)]
def wsX1_countClashes : List Cond := .code yX1_countClashes cX1_countClashes 5 (some .int) :: ((wsX1_countClashes_r1 ++ wsX1_countClashes_r2) ++ wsX10 ++ wsX00)
def wsX1_isKept_r1 : List Cond := [Cond.fieldLink RX1 15 "Slidewarden$Merge" "ours" "LSlidewarden$Deck;", Cond.fieldLink RX1 18 "Slidewarden$Merge" "theirs" "LSlidewarden$Deck;", Cond.fieldLink RX1 9 "Slidewarden$Merge" "old" "LSlidewarden$Deck;", Cond.methodLink RX1 36 yX0_has, Cond.instanceMethod yX0_has, Cond.selects RX0 yX0_has yX0_has, Cond.initialized RX0, Cond.code yX0_has cX0_has 2 (some .boolean), Cond.methodLink RX0 22 yX0_placeOf, Cond.instanceMethod yX0_placeOf, Cond.selects RX0 yX0_placeOf yX0_placeOf, Cond.code yX0_placeOf cX0_placeOf 3 (some .int), Cond.fieldLink RX0 18 "Slidewarden$Deck" "size" "I", Cond.fieldLink RX0 9 "Slidewarden$Deck" "slides" "[I", Cond.methodLink RX1 21 yX1_isSlideClash, Cond.instanceMethod yX1_isSlideClash, Cond.selects RX1 yX1_isSlideClash yX1_isSlideClash, Cond.initialized RX1, Cond.code yX1_isSlideClash cX1_isSlideClash 3 (some .boolean), Cond.methodLink RX1 65 yX0_isAlike, Cond.instanceMethod yX0_isAlike, Cond.selects RX0 yX0_isAlike yX0_isAlike, Cond.code yX0_isAlike cX0_isAlike 6 (some .boolean), Cond.methodLink RX0 26 yX0_valueAt]
def wsX1_isKept_r2 : List Cond := [Cond.instanceMethod yX0_valueAt, Cond.selects RX0 yX0_valueAt yX0_valueAt, Cond.code yX0_valueAt cX0_valueAt 3 (some .int), Cond.fieldLink RX0 15 "Slidewarden$Deck" "values" "[I"]
def wsX1_isKept : List Cond := .code yX1_isKept cX1_isKept 5 (some .boolean) :: ((wsX1_isKept_r1 ++ wsX1_isKept_r2) ++ wsX10 ++ wsX00)
def wsX1_countSlides_r1 : List Cond := [Cond.methodLink RX1 29 yX1_isKept, Cond.instanceMethod yX1_isKept, Cond.selects RX1 yX1_isKept yX1_isKept, Cond.initialized RX1, Cond.code yX1_isKept cX1_isKept 5 (some .boolean), Cond.fieldLink RX1 15 "Slidewarden$Merge" "ours" "LSlidewarden$Deck;", Cond.fieldLink RX1 18 "Slidewarden$Merge" "theirs" "LSlidewarden$Deck;", Cond.fieldLink RX1 9 "Slidewarden$Merge" "old" "LSlidewarden$Deck;", Cond.methodLink RX1 36 yX0_has, Cond.instanceMethod yX0_has, Cond.selects RX0 yX0_has yX0_has, Cond.initialized RX0, Cond.code yX0_has cX0_has 2 (some .boolean), Cond.methodLink RX0 22 yX0_placeOf, Cond.instanceMethod yX0_placeOf, Cond.selects RX0 yX0_placeOf yX0_placeOf, Cond.code yX0_placeOf cX0_placeOf 3 (some .int), Cond.fieldLink RX0 18 "Slidewarden$Deck" "size" "I", Cond.fieldLink RX0 9 "Slidewarden$Deck" "slides" "[I", Cond.methodLink RX1 21 yX1_isSlideClash, Cond.instanceMethod yX1_isSlideClash, Cond.selects RX1 yX1_isSlideClash yX1_isSlideClash, Cond.code yX1_isSlideClash cX1_isSlideClash 3 (some .boolean), Cond.methodLink RX1 65 yX0_isAlike]
def wsX1_countSlides_r2 : List Cond := [Cond.instanceMethod yX0_isAlike, Cond.selects RX0 yX0_isAlike yX0_isAlike, Cond.code yX0_isAlike cX0_isAlike 6 (some .boolean), Cond.methodLink RX0 26 yX0_valueAt, Cond.instanceMethod yX0_valueAt, Cond.selects RX0 yX0_valueAt yX0_valueAt, Cond.code yX0_valueAt cX0_valueAt 3 (some .int), Cond.fieldLink RX0 15 "Slidewarden$Deck" "values" "[I"]
def wsX1_countSlides : List Cond := .code yX1_countSlides cX1_countSlides 5 (some .int) :: ((wsX1_countSlides_r1 ++ wsX1_countSlides_r2) ++ wsX10 ++ wsX00)
def wsX1_keptValue_r1 : List Cond := [Cond.fieldLink RX1 18 "Slidewarden$Merge" "theirs" "LSlidewarden$Deck;", Cond.fieldLink RX1 15 "Slidewarden$Merge" "ours" "LSlidewarden$Deck;", Cond.fieldLink RX1 9 "Slidewarden$Merge" "old" "LSlidewarden$Deck;", Cond.methodLink RX1 36 yX0_has, Cond.instanceMethod yX0_has, Cond.selects RX0 yX0_has yX0_has, Cond.initialized RX0, Cond.code yX0_has cX0_has 2 (some .boolean), Cond.methodLink RX0 22 yX0_placeOf, Cond.instanceMethod yX0_placeOf, Cond.selects RX0 yX0_placeOf yX0_placeOf, Cond.code yX0_placeOf cX0_placeOf 3 (some .int), Cond.fieldLink RX0 18 "Slidewarden$Deck" "size" "I", Cond.fieldLink RX0 9 "Slidewarden$Deck" "slides" "[I", Cond.methodLink RX1 41 yX0_valueOf, Cond.instanceMethod yX0_valueOf, Cond.selects RX0 yX0_valueOf yX0_valueOf, Cond.code yX0_valueOf cX0_valueOf 4 (some .int), Cond.methodLink RX0 26 yX0_valueAt, Cond.instanceMethod yX0_valueAt, Cond.selects RX0 yX0_valueAt yX0_valueAt, Cond.code yX0_valueAt cX0_valueAt 3 (some .int), Cond.fieldLink RX0 15 "Slidewarden$Deck" "values" "[I", Cond.methodLink RX1 25 yX1_isObjectClash]
def wsX1_keptValue_r2 : List Cond := [Cond.instanceMethod yX1_isObjectClash, Cond.selects RX1 yX1_isObjectClash yX1_isObjectClash, Cond.initialized RX1, Cond.code yX1_isObjectClash cX1_isObjectClash 6 (some .boolean)]
def wsX1_keptValue : List Cond := .code yX1_keptValue cX1_keptValue 6 (some .int) :: ((wsX1_keptValue_r1 ++ wsX1_keptValue_r2) ++ wsX10 ++ wsX00)
def wsX1_resultOf_r1 : List Cond := [Cond.methodLink RX1 29 yX1_isKept, Cond.instanceMethod yX1_isKept, Cond.selects RX1 yX1_isKept yX1_isKept, Cond.initialized RX1, Cond.code yX1_isKept cX1_isKept 5 (some .boolean), Cond.fieldLink RX1 15 "Slidewarden$Merge" "ours" "LSlidewarden$Deck;", Cond.fieldLink RX1 18 "Slidewarden$Merge" "theirs" "LSlidewarden$Deck;", Cond.fieldLink RX1 9 "Slidewarden$Merge" "old" "LSlidewarden$Deck;", Cond.methodLink RX1 36 yX0_has, Cond.instanceMethod yX0_has, Cond.selects RX0 yX0_has yX0_has, Cond.initialized RX0, Cond.code yX0_has cX0_has 2 (some .boolean), Cond.methodLink RX0 22 yX0_placeOf, Cond.instanceMethod yX0_placeOf, Cond.selects RX0 yX0_placeOf yX0_placeOf, Cond.code yX0_placeOf cX0_placeOf 3 (some .int), Cond.fieldLink RX0 18 "Slidewarden$Deck" "size" "I", Cond.fieldLink RX0 9 "Slidewarden$Deck" "slides" "[I", Cond.methodLink RX1 21 yX1_isSlideClash, Cond.instanceMethod yX1_isSlideClash, Cond.selects RX1 yX1_isSlideClash yX1_isSlideClash, Cond.code yX1_isSlideClash cX1_isSlideClash 3 (some .boolean), Cond.methodLink RX1 65 yX0_isAlike]
def wsX1_resultOf_r2 : List Cond := [Cond.instanceMethod yX0_isAlike, Cond.selects RX0 yX0_isAlike yX0_isAlike, Cond.code yX0_isAlike cX0_isAlike 6 (some .boolean), Cond.methodLink RX0 26 yX0_valueAt, Cond.instanceMethod yX0_valueAt, Cond.selects RX0 yX0_valueAt yX0_valueAt, Cond.code yX0_valueAt cX0_valueAt 3 (some .int), Cond.fieldLink RX0 15 "Slidewarden$Deck" "values" "[I", Cond.methodLink RX1 32 yX1_keptValue, Cond.instanceMethod yX1_keptValue, Cond.selects RX1 yX1_keptValue yX1_keptValue, Cond.code yX1_keptValue cX1_keptValue 6 (some .int), Cond.methodLink RX1 41 yX0_valueOf, Cond.instanceMethod yX0_valueOf, Cond.selects RX0 yX0_valueOf yX0_valueOf, Cond.code yX0_valueOf cX0_valueOf 4 (some .int), Cond.methodLink RX1 25 yX1_isObjectClash, Cond.instanceMethod yX1_isObjectClash, Cond.selects RX1 yX1_isObjectClash yX1_isObjectClash, Cond.code yX1_isObjectClash cX1_isObjectClash 6 (some .boolean)]
def wsX1_resultOf : List Cond := .code yX1_resultOf cX1_resultOf 4 (some .int) :: ((wsX1_resultOf_r1 ++ wsX1_resultOf_r2) ++ wsX10 ++ wsX00)
def wsX1_append_r1 : List Cond := [Cond.fieldLink RX1 45 "Slidewarden$Deck" "size" "I", Cond.methodLink RX1 57 yX0_insert, Cond.instanceMethod yX0_insert, Cond.selects RX0 yX0_insert yX0_insert, Cond.initialized RX0, Cond.code yX0_insert cX0_insert 4 none, Cond.fieldLink RX0 18 "Slidewarden$Deck" "size" "I", Cond.fieldLink RX0 9 "Slidewarden$Deck" "slides" "[I", Cond.methodLink RX0 30 yX0_move, Cond.instanceMethod yX0_move, Cond.selects RX0 yX0_move yX0_move, Cond.code yX0_move cX0_move 4 none, Cond.methodLink RX0 26 yX0_valueAt, Cond.instanceMethod yX0_valueAt, Cond.selects RX0 yX0_valueAt yX0_valueAt, Cond.code yX0_valueAt cX0_valueAt 3 (some .int), Cond.fieldLink RX0 15 "Slidewarden$Deck" "values" "[I", Cond.methodLink RX0 34 yX0_put, Cond.instanceMethod yX0_put, Cond.selects RX0 yX0_put yX0_put, Cond.code yX0_put cX0_put 4 none, Cond.methodLink RX1 32 yX1_keptValue, Cond.instanceMethod yX1_keptValue, Cond.selects RX1 yX1_keptValue yX1_keptValue]
def wsX1_append_r2 : List Cond := [Cond.initialized RX1, Cond.code yX1_keptValue cX1_keptValue 6 (some .int), Cond.fieldLink RX1 18 "Slidewarden$Merge" "theirs" "LSlidewarden$Deck;", Cond.fieldLink RX1 15 "Slidewarden$Merge" "ours" "LSlidewarden$Deck;", Cond.fieldLink RX1 9 "Slidewarden$Merge" "old" "LSlidewarden$Deck;", Cond.methodLink RX1 36 yX0_has, Cond.instanceMethod yX0_has, Cond.selects RX0 yX0_has yX0_has, Cond.code yX0_has cX0_has 2 (some .boolean), Cond.methodLink RX0 22 yX0_placeOf, Cond.instanceMethod yX0_placeOf, Cond.selects RX0 yX0_placeOf yX0_placeOf, Cond.code yX0_placeOf cX0_placeOf 3 (some .int), Cond.methodLink RX1 41 yX0_valueOf, Cond.instanceMethod yX0_valueOf, Cond.selects RX0 yX0_valueOf yX0_valueOf, Cond.code yX0_valueOf cX0_valueOf 4 (some .int), Cond.methodLink RX1 25 yX1_isObjectClash, Cond.instanceMethod yX1_isObjectClash, Cond.selects RX1 yX1_isObjectClash yX1_isObjectClash, Cond.code yX1_isObjectClash cX1_isObjectClash 6 (some .boolean), Cond.methodLink RX1 61 yX0_put]
def wsX1_append : List Cond := .code yX1_append cX1_append 6 none :: ((wsX1_append_r1 ++ wsX1_append_r2) ++ wsX00 ++ wsX10)
def wsX1_fill_r1 : List Cond := [Cond.fieldLink RX1 45 "Slidewarden$Deck" "size" "I", Cond.fieldLink RX1 15 "Slidewarden$Merge" "ours" "LSlidewarden$Deck;", Cond.fieldLink RX1 49 "Slidewarden$Deck" "slides" "[I", Cond.fieldLink RX1 18 "Slidewarden$Merge" "theirs" "LSlidewarden$Deck;", Cond.methodLink RX1 29 yX1_isKept, Cond.instanceMethod yX1_isKept, Cond.selects RX1 yX1_isKept yX1_isKept, Cond.initialized RX1, Cond.code yX1_isKept cX1_isKept 5 (some .boolean), Cond.fieldLink RX1 9 "Slidewarden$Merge" "old" "LSlidewarden$Deck;", Cond.methodLink RX1 36 yX0_has, Cond.instanceMethod yX0_has, Cond.selects RX0 yX0_has yX0_has, Cond.initialized RX0, Cond.code yX0_has cX0_has 2 (some .boolean), Cond.methodLink RX0 22 yX0_placeOf, Cond.instanceMethod yX0_placeOf, Cond.selects RX0 yX0_placeOf yX0_placeOf, Cond.code yX0_placeOf cX0_placeOf 3 (some .int), Cond.fieldLink RX0 18 "Slidewarden$Deck" "size" "I", Cond.fieldLink RX0 9 "Slidewarden$Deck" "slides" "[I", Cond.methodLink RX1 21 yX1_isSlideClash, Cond.instanceMethod yX1_isSlideClash, Cond.selects RX1 yX1_isSlideClash yX1_isSlideClash]
def wsX1_fill_r2 : List Cond := [Cond.code yX1_isSlideClash cX1_isSlideClash 3 (some .boolean), Cond.methodLink RX1 65 yX0_isAlike, Cond.instanceMethod yX0_isAlike, Cond.selects RX0 yX0_isAlike yX0_isAlike, Cond.code yX0_isAlike cX0_isAlike 6 (some .boolean), Cond.methodLink RX0 26 yX0_valueAt, Cond.instanceMethod yX0_valueAt, Cond.selects RX0 yX0_valueAt yX0_valueAt, Cond.code yX0_valueAt cX0_valueAt 3 (some .int), Cond.fieldLink RX0 15 "Slidewarden$Deck" "values" "[I", Cond.methodLink RX1 53 yX1_append, Cond.instanceMethod yX1_append, Cond.selects RX1 yX1_append yX1_append, Cond.code yX1_append cX1_append 6 none, Cond.methodLink RX1 57 yX0_insert, Cond.instanceMethod yX0_insert, Cond.selects RX0 yX0_insert yX0_insert, Cond.code yX0_insert cX0_insert 4 none, Cond.methodLink RX0 30 yX0_move, Cond.instanceMethod yX0_move, Cond.selects RX0 yX0_move yX0_move, Cond.code yX0_move cX0_move 4 none, Cond.methodLink RX0 34 yX0_put, Cond.instanceMethod yX0_put]
def wsX1_fill_r3 : List Cond := [Cond.selects RX0 yX0_put yX0_put, Cond.code yX0_put cX0_put 4 none, Cond.methodLink RX1 32 yX1_keptValue, Cond.instanceMethod yX1_keptValue, Cond.selects RX1 yX1_keptValue yX1_keptValue, Cond.code yX1_keptValue cX1_keptValue 6 (some .int), Cond.methodLink RX1 41 yX0_valueOf, Cond.instanceMethod yX0_valueOf, Cond.selects RX0 yX0_valueOf yX0_valueOf, Cond.code yX0_valueOf cX0_valueOf 4 (some .int), Cond.methodLink RX1 25 yX1_isObjectClash, Cond.instanceMethod yX1_isObjectClash, Cond.selects RX1 yX1_isObjectClash yX1_isObjectClash, Cond.code yX1_isObjectClash cX1_isObjectClash 6 (some .boolean), Cond.methodLink RX1 61 yX0_put]
def wsX1_fill : List Cond := .code yX1_fill cX1_fill 5 none :: ((wsX1_fill_r1 ++ (wsX1_fill_r2 ++ wsX1_fill_r3)) ++ wsX00 ++ wsX10)
def wsX2_init : List Cond := .code yX2_init cX2_init 1 none :: ([.methodLink RX2 1 objectInit, .instanceMethod objectInit, .code objectInit ⟨#[0xb1]⟩ 1 none])
def wsX2_isBrokenAt : List Cond := .code yX2_isBrokenAt cX2_isBrokenAt 4 (some .boolean) :: ([.fieldLink RX2 7 "Slidewarden$Rule" "object" "I", .fieldLink RX2 19 "Slidewarden$Rule" "least" "I", .fieldLink RX2 22 "Slidewarden$Rule" "most" "I", .methodLink RX2 13 yX0_valueAt, .instanceMethod yX0_valueAt, .selects RX0 yX0_valueAt yX0_valueAt, .initialized RX0, .code yX0_valueAt cX0_valueAt 3 (some .int), .fieldLink RX0 15 "Slidewarden$Deck" "values" "[I"] ++ wsX20 ++ wsX00)
def wsX3_init : List Cond := .code yX3_init cX3_init 1 none :: ([.methodLink RX3 3 objectInit, .instanceMethod objectInit, .code objectInit ⟨#[0xb1]⟩ 1 none, .classLink RX3 9 RX0, .instantiable RX0 3, .initialized RX0, .fieldLink RX3 12 "Slidewarden$Version" "deck" "LSlidewarden$Deck;", .fieldLink RX3 18 "Slidewarden$Version" "cameFrom" "I", .fieldLink RX3 22 "Slidewarden$Version" "mergedFrom" "I", .instanceMethod yX0_init, .code yX0_init cX0_init 1 none, .methodLink RX0 3 objectInit, .arrayClass .int, .fieldLink RX0 9 "Slidewarden$Deck" "slides" "[I", .fieldLink RX0 15 "Slidewarden$Deck" "values" "[I"] ++ wsX00 ++ wsX30)
def wsX4_init : List Cond := .code yX4_init cX4_init 1 none :: ([.methodLink RX4 1 objectInit, .instanceMethod objectInit, .code objectInit ⟨#[0xb1]⟩ 1 none])
def wsX5_init_r1 : List Cond := [Cond.methodLink RX5 1 objectInit, Cond.instanceMethod objectInit, Cond.code objectInit ⟨#[0xb1]⟩ 1 none, Cond.classLink RX5 9 RX3, Cond.fieldLink RX5 11 "Slidewarden" "versions" "[LSlidewarden$Version;", Cond.arrayClass .int, Cond.fieldLink RX5 15 "Slidewarden" "heads" "[I", Cond.fieldLink RX5 19 "Slidewarden" "shownVersions" "[I", Cond.classLink RX5 22 RX2, Cond.fieldLink RX5 24 "Slidewarden" "rules" "[LSlidewarden$Rule;", Cond.classLink RX5 28 RX4, Cond.fieldLink RX5 30 "Slidewarden" "waivers" "[LSlidewarden$Waiver;", Cond.classLink RX5 34 RX0, Cond.instantiable RX0 3, Cond.initialized RX0, Cond.fieldLink RX5 37 "Slidewarden" "trial" "LSlidewarden$Deck;", Cond.instantiable RX3 5, Cond.initialized RX3, Cond.instantiable RX2 4, Cond.initialized RX2, Cond.instantiable RX4 3, Cond.initialized RX4, Cond.fieldLink RX5 44 "Slidewarden$Version" "ancestors" "J", Cond.fieldLink RX5 48 "Slidewarden" "versionCount" "I"]
def wsX5_init_r2 : List Cond := [Cond.fieldLink RX5 52 "Slidewarden" "branchCount" "I", Cond.instanceMethod yX0_init, Cond.code yX0_init cX0_init 1 none, Cond.methodLink RX0 3 objectInit, Cond.fieldLink RX0 9 "Slidewarden$Deck" "slides" "[I", Cond.fieldLink RX0 15 "Slidewarden$Deck" "values" "[I", Cond.instanceMethod yX3_init, Cond.code yX3_init cX3_init 1 none, Cond.methodLink RX3 3 objectInit, Cond.classLink RX3 9 RX0, Cond.fieldLink RX3 12 "Slidewarden$Version" "deck" "LSlidewarden$Deck;", Cond.fieldLink RX3 18 "Slidewarden$Version" "cameFrom" "I", Cond.fieldLink RX3 22 "Slidewarden$Version" "mergedFrom" "I", Cond.instanceMethod yX2_init, Cond.code yX2_init cX2_init 1 none, Cond.methodLink RX2 1 objectInit, Cond.instanceMethod yX4_init, Cond.code yX4_init cX4_init 1 none, Cond.methodLink RX4 1 objectInit]
def wsX5_init : List Cond := .code yX5_init cX5_init 2 none :: ((wsX5_init_r1 ++ wsX5_init_r2) ++ wsX50 ++ wsX00 ++ wsX30 ++ wsX20 ++ wsX40)
def wsX5_checkVersion : List Cond := .code yX5_checkVersion cX5_checkVersion 2 none :: ([.classLink RX5 76 "java/lang/IndexOutOfBoundsException", .initialized "java/lang/IndexOutOfBoundsException", .fieldLink RX5 48 "Slidewarden" "versionCount" "I"] ++ wsX50 ++ (vx_atS RX5 80 "java/lang/IndexOutOfBoundsException" ["java/lang/RuntimeException", "java/lang/Exception"]).filter goodWord)
def wsX5_branch : List Cond := .code yX5_branch cX5_branch 3 (some .int) :: ([.classLink RX5 59 "java/lang/IllegalStateException", .initialized "java/lang/IllegalStateException", .fieldLink RX5 52 "Slidewarden" "branchCount" "I", .fieldLink RX5 15 "Slidewarden" "heads" "[I", .methodLink RX5 55 yX5_checkVersion, .instanceMethod yX5_checkVersion, .selects RX5 yX5_checkVersion yX5_checkVersion, .initialized RX5, .code yX5_checkVersion cX5_checkVersion 2 none, .classLink RX5 76 "java/lang/IndexOutOfBoundsException", .initialized "java/lang/IndexOutOfBoundsException", .fieldLink RX5 48 "Slidewarden" "versionCount" "I"] ++ wsX50 ++ (vx_atS RX5 63 "java/lang/IllegalStateException" ["java/lang/RuntimeException", "java/lang/Exception"]).filter goodWord ++ (vx_atS RX5 80 "java/lang/IndexOutOfBoundsException" ["java/lang/RuntimeException", "java/lang/Exception"]).filter goodWord)
def wsX5_checkBranch : List Cond := .code yX5_checkBranch cX5_checkBranch 2 none :: ([.classLink RX5 76 "java/lang/IndexOutOfBoundsException", .initialized "java/lang/IndexOutOfBoundsException", .fieldLink RX5 52 "Slidewarden" "branchCount" "I"] ++ wsX50 ++ (vx_atS RX5 80 "java/lang/IndexOutOfBoundsException" ["java/lang/RuntimeException", "java/lang/Exception"]).filter goodWord)
def wsX5_headDeck : List Cond := .code yX5_headDeck cX5_headDeck 2 (some (.object "Slidewarden$Deck")) :: ([.fieldLink RX5 11 "Slidewarden" "versions" "[LSlidewarden$Version;", .fieldLink RX5 15 "Slidewarden" "heads" "[I", .fieldLink RX5 130 "Slidewarden$Version" "deck" "LSlidewarden$Deck;"] ++ wsX50 ++ wsX30)
def wsX5_checkRoomForVersion : List Cond := .code yX5_checkRoomForVersion cX5_checkRoomForVersion 1 none :: ([.classLink RX5 59 "java/lang/IllegalStateException", .initialized "java/lang/IllegalStateException", .fieldLink RX5 48 "Slidewarden" "versionCount" "I"] ++ wsX50 ++ (vx_atS RX5 63 "java/lang/IllegalStateException" ["java/lang/RuntimeException", "java/lang/Exception"]).filter goodWord)
def wsX5_makeVersion : List Cond := .code yX5_makeVersion cX5_makeVersion 6 (some (.object "Slidewarden$Deck")) :: ([.fieldLink RX5 48 "Slidewarden" "versionCount" "I", .fieldLink RX5 15 "Slidewarden" "heads" "[I", .fieldLink RX5 11 "Slidewarden" "versions" "[LSlidewarden$Version;", .fieldLink RX5 121 "Slidewarden$Version" "madeOn" "I", .fieldLink RX5 124 "Slidewarden$Version" "cameFrom" "I", .fieldLink RX5 127 "Slidewarden$Version" "mergedFrom" "I", .fieldLink RX5 44 "Slidewarden$Version" "ancestors" "J", .fieldLink RX5 130 "Slidewarden$Version" "deck" "LSlidewarden$Deck;", .methodLink RX5 191 yX0_copyFrom, .instanceMethod yX0_copyFrom, .selects RX0 yX0_copyFrom yX0_copyFrom, .initialized RX0, .code yX0_copyFrom cX0_copyFrom 2 none, .fieldLink RX0 9 "Slidewarden$Deck" "slides" "[I", .methodLink RX0 38 arraycopyName, .native arraycopyName, .static arraycopyName, .initialized "java/lang/System", .fieldLink RX0 15 "Slidewarden$Deck" "values" "[I", .fieldLink RX0 18 "Slidewarden$Deck" "size" "I"] ++ wsX50 ++ wsX30 ++ wsX00)
def wsX5_add_r1 : List Cond := [Cond.classLink RX5 76 "java/lang/IndexOutOfBoundsException", Cond.initialized "java/lang/IndexOutOfBoundsException", Cond.classLink RX5 59 "java/lang/IllegalStateException", Cond.initialized "java/lang/IllegalStateException", Cond.fieldLink RX5 73 "Slidewarden$Deck" "size" "I", Cond.fieldLink RX5 83 "Slidewarden" "slideCount" "I", Cond.methodLink RX5 66 yX5_checkBranch, Cond.instanceMethod yX5_checkBranch, Cond.selects RX5 yX5_checkBranch yX5_checkBranch, Cond.initialized RX5, Cond.code yX5_checkBranch cX5_checkBranch 2 none, Cond.fieldLink RX5 52 "Slidewarden" "branchCount" "I", Cond.methodLink RX5 69 yX5_headDeck, Cond.instanceMethod yX5_headDeck, Cond.selects RX5 yX5_headDeck yX5_headDeck, Cond.code yX5_headDeck cX5_headDeck 2 (some (.object "Slidewarden$Deck")), Cond.fieldLink RX5 11 "Slidewarden" "versions" "[LSlidewarden$Version;", Cond.fieldLink RX5 15 "Slidewarden" "heads" "[I", Cond.fieldLink RX5 130 "Slidewarden$Version" "deck" "LSlidewarden$Deck;", Cond.methodLink RX5 88 yX5_checkRoomForVersion, Cond.instanceMethod yX5_checkRoomForVersion, Cond.selects RX5 yX5_checkRoomForVersion yX5_checkRoomForVersion, Cond.code yX5_checkRoomForVersion cX5_checkRoomForVersion 1 none, Cond.fieldLink RX5 48 "Slidewarden" "versionCount" "I"]
def wsX5_add_r2 : List Cond := [Cond.methodLink RX5 91 yX5_makeVersion, Cond.instanceMethod yX5_makeVersion, Cond.selects RX5 yX5_makeVersion yX5_makeVersion, Cond.code yX5_makeVersion cX5_makeVersion 6 (some (.object "Slidewarden$Deck")), Cond.fieldLink RX5 121 "Slidewarden$Version" "madeOn" "I", Cond.fieldLink RX5 124 "Slidewarden$Version" "cameFrom" "I", Cond.fieldLink RX5 127 "Slidewarden$Version" "mergedFrom" "I", Cond.fieldLink RX5 44 "Slidewarden$Version" "ancestors" "J", Cond.methodLink RX5 191 yX0_copyFrom, Cond.instanceMethod yX0_copyFrom, Cond.selects RX0 yX0_copyFrom yX0_copyFrom, Cond.initialized RX0, Cond.code yX0_copyFrom cX0_copyFrom 2 none, Cond.fieldLink RX0 9 "Slidewarden$Deck" "slides" "[I", Cond.methodLink RX0 38 arraycopyName, Cond.native arraycopyName, Cond.static arraycopyName, Cond.initialized "java/lang/System", Cond.fieldLink RX0 15 "Slidewarden$Deck" "values" "[I", Cond.fieldLink RX0 18 "Slidewarden$Deck" "size" "I", Cond.methodLink RX5 95 yX0_insert, Cond.instanceMethod yX0_insert, Cond.selects RX0 yX0_insert yX0_insert, Cond.code yX0_insert cX0_insert 4 none]
def wsX5_add_r3 : List Cond := [Cond.methodLink RX0 30 yX0_move, Cond.instanceMethod yX0_move, Cond.selects RX0 yX0_move yX0_move, Cond.code yX0_move cX0_move 4 none, Cond.methodLink RX0 26 yX0_valueAt, Cond.instanceMethod yX0_valueAt, Cond.selects RX0 yX0_valueAt yX0_valueAt, Cond.code yX0_valueAt cX0_valueAt 3 (some .int), Cond.methodLink RX0 34 yX0_put, Cond.instanceMethod yX0_put, Cond.selects RX0 yX0_put yX0_put, Cond.code yX0_put cX0_put 4 none]
def wsX5_add : List Cond := .code yX5_add cX5_add 5 (some .int) :: ((wsX5_add_r1 ++ (wsX5_add_r2 ++ wsX5_add_r3)) ++ wsX00 ++ wsX50 ++ wsX30 ++ (vx_atS RX5 80 "java/lang/IndexOutOfBoundsException" ["java/lang/RuntimeException", "java/lang/Exception"]).filter goodWord ++ (vx_atS RX5 63 "java/lang/IllegalStateException" ["java/lang/RuntimeException", "java/lang/Exception"]).filter goodWord)
def wsX5_placeInHead : List Cond := .code yX5_placeInHead cX5_placeInHead 4 (some .int) :: ([.classLink RX5 76 "java/lang/IndexOutOfBoundsException", .initialized "java/lang/IndexOutOfBoundsException", .methodLink RX5 69 yX5_headDeck, .instanceMethod yX5_headDeck, .selects RX5 yX5_headDeck yX5_headDeck, .initialized RX5, .code yX5_headDeck cX5_headDeck 2 (some (.object "Slidewarden$Deck")), .fieldLink RX5 11 "Slidewarden" "versions" "[LSlidewarden$Version;", .fieldLink RX5 15 "Slidewarden" "heads" "[I", .fieldLink RX5 130 "Slidewarden$Version" "deck" "LSlidewarden$Deck;", .methodLink RX5 274 yX0_placeOf, .instanceMethod yX0_placeOf, .selects RX0 yX0_placeOf yX0_placeOf, .initialized RX0, .code yX0_placeOf cX0_placeOf 3 (some .int), .fieldLink RX0 18 "Slidewarden$Deck" "size" "I", .fieldLink RX0 9 "Slidewarden$Deck" "slides" "[I"] ++ wsX50 ++ wsX30 ++ wsX00 ++ (vx_atS RX5 80 "java/lang/IndexOutOfBoundsException" ["java/lang/RuntimeException", "java/lang/Exception"]).filter goodWord)
def wsX5_checkObject : List Cond := .code yX5_checkObject cX5_checkObject 1 none :: ([.classLink RX5 76 "java/lang/IndexOutOfBoundsException", .initialized "java/lang/IndexOutOfBoundsException"] ++ (vx_atS RX5 80 "java/lang/IndexOutOfBoundsException" ["java/lang/RuntimeException", "java/lang/Exception"]).filter goodWord)
def wsX5_set_r1 : List Cond := [Cond.classLink RX5 106 "java/lang/IllegalArgumentException", Cond.initialized "java/lang/IllegalArgumentException", Cond.methodLink RX5 66 yX5_checkBranch, Cond.instanceMethod yX5_checkBranch, Cond.selects RX5 yX5_checkBranch yX5_checkBranch, Cond.initialized RX5, Cond.code yX5_checkBranch cX5_checkBranch 2 none, Cond.classLink RX5 76 "java/lang/IndexOutOfBoundsException", Cond.initialized "java/lang/IndexOutOfBoundsException", Cond.fieldLink RX5 52 "Slidewarden" "branchCount" "I", Cond.methodLink RX5 99 yX5_placeInHead, Cond.instanceMethod yX5_placeInHead, Cond.selects RX5 yX5_placeInHead yX5_placeInHead, Cond.code yX5_placeInHead cX5_placeInHead 4 (some .int), Cond.methodLink RX5 69 yX5_headDeck, Cond.instanceMethod yX5_headDeck, Cond.selects RX5 yX5_headDeck yX5_headDeck, Cond.code yX5_headDeck cX5_headDeck 2 (some (.object "Slidewarden$Deck")), Cond.fieldLink RX5 11 "Slidewarden" "versions" "[LSlidewarden$Version;", Cond.fieldLink RX5 15 "Slidewarden" "heads" "[I", Cond.fieldLink RX5 130 "Slidewarden$Version" "deck" "LSlidewarden$Deck;", Cond.methodLink RX5 274 yX0_placeOf, Cond.instanceMethod yX0_placeOf, Cond.selects RX0 yX0_placeOf yX0_placeOf]
def wsX5_set_r2 : List Cond := [Cond.initialized RX0, Cond.code yX0_placeOf cX0_placeOf 3 (some .int), Cond.fieldLink RX0 18 "Slidewarden$Deck" "size" "I", Cond.fieldLink RX0 9 "Slidewarden$Deck" "slides" "[I", Cond.methodLink RX5 103 yX5_checkObject, Cond.static yX5_checkObject, Cond.code yX5_checkObject cX5_checkObject 1 none, Cond.methodLink RX5 88 yX5_checkRoomForVersion, Cond.instanceMethod yX5_checkRoomForVersion, Cond.selects RX5 yX5_checkRoomForVersion yX5_checkRoomForVersion, Cond.code yX5_checkRoomForVersion cX5_checkRoomForVersion 1 none, Cond.classLink RX5 59 "java/lang/IllegalStateException", Cond.initialized "java/lang/IllegalStateException", Cond.fieldLink RX5 48 "Slidewarden" "versionCount" "I", Cond.methodLink RX5 91 yX5_makeVersion, Cond.instanceMethod yX5_makeVersion, Cond.selects RX5 yX5_makeVersion yX5_makeVersion, Cond.code yX5_makeVersion cX5_makeVersion 6 (some (.object "Slidewarden$Deck")), Cond.fieldLink RX5 121 "Slidewarden$Version" "madeOn" "I", Cond.fieldLink RX5 124 "Slidewarden$Version" "cameFrom" "I", Cond.fieldLink RX5 127 "Slidewarden$Version" "mergedFrom" "I", Cond.fieldLink RX5 44 "Slidewarden$Version" "ancestors" "J", Cond.methodLink RX5 191 yX0_copyFrom, Cond.instanceMethod yX0_copyFrom]
def wsX5_set_r3 : List Cond := [Cond.selects RX0 yX0_copyFrom yX0_copyFrom, Cond.code yX0_copyFrom cX0_copyFrom 2 none, Cond.methodLink RX0 38 arraycopyName, Cond.native arraycopyName, Cond.static arraycopyName, Cond.initialized "java/lang/System", Cond.fieldLink RX0 15 "Slidewarden$Deck" "values" "[I", Cond.methodLink RX5 111 yX0_valueAt, Cond.instanceMethod yX0_valueAt, Cond.selects RX0 yX0_valueAt yX0_valueAt, Cond.code yX0_valueAt cX0_valueAt 3 (some .int), Cond.methodLink RX5 114 yX0_put, Cond.instanceMethod yX0_put, Cond.selects RX0 yX0_put yX0_put, Cond.code yX0_put cX0_put 4 none]
def wsX5_set : List Cond := .code yX5_set cX5_set 8 (some .int) :: ((wsX5_set_r1 ++ (wsX5_set_r2 ++ wsX5_set_r3)) ++ wsX50 ++ wsX30 ++ wsX00 ++ (vx_atS RX5 110 "java/lang/IllegalArgumentException" ["java/lang/RuntimeException", "java/lang/Exception"]).filter goodWord ++ (vx_atS RX5 80 "java/lang/IndexOutOfBoundsException" ["java/lang/RuntimeException", "java/lang/Exception"]).filter goodWord ++ (vx_atS RX5 63 "java/lang/IllegalStateException" ["java/lang/RuntimeException", "java/lang/Exception"]).filter goodWord)
def wsX5_drop_r1 : List Cond := [Cond.fieldLink RX5 15 "Slidewarden" "heads" "[I", Cond.methodLink RX5 66 yX5_checkBranch, Cond.instanceMethod yX5_checkBranch, Cond.selects RX5 yX5_checkBranch yX5_checkBranch, Cond.initialized RX5, Cond.code yX5_checkBranch cX5_checkBranch 2 none, Cond.classLink RX5 76 "java/lang/IndexOutOfBoundsException", Cond.initialized "java/lang/IndexOutOfBoundsException", Cond.fieldLink RX5 52 "Slidewarden" "branchCount" "I", Cond.methodLink RX5 99 yX5_placeInHead, Cond.instanceMethod yX5_placeInHead, Cond.selects RX5 yX5_placeInHead yX5_placeInHead, Cond.code yX5_placeInHead cX5_placeInHead 4 (some .int), Cond.methodLink RX5 69 yX5_headDeck, Cond.instanceMethod yX5_headDeck, Cond.selects RX5 yX5_headDeck yX5_headDeck, Cond.code yX5_headDeck cX5_headDeck 2 (some (.object "Slidewarden$Deck")), Cond.fieldLink RX5 11 "Slidewarden" "versions" "[LSlidewarden$Version;", Cond.fieldLink RX5 130 "Slidewarden$Version" "deck" "LSlidewarden$Deck;", Cond.methodLink RX5 274 yX0_placeOf, Cond.instanceMethod yX0_placeOf, Cond.selects RX0 yX0_placeOf yX0_placeOf, Cond.initialized RX0, Cond.code yX0_placeOf cX0_placeOf 3 (some .int)]
def wsX5_drop_r2 : List Cond := [Cond.fieldLink RX0 18 "Slidewarden$Deck" "size" "I", Cond.fieldLink RX0 9 "Slidewarden$Deck" "slides" "[I", Cond.methodLink RX5 88 yX5_checkRoomForVersion, Cond.instanceMethod yX5_checkRoomForVersion, Cond.selects RX5 yX5_checkRoomForVersion yX5_checkRoomForVersion, Cond.code yX5_checkRoomForVersion cX5_checkRoomForVersion 1 none, Cond.classLink RX5 59 "java/lang/IllegalStateException", Cond.initialized "java/lang/IllegalStateException", Cond.fieldLink RX5 48 "Slidewarden" "versionCount" "I", Cond.methodLink RX5 91 yX5_makeVersion, Cond.instanceMethod yX5_makeVersion, Cond.selects RX5 yX5_makeVersion yX5_makeVersion, Cond.code yX5_makeVersion cX5_makeVersion 6 (some (.object "Slidewarden$Deck")), Cond.fieldLink RX5 121 "Slidewarden$Version" "madeOn" "I", Cond.fieldLink RX5 124 "Slidewarden$Version" "cameFrom" "I", Cond.fieldLink RX5 127 "Slidewarden$Version" "mergedFrom" "I", Cond.fieldLink RX5 44 "Slidewarden$Version" "ancestors" "J", Cond.methodLink RX5 191 yX0_copyFrom, Cond.instanceMethod yX0_copyFrom, Cond.selects RX0 yX0_copyFrom yX0_copyFrom, Cond.code yX0_copyFrom cX0_copyFrom 2 none, Cond.methodLink RX0 38 arraycopyName, Cond.native arraycopyName, Cond.static arraycopyName]
def wsX5_drop_r3 : List Cond := [Cond.initialized "java/lang/System", Cond.fieldLink RX0 15 "Slidewarden$Deck" "values" "[I", Cond.methodLink RX5 118 yX0_removeAt, Cond.instanceMethod yX0_removeAt, Cond.selects RX0 yX0_removeAt yX0_removeAt, Cond.code yX0_removeAt cX0_removeAt 3 none, Cond.methodLink RX0 30 yX0_move, Cond.instanceMethod yX0_move, Cond.selects RX0 yX0_move yX0_move, Cond.code yX0_move cX0_move 4 none, Cond.methodLink RX0 26 yX0_valueAt, Cond.instanceMethod yX0_valueAt, Cond.selects RX0 yX0_valueAt yX0_valueAt, Cond.code yX0_valueAt cX0_valueAt 3 (some .int), Cond.methodLink RX0 34 yX0_put, Cond.instanceMethod yX0_put, Cond.selects RX0 yX0_put yX0_put, Cond.code yX0_put cX0_put 4 none]
def wsX5_drop : List Cond := .code yX5_drop cX5_drop 4 (some .int) :: ((wsX5_drop_r1 ++ (wsX5_drop_r2 ++ wsX5_drop_r3)) ++ wsX50 ++ wsX30 ++ wsX00 ++ (vx_atS RX5 80 "java/lang/IndexOutOfBoundsException" ["java/lang/RuntimeException", "java/lang/Exception"]).filter goodWord ++ (vx_atS RX5 63 "java/lang/IllegalStateException" ["java/lang/RuntimeException", "java/lang/Exception"]).filter goodWord)
def wsX5_head : List Cond := .code yX5_head cX5_head 2 (some .int) :: ([.fieldLink RX5 15 "Slidewarden" "heads" "[I", .methodLink RX5 66 yX5_checkBranch, .instanceMethod yX5_checkBranch, .selects RX5 yX5_checkBranch yX5_checkBranch, .initialized RX5, .code yX5_checkBranch cX5_checkBranch 2 none, .classLink RX5 76 "java/lang/IndexOutOfBoundsException", .initialized "java/lang/IndexOutOfBoundsException", .fieldLink RX5 52 "Slidewarden" "branchCount" "I"] ++ wsX50 ++ (vx_atS RX5 80 "java/lang/IndexOutOfBoundsException" ["java/lang/RuntimeException", "java/lang/Exception"]).filter goodWord)
def wsJ13_bitCount_95d88 : List Cond := .code yJ13_bitCount_95d88 cJ13_bitCount_95d88 2 (some .int) :: ([.constantLong RJ13 314 (6148914691236517205), .constantLong RJ13 316 (3689348814741910323), .constantLong RJ13 318 (1085102592571150095)])
def wsX5_about : List Cond := .code yX5_about cX5_about 4 (some .int) :: ([.classLink RX5 106 "java/lang/IllegalArgumentException", .initialized "java/lang/IllegalArgumentException", .fieldLink RX5 11 "Slidewarden" "versions" "[LSlidewarden$Version;", .fieldLink RX5 121 "Slidewarden$Version" "madeOn" "I", .fieldLink RX5 124 "Slidewarden$Version" "cameFrom" "I", .fieldLink RX5 127 "Slidewarden$Version" "mergedFrom" "I", .fieldLink RX5 130 "Slidewarden$Version" "deck" "LSlidewarden$Deck;", .fieldLink RX5 73 "Slidewarden$Deck" "size" "I", .fieldLink RX5 44 "Slidewarden$Version" "ancestors" "J", .methodLink RX5 55 yX5_checkVersion, .instanceMethod yX5_checkVersion, .selects RX5 yX5_checkVersion yX5_checkVersion, .initialized RX5, .code yX5_checkVersion cX5_checkVersion 2 none, .classLink RX5 76 "java/lang/IndexOutOfBoundsException", .initialized "java/lang/IndexOutOfBoundsException", .fieldLink RX5 48 "Slidewarden" "versionCount" "I", .methodLink RX5 133 yJ13_bitCount_95d88, .static yJ13_bitCount_95d88, .initialized RJ13, .code yJ13_bitCount_95d88 cJ13_bitCount_95d88 2 (some .int), .constantLong RJ13 314 (6148914691236517205), .constantLong RJ13 316 (3689348814741910323), .constantLong RJ13 318 (1085102592571150095)] ++ wsX50 ++ wsX30 ++ wsX00 ++ (vx_atS RX5 110 "java/lang/IllegalArgumentException" ["java/lang/RuntimeException", "java/lang/Exception"]).filter goodWord ++ (vx_atS RX5 80 "java/lang/IndexOutOfBoundsException" ["java/lang/RuntimeException", "java/lang/Exception"]).filter goodWord)
def wsX5_checkSlide : List Cond := .code yX5_checkSlide cX5_checkSlide 2 none :: ([.classLink RX5 76 "java/lang/IndexOutOfBoundsException", .initialized "java/lang/IndexOutOfBoundsException", .fieldLink RX5 83 "Slidewarden" "slideCount" "I"] ++ wsX50 ++ (vx_atS RX5 80 "java/lang/IndexOutOfBoundsException" ["java/lang/RuntimeException", "java/lang/Exception"]).filter goodWord)
def wsX5_value_r1 : List Cond := [Cond.fieldLink RX5 11 "Slidewarden" "versions" "[LSlidewarden$Version;", Cond.fieldLink RX5 130 "Slidewarden$Version" "deck" "LSlidewarden$Deck;", Cond.methodLink RX5 55 yX5_checkVersion, Cond.instanceMethod yX5_checkVersion, Cond.selects RX5 yX5_checkVersion yX5_checkVersion, Cond.initialized RX5, Cond.code yX5_checkVersion cX5_checkVersion 2 none, Cond.classLink RX5 76 "java/lang/IndexOutOfBoundsException", Cond.initialized "java/lang/IndexOutOfBoundsException", Cond.fieldLink RX5 48 "Slidewarden" "versionCount" "I", Cond.methodLink RX5 141 yX5_checkSlide, Cond.instanceMethod yX5_checkSlide, Cond.selects RX5 yX5_checkSlide yX5_checkSlide, Cond.code yX5_checkSlide cX5_checkSlide 2 none, Cond.fieldLink RX5 83 "Slidewarden" "slideCount" "I", Cond.methodLink RX5 103 yX5_checkObject, Cond.static yX5_checkObject, Cond.code yX5_checkObject cX5_checkObject 1 none, Cond.methodLink RX5 144 yX0_valueOf, Cond.instanceMethod yX0_valueOf, Cond.selects RX0 yX0_valueOf yX0_valueOf, Cond.initialized RX0, Cond.code yX0_valueOf cX0_valueOf 4 (some .int), Cond.methodLink RX0 22 yX0_placeOf]
def wsX5_value_r2 : List Cond := [Cond.instanceMethod yX0_placeOf, Cond.selects RX0 yX0_placeOf yX0_placeOf, Cond.code yX0_placeOf cX0_placeOf 3 (some .int), Cond.fieldLink RX0 18 "Slidewarden$Deck" "size" "I", Cond.fieldLink RX0 9 "Slidewarden$Deck" "slides" "[I", Cond.methodLink RX0 26 yX0_valueAt, Cond.instanceMethod yX0_valueAt, Cond.selects RX0 yX0_valueAt yX0_valueAt, Cond.code yX0_valueAt cX0_valueAt 3 (some .int), Cond.fieldLink RX0 15 "Slidewarden$Deck" "values" "[I"]
def wsX5_value : List Cond := .code yX5_value cX5_value 4 (some .int) :: ((wsX5_value_r1 ++ wsX5_value_r2) ++ wsX50 ++ wsX30 ++ wsX00 ++ (vx_atS RX5 80 "java/lang/IndexOutOfBoundsException" ["java/lang/RuntimeException", "java/lang/Exception"]).filter goodWord)
def wsX5_slideAt : List Cond := .code yX5_slideAt cX5_slideAt 4 (some .int) :: ([.classLink RX5 76 "java/lang/IndexOutOfBoundsException", .initialized "java/lang/IndexOutOfBoundsException", .fieldLink RX5 11 "Slidewarden" "versions" "[LSlidewarden$Version;", .fieldLink RX5 130 "Slidewarden$Version" "deck" "LSlidewarden$Deck;", .fieldLink RX5 73 "Slidewarden$Deck" "size" "I", .fieldLink RX5 149 "Slidewarden$Deck" "slides" "[I", .methodLink RX5 55 yX5_checkVersion, .instanceMethod yX5_checkVersion, .selects RX5 yX5_checkVersion yX5_checkVersion, .initialized RX5, .code yX5_checkVersion cX5_checkVersion 2 none, .fieldLink RX5 48 "Slidewarden" "versionCount" "I"] ++ wsX50 ++ wsX30 ++ wsX00 ++ (vx_atS RX5 80 "java/lang/IndexOutOfBoundsException" ["java/lang/RuntimeException", "java/lang/Exception"]).filter goodWord)
def wsX5_checkDifferent : List Cond := .code yX5_checkDifferent cX5_checkDifferent 2 none :: ([.classLink RX5 106 "java/lang/IllegalArgumentException", .initialized "java/lang/IllegalArgumentException"] ++ (vx_atS RX5 110 "java/lang/IllegalArgumentException" ["java/lang/RuntimeException", "java/lang/Exception"]).filter goodWord)
def wsX5_baseOf : List Cond := .code yX5_baseOf cX5_baseOf 6 (some .int) :: ([.fieldLink RX5 11 "Slidewarden" "versions" "[LSlidewarden$Version;", .fieldLink RX5 15 "Slidewarden" "heads" "[I", .fieldLink RX5 44 "Slidewarden$Version" "ancestors" "J", .fieldLink RX5 48 "Slidewarden" "versionCount" "I"] ++ wsX50 ++ wsX30)
def wsX5_base : List Cond := .code yX5_base cX5_base 3 (some .int) :: ([.methodLink RX5 66 yX5_checkBranch, .instanceMethod yX5_checkBranch, .selects RX5 yX5_checkBranch yX5_checkBranch, .initialized RX5, .code yX5_checkBranch cX5_checkBranch 2 none, .classLink RX5 76 "java/lang/IndexOutOfBoundsException", .initialized "java/lang/IndexOutOfBoundsException", .fieldLink RX5 52 "Slidewarden" "branchCount" "I", .methodLink RX5 152 yX5_checkDifferent, .static yX5_checkDifferent, .code yX5_checkDifferent cX5_checkDifferent 2 none, .classLink RX5 106 "java/lang/IllegalArgumentException", .initialized "java/lang/IllegalArgumentException", .methodLink RX5 155 yX5_baseOf, .instanceMethod yX5_baseOf, .selects RX5 yX5_baseOf yX5_baseOf, .code yX5_baseOf cX5_baseOf 6 (some .int), .fieldLink RX5 11 "Slidewarden" "versions" "[LSlidewarden$Version;", .fieldLink RX5 15 "Slidewarden" "heads" "[I", .fieldLink RX5 44 "Slidewarden$Version" "ancestors" "J", .fieldLink RX5 48 "Slidewarden" "versionCount" "I"] ++ wsX50 ++ wsX30 ++ (vx_atS RX5 80 "java/lang/IndexOutOfBoundsException" ["java/lang/RuntimeException", "java/lang/Exception"]).filter goodWord ++ (vx_atS RX5 110 "java/lang/IllegalArgumentException" ["java/lang/RuntimeException", "java/lang/Exception"]).filter goodWord)
def wsX5_mergeOf_r1 : List Cond := [Cond.classLink RX5 163 RX1, Cond.instantiable RX1 3, Cond.initialized RX1, Cond.fieldLink RX5 11 "Slidewarden" "versions" "[LSlidewarden$Version;", Cond.fieldLink RX5 130 "Slidewarden$Version" "deck" "LSlidewarden$Deck;", Cond.methodLink RX5 155 yX5_baseOf, Cond.instanceMethod yX5_baseOf, Cond.selects RX5 yX5_baseOf yX5_baseOf, Cond.initialized RX5, Cond.code yX5_baseOf cX5_baseOf 6 (some .int), Cond.fieldLink RX5 15 "Slidewarden" "heads" "[I", Cond.fieldLink RX5 44 "Slidewarden$Version" "ancestors" "J", Cond.fieldLink RX5 48 "Slidewarden" "versionCount" "I", Cond.methodLink RX5 69 yX5_headDeck, Cond.instanceMethod yX5_headDeck, Cond.selects RX5 yX5_headDeck yX5_headDeck, Cond.code yX5_headDeck cX5_headDeck 2 (some (.object "Slidewarden$Deck")), Cond.methodLink RX5 279 yX1_init, Cond.instanceMethod yX1_init, Cond.code yX1_init cX1_init 4 none, Cond.methodLink RX1 3 objectInit, Cond.instanceMethod objectInit, Cond.code objectInit ⟨#[0xb1]⟩ 1 none, Cond.fieldLink RX1 9 "Slidewarden$Merge" "old" "LSlidewarden$Deck;"]
def wsX5_mergeOf_r2 : List Cond := [Cond.fieldLink RX1 15 "Slidewarden$Merge" "ours" "LSlidewarden$Deck;", Cond.fieldLink RX1 18 "Slidewarden$Merge" "theirs" "LSlidewarden$Deck;"]
def wsX5_mergeOf : List Cond := .code yX5_mergeOf cX5_mergeOf 3 (some (.object "Slidewarden$Merge")) :: ((wsX5_mergeOf_r1 ++ wsX5_mergeOf_r2) ++ wsX10 ++ wsX50 ++ wsX30)
def wsX5_clashes_r1 : List Cond := [Cond.fieldLink RX5 83 "Slidewarden" "slideCount" "I", Cond.methodLink RX5 66 yX5_checkBranch, Cond.instanceMethod yX5_checkBranch, Cond.selects RX5 yX5_checkBranch yX5_checkBranch, Cond.initialized RX5, Cond.code yX5_checkBranch cX5_checkBranch 2 none, Cond.classLink RX5 76 "java/lang/IndexOutOfBoundsException", Cond.initialized "java/lang/IndexOutOfBoundsException", Cond.fieldLink RX5 52 "Slidewarden" "branchCount" "I", Cond.methodLink RX5 152 yX5_checkDifferent, Cond.static yX5_checkDifferent, Cond.code yX5_checkDifferent cX5_checkDifferent 2 none, Cond.classLink RX5 106 "java/lang/IllegalArgumentException", Cond.initialized "java/lang/IllegalArgumentException", Cond.methodLink RX5 158 yX5_mergeOf, Cond.instanceMethod yX5_mergeOf, Cond.selects RX5 yX5_mergeOf yX5_mergeOf, Cond.code yX5_mergeOf cX5_mergeOf 3 (some (.object "Slidewarden$Merge")), Cond.classLink RX5 163 RX1, Cond.instantiable RX1 3, Cond.initialized RX1, Cond.fieldLink RX5 11 "Slidewarden" "versions" "[LSlidewarden$Version;", Cond.fieldLink RX5 130 "Slidewarden$Version" "deck" "LSlidewarden$Deck;", Cond.methodLink RX5 155 yX5_baseOf]
def wsX5_clashes_r2 : List Cond := [Cond.instanceMethod yX5_baseOf, Cond.selects RX5 yX5_baseOf yX5_baseOf, Cond.code yX5_baseOf cX5_baseOf 6 (some .int), Cond.fieldLink RX5 15 "Slidewarden" "heads" "[I", Cond.fieldLink RX5 44 "Slidewarden$Version" "ancestors" "J", Cond.fieldLink RX5 48 "Slidewarden" "versionCount" "I", Cond.methodLink RX5 69 yX5_headDeck, Cond.instanceMethod yX5_headDeck, Cond.selects RX5 yX5_headDeck yX5_headDeck, Cond.code yX5_headDeck cX5_headDeck 2 (some (.object "Slidewarden$Deck")), Cond.methodLink RX5 279 yX1_init, Cond.instanceMethod yX1_init, Cond.code yX1_init cX1_init 4 none, Cond.methodLink RX1 3 objectInit, Cond.instanceMethod objectInit, Cond.code objectInit ⟨#[0xb1]⟩ 1 none, Cond.fieldLink RX1 9 "Slidewarden$Merge" "old" "LSlidewarden$Deck;", Cond.fieldLink RX1 15 "Slidewarden$Merge" "ours" "LSlidewarden$Deck;", Cond.fieldLink RX1 18 "Slidewarden$Merge" "theirs" "LSlidewarden$Deck;", Cond.methodLink RX5 162 yX1_countClashes, Cond.instanceMethod yX1_countClashes, Cond.selects RX1 yX1_countClashes yX1_countClashes, Cond.code yX1_countClashes cX1_countClashes 5 (some .int), Cond.methodLink RX1 21 yX1_isSlideClash]
def wsX5_clashes_r3 : List Cond := [Cond.instanceMethod yX1_isSlideClash, Cond.selects RX1 yX1_isSlideClash yX1_isSlideClash, Cond.code yX1_isSlideClash cX1_isSlideClash 3 (some .boolean), Cond.methodLink RX1 36 yX0_has, Cond.instanceMethod yX0_has, Cond.selects RX0 yX0_has yX0_has, Cond.initialized RX0, Cond.code yX0_has cX0_has 2 (some .boolean), Cond.methodLink RX0 22 yX0_placeOf, Cond.instanceMethod yX0_placeOf, Cond.selects RX0 yX0_placeOf yX0_placeOf, Cond.code yX0_placeOf cX0_placeOf 3 (some .int), Cond.fieldLink RX0 18 "Slidewarden$Deck" "size" "I", Cond.fieldLink RX0 9 "Slidewarden$Deck" "slides" "[I", Cond.methodLink RX1 65 yX0_isAlike, Cond.instanceMethod yX0_isAlike, Cond.selects RX0 yX0_isAlike yX0_isAlike, Cond.code yX0_isAlike cX0_isAlike 6 (some .boolean), Cond.methodLink RX0 26 yX0_valueAt, Cond.instanceMethod yX0_valueAt, Cond.selects RX0 yX0_valueAt yX0_valueAt, Cond.code yX0_valueAt cX0_valueAt 3 (some .int), Cond.fieldLink RX0 15 "Slidewarden$Deck" "values" "[I", Cond.methodLink RX1 25 yX1_isObjectClash]
def wsX5_clashes_r4 : List Cond := [Cond.instanceMethod yX1_isObjectClash, Cond.selects RX1 yX1_isObjectClash yX1_isObjectClash, Cond.code yX1_isObjectClash cX1_isObjectClash 6 (some .boolean), Cond.methodLink RX1 41 yX0_valueOf, Cond.instanceMethod yX0_valueOf, Cond.selects RX0 yX0_valueOf yX0_valueOf, Cond.code yX0_valueOf cX0_valueOf 4 (some .int)]
def wsX5_clashes : List Cond := .code yX5_clashes cX5_clashes 3 (some .int) :: ((wsX5_clashes_r1 ++ (wsX5_clashes_r2 ++ (wsX5_clashes_r3 ++ wsX5_clashes_r4))) ++ wsX50 ++ wsX10 ++ wsX30 ++ wsX00 ++ (vx_atS RX5 80 "java/lang/IndexOutOfBoundsException" ["java/lang/RuntimeException", "java/lang/Exception"]).filter goodWord ++ (vx_atS RX5 110 "java/lang/IllegalArgumentException" ["java/lang/RuntimeException", "java/lang/Exception"]).filter goodWord)
def wsX5_merged_r1 : List Cond := [Cond.classLink RX5 106 "java/lang/IllegalArgumentException", Cond.initialized "java/lang/IllegalArgumentException", Cond.methodLink RX5 66 yX5_checkBranch, Cond.instanceMethod yX5_checkBranch, Cond.selects RX5 yX5_checkBranch yX5_checkBranch, Cond.initialized RX5, Cond.code yX5_checkBranch cX5_checkBranch 2 none, Cond.classLink RX5 76 "java/lang/IndexOutOfBoundsException", Cond.initialized "java/lang/IndexOutOfBoundsException", Cond.fieldLink RX5 52 "Slidewarden" "branchCount" "I", Cond.methodLink RX5 141 yX5_checkSlide, Cond.instanceMethod yX5_checkSlide, Cond.selects RX5 yX5_checkSlide yX5_checkSlide, Cond.code yX5_checkSlide cX5_checkSlide 2 none, Cond.fieldLink RX5 83 "Slidewarden" "slideCount" "I", Cond.methodLink RX5 103 yX5_checkObject, Cond.static yX5_checkObject, Cond.code yX5_checkObject cX5_checkObject 1 none, Cond.methodLink RX5 152 yX5_checkDifferent, Cond.static yX5_checkDifferent, Cond.code yX5_checkDifferent cX5_checkDifferent 2 none, Cond.methodLink RX5 158 yX5_mergeOf, Cond.instanceMethod yX5_mergeOf, Cond.selects RX5 yX5_mergeOf yX5_mergeOf]
def wsX5_merged_r2 : List Cond := [Cond.code yX5_mergeOf cX5_mergeOf 3 (some (.object "Slidewarden$Merge")), Cond.classLink RX5 163 RX1, Cond.instantiable RX1 3, Cond.initialized RX1, Cond.fieldLink RX5 11 "Slidewarden" "versions" "[LSlidewarden$Version;", Cond.fieldLink RX5 130 "Slidewarden$Version" "deck" "LSlidewarden$Deck;", Cond.methodLink RX5 155 yX5_baseOf, Cond.instanceMethod yX5_baseOf, Cond.selects RX5 yX5_baseOf yX5_baseOf, Cond.code yX5_baseOf cX5_baseOf 6 (some .int), Cond.fieldLink RX5 15 "Slidewarden" "heads" "[I", Cond.fieldLink RX5 44 "Slidewarden$Version" "ancestors" "J", Cond.fieldLink RX5 48 "Slidewarden" "versionCount" "I", Cond.methodLink RX5 69 yX5_headDeck, Cond.instanceMethod yX5_headDeck, Cond.selects RX5 yX5_headDeck yX5_headDeck, Cond.code yX5_headDeck cX5_headDeck 2 (some (.object "Slidewarden$Deck")), Cond.methodLink RX5 279 yX1_init, Cond.instanceMethod yX1_init, Cond.code yX1_init cX1_init 4 none, Cond.methodLink RX1 3 objectInit, Cond.instanceMethod objectInit, Cond.code objectInit ⟨#[0xb1]⟩ 1 none, Cond.fieldLink RX1 9 "Slidewarden$Merge" "old" "LSlidewarden$Deck;"]
def wsX5_merged_r3 : List Cond := [Cond.fieldLink RX1 15 "Slidewarden$Merge" "ours" "LSlidewarden$Deck;", Cond.fieldLink RX1 18 "Slidewarden$Merge" "theirs" "LSlidewarden$Deck;", Cond.methodLink RX5 170 yX1_resultOf, Cond.instanceMethod yX1_resultOf, Cond.selects RX1 yX1_resultOf yX1_resultOf, Cond.code yX1_resultOf cX1_resultOf 4 (some .int), Cond.methodLink RX1 29 yX1_isKept, Cond.instanceMethod yX1_isKept, Cond.selects RX1 yX1_isKept yX1_isKept, Cond.code yX1_isKept cX1_isKept 5 (some .boolean), Cond.methodLink RX1 36 yX0_has, Cond.instanceMethod yX0_has, Cond.selects RX0 yX0_has yX0_has, Cond.initialized RX0, Cond.code yX0_has cX0_has 2 (some .boolean), Cond.methodLink RX0 22 yX0_placeOf, Cond.instanceMethod yX0_placeOf, Cond.selects RX0 yX0_placeOf yX0_placeOf, Cond.code yX0_placeOf cX0_placeOf 3 (some .int), Cond.fieldLink RX0 18 "Slidewarden$Deck" "size" "I", Cond.fieldLink RX0 9 "Slidewarden$Deck" "slides" "[I", Cond.methodLink RX1 21 yX1_isSlideClash, Cond.instanceMethod yX1_isSlideClash, Cond.selects RX1 yX1_isSlideClash yX1_isSlideClash]
def wsX5_merged_r4 : List Cond := [Cond.code yX1_isSlideClash cX1_isSlideClash 3 (some .boolean), Cond.methodLink RX1 65 yX0_isAlike, Cond.instanceMethod yX0_isAlike, Cond.selects RX0 yX0_isAlike yX0_isAlike, Cond.code yX0_isAlike cX0_isAlike 6 (some .boolean), Cond.methodLink RX0 26 yX0_valueAt, Cond.instanceMethod yX0_valueAt, Cond.selects RX0 yX0_valueAt yX0_valueAt, Cond.code yX0_valueAt cX0_valueAt 3 (some .int), Cond.fieldLink RX0 15 "Slidewarden$Deck" "values" "[I", Cond.methodLink RX1 32 yX1_keptValue, Cond.instanceMethod yX1_keptValue, Cond.selects RX1 yX1_keptValue yX1_keptValue, Cond.code yX1_keptValue cX1_keptValue 6 (some .int), Cond.methodLink RX1 41 yX0_valueOf, Cond.instanceMethod yX0_valueOf, Cond.selects RX0 yX0_valueOf yX0_valueOf, Cond.code yX0_valueOf cX0_valueOf 4 (some .int), Cond.methodLink RX1 25 yX1_isObjectClash, Cond.instanceMethod yX1_isObjectClash, Cond.selects RX1 yX1_isObjectClash yX1_isObjectClash, Cond.code yX1_isObjectClash cX1_isObjectClash 6 (some .boolean)]
def wsX5_merged : List Cond := .code yX5_merged cX5_merged 6 (some .int) :: ((wsX5_merged_r1 ++ (wsX5_merged_r2 ++ (wsX5_merged_r3 ++ wsX5_merged_r4))) ++ wsX50 ++ wsX10 ++ wsX30 ++ wsX00 ++ (vx_atS RX5 110 "java/lang/IllegalArgumentException" ["java/lang/RuntimeException", "java/lang/Exception"]).filter goodWord ++ (vx_atS RX5 80 "java/lang/IndexOutOfBoundsException" ["java/lang/RuntimeException", "java/lang/Exception"]).filter goodWord)
def wsX5_isWaived : List Cond := .code yX5_isWaived cX5_isWaived 5 (some .boolean) :: ([.fieldLink RX5 232 "Slidewarden" "waiverCount" "I", .fieldLink RX5 30 "Slidewarden" "waivers" "[LSlidewarden$Waiver;", .fieldLink RX5 237 "Slidewarden$Waiver" "rule" "I", .fieldLink RX5 240 "Slidewarden$Waiver" "slide" "I", .fieldLink RX5 243 "Slidewarden$Waiver" "until" "I", .fieldLink RX5 225 "Slidewarden" "day" "I"] ++ wsX50 ++ wsX40)
def wsX5_isBlocking : List Cond := .code yX5_isBlocking cX5_isBlocking 4 (some .boolean) :: ([.fieldLink RX5 24 "Slidewarden" "rules" "[LSlidewarden$Rule;", .fieldLink RX5 204 "Slidewarden$Rule" "rank" "I", .methodLink RX5 286 yX5_isWaived, .instanceMethod yX5_isWaived, .selects RX5 yX5_isWaived yX5_isWaived, .initialized RX5, .code yX5_isWaived cX5_isWaived 5 (some .boolean), .fieldLink RX5 232 "Slidewarden" "waiverCount" "I", .fieldLink RX5 30 "Slidewarden" "waivers" "[LSlidewarden$Waiver;", .fieldLink RX5 237 "Slidewarden$Waiver" "rule" "I", .fieldLink RX5 240 "Slidewarden$Waiver" "slide" "I", .fieldLink RX5 243 "Slidewarden$Waiver" "until" "I", .fieldLink RX5 225 "Slidewarden" "day" "I"] ++ wsX50 ++ wsX20 ++ wsX40)
def wsX5_countBlocksAt_r1 : List Cond := [Cond.fieldLink RX5 199 "Slidewarden" "ruleCount" "I", Cond.fieldLink RX5 24 "Slidewarden" "rules" "[LSlidewarden$Rule;", Cond.fieldLink RX5 149 "Slidewarden$Deck" "slides" "[I", Cond.methodLink RX5 246 yX2_isBrokenAt, Cond.instanceMethod yX2_isBrokenAt, Cond.selects RX2 yX2_isBrokenAt yX2_isBrokenAt, Cond.initialized RX2, Cond.code yX2_isBrokenAt cX2_isBrokenAt 4 (some .boolean), Cond.fieldLink RX2 7 "Slidewarden$Rule" "object" "I", Cond.fieldLink RX2 19 "Slidewarden$Rule" "least" "I", Cond.fieldLink RX2 22 "Slidewarden$Rule" "most" "I", Cond.methodLink RX2 13 yX0_valueAt, Cond.instanceMethod yX0_valueAt, Cond.selects RX0 yX0_valueAt yX0_valueAt, Cond.initialized RX0, Cond.code yX0_valueAt cX0_valueAt 3 (some .int), Cond.fieldLink RX0 15 "Slidewarden$Deck" "values" "[I", Cond.methodLink RX5 282 yX5_isBlocking, Cond.instanceMethod yX5_isBlocking, Cond.selects RX5 yX5_isBlocking yX5_isBlocking, Cond.initialized RX5, Cond.code yX5_isBlocking cX5_isBlocking 4 (some .boolean), Cond.fieldLink RX5 204 "Slidewarden$Rule" "rank" "I", Cond.methodLink RX5 286 yX5_isWaived]
def wsX5_countBlocksAt_r2 : List Cond := [Cond.instanceMethod yX5_isWaived, Cond.selects RX5 yX5_isWaived yX5_isWaived, Cond.code yX5_isWaived cX5_isWaived 5 (some .boolean), Cond.fieldLink RX5 232 "Slidewarden" "waiverCount" "I", Cond.fieldLink RX5 30 "Slidewarden" "waivers" "[LSlidewarden$Waiver;", Cond.fieldLink RX5 237 "Slidewarden$Waiver" "rule" "I", Cond.fieldLink RX5 240 "Slidewarden$Waiver" "slide" "I", Cond.fieldLink RX5 243 "Slidewarden$Waiver" "until" "I", Cond.fieldLink RX5 225 "Slidewarden" "day" "I"]
def wsX5_countBlocksAt : List Cond := .code yX5_countBlocksAt cX5_countBlocksAt 5 (some .int) :: ((wsX5_countBlocksAt_r1 ++ wsX5_countBlocksAt_r2) ++ wsX50 ++ wsX00 ++ wsX20 ++ wsX40)
def wsX5_countBlocks_r1 : List Cond := [Cond.fieldLink RX5 73 "Slidewarden$Deck" "size" "I", Cond.methodLink RX5 250 yX5_countBlocksAt, Cond.instanceMethod yX5_countBlocksAt, Cond.selects RX5 yX5_countBlocksAt yX5_countBlocksAt, Cond.initialized RX5, Cond.code yX5_countBlocksAt cX5_countBlocksAt 5 (some .int), Cond.fieldLink RX5 199 "Slidewarden" "ruleCount" "I", Cond.fieldLink RX5 24 "Slidewarden" "rules" "[LSlidewarden$Rule;", Cond.fieldLink RX5 149 "Slidewarden$Deck" "slides" "[I", Cond.methodLink RX5 246 yX2_isBrokenAt, Cond.instanceMethod yX2_isBrokenAt, Cond.selects RX2 yX2_isBrokenAt yX2_isBrokenAt, Cond.initialized RX2, Cond.code yX2_isBrokenAt cX2_isBrokenAt 4 (some .boolean), Cond.fieldLink RX2 7 "Slidewarden$Rule" "object" "I", Cond.fieldLink RX2 19 "Slidewarden$Rule" "least" "I", Cond.fieldLink RX2 22 "Slidewarden$Rule" "most" "I", Cond.methodLink RX2 13 yX0_valueAt, Cond.instanceMethod yX0_valueAt, Cond.selects RX0 yX0_valueAt yX0_valueAt, Cond.initialized RX0, Cond.code yX0_valueAt cX0_valueAt 3 (some .int), Cond.fieldLink RX0 15 "Slidewarden$Deck" "values" "[I", Cond.methodLink RX5 282 yX5_isBlocking]
def wsX5_countBlocks_r2 : List Cond := [Cond.instanceMethod yX5_isBlocking, Cond.selects RX5 yX5_isBlocking yX5_isBlocking, Cond.code yX5_isBlocking cX5_isBlocking 4 (some .boolean), Cond.fieldLink RX5 204 "Slidewarden$Rule" "rank" "I", Cond.methodLink RX5 286 yX5_isWaived, Cond.instanceMethod yX5_isWaived, Cond.selects RX5 yX5_isWaived yX5_isWaived, Cond.code yX5_isWaived cX5_isWaived 5 (some .boolean), Cond.fieldLink RX5 232 "Slidewarden" "waiverCount" "I", Cond.fieldLink RX5 30 "Slidewarden" "waivers" "[LSlidewarden$Waiver;", Cond.fieldLink RX5 237 "Slidewarden$Waiver" "rule" "I", Cond.fieldLink RX5 240 "Slidewarden$Waiver" "slide" "I", Cond.fieldLink RX5 243 "Slidewarden$Waiver" "until" "I", Cond.fieldLink RX5 225 "Slidewarden" "day" "I"]
def wsX5_countBlocks : List Cond := .code yX5_countBlocks cX5_countBlocks 4 (some .int) :: ((wsX5_countBlocks_r1 ++ wsX5_countBlocks_r2) ++ wsX00 ++ wsX50 ++ wsX20 ++ wsX40)
def wsX5_merge_r1 : List Cond := [Cond.classLink RX5 106 "java/lang/IllegalArgumentException", Cond.initialized "java/lang/IllegalArgumentException", Cond.classLink RX5 59 "java/lang/IllegalStateException", Cond.initialized "java/lang/IllegalStateException", Cond.fieldLink RX5 83 "Slidewarden" "slideCount" "I", Cond.fieldLink RX5 37 "Slidewarden" "trial" "LSlidewarden$Deck;", Cond.fieldLink RX5 15 "Slidewarden" "heads" "[I", Cond.methodLink RX5 66 yX5_checkBranch, Cond.instanceMethod yX5_checkBranch, Cond.selects RX5 yX5_checkBranch yX5_checkBranch, Cond.initialized RX5, Cond.code yX5_checkBranch cX5_checkBranch 2 none, Cond.classLink RX5 76 "java/lang/IndexOutOfBoundsException", Cond.initialized "java/lang/IndexOutOfBoundsException", Cond.fieldLink RX5 52 "Slidewarden" "branchCount" "I", Cond.methodLink RX5 152 yX5_checkDifferent, Cond.static yX5_checkDifferent, Cond.code yX5_checkDifferent cX5_checkDifferent 2 none, Cond.methodLink RX5 158 yX5_mergeOf, Cond.instanceMethod yX5_mergeOf, Cond.selects RX5 yX5_mergeOf yX5_mergeOf, Cond.code yX5_mergeOf cX5_mergeOf 3 (some (.object "Slidewarden$Merge")), Cond.classLink RX5 163 RX1, Cond.instantiable RX1 3]
def wsX5_merge_r2 : List Cond := [Cond.initialized RX1, Cond.fieldLink RX5 11 "Slidewarden" "versions" "[LSlidewarden$Version;", Cond.fieldLink RX5 130 "Slidewarden$Version" "deck" "LSlidewarden$Deck;", Cond.methodLink RX5 155 yX5_baseOf, Cond.instanceMethod yX5_baseOf, Cond.selects RX5 yX5_baseOf yX5_baseOf, Cond.code yX5_baseOf cX5_baseOf 6 (some .int), Cond.fieldLink RX5 44 "Slidewarden$Version" "ancestors" "J", Cond.fieldLink RX5 48 "Slidewarden" "versionCount" "I", Cond.methodLink RX5 69 yX5_headDeck, Cond.instanceMethod yX5_headDeck, Cond.selects RX5 yX5_headDeck yX5_headDeck, Cond.code yX5_headDeck cX5_headDeck 2 (some (.object "Slidewarden$Deck")), Cond.methodLink RX5 279 yX1_init, Cond.instanceMethod yX1_init, Cond.code yX1_init cX1_init 4 none, Cond.methodLink RX1 3 objectInit, Cond.instanceMethod objectInit, Cond.code objectInit ⟨#[0xb1]⟩ 1 none, Cond.fieldLink RX1 9 "Slidewarden$Merge" "old" "LSlidewarden$Deck;", Cond.fieldLink RX1 15 "Slidewarden$Merge" "ours" "LSlidewarden$Deck;", Cond.fieldLink RX1 18 "Slidewarden$Merge" "theirs" "LSlidewarden$Deck;", Cond.methodLink RX5 162 yX1_countClashes, Cond.instanceMethod yX1_countClashes]
def wsX5_merge_r3 : List Cond := [Cond.selects RX1 yX1_countClashes yX1_countClashes, Cond.code yX1_countClashes cX1_countClashes 5 (some .int), Cond.methodLink RX1 21 yX1_isSlideClash, Cond.instanceMethod yX1_isSlideClash, Cond.selects RX1 yX1_isSlideClash yX1_isSlideClash, Cond.code yX1_isSlideClash cX1_isSlideClash 3 (some .boolean), Cond.methodLink RX1 36 yX0_has, Cond.instanceMethod yX0_has, Cond.selects RX0 yX0_has yX0_has, Cond.initialized RX0, Cond.code yX0_has cX0_has 2 (some .boolean), Cond.methodLink RX0 22 yX0_placeOf, Cond.instanceMethod yX0_placeOf, Cond.selects RX0 yX0_placeOf yX0_placeOf, Cond.code yX0_placeOf cX0_placeOf 3 (some .int), Cond.fieldLink RX0 18 "Slidewarden$Deck" "size" "I", Cond.fieldLink RX0 9 "Slidewarden$Deck" "slides" "[I", Cond.methodLink RX1 65 yX0_isAlike, Cond.instanceMethod yX0_isAlike, Cond.selects RX0 yX0_isAlike yX0_isAlike, Cond.code yX0_isAlike cX0_isAlike 6 (some .boolean), Cond.methodLink RX0 26 yX0_valueAt, Cond.instanceMethod yX0_valueAt, Cond.selects RX0 yX0_valueAt yX0_valueAt]
def wsX5_merge_r4 : List Cond := [Cond.code yX0_valueAt cX0_valueAt 3 (some .int), Cond.fieldLink RX0 15 "Slidewarden$Deck" "values" "[I", Cond.methodLink RX1 25 yX1_isObjectClash, Cond.instanceMethod yX1_isObjectClash, Cond.selects RX1 yX1_isObjectClash yX1_isObjectClash, Cond.code yX1_isObjectClash cX1_isObjectClash 6 (some .boolean), Cond.methodLink RX1 41 yX0_valueOf, Cond.instanceMethod yX0_valueOf, Cond.selects RX0 yX0_valueOf yX0_valueOf, Cond.code yX0_valueOf cX0_valueOf 4 (some .int), Cond.methodLink RX5 176 yX1_countSlides, Cond.instanceMethod yX1_countSlides, Cond.selects RX1 yX1_countSlides yX1_countSlides, Cond.code yX1_countSlides cX1_countSlides 5 (some .int), Cond.methodLink RX1 29 yX1_isKept, Cond.instanceMethod yX1_isKept, Cond.selects RX1 yX1_isKept yX1_isKept, Cond.code yX1_isKept cX1_isKept 5 (some .boolean), Cond.methodLink RX5 181 yX1_fill, Cond.instanceMethod yX1_fill, Cond.selects RX1 yX1_fill yX1_fill, Cond.code yX1_fill cX1_fill 5 none, Cond.fieldLink RX1 45 "Slidewarden$Deck" "size" "I", Cond.fieldLink RX1 49 "Slidewarden$Deck" "slides" "[I"]
def wsX5_merge_r5 : List Cond := [Cond.methodLink RX1 53 yX1_append, Cond.instanceMethod yX1_append, Cond.selects RX1 yX1_append yX1_append, Cond.code yX1_append cX1_append 6 none, Cond.methodLink RX1 57 yX0_insert, Cond.instanceMethod yX0_insert, Cond.selects RX0 yX0_insert yX0_insert, Cond.code yX0_insert cX0_insert 4 none, Cond.methodLink RX0 30 yX0_move, Cond.instanceMethod yX0_move, Cond.selects RX0 yX0_move yX0_move, Cond.code yX0_move cX0_move 4 none, Cond.methodLink RX0 34 yX0_put, Cond.instanceMethod yX0_put, Cond.selects RX0 yX0_put yX0_put, Cond.code yX0_put cX0_put 4 none, Cond.methodLink RX1 32 yX1_keptValue, Cond.instanceMethod yX1_keptValue, Cond.selects RX1 yX1_keptValue yX1_keptValue, Cond.code yX1_keptValue cX1_keptValue 6 (some .int), Cond.methodLink RX1 61 yX0_put, Cond.methodLink RX5 185 yX5_countBlocks, Cond.instanceMethod yX5_countBlocks, Cond.selects RX5 yX5_countBlocks yX5_countBlocks]
def wsX5_merge_r6 : List Cond := [Cond.code yX5_countBlocks cX5_countBlocks 4 (some .int), Cond.fieldLink RX5 73 "Slidewarden$Deck" "size" "I", Cond.methodLink RX5 250 yX5_countBlocksAt, Cond.instanceMethod yX5_countBlocksAt, Cond.selects RX5 yX5_countBlocksAt yX5_countBlocksAt, Cond.code yX5_countBlocksAt cX5_countBlocksAt 5 (some .int), Cond.fieldLink RX5 199 "Slidewarden" "ruleCount" "I", Cond.fieldLink RX5 24 "Slidewarden" "rules" "[LSlidewarden$Rule;", Cond.fieldLink RX5 149 "Slidewarden$Deck" "slides" "[I", Cond.methodLink RX5 246 yX2_isBrokenAt, Cond.instanceMethod yX2_isBrokenAt, Cond.selects RX2 yX2_isBrokenAt yX2_isBrokenAt, Cond.initialized RX2, Cond.code yX2_isBrokenAt cX2_isBrokenAt 4 (some .boolean), Cond.fieldLink RX2 7 "Slidewarden$Rule" "object" "I", Cond.fieldLink RX2 19 "Slidewarden$Rule" "least" "I", Cond.fieldLink RX2 22 "Slidewarden$Rule" "most" "I", Cond.methodLink RX2 13 yX0_valueAt, Cond.methodLink RX5 282 yX5_isBlocking, Cond.instanceMethod yX5_isBlocking, Cond.selects RX5 yX5_isBlocking yX5_isBlocking, Cond.code yX5_isBlocking cX5_isBlocking 4 (some .boolean), Cond.fieldLink RX5 204 "Slidewarden$Rule" "rank" "I", Cond.methodLink RX5 286 yX5_isWaived]
def wsX5_merge_r7 : List Cond := [Cond.instanceMethod yX5_isWaived, Cond.selects RX5 yX5_isWaived yX5_isWaived, Cond.code yX5_isWaived cX5_isWaived 5 (some .boolean), Cond.fieldLink RX5 232 "Slidewarden" "waiverCount" "I", Cond.fieldLink RX5 30 "Slidewarden" "waivers" "[LSlidewarden$Waiver;", Cond.fieldLink RX5 237 "Slidewarden$Waiver" "rule" "I", Cond.fieldLink RX5 240 "Slidewarden$Waiver" "slide" "I", Cond.fieldLink RX5 243 "Slidewarden$Waiver" "until" "I", Cond.fieldLink RX5 225 "Slidewarden" "day" "I", Cond.methodLink RX5 88 yX5_checkRoomForVersion, Cond.instanceMethod yX5_checkRoomForVersion, Cond.selects RX5 yX5_checkRoomForVersion yX5_checkRoomForVersion, Cond.code yX5_checkRoomForVersion cX5_checkRoomForVersion 1 none, Cond.methodLink RX5 91 yX5_makeVersion, Cond.instanceMethod yX5_makeVersion, Cond.selects RX5 yX5_makeVersion yX5_makeVersion, Cond.code yX5_makeVersion cX5_makeVersion 6 (some (.object "Slidewarden$Deck")), Cond.fieldLink RX5 121 "Slidewarden$Version" "madeOn" "I", Cond.fieldLink RX5 124 "Slidewarden$Version" "cameFrom" "I", Cond.fieldLink RX5 127 "Slidewarden$Version" "mergedFrom" "I", Cond.methodLink RX5 191 yX0_copyFrom, Cond.instanceMethod yX0_copyFrom, Cond.selects RX0 yX0_copyFrom yX0_copyFrom, Cond.code yX0_copyFrom cX0_copyFrom 2 none]
def wsX5_merge_r8 : List Cond := [Cond.methodLink RX0 38 arraycopyName, Cond.native arraycopyName, Cond.static arraycopyName, Cond.initialized "java/lang/System"]
def wsX5_merge : List Cond := .code yX5_merge cX5_merge 5 (some .int) :: ((wsX5_merge_r1 ++ (wsX5_merge_r2 ++ (wsX5_merge_r3 ++ (wsX5_merge_r4 ++ (wsX5_merge_r5 ++ (wsX5_merge_r6 ++ (wsX5_merge_r7 ++ wsX5_merge_r8))))))) ++ wsX50 ++ wsX10 ++ wsX30 ++ wsX00 ++ wsX20 ++ wsX40 ++ (vx_atS RX5 110 "java/lang/IllegalArgumentException" ["java/lang/RuntimeException", "java/lang/Exception"]).filter goodWord ++ (vx_atS RX5 63 "java/lang/IllegalStateException" ["java/lang/RuntimeException", "java/lang/Exception"]).filter goodWord ++ (vx_atS RX5 80 "java/lang/IndexOutOfBoundsException" ["java/lang/RuntimeException", "java/lang/Exception"]).filter goodWord)
def wsX5_rule : List Cond := .code yX5_rule cX5_rule 7 (some .int) :: ([.classLink RX5 76 "java/lang/IndexOutOfBoundsException", .initialized "java/lang/IndexOutOfBoundsException", .classLink RX5 106 "java/lang/IllegalArgumentException", .initialized "java/lang/IllegalArgumentException", .classLink RX5 59 "java/lang/IllegalStateException", .initialized "java/lang/IllegalStateException", .fieldLink RX5 199 "Slidewarden" "ruleCount" "I", .fieldLink RX5 24 "Slidewarden" "rules" "[LSlidewarden$Rule;", .fieldLink RX5 204 "Slidewarden$Rule" "rank" "I", .fieldLink RX5 207 "Slidewarden$Rule" "object" "I", .fieldLink RX5 210 "Slidewarden$Rule" "least" "I", .fieldLink RX5 213 "Slidewarden$Rule" "most" "I", .methodLink RX5 103 yX5_checkObject, .static yX5_checkObject, .initialized RX5, .code yX5_checkObject cX5_checkObject 1 none] ++ wsX50 ++ wsX20 ++ (vx_atS RX5 80 "java/lang/IndexOutOfBoundsException" ["java/lang/RuntimeException", "java/lang/Exception"]).filter goodWord ++ (vx_atS RX5 110 "java/lang/IllegalArgumentException" ["java/lang/RuntimeException", "java/lang/Exception"]).filter goodWord ++ (vx_atS RX5 63 "java/lang/IllegalStateException" ["java/lang/RuntimeException", "java/lang/Exception"]).filter goodWord)
def wsX5_checkRule : List Cond := .code yX5_checkRule cX5_checkRule 2 none :: ([.classLink RX5 76 "java/lang/IndexOutOfBoundsException", .initialized "java/lang/IndexOutOfBoundsException", .fieldLink RX5 199 "Slidewarden" "ruleCount" "I"] ++ wsX50 ++ (vx_atS RX5 80 "java/lang/IndexOutOfBoundsException" ["java/lang/RuntimeException", "java/lang/Exception"]).filter goodWord)
def wsX5_blockedVersions_r1 : List Cond := [Cond.fieldLink RX5 48 "Slidewarden" "versionCount" "I", Cond.fieldLink RX5 11 "Slidewarden" "versions" "[LSlidewarden$Version;", Cond.fieldLink RX5 130 "Slidewarden$Version" "deck" "LSlidewarden$Deck;", Cond.methodLink RX5 185 yX5_countBlocks, Cond.instanceMethod yX5_countBlocks, Cond.selects RX5 yX5_countBlocks yX5_countBlocks, Cond.initialized RX5, Cond.code yX5_countBlocks cX5_countBlocks 4 (some .int), Cond.fieldLink RX5 73 "Slidewarden$Deck" "size" "I", Cond.methodLink RX5 250 yX5_countBlocksAt, Cond.instanceMethod yX5_countBlocksAt, Cond.selects RX5 yX5_countBlocksAt yX5_countBlocksAt, Cond.code yX5_countBlocksAt cX5_countBlocksAt 5 (some .int), Cond.fieldLink RX5 199 "Slidewarden" "ruleCount" "I", Cond.fieldLink RX5 24 "Slidewarden" "rules" "[LSlidewarden$Rule;", Cond.fieldLink RX5 149 "Slidewarden$Deck" "slides" "[I", Cond.methodLink RX5 246 yX2_isBrokenAt, Cond.instanceMethod yX2_isBrokenAt, Cond.selects RX2 yX2_isBrokenAt yX2_isBrokenAt, Cond.initialized RX2, Cond.code yX2_isBrokenAt cX2_isBrokenAt 4 (some .boolean), Cond.fieldLink RX2 7 "Slidewarden$Rule" "object" "I", Cond.fieldLink RX2 19 "Slidewarden$Rule" "least" "I", Cond.fieldLink RX2 22 "Slidewarden$Rule" "most" "I"]
def wsX5_blockedVersions_r2 : List Cond := [Cond.methodLink RX2 13 yX0_valueAt, Cond.instanceMethod yX0_valueAt, Cond.selects RX0 yX0_valueAt yX0_valueAt, Cond.initialized RX0, Cond.code yX0_valueAt cX0_valueAt 3 (some .int), Cond.fieldLink RX0 15 "Slidewarden$Deck" "values" "[I", Cond.methodLink RX5 282 yX5_isBlocking, Cond.instanceMethod yX5_isBlocking, Cond.selects RX5 yX5_isBlocking yX5_isBlocking, Cond.code yX5_isBlocking cX5_isBlocking 4 (some .boolean), Cond.fieldLink RX5 204 "Slidewarden$Rule" "rank" "I", Cond.methodLink RX5 286 yX5_isWaived, Cond.instanceMethod yX5_isWaived, Cond.selects RX5 yX5_isWaived yX5_isWaived, Cond.code yX5_isWaived cX5_isWaived 5 (some .boolean), Cond.fieldLink RX5 232 "Slidewarden" "waiverCount" "I", Cond.fieldLink RX5 30 "Slidewarden" "waivers" "[LSlidewarden$Waiver;", Cond.fieldLink RX5 237 "Slidewarden$Waiver" "rule" "I", Cond.fieldLink RX5 240 "Slidewarden$Waiver" "slide" "I", Cond.fieldLink RX5 243 "Slidewarden$Waiver" "until" "I", Cond.fieldLink RX5 225 "Slidewarden" "day" "I"]
def wsX5_blockedVersions : List Cond := .code yX5_blockedVersions cX5_blockedVersions 4 (some .long) :: ((wsX5_blockedVersions_r1 ++ wsX5_blockedVersions_r2) ++ wsX50 ++ wsX30 ++ wsX00 ++ wsX20 ++ wsX40)
def wsX5_tighten_r1 : List Cond := [Cond.classLink RX5 106 "java/lang/IllegalArgumentException", Cond.initialized "java/lang/IllegalArgumentException", Cond.fieldLink RX5 24 "Slidewarden" "rules" "[LSlidewarden$Rule;", Cond.fieldLink RX5 210 "Slidewarden$Rule" "least" "I", Cond.fieldLink RX5 213 "Slidewarden$Rule" "most" "I", Cond.constantLong RX5 223 (-1), Cond.methodLink RX5 216 yX5_checkRule, Cond.instanceMethod yX5_checkRule, Cond.selects RX5 yX5_checkRule yX5_checkRule, Cond.initialized RX5, Cond.code yX5_checkRule cX5_checkRule 2 none, Cond.classLink RX5 76 "java/lang/IndexOutOfBoundsException", Cond.initialized "java/lang/IndexOutOfBoundsException", Cond.fieldLink RX5 199 "Slidewarden" "ruleCount" "I", Cond.methodLink RX5 219 yX5_blockedVersions, Cond.instanceMethod yX5_blockedVersions, Cond.selects RX5 yX5_blockedVersions yX5_blockedVersions, Cond.code yX5_blockedVersions cX5_blockedVersions 4 (some .long), Cond.fieldLink RX5 48 "Slidewarden" "versionCount" "I", Cond.fieldLink RX5 11 "Slidewarden" "versions" "[LSlidewarden$Version;", Cond.fieldLink RX5 130 "Slidewarden$Version" "deck" "LSlidewarden$Deck;", Cond.methodLink RX5 185 yX5_countBlocks, Cond.instanceMethod yX5_countBlocks, Cond.selects RX5 yX5_countBlocks yX5_countBlocks]
def wsX5_tighten_r2 : List Cond := [Cond.code yX5_countBlocks cX5_countBlocks 4 (some .int), Cond.fieldLink RX5 73 "Slidewarden$Deck" "size" "I", Cond.methodLink RX5 250 yX5_countBlocksAt, Cond.instanceMethod yX5_countBlocksAt, Cond.selects RX5 yX5_countBlocksAt yX5_countBlocksAt, Cond.code yX5_countBlocksAt cX5_countBlocksAt 5 (some .int), Cond.fieldLink RX5 149 "Slidewarden$Deck" "slides" "[I", Cond.methodLink RX5 246 yX2_isBrokenAt, Cond.instanceMethod yX2_isBrokenAt, Cond.selects RX2 yX2_isBrokenAt yX2_isBrokenAt, Cond.initialized RX2, Cond.code yX2_isBrokenAt cX2_isBrokenAt 4 (some .boolean), Cond.fieldLink RX2 7 "Slidewarden$Rule" "object" "I", Cond.fieldLink RX2 19 "Slidewarden$Rule" "least" "I", Cond.fieldLink RX2 22 "Slidewarden$Rule" "most" "I", Cond.methodLink RX2 13 yX0_valueAt, Cond.instanceMethod yX0_valueAt, Cond.selects RX0 yX0_valueAt yX0_valueAt, Cond.initialized RX0, Cond.code yX0_valueAt cX0_valueAt 3 (some .int), Cond.fieldLink RX0 15 "Slidewarden$Deck" "values" "[I", Cond.methodLink RX5 282 yX5_isBlocking, Cond.instanceMethod yX5_isBlocking, Cond.selects RX5 yX5_isBlocking yX5_isBlocking]
def wsX5_tighten_r3 : List Cond := [Cond.code yX5_isBlocking cX5_isBlocking 4 (some .boolean), Cond.fieldLink RX5 204 "Slidewarden$Rule" "rank" "I", Cond.methodLink RX5 286 yX5_isWaived, Cond.instanceMethod yX5_isWaived, Cond.selects RX5 yX5_isWaived yX5_isWaived, Cond.code yX5_isWaived cX5_isWaived 5 (some .boolean), Cond.fieldLink RX5 232 "Slidewarden" "waiverCount" "I", Cond.fieldLink RX5 30 "Slidewarden" "waivers" "[LSlidewarden$Waiver;", Cond.fieldLink RX5 237 "Slidewarden$Waiver" "rule" "I", Cond.fieldLink RX5 240 "Slidewarden$Waiver" "slide" "I", Cond.fieldLink RX5 243 "Slidewarden$Waiver" "until" "I", Cond.fieldLink RX5 225 "Slidewarden" "day" "I", Cond.methodLink RX5 133 yJ13_bitCount_95d88, Cond.static yJ13_bitCount_95d88, Cond.initialized RJ13, Cond.code yJ13_bitCount_95d88 cJ13_bitCount_95d88 2 (some .int), Cond.constantLong RJ13 314 (6148914691236517205), Cond.constantLong RJ13 316 (3689348814741910323), Cond.constantLong RJ13 318 (1085102592571150095)]
def wsX5_tighten : List Cond := .code yX5_tighten cX5_tighten 7 (some .int) :: ((wsX5_tighten_r1 ++ (wsX5_tighten_r2 ++ wsX5_tighten_r3)) ++ wsX50 ++ wsX20 ++ wsX30 ++ wsX00 ++ wsX40 ++ (vx_atS RX5 110 "java/lang/IllegalArgumentException" ["java/lang/RuntimeException", "java/lang/Exception"]).filter goodWord ++ (vx_atS RX5 80 "java/lang/IndexOutOfBoundsException" ["java/lang/RuntimeException", "java/lang/Exception"]).filter goodWord)
def wsX5_waive_r1 : List Cond := [Cond.classLink RX5 106 "java/lang/IllegalArgumentException", Cond.initialized "java/lang/IllegalArgumentException", Cond.classLink RX5 59 "java/lang/IllegalStateException", Cond.initialized "java/lang/IllegalStateException", Cond.fieldLink RX5 225 "Slidewarden" "day" "I", Cond.fieldLink RX5 24 "Slidewarden" "rules" "[LSlidewarden$Rule;", Cond.fieldLink RX5 204 "Slidewarden$Rule" "rank" "I", Cond.fieldLink RX5 232 "Slidewarden" "waiverCount" "I", Cond.fieldLink RX5 30 "Slidewarden" "waivers" "[LSlidewarden$Waiver;", Cond.fieldLink RX5 237 "Slidewarden$Waiver" "rule" "I", Cond.fieldLink RX5 240 "Slidewarden$Waiver" "slide" "I", Cond.fieldLink RX5 243 "Slidewarden$Waiver" "until" "I", Cond.methodLink RX5 216 yX5_checkRule, Cond.instanceMethod yX5_checkRule, Cond.selects RX5 yX5_checkRule yX5_checkRule, Cond.initialized RX5, Cond.code yX5_checkRule cX5_checkRule 2 none, Cond.classLink RX5 76 "java/lang/IndexOutOfBoundsException", Cond.initialized "java/lang/IndexOutOfBoundsException", Cond.fieldLink RX5 199 "Slidewarden" "ruleCount" "I", Cond.methodLink RX5 141 yX5_checkSlide, Cond.instanceMethod yX5_checkSlide, Cond.selects RX5 yX5_checkSlide yX5_checkSlide, Cond.code yX5_checkSlide cX5_checkSlide 2 none]
def wsX5_waive_r2 : List Cond := [Cond.fieldLink RX5 83 "Slidewarden" "slideCount" "I"]
def wsX5_waive : List Cond := .code yX5_waive cX5_waive 6 (some .int) :: ((wsX5_waive_r1 ++ wsX5_waive_r2) ++ wsX50 ++ wsX20 ++ wsX40 ++ (vx_atS RX5 110 "java/lang/IllegalArgumentException" ["java/lang/RuntimeException", "java/lang/Exception"]).filter goodWord ++ (vx_atS RX5 63 "java/lang/IllegalStateException" ["java/lang/RuntimeException", "java/lang/Exception"]).filter goodWord ++ (vx_atS RX5 80 "java/lang/IndexOutOfBoundsException" ["java/lang/RuntimeException", "java/lang/Exception"]).filter goodWord)
def wsX5_blocks_r1 : List Cond := [Cond.fieldLink RX5 11 "Slidewarden" "versions" "[LSlidewarden$Version;", Cond.fieldLink RX5 130 "Slidewarden$Version" "deck" "LSlidewarden$Deck;", Cond.methodLink RX5 55 yX5_checkVersion, Cond.instanceMethod yX5_checkVersion, Cond.selects RX5 yX5_checkVersion yX5_checkVersion, Cond.initialized RX5, Cond.code yX5_checkVersion cX5_checkVersion 2 none, Cond.classLink RX5 76 "java/lang/IndexOutOfBoundsException", Cond.initialized "java/lang/IndexOutOfBoundsException", Cond.fieldLink RX5 48 "Slidewarden" "versionCount" "I", Cond.methodLink RX5 185 yX5_countBlocks, Cond.instanceMethod yX5_countBlocks, Cond.selects RX5 yX5_countBlocks yX5_countBlocks, Cond.code yX5_countBlocks cX5_countBlocks 4 (some .int), Cond.fieldLink RX5 73 "Slidewarden$Deck" "size" "I", Cond.methodLink RX5 250 yX5_countBlocksAt, Cond.instanceMethod yX5_countBlocksAt, Cond.selects RX5 yX5_countBlocksAt yX5_countBlocksAt, Cond.code yX5_countBlocksAt cX5_countBlocksAt 5 (some .int), Cond.fieldLink RX5 199 "Slidewarden" "ruleCount" "I", Cond.fieldLink RX5 24 "Slidewarden" "rules" "[LSlidewarden$Rule;", Cond.fieldLink RX5 149 "Slidewarden$Deck" "slides" "[I", Cond.methodLink RX5 246 yX2_isBrokenAt, Cond.instanceMethod yX2_isBrokenAt]
def wsX5_blocks_r2 : List Cond := [Cond.selects RX2 yX2_isBrokenAt yX2_isBrokenAt, Cond.initialized RX2, Cond.code yX2_isBrokenAt cX2_isBrokenAt 4 (some .boolean), Cond.fieldLink RX2 7 "Slidewarden$Rule" "object" "I", Cond.fieldLink RX2 19 "Slidewarden$Rule" "least" "I", Cond.fieldLink RX2 22 "Slidewarden$Rule" "most" "I", Cond.methodLink RX2 13 yX0_valueAt, Cond.instanceMethod yX0_valueAt, Cond.selects RX0 yX0_valueAt yX0_valueAt, Cond.initialized RX0, Cond.code yX0_valueAt cX0_valueAt 3 (some .int), Cond.fieldLink RX0 15 "Slidewarden$Deck" "values" "[I", Cond.methodLink RX5 282 yX5_isBlocking, Cond.instanceMethod yX5_isBlocking, Cond.selects RX5 yX5_isBlocking yX5_isBlocking, Cond.code yX5_isBlocking cX5_isBlocking 4 (some .boolean), Cond.fieldLink RX5 204 "Slidewarden$Rule" "rank" "I", Cond.methodLink RX5 286 yX5_isWaived, Cond.instanceMethod yX5_isWaived, Cond.selects RX5 yX5_isWaived yX5_isWaived, Cond.code yX5_isWaived cX5_isWaived 5 (some .boolean), Cond.fieldLink RX5 232 "Slidewarden" "waiverCount" "I", Cond.fieldLink RX5 30 "Slidewarden" "waivers" "[LSlidewarden$Waiver;", Cond.fieldLink RX5 237 "Slidewarden$Waiver" "rule" "I"]
def wsX5_blocks_r3 : List Cond := [Cond.fieldLink RX5 240 "Slidewarden$Waiver" "slide" "I", Cond.fieldLink RX5 243 "Slidewarden$Waiver" "until" "I", Cond.fieldLink RX5 225 "Slidewarden" "day" "I"]
def wsX5_blocks : List Cond := .code yX5_blocks cX5_blocks 2 (some .int) :: ((wsX5_blocks_r1 ++ (wsX5_blocks_r2 ++ wsX5_blocks_r3)) ++ wsX50 ++ wsX30 ++ wsX00 ++ wsX20 ++ wsX40 ++ (vx_atS RX5 80 "java/lang/IndexOutOfBoundsException" ["java/lang/RuntimeException", "java/lang/Exception"]).filter goodWord)
def wsX5_warnings_r1 : List Cond := [Cond.fieldLink RX5 11 "Slidewarden" "versions" "[LSlidewarden$Version;", Cond.fieldLink RX5 130 "Slidewarden$Version" "deck" "LSlidewarden$Deck;", Cond.fieldLink RX5 73 "Slidewarden$Deck" "size" "I", Cond.fieldLink RX5 199 "Slidewarden" "ruleCount" "I", Cond.fieldLink RX5 24 "Slidewarden" "rules" "[LSlidewarden$Rule;", Cond.fieldLink RX5 204 "Slidewarden$Rule" "rank" "I", Cond.methodLink RX5 55 yX5_checkVersion, Cond.instanceMethod yX5_checkVersion, Cond.selects RX5 yX5_checkVersion yX5_checkVersion, Cond.initialized RX5, Cond.code yX5_checkVersion cX5_checkVersion 2 none, Cond.classLink RX5 76 "java/lang/IndexOutOfBoundsException", Cond.initialized "java/lang/IndexOutOfBoundsException", Cond.fieldLink RX5 48 "Slidewarden" "versionCount" "I", Cond.methodLink RX5 246 yX2_isBrokenAt, Cond.instanceMethod yX2_isBrokenAt, Cond.selects RX2 yX2_isBrokenAt yX2_isBrokenAt, Cond.initialized RX2, Cond.code yX2_isBrokenAt cX2_isBrokenAt 4 (some .boolean), Cond.fieldLink RX2 7 "Slidewarden$Rule" "object" "I", Cond.fieldLink RX2 19 "Slidewarden$Rule" "least" "I", Cond.fieldLink RX2 22 "Slidewarden$Rule" "most" "I", Cond.methodLink RX2 13 yX0_valueAt, Cond.instanceMethod yX0_valueAt]
def wsX5_warnings_r2 : List Cond := [Cond.selects RX0 yX0_valueAt yX0_valueAt, Cond.initialized RX0, Cond.code yX0_valueAt cX0_valueAt 3 (some .int), Cond.fieldLink RX0 15 "Slidewarden$Deck" "values" "[I"]
def wsX5_warnings : List Cond := .code yX5_warnings cX5_warnings 6 (some .int) :: ((wsX5_warnings_r1 ++ wsX5_warnings_r2) ++ wsX50 ++ wsX30 ++ wsX00 ++ wsX20 ++ (vx_atS RX5 80 "java/lang/IndexOutOfBoundsException" ["java/lang/RuntimeException", "java/lang/Exception"]).filter goodWord)
def wsX5_firstBlock_r1 : List Cond := [Cond.fieldLink RX5 11 "Slidewarden" "versions" "[LSlidewarden$Version;", Cond.fieldLink RX5 130 "Slidewarden$Version" "deck" "LSlidewarden$Deck;", Cond.fieldLink RX5 73 "Slidewarden$Deck" "size" "I", Cond.fieldLink RX5 149 "Slidewarden$Deck" "slides" "[I", Cond.methodLink RX5 55 yX5_checkVersion, Cond.instanceMethod yX5_checkVersion, Cond.selects RX5 yX5_checkVersion yX5_checkVersion, Cond.initialized RX5, Cond.code yX5_checkVersion cX5_checkVersion 2 none, Cond.classLink RX5 76 "java/lang/IndexOutOfBoundsException", Cond.initialized "java/lang/IndexOutOfBoundsException", Cond.fieldLink RX5 48 "Slidewarden" "versionCount" "I", Cond.methodLink RX5 250 yX5_countBlocksAt, Cond.instanceMethod yX5_countBlocksAt, Cond.selects RX5 yX5_countBlocksAt yX5_countBlocksAt, Cond.code yX5_countBlocksAt cX5_countBlocksAt 5 (some .int), Cond.fieldLink RX5 199 "Slidewarden" "ruleCount" "I", Cond.fieldLink RX5 24 "Slidewarden" "rules" "[LSlidewarden$Rule;", Cond.methodLink RX5 246 yX2_isBrokenAt, Cond.instanceMethod yX2_isBrokenAt, Cond.selects RX2 yX2_isBrokenAt yX2_isBrokenAt, Cond.initialized RX2, Cond.code yX2_isBrokenAt cX2_isBrokenAt 4 (some .boolean), Cond.fieldLink RX2 7 "Slidewarden$Rule" "object" "I"]
def wsX5_firstBlock_r2 : List Cond := [Cond.fieldLink RX2 19 "Slidewarden$Rule" "least" "I", Cond.fieldLink RX2 22 "Slidewarden$Rule" "most" "I", Cond.methodLink RX2 13 yX0_valueAt, Cond.instanceMethod yX0_valueAt, Cond.selects RX0 yX0_valueAt yX0_valueAt, Cond.initialized RX0, Cond.code yX0_valueAt cX0_valueAt 3 (some .int), Cond.fieldLink RX0 15 "Slidewarden$Deck" "values" "[I", Cond.methodLink RX5 282 yX5_isBlocking, Cond.instanceMethod yX5_isBlocking, Cond.selects RX5 yX5_isBlocking yX5_isBlocking, Cond.code yX5_isBlocking cX5_isBlocking 4 (some .boolean), Cond.fieldLink RX5 204 "Slidewarden$Rule" "rank" "I", Cond.methodLink RX5 286 yX5_isWaived, Cond.instanceMethod yX5_isWaived, Cond.selects RX5 yX5_isWaived yX5_isWaived, Cond.code yX5_isWaived cX5_isWaived 5 (some .boolean), Cond.fieldLink RX5 232 "Slidewarden" "waiverCount" "I", Cond.fieldLink RX5 30 "Slidewarden" "waivers" "[LSlidewarden$Waiver;", Cond.fieldLink RX5 237 "Slidewarden$Waiver" "rule" "I", Cond.fieldLink RX5 240 "Slidewarden$Waiver" "slide" "I", Cond.fieldLink RX5 243 "Slidewarden$Waiver" "until" "I", Cond.fieldLink RX5 225 "Slidewarden" "day" "I"]
def wsX5_firstBlock : List Cond := .code yX5_firstBlock cX5_firstBlock 4 (some .int) :: ((wsX5_firstBlock_r1 ++ wsX5_firstBlock_r2) ++ wsX50 ++ wsX30 ++ wsX00 ++ wsX20 ++ wsX40 ++ (vx_atS RX5 80 "java/lang/IndexOutOfBoundsException" ["java/lang/RuntimeException", "java/lang/Exception"]).filter goodWord)
def wsX5_show_r1 : List Cond := [Cond.classLink RX5 59 "java/lang/IllegalStateException", Cond.initialized "java/lang/IllegalStateException", Cond.fieldLink RX5 19 "Slidewarden" "shownVersions" "[I", Cond.fieldLink RX5 15 "Slidewarden" "heads" "[I", Cond.methodLink RX5 66 yX5_checkBranch, Cond.instanceMethod yX5_checkBranch, Cond.selects RX5 yX5_checkBranch yX5_checkBranch, Cond.initialized RX5, Cond.code yX5_checkBranch cX5_checkBranch 2 none, Cond.classLink RX5 76 "java/lang/IndexOutOfBoundsException", Cond.initialized "java/lang/IndexOutOfBoundsException", Cond.fieldLink RX5 52 "Slidewarden" "branchCount" "I", Cond.methodLink RX5 69 yX5_headDeck, Cond.instanceMethod yX5_headDeck, Cond.selects RX5 yX5_headDeck yX5_headDeck, Cond.code yX5_headDeck cX5_headDeck 2 (some (.object "Slidewarden$Deck")), Cond.fieldLink RX5 11 "Slidewarden" "versions" "[LSlidewarden$Version;", Cond.fieldLink RX5 130 "Slidewarden$Version" "deck" "LSlidewarden$Deck;", Cond.methodLink RX5 185 yX5_countBlocks, Cond.instanceMethod yX5_countBlocks, Cond.selects RX5 yX5_countBlocks yX5_countBlocks, Cond.code yX5_countBlocks cX5_countBlocks 4 (some .int), Cond.fieldLink RX5 73 "Slidewarden$Deck" "size" "I", Cond.methodLink RX5 250 yX5_countBlocksAt]
def wsX5_show_r2 : List Cond := [Cond.instanceMethod yX5_countBlocksAt, Cond.selects RX5 yX5_countBlocksAt yX5_countBlocksAt, Cond.code yX5_countBlocksAt cX5_countBlocksAt 5 (some .int), Cond.fieldLink RX5 199 "Slidewarden" "ruleCount" "I", Cond.fieldLink RX5 24 "Slidewarden" "rules" "[LSlidewarden$Rule;", Cond.fieldLink RX5 149 "Slidewarden$Deck" "slides" "[I", Cond.methodLink RX5 246 yX2_isBrokenAt, Cond.instanceMethod yX2_isBrokenAt, Cond.selects RX2 yX2_isBrokenAt yX2_isBrokenAt, Cond.initialized RX2, Cond.code yX2_isBrokenAt cX2_isBrokenAt 4 (some .boolean), Cond.fieldLink RX2 7 "Slidewarden$Rule" "object" "I", Cond.fieldLink RX2 19 "Slidewarden$Rule" "least" "I", Cond.fieldLink RX2 22 "Slidewarden$Rule" "most" "I", Cond.methodLink RX2 13 yX0_valueAt, Cond.instanceMethod yX0_valueAt, Cond.selects RX0 yX0_valueAt yX0_valueAt, Cond.initialized RX0, Cond.code yX0_valueAt cX0_valueAt 3 (some .int), Cond.fieldLink RX0 15 "Slidewarden$Deck" "values" "[I", Cond.methodLink RX5 282 yX5_isBlocking, Cond.instanceMethod yX5_isBlocking, Cond.selects RX5 yX5_isBlocking yX5_isBlocking, Cond.code yX5_isBlocking cX5_isBlocking 4 (some .boolean)]
def wsX5_show_r3 : List Cond := [Cond.fieldLink RX5 204 "Slidewarden$Rule" "rank" "I", Cond.methodLink RX5 286 yX5_isWaived, Cond.instanceMethod yX5_isWaived, Cond.selects RX5 yX5_isWaived yX5_isWaived, Cond.code yX5_isWaived cX5_isWaived 5 (some .boolean), Cond.fieldLink RX5 232 "Slidewarden" "waiverCount" "I", Cond.fieldLink RX5 30 "Slidewarden" "waivers" "[LSlidewarden$Waiver;", Cond.fieldLink RX5 237 "Slidewarden$Waiver" "rule" "I", Cond.fieldLink RX5 240 "Slidewarden$Waiver" "slide" "I", Cond.fieldLink RX5 243 "Slidewarden$Waiver" "until" "I", Cond.fieldLink RX5 225 "Slidewarden" "day" "I"]
def wsX5_show : List Cond := .code yX5_show cX5_show 2 (some .int) :: ((wsX5_show_r1 ++ (wsX5_show_r2 ++ wsX5_show_r3)) ++ wsX50 ++ wsX30 ++ wsX00 ++ wsX20 ++ wsX40 ++ (vx_atS RX5 63 "java/lang/IllegalStateException" ["java/lang/RuntimeException", "java/lang/Exception"]).filter goodWord ++ (vx_atS RX5 80 "java/lang/IndexOutOfBoundsException" ["java/lang/RuntimeException", "java/lang/Exception"]).filter goodWord)
def wsX5_shown_r1 : List Cond := [Cond.fieldLink RX5 19 "Slidewarden" "shownVersions" "[I", Cond.fieldLink RX5 11 "Slidewarden" "versions" "[LSlidewarden$Version;", Cond.fieldLink RX5 130 "Slidewarden$Version" "deck" "LSlidewarden$Deck;", Cond.methodLink RX5 66 yX5_checkBranch, Cond.instanceMethod yX5_checkBranch, Cond.selects RX5 yX5_checkBranch yX5_checkBranch, Cond.initialized RX5, Cond.code yX5_checkBranch cX5_checkBranch 2 none, Cond.classLink RX5 76 "java/lang/IndexOutOfBoundsException", Cond.initialized "java/lang/IndexOutOfBoundsException", Cond.fieldLink RX5 52 "Slidewarden" "branchCount" "I", Cond.methodLink RX5 185 yX5_countBlocks, Cond.instanceMethod yX5_countBlocks, Cond.selects RX5 yX5_countBlocks yX5_countBlocks, Cond.code yX5_countBlocks cX5_countBlocks 4 (some .int), Cond.fieldLink RX5 73 "Slidewarden$Deck" "size" "I", Cond.methodLink RX5 250 yX5_countBlocksAt, Cond.instanceMethod yX5_countBlocksAt, Cond.selects RX5 yX5_countBlocksAt yX5_countBlocksAt, Cond.code yX5_countBlocksAt cX5_countBlocksAt 5 (some .int), Cond.fieldLink RX5 199 "Slidewarden" "ruleCount" "I", Cond.fieldLink RX5 24 "Slidewarden" "rules" "[LSlidewarden$Rule;", Cond.fieldLink RX5 149 "Slidewarden$Deck" "slides" "[I", Cond.methodLink RX5 246 yX2_isBrokenAt]
def wsX5_shown_r2 : List Cond := [Cond.instanceMethod yX2_isBrokenAt, Cond.selects RX2 yX2_isBrokenAt yX2_isBrokenAt, Cond.initialized RX2, Cond.code yX2_isBrokenAt cX2_isBrokenAt 4 (some .boolean), Cond.fieldLink RX2 7 "Slidewarden$Rule" "object" "I", Cond.fieldLink RX2 19 "Slidewarden$Rule" "least" "I", Cond.fieldLink RX2 22 "Slidewarden$Rule" "most" "I", Cond.methodLink RX2 13 yX0_valueAt, Cond.instanceMethod yX0_valueAt, Cond.selects RX0 yX0_valueAt yX0_valueAt, Cond.initialized RX0, Cond.code yX0_valueAt cX0_valueAt 3 (some .int), Cond.fieldLink RX0 15 "Slidewarden$Deck" "values" "[I", Cond.methodLink RX5 282 yX5_isBlocking, Cond.instanceMethod yX5_isBlocking, Cond.selects RX5 yX5_isBlocking yX5_isBlocking, Cond.code yX5_isBlocking cX5_isBlocking 4 (some .boolean), Cond.fieldLink RX5 204 "Slidewarden$Rule" "rank" "I", Cond.methodLink RX5 286 yX5_isWaived, Cond.instanceMethod yX5_isWaived, Cond.selects RX5 yX5_isWaived yX5_isWaived, Cond.code yX5_isWaived cX5_isWaived 5 (some .boolean), Cond.fieldLink RX5 232 "Slidewarden" "waiverCount" "I", Cond.fieldLink RX5 30 "Slidewarden" "waivers" "[LSlidewarden$Waiver;"]
def wsX5_shown_r3 : List Cond := [Cond.fieldLink RX5 237 "Slidewarden$Waiver" "rule" "I", Cond.fieldLink RX5 240 "Slidewarden$Waiver" "slide" "I", Cond.fieldLink RX5 243 "Slidewarden$Waiver" "until" "I", Cond.fieldLink RX5 225 "Slidewarden" "day" "I"]
def wsX5_shown : List Cond := .code yX5_shown cX5_shown 3 (some .int) :: ((wsX5_shown_r1 ++ (wsX5_shown_r2 ++ wsX5_shown_r3)) ++ wsX50 ++ wsX30 ++ wsX00 ++ wsX20 ++ wsX40 ++ (vx_atS RX5 80 "java/lang/IndexOutOfBoundsException" ["java/lang/RuntimeException", "java/lang/Exception"]).filter goodWord)
def wsX5_pass : List Cond := .code yX5_pass cX5_pass 2 (some .int) :: ([.classLink RX5 106 "java/lang/IllegalArgumentException", .initialized "java/lang/IllegalArgumentException", .classLink RX5 59 "java/lang/IllegalStateException", .initialized "java/lang/IllegalStateException", .fieldLink RX5 225 "Slidewarden" "day" "I"] ++ wsX50 ++ (vx_atS RX5 110 "java/lang/IllegalArgumentException" ["java/lang/RuntimeException", "java/lang/Exception"]).filter goodWord ++ (vx_atS RX5 63 "java/lang/IllegalStateException" ["java/lang/RuntimeException", "java/lang/Exception"]).filter goodWord)
def wsX6_init_r1 : List Cond := [Cond.methodLink RX6 1 objectInit, Cond.instanceMethod objectInit, Cond.code objectInit ⟨#[0xb1]⟩ 1 none, Cond.fieldLink RX6 7 "SlidewardenModel" "versions" "I", Cond.arrayClass .int, Cond.fieldLink RX6 13 "SlidewardenModel" "madeOn" "[I", Cond.fieldLink RX6 17 "SlidewardenModel" "came" "[I", Cond.fieldLink RX6 20 "SlidewardenModel" "other" "[I", Cond.fieldLink RX6 23 "SlidewardenModel" "many" "[I", Cond.fieldLink RX6 26 "SlidewardenModel" "row" "[I", Cond.fieldLink RX6 29 "SlidewardenModel" "value" "[I", Cond.fieldLink RX6 32 "SlidewardenModel" "branches" "I", Cond.fieldLink RX6 35 "SlidewardenModel" "head" "[I", Cond.fieldLink RX6 38 "SlidewardenModel" "shown" "[I", Cond.fieldLink RX6 41 "SlidewardenModel" "rank" "[I", Cond.fieldLink RX6 44 "SlidewardenModel" "object" "[I", Cond.fieldLink RX6 47 "SlidewardenModel" "least" "[I", Cond.fieldLink RX6 50 "SlidewardenModel" "most" "[I", Cond.fieldLink RX6 53 "SlidewardenModel" "ruleOf" "[I", Cond.fieldLink RX6 56 "SlidewardenModel" "slideOf" "[I", Cond.fieldLink RX6 59 "SlidewardenModel" "until" "[I", Cond.fieldLink RX6 62 "SlidewardenModel" "deckRow" "[I", Cond.fieldLink RX6 65 "SlidewardenModel" "deckValue" "[I", Cond.arrayClass .boolean]
def wsX6_init_r2 : List Cond := [Cond.fieldLink RX6 68 "SlidewardenModel" "isOf" "[Z", Cond.fieldLink RX6 72 "SlidewardenModel" "isOfOther" "[Z", Cond.fieldLink RX6 75 "SlidewardenModel" "was" "[Z"]
def wsX6_init : List Cond := .code yX6_init cX6_init 2 none :: ((wsX6_init_r1 ++ wsX6_init_r2) ++ wsX60)
def wsX6_thrown : List Cond := .code yX6_thrown cX6_thrown 1 (some .int) :: ([.fieldLink RX6 78 "SlidewardenModel" "thrown" "I"] ++ wsX60)
def wsX6_in : List Cond := .code yX6_in cX6_in 3 (some .boolean) :: ([])
def wsX6_isVersion : List Cond := .code yX6_isVersion cX6_isVersion 2 (some .boolean) :: ([.fieldLink RX6 7 "SlidewardenModel" "versions" "I", .methodLink RX6 81 yX6_in, .static yX6_in, .initialized RX6, .code yX6_in cX6_in 3 (some .boolean)] ++ wsX60)
def wsX6_isBranch : List Cond := .code yX6_isBranch cX6_isBranch 2 (some .boolean) :: ([.fieldLink RX6 32 "SlidewardenModel" "branches" "I", .methodLink RX6 81 yX6_in, .static yX6_in, .initialized RX6, .code yX6_in cX6_in 3 (some .boolean)] ++ wsX60)
def wsX6_isObject : List Cond := .code yX6_isObject cX6_isObject 1 (some .boolean) :: ([.methodLink RX6 81 yX6_in, .static yX6_in, .initialized RX6, .code yX6_in cX6_in 3 (some .boolean)])
def wsX6_placeOf : List Cond := .code yX6_placeOf cX6_placeOf 4 (some .int) :: ([.fieldLink RX6 23 "SlidewardenModel" "many" "[I", .fieldLink RX6 26 "SlidewardenModel" "row" "[I"] ++ wsX60)
def wsX6_valueOf : List Cond := .code yX6_valueOf cX6_valueOf 4 (some .int) :: ([.fieldLink RX6 29 "SlidewardenModel" "value" "[I", .methodLink RX6 85 yX6_placeOf, .instanceMethod yX6_placeOf, .selects RX6 yX6_placeOf yX6_placeOf, .initialized RX6, .code yX6_placeOf cX6_placeOf 4 (some .int), .fieldLink RX6 23 "SlidewardenModel" "many" "[I", .fieldLink RX6 26 "SlidewardenModel" "row" "[I"] ++ wsX60)
def wsX6_branch : List Cond := .code yX6_branch cX6_branch 2 (some .int) :: ([.fieldLink RX6 32 "SlidewardenModel" "branches" "I", .fieldLink RX6 78 "SlidewardenModel" "thrown" "I", .fieldLink RX6 35 "SlidewardenModel" "head" "[I", .methodLink RX6 89 yX6_isVersion, .instanceMethod yX6_isVersion, .selects RX6 yX6_isVersion yX6_isVersion, .initialized RX6, .code yX6_isVersion cX6_isVersion 2 (some .boolean), .fieldLink RX6 7 "SlidewardenModel" "versions" "I", .methodLink RX6 81 yX6_in, .static yX6_in, .code yX6_in cX6_in 3 (some .boolean)] ++ wsX60)
def wsX6_edits : List Cond := .code yX6_edits cX6_edits 8 (some .int) :: ([.fieldLink RX6 7 "SlidewardenModel" "versions" "I", .fieldLink RX6 35 "SlidewardenModel" "head" "[I", .fieldLink RX6 13 "SlidewardenModel" "madeOn" "[I", .fieldLink RX6 17 "SlidewardenModel" "came" "[I", .fieldLink RX6 20 "SlidewardenModel" "other" "[I", .fieldLink RX6 23 "SlidewardenModel" "many" "[I", .fieldLink RX6 26 "SlidewardenModel" "row" "[I", .fieldLink RX6 29 "SlidewardenModel" "value" "[I"] ++ wsX60)
def wsX6_add : List Cond := .code yX6_add cX6_add 6 (some .int) :: ([.fieldLink RX6 23 "SlidewardenModel" "many" "[I", .fieldLink RX6 35 "SlidewardenModel" "head" "[I", .fieldLink RX6 96 "SlidewardenModel" "slides" "I", .fieldLink RX6 7 "SlidewardenModel" "versions" "I", .fieldLink RX6 78 "SlidewardenModel" "thrown" "I", .fieldLink RX6 26 "SlidewardenModel" "row" "[I", .fieldLink RX6 29 "SlidewardenModel" "value" "[I", .methodLink RX6 93 yX6_isBranch, .instanceMethod yX6_isBranch, .selects RX6 yX6_isBranch yX6_isBranch, .initialized RX6, .code yX6_isBranch cX6_isBranch 2 (some .boolean), .fieldLink RX6 32 "SlidewardenModel" "branches" "I", .methodLink RX6 81 yX6_in, .static yX6_in, .code yX6_in cX6_in 3 (some .boolean), .methodLink RX6 99 yX6_edits, .instanceMethod yX6_edits, .selects RX6 yX6_edits yX6_edits, .code yX6_edits cX6_edits 8 (some .int), .fieldLink RX6 13 "SlidewardenModel" "madeOn" "[I", .fieldLink RX6 17 "SlidewardenModel" "came" "[I", .fieldLink RX6 20 "SlidewardenModel" "other" "[I"] ++ wsX60)
def wsX6_isInHead : List Cond := .code yX6_isInHead cX6_isInHead 3 (some .boolean) :: ([.fieldLink RX6 35 "SlidewardenModel" "head" "[I", .methodLink RX6 93 yX6_isBranch, .instanceMethod yX6_isBranch, .selects RX6 yX6_isBranch yX6_isBranch, .initialized RX6, .code yX6_isBranch cX6_isBranch 2 (some .boolean), .fieldLink RX6 32 "SlidewardenModel" "branches" "I", .methodLink RX6 81 yX6_in, .static yX6_in, .code yX6_in cX6_in 3 (some .boolean), .methodLink RX6 85 yX6_placeOf, .instanceMethod yX6_placeOf, .selects RX6 yX6_placeOf yX6_placeOf, .code yX6_placeOf cX6_placeOf 4 (some .int), .fieldLink RX6 23 "SlidewardenModel" "many" "[I", .fieldLink RX6 26 "SlidewardenModel" "row" "[I"] ++ wsX60)
def wsX6_set_r1 : List Cond := [Cond.fieldLink RX6 7 "SlidewardenModel" "versions" "I", Cond.fieldLink RX6 78 "SlidewardenModel" "thrown" "I", Cond.fieldLink RX6 29 "SlidewardenModel" "value" "[I", Cond.methodLink RX6 102 yX6_isInHead, Cond.instanceMethod yX6_isInHead, Cond.selects RX6 yX6_isInHead yX6_isInHead, Cond.initialized RX6, Cond.code yX6_isInHead cX6_isInHead 3 (some .boolean), Cond.fieldLink RX6 35 "SlidewardenModel" "head" "[I", Cond.methodLink RX6 93 yX6_isBranch, Cond.instanceMethod yX6_isBranch, Cond.selects RX6 yX6_isBranch yX6_isBranch, Cond.code yX6_isBranch cX6_isBranch 2 (some .boolean), Cond.fieldLink RX6 32 "SlidewardenModel" "branches" "I", Cond.methodLink RX6 81 yX6_in, Cond.static yX6_in, Cond.code yX6_in cX6_in 3 (some .boolean), Cond.methodLink RX6 85 yX6_placeOf, Cond.instanceMethod yX6_placeOf, Cond.selects RX6 yX6_placeOf yX6_placeOf, Cond.code yX6_placeOf cX6_placeOf 4 (some .int), Cond.fieldLink RX6 23 "SlidewardenModel" "many" "[I", Cond.fieldLink RX6 26 "SlidewardenModel" "row" "[I", Cond.methodLink RX6 106 yX6_isObject]
def wsX6_set_r2 : List Cond := [Cond.static yX6_isObject, Cond.code yX6_isObject cX6_isObject 1 (some .boolean), Cond.methodLink RX6 99 yX6_edits, Cond.instanceMethod yX6_edits, Cond.selects RX6 yX6_edits yX6_edits, Cond.code yX6_edits cX6_edits 8 (some .int), Cond.fieldLink RX6 13 "SlidewardenModel" "madeOn" "[I", Cond.fieldLink RX6 17 "SlidewardenModel" "came" "[I", Cond.fieldLink RX6 20 "SlidewardenModel" "other" "[I"]
def wsX6_set : List Cond := .code yX6_set cX6_set 8 (some .int) :: ((wsX6_set_r1 ++ wsX6_set_r2) ++ wsX60)
def wsX6_drop_r1 : List Cond := [Cond.fieldLink RX6 7 "SlidewardenModel" "versions" "I", Cond.fieldLink RX6 78 "SlidewardenModel" "thrown" "I", Cond.methodLink RX6 102 yX6_isInHead, Cond.instanceMethod yX6_isInHead, Cond.selects RX6 yX6_isInHead yX6_isInHead, Cond.initialized RX6, Cond.code yX6_isInHead cX6_isInHead 3 (some .boolean), Cond.fieldLink RX6 35 "SlidewardenModel" "head" "[I", Cond.methodLink RX6 93 yX6_isBranch, Cond.instanceMethod yX6_isBranch, Cond.selects RX6 yX6_isBranch yX6_isBranch, Cond.code yX6_isBranch cX6_isBranch 2 (some .boolean), Cond.fieldLink RX6 32 "SlidewardenModel" "branches" "I", Cond.methodLink RX6 81 yX6_in, Cond.static yX6_in, Cond.code yX6_in cX6_in 3 (some .boolean), Cond.methodLink RX6 85 yX6_placeOf, Cond.instanceMethod yX6_placeOf, Cond.selects RX6 yX6_placeOf yX6_placeOf, Cond.code yX6_placeOf cX6_placeOf 4 (some .int), Cond.fieldLink RX6 23 "SlidewardenModel" "many" "[I", Cond.fieldLink RX6 26 "SlidewardenModel" "row" "[I", Cond.methodLink RX6 99 yX6_edits, Cond.instanceMethod yX6_edits]
def wsX6_drop_r2 : List Cond := [Cond.selects RX6 yX6_edits yX6_edits, Cond.code yX6_edits cX6_edits 8 (some .int), Cond.fieldLink RX6 13 "SlidewardenModel" "madeOn" "[I", Cond.fieldLink RX6 17 "SlidewardenModel" "came" "[I", Cond.fieldLink RX6 20 "SlidewardenModel" "other" "[I", Cond.fieldLink RX6 29 "SlidewardenModel" "value" "[I"]
def wsX6_drop : List Cond := .code yX6_drop cX6_drop 3 (some .int) :: ((wsX6_drop_r1 ++ wsX6_drop_r2) ++ wsX60)
def wsX6_head : List Cond := .code yX6_head cX6_head 2 (some .int) :: ([.fieldLink RX6 78 "SlidewardenModel" "thrown" "I", .fieldLink RX6 35 "SlidewardenModel" "head" "[I", .methodLink RX6 93 yX6_isBranch, .instanceMethod yX6_isBranch, .selects RX6 yX6_isBranch yX6_isBranch, .initialized RX6, .code yX6_isBranch cX6_isBranch 2 (some .boolean), .fieldLink RX6 32 "SlidewardenModel" "branches" "I", .methodLink RX6 81 yX6_in, .static yX6_in, .code yX6_in cX6_in 3 (some .boolean)] ++ wsX60)
def wsX6_layAncestors : List Cond := .code yX6_layAncestors cX6_layAncestors 8 (some .int) :: ([.fieldLink RX6 7 "SlidewardenModel" "versions" "I", .fieldLink RX6 72 "SlidewardenModel" "isOfOther" "[Z", .fieldLink RX6 68 "SlidewardenModel" "isOf" "[Z", .fieldLink RX6 17 "SlidewardenModel" "came" "[I", .fieldLink RX6 20 "SlidewardenModel" "other" "[I"] ++ wsX60)
def wsX6_about : List Cond := .code yX6_about cX6_about 3 (some .int) :: ([.fieldLink RX6 78 "SlidewardenModel" "thrown" "I", .fieldLink RX6 13 "SlidewardenModel" "madeOn" "[I", .fieldLink RX6 17 "SlidewardenModel" "came" "[I", .fieldLink RX6 20 "SlidewardenModel" "other" "[I", .fieldLink RX6 23 "SlidewardenModel" "many" "[I", .methodLink RX6 89 yX6_isVersion, .instanceMethod yX6_isVersion, .selects RX6 yX6_isVersion yX6_isVersion, .initialized RX6, .code yX6_isVersion cX6_isVersion 2 (some .boolean), .fieldLink RX6 7 "SlidewardenModel" "versions" "I", .methodLink RX6 81 yX6_in, .static yX6_in, .code yX6_in cX6_in 3 (some .boolean), .methodLink RX6 109 yX6_layAncestors, .instanceMethod yX6_layAncestors, .selects RX6 yX6_layAncestors yX6_layAncestors, .code yX6_layAncestors cX6_layAncestors 8 (some .int), .fieldLink RX6 72 "SlidewardenModel" "isOfOther" "[Z", .fieldLink RX6 68 "SlidewardenModel" "isOf" "[Z"] ++ wsX60)
def wsX6_isSlide : List Cond := .code yX6_isSlide cX6_isSlide 2 (some .boolean) :: ([.fieldLink RX6 96 "SlidewardenModel" "slides" "I", .methodLink RX6 81 yX6_in, .static yX6_in, .initialized RX6, .code yX6_in cX6_in 3 (some .boolean)] ++ wsX60)
def wsX6_value_r1 : List Cond := [Cond.fieldLink RX6 78 "SlidewardenModel" "thrown" "I", Cond.methodLink RX6 89 yX6_isVersion, Cond.instanceMethod yX6_isVersion, Cond.selects RX6 yX6_isVersion yX6_isVersion, Cond.initialized RX6, Cond.code yX6_isVersion cX6_isVersion 2 (some .boolean), Cond.fieldLink RX6 7 "SlidewardenModel" "versions" "I", Cond.methodLink RX6 81 yX6_in, Cond.static yX6_in, Cond.code yX6_in cX6_in 3 (some .boolean), Cond.methodLink RX6 113 yX6_isSlide, Cond.instanceMethod yX6_isSlide, Cond.selects RX6 yX6_isSlide yX6_isSlide, Cond.code yX6_isSlide cX6_isSlide 2 (some .boolean), Cond.fieldLink RX6 96 "SlidewardenModel" "slides" "I", Cond.methodLink RX6 106 yX6_isObject, Cond.static yX6_isObject, Cond.code yX6_isObject cX6_isObject 1 (some .boolean), Cond.methodLink RX6 85 yX6_placeOf, Cond.instanceMethod yX6_placeOf, Cond.selects RX6 yX6_placeOf yX6_placeOf, Cond.code yX6_placeOf cX6_placeOf 4 (some .int), Cond.fieldLink RX6 23 "SlidewardenModel" "many" "[I", Cond.fieldLink RX6 26 "SlidewardenModel" "row" "[I"]
def wsX6_value_r2 : List Cond := [Cond.methodLink RX6 116 yX6_valueOf, Cond.instanceMethod yX6_valueOf, Cond.selects RX6 yX6_valueOf yX6_valueOf, Cond.code yX6_valueOf cX6_valueOf 4 (some .int), Cond.fieldLink RX6 29 "SlidewardenModel" "value" "[I"]
def wsX6_value : List Cond := .code yX6_value cX6_value 4 (some .int) :: ((wsX6_value_r1 ++ wsX6_value_r2) ++ wsX60)
def wsX6_slideAt : List Cond := .code yX6_slideAt cX6_slideAt 3 (some .int) :: ([.fieldLink RX6 78 "SlidewardenModel" "thrown" "I", .fieldLink RX6 23 "SlidewardenModel" "many" "[I", .fieldLink RX6 26 "SlidewardenModel" "row" "[I", .methodLink RX6 89 yX6_isVersion, .instanceMethod yX6_isVersion, .selects RX6 yX6_isVersion yX6_isVersion, .initialized RX6, .code yX6_isVersion cX6_isVersion 2 (some .boolean), .fieldLink RX6 7 "SlidewardenModel" "versions" "I", .methodLink RX6 81 yX6_in, .static yX6_in, .code yX6_in cX6_in 3 (some .boolean)] ++ wsX60)
def wsX6_baseOf : List Cond := .code yX6_baseOf cX6_baseOf 6 (some .int) :: ([.fieldLink RX6 35 "SlidewardenModel" "head" "[I", .fieldLink RX6 7 "SlidewardenModel" "versions" "I", .fieldLink RX6 68 "SlidewardenModel" "isOf" "[Z", .fieldLink RX6 72 "SlidewardenModel" "isOfOther" "[Z", .methodLink RX6 109 yX6_layAncestors, .instanceMethod yX6_layAncestors, .selects RX6 yX6_layAncestors yX6_layAncestors, .initialized RX6, .code yX6_layAncestors cX6_layAncestors 8 (some .int), .fieldLink RX6 17 "SlidewardenModel" "came" "[I", .fieldLink RX6 20 "SlidewardenModel" "other" "[I"] ++ wsX60)
def wsX6_isAs : List Cond := .code yX6_isAs cX6_isAs 6 (some .boolean) :: ([.methodLink RX6 116 yX6_valueOf, .instanceMethod yX6_valueOf, .selects RX6 yX6_valueOf yX6_valueOf, .initialized RX6, .code yX6_valueOf cX6_valueOf 4 (some .int), .fieldLink RX6 29 "SlidewardenModel" "value" "[I", .methodLink RX6 85 yX6_placeOf, .instanceMethod yX6_placeOf, .selects RX6 yX6_placeOf yX6_placeOf, .code yX6_placeOf cX6_placeOf 4 (some .int), .fieldLink RX6 23 "SlidewardenModel" "many" "[I", .fieldLink RX6 26 "SlidewardenModel" "row" "[I"] ++ wsX60)
def wsX6_fate : List Cond := .code yX6_fate cX6_fate 8 (some .int) :: ([.methodLink RX6 85 yX6_placeOf, .instanceMethod yX6_placeOf, .selects RX6 yX6_placeOf yX6_placeOf, .initialized RX6, .code yX6_placeOf cX6_placeOf 4 (some .int), .fieldLink RX6 23 "SlidewardenModel" "many" "[I", .fieldLink RX6 26 "SlidewardenModel" "row" "[I", .methodLink RX6 120 yX6_isAs, .instanceMethod yX6_isAs, .selects RX6 yX6_isAs yX6_isAs, .code yX6_isAs cX6_isAs 6 (some .boolean), .methodLink RX6 116 yX6_valueOf, .instanceMethod yX6_valueOf, .selects RX6 yX6_valueOf yX6_valueOf, .code yX6_valueOf cX6_valueOf 4 (some .int), .fieldLink RX6 29 "SlidewardenModel" "value" "[I"] ++ wsX60)
def wsX6_meets : List Cond := .code yX6_meets cX6_meets 10 (some .int) :: ([.methodLink RX6 116 yX6_valueOf, .instanceMethod yX6_valueOf, .selects RX6 yX6_valueOf yX6_valueOf, .initialized RX6, .code yX6_valueOf cX6_valueOf 4 (some .int), .fieldLink RX6 29 "SlidewardenModel" "value" "[I", .methodLink RX6 85 yX6_placeOf, .instanceMethod yX6_placeOf, .selects RX6 yX6_placeOf yX6_placeOf, .code yX6_placeOf cX6_placeOf 4 (some .int), .fieldLink RX6 23 "SlidewardenModel" "many" "[I", .fieldLink RX6 26 "SlidewardenModel" "row" "[I"] ++ wsX60)
def wsX6_clashesOf_r1 : List Cond := [Cond.fieldLink RX6 96 "SlidewardenModel" "slides" "I", Cond.methodLink RX6 123 yX6_fate, Cond.instanceMethod yX6_fate, Cond.selects RX6 yX6_fate yX6_fate, Cond.initialized RX6, Cond.code yX6_fate cX6_fate 8 (some .int), Cond.methodLink RX6 85 yX6_placeOf, Cond.instanceMethod yX6_placeOf, Cond.selects RX6 yX6_placeOf yX6_placeOf, Cond.code yX6_placeOf cX6_placeOf 4 (some .int), Cond.fieldLink RX6 23 "SlidewardenModel" "many" "[I", Cond.fieldLink RX6 26 "SlidewardenModel" "row" "[I", Cond.methodLink RX6 120 yX6_isAs, Cond.instanceMethod yX6_isAs, Cond.selects RX6 yX6_isAs yX6_isAs, Cond.code yX6_isAs cX6_isAs 6 (some .boolean), Cond.methodLink RX6 116 yX6_valueOf, Cond.instanceMethod yX6_valueOf, Cond.selects RX6 yX6_valueOf yX6_valueOf, Cond.code yX6_valueOf cX6_valueOf 4 (some .int), Cond.fieldLink RX6 29 "SlidewardenModel" "value" "[I", Cond.methodLink RX6 127 yX6_meets, Cond.instanceMethod yX6_meets, Cond.selects RX6 yX6_meets yX6_meets]
def wsX6_clashesOf_r2 : List Cond := [Cond.code yX6_meets cX6_meets 10 (some .int)]
def wsX6_clashesOf : List Cond := .code yX6_clashesOf cX6_clashesOf 8 (some .int) :: ((wsX6_clashesOf_r1 ++ wsX6_clashesOf_r2) ++ wsX60)
def wsX6_settles : List Cond := .code yX6_settles cX6_settles 10 (some .int) :: ([.methodLink RX6 123 yX6_fate, .instanceMethod yX6_fate, .selects RX6 yX6_fate yX6_fate, .initialized RX6, .code yX6_fate cX6_fate 8 (some .int), .methodLink RX6 85 yX6_placeOf, .instanceMethod yX6_placeOf, .selects RX6 yX6_placeOf yX6_placeOf, .code yX6_placeOf cX6_placeOf 4 (some .int), .fieldLink RX6 23 "SlidewardenModel" "many" "[I", .fieldLink RX6 26 "SlidewardenModel" "row" "[I", .methodLink RX6 120 yX6_isAs, .instanceMethod yX6_isAs, .selects RX6 yX6_isAs yX6_isAs, .code yX6_isAs cX6_isAs 6 (some .boolean), .methodLink RX6 116 yX6_valueOf, .instanceMethod yX6_valueOf, .selects RX6 yX6_valueOf yX6_valueOf, .code yX6_valueOf cX6_valueOf 4 (some .int), .fieldLink RX6 29 "SlidewardenModel" "value" "[I", .methodLink RX6 127 yX6_meets, .instanceMethod yX6_meets, .selects RX6 yX6_meets yX6_meets, .code yX6_meets cX6_meets 10 (some .int)] ++ wsX60)
def wsX6_wrong : List Cond := .code yX6_wrong cX6_wrong 3 (some .int) :: ([.methodLink RX6 93 yX6_isBranch, .instanceMethod yX6_isBranch, .selects RX6 yX6_isBranch yX6_isBranch, .initialized RX6, .code yX6_isBranch cX6_isBranch 2 (some .boolean), .fieldLink RX6 32 "SlidewardenModel" "branches" "I", .methodLink RX6 81 yX6_in, .static yX6_in, .code yX6_in cX6_in 3 (some .boolean)] ++ wsX60)
def wsX6_base_r1 : List Cond := [Cond.fieldLink RX6 78 "SlidewardenModel" "thrown" "I", Cond.methodLink RX6 131 yX6_wrong, Cond.instanceMethod yX6_wrong, Cond.selects RX6 yX6_wrong yX6_wrong, Cond.initialized RX6, Cond.code yX6_wrong cX6_wrong 3 (some .int), Cond.methodLink RX6 93 yX6_isBranch, Cond.instanceMethod yX6_isBranch, Cond.selects RX6 yX6_isBranch yX6_isBranch, Cond.code yX6_isBranch cX6_isBranch 2 (some .boolean), Cond.fieldLink RX6 32 "SlidewardenModel" "branches" "I", Cond.methodLink RX6 81 yX6_in, Cond.static yX6_in, Cond.code yX6_in cX6_in 3 (some .boolean), Cond.methodLink RX6 134 yX6_baseOf, Cond.instanceMethod yX6_baseOf, Cond.selects RX6 yX6_baseOf yX6_baseOf, Cond.code yX6_baseOf cX6_baseOf 6 (some .int), Cond.fieldLink RX6 35 "SlidewardenModel" "head" "[I", Cond.fieldLink RX6 7 "SlidewardenModel" "versions" "I", Cond.fieldLink RX6 68 "SlidewardenModel" "isOf" "[Z", Cond.fieldLink RX6 72 "SlidewardenModel" "isOfOther" "[Z", Cond.methodLink RX6 109 yX6_layAncestors, Cond.instanceMethod yX6_layAncestors]
def wsX6_base_r2 : List Cond := [Cond.selects RX6 yX6_layAncestors yX6_layAncestors, Cond.code yX6_layAncestors cX6_layAncestors 8 (some .int), Cond.fieldLink RX6 17 "SlidewardenModel" "came" "[I", Cond.fieldLink RX6 20 "SlidewardenModel" "other" "[I"]
def wsX6_base : List Cond := .code yX6_base cX6_base 3 (some .int) :: ((wsX6_base_r1 ++ wsX6_base_r2) ++ wsX60)
def wsX6_clashes_r1 : List Cond := [Cond.fieldLink RX6 78 "SlidewardenModel" "thrown" "I", Cond.fieldLink RX6 35 "SlidewardenModel" "head" "[I", Cond.methodLink RX6 131 yX6_wrong, Cond.instanceMethod yX6_wrong, Cond.selects RX6 yX6_wrong yX6_wrong, Cond.initialized RX6, Cond.code yX6_wrong cX6_wrong 3 (some .int), Cond.methodLink RX6 93 yX6_isBranch, Cond.instanceMethod yX6_isBranch, Cond.selects RX6 yX6_isBranch yX6_isBranch, Cond.code yX6_isBranch cX6_isBranch 2 (some .boolean), Cond.fieldLink RX6 32 "SlidewardenModel" "branches" "I", Cond.methodLink RX6 81 yX6_in, Cond.static yX6_in, Cond.code yX6_in cX6_in 3 (some .boolean), Cond.methodLink RX6 134 yX6_baseOf, Cond.instanceMethod yX6_baseOf, Cond.selects RX6 yX6_baseOf yX6_baseOf, Cond.code yX6_baseOf cX6_baseOf 6 (some .int), Cond.fieldLink RX6 7 "SlidewardenModel" "versions" "I", Cond.fieldLink RX6 68 "SlidewardenModel" "isOf" "[Z", Cond.fieldLink RX6 72 "SlidewardenModel" "isOfOther" "[Z", Cond.methodLink RX6 109 yX6_layAncestors, Cond.instanceMethod yX6_layAncestors]
def wsX6_clashes_r2 : List Cond := [Cond.selects RX6 yX6_layAncestors yX6_layAncestors, Cond.code yX6_layAncestors cX6_layAncestors 8 (some .int), Cond.fieldLink RX6 17 "SlidewardenModel" "came" "[I", Cond.fieldLink RX6 20 "SlidewardenModel" "other" "[I", Cond.methodLink RX6 137 yX6_clashesOf, Cond.instanceMethod yX6_clashesOf, Cond.selects RX6 yX6_clashesOf yX6_clashesOf, Cond.code yX6_clashesOf cX6_clashesOf 8 (some .int), Cond.fieldLink RX6 96 "SlidewardenModel" "slides" "I", Cond.methodLink RX6 123 yX6_fate, Cond.instanceMethod yX6_fate, Cond.selects RX6 yX6_fate yX6_fate, Cond.code yX6_fate cX6_fate 8 (some .int), Cond.methodLink RX6 85 yX6_placeOf, Cond.instanceMethod yX6_placeOf, Cond.selects RX6 yX6_placeOf yX6_placeOf, Cond.code yX6_placeOf cX6_placeOf 4 (some .int), Cond.fieldLink RX6 23 "SlidewardenModel" "many" "[I", Cond.fieldLink RX6 26 "SlidewardenModel" "row" "[I", Cond.methodLink RX6 120 yX6_isAs, Cond.instanceMethod yX6_isAs, Cond.selects RX6 yX6_isAs yX6_isAs, Cond.code yX6_isAs cX6_isAs 6 (some .boolean), Cond.methodLink RX6 116 yX6_valueOf]
def wsX6_clashes_r3 : List Cond := [Cond.instanceMethod yX6_valueOf, Cond.selects RX6 yX6_valueOf yX6_valueOf, Cond.code yX6_valueOf cX6_valueOf 4 (some .int), Cond.fieldLink RX6 29 "SlidewardenModel" "value" "[I", Cond.methodLink RX6 127 yX6_meets, Cond.instanceMethod yX6_meets, Cond.selects RX6 yX6_meets yX6_meets, Cond.code yX6_meets cX6_meets 10 (some .int)]
def wsX6_clashes : List Cond := .code yX6_clashes cX6_clashes 3 (some .int) :: ((wsX6_clashes_r1 ++ (wsX6_clashes_r2 ++ wsX6_clashes_r3)) ++ wsX60)
def wsX6_merged_r1 : List Cond := [Cond.fieldLink RX6 78 "SlidewardenModel" "thrown" "I", Cond.fieldLink RX6 35 "SlidewardenModel" "head" "[I", Cond.methodLink RX6 93 yX6_isBranch, Cond.instanceMethod yX6_isBranch, Cond.selects RX6 yX6_isBranch yX6_isBranch, Cond.initialized RX6, Cond.code yX6_isBranch cX6_isBranch 2 (some .boolean), Cond.fieldLink RX6 32 "SlidewardenModel" "branches" "I", Cond.methodLink RX6 81 yX6_in, Cond.static yX6_in, Cond.code yX6_in cX6_in 3 (some .boolean), Cond.methodLink RX6 113 yX6_isSlide, Cond.instanceMethod yX6_isSlide, Cond.selects RX6 yX6_isSlide yX6_isSlide, Cond.code yX6_isSlide cX6_isSlide 2 (some .boolean), Cond.fieldLink RX6 96 "SlidewardenModel" "slides" "I", Cond.methodLink RX6 106 yX6_isObject, Cond.static yX6_isObject, Cond.code yX6_isObject cX6_isObject 1 (some .boolean), Cond.methodLink RX6 134 yX6_baseOf, Cond.instanceMethod yX6_baseOf, Cond.selects RX6 yX6_baseOf yX6_baseOf, Cond.code yX6_baseOf cX6_baseOf 6 (some .int), Cond.fieldLink RX6 7 "SlidewardenModel" "versions" "I"]
def wsX6_merged_r2 : List Cond := [Cond.fieldLink RX6 68 "SlidewardenModel" "isOf" "[Z", Cond.fieldLink RX6 72 "SlidewardenModel" "isOfOther" "[Z", Cond.methodLink RX6 109 yX6_layAncestors, Cond.instanceMethod yX6_layAncestors, Cond.selects RX6 yX6_layAncestors yX6_layAncestors, Cond.code yX6_layAncestors cX6_layAncestors 8 (some .int), Cond.fieldLink RX6 17 "SlidewardenModel" "came" "[I", Cond.fieldLink RX6 20 "SlidewardenModel" "other" "[I", Cond.methodLink RX6 140 yX6_settles, Cond.instanceMethod yX6_settles, Cond.selects RX6 yX6_settles yX6_settles, Cond.code yX6_settles cX6_settles 10 (some .int), Cond.methodLink RX6 123 yX6_fate, Cond.instanceMethod yX6_fate, Cond.selects RX6 yX6_fate yX6_fate, Cond.code yX6_fate cX6_fate 8 (some .int), Cond.methodLink RX6 85 yX6_placeOf, Cond.instanceMethod yX6_placeOf, Cond.selects RX6 yX6_placeOf yX6_placeOf, Cond.code yX6_placeOf cX6_placeOf 4 (some .int), Cond.fieldLink RX6 23 "SlidewardenModel" "many" "[I", Cond.fieldLink RX6 26 "SlidewardenModel" "row" "[I", Cond.methodLink RX6 120 yX6_isAs, Cond.instanceMethod yX6_isAs]
def wsX6_merged_r3 : List Cond := [Cond.selects RX6 yX6_isAs yX6_isAs, Cond.code yX6_isAs cX6_isAs 6 (some .boolean), Cond.methodLink RX6 116 yX6_valueOf, Cond.instanceMethod yX6_valueOf, Cond.selects RX6 yX6_valueOf yX6_valueOf, Cond.code yX6_valueOf cX6_valueOf 4 (some .int), Cond.fieldLink RX6 29 "SlidewardenModel" "value" "[I", Cond.methodLink RX6 127 yX6_meets, Cond.instanceMethod yX6_meets, Cond.selects RX6 yX6_meets yX6_meets, Cond.code yX6_meets cX6_meets 10 (some .int)]
def wsX6_merged : List Cond := .code yX6_merged cX6_merged 6 (some .int) :: ((wsX6_merged_r1 ++ (wsX6_merged_r2 ++ wsX6_merged_r3)) ++ wsX60)
def wsX6_lays_r1 : List Cond := [Cond.fieldLink RX6 62 "SlidewardenModel" "deckRow" "[I", Cond.fieldLink RX6 144 "SlidewardenModel" "deck" "I", Cond.fieldLink RX6 65 "SlidewardenModel" "deckValue" "[I", Cond.methodLink RX6 140 yX6_settles, Cond.instanceMethod yX6_settles, Cond.selects RX6 yX6_settles yX6_settles, Cond.initialized RX6, Cond.code yX6_settles cX6_settles 10 (some .int), Cond.methodLink RX6 123 yX6_fate, Cond.instanceMethod yX6_fate, Cond.selects RX6 yX6_fate yX6_fate, Cond.code yX6_fate cX6_fate 8 (some .int), Cond.methodLink RX6 85 yX6_placeOf, Cond.instanceMethod yX6_placeOf, Cond.selects RX6 yX6_placeOf yX6_placeOf, Cond.code yX6_placeOf cX6_placeOf 4 (some .int), Cond.fieldLink RX6 23 "SlidewardenModel" "many" "[I", Cond.fieldLink RX6 26 "SlidewardenModel" "row" "[I", Cond.methodLink RX6 120 yX6_isAs, Cond.instanceMethod yX6_isAs, Cond.selects RX6 yX6_isAs yX6_isAs, Cond.code yX6_isAs cX6_isAs 6 (some .boolean), Cond.methodLink RX6 116 yX6_valueOf, Cond.instanceMethod yX6_valueOf]
def wsX6_lays_r2 : List Cond := [Cond.selects RX6 yX6_valueOf yX6_valueOf, Cond.code yX6_valueOf cX6_valueOf 4 (some .int), Cond.fieldLink RX6 29 "SlidewardenModel" "value" "[I", Cond.methodLink RX6 127 yX6_meets, Cond.instanceMethod yX6_meets, Cond.selects RX6 yX6_meets yX6_meets, Cond.code yX6_meets cX6_meets 10 (some .int)]
def wsX6_lays : List Cond := .code yX6_lays cX6_lays 7 none :: ((wsX6_lays_r1 ++ wsX6_lays_r2) ++ wsX60)
def wsX6_layDeck_r1 : List Cond := [Cond.fieldLink RX6 144 "SlidewardenModel" "deck" "I", Cond.fieldLink RX6 23 "SlidewardenModel" "many" "[I", Cond.fieldLink RX6 26 "SlidewardenModel" "row" "[I", Cond.methodLink RX6 147 yX6_lays, Cond.instanceMethod yX6_lays, Cond.selects RX6 yX6_lays yX6_lays, Cond.initialized RX6, Cond.code yX6_lays cX6_lays 7 none, Cond.fieldLink RX6 62 "SlidewardenModel" "deckRow" "[I", Cond.fieldLink RX6 65 "SlidewardenModel" "deckValue" "[I", Cond.methodLink RX6 140 yX6_settles, Cond.instanceMethod yX6_settles, Cond.selects RX6 yX6_settles yX6_settles, Cond.code yX6_settles cX6_settles 10 (some .int), Cond.methodLink RX6 123 yX6_fate, Cond.instanceMethod yX6_fate, Cond.selects RX6 yX6_fate yX6_fate, Cond.code yX6_fate cX6_fate 8 (some .int), Cond.methodLink RX6 85 yX6_placeOf, Cond.instanceMethod yX6_placeOf, Cond.selects RX6 yX6_placeOf yX6_placeOf, Cond.code yX6_placeOf cX6_placeOf 4 (some .int), Cond.methodLink RX6 120 yX6_isAs, Cond.instanceMethod yX6_isAs]
def wsX6_layDeck_r2 : List Cond := [Cond.selects RX6 yX6_isAs yX6_isAs, Cond.code yX6_isAs cX6_isAs 6 (some .boolean), Cond.methodLink RX6 116 yX6_valueOf, Cond.instanceMethod yX6_valueOf, Cond.selects RX6 yX6_valueOf yX6_valueOf, Cond.code yX6_valueOf cX6_valueOf 4 (some .int), Cond.fieldLink RX6 29 "SlidewardenModel" "value" "[I", Cond.methodLink RX6 127 yX6_meets, Cond.instanceMethod yX6_meets, Cond.selects RX6 yX6_meets yX6_meets, Cond.code yX6_meets cX6_meets 10 (some .int)]
def wsX6_layDeck : List Cond := .code yX6_layDeck cX6_layDeck 6 none :: ((wsX6_layDeck_r1 ++ wsX6_layDeck_r2) ++ wsX60)
def wsX6_breaks : List Cond := .code yX6_breaks cX6_breaks 3 (some .boolean) :: ([.fieldLink RX6 47 "SlidewardenModel" "least" "[I", .fieldLink RX6 50 "SlidewardenModel" "most" "[I", .methodLink RX6 81 yX6_in, .static yX6_in, .initialized RX6, .code yX6_in cX6_in 3 (some .boolean)] ++ wsX60)
def wsX6_isWaived : List Cond := .code yX6_isWaived cX6_isWaived 5 (some .boolean) :: ([.fieldLink RX6 161 "SlidewardenModel" "waivers" "I", .fieldLink RX6 53 "SlidewardenModel" "ruleOf" "[I", .fieldLink RX6 56 "SlidewardenModel" "slideOf" "[I", .fieldLink RX6 59 "SlidewardenModel" "until" "[I", .fieldLink RX6 164 "SlidewardenModel" "today" "I"] ++ wsX60)
def wsX6_isBlocked : List Cond := .code yX6_isBlocked cX6_isBlocked 4 (some .boolean) :: ([.fieldLink RX6 41 "SlidewardenModel" "rank" "[I", .methodLink RX6 167 yX6_breaks, .instanceMethod yX6_breaks, .selects RX6 yX6_breaks yX6_breaks, .initialized RX6, .code yX6_breaks cX6_breaks 3 (some .boolean), .fieldLink RX6 47 "SlidewardenModel" "least" "[I", .fieldLink RX6 50 "SlidewardenModel" "most" "[I", .methodLink RX6 81 yX6_in, .static yX6_in, .code yX6_in cX6_in 3 (some .boolean), .methodLink RX6 170 yX6_isWaived, .instanceMethod yX6_isWaived, .selects RX6 yX6_isWaived yX6_isWaived, .code yX6_isWaived cX6_isWaived 5 (some .boolean), .fieldLink RX6 161 "SlidewardenModel" "waivers" "I", .fieldLink RX6 53 "SlidewardenModel" "ruleOf" "[I", .fieldLink RX6 56 "SlidewardenModel" "slideOf" "[I", .fieldLink RX6 59 "SlidewardenModel" "until" "[I", .fieldLink RX6 164 "SlidewardenModel" "today" "I"] ++ wsX60)
def wsX6_merge_r1 : List Cond := [Cond.fieldLink RX6 78 "SlidewardenModel" "thrown" "I", Cond.fieldLink RX6 35 "SlidewardenModel" "head" "[I", Cond.fieldLink RX6 144 "SlidewardenModel" "deck" "I", Cond.fieldLink RX6 155 "SlidewardenModel" "rules" "I", Cond.fieldLink RX6 62 "SlidewardenModel" "deckRow" "[I", Cond.fieldLink RX6 65 "SlidewardenModel" "deckValue" "[I", Cond.fieldLink RX6 44 "SlidewardenModel" "object" "[I", Cond.fieldLink RX6 7 "SlidewardenModel" "versions" "I", Cond.fieldLink RX6 20 "SlidewardenModel" "other" "[I", Cond.fieldLink RX6 23 "SlidewardenModel" "many" "[I", Cond.fieldLink RX6 26 "SlidewardenModel" "row" "[I", Cond.fieldLink RX6 29 "SlidewardenModel" "value" "[I", Cond.methodLink RX6 93 yX6_isBranch, Cond.instanceMethod yX6_isBranch, Cond.selects RX6 yX6_isBranch yX6_isBranch, Cond.initialized RX6, Cond.code yX6_isBranch cX6_isBranch 2 (some .boolean), Cond.fieldLink RX6 32 "SlidewardenModel" "branches" "I", Cond.methodLink RX6 81 yX6_in, Cond.static yX6_in, Cond.code yX6_in cX6_in 3 (some .boolean), Cond.methodLink RX6 134 yX6_baseOf, Cond.instanceMethod yX6_baseOf, Cond.selects RX6 yX6_baseOf yX6_baseOf]
def wsX6_merge_r2 : List Cond := [Cond.code yX6_baseOf cX6_baseOf 6 (some .int), Cond.fieldLink RX6 68 "SlidewardenModel" "isOf" "[Z", Cond.fieldLink RX6 72 "SlidewardenModel" "isOfOther" "[Z", Cond.methodLink RX6 109 yX6_layAncestors, Cond.instanceMethod yX6_layAncestors, Cond.selects RX6 yX6_layAncestors yX6_layAncestors, Cond.code yX6_layAncestors cX6_layAncestors 8 (some .int), Cond.fieldLink RX6 17 "SlidewardenModel" "came" "[I", Cond.methodLink RX6 151 yX6_layDeck, Cond.instanceMethod yX6_layDeck, Cond.selects RX6 yX6_layDeck yX6_layDeck, Cond.code yX6_layDeck cX6_layDeck 6 none, Cond.methodLink RX6 147 yX6_lays, Cond.instanceMethod yX6_lays, Cond.selects RX6 yX6_lays yX6_lays, Cond.code yX6_lays cX6_lays 7 none, Cond.methodLink RX6 140 yX6_settles, Cond.instanceMethod yX6_settles, Cond.selects RX6 yX6_settles yX6_settles, Cond.code yX6_settles cX6_settles 10 (some .int), Cond.methodLink RX6 123 yX6_fate, Cond.instanceMethod yX6_fate, Cond.selects RX6 yX6_fate yX6_fate, Cond.code yX6_fate cX6_fate 8 (some .int)]
def wsX6_merge_r3 : List Cond := [Cond.methodLink RX6 85 yX6_placeOf, Cond.instanceMethod yX6_placeOf, Cond.selects RX6 yX6_placeOf yX6_placeOf, Cond.code yX6_placeOf cX6_placeOf 4 (some .int), Cond.methodLink RX6 120 yX6_isAs, Cond.instanceMethod yX6_isAs, Cond.selects RX6 yX6_isAs yX6_isAs, Cond.code yX6_isAs cX6_isAs 6 (some .boolean), Cond.methodLink RX6 116 yX6_valueOf, Cond.instanceMethod yX6_valueOf, Cond.selects RX6 yX6_valueOf yX6_valueOf, Cond.code yX6_valueOf cX6_valueOf 4 (some .int), Cond.methodLink RX6 127 yX6_meets, Cond.instanceMethod yX6_meets, Cond.selects RX6 yX6_meets yX6_meets, Cond.code yX6_meets cX6_meets 10 (some .int), Cond.methodLink RX6 158 yX6_isBlocked, Cond.instanceMethod yX6_isBlocked, Cond.selects RX6 yX6_isBlocked yX6_isBlocked, Cond.code yX6_isBlocked cX6_isBlocked 4 (some .boolean), Cond.fieldLink RX6 41 "SlidewardenModel" "rank" "[I", Cond.methodLink RX6 167 yX6_breaks, Cond.instanceMethod yX6_breaks, Cond.selects RX6 yX6_breaks yX6_breaks]
def wsX6_merge_r4 : List Cond := [Cond.code yX6_breaks cX6_breaks 3 (some .boolean), Cond.fieldLink RX6 47 "SlidewardenModel" "least" "[I", Cond.fieldLink RX6 50 "SlidewardenModel" "most" "[I", Cond.methodLink RX6 170 yX6_isWaived, Cond.instanceMethod yX6_isWaived, Cond.selects RX6 yX6_isWaived yX6_isWaived, Cond.code yX6_isWaived cX6_isWaived 5 (some .boolean), Cond.fieldLink RX6 161 "SlidewardenModel" "waivers" "I", Cond.fieldLink RX6 53 "SlidewardenModel" "ruleOf" "[I", Cond.fieldLink RX6 56 "SlidewardenModel" "slideOf" "[I", Cond.fieldLink RX6 59 "SlidewardenModel" "until" "[I", Cond.fieldLink RX6 164 "SlidewardenModel" "today" "I", Cond.methodLink RX6 137 yX6_clashesOf, Cond.instanceMethod yX6_clashesOf, Cond.selects RX6 yX6_clashesOf yX6_clashesOf, Cond.code yX6_clashesOf cX6_clashesOf 8 (some .int), Cond.fieldLink RX6 96 "SlidewardenModel" "slides" "I", Cond.methodLink RX6 99 yX6_edits, Cond.instanceMethod yX6_edits, Cond.selects RX6 yX6_edits yX6_edits, Cond.code yX6_edits cX6_edits 8 (some .int), Cond.fieldLink RX6 13 "SlidewardenModel" "madeOn" "[I"]
def wsX6_merge : List Cond := .code yX6_merge cX6_merge 11 (some .int) :: ((wsX6_merge_r1 ++ (wsX6_merge_r2 ++ (wsX6_merge_r3 ++ wsX6_merge_r4))) ++ wsX60)
def wsX6_blocksOf_r1 : List Cond := [Cond.fieldLink RX6 23 "SlidewardenModel" "many" "[I", Cond.fieldLink RX6 155 "SlidewardenModel" "rules" "I", Cond.fieldLink RX6 26 "SlidewardenModel" "row" "[I", Cond.fieldLink RX6 29 "SlidewardenModel" "value" "[I", Cond.fieldLink RX6 44 "SlidewardenModel" "object" "[I", Cond.methodLink RX6 158 yX6_isBlocked, Cond.instanceMethod yX6_isBlocked, Cond.selects RX6 yX6_isBlocked yX6_isBlocked, Cond.initialized RX6, Cond.code yX6_isBlocked cX6_isBlocked 4 (some .boolean), Cond.fieldLink RX6 41 "SlidewardenModel" "rank" "[I", Cond.methodLink RX6 167 yX6_breaks, Cond.instanceMethod yX6_breaks, Cond.selects RX6 yX6_breaks yX6_breaks, Cond.code yX6_breaks cX6_breaks 3 (some .boolean), Cond.fieldLink RX6 47 "SlidewardenModel" "least" "[I", Cond.fieldLink RX6 50 "SlidewardenModel" "most" "[I", Cond.methodLink RX6 81 yX6_in, Cond.static yX6_in, Cond.code yX6_in cX6_in 3 (some .boolean), Cond.methodLink RX6 170 yX6_isWaived, Cond.instanceMethod yX6_isWaived, Cond.selects RX6 yX6_isWaived yX6_isWaived, Cond.code yX6_isWaived cX6_isWaived 5 (some .boolean)]
def wsX6_blocksOf_r2 : List Cond := [Cond.fieldLink RX6 161 "SlidewardenModel" "waivers" "I", Cond.fieldLink RX6 53 "SlidewardenModel" "ruleOf" "[I", Cond.fieldLink RX6 56 "SlidewardenModel" "slideOf" "[I", Cond.fieldLink RX6 59 "SlidewardenModel" "until" "[I", Cond.fieldLink RX6 164 "SlidewardenModel" "today" "I"]
def wsX6_blocksOf : List Cond := .code yX6_blocksOf cX6_blocksOf 5 (some .int) :: ((wsX6_blocksOf_r1 ++ wsX6_blocksOf_r2) ++ wsX60)
def wsX6_rule : List Cond := .code yX6_rule cX6_rule 5 (some .int) :: ([.fieldLink RX6 155 "SlidewardenModel" "rules" "I", .fieldLink RX6 78 "SlidewardenModel" "thrown" "I", .fieldLink RX6 41 "SlidewardenModel" "rank" "[I", .fieldLink RX6 44 "SlidewardenModel" "object" "[I", .fieldLink RX6 47 "SlidewardenModel" "least" "[I", .fieldLink RX6 50 "SlidewardenModel" "most" "[I", .methodLink RX6 81 yX6_in, .static yX6_in, .initialized RX6, .code yX6_in cX6_in 3 (some .boolean), .methodLink RX6 106 yX6_isObject, .static yX6_isObject, .code yX6_isObject cX6_isObject 1 (some .boolean)] ++ wsX60)
def wsX6_tighten_r1 : List Cond := [Cond.fieldLink RX6 155 "SlidewardenModel" "rules" "I", Cond.fieldLink RX6 78 "SlidewardenModel" "thrown" "I", Cond.fieldLink RX6 47 "SlidewardenModel" "least" "[I", Cond.fieldLink RX6 50 "SlidewardenModel" "most" "[I", Cond.fieldLink RX6 7 "SlidewardenModel" "versions" "I", Cond.fieldLink RX6 75 "SlidewardenModel" "was" "[Z", Cond.methodLink RX6 81 yX6_in, Cond.static yX6_in, Cond.initialized RX6, Cond.code yX6_in cX6_in 3 (some .boolean), Cond.methodLink RX6 173 yX6_blocksOf, Cond.instanceMethod yX6_blocksOf, Cond.selects RX6 yX6_blocksOf yX6_blocksOf, Cond.code yX6_blocksOf cX6_blocksOf 5 (some .int), Cond.fieldLink RX6 23 "SlidewardenModel" "many" "[I", Cond.fieldLink RX6 26 "SlidewardenModel" "row" "[I", Cond.fieldLink RX6 29 "SlidewardenModel" "value" "[I", Cond.fieldLink RX6 44 "SlidewardenModel" "object" "[I", Cond.methodLink RX6 158 yX6_isBlocked, Cond.instanceMethod yX6_isBlocked, Cond.selects RX6 yX6_isBlocked yX6_isBlocked, Cond.code yX6_isBlocked cX6_isBlocked 4 (some .boolean), Cond.fieldLink RX6 41 "SlidewardenModel" "rank" "[I", Cond.methodLink RX6 167 yX6_breaks]
def wsX6_tighten_r2 : List Cond := [Cond.instanceMethod yX6_breaks, Cond.selects RX6 yX6_breaks yX6_breaks, Cond.code yX6_breaks cX6_breaks 3 (some .boolean), Cond.methodLink RX6 170 yX6_isWaived, Cond.instanceMethod yX6_isWaived, Cond.selects RX6 yX6_isWaived yX6_isWaived, Cond.code yX6_isWaived cX6_isWaived 5 (some .boolean), Cond.fieldLink RX6 161 "SlidewardenModel" "waivers" "I", Cond.fieldLink RX6 53 "SlidewardenModel" "ruleOf" "[I", Cond.fieldLink RX6 56 "SlidewardenModel" "slideOf" "[I", Cond.fieldLink RX6 59 "SlidewardenModel" "until" "[I", Cond.fieldLink RX6 164 "SlidewardenModel" "today" "I"]
def wsX6_tighten : List Cond := .code yX6_tighten cX6_tighten 6 (some .int) :: ((wsX6_tighten_r1 ++ wsX6_tighten_r2) ++ wsX60)
def wsX6_waive : List Cond := .code yX6_waive cX6_waive 4 (some .int) :: ([.fieldLink RX6 155 "SlidewardenModel" "rules" "I", .fieldLink RX6 164 "SlidewardenModel" "today" "I", .fieldLink RX6 41 "SlidewardenModel" "rank" "[I", .fieldLink RX6 161 "SlidewardenModel" "waivers" "I", .fieldLink RX6 78 "SlidewardenModel" "thrown" "I", .fieldLink RX6 53 "SlidewardenModel" "ruleOf" "[I", .fieldLink RX6 56 "SlidewardenModel" "slideOf" "[I", .fieldLink RX6 59 "SlidewardenModel" "until" "[I", .methodLink RX6 81 yX6_in, .static yX6_in, .initialized RX6, .code yX6_in cX6_in 3 (some .boolean), .methodLink RX6 113 yX6_isSlide, .instanceMethod yX6_isSlide, .selects RX6 yX6_isSlide yX6_isSlide, .code yX6_isSlide cX6_isSlide 2 (some .boolean), .fieldLink RX6 96 "SlidewardenModel" "slides" "I"] ++ wsX60)
def wsX6_blocks_r1 : List Cond := [Cond.fieldLink RX6 78 "SlidewardenModel" "thrown" "I", Cond.methodLink RX6 89 yX6_isVersion, Cond.instanceMethod yX6_isVersion, Cond.selects RX6 yX6_isVersion yX6_isVersion, Cond.initialized RX6, Cond.code yX6_isVersion cX6_isVersion 2 (some .boolean), Cond.fieldLink RX6 7 "SlidewardenModel" "versions" "I", Cond.methodLink RX6 81 yX6_in, Cond.static yX6_in, Cond.code yX6_in cX6_in 3 (some .boolean), Cond.methodLink RX6 173 yX6_blocksOf, Cond.instanceMethod yX6_blocksOf, Cond.selects RX6 yX6_blocksOf yX6_blocksOf, Cond.code yX6_blocksOf cX6_blocksOf 5 (some .int), Cond.fieldLink RX6 23 "SlidewardenModel" "many" "[I", Cond.fieldLink RX6 155 "SlidewardenModel" "rules" "I", Cond.fieldLink RX6 26 "SlidewardenModel" "row" "[I", Cond.fieldLink RX6 29 "SlidewardenModel" "value" "[I", Cond.fieldLink RX6 44 "SlidewardenModel" "object" "[I", Cond.methodLink RX6 158 yX6_isBlocked, Cond.instanceMethod yX6_isBlocked, Cond.selects RX6 yX6_isBlocked yX6_isBlocked, Cond.code yX6_isBlocked cX6_isBlocked 4 (some .boolean), Cond.fieldLink RX6 41 "SlidewardenModel" "rank" "[I"]
def wsX6_blocks_r2 : List Cond := [Cond.methodLink RX6 167 yX6_breaks, Cond.instanceMethod yX6_breaks, Cond.selects RX6 yX6_breaks yX6_breaks, Cond.code yX6_breaks cX6_breaks 3 (some .boolean), Cond.fieldLink RX6 47 "SlidewardenModel" "least" "[I", Cond.fieldLink RX6 50 "SlidewardenModel" "most" "[I", Cond.methodLink RX6 170 yX6_isWaived, Cond.instanceMethod yX6_isWaived, Cond.selects RX6 yX6_isWaived yX6_isWaived, Cond.code yX6_isWaived cX6_isWaived 5 (some .boolean), Cond.fieldLink RX6 161 "SlidewardenModel" "waivers" "I", Cond.fieldLink RX6 53 "SlidewardenModel" "ruleOf" "[I", Cond.fieldLink RX6 56 "SlidewardenModel" "slideOf" "[I", Cond.fieldLink RX6 59 "SlidewardenModel" "until" "[I", Cond.fieldLink RX6 164 "SlidewardenModel" "today" "I"]
def wsX6_blocks : List Cond := .code yX6_blocks cX6_blocks 2 (some .int) :: ((wsX6_blocks_r1 ++ wsX6_blocks_r2) ++ wsX60)
def wsX6_warnings : List Cond := .code yX6_warnings cX6_warnings 5 (some .int) :: ([.fieldLink RX6 78 "SlidewardenModel" "thrown" "I", .fieldLink RX6 23 "SlidewardenModel" "many" "[I", .fieldLink RX6 155 "SlidewardenModel" "rules" "I", .fieldLink RX6 41 "SlidewardenModel" "rank" "[I", .fieldLink RX6 29 "SlidewardenModel" "value" "[I", .fieldLink RX6 44 "SlidewardenModel" "object" "[I", .methodLink RX6 89 yX6_isVersion, .instanceMethod yX6_isVersion, .selects RX6 yX6_isVersion yX6_isVersion, .initialized RX6, .code yX6_isVersion cX6_isVersion 2 (some .boolean), .fieldLink RX6 7 "SlidewardenModel" "versions" "I", .methodLink RX6 81 yX6_in, .static yX6_in, .code yX6_in cX6_in 3 (some .boolean), .methodLink RX6 167 yX6_breaks, .instanceMethod yX6_breaks, .selects RX6 yX6_breaks yX6_breaks, .code yX6_breaks cX6_breaks 3 (some .boolean), .fieldLink RX6 47 "SlidewardenModel" "least" "[I", .fieldLink RX6 50 "SlidewardenModel" "most" "[I"] ++ wsX60)
def wsX6_firstBlock_r1 : List Cond := [Cond.fieldLink RX6 78 "SlidewardenModel" "thrown" "I", Cond.fieldLink RX6 23 "SlidewardenModel" "many" "[I", Cond.fieldLink RX6 155 "SlidewardenModel" "rules" "I", Cond.fieldLink RX6 26 "SlidewardenModel" "row" "[I", Cond.fieldLink RX6 29 "SlidewardenModel" "value" "[I", Cond.fieldLink RX6 44 "SlidewardenModel" "object" "[I", Cond.methodLink RX6 89 yX6_isVersion, Cond.instanceMethod yX6_isVersion, Cond.selects RX6 yX6_isVersion yX6_isVersion, Cond.initialized RX6, Cond.code yX6_isVersion cX6_isVersion 2 (some .boolean), Cond.fieldLink RX6 7 "SlidewardenModel" "versions" "I", Cond.methodLink RX6 81 yX6_in, Cond.static yX6_in, Cond.code yX6_in cX6_in 3 (some .boolean), Cond.methodLink RX6 158 yX6_isBlocked, Cond.instanceMethod yX6_isBlocked, Cond.selects RX6 yX6_isBlocked yX6_isBlocked, Cond.code yX6_isBlocked cX6_isBlocked 4 (some .boolean), Cond.fieldLink RX6 41 "SlidewardenModel" "rank" "[I", Cond.methodLink RX6 167 yX6_breaks, Cond.instanceMethod yX6_breaks, Cond.selects RX6 yX6_breaks yX6_breaks, Cond.code yX6_breaks cX6_breaks 3 (some .boolean)]
def wsX6_firstBlock_r2 : List Cond := [Cond.fieldLink RX6 47 "SlidewardenModel" "least" "[I", Cond.fieldLink RX6 50 "SlidewardenModel" "most" "[I", Cond.methodLink RX6 170 yX6_isWaived, Cond.instanceMethod yX6_isWaived, Cond.selects RX6 yX6_isWaived yX6_isWaived, Cond.code yX6_isWaived cX6_isWaived 5 (some .boolean), Cond.fieldLink RX6 161 "SlidewardenModel" "waivers" "I", Cond.fieldLink RX6 53 "SlidewardenModel" "ruleOf" "[I", Cond.fieldLink RX6 56 "SlidewardenModel" "slideOf" "[I", Cond.fieldLink RX6 59 "SlidewardenModel" "until" "[I", Cond.fieldLink RX6 164 "SlidewardenModel" "today" "I"]
def wsX6_firstBlock : List Cond := .code yX6_firstBlock cX6_firstBlock 4 (some .int) :: ((wsX6_firstBlock_r1 ++ wsX6_firstBlock_r2) ++ wsX60)
def wsX6_show_r1 : List Cond := [Cond.fieldLink RX6 35 "SlidewardenModel" "head" "[I", Cond.fieldLink RX6 78 "SlidewardenModel" "thrown" "I", Cond.fieldLink RX6 38 "SlidewardenModel" "shown" "[I", Cond.methodLink RX6 93 yX6_isBranch, Cond.instanceMethod yX6_isBranch, Cond.selects RX6 yX6_isBranch yX6_isBranch, Cond.initialized RX6, Cond.code yX6_isBranch cX6_isBranch 2 (some .boolean), Cond.fieldLink RX6 32 "SlidewardenModel" "branches" "I", Cond.methodLink RX6 81 yX6_in, Cond.static yX6_in, Cond.code yX6_in cX6_in 3 (some .boolean), Cond.methodLink RX6 173 yX6_blocksOf, Cond.instanceMethod yX6_blocksOf, Cond.selects RX6 yX6_blocksOf yX6_blocksOf, Cond.code yX6_blocksOf cX6_blocksOf 5 (some .int), Cond.fieldLink RX6 23 "SlidewardenModel" "many" "[I", Cond.fieldLink RX6 155 "SlidewardenModel" "rules" "I", Cond.fieldLink RX6 26 "SlidewardenModel" "row" "[I", Cond.fieldLink RX6 29 "SlidewardenModel" "value" "[I", Cond.fieldLink RX6 44 "SlidewardenModel" "object" "[I", Cond.methodLink RX6 158 yX6_isBlocked, Cond.instanceMethod yX6_isBlocked, Cond.selects RX6 yX6_isBlocked yX6_isBlocked]
def wsX6_show_r2 : List Cond := [Cond.code yX6_isBlocked cX6_isBlocked 4 (some .boolean), Cond.fieldLink RX6 41 "SlidewardenModel" "rank" "[I", Cond.methodLink RX6 167 yX6_breaks, Cond.instanceMethod yX6_breaks, Cond.selects RX6 yX6_breaks yX6_breaks, Cond.code yX6_breaks cX6_breaks 3 (some .boolean), Cond.fieldLink RX6 47 "SlidewardenModel" "least" "[I", Cond.fieldLink RX6 50 "SlidewardenModel" "most" "[I", Cond.methodLink RX6 170 yX6_isWaived, Cond.instanceMethod yX6_isWaived, Cond.selects RX6 yX6_isWaived yX6_isWaived, Cond.code yX6_isWaived cX6_isWaived 5 (some .boolean), Cond.fieldLink RX6 161 "SlidewardenModel" "waivers" "I", Cond.fieldLink RX6 53 "SlidewardenModel" "ruleOf" "[I", Cond.fieldLink RX6 56 "SlidewardenModel" "slideOf" "[I", Cond.fieldLink RX6 59 "SlidewardenModel" "until" "[I", Cond.fieldLink RX6 164 "SlidewardenModel" "today" "I"]
def wsX6_show : List Cond := .code yX6_show cX6_show 2 (some .int) :: ((wsX6_show_r1 ++ wsX6_show_r2) ++ wsX60)
def wsX6_shown_r1 : List Cond := [Cond.fieldLink RX6 78 "SlidewardenModel" "thrown" "I", Cond.fieldLink RX6 38 "SlidewardenModel" "shown" "[I", Cond.methodLink RX6 93 yX6_isBranch, Cond.instanceMethod yX6_isBranch, Cond.selects RX6 yX6_isBranch yX6_isBranch, Cond.initialized RX6, Cond.code yX6_isBranch cX6_isBranch 2 (some .boolean), Cond.fieldLink RX6 32 "SlidewardenModel" "branches" "I", Cond.methodLink RX6 81 yX6_in, Cond.static yX6_in, Cond.code yX6_in cX6_in 3 (some .boolean), Cond.methodLink RX6 173 yX6_blocksOf, Cond.instanceMethod yX6_blocksOf, Cond.selects RX6 yX6_blocksOf yX6_blocksOf, Cond.code yX6_blocksOf cX6_blocksOf 5 (some .int), Cond.fieldLink RX6 23 "SlidewardenModel" "many" "[I", Cond.fieldLink RX6 155 "SlidewardenModel" "rules" "I", Cond.fieldLink RX6 26 "SlidewardenModel" "row" "[I", Cond.fieldLink RX6 29 "SlidewardenModel" "value" "[I", Cond.fieldLink RX6 44 "SlidewardenModel" "object" "[I", Cond.methodLink RX6 158 yX6_isBlocked, Cond.instanceMethod yX6_isBlocked, Cond.selects RX6 yX6_isBlocked yX6_isBlocked, Cond.code yX6_isBlocked cX6_isBlocked 4 (some .boolean)]
def wsX6_shown_r2 : List Cond := [Cond.fieldLink RX6 41 "SlidewardenModel" "rank" "[I", Cond.methodLink RX6 167 yX6_breaks, Cond.instanceMethod yX6_breaks, Cond.selects RX6 yX6_breaks yX6_breaks, Cond.code yX6_breaks cX6_breaks 3 (some .boolean), Cond.fieldLink RX6 47 "SlidewardenModel" "least" "[I", Cond.fieldLink RX6 50 "SlidewardenModel" "most" "[I", Cond.methodLink RX6 170 yX6_isWaived, Cond.instanceMethod yX6_isWaived, Cond.selects RX6 yX6_isWaived yX6_isWaived, Cond.code yX6_isWaived cX6_isWaived 5 (some .boolean), Cond.fieldLink RX6 161 "SlidewardenModel" "waivers" "I", Cond.fieldLink RX6 53 "SlidewardenModel" "ruleOf" "[I", Cond.fieldLink RX6 56 "SlidewardenModel" "slideOf" "[I", Cond.fieldLink RX6 59 "SlidewardenModel" "until" "[I", Cond.fieldLink RX6 164 "SlidewardenModel" "today" "I"]
def wsX6_shown : List Cond := .code yX6_shown cX6_shown 2 (some .int) :: ((wsX6_shown_r1 ++ wsX6_shown_r2) ++ wsX60)
def wsX6_pass : List Cond := .code yX6_pass cX6_pass 2 (some .int) :: ([.fieldLink RX6 164 "SlidewardenModel" "today" "I", .fieldLink RX6 78 "SlidewardenModel" "thrown" "I", .methodLink RX6 81 yX6_in, .static yX6_in, .initialized RX6, .code yX6_in cX6_in 3 (some .boolean)] ++ wsX60)
def wsL_branch : List Cond := .codeWith yL_branch cL_branch 4 (some .int) [(0, 9, 12, 13), (0, 9, 15, 15)] :: ([.classLink RL 13 "java/lang/IndexOutOfBoundsException", .classLink RL 15 "java/lang/IllegalStateException", .methodLink RL 7 yX5_branch, .instanceMethod yX5_branch, .selects RX5 yX5_branch yX5_branch, .initialized RX5, .code yX5_branch cX5_branch 3 (some .int), .classLink RX5 59 "java/lang/IllegalStateException", .initialized "java/lang/IllegalStateException", .fieldLink RX5 52 "Slidewarden" "branchCount" "I", .fieldLink RX5 15 "Slidewarden" "heads" "[I", .methodLink RX5 55 yX5_checkVersion, .instanceMethod yX5_checkVersion, .selects RX5 yX5_checkVersion yX5_checkVersion, .code yX5_checkVersion cX5_checkVersion 2 none, .classLink RX5 76 "java/lang/IndexOutOfBoundsException", .initialized "java/lang/IndexOutOfBoundsException", .fieldLink RX5 48 "Slidewarden" "versionCount" "I"] ++ wsX50 ++ (vx_atS RX5 63 "java/lang/IllegalStateException" ["java/lang/RuntimeException", "java/lang/Exception"]).filter goodWord ++ (vx_atS RX5 80 "java/lang/IndexOutOfBoundsException" ["java/lang/RuntimeException", "java/lang/Exception"]).filter goodWord)
def wsL_add_r1 : List Cond := [Cond.classLink RL 13 "java/lang/IndexOutOfBoundsException", Cond.classLink RL 15 "java/lang/IllegalStateException", Cond.methodLink RL 17 yX5_add, Cond.instanceMethod yX5_add, Cond.selects RX5 yX5_add yX5_add, Cond.initialized RX5, Cond.code yX5_add cX5_add 5 (some .int), Cond.classLink RX5 76 "java/lang/IndexOutOfBoundsException", Cond.initialized "java/lang/IndexOutOfBoundsException", Cond.classLink RX5 59 "java/lang/IllegalStateException", Cond.initialized "java/lang/IllegalStateException", Cond.fieldLink RX5 73 "Slidewarden$Deck" "size" "I", Cond.fieldLink RX5 83 "Slidewarden" "slideCount" "I", Cond.methodLink RX5 66 yX5_checkBranch, Cond.instanceMethod yX5_checkBranch, Cond.selects RX5 yX5_checkBranch yX5_checkBranch, Cond.code yX5_checkBranch cX5_checkBranch 2 none, Cond.fieldLink RX5 52 "Slidewarden" "branchCount" "I", Cond.methodLink RX5 69 yX5_headDeck, Cond.instanceMethod yX5_headDeck, Cond.selects RX5 yX5_headDeck yX5_headDeck, Cond.code yX5_headDeck cX5_headDeck 2 (some (.object "Slidewarden$Deck")), Cond.fieldLink RX5 11 "Slidewarden" "versions" "[LSlidewarden$Version;", Cond.fieldLink RX5 15 "Slidewarden" "heads" "[I"]
def wsL_add_r2 : List Cond := [Cond.fieldLink RX5 130 "Slidewarden$Version" "deck" "LSlidewarden$Deck;", Cond.methodLink RX5 88 yX5_checkRoomForVersion, Cond.instanceMethod yX5_checkRoomForVersion, Cond.selects RX5 yX5_checkRoomForVersion yX5_checkRoomForVersion, Cond.code yX5_checkRoomForVersion cX5_checkRoomForVersion 1 none, Cond.fieldLink RX5 48 "Slidewarden" "versionCount" "I", Cond.methodLink RX5 91 yX5_makeVersion, Cond.instanceMethod yX5_makeVersion, Cond.selects RX5 yX5_makeVersion yX5_makeVersion, Cond.code yX5_makeVersion cX5_makeVersion 6 (some (.object "Slidewarden$Deck")), Cond.fieldLink RX5 121 "Slidewarden$Version" "madeOn" "I", Cond.fieldLink RX5 124 "Slidewarden$Version" "cameFrom" "I", Cond.fieldLink RX5 127 "Slidewarden$Version" "mergedFrom" "I", Cond.fieldLink RX5 44 "Slidewarden$Version" "ancestors" "J", Cond.methodLink RX5 191 yX0_copyFrom, Cond.instanceMethod yX0_copyFrom, Cond.selects RX0 yX0_copyFrom yX0_copyFrom, Cond.initialized RX0, Cond.code yX0_copyFrom cX0_copyFrom 2 none, Cond.fieldLink RX0 9 "Slidewarden$Deck" "slides" "[I", Cond.methodLink RX0 38 arraycopyName, Cond.native arraycopyName, Cond.static arraycopyName, Cond.initialized "java/lang/System"]
def wsL_add_r3 : List Cond := [Cond.fieldLink RX0 15 "Slidewarden$Deck" "values" "[I", Cond.fieldLink RX0 18 "Slidewarden$Deck" "size" "I", Cond.methodLink RX5 95 yX0_insert, Cond.instanceMethod yX0_insert, Cond.selects RX0 yX0_insert yX0_insert, Cond.code yX0_insert cX0_insert 4 none, Cond.methodLink RX0 30 yX0_move, Cond.instanceMethod yX0_move, Cond.selects RX0 yX0_move yX0_move, Cond.code yX0_move cX0_move 4 none, Cond.methodLink RX0 26 yX0_valueAt, Cond.instanceMethod yX0_valueAt, Cond.selects RX0 yX0_valueAt yX0_valueAt, Cond.code yX0_valueAt cX0_valueAt 3 (some .int), Cond.methodLink RX0 34 yX0_put, Cond.instanceMethod yX0_put, Cond.selects RX0 yX0_put yX0_put, Cond.code yX0_put cX0_put 4 none]
def wsL_add : List Cond := .codeWith yL_add cL_add 5 (some .int) [(0, 10, 13, 13), (0, 10, 17, 15)] :: ((wsL_add_r1 ++ (wsL_add_r2 ++ wsL_add_r3)) ++ wsX00 ++ wsX50 ++ wsX30 ++ (vx_atS RX5 80 "java/lang/IndexOutOfBoundsException" ["java/lang/RuntimeException", "java/lang/Exception"]).filter goodWord ++ (vx_atS RX5 63 "java/lang/IllegalStateException" ["java/lang/RuntimeException", "java/lang/Exception"]).filter goodWord)
def wsL_set_r1 : List Cond := [Cond.classLink RL 13 "java/lang/IndexOutOfBoundsException", Cond.classLink RL 25 "java/lang/IllegalArgumentException", Cond.classLink RL 15 "java/lang/IllegalStateException", Cond.methodLink RL 21 yX5_set, Cond.instanceMethod yX5_set, Cond.selects RX5 yX5_set yX5_set, Cond.initialized RX5, Cond.code yX5_set cX5_set 8 (some .int), Cond.classLink RX5 106 "java/lang/IllegalArgumentException", Cond.initialized "java/lang/IllegalArgumentException", Cond.methodLink RX5 66 yX5_checkBranch, Cond.instanceMethod yX5_checkBranch, Cond.selects RX5 yX5_checkBranch yX5_checkBranch, Cond.code yX5_checkBranch cX5_checkBranch 2 none, Cond.classLink RX5 76 "java/lang/IndexOutOfBoundsException", Cond.initialized "java/lang/IndexOutOfBoundsException", Cond.fieldLink RX5 52 "Slidewarden" "branchCount" "I", Cond.methodLink RX5 99 yX5_placeInHead, Cond.instanceMethod yX5_placeInHead, Cond.selects RX5 yX5_placeInHead yX5_placeInHead, Cond.code yX5_placeInHead cX5_placeInHead 4 (some .int), Cond.methodLink RX5 69 yX5_headDeck, Cond.instanceMethod yX5_headDeck, Cond.selects RX5 yX5_headDeck yX5_headDeck]
def wsL_set_r2 : List Cond := [Cond.code yX5_headDeck cX5_headDeck 2 (some (.object "Slidewarden$Deck")), Cond.fieldLink RX5 11 "Slidewarden" "versions" "[LSlidewarden$Version;", Cond.fieldLink RX5 15 "Slidewarden" "heads" "[I", Cond.fieldLink RX5 130 "Slidewarden$Version" "deck" "LSlidewarden$Deck;", Cond.methodLink RX5 274 yX0_placeOf, Cond.instanceMethod yX0_placeOf, Cond.selects RX0 yX0_placeOf yX0_placeOf, Cond.initialized RX0, Cond.code yX0_placeOf cX0_placeOf 3 (some .int), Cond.fieldLink RX0 18 "Slidewarden$Deck" "size" "I", Cond.fieldLink RX0 9 "Slidewarden$Deck" "slides" "[I", Cond.methodLink RX5 103 yX5_checkObject, Cond.static yX5_checkObject, Cond.code yX5_checkObject cX5_checkObject 1 none, Cond.methodLink RX5 88 yX5_checkRoomForVersion, Cond.instanceMethod yX5_checkRoomForVersion, Cond.selects RX5 yX5_checkRoomForVersion yX5_checkRoomForVersion, Cond.code yX5_checkRoomForVersion cX5_checkRoomForVersion 1 none, Cond.classLink RX5 59 "java/lang/IllegalStateException", Cond.initialized "java/lang/IllegalStateException", Cond.fieldLink RX5 48 "Slidewarden" "versionCount" "I", Cond.methodLink RX5 91 yX5_makeVersion, Cond.instanceMethod yX5_makeVersion, Cond.selects RX5 yX5_makeVersion yX5_makeVersion]
def wsL_set_r3 : List Cond := [Cond.code yX5_makeVersion cX5_makeVersion 6 (some (.object "Slidewarden$Deck")), Cond.fieldLink RX5 121 "Slidewarden$Version" "madeOn" "I", Cond.fieldLink RX5 124 "Slidewarden$Version" "cameFrom" "I", Cond.fieldLink RX5 127 "Slidewarden$Version" "mergedFrom" "I", Cond.fieldLink RX5 44 "Slidewarden$Version" "ancestors" "J", Cond.methodLink RX5 191 yX0_copyFrom, Cond.instanceMethod yX0_copyFrom, Cond.selects RX0 yX0_copyFrom yX0_copyFrom, Cond.code yX0_copyFrom cX0_copyFrom 2 none, Cond.methodLink RX0 38 arraycopyName, Cond.native arraycopyName, Cond.static arraycopyName, Cond.initialized "java/lang/System", Cond.fieldLink RX0 15 "Slidewarden$Deck" "values" "[I", Cond.methodLink RX5 111 yX0_valueAt, Cond.instanceMethod yX0_valueAt, Cond.selects RX0 yX0_valueAt yX0_valueAt, Cond.code yX0_valueAt cX0_valueAt 3 (some .int), Cond.methodLink RX5 114 yX0_put, Cond.instanceMethod yX0_put, Cond.selects RX0 yX0_put yX0_put, Cond.code yX0_put cX0_put 4 none]
def wsL_set : List Cond := .codeWith yL_set cL_set 7 (some .int) [(0, 14, 17, 13), (0, 14, 21, 25), (0, 14, 25, 15)] :: ((wsL_set_r1 ++ (wsL_set_r2 ++ wsL_set_r3)) ++ wsX50 ++ wsX30 ++ wsX00 ++ (vx_atS RX5 110 "java/lang/IllegalArgumentException" ["java/lang/RuntimeException", "java/lang/Exception"]).filter goodWord ++ (vx_atS RX5 80 "java/lang/IndexOutOfBoundsException" ["java/lang/RuntimeException", "java/lang/Exception"]).filter goodWord ++ (vx_atS RX5 63 "java/lang/IllegalStateException" ["java/lang/RuntimeException", "java/lang/Exception"]).filter goodWord)
def wsL_drop_r1 : List Cond := [Cond.classLink RL 13 "java/lang/IndexOutOfBoundsException", Cond.classLink RL 15 "java/lang/IllegalStateException", Cond.methodLink RL 27 yX5_drop, Cond.instanceMethod yX5_drop, Cond.selects RX5 yX5_drop yX5_drop, Cond.initialized RX5, Cond.code yX5_drop cX5_drop 4 (some .int), Cond.fieldLink RX5 15 "Slidewarden" "heads" "[I", Cond.methodLink RX5 66 yX5_checkBranch, Cond.instanceMethod yX5_checkBranch, Cond.selects RX5 yX5_checkBranch yX5_checkBranch, Cond.code yX5_checkBranch cX5_checkBranch 2 none, Cond.classLink RX5 76 "java/lang/IndexOutOfBoundsException", Cond.initialized "java/lang/IndexOutOfBoundsException", Cond.fieldLink RX5 52 "Slidewarden" "branchCount" "I", Cond.methodLink RX5 99 yX5_placeInHead, Cond.instanceMethod yX5_placeInHead, Cond.selects RX5 yX5_placeInHead yX5_placeInHead, Cond.code yX5_placeInHead cX5_placeInHead 4 (some .int), Cond.methodLink RX5 69 yX5_headDeck, Cond.instanceMethod yX5_headDeck, Cond.selects RX5 yX5_headDeck yX5_headDeck, Cond.code yX5_headDeck cX5_headDeck 2 (some (.object "Slidewarden$Deck")), Cond.fieldLink RX5 11 "Slidewarden" "versions" "[LSlidewarden$Version;"]
def wsL_drop_r2 : List Cond := [Cond.fieldLink RX5 130 "Slidewarden$Version" "deck" "LSlidewarden$Deck;", Cond.methodLink RX5 274 yX0_placeOf, Cond.instanceMethod yX0_placeOf, Cond.selects RX0 yX0_placeOf yX0_placeOf, Cond.initialized RX0, Cond.code yX0_placeOf cX0_placeOf 3 (some .int), Cond.fieldLink RX0 18 "Slidewarden$Deck" "size" "I", Cond.fieldLink RX0 9 "Slidewarden$Deck" "slides" "[I", Cond.methodLink RX5 88 yX5_checkRoomForVersion, Cond.instanceMethod yX5_checkRoomForVersion, Cond.selects RX5 yX5_checkRoomForVersion yX5_checkRoomForVersion, Cond.code yX5_checkRoomForVersion cX5_checkRoomForVersion 1 none, Cond.classLink RX5 59 "java/lang/IllegalStateException", Cond.initialized "java/lang/IllegalStateException", Cond.fieldLink RX5 48 "Slidewarden" "versionCount" "I", Cond.methodLink RX5 91 yX5_makeVersion, Cond.instanceMethod yX5_makeVersion, Cond.selects RX5 yX5_makeVersion yX5_makeVersion, Cond.code yX5_makeVersion cX5_makeVersion 6 (some (.object "Slidewarden$Deck")), Cond.fieldLink RX5 121 "Slidewarden$Version" "madeOn" "I", Cond.fieldLink RX5 124 "Slidewarden$Version" "cameFrom" "I", Cond.fieldLink RX5 127 "Slidewarden$Version" "mergedFrom" "I", Cond.fieldLink RX5 44 "Slidewarden$Version" "ancestors" "J", Cond.methodLink RX5 191 yX0_copyFrom]
def wsL_drop_r3 : List Cond := [Cond.instanceMethod yX0_copyFrom, Cond.selects RX0 yX0_copyFrom yX0_copyFrom, Cond.code yX0_copyFrom cX0_copyFrom 2 none, Cond.methodLink RX0 38 arraycopyName, Cond.native arraycopyName, Cond.static arraycopyName, Cond.initialized "java/lang/System", Cond.fieldLink RX0 15 "Slidewarden$Deck" "values" "[I", Cond.methodLink RX5 118 yX0_removeAt, Cond.instanceMethod yX0_removeAt, Cond.selects RX0 yX0_removeAt yX0_removeAt, Cond.code yX0_removeAt cX0_removeAt 3 none, Cond.methodLink RX0 30 yX0_move, Cond.instanceMethod yX0_move, Cond.selects RX0 yX0_move yX0_move, Cond.code yX0_move cX0_move 4 none, Cond.methodLink RX0 26 yX0_valueAt, Cond.instanceMethod yX0_valueAt, Cond.selects RX0 yX0_valueAt yX0_valueAt, Cond.code yX0_valueAt cX0_valueAt 3 (some .int), Cond.methodLink RX0 34 yX0_put, Cond.instanceMethod yX0_put, Cond.selects RX0 yX0_put yX0_put, Cond.code yX0_put cX0_put 4 none]
def wsL_drop : List Cond := .codeWith yL_drop cL_drop 5 (some .int) [(0, 10, 13, 13), (0, 10, 17, 15)] :: ((wsL_drop_r1 ++ (wsL_drop_r2 ++ wsL_drop_r3)) ++ wsX50 ++ wsX30 ++ wsX00 ++ (vx_atS RX5 80 "java/lang/IndexOutOfBoundsException" ["java/lang/RuntimeException", "java/lang/Exception"]).filter goodWord ++ (vx_atS RX5 63 "java/lang/IllegalStateException" ["java/lang/RuntimeException", "java/lang/Exception"]).filter goodWord)
def wsL_head : List Cond := .codeWith yL_head cL_head 4 (some .int) [(0, 9, 12, 13)] :: ([.classLink RL 13 "java/lang/IndexOutOfBoundsException", .methodLink RL 30 yX5_head, .instanceMethod yX5_head, .selects RX5 yX5_head yX5_head, .initialized RX5, .code yX5_head cX5_head 2 (some .int), .fieldLink RX5 15 "Slidewarden" "heads" "[I", .methodLink RX5 66 yX5_checkBranch, .instanceMethod yX5_checkBranch, .selects RX5 yX5_checkBranch yX5_checkBranch, .code yX5_checkBranch cX5_checkBranch 2 none, .classLink RX5 76 "java/lang/IndexOutOfBoundsException", .initialized "java/lang/IndexOutOfBoundsException", .fieldLink RX5 52 "Slidewarden" "branchCount" "I"] ++ wsX50 ++ (vx_atS RX5 80 "java/lang/IndexOutOfBoundsException" ["java/lang/RuntimeException", "java/lang/Exception"]).filter goodWord)
def wsL_about_r1 : List Cond := [Cond.classLink RL 13 "java/lang/IndexOutOfBoundsException", Cond.classLink RL 25 "java/lang/IllegalArgumentException", Cond.methodLink RL 33 yX5_about, Cond.instanceMethod yX5_about, Cond.selects RX5 yX5_about yX5_about, Cond.initialized RX5, Cond.code yX5_about cX5_about 4 (some .int), Cond.classLink RX5 106 "java/lang/IllegalArgumentException", Cond.initialized "java/lang/IllegalArgumentException", Cond.fieldLink RX5 11 "Slidewarden" "versions" "[LSlidewarden$Version;", Cond.fieldLink RX5 121 "Slidewarden$Version" "madeOn" "I", Cond.fieldLink RX5 124 "Slidewarden$Version" "cameFrom" "I", Cond.fieldLink RX5 127 "Slidewarden$Version" "mergedFrom" "I", Cond.fieldLink RX5 130 "Slidewarden$Version" "deck" "LSlidewarden$Deck;", Cond.fieldLink RX5 73 "Slidewarden$Deck" "size" "I", Cond.fieldLink RX5 44 "Slidewarden$Version" "ancestors" "J", Cond.methodLink RX5 55 yX5_checkVersion, Cond.instanceMethod yX5_checkVersion, Cond.selects RX5 yX5_checkVersion yX5_checkVersion, Cond.code yX5_checkVersion cX5_checkVersion 2 none, Cond.classLink RX5 76 "java/lang/IndexOutOfBoundsException", Cond.initialized "java/lang/IndexOutOfBoundsException", Cond.fieldLink RX5 48 "Slidewarden" "versionCount" "I", Cond.methodLink RX5 133 yJ13_bitCount_95d88]
def wsL_about_r2 : List Cond := [Cond.static yJ13_bitCount_95d88, Cond.initialized RJ13, Cond.code yJ13_bitCount_95d88 cJ13_bitCount_95d88 2 (some .int), Cond.constantLong RJ13 314 (6148914691236517205), Cond.constantLong RJ13 316 (3689348814741910323), Cond.constantLong RJ13 318 (1085102592571150095)]
def wsL_about : List Cond := .codeWith yL_about cL_about 5 (some .int) [(0, 10, 13, 13), (0, 10, 17, 25)] :: ((wsL_about_r1 ++ wsL_about_r2) ++ wsX50 ++ wsX30 ++ wsX00 ++ (vx_atS RX5 110 "java/lang/IllegalArgumentException" ["java/lang/RuntimeException", "java/lang/Exception"]).filter goodWord ++ (vx_atS RX5 80 "java/lang/IndexOutOfBoundsException" ["java/lang/RuntimeException", "java/lang/Exception"]).filter goodWord)
def wsL_value_r1 : List Cond := [Cond.classLink RL 13 "java/lang/IndexOutOfBoundsException", Cond.methodLink RL 36 yX5_value, Cond.instanceMethod yX5_value, Cond.selects RX5 yX5_value yX5_value, Cond.initialized RX5, Cond.code yX5_value cX5_value 4 (some .int), Cond.fieldLink RX5 11 "Slidewarden" "versions" "[LSlidewarden$Version;", Cond.fieldLink RX5 130 "Slidewarden$Version" "deck" "LSlidewarden$Deck;", Cond.methodLink RX5 55 yX5_checkVersion, Cond.instanceMethod yX5_checkVersion, Cond.selects RX5 yX5_checkVersion yX5_checkVersion, Cond.code yX5_checkVersion cX5_checkVersion 2 none, Cond.classLink RX5 76 "java/lang/IndexOutOfBoundsException", Cond.initialized "java/lang/IndexOutOfBoundsException", Cond.fieldLink RX5 48 "Slidewarden" "versionCount" "I", Cond.methodLink RX5 141 yX5_checkSlide, Cond.instanceMethod yX5_checkSlide, Cond.selects RX5 yX5_checkSlide yX5_checkSlide, Cond.code yX5_checkSlide cX5_checkSlide 2 none, Cond.fieldLink RX5 83 "Slidewarden" "slideCount" "I", Cond.methodLink RX5 103 yX5_checkObject, Cond.static yX5_checkObject, Cond.code yX5_checkObject cX5_checkObject 1 none, Cond.methodLink RX5 144 yX0_valueOf]
def wsL_value_r2 : List Cond := [Cond.instanceMethod yX0_valueOf, Cond.selects RX0 yX0_valueOf yX0_valueOf, Cond.initialized RX0, Cond.code yX0_valueOf cX0_valueOf 4 (some .int), Cond.methodLink RX0 22 yX0_placeOf, Cond.instanceMethod yX0_placeOf, Cond.selects RX0 yX0_placeOf yX0_placeOf, Cond.code yX0_placeOf cX0_placeOf 3 (some .int), Cond.fieldLink RX0 18 "Slidewarden$Deck" "size" "I", Cond.fieldLink RX0 9 "Slidewarden$Deck" "slides" "[I", Cond.methodLink RX0 26 yX0_valueAt, Cond.instanceMethod yX0_valueAt, Cond.selects RX0 yX0_valueAt yX0_valueAt, Cond.code yX0_valueAt cX0_valueAt 3 (some .int), Cond.fieldLink RX0 15 "Slidewarden$Deck" "values" "[I"]
def wsL_value : List Cond := .codeWith yL_value cL_value 6 (some .int) [(0, 12, 15, 13)] :: ((wsL_value_r1 ++ wsL_value_r2) ++ wsX50 ++ wsX30 ++ wsX00 ++ (vx_atS RX5 80 "java/lang/IndexOutOfBoundsException" ["java/lang/RuntimeException", "java/lang/Exception"]).filter goodWord)
def wsL_slideAt : List Cond := .codeWith yL_slideAt cL_slideAt 5 (some .int) [(0, 10, 13, 13)] :: ([.classLink RL 13 "java/lang/IndexOutOfBoundsException", .methodLink RL 40 yX5_slideAt, .instanceMethod yX5_slideAt, .selects RX5 yX5_slideAt yX5_slideAt, .initialized RX5, .code yX5_slideAt cX5_slideAt 4 (some .int), .classLink RX5 76 "java/lang/IndexOutOfBoundsException", .initialized "java/lang/IndexOutOfBoundsException", .fieldLink RX5 11 "Slidewarden" "versions" "[LSlidewarden$Version;", .fieldLink RX5 130 "Slidewarden$Version" "deck" "LSlidewarden$Deck;", .fieldLink RX5 73 "Slidewarden$Deck" "size" "I", .fieldLink RX5 149 "Slidewarden$Deck" "slides" "[I", .methodLink RX5 55 yX5_checkVersion, .instanceMethod yX5_checkVersion, .selects RX5 yX5_checkVersion yX5_checkVersion, .code yX5_checkVersion cX5_checkVersion 2 none, .fieldLink RX5 48 "Slidewarden" "versionCount" "I"] ++ wsX50 ++ wsX30 ++ wsX00 ++ (vx_atS RX5 80 "java/lang/IndexOutOfBoundsException" ["java/lang/RuntimeException", "java/lang/Exception"]).filter goodWord)
def wsL_base_r1 : List Cond := [Cond.classLink RL 13 "java/lang/IndexOutOfBoundsException", Cond.classLink RL 25 "java/lang/IllegalArgumentException", Cond.methodLink RL 43 yX5_base, Cond.instanceMethod yX5_base, Cond.selects RX5 yX5_base yX5_base, Cond.initialized RX5, Cond.code yX5_base cX5_base 3 (some .int), Cond.methodLink RX5 66 yX5_checkBranch, Cond.instanceMethod yX5_checkBranch, Cond.selects RX5 yX5_checkBranch yX5_checkBranch, Cond.code yX5_checkBranch cX5_checkBranch 2 none, Cond.classLink RX5 76 "java/lang/IndexOutOfBoundsException", Cond.initialized "java/lang/IndexOutOfBoundsException", Cond.fieldLink RX5 52 "Slidewarden" "branchCount" "I", Cond.methodLink RX5 152 yX5_checkDifferent, Cond.static yX5_checkDifferent, Cond.code yX5_checkDifferent cX5_checkDifferent 2 none, Cond.classLink RX5 106 "java/lang/IllegalArgumentException", Cond.initialized "java/lang/IllegalArgumentException", Cond.methodLink RX5 155 yX5_baseOf, Cond.instanceMethod yX5_baseOf, Cond.selects RX5 yX5_baseOf yX5_baseOf, Cond.code yX5_baseOf cX5_baseOf 6 (some .int), Cond.fieldLink RX5 11 "Slidewarden" "versions" "[LSlidewarden$Version;"]
def wsL_base_r2 : List Cond := [Cond.fieldLink RX5 15 "Slidewarden" "heads" "[I", Cond.fieldLink RX5 44 "Slidewarden$Version" "ancestors" "J", Cond.fieldLink RX5 48 "Slidewarden" "versionCount" "I"]
def wsL_base : List Cond := .codeWith yL_base cL_base 5 (some .int) [(0, 10, 13, 13), (0, 10, 17, 25)] :: ((wsL_base_r1 ++ wsL_base_r2) ++ wsX50 ++ wsX30 ++ (vx_atS RX5 80 "java/lang/IndexOutOfBoundsException" ["java/lang/RuntimeException", "java/lang/Exception"]).filter goodWord ++ (vx_atS RX5 110 "java/lang/IllegalArgumentException" ["java/lang/RuntimeException", "java/lang/Exception"]).filter goodWord)
def wsL_clashes_r1 : List Cond := [Cond.classLink RL 13 "java/lang/IndexOutOfBoundsException", Cond.classLink RL 25 "java/lang/IllegalArgumentException", Cond.methodLink RL 46 yX5_clashes, Cond.instanceMethod yX5_clashes, Cond.selects RX5 yX5_clashes yX5_clashes, Cond.initialized RX5, Cond.code yX5_clashes cX5_clashes 3 (some .int), Cond.fieldLink RX5 83 "Slidewarden" "slideCount" "I", Cond.methodLink RX5 66 yX5_checkBranch, Cond.instanceMethod yX5_checkBranch, Cond.selects RX5 yX5_checkBranch yX5_checkBranch, Cond.code yX5_checkBranch cX5_checkBranch 2 none, Cond.classLink RX5 76 "java/lang/IndexOutOfBoundsException", Cond.initialized "java/lang/IndexOutOfBoundsException", Cond.fieldLink RX5 52 "Slidewarden" "branchCount" "I", Cond.methodLink RX5 152 yX5_checkDifferent, Cond.static yX5_checkDifferent, Cond.code yX5_checkDifferent cX5_checkDifferent 2 none, Cond.classLink RX5 106 "java/lang/IllegalArgumentException", Cond.initialized "java/lang/IllegalArgumentException", Cond.methodLink RX5 158 yX5_mergeOf, Cond.instanceMethod yX5_mergeOf, Cond.selects RX5 yX5_mergeOf yX5_mergeOf, Cond.code yX5_mergeOf cX5_mergeOf 3 (some (.object "Slidewarden$Merge"))]
def wsL_clashes_r2 : List Cond := [Cond.classLink RX5 163 RX1, Cond.instantiable RX1 3, Cond.initialized RX1, Cond.fieldLink RX5 11 "Slidewarden" "versions" "[LSlidewarden$Version;", Cond.fieldLink RX5 130 "Slidewarden$Version" "deck" "LSlidewarden$Deck;", Cond.methodLink RX5 155 yX5_baseOf, Cond.instanceMethod yX5_baseOf, Cond.selects RX5 yX5_baseOf yX5_baseOf, Cond.code yX5_baseOf cX5_baseOf 6 (some .int), Cond.fieldLink RX5 15 "Slidewarden" "heads" "[I", Cond.fieldLink RX5 44 "Slidewarden$Version" "ancestors" "J", Cond.fieldLink RX5 48 "Slidewarden" "versionCount" "I", Cond.methodLink RX5 69 yX5_headDeck, Cond.instanceMethod yX5_headDeck, Cond.selects RX5 yX5_headDeck yX5_headDeck, Cond.code yX5_headDeck cX5_headDeck 2 (some (.object "Slidewarden$Deck")), Cond.methodLink RX5 279 yX1_init, Cond.instanceMethod yX1_init, Cond.code yX1_init cX1_init 4 none, Cond.methodLink RX1 3 objectInit, Cond.instanceMethod objectInit, Cond.code objectInit ⟨#[0xb1]⟩ 1 none, Cond.fieldLink RX1 9 "Slidewarden$Merge" "old" "LSlidewarden$Deck;", Cond.fieldLink RX1 15 "Slidewarden$Merge" "ours" "LSlidewarden$Deck;"]
def wsL_clashes_r3 : List Cond := [Cond.fieldLink RX1 18 "Slidewarden$Merge" "theirs" "LSlidewarden$Deck;", Cond.methodLink RX5 162 yX1_countClashes, Cond.instanceMethod yX1_countClashes, Cond.selects RX1 yX1_countClashes yX1_countClashes, Cond.code yX1_countClashes cX1_countClashes 5 (some .int), Cond.methodLink RX1 21 yX1_isSlideClash, Cond.instanceMethod yX1_isSlideClash, Cond.selects RX1 yX1_isSlideClash yX1_isSlideClash, Cond.code yX1_isSlideClash cX1_isSlideClash 3 (some .boolean), Cond.methodLink RX1 36 yX0_has, Cond.instanceMethod yX0_has, Cond.selects RX0 yX0_has yX0_has, Cond.initialized RX0, Cond.code yX0_has cX0_has 2 (some .boolean), Cond.methodLink RX0 22 yX0_placeOf, Cond.instanceMethod yX0_placeOf, Cond.selects RX0 yX0_placeOf yX0_placeOf, Cond.code yX0_placeOf cX0_placeOf 3 (some .int), Cond.fieldLink RX0 18 "Slidewarden$Deck" "size" "I", Cond.fieldLink RX0 9 "Slidewarden$Deck" "slides" "[I", Cond.methodLink RX1 65 yX0_isAlike, Cond.instanceMethod yX0_isAlike, Cond.selects RX0 yX0_isAlike yX0_isAlike, Cond.code yX0_isAlike cX0_isAlike 6 (some .boolean)]
def wsL_clashes_r4 : List Cond := [Cond.methodLink RX0 26 yX0_valueAt, Cond.instanceMethod yX0_valueAt, Cond.selects RX0 yX0_valueAt yX0_valueAt, Cond.code yX0_valueAt cX0_valueAt 3 (some .int), Cond.fieldLink RX0 15 "Slidewarden$Deck" "values" "[I", Cond.methodLink RX1 25 yX1_isObjectClash, Cond.instanceMethod yX1_isObjectClash, Cond.selects RX1 yX1_isObjectClash yX1_isObjectClash, Cond.code yX1_isObjectClash cX1_isObjectClash 6 (some .boolean), Cond.methodLink RX1 41 yX0_valueOf, Cond.instanceMethod yX0_valueOf, Cond.selects RX0 yX0_valueOf yX0_valueOf, Cond.code yX0_valueOf cX0_valueOf 4 (some .int)]
def wsL_clashes : List Cond := .codeWith yL_clashes cL_clashes 5 (some .int) [(0, 10, 13, 13), (0, 10, 17, 25)] :: ((wsL_clashes_r1 ++ (wsL_clashes_r2 ++ (wsL_clashes_r3 ++ wsL_clashes_r4))) ++ wsX50 ++ wsX10 ++ wsX30 ++ wsX00 ++ (vx_atS RX5 80 "java/lang/IndexOutOfBoundsException" ["java/lang/RuntimeException", "java/lang/Exception"]).filter goodWord ++ (vx_atS RX5 110 "java/lang/IllegalArgumentException" ["java/lang/RuntimeException", "java/lang/Exception"]).filter goodWord)
def wsL_merged_r1 : List Cond := [Cond.classLink RL 13 "java/lang/IndexOutOfBoundsException", Cond.classLink RL 25 "java/lang/IllegalArgumentException", Cond.methodLink RL 49 yX5_merged, Cond.instanceMethod yX5_merged, Cond.selects RX5 yX5_merged yX5_merged, Cond.initialized RX5, Cond.code yX5_merged cX5_merged 6 (some .int), Cond.classLink RX5 106 "java/lang/IllegalArgumentException", Cond.initialized "java/lang/IllegalArgumentException", Cond.methodLink RX5 66 yX5_checkBranch, Cond.instanceMethod yX5_checkBranch, Cond.selects RX5 yX5_checkBranch yX5_checkBranch, Cond.code yX5_checkBranch cX5_checkBranch 2 none, Cond.classLink RX5 76 "java/lang/IndexOutOfBoundsException", Cond.initialized "java/lang/IndexOutOfBoundsException", Cond.fieldLink RX5 52 "Slidewarden" "branchCount" "I", Cond.methodLink RX5 141 yX5_checkSlide, Cond.instanceMethod yX5_checkSlide, Cond.selects RX5 yX5_checkSlide yX5_checkSlide, Cond.code yX5_checkSlide cX5_checkSlide 2 none, Cond.fieldLink RX5 83 "Slidewarden" "slideCount" "I", Cond.methodLink RX5 103 yX5_checkObject, Cond.static yX5_checkObject, Cond.code yX5_checkObject cX5_checkObject 1 none]
def wsL_merged_r2 : List Cond := [Cond.methodLink RX5 152 yX5_checkDifferent, Cond.static yX5_checkDifferent, Cond.code yX5_checkDifferent cX5_checkDifferent 2 none, Cond.methodLink RX5 158 yX5_mergeOf, Cond.instanceMethod yX5_mergeOf, Cond.selects RX5 yX5_mergeOf yX5_mergeOf, Cond.code yX5_mergeOf cX5_mergeOf 3 (some (.object "Slidewarden$Merge")), Cond.classLink RX5 163 RX1, Cond.instantiable RX1 3, Cond.initialized RX1, Cond.fieldLink RX5 11 "Slidewarden" "versions" "[LSlidewarden$Version;", Cond.fieldLink RX5 130 "Slidewarden$Version" "deck" "LSlidewarden$Deck;", Cond.methodLink RX5 155 yX5_baseOf, Cond.instanceMethod yX5_baseOf, Cond.selects RX5 yX5_baseOf yX5_baseOf, Cond.code yX5_baseOf cX5_baseOf 6 (some .int), Cond.fieldLink RX5 15 "Slidewarden" "heads" "[I", Cond.fieldLink RX5 44 "Slidewarden$Version" "ancestors" "J", Cond.fieldLink RX5 48 "Slidewarden" "versionCount" "I", Cond.methodLink RX5 69 yX5_headDeck, Cond.instanceMethod yX5_headDeck, Cond.selects RX5 yX5_headDeck yX5_headDeck, Cond.code yX5_headDeck cX5_headDeck 2 (some (.object "Slidewarden$Deck")), Cond.methodLink RX5 279 yX1_init]
def wsL_merged_r3 : List Cond := [Cond.instanceMethod yX1_init, Cond.code yX1_init cX1_init 4 none, Cond.methodLink RX1 3 objectInit, Cond.instanceMethod objectInit, Cond.code objectInit ⟨#[0xb1]⟩ 1 none, Cond.fieldLink RX1 9 "Slidewarden$Merge" "old" "LSlidewarden$Deck;", Cond.fieldLink RX1 15 "Slidewarden$Merge" "ours" "LSlidewarden$Deck;", Cond.fieldLink RX1 18 "Slidewarden$Merge" "theirs" "LSlidewarden$Deck;", Cond.methodLink RX5 170 yX1_resultOf, Cond.instanceMethod yX1_resultOf, Cond.selects RX1 yX1_resultOf yX1_resultOf, Cond.code yX1_resultOf cX1_resultOf 4 (some .int), Cond.methodLink RX1 29 yX1_isKept, Cond.instanceMethod yX1_isKept, Cond.selects RX1 yX1_isKept yX1_isKept, Cond.code yX1_isKept cX1_isKept 5 (some .boolean), Cond.methodLink RX1 36 yX0_has, Cond.instanceMethod yX0_has, Cond.selects RX0 yX0_has yX0_has, Cond.initialized RX0, Cond.code yX0_has cX0_has 2 (some .boolean), Cond.methodLink RX0 22 yX0_placeOf, Cond.instanceMethod yX0_placeOf, Cond.selects RX0 yX0_placeOf yX0_placeOf]
def wsL_merged_r4 : List Cond := [Cond.code yX0_placeOf cX0_placeOf 3 (some .int), Cond.fieldLink RX0 18 "Slidewarden$Deck" "size" "I", Cond.fieldLink RX0 9 "Slidewarden$Deck" "slides" "[I", Cond.methodLink RX1 21 yX1_isSlideClash, Cond.instanceMethod yX1_isSlideClash, Cond.selects RX1 yX1_isSlideClash yX1_isSlideClash, Cond.code yX1_isSlideClash cX1_isSlideClash 3 (some .boolean), Cond.methodLink RX1 65 yX0_isAlike, Cond.instanceMethod yX0_isAlike, Cond.selects RX0 yX0_isAlike yX0_isAlike, Cond.code yX0_isAlike cX0_isAlike 6 (some .boolean), Cond.methodLink RX0 26 yX0_valueAt, Cond.instanceMethod yX0_valueAt, Cond.selects RX0 yX0_valueAt yX0_valueAt, Cond.code yX0_valueAt cX0_valueAt 3 (some .int), Cond.fieldLink RX0 15 "Slidewarden$Deck" "values" "[I", Cond.methodLink RX1 32 yX1_keptValue, Cond.instanceMethod yX1_keptValue, Cond.selects RX1 yX1_keptValue yX1_keptValue, Cond.code yX1_keptValue cX1_keptValue 6 (some .int), Cond.methodLink RX1 41 yX0_valueOf, Cond.instanceMethod yX0_valueOf, Cond.selects RX0 yX0_valueOf yX0_valueOf, Cond.code yX0_valueOf cX0_valueOf 4 (some .int)]
def wsL_merged_r5 : List Cond := [Cond.methodLink RX1 25 yX1_isObjectClash, Cond.instanceMethod yX1_isObjectClash, Cond.selects RX1 yX1_isObjectClash yX1_isObjectClash, Cond.code yX1_isObjectClash cX1_isObjectClash 6 (some .boolean)]
def wsL_merged : List Cond := .codeWith yL_merged cL_merged 8 (some .int) [(0, 16, 19, 13), (0, 16, 23, 25)] :: ((wsL_merged_r1 ++ (wsL_merged_r2 ++ (wsL_merged_r3 ++ (wsL_merged_r4 ++ wsL_merged_r5)))) ++ wsX50 ++ wsX10 ++ wsX30 ++ wsX00 ++ (vx_atS RX5 110 "java/lang/IllegalArgumentException" ["java/lang/RuntimeException", "java/lang/Exception"]).filter goodWord ++ (vx_atS RX5 80 "java/lang/IndexOutOfBoundsException" ["java/lang/RuntimeException", "java/lang/Exception"]).filter goodWord)
def wsL_merge_r1 : List Cond := [Cond.classLink RL 13 "java/lang/IndexOutOfBoundsException", Cond.classLink RL 25 "java/lang/IllegalArgumentException", Cond.classLink RL 15 "java/lang/IllegalStateException", Cond.methodLink RL 53 yX5_merge, Cond.instanceMethod yX5_merge, Cond.selects RX5 yX5_merge yX5_merge, Cond.initialized RX5, Cond.code yX5_merge cX5_merge 5 (some .int), Cond.classLink RX5 106 "java/lang/IllegalArgumentException", Cond.initialized "java/lang/IllegalArgumentException", Cond.classLink RX5 59 "java/lang/IllegalStateException", Cond.initialized "java/lang/IllegalStateException", Cond.fieldLink RX5 83 "Slidewarden" "slideCount" "I", Cond.fieldLink RX5 37 "Slidewarden" "trial" "LSlidewarden$Deck;", Cond.fieldLink RX5 15 "Slidewarden" "heads" "[I", Cond.methodLink RX5 66 yX5_checkBranch, Cond.instanceMethod yX5_checkBranch, Cond.selects RX5 yX5_checkBranch yX5_checkBranch, Cond.code yX5_checkBranch cX5_checkBranch 2 none, Cond.classLink RX5 76 "java/lang/IndexOutOfBoundsException", Cond.initialized "java/lang/IndexOutOfBoundsException", Cond.fieldLink RX5 52 "Slidewarden" "branchCount" "I", Cond.methodLink RX5 152 yX5_checkDifferent, Cond.static yX5_checkDifferent]
def wsL_merge_r2 : List Cond := [Cond.code yX5_checkDifferent cX5_checkDifferent 2 none, Cond.methodLink RX5 158 yX5_mergeOf, Cond.instanceMethod yX5_mergeOf, Cond.selects RX5 yX5_mergeOf yX5_mergeOf, Cond.code yX5_mergeOf cX5_mergeOf 3 (some (.object "Slidewarden$Merge")), Cond.classLink RX5 163 RX1, Cond.instantiable RX1 3, Cond.initialized RX1, Cond.fieldLink RX5 11 "Slidewarden" "versions" "[LSlidewarden$Version;", Cond.fieldLink RX5 130 "Slidewarden$Version" "deck" "LSlidewarden$Deck;", Cond.methodLink RX5 155 yX5_baseOf, Cond.instanceMethod yX5_baseOf, Cond.selects RX5 yX5_baseOf yX5_baseOf, Cond.code yX5_baseOf cX5_baseOf 6 (some .int), Cond.fieldLink RX5 44 "Slidewarden$Version" "ancestors" "J", Cond.fieldLink RX5 48 "Slidewarden" "versionCount" "I", Cond.methodLink RX5 69 yX5_headDeck, Cond.instanceMethod yX5_headDeck, Cond.selects RX5 yX5_headDeck yX5_headDeck, Cond.code yX5_headDeck cX5_headDeck 2 (some (.object "Slidewarden$Deck")), Cond.methodLink RX5 279 yX1_init, Cond.instanceMethod yX1_init, Cond.code yX1_init cX1_init 4 none, Cond.methodLink RX1 3 objectInit]
def wsL_merge_r3 : List Cond := [Cond.instanceMethod objectInit, Cond.code objectInit ⟨#[0xb1]⟩ 1 none, Cond.fieldLink RX1 9 "Slidewarden$Merge" "old" "LSlidewarden$Deck;", Cond.fieldLink RX1 15 "Slidewarden$Merge" "ours" "LSlidewarden$Deck;", Cond.fieldLink RX1 18 "Slidewarden$Merge" "theirs" "LSlidewarden$Deck;", Cond.methodLink RX5 162 yX1_countClashes, Cond.instanceMethod yX1_countClashes, Cond.selects RX1 yX1_countClashes yX1_countClashes, Cond.code yX1_countClashes cX1_countClashes 5 (some .int), Cond.methodLink RX1 21 yX1_isSlideClash, Cond.instanceMethod yX1_isSlideClash, Cond.selects RX1 yX1_isSlideClash yX1_isSlideClash, Cond.code yX1_isSlideClash cX1_isSlideClash 3 (some .boolean), Cond.methodLink RX1 36 yX0_has, Cond.instanceMethod yX0_has, Cond.selects RX0 yX0_has yX0_has, Cond.initialized RX0, Cond.code yX0_has cX0_has 2 (some .boolean), Cond.methodLink RX0 22 yX0_placeOf, Cond.instanceMethod yX0_placeOf, Cond.selects RX0 yX0_placeOf yX0_placeOf, Cond.code yX0_placeOf cX0_placeOf 3 (some .int), Cond.fieldLink RX0 18 "Slidewarden$Deck" "size" "I", Cond.fieldLink RX0 9 "Slidewarden$Deck" "slides" "[I"]
def wsL_merge_r4 : List Cond := [Cond.methodLink RX1 65 yX0_isAlike, Cond.instanceMethod yX0_isAlike, Cond.selects RX0 yX0_isAlike yX0_isAlike, Cond.code yX0_isAlike cX0_isAlike 6 (some .boolean), Cond.methodLink RX0 26 yX0_valueAt, Cond.instanceMethod yX0_valueAt, Cond.selects RX0 yX0_valueAt yX0_valueAt, Cond.code yX0_valueAt cX0_valueAt 3 (some .int), Cond.fieldLink RX0 15 "Slidewarden$Deck" "values" "[I", Cond.methodLink RX1 25 yX1_isObjectClash, Cond.instanceMethod yX1_isObjectClash, Cond.selects RX1 yX1_isObjectClash yX1_isObjectClash, Cond.code yX1_isObjectClash cX1_isObjectClash 6 (some .boolean), Cond.methodLink RX1 41 yX0_valueOf, Cond.instanceMethod yX0_valueOf, Cond.selects RX0 yX0_valueOf yX0_valueOf, Cond.code yX0_valueOf cX0_valueOf 4 (some .int), Cond.methodLink RX5 176 yX1_countSlides, Cond.instanceMethod yX1_countSlides, Cond.selects RX1 yX1_countSlides yX1_countSlides, Cond.code yX1_countSlides cX1_countSlides 5 (some .int), Cond.methodLink RX1 29 yX1_isKept, Cond.instanceMethod yX1_isKept, Cond.selects RX1 yX1_isKept yX1_isKept]
def wsL_merge_r5 : List Cond := [Cond.code yX1_isKept cX1_isKept 5 (some .boolean), Cond.methodLink RX5 181 yX1_fill, Cond.instanceMethod yX1_fill, Cond.selects RX1 yX1_fill yX1_fill, Cond.code yX1_fill cX1_fill 5 none, Cond.fieldLink RX1 45 "Slidewarden$Deck" "size" "I", Cond.fieldLink RX1 49 "Slidewarden$Deck" "slides" "[I", Cond.methodLink RX1 53 yX1_append, Cond.instanceMethod yX1_append, Cond.selects RX1 yX1_append yX1_append, Cond.code yX1_append cX1_append 6 none, Cond.methodLink RX1 57 yX0_insert, Cond.instanceMethod yX0_insert, Cond.selects RX0 yX0_insert yX0_insert, Cond.code yX0_insert cX0_insert 4 none, Cond.methodLink RX0 30 yX0_move, Cond.instanceMethod yX0_move, Cond.selects RX0 yX0_move yX0_move, Cond.code yX0_move cX0_move 4 none, Cond.methodLink RX0 34 yX0_put, Cond.instanceMethod yX0_put, Cond.selects RX0 yX0_put yX0_put, Cond.code yX0_put cX0_put 4 none, Cond.methodLink RX1 32 yX1_keptValue]
def wsL_merge_r6 : List Cond := [Cond.instanceMethod yX1_keptValue, Cond.selects RX1 yX1_keptValue yX1_keptValue, Cond.code yX1_keptValue cX1_keptValue 6 (some .int), Cond.methodLink RX1 61 yX0_put, Cond.methodLink RX5 185 yX5_countBlocks, Cond.instanceMethod yX5_countBlocks, Cond.selects RX5 yX5_countBlocks yX5_countBlocks, Cond.code yX5_countBlocks cX5_countBlocks 4 (some .int), Cond.fieldLink RX5 73 "Slidewarden$Deck" "size" "I", Cond.methodLink RX5 250 yX5_countBlocksAt, Cond.instanceMethod yX5_countBlocksAt, Cond.selects RX5 yX5_countBlocksAt yX5_countBlocksAt, Cond.code yX5_countBlocksAt cX5_countBlocksAt 5 (some .int), Cond.fieldLink RX5 199 "Slidewarden" "ruleCount" "I", Cond.fieldLink RX5 24 "Slidewarden" "rules" "[LSlidewarden$Rule;", Cond.fieldLink RX5 149 "Slidewarden$Deck" "slides" "[I", Cond.methodLink RX5 246 yX2_isBrokenAt, Cond.instanceMethod yX2_isBrokenAt, Cond.selects RX2 yX2_isBrokenAt yX2_isBrokenAt, Cond.initialized RX2, Cond.code yX2_isBrokenAt cX2_isBrokenAt 4 (some .boolean), Cond.fieldLink RX2 7 "Slidewarden$Rule" "object" "I", Cond.fieldLink RX2 19 "Slidewarden$Rule" "least" "I", Cond.fieldLink RX2 22 "Slidewarden$Rule" "most" "I"]
def wsL_merge_r7 : List Cond := [Cond.methodLink RX2 13 yX0_valueAt, Cond.methodLink RX5 282 yX5_isBlocking, Cond.instanceMethod yX5_isBlocking, Cond.selects RX5 yX5_isBlocking yX5_isBlocking, Cond.code yX5_isBlocking cX5_isBlocking 4 (some .boolean), Cond.fieldLink RX5 204 "Slidewarden$Rule" "rank" "I", Cond.methodLink RX5 286 yX5_isWaived, Cond.instanceMethod yX5_isWaived, Cond.selects RX5 yX5_isWaived yX5_isWaived, Cond.code yX5_isWaived cX5_isWaived 5 (some .boolean), Cond.fieldLink RX5 232 "Slidewarden" "waiverCount" "I", Cond.fieldLink RX5 30 "Slidewarden" "waivers" "[LSlidewarden$Waiver;", Cond.fieldLink RX5 237 "Slidewarden$Waiver" "rule" "I", Cond.fieldLink RX5 240 "Slidewarden$Waiver" "slide" "I", Cond.fieldLink RX5 243 "Slidewarden$Waiver" "until" "I", Cond.fieldLink RX5 225 "Slidewarden" "day" "I", Cond.methodLink RX5 88 yX5_checkRoomForVersion, Cond.instanceMethod yX5_checkRoomForVersion, Cond.selects RX5 yX5_checkRoomForVersion yX5_checkRoomForVersion, Cond.code yX5_checkRoomForVersion cX5_checkRoomForVersion 1 none, Cond.methodLink RX5 91 yX5_makeVersion, Cond.instanceMethod yX5_makeVersion, Cond.selects RX5 yX5_makeVersion yX5_makeVersion, Cond.code yX5_makeVersion cX5_makeVersion 6 (some (.object "Slidewarden$Deck"))]
def wsL_merge_r8 : List Cond := [Cond.fieldLink RX5 121 "Slidewarden$Version" "madeOn" "I", Cond.fieldLink RX5 124 "Slidewarden$Version" "cameFrom" "I", Cond.fieldLink RX5 127 "Slidewarden$Version" "mergedFrom" "I", Cond.methodLink RX5 191 yX0_copyFrom, Cond.instanceMethod yX0_copyFrom, Cond.selects RX0 yX0_copyFrom yX0_copyFrom, Cond.code yX0_copyFrom cX0_copyFrom 2 none, Cond.methodLink RX0 38 arraycopyName, Cond.native arraycopyName, Cond.static arraycopyName, Cond.initialized "java/lang/System"]
def wsL_merge : List Cond := .codeWith yL_merge cL_merge 6 (some .int) [(0, 12, 15, 13), (0, 12, 19, 25), (0, 12, 23, 15)] :: ((wsL_merge_r1 ++ (wsL_merge_r2 ++ (wsL_merge_r3 ++ (wsL_merge_r4 ++ (wsL_merge_r5 ++ (wsL_merge_r6 ++ (wsL_merge_r7 ++ wsL_merge_r8))))))) ++ wsX50 ++ wsX10 ++ wsX30 ++ wsX00 ++ wsX20 ++ wsX40 ++ (vx_atS RX5 110 "java/lang/IllegalArgumentException" ["java/lang/RuntimeException", "java/lang/Exception"]).filter goodWord ++ (vx_atS RX5 63 "java/lang/IllegalStateException" ["java/lang/RuntimeException", "java/lang/Exception"]).filter goodWord ++ (vx_atS RX5 80 "java/lang/IndexOutOfBoundsException" ["java/lang/RuntimeException", "java/lang/Exception"]).filter goodWord)
def wsL_rule : List Cond := .codeWith yL_rule cL_rule 7 (some .int) [(0, 14, 17, 13), (0, 14, 21, 25), (0, 14, 25, 15)] :: ([.classLink RL 13 "java/lang/IndexOutOfBoundsException", .classLink RL 25 "java/lang/IllegalArgumentException", .classLink RL 15 "java/lang/IllegalStateException", .methodLink RL 56 yX5_rule, .instanceMethod yX5_rule, .selects RX5 yX5_rule yX5_rule, .initialized RX5, .code yX5_rule cX5_rule 7 (some .int), .classLink RX5 76 "java/lang/IndexOutOfBoundsException", .initialized "java/lang/IndexOutOfBoundsException", .classLink RX5 106 "java/lang/IllegalArgumentException", .initialized "java/lang/IllegalArgumentException", .classLink RX5 59 "java/lang/IllegalStateException", .initialized "java/lang/IllegalStateException", .fieldLink RX5 199 "Slidewarden" "ruleCount" "I", .fieldLink RX5 24 "Slidewarden" "rules" "[LSlidewarden$Rule;", .fieldLink RX5 204 "Slidewarden$Rule" "rank" "I", .fieldLink RX5 207 "Slidewarden$Rule" "object" "I", .fieldLink RX5 210 "Slidewarden$Rule" "least" "I", .fieldLink RX5 213 "Slidewarden$Rule" "most" "I", .methodLink RX5 103 yX5_checkObject, .static yX5_checkObject, .code yX5_checkObject cX5_checkObject 1 none] ++ wsX50 ++ wsX20 ++ (vx_atS RX5 80 "java/lang/IndexOutOfBoundsException" ["java/lang/RuntimeException", "java/lang/Exception"]).filter goodWord ++ (vx_atS RX5 110 "java/lang/IllegalArgumentException" ["java/lang/RuntimeException", "java/lang/Exception"]).filter goodWord ++ (vx_atS RX5 63 "java/lang/IllegalStateException" ["java/lang/RuntimeException", "java/lang/Exception"]).filter goodWord)
def wsL_tighten_r1 : List Cond := [Cond.classLink RL 13 "java/lang/IndexOutOfBoundsException", Cond.classLink RL 25 "java/lang/IllegalArgumentException", Cond.methodLink RL 59 yX5_tighten, Cond.instanceMethod yX5_tighten, Cond.selects RX5 yX5_tighten yX5_tighten, Cond.initialized RX5, Cond.code yX5_tighten cX5_tighten 7 (some .int), Cond.classLink RX5 106 "java/lang/IllegalArgumentException", Cond.initialized "java/lang/IllegalArgumentException", Cond.fieldLink RX5 24 "Slidewarden" "rules" "[LSlidewarden$Rule;", Cond.fieldLink RX5 210 "Slidewarden$Rule" "least" "I", Cond.fieldLink RX5 213 "Slidewarden$Rule" "most" "I", Cond.constantLong RX5 223 (-1), Cond.methodLink RX5 216 yX5_checkRule, Cond.instanceMethod yX5_checkRule, Cond.selects RX5 yX5_checkRule yX5_checkRule, Cond.code yX5_checkRule cX5_checkRule 2 none, Cond.classLink RX5 76 "java/lang/IndexOutOfBoundsException", Cond.initialized "java/lang/IndexOutOfBoundsException", Cond.fieldLink RX5 199 "Slidewarden" "ruleCount" "I", Cond.methodLink RX5 219 yX5_blockedVersions, Cond.instanceMethod yX5_blockedVersions, Cond.selects RX5 yX5_blockedVersions yX5_blockedVersions, Cond.code yX5_blockedVersions cX5_blockedVersions 4 (some .long)]
def wsL_tighten_r2 : List Cond := [Cond.fieldLink RX5 48 "Slidewarden" "versionCount" "I", Cond.fieldLink RX5 11 "Slidewarden" "versions" "[LSlidewarden$Version;", Cond.fieldLink RX5 130 "Slidewarden$Version" "deck" "LSlidewarden$Deck;", Cond.methodLink RX5 185 yX5_countBlocks, Cond.instanceMethod yX5_countBlocks, Cond.selects RX5 yX5_countBlocks yX5_countBlocks, Cond.code yX5_countBlocks cX5_countBlocks 4 (some .int), Cond.fieldLink RX5 73 "Slidewarden$Deck" "size" "I", Cond.methodLink RX5 250 yX5_countBlocksAt, Cond.instanceMethod yX5_countBlocksAt, Cond.selects RX5 yX5_countBlocksAt yX5_countBlocksAt, Cond.code yX5_countBlocksAt cX5_countBlocksAt 5 (some .int), Cond.fieldLink RX5 149 "Slidewarden$Deck" "slides" "[I", Cond.methodLink RX5 246 yX2_isBrokenAt, Cond.instanceMethod yX2_isBrokenAt, Cond.selects RX2 yX2_isBrokenAt yX2_isBrokenAt, Cond.initialized RX2, Cond.code yX2_isBrokenAt cX2_isBrokenAt 4 (some .boolean), Cond.fieldLink RX2 7 "Slidewarden$Rule" "object" "I", Cond.fieldLink RX2 19 "Slidewarden$Rule" "least" "I", Cond.fieldLink RX2 22 "Slidewarden$Rule" "most" "I", Cond.methodLink RX2 13 yX0_valueAt, Cond.instanceMethod yX0_valueAt, Cond.selects RX0 yX0_valueAt yX0_valueAt]
def wsL_tighten_r3 : List Cond := [Cond.initialized RX0, Cond.code yX0_valueAt cX0_valueAt 3 (some .int), Cond.fieldLink RX0 15 "Slidewarden$Deck" "values" "[I", Cond.methodLink RX5 282 yX5_isBlocking, Cond.instanceMethod yX5_isBlocking, Cond.selects RX5 yX5_isBlocking yX5_isBlocking, Cond.code yX5_isBlocking cX5_isBlocking 4 (some .boolean), Cond.fieldLink RX5 204 "Slidewarden$Rule" "rank" "I", Cond.methodLink RX5 286 yX5_isWaived, Cond.instanceMethod yX5_isWaived, Cond.selects RX5 yX5_isWaived yX5_isWaived, Cond.code yX5_isWaived cX5_isWaived 5 (some .boolean), Cond.fieldLink RX5 232 "Slidewarden" "waiverCount" "I", Cond.fieldLink RX5 30 "Slidewarden" "waivers" "[LSlidewarden$Waiver;", Cond.fieldLink RX5 237 "Slidewarden$Waiver" "rule" "I", Cond.fieldLink RX5 240 "Slidewarden$Waiver" "slide" "I", Cond.fieldLink RX5 243 "Slidewarden$Waiver" "until" "I", Cond.fieldLink RX5 225 "Slidewarden" "day" "I", Cond.methodLink RX5 133 yJ13_bitCount_95d88, Cond.static yJ13_bitCount_95d88, Cond.initialized RJ13, Cond.code yJ13_bitCount_95d88 cJ13_bitCount_95d88 2 (some .int), Cond.constantLong RJ13 314 (6148914691236517205), Cond.constantLong RJ13 316 (3689348814741910323)]
def wsL_tighten_r4 : List Cond := [Cond.constantLong RJ13 318 (1085102592571150095)]
def wsL_tighten : List Cond := .codeWith yL_tighten cL_tighten 6 (some .int) [(0, 12, 15, 13), (0, 12, 19, 25)] :: ((wsL_tighten_r1 ++ (wsL_tighten_r2 ++ (wsL_tighten_r3 ++ wsL_tighten_r4))) ++ wsX50 ++ wsX20 ++ wsX30 ++ wsX00 ++ wsX40 ++ (vx_atS RX5 110 "java/lang/IllegalArgumentException" ["java/lang/RuntimeException", "java/lang/Exception"]).filter goodWord ++ (vx_atS RX5 80 "java/lang/IndexOutOfBoundsException" ["java/lang/RuntimeException", "java/lang/Exception"]).filter goodWord)
def wsL_waive_r1 : List Cond := [Cond.classLink RL 13 "java/lang/IndexOutOfBoundsException", Cond.classLink RL 25 "java/lang/IllegalArgumentException", Cond.classLink RL 15 "java/lang/IllegalStateException", Cond.methodLink RL 62 yX5_waive, Cond.instanceMethod yX5_waive, Cond.selects RX5 yX5_waive yX5_waive, Cond.initialized RX5, Cond.code yX5_waive cX5_waive 6 (some .int), Cond.classLink RX5 106 "java/lang/IllegalArgumentException", Cond.initialized "java/lang/IllegalArgumentException", Cond.classLink RX5 59 "java/lang/IllegalStateException", Cond.initialized "java/lang/IllegalStateException", Cond.fieldLink RX5 225 "Slidewarden" "day" "I", Cond.fieldLink RX5 24 "Slidewarden" "rules" "[LSlidewarden$Rule;", Cond.fieldLink RX5 204 "Slidewarden$Rule" "rank" "I", Cond.fieldLink RX5 232 "Slidewarden" "waiverCount" "I", Cond.fieldLink RX5 30 "Slidewarden" "waivers" "[LSlidewarden$Waiver;", Cond.fieldLink RX5 237 "Slidewarden$Waiver" "rule" "I", Cond.fieldLink RX5 240 "Slidewarden$Waiver" "slide" "I", Cond.fieldLink RX5 243 "Slidewarden$Waiver" "until" "I", Cond.methodLink RX5 216 yX5_checkRule, Cond.instanceMethod yX5_checkRule, Cond.selects RX5 yX5_checkRule yX5_checkRule, Cond.code yX5_checkRule cX5_checkRule 2 none]
def wsL_waive_r2 : List Cond := [Cond.classLink RX5 76 "java/lang/IndexOutOfBoundsException", Cond.initialized "java/lang/IndexOutOfBoundsException", Cond.fieldLink RX5 199 "Slidewarden" "ruleCount" "I", Cond.methodLink RX5 141 yX5_checkSlide, Cond.instanceMethod yX5_checkSlide, Cond.selects RX5 yX5_checkSlide yX5_checkSlide, Cond.code yX5_checkSlide cX5_checkSlide 2 none, Cond.fieldLink RX5 83 "Slidewarden" "slideCount" "I"]
def wsL_waive : List Cond := .codeWith yL_waive cL_waive 6 (some .int) [(0, 12, 15, 13), (0, 12, 19, 25), (0, 12, 23, 15)] :: ((wsL_waive_r1 ++ wsL_waive_r2) ++ wsX50 ++ wsX20 ++ wsX40 ++ (vx_atS RX5 110 "java/lang/IllegalArgumentException" ["java/lang/RuntimeException", "java/lang/Exception"]).filter goodWord ++ (vx_atS RX5 63 "java/lang/IllegalStateException" ["java/lang/RuntimeException", "java/lang/Exception"]).filter goodWord ++ (vx_atS RX5 80 "java/lang/IndexOutOfBoundsException" ["java/lang/RuntimeException", "java/lang/Exception"]).filter goodWord)
def wsL_blocks_r1 : List Cond := [Cond.classLink RL 13 "java/lang/IndexOutOfBoundsException", Cond.methodLink RL 65 yX5_blocks, Cond.instanceMethod yX5_blocks, Cond.selects RX5 yX5_blocks yX5_blocks, Cond.initialized RX5, Cond.code yX5_blocks cX5_blocks 2 (some .int), Cond.fieldLink RX5 11 "Slidewarden" "versions" "[LSlidewarden$Version;", Cond.fieldLink RX5 130 "Slidewarden$Version" "deck" "LSlidewarden$Deck;", Cond.methodLink RX5 55 yX5_checkVersion, Cond.instanceMethod yX5_checkVersion, Cond.selects RX5 yX5_checkVersion yX5_checkVersion, Cond.code yX5_checkVersion cX5_checkVersion 2 none, Cond.classLink RX5 76 "java/lang/IndexOutOfBoundsException", Cond.initialized "java/lang/IndexOutOfBoundsException", Cond.fieldLink RX5 48 "Slidewarden" "versionCount" "I", Cond.methodLink RX5 185 yX5_countBlocks, Cond.instanceMethod yX5_countBlocks, Cond.selects RX5 yX5_countBlocks yX5_countBlocks, Cond.code yX5_countBlocks cX5_countBlocks 4 (some .int), Cond.fieldLink RX5 73 "Slidewarden$Deck" "size" "I", Cond.methodLink RX5 250 yX5_countBlocksAt, Cond.instanceMethod yX5_countBlocksAt, Cond.selects RX5 yX5_countBlocksAt yX5_countBlocksAt, Cond.code yX5_countBlocksAt cX5_countBlocksAt 5 (some .int)]
def wsL_blocks_r2 : List Cond := [Cond.fieldLink RX5 199 "Slidewarden" "ruleCount" "I", Cond.fieldLink RX5 24 "Slidewarden" "rules" "[LSlidewarden$Rule;", Cond.fieldLink RX5 149 "Slidewarden$Deck" "slides" "[I", Cond.methodLink RX5 246 yX2_isBrokenAt, Cond.instanceMethod yX2_isBrokenAt, Cond.selects RX2 yX2_isBrokenAt yX2_isBrokenAt, Cond.initialized RX2, Cond.code yX2_isBrokenAt cX2_isBrokenAt 4 (some .boolean), Cond.fieldLink RX2 7 "Slidewarden$Rule" "object" "I", Cond.fieldLink RX2 19 "Slidewarden$Rule" "least" "I", Cond.fieldLink RX2 22 "Slidewarden$Rule" "most" "I", Cond.methodLink RX2 13 yX0_valueAt, Cond.instanceMethod yX0_valueAt, Cond.selects RX0 yX0_valueAt yX0_valueAt, Cond.initialized RX0, Cond.code yX0_valueAt cX0_valueAt 3 (some .int), Cond.fieldLink RX0 15 "Slidewarden$Deck" "values" "[I", Cond.methodLink RX5 282 yX5_isBlocking, Cond.instanceMethod yX5_isBlocking, Cond.selects RX5 yX5_isBlocking yX5_isBlocking, Cond.code yX5_isBlocking cX5_isBlocking 4 (some .boolean), Cond.fieldLink RX5 204 "Slidewarden$Rule" "rank" "I", Cond.methodLink RX5 286 yX5_isWaived, Cond.instanceMethod yX5_isWaived]
def wsL_blocks_r3 : List Cond := [Cond.selects RX5 yX5_isWaived yX5_isWaived, Cond.code yX5_isWaived cX5_isWaived 5 (some .boolean), Cond.fieldLink RX5 232 "Slidewarden" "waiverCount" "I", Cond.fieldLink RX5 30 "Slidewarden" "waivers" "[LSlidewarden$Waiver;", Cond.fieldLink RX5 237 "Slidewarden$Waiver" "rule" "I", Cond.fieldLink RX5 240 "Slidewarden$Waiver" "slide" "I", Cond.fieldLink RX5 243 "Slidewarden$Waiver" "until" "I", Cond.fieldLink RX5 225 "Slidewarden" "day" "I"]
def wsL_blocks : List Cond := .codeWith yL_blocks cL_blocks 4 (some .int) [(0, 9, 12, 13)] :: ((wsL_blocks_r1 ++ (wsL_blocks_r2 ++ wsL_blocks_r3)) ++ wsX50 ++ wsX30 ++ wsX00 ++ wsX20 ++ wsX40 ++ (vx_atS RX5 80 "java/lang/IndexOutOfBoundsException" ["java/lang/RuntimeException", "java/lang/Exception"]).filter goodWord)
def wsL_warnings_r1 : List Cond := [Cond.classLink RL 13 "java/lang/IndexOutOfBoundsException", Cond.methodLink RL 68 yX5_warnings, Cond.instanceMethod yX5_warnings, Cond.selects RX5 yX5_warnings yX5_warnings, Cond.initialized RX5, Cond.code yX5_warnings cX5_warnings 6 (some .int), Cond.fieldLink RX5 11 "Slidewarden" "versions" "[LSlidewarden$Version;", Cond.fieldLink RX5 130 "Slidewarden$Version" "deck" "LSlidewarden$Deck;", Cond.fieldLink RX5 73 "Slidewarden$Deck" "size" "I", Cond.fieldLink RX5 199 "Slidewarden" "ruleCount" "I", Cond.fieldLink RX5 24 "Slidewarden" "rules" "[LSlidewarden$Rule;", Cond.fieldLink RX5 204 "Slidewarden$Rule" "rank" "I", Cond.methodLink RX5 55 yX5_checkVersion, Cond.instanceMethod yX5_checkVersion, Cond.selects RX5 yX5_checkVersion yX5_checkVersion, Cond.code yX5_checkVersion cX5_checkVersion 2 none, Cond.classLink RX5 76 "java/lang/IndexOutOfBoundsException", Cond.initialized "java/lang/IndexOutOfBoundsException", Cond.fieldLink RX5 48 "Slidewarden" "versionCount" "I", Cond.methodLink RX5 246 yX2_isBrokenAt, Cond.instanceMethod yX2_isBrokenAt, Cond.selects RX2 yX2_isBrokenAt yX2_isBrokenAt, Cond.initialized RX2, Cond.code yX2_isBrokenAt cX2_isBrokenAt 4 (some .boolean)]
def wsL_warnings_r2 : List Cond := [Cond.fieldLink RX2 7 "Slidewarden$Rule" "object" "I", Cond.fieldLink RX2 19 "Slidewarden$Rule" "least" "I", Cond.fieldLink RX2 22 "Slidewarden$Rule" "most" "I", Cond.methodLink RX2 13 yX0_valueAt, Cond.instanceMethod yX0_valueAt, Cond.selects RX0 yX0_valueAt yX0_valueAt, Cond.initialized RX0, Cond.code yX0_valueAt cX0_valueAt 3 (some .int), Cond.fieldLink RX0 15 "Slidewarden$Deck" "values" "[I"]
def wsL_warnings : List Cond := .codeWith yL_warnings cL_warnings 4 (some .int) [(0, 9, 12, 13)] :: ((wsL_warnings_r1 ++ wsL_warnings_r2) ++ wsX50 ++ wsX30 ++ wsX00 ++ wsX20 ++ (vx_atS RX5 80 "java/lang/IndexOutOfBoundsException" ["java/lang/RuntimeException", "java/lang/Exception"]).filter goodWord)
def wsL_firstBlock_r1 : List Cond := [Cond.classLink RL 13 "java/lang/IndexOutOfBoundsException", Cond.methodLink RL 71 yX5_firstBlock, Cond.instanceMethod yX5_firstBlock, Cond.selects RX5 yX5_firstBlock yX5_firstBlock, Cond.initialized RX5, Cond.code yX5_firstBlock cX5_firstBlock 4 (some .int), Cond.fieldLink RX5 11 "Slidewarden" "versions" "[LSlidewarden$Version;", Cond.fieldLink RX5 130 "Slidewarden$Version" "deck" "LSlidewarden$Deck;", Cond.fieldLink RX5 73 "Slidewarden$Deck" "size" "I", Cond.fieldLink RX5 149 "Slidewarden$Deck" "slides" "[I", Cond.methodLink RX5 55 yX5_checkVersion, Cond.instanceMethod yX5_checkVersion, Cond.selects RX5 yX5_checkVersion yX5_checkVersion, Cond.code yX5_checkVersion cX5_checkVersion 2 none, Cond.classLink RX5 76 "java/lang/IndexOutOfBoundsException", Cond.initialized "java/lang/IndexOutOfBoundsException", Cond.fieldLink RX5 48 "Slidewarden" "versionCount" "I", Cond.methodLink RX5 250 yX5_countBlocksAt, Cond.instanceMethod yX5_countBlocksAt, Cond.selects RX5 yX5_countBlocksAt yX5_countBlocksAt, Cond.code yX5_countBlocksAt cX5_countBlocksAt 5 (some .int), Cond.fieldLink RX5 199 "Slidewarden" "ruleCount" "I", Cond.fieldLink RX5 24 "Slidewarden" "rules" "[LSlidewarden$Rule;", Cond.methodLink RX5 246 yX2_isBrokenAt]
def wsL_firstBlock_r2 : List Cond := [Cond.instanceMethod yX2_isBrokenAt, Cond.selects RX2 yX2_isBrokenAt yX2_isBrokenAt, Cond.initialized RX2, Cond.code yX2_isBrokenAt cX2_isBrokenAt 4 (some .boolean), Cond.fieldLink RX2 7 "Slidewarden$Rule" "object" "I", Cond.fieldLink RX2 19 "Slidewarden$Rule" "least" "I", Cond.fieldLink RX2 22 "Slidewarden$Rule" "most" "I", Cond.methodLink RX2 13 yX0_valueAt, Cond.instanceMethod yX0_valueAt, Cond.selects RX0 yX0_valueAt yX0_valueAt, Cond.initialized RX0, Cond.code yX0_valueAt cX0_valueAt 3 (some .int), Cond.fieldLink RX0 15 "Slidewarden$Deck" "values" "[I", Cond.methodLink RX5 282 yX5_isBlocking, Cond.instanceMethod yX5_isBlocking, Cond.selects RX5 yX5_isBlocking yX5_isBlocking, Cond.code yX5_isBlocking cX5_isBlocking 4 (some .boolean), Cond.fieldLink RX5 204 "Slidewarden$Rule" "rank" "I", Cond.methodLink RX5 286 yX5_isWaived, Cond.instanceMethod yX5_isWaived, Cond.selects RX5 yX5_isWaived yX5_isWaived, Cond.code yX5_isWaived cX5_isWaived 5 (some .boolean), Cond.fieldLink RX5 232 "Slidewarden" "waiverCount" "I", Cond.fieldLink RX5 30 "Slidewarden" "waivers" "[LSlidewarden$Waiver;"]
def wsL_firstBlock_r3 : List Cond := [Cond.fieldLink RX5 237 "Slidewarden$Waiver" "rule" "I", Cond.fieldLink RX5 240 "Slidewarden$Waiver" "slide" "I", Cond.fieldLink RX5 243 "Slidewarden$Waiver" "until" "I", Cond.fieldLink RX5 225 "Slidewarden" "day" "I"]
def wsL_firstBlock : List Cond := .codeWith yL_firstBlock cL_firstBlock 4 (some .int) [(0, 9, 12, 13)] :: ((wsL_firstBlock_r1 ++ (wsL_firstBlock_r2 ++ wsL_firstBlock_r3)) ++ wsX50 ++ wsX30 ++ wsX00 ++ wsX20 ++ wsX40 ++ (vx_atS RX5 80 "java/lang/IndexOutOfBoundsException" ["java/lang/RuntimeException", "java/lang/Exception"]).filter goodWord)
def wsL_show_r1 : List Cond := [Cond.classLink RL 13 "java/lang/IndexOutOfBoundsException", Cond.classLink RL 15 "java/lang/IllegalStateException", Cond.methodLink RL 74 yX5_show, Cond.instanceMethod yX5_show, Cond.selects RX5 yX5_show yX5_show, Cond.initialized RX5, Cond.code yX5_show cX5_show 2 (some .int), Cond.classLink RX5 59 "java/lang/IllegalStateException", Cond.initialized "java/lang/IllegalStateException", Cond.fieldLink RX5 19 "Slidewarden" "shownVersions" "[I", Cond.fieldLink RX5 15 "Slidewarden" "heads" "[I", Cond.methodLink RX5 66 yX5_checkBranch, Cond.instanceMethod yX5_checkBranch, Cond.selects RX5 yX5_checkBranch yX5_checkBranch, Cond.code yX5_checkBranch cX5_checkBranch 2 none, Cond.classLink RX5 76 "java/lang/IndexOutOfBoundsException", Cond.initialized "java/lang/IndexOutOfBoundsException", Cond.fieldLink RX5 52 "Slidewarden" "branchCount" "I", Cond.methodLink RX5 69 yX5_headDeck, Cond.instanceMethod yX5_headDeck, Cond.selects RX5 yX5_headDeck yX5_headDeck, Cond.code yX5_headDeck cX5_headDeck 2 (some (.object "Slidewarden$Deck")), Cond.fieldLink RX5 11 "Slidewarden" "versions" "[LSlidewarden$Version;", Cond.fieldLink RX5 130 "Slidewarden$Version" "deck" "LSlidewarden$Deck;"]
def wsL_show_r2 : List Cond := [Cond.methodLink RX5 185 yX5_countBlocks, Cond.instanceMethod yX5_countBlocks, Cond.selects RX5 yX5_countBlocks yX5_countBlocks, Cond.code yX5_countBlocks cX5_countBlocks 4 (some .int), Cond.fieldLink RX5 73 "Slidewarden$Deck" "size" "I", Cond.methodLink RX5 250 yX5_countBlocksAt, Cond.instanceMethod yX5_countBlocksAt, Cond.selects RX5 yX5_countBlocksAt yX5_countBlocksAt, Cond.code yX5_countBlocksAt cX5_countBlocksAt 5 (some .int), Cond.fieldLink RX5 199 "Slidewarden" "ruleCount" "I", Cond.fieldLink RX5 24 "Slidewarden" "rules" "[LSlidewarden$Rule;", Cond.fieldLink RX5 149 "Slidewarden$Deck" "slides" "[I", Cond.methodLink RX5 246 yX2_isBrokenAt, Cond.instanceMethod yX2_isBrokenAt, Cond.selects RX2 yX2_isBrokenAt yX2_isBrokenAt, Cond.initialized RX2, Cond.code yX2_isBrokenAt cX2_isBrokenAt 4 (some .boolean), Cond.fieldLink RX2 7 "Slidewarden$Rule" "object" "I", Cond.fieldLink RX2 19 "Slidewarden$Rule" "least" "I", Cond.fieldLink RX2 22 "Slidewarden$Rule" "most" "I", Cond.methodLink RX2 13 yX0_valueAt, Cond.instanceMethod yX0_valueAt, Cond.selects RX0 yX0_valueAt yX0_valueAt, Cond.initialized RX0]
def wsL_show_r3 : List Cond := [Cond.code yX0_valueAt cX0_valueAt 3 (some .int), Cond.fieldLink RX0 15 "Slidewarden$Deck" "values" "[I", Cond.methodLink RX5 282 yX5_isBlocking, Cond.instanceMethod yX5_isBlocking, Cond.selects RX5 yX5_isBlocking yX5_isBlocking, Cond.code yX5_isBlocking cX5_isBlocking 4 (some .boolean), Cond.fieldLink RX5 204 "Slidewarden$Rule" "rank" "I", Cond.methodLink RX5 286 yX5_isWaived, Cond.instanceMethod yX5_isWaived, Cond.selects RX5 yX5_isWaived yX5_isWaived, Cond.code yX5_isWaived cX5_isWaived 5 (some .boolean), Cond.fieldLink RX5 232 "Slidewarden" "waiverCount" "I", Cond.fieldLink RX5 30 "Slidewarden" "waivers" "[LSlidewarden$Waiver;", Cond.fieldLink RX5 237 "Slidewarden$Waiver" "rule" "I", Cond.fieldLink RX5 240 "Slidewarden$Waiver" "slide" "I", Cond.fieldLink RX5 243 "Slidewarden$Waiver" "until" "I", Cond.fieldLink RX5 225 "Slidewarden" "day" "I"]
def wsL_show : List Cond := .codeWith yL_show cL_show 4 (some .int) [(0, 9, 12, 13), (0, 9, 15, 15)] :: ((wsL_show_r1 ++ (wsL_show_r2 ++ wsL_show_r3)) ++ wsX50 ++ wsX30 ++ wsX00 ++ wsX20 ++ wsX40 ++ (vx_atS RX5 63 "java/lang/IllegalStateException" ["java/lang/RuntimeException", "java/lang/Exception"]).filter goodWord ++ (vx_atS RX5 80 "java/lang/IndexOutOfBoundsException" ["java/lang/RuntimeException", "java/lang/Exception"]).filter goodWord)
def wsL_shown_r1 : List Cond := [Cond.classLink RL 13 "java/lang/IndexOutOfBoundsException", Cond.methodLink RL 77 yX5_shown, Cond.instanceMethod yX5_shown, Cond.selects RX5 yX5_shown yX5_shown, Cond.initialized RX5, Cond.code yX5_shown cX5_shown 3 (some .int), Cond.fieldLink RX5 19 "Slidewarden" "shownVersions" "[I", Cond.fieldLink RX5 11 "Slidewarden" "versions" "[LSlidewarden$Version;", Cond.fieldLink RX5 130 "Slidewarden$Version" "deck" "LSlidewarden$Deck;", Cond.methodLink RX5 66 yX5_checkBranch, Cond.instanceMethod yX5_checkBranch, Cond.selects RX5 yX5_checkBranch yX5_checkBranch, Cond.code yX5_checkBranch cX5_checkBranch 2 none, Cond.classLink RX5 76 "java/lang/IndexOutOfBoundsException", Cond.initialized "java/lang/IndexOutOfBoundsException", Cond.fieldLink RX5 52 "Slidewarden" "branchCount" "I", Cond.methodLink RX5 185 yX5_countBlocks, Cond.instanceMethod yX5_countBlocks, Cond.selects RX5 yX5_countBlocks yX5_countBlocks, Cond.code yX5_countBlocks cX5_countBlocks 4 (some .int), Cond.fieldLink RX5 73 "Slidewarden$Deck" "size" "I", Cond.methodLink RX5 250 yX5_countBlocksAt, Cond.instanceMethod yX5_countBlocksAt, Cond.selects RX5 yX5_countBlocksAt yX5_countBlocksAt]
def wsL_shown_r2 : List Cond := [Cond.code yX5_countBlocksAt cX5_countBlocksAt 5 (some .int), Cond.fieldLink RX5 199 "Slidewarden" "ruleCount" "I", Cond.fieldLink RX5 24 "Slidewarden" "rules" "[LSlidewarden$Rule;", Cond.fieldLink RX5 149 "Slidewarden$Deck" "slides" "[I", Cond.methodLink RX5 246 yX2_isBrokenAt, Cond.instanceMethod yX2_isBrokenAt, Cond.selects RX2 yX2_isBrokenAt yX2_isBrokenAt, Cond.initialized RX2, Cond.code yX2_isBrokenAt cX2_isBrokenAt 4 (some .boolean), Cond.fieldLink RX2 7 "Slidewarden$Rule" "object" "I", Cond.fieldLink RX2 19 "Slidewarden$Rule" "least" "I", Cond.fieldLink RX2 22 "Slidewarden$Rule" "most" "I", Cond.methodLink RX2 13 yX0_valueAt, Cond.instanceMethod yX0_valueAt, Cond.selects RX0 yX0_valueAt yX0_valueAt, Cond.initialized RX0, Cond.code yX0_valueAt cX0_valueAt 3 (some .int), Cond.fieldLink RX0 15 "Slidewarden$Deck" "values" "[I", Cond.methodLink RX5 282 yX5_isBlocking, Cond.instanceMethod yX5_isBlocking, Cond.selects RX5 yX5_isBlocking yX5_isBlocking, Cond.code yX5_isBlocking cX5_isBlocking 4 (some .boolean), Cond.fieldLink RX5 204 "Slidewarden$Rule" "rank" "I", Cond.methodLink RX5 286 yX5_isWaived]
def wsL_shown_r3 : List Cond := [Cond.instanceMethod yX5_isWaived, Cond.selects RX5 yX5_isWaived yX5_isWaived, Cond.code yX5_isWaived cX5_isWaived 5 (some .boolean), Cond.fieldLink RX5 232 "Slidewarden" "waiverCount" "I", Cond.fieldLink RX5 30 "Slidewarden" "waivers" "[LSlidewarden$Waiver;", Cond.fieldLink RX5 237 "Slidewarden$Waiver" "rule" "I", Cond.fieldLink RX5 240 "Slidewarden$Waiver" "slide" "I", Cond.fieldLink RX5 243 "Slidewarden$Waiver" "until" "I", Cond.fieldLink RX5 225 "Slidewarden" "day" "I"]
def wsL_shown : List Cond := .codeWith yL_shown cL_shown 4 (some .int) [(0, 9, 12, 13)] :: ((wsL_shown_r1 ++ (wsL_shown_r2 ++ wsL_shown_r3)) ++ wsX50 ++ wsX30 ++ wsX00 ++ wsX20 ++ wsX40 ++ (vx_atS RX5 80 "java/lang/IndexOutOfBoundsException" ["java/lang/RuntimeException", "java/lang/Exception"]).filter goodWord)
def wsL_pass : List Cond := .codeWith yL_pass cL_pass 4 (some .int) [(0, 9, 12, 25), (0, 9, 15, 15)] :: ([.classLink RL 25 "java/lang/IllegalArgumentException", .classLink RL 15 "java/lang/IllegalStateException", .methodLink RL 80 yX5_pass, .instanceMethod yX5_pass, .selects RX5 yX5_pass yX5_pass, .initialized RX5, .code yX5_pass cX5_pass 2 (some .int), .classLink RX5 106 "java/lang/IllegalArgumentException", .initialized "java/lang/IllegalArgumentException", .classLink RX5 59 "java/lang/IllegalStateException", .initialized "java/lang/IllegalStateException", .fieldLink RX5 225 "Slidewarden" "day" "I"] ++ wsX50 ++ (vx_atS RX5 110 "java/lang/IllegalArgumentException" ["java/lang/RuntimeException", "java/lang/Exception"]).filter goodWord ++ (vx_atS RX5 63 "java/lang/IllegalStateException" ["java/lang/RuntimeException", "java/lang/Exception"]).filter goodWord)
def wsL_law0_r1 : List Cond := [Cond.classLink RL 8 RX5, Cond.instantiable RX5 12, Cond.initialized RX5, Cond.classLink RL 84 RX6, Cond.instantiable RX6 28, Cond.initialized RX6, Cond.arrayClass .long, Cond.methodLink RL 83 yX5_init, Cond.instanceMethod yX5_init, Cond.code yX5_init cX5_init 2 none, Cond.methodLink RX5 1 objectInit, Cond.instanceMethod objectInit, Cond.code objectInit ⟨#[0xb1]⟩ 1 none, Cond.classLink RX5 9 RX3, Cond.fieldLink RX5 11 "Slidewarden" "versions" "[LSlidewarden$Version;", Cond.arrayClass .int, Cond.fieldLink RX5 15 "Slidewarden" "heads" "[I", Cond.fieldLink RX5 19 "Slidewarden" "shownVersions" "[I", Cond.classLink RX5 22 RX2, Cond.fieldLink RX5 24 "Slidewarden" "rules" "[LSlidewarden$Rule;", Cond.classLink RX5 28 RX4, Cond.fieldLink RX5 30 "Slidewarden" "waivers" "[LSlidewarden$Waiver;", Cond.classLink RX5 34 RX0, Cond.instantiable RX0 3]
def wsL_law0_r2 : List Cond := [Cond.initialized RX0, Cond.fieldLink RX5 37 "Slidewarden" "trial" "LSlidewarden$Deck;", Cond.instantiable RX3 5, Cond.initialized RX3, Cond.instantiable RX2 4, Cond.initialized RX2, Cond.instantiable RX4 3, Cond.initialized RX4, Cond.fieldLink RX5 44 "Slidewarden$Version" "ancestors" "J", Cond.fieldLink RX5 48 "Slidewarden" "versionCount" "I", Cond.fieldLink RX5 52 "Slidewarden" "branchCount" "I", Cond.instanceMethod yX0_init, Cond.code yX0_init cX0_init 1 none, Cond.methodLink RX0 3 objectInit, Cond.fieldLink RX0 9 "Slidewarden$Deck" "slides" "[I", Cond.fieldLink RX0 15 "Slidewarden$Deck" "values" "[I", Cond.instanceMethod yX3_init, Cond.code yX3_init cX3_init 1 none, Cond.methodLink RX3 3 objectInit, Cond.classLink RX3 9 RX0, Cond.fieldLink RX3 12 "Slidewarden$Version" "deck" "LSlidewarden$Deck;", Cond.fieldLink RX3 18 "Slidewarden$Version" "cameFrom" "I", Cond.fieldLink RX3 22 "Slidewarden$Version" "mergedFrom" "I", Cond.instanceMethod yX2_init]
def wsL_law0_r3 : List Cond := [Cond.code yX2_init cX2_init 1 none, Cond.methodLink RX2 1 objectInit, Cond.instanceMethod yX4_init, Cond.code yX4_init cX4_init 1 none, Cond.methodLink RX4 1 objectInit, Cond.methodLink RL 86 yX6_init, Cond.instanceMethod yX6_init, Cond.code yX6_init cX6_init 2 none, Cond.methodLink RX6 1 objectInit, Cond.fieldLink RX6 7 "SlidewardenModel" "versions" "I", Cond.fieldLink RX6 13 "SlidewardenModel" "madeOn" "[I", Cond.fieldLink RX6 17 "SlidewardenModel" "came" "[I", Cond.fieldLink RX6 20 "SlidewardenModel" "other" "[I", Cond.fieldLink RX6 23 "SlidewardenModel" "many" "[I", Cond.fieldLink RX6 26 "SlidewardenModel" "row" "[I", Cond.fieldLink RX6 29 "SlidewardenModel" "value" "[I", Cond.fieldLink RX6 32 "SlidewardenModel" "branches" "I", Cond.fieldLink RX6 35 "SlidewardenModel" "head" "[I", Cond.fieldLink RX6 38 "SlidewardenModel" "shown" "[I", Cond.fieldLink RX6 41 "SlidewardenModel" "rank" "[I", Cond.fieldLink RX6 44 "SlidewardenModel" "object" "[I", Cond.fieldLink RX6 47 "SlidewardenModel" "least" "[I", Cond.fieldLink RX6 50 "SlidewardenModel" "most" "[I", Cond.fieldLink RX6 53 "SlidewardenModel" "ruleOf" "[I"]
def wsL_law0_r4 : List Cond := [Cond.fieldLink RX6 56 "SlidewardenModel" "slideOf" "[I", Cond.fieldLink RX6 59 "SlidewardenModel" "until" "[I", Cond.fieldLink RX6 62 "SlidewardenModel" "deckRow" "[I", Cond.fieldLink RX6 65 "SlidewardenModel" "deckValue" "[I", Cond.arrayClass .boolean, Cond.fieldLink RX6 68 "SlidewardenModel" "isOf" "[Z", Cond.fieldLink RX6 72 "SlidewardenModel" "isOfOther" "[Z", Cond.fieldLink RX6 75 "SlidewardenModel" "was" "[Z", Cond.methodLink RL 87 yL_branch, Cond.static yL_branch, Cond.initialized RL, Cond.codeWith yL_branch cL_branch 4 (some .int) [(0, 9, 12, 13), (0, 9, 15, 15)], Cond.classLink RL 13 "java/lang/IndexOutOfBoundsException", Cond.classLink RL 15 "java/lang/IllegalStateException", Cond.methodLink RL 7 yX5_branch, Cond.instanceMethod yX5_branch, Cond.selects RX5 yX5_branch yX5_branch, Cond.code yX5_branch cX5_branch 3 (some .int), Cond.classLink RX5 59 "java/lang/IllegalStateException", Cond.initialized "java/lang/IllegalStateException", Cond.methodLink RX5 55 yX5_checkVersion, Cond.instanceMethod yX5_checkVersion, Cond.selects RX5 yX5_checkVersion yX5_checkVersion, Cond.code yX5_checkVersion cX5_checkVersion 2 none]
def wsL_law0_r5 : List Cond := [Cond.classLink RX5 76 "java/lang/IndexOutOfBoundsException", Cond.initialized "java/lang/IndexOutOfBoundsException", Cond.methodLink RL 92 yX6_branch, Cond.instanceMethod yX6_branch, Cond.selects RX6 yX6_branch yX6_branch, Cond.code yX6_branch cX6_branch 2 (some .int), Cond.fieldLink RX6 78 "SlidewardenModel" "thrown" "I", Cond.methodLink RX6 89 yX6_isVersion, Cond.instanceMethod yX6_isVersion, Cond.selects RX6 yX6_isVersion yX6_isVersion, Cond.code yX6_isVersion cX6_isVersion 2 (some .boolean), Cond.methodLink RX6 81 yX6_in, Cond.static yX6_in, Cond.code yX6_in cX6_in 3 (some .boolean), Cond.methodLink RL 93 yX6_thrown, Cond.instanceMethod yX6_thrown, Cond.selects RX6 yX6_thrown yX6_thrown, Cond.code yX6_thrown cX6_thrown 1 (some .int), Cond.methodLink RL 97 yL_add, Cond.static yL_add, Cond.codeWith yL_add cL_add 5 (some .int) [(0, 10, 13, 13), (0, 10, 17, 15)], Cond.methodLink RL 17 yX5_add, Cond.instanceMethod yX5_add, Cond.selects RX5 yX5_add yX5_add]
def wsL_law0_r6 : List Cond := [Cond.code yX5_add cX5_add 5 (some .int), Cond.fieldLink RX5 73 "Slidewarden$Deck" "size" "I", Cond.fieldLink RX5 83 "Slidewarden" "slideCount" "I", Cond.methodLink RX5 66 yX5_checkBranch, Cond.instanceMethod yX5_checkBranch, Cond.selects RX5 yX5_checkBranch yX5_checkBranch, Cond.code yX5_checkBranch cX5_checkBranch 2 none, Cond.methodLink RX5 69 yX5_headDeck, Cond.instanceMethod yX5_headDeck, Cond.selects RX5 yX5_headDeck yX5_headDeck, Cond.code yX5_headDeck cX5_headDeck 2 (some (.object "Slidewarden$Deck")), Cond.fieldLink RX5 130 "Slidewarden$Version" "deck" "LSlidewarden$Deck;", Cond.methodLink RX5 88 yX5_checkRoomForVersion, Cond.instanceMethod yX5_checkRoomForVersion, Cond.selects RX5 yX5_checkRoomForVersion yX5_checkRoomForVersion, Cond.code yX5_checkRoomForVersion cX5_checkRoomForVersion 1 none, Cond.methodLink RX5 91 yX5_makeVersion, Cond.instanceMethod yX5_makeVersion, Cond.selects RX5 yX5_makeVersion yX5_makeVersion, Cond.code yX5_makeVersion cX5_makeVersion 6 (some (.object "Slidewarden$Deck")), Cond.fieldLink RX5 121 "Slidewarden$Version" "madeOn" "I", Cond.fieldLink RX5 124 "Slidewarden$Version" "cameFrom" "I", Cond.fieldLink RX5 127 "Slidewarden$Version" "mergedFrom" "I", Cond.methodLink RX5 191 yX0_copyFrom]
def wsL_law0_r7 : List Cond := [Cond.instanceMethod yX0_copyFrom, Cond.selects RX0 yX0_copyFrom yX0_copyFrom, Cond.code yX0_copyFrom cX0_copyFrom 2 none, Cond.methodLink RX0 38 arraycopyName, Cond.native arraycopyName, Cond.static arraycopyName, Cond.initialized "java/lang/System", Cond.fieldLink RX0 18 "Slidewarden$Deck" "size" "I", Cond.methodLink RX5 95 yX0_insert, Cond.instanceMethod yX0_insert, Cond.selects RX0 yX0_insert yX0_insert, Cond.code yX0_insert cX0_insert 4 none, Cond.methodLink RX0 30 yX0_move, Cond.instanceMethod yX0_move, Cond.selects RX0 yX0_move yX0_move, Cond.code yX0_move cX0_move 4 none, Cond.methodLink RX0 26 yX0_valueAt, Cond.instanceMethod yX0_valueAt, Cond.selects RX0 yX0_valueAt yX0_valueAt, Cond.code yX0_valueAt cX0_valueAt 3 (some .int), Cond.methodLink RX0 34 yX0_put, Cond.instanceMethod yX0_put, Cond.selects RX0 yX0_put yX0_put, Cond.code yX0_put cX0_put 4 none]
def wsL_law0_r8 : List Cond := [Cond.methodLink RL 100 yX6_add, Cond.instanceMethod yX6_add, Cond.selects RX6 yX6_add yX6_add, Cond.code yX6_add cX6_add 6 (some .int), Cond.fieldLink RX6 96 "SlidewardenModel" "slides" "I", Cond.methodLink RX6 93 yX6_isBranch, Cond.instanceMethod yX6_isBranch, Cond.selects RX6 yX6_isBranch yX6_isBranch, Cond.code yX6_isBranch cX6_isBranch 2 (some .boolean), Cond.methodLink RX6 99 yX6_edits, Cond.instanceMethod yX6_edits, Cond.selects RX6 yX6_edits yX6_edits, Cond.code yX6_edits cX6_edits 8 (some .int), Cond.methodLink RL 101 yL_set, Cond.static yL_set, Cond.codeWith yL_set cL_set 7 (some .int) [(0, 14, 17, 13), (0, 14, 21, 25), (0, 14, 25, 15)], Cond.classLink RL 25 "java/lang/IllegalArgumentException", Cond.methodLink RL 21 yX5_set, Cond.instanceMethod yX5_set, Cond.selects RX5 yX5_set yX5_set, Cond.code yX5_set cX5_set 8 (some .int), Cond.classLink RX5 106 "java/lang/IllegalArgumentException", Cond.initialized "java/lang/IllegalArgumentException", Cond.methodLink RX5 99 yX5_placeInHead]
def wsL_law0_r9 : List Cond := [Cond.instanceMethod yX5_placeInHead, Cond.selects RX5 yX5_placeInHead yX5_placeInHead, Cond.code yX5_placeInHead cX5_placeInHead 4 (some .int), Cond.methodLink RX5 274 yX0_placeOf, Cond.instanceMethod yX0_placeOf, Cond.selects RX0 yX0_placeOf yX0_placeOf, Cond.code yX0_placeOf cX0_placeOf 3 (some .int), Cond.methodLink RX5 103 yX5_checkObject, Cond.static yX5_checkObject, Cond.code yX5_checkObject cX5_checkObject 1 none, Cond.methodLink RX5 111 yX0_valueAt, Cond.methodLink RX5 114 yX0_put, Cond.methodLink RL 104 yX6_set, Cond.instanceMethod yX6_set, Cond.selects RX6 yX6_set yX6_set, Cond.code yX6_set cX6_set 8 (some .int), Cond.methodLink RX6 102 yX6_isInHead, Cond.instanceMethod yX6_isInHead, Cond.selects RX6 yX6_isInHead yX6_isInHead, Cond.code yX6_isInHead cX6_isInHead 3 (some .boolean), Cond.methodLink RX6 85 yX6_placeOf, Cond.instanceMethod yX6_placeOf, Cond.selects RX6 yX6_placeOf yX6_placeOf, Cond.code yX6_placeOf cX6_placeOf 4 (some .int)]
def wsL_law0_r10 : List Cond := [Cond.methodLink RX6 106 yX6_isObject, Cond.static yX6_isObject, Cond.code yX6_isObject cX6_isObject 1 (some .boolean), Cond.methodLink RL 105 yL_drop, Cond.static yL_drop, Cond.codeWith yL_drop cL_drop 5 (some .int) [(0, 10, 13, 13), (0, 10, 17, 15)], Cond.methodLink RL 27 yX5_drop, Cond.instanceMethod yX5_drop, Cond.selects RX5 yX5_drop yX5_drop, Cond.code yX5_drop cX5_drop 4 (some .int), Cond.methodLink RX5 118 yX0_removeAt, Cond.instanceMethod yX0_removeAt, Cond.selects RX0 yX0_removeAt yX0_removeAt, Cond.code yX0_removeAt cX0_removeAt 3 none, Cond.methodLink RL 107 yX6_drop, Cond.instanceMethod yX6_drop, Cond.selects RX6 yX6_drop yX6_drop, Cond.code yX6_drop cX6_drop 3 (some .int), Cond.methodLink RL 108 yL_head, Cond.static yL_head, Cond.codeWith yL_head cL_head 4 (some .int) [(0, 9, 12, 13)], Cond.methodLink RL 30 yX5_head, Cond.instanceMethod yX5_head, Cond.selects RX5 yX5_head yX5_head]
def wsL_law0_r11 : List Cond := [Cond.code yX5_head cX5_head 2 (some .int), Cond.methodLink RL 110 yX6_head, Cond.instanceMethod yX6_head, Cond.selects RX6 yX6_head yX6_head, Cond.code yX6_head cX6_head 2 (some .int), Cond.methodLink RL 111 yL_about, Cond.static yL_about, Cond.codeWith yL_about cL_about 5 (some .int) [(0, 10, 13, 13), (0, 10, 17, 25)], Cond.methodLink RL 33 yX5_about, Cond.instanceMethod yX5_about, Cond.selects RX5 yX5_about yX5_about, Cond.code yX5_about cX5_about 4 (some .int), Cond.methodLink RX5 133 yJ13_bitCount_95d88, Cond.static yJ13_bitCount_95d88, Cond.initialized RJ13, Cond.code yJ13_bitCount_95d88 cJ13_bitCount_95d88 2 (some .int), Cond.constantLong RJ13 314 (6148914691236517205), Cond.constantLong RJ13 316 (3689348814741910323), Cond.constantLong RJ13 318 (1085102592571150095), Cond.methodLink RL 113 yX6_about, Cond.instanceMethod yX6_about, Cond.selects RX6 yX6_about yX6_about, Cond.code yX6_about cX6_about 3 (some .int), Cond.methodLink RX6 109 yX6_layAncestors]
def wsL_law0_r12 : List Cond := [Cond.instanceMethod yX6_layAncestors, Cond.selects RX6 yX6_layAncestors yX6_layAncestors, Cond.code yX6_layAncestors cX6_layAncestors 8 (some .int), Cond.methodLink RL 114 yL_value, Cond.static yL_value, Cond.codeWith yL_value cL_value 6 (some .int) [(0, 12, 15, 13)], Cond.methodLink RL 36 yX5_value, Cond.instanceMethod yX5_value, Cond.selects RX5 yX5_value yX5_value, Cond.code yX5_value cX5_value 4 (some .int), Cond.methodLink RX5 141 yX5_checkSlide, Cond.instanceMethod yX5_checkSlide, Cond.selects RX5 yX5_checkSlide yX5_checkSlide, Cond.code yX5_checkSlide cX5_checkSlide 2 none, Cond.methodLink RX5 144 yX0_valueOf, Cond.instanceMethod yX0_valueOf, Cond.selects RX0 yX0_valueOf yX0_valueOf, Cond.code yX0_valueOf cX0_valueOf 4 (some .int), Cond.methodLink RX0 22 yX0_placeOf, Cond.methodLink RL 117 yX6_value, Cond.instanceMethod yX6_value, Cond.selects RX6 yX6_value yX6_value, Cond.code yX6_value cX6_value 4 (some .int), Cond.methodLink RX6 113 yX6_isSlide]
def wsL_law0_r13 : List Cond := [Cond.instanceMethod yX6_isSlide, Cond.selects RX6 yX6_isSlide yX6_isSlide, Cond.code yX6_isSlide cX6_isSlide 2 (some .boolean), Cond.methodLink RX6 116 yX6_valueOf, Cond.instanceMethod yX6_valueOf, Cond.selects RX6 yX6_valueOf yX6_valueOf, Cond.code yX6_valueOf cX6_valueOf 4 (some .int), Cond.methodLink RL 118 yL_slideAt, Cond.static yL_slideAt, Cond.codeWith yL_slideAt cL_slideAt 5 (some .int) [(0, 10, 13, 13)], Cond.methodLink RL 40 yX5_slideAt, Cond.instanceMethod yX5_slideAt, Cond.selects RX5 yX5_slideAt yX5_slideAt, Cond.code yX5_slideAt cX5_slideAt 4 (some .int), Cond.fieldLink RX5 149 "Slidewarden$Deck" "slides" "[I", Cond.methodLink RL 120 yX6_slideAt, Cond.instanceMethod yX6_slideAt, Cond.selects RX6 yX6_slideAt yX6_slideAt, Cond.code yX6_slideAt cX6_slideAt 3 (some .int), Cond.methodLink RL 121 yL_base, Cond.static yL_base, Cond.codeWith yL_base cL_base 5 (some .int) [(0, 10, 13, 13), (0, 10, 17, 25)], Cond.methodLink RL 43 yX5_base, Cond.instanceMethod yX5_base]
def wsL_law0_r14 : List Cond := [Cond.selects RX5 yX5_base yX5_base, Cond.code yX5_base cX5_base 3 (some .int), Cond.methodLink RX5 152 yX5_checkDifferent, Cond.static yX5_checkDifferent, Cond.code yX5_checkDifferent cX5_checkDifferent 2 none, Cond.methodLink RX5 155 yX5_baseOf, Cond.instanceMethod yX5_baseOf, Cond.selects RX5 yX5_baseOf yX5_baseOf, Cond.code yX5_baseOf cX5_baseOf 6 (some .int), Cond.methodLink RL 123 yX6_base, Cond.instanceMethod yX6_base, Cond.selects RX6 yX6_base yX6_base, Cond.code yX6_base cX6_base 3 (some .int), Cond.methodLink RX6 131 yX6_wrong, Cond.instanceMethod yX6_wrong, Cond.selects RX6 yX6_wrong yX6_wrong, Cond.code yX6_wrong cX6_wrong 3 (some .int), Cond.methodLink RX6 134 yX6_baseOf, Cond.instanceMethod yX6_baseOf, Cond.selects RX6 yX6_baseOf yX6_baseOf, Cond.code yX6_baseOf cX6_baseOf 6 (some .int), Cond.methodLink RL 124 yL_clashes, Cond.static yL_clashes, Cond.codeWith yL_clashes cL_clashes 5 (some .int) [(0, 10, 13, 13), (0, 10, 17, 25)]]
def wsL_law0_r15 : List Cond := [Cond.methodLink RL 46 yX5_clashes, Cond.instanceMethod yX5_clashes, Cond.selects RX5 yX5_clashes yX5_clashes, Cond.code yX5_clashes cX5_clashes 3 (some .int), Cond.methodLink RX5 158 yX5_mergeOf, Cond.instanceMethod yX5_mergeOf, Cond.selects RX5 yX5_mergeOf yX5_mergeOf, Cond.code yX5_mergeOf cX5_mergeOf 3 (some (.object "Slidewarden$Merge")), Cond.classLink RX5 163 RX1, Cond.instantiable RX1 3, Cond.initialized RX1, Cond.methodLink RX5 279 yX1_init, Cond.instanceMethod yX1_init, Cond.code yX1_init cX1_init 4 none, Cond.methodLink RX1 3 objectInit, Cond.fieldLink RX1 9 "Slidewarden$Merge" "old" "LSlidewarden$Deck;", Cond.fieldLink RX1 15 "Slidewarden$Merge" "ours" "LSlidewarden$Deck;", Cond.fieldLink RX1 18 "Slidewarden$Merge" "theirs" "LSlidewarden$Deck;", Cond.methodLink RX5 162 yX1_countClashes, Cond.instanceMethod yX1_countClashes, Cond.selects RX1 yX1_countClashes yX1_countClashes, Cond.code yX1_countClashes cX1_countClashes 5 (some .int), Cond.methodLink RX1 21 yX1_isSlideClash, Cond.instanceMethod yX1_isSlideClash]
def wsL_law0_r16 : List Cond := [Cond.selects RX1 yX1_isSlideClash yX1_isSlideClash, Cond.code yX1_isSlideClash cX1_isSlideClash 3 (some .boolean), Cond.methodLink RX1 36 yX0_has, Cond.instanceMethod yX0_has, Cond.selects RX0 yX0_has yX0_has, Cond.code yX0_has cX0_has 2 (some .boolean), Cond.methodLink RX1 65 yX0_isAlike, Cond.instanceMethod yX0_isAlike, Cond.selects RX0 yX0_isAlike yX0_isAlike, Cond.code yX0_isAlike cX0_isAlike 6 (some .boolean), Cond.methodLink RX1 25 yX1_isObjectClash, Cond.instanceMethod yX1_isObjectClash, Cond.selects RX1 yX1_isObjectClash yX1_isObjectClash, Cond.code yX1_isObjectClash cX1_isObjectClash 6 (some .boolean), Cond.methodLink RX1 41 yX0_valueOf, Cond.methodLink RL 126 yX6_clashes, Cond.instanceMethod yX6_clashes, Cond.selects RX6 yX6_clashes yX6_clashes, Cond.code yX6_clashes cX6_clashes 3 (some .int), Cond.methodLink RX6 137 yX6_clashesOf, Cond.instanceMethod yX6_clashesOf, Cond.selects RX6 yX6_clashesOf yX6_clashesOf, Cond.code yX6_clashesOf cX6_clashesOf 8 (some .int), Cond.methodLink RX6 123 yX6_fate]
def wsL_law0_r17 : List Cond := [Cond.instanceMethod yX6_fate, Cond.selects RX6 yX6_fate yX6_fate, Cond.code yX6_fate cX6_fate 8 (some .int), Cond.methodLink RX6 120 yX6_isAs, Cond.instanceMethod yX6_isAs, Cond.selects RX6 yX6_isAs yX6_isAs, Cond.code yX6_isAs cX6_isAs 6 (some .boolean), Cond.methodLink RX6 127 yX6_meets, Cond.instanceMethod yX6_meets, Cond.selects RX6 yX6_meets yX6_meets, Cond.code yX6_meets cX6_meets 10 (some .int), Cond.methodLink RL 127 yL_merged, Cond.static yL_merged, Cond.codeWith yL_merged cL_merged 8 (some .int) [(0, 16, 19, 13), (0, 16, 23, 25)], Cond.methodLink RL 49 yX5_merged, Cond.instanceMethod yX5_merged, Cond.selects RX5 yX5_merged yX5_merged, Cond.code yX5_merged cX5_merged 6 (some .int), Cond.methodLink RX5 170 yX1_resultOf, Cond.instanceMethod yX1_resultOf, Cond.selects RX1 yX1_resultOf yX1_resultOf, Cond.code yX1_resultOf cX1_resultOf 4 (some .int), Cond.methodLink RX1 29 yX1_isKept, Cond.instanceMethod yX1_isKept]
def wsL_law0_r18 : List Cond := [Cond.selects RX1 yX1_isKept yX1_isKept, Cond.code yX1_isKept cX1_isKept 5 (some .boolean), Cond.methodLink RX1 32 yX1_keptValue, Cond.instanceMethod yX1_keptValue, Cond.selects RX1 yX1_keptValue yX1_keptValue, Cond.code yX1_keptValue cX1_keptValue 6 (some .int), Cond.methodLink RL 130 yX6_merged, Cond.instanceMethod yX6_merged, Cond.selects RX6 yX6_merged yX6_merged, Cond.code yX6_merged cX6_merged 6 (some .int), Cond.methodLink RX6 140 yX6_settles, Cond.instanceMethod yX6_settles, Cond.selects RX6 yX6_settles yX6_settles, Cond.code yX6_settles cX6_settles 10 (some .int), Cond.methodLink RL 131 yL_merge, Cond.static yL_merge, Cond.codeWith yL_merge cL_merge 6 (some .int) [(0, 12, 15, 13), (0, 12, 19, 25), (0, 12, 23, 15)], Cond.methodLink RL 53 yX5_merge, Cond.instanceMethod yX5_merge, Cond.selects RX5 yX5_merge yX5_merge, Cond.code yX5_merge cX5_merge 5 (some .int), Cond.methodLink RX5 176 yX1_countSlides, Cond.instanceMethod yX1_countSlides, Cond.selects RX1 yX1_countSlides yX1_countSlides]
def wsL_law0_r19 : List Cond := [Cond.code yX1_countSlides cX1_countSlides 5 (some .int), Cond.methodLink RX5 181 yX1_fill, Cond.instanceMethod yX1_fill, Cond.selects RX1 yX1_fill yX1_fill, Cond.code yX1_fill cX1_fill 5 none, Cond.fieldLink RX1 45 "Slidewarden$Deck" "size" "I", Cond.fieldLink RX1 49 "Slidewarden$Deck" "slides" "[I", Cond.methodLink RX1 53 yX1_append, Cond.instanceMethod yX1_append, Cond.selects RX1 yX1_append yX1_append, Cond.code yX1_append cX1_append 6 none, Cond.methodLink RX1 57 yX0_insert, Cond.methodLink RX1 61 yX0_put, Cond.methodLink RX5 185 yX5_countBlocks, Cond.instanceMethod yX5_countBlocks, Cond.selects RX5 yX5_countBlocks yX5_countBlocks, Cond.code yX5_countBlocks cX5_countBlocks 4 (some .int), Cond.methodLink RX5 250 yX5_countBlocksAt, Cond.instanceMethod yX5_countBlocksAt, Cond.selects RX5 yX5_countBlocksAt yX5_countBlocksAt, Cond.code yX5_countBlocksAt cX5_countBlocksAt 5 (some .int), Cond.fieldLink RX5 199 "Slidewarden" "ruleCount" "I", Cond.methodLink RX5 246 yX2_isBrokenAt, Cond.instanceMethod yX2_isBrokenAt]
def wsL_law0_r20 : List Cond := [Cond.selects RX2 yX2_isBrokenAt yX2_isBrokenAt, Cond.code yX2_isBrokenAt cX2_isBrokenAt 4 (some .boolean), Cond.fieldLink RX2 7 "Slidewarden$Rule" "object" "I", Cond.fieldLink RX2 19 "Slidewarden$Rule" "least" "I", Cond.fieldLink RX2 22 "Slidewarden$Rule" "most" "I", Cond.methodLink RX2 13 yX0_valueAt, Cond.methodLink RX5 282 yX5_isBlocking, Cond.instanceMethod yX5_isBlocking, Cond.selects RX5 yX5_isBlocking yX5_isBlocking, Cond.code yX5_isBlocking cX5_isBlocking 4 (some .boolean), Cond.fieldLink RX5 204 "Slidewarden$Rule" "rank" "I", Cond.methodLink RX5 286 yX5_isWaived, Cond.instanceMethod yX5_isWaived, Cond.selects RX5 yX5_isWaived yX5_isWaived, Cond.code yX5_isWaived cX5_isWaived 5 (some .boolean), Cond.fieldLink RX5 232 "Slidewarden" "waiverCount" "I", Cond.fieldLink RX5 237 "Slidewarden$Waiver" "rule" "I", Cond.fieldLink RX5 240 "Slidewarden$Waiver" "slide" "I", Cond.fieldLink RX5 243 "Slidewarden$Waiver" "until" "I", Cond.fieldLink RX5 225 "Slidewarden" "day" "I", Cond.methodLink RL 133 yX6_merge, Cond.instanceMethod yX6_merge, Cond.selects RX6 yX6_merge yX6_merge, Cond.code yX6_merge cX6_merge 11 (some .int)]
def wsL_law0_r21 : List Cond := [Cond.fieldLink RX6 144 "SlidewardenModel" "deck" "I", Cond.fieldLink RX6 155 "SlidewardenModel" "rules" "I", Cond.methodLink RX6 151 yX6_layDeck, Cond.instanceMethod yX6_layDeck, Cond.selects RX6 yX6_layDeck yX6_layDeck, Cond.code yX6_layDeck cX6_layDeck 6 none, Cond.methodLink RX6 147 yX6_lays, Cond.instanceMethod yX6_lays, Cond.selects RX6 yX6_lays yX6_lays, Cond.code yX6_lays cX6_lays 7 none, Cond.methodLink RX6 158 yX6_isBlocked, Cond.instanceMethod yX6_isBlocked, Cond.selects RX6 yX6_isBlocked yX6_isBlocked, Cond.code yX6_isBlocked cX6_isBlocked 4 (some .boolean), Cond.methodLink RX6 167 yX6_breaks, Cond.instanceMethod yX6_breaks, Cond.selects RX6 yX6_breaks yX6_breaks, Cond.code yX6_breaks cX6_breaks 3 (some .boolean), Cond.methodLink RX6 170 yX6_isWaived, Cond.instanceMethod yX6_isWaived, Cond.selects RX6 yX6_isWaived yX6_isWaived, Cond.code yX6_isWaived cX6_isWaived 5 (some .boolean), Cond.fieldLink RX6 161 "SlidewardenModel" "waivers" "I", Cond.fieldLink RX6 164 "SlidewardenModel" "today" "I"]
def wsL_law0_r22 : List Cond := [Cond.methodLink RL 134 yL_rule, Cond.static yL_rule, Cond.codeWith yL_rule cL_rule 7 (some .int) [(0, 14, 17, 13), (0, 14, 21, 25), (0, 14, 25, 15)], Cond.methodLink RL 56 yX5_rule, Cond.instanceMethod yX5_rule, Cond.selects RX5 yX5_rule yX5_rule, Cond.code yX5_rule cX5_rule 7 (some .int), Cond.fieldLink RX5 207 "Slidewarden$Rule" "object" "I", Cond.fieldLink RX5 210 "Slidewarden$Rule" "least" "I", Cond.fieldLink RX5 213 "Slidewarden$Rule" "most" "I", Cond.methodLink RL 136 yX6_rule, Cond.instanceMethod yX6_rule, Cond.selects RX6 yX6_rule yX6_rule, Cond.code yX6_rule cX6_rule 5 (some .int), Cond.methodLink RL 137 yL_tighten, Cond.static yL_tighten, Cond.codeWith yL_tighten cL_tighten 6 (some .int) [(0, 12, 15, 13), (0, 12, 19, 25)], Cond.methodLink RL 59 yX5_tighten, Cond.instanceMethod yX5_tighten, Cond.selects RX5 yX5_tighten yX5_tighten, Cond.code yX5_tighten cX5_tighten 7 (some .int), Cond.constantLong RX5 223 (-1), Cond.methodLink RX5 216 yX5_checkRule, Cond.instanceMethod yX5_checkRule]
def wsL_law0_r23 : List Cond := [Cond.selects RX5 yX5_checkRule yX5_checkRule, Cond.code yX5_checkRule cX5_checkRule 2 none, Cond.methodLink RX5 219 yX5_blockedVersions, Cond.instanceMethod yX5_blockedVersions, Cond.selects RX5 yX5_blockedVersions yX5_blockedVersions, Cond.code yX5_blockedVersions cX5_blockedVersions 4 (some .long), Cond.methodLink RL 139 yX6_tighten, Cond.instanceMethod yX6_tighten, Cond.selects RX6 yX6_tighten yX6_tighten, Cond.code yX6_tighten cX6_tighten 6 (some .int), Cond.methodLink RX6 173 yX6_blocksOf, Cond.instanceMethod yX6_blocksOf, Cond.selects RX6 yX6_blocksOf yX6_blocksOf, Cond.code yX6_blocksOf cX6_blocksOf 5 (some .int), Cond.methodLink RL 140 yL_waive, Cond.static yL_waive, Cond.codeWith yL_waive cL_waive 6 (some .int) [(0, 12, 15, 13), (0, 12, 19, 25), (0, 12, 23, 15)], Cond.methodLink RL 62 yX5_waive, Cond.instanceMethod yX5_waive, Cond.selects RX5 yX5_waive yX5_waive, Cond.code yX5_waive cX5_waive 6 (some .int), Cond.methodLink RL 142 yX6_waive, Cond.instanceMethod yX6_waive, Cond.selects RX6 yX6_waive yX6_waive]
def wsL_law0_r24 : List Cond := [Cond.code yX6_waive cX6_waive 4 (some .int), Cond.methodLink RL 143 yL_blocks, Cond.static yL_blocks, Cond.codeWith yL_blocks cL_blocks 4 (some .int) [(0, 9, 12, 13)], Cond.methodLink RL 65 yX5_blocks, Cond.instanceMethod yX5_blocks, Cond.selects RX5 yX5_blocks yX5_blocks, Cond.code yX5_blocks cX5_blocks 2 (some .int), Cond.methodLink RL 145 yX6_blocks, Cond.instanceMethod yX6_blocks, Cond.selects RX6 yX6_blocks yX6_blocks, Cond.code yX6_blocks cX6_blocks 2 (some .int), Cond.methodLink RL 146 yL_warnings, Cond.static yL_warnings, Cond.codeWith yL_warnings cL_warnings 4 (some .int) [(0, 9, 12, 13)], Cond.methodLink RL 68 yX5_warnings, Cond.instanceMethod yX5_warnings, Cond.selects RX5 yX5_warnings yX5_warnings, Cond.code yX5_warnings cX5_warnings 6 (some .int), Cond.methodLink RL 148 yX6_warnings, Cond.instanceMethod yX6_warnings, Cond.selects RX6 yX6_warnings yX6_warnings, Cond.code yX6_warnings cX6_warnings 5 (some .int), Cond.methodLink RL 149 yL_firstBlock]
def wsL_law0_r25 : List Cond := [Cond.static yL_firstBlock, Cond.codeWith yL_firstBlock cL_firstBlock 4 (some .int) [(0, 9, 12, 13)], Cond.methodLink RL 71 yX5_firstBlock, Cond.instanceMethod yX5_firstBlock, Cond.selects RX5 yX5_firstBlock yX5_firstBlock, Cond.code yX5_firstBlock cX5_firstBlock 4 (some .int), Cond.methodLink RL 151 yX6_firstBlock, Cond.instanceMethod yX6_firstBlock, Cond.selects RX6 yX6_firstBlock yX6_firstBlock, Cond.code yX6_firstBlock cX6_firstBlock 4 (some .int), Cond.methodLink RL 152 yL_show, Cond.static yL_show, Cond.codeWith yL_show cL_show 4 (some .int) [(0, 9, 12, 13), (0, 9, 15, 15)], Cond.methodLink RL 74 yX5_show, Cond.instanceMethod yX5_show, Cond.selects RX5 yX5_show yX5_show, Cond.code yX5_show cX5_show 2 (some .int), Cond.methodLink RL 154 yX6_show, Cond.instanceMethod yX6_show, Cond.selects RX6 yX6_show yX6_show, Cond.code yX6_show cX6_show 2 (some .int), Cond.methodLink RL 155 yL_shown, Cond.static yL_shown, Cond.codeWith yL_shown cL_shown 4 (some .int) [(0, 9, 12, 13)]]
def wsL_law0_r26 : List Cond := [Cond.methodLink RL 77 yX5_shown, Cond.instanceMethod yX5_shown, Cond.selects RX5 yX5_shown yX5_shown, Cond.code yX5_shown cX5_shown 3 (some .int), Cond.methodLink RL 157 yX6_shown, Cond.instanceMethod yX6_shown, Cond.selects RX6 yX6_shown yX6_shown, Cond.code yX6_shown cX6_shown 2 (some .int), Cond.methodLink RL 158 yL_pass, Cond.static yL_pass, Cond.codeWith yL_pass cL_pass 4 (some .int) [(0, 9, 12, 25), (0, 9, 15, 15)], Cond.methodLink RL 80 yX5_pass, Cond.instanceMethod yX5_pass, Cond.selects RX5 yX5_pass yX5_pass, Cond.code yX5_pass cX5_pass 2 (some .int), Cond.methodLink RL 160 yX6_pass, Cond.instanceMethod yX6_pass, Cond.selects RX6 yX6_pass yX6_pass, Cond.code yX6_pass cX6_pass 2 (some .int)]
def wsL_law0 : List Cond := (wsL_law0_r1 ++ (wsL_law0_r2 ++ (wsL_law0_r3 ++ (wsL_law0_r4 ++ (wsL_law0_r5 ++ (wsL_law0_r6 ++ (wsL_law0_r7 ++ (wsL_law0_r8 ++ (wsL_law0_r9 ++ (wsL_law0_r10 ++ (wsL_law0_r11 ++ (wsL_law0_r12 ++ (wsL_law0_r13 ++ (wsL_law0_r14 ++ (wsL_law0_r15 ++ (wsL_law0_r16 ++ (wsL_law0_r17 ++ (wsL_law0_r18 ++ (wsL_law0_r19 ++ (wsL_law0_r20 ++ (wsL_law0_r21 ++ (wsL_law0_r22 ++ (wsL_law0_r23 ++ (wsL_law0_r24 ++ (wsL_law0_r25 ++ wsL_law0_r26))))))))))))))))))))))))) ++ wsX50 ++ wsX60 ++ wsX00 ++ wsX30 ++ wsX20 ++ wsX40 ++ wsX10 ++ ([] : List Cond)
def wsL_law : List Cond := wsL_law0 ++ (vx_atS RX5 63 "java/lang/IllegalStateException" ["java/lang/RuntimeException", "java/lang/Exception"]).filter goodWord ++ (vx_atS RX5 80 "java/lang/IndexOutOfBoundsException" ["java/lang/RuntimeException", "java/lang/Exception"]).filter goodWord ++ (vx_atS RX5 110 "java/lang/IllegalArgumentException" ["java/lang/RuntimeException", "java/lang/Exception"]).filter goodWord
set_option maxRecDepth 20000 in
theorem wsL_law_in0 : ∀ w ∈ wsL_law0, w ∈ lw_tbl := fun w h => (goodIn_p wsL_law0 [63, 66, 77, 97, 123, 144, 651, 201, 205, 746, 750, 753, 742, 296, 300, 305, 312, 317, 321, 328, 332, 336, 340, 757, 761, 765, 348, 352, 356, 360, 769, 773, 777, 780, 386, 390, 784, 397, 788, 404, 407, 792, 796, 418, 422, 427, 800, 804, 808, 435, 812, 443, 446, 451, 816, 820, 824, 458, 462, 467, 482, 486, 490, 494, 498, 828, 832, 836, 840, 844, 506, 511, 515, 519, 848, 852, 526, 531, 536, 540, 546, 550, 554, 559, 563, 856, 860, 864, 868, 872, 876, 571, 880, 581, 585, 590, 884, 888, 598, 892, 608, 896, 615, 900, 622, 904, 629, 908, 637, 912, 644, 916] (by decide +kernel) (by decide +kernel) w h).1
theorem wsL_law_x0 : ∀ w ∈ (vx_atS RX5 63 "java/lang/IllegalStateException" ["java/lang/RuntimeException", "java/lang/Exception"]).filter goodWord, w ∈ lw_tbl := by decide +kernel
theorem wsL_law_x1 : ∀ w ∈ (vx_atS RX5 80 "java/lang/IndexOutOfBoundsException" ["java/lang/RuntimeException", "java/lang/Exception"]).filter goodWord, w ∈ lw_tbl := by decide +kernel
theorem wsL_law_x2 : ∀ w ∈ (vx_atS RX5 110 "java/lang/IllegalArgumentException" ["java/lang/RuntimeException", "java/lang/Exception"]).filter goodWord, w ∈ lw_tbl := by decide +kernel
theorem wsL_law_in : ∀ w ∈ wsL_law, w ∈ lw_tbl := fun w h => (List.mem_append.mp h).elim (fun h => (List.mem_append.mp h).elim (fun h => (List.mem_append.mp h).elim (fun h => wsL_law_in0 w h) (fun h => wsL_law_x0 w h)) (fun h => wsL_law_x1 w h)) (fun h => wsL_law_x2 w h)
theorem inlX0 : ∀ w ∈ wsX00, w ∈ wsL_law := fun _ h => List.mem_append_left _ (List.mem_append_left _ (List.mem_append_left _ (List.mem_append_left _ (List.mem_append_left _ (List.mem_append_left _ (List.mem_append_left _ (List.mem_append_left _ (List.mem_append_right _ h))))))))
theorem inX0 : ∀ w ∈ wsX00, w ∈ lw_tbl := fun w h => wsL_law_in w (inlX0 w h)
theorem inlX1 : ∀ w ∈ wsX10, w ∈ wsL_law := fun _ h => List.mem_append_left _ (List.mem_append_left _ (List.mem_append_left _ (List.mem_append_left _ (List.mem_append_right _ h))))
theorem inX1 : ∀ w ∈ wsX10, w ∈ lw_tbl := fun w h => wsL_law_in w (inlX1 w h)
theorem inlX2 : ∀ w ∈ wsX20, w ∈ wsL_law := fun _ h => List.mem_append_left _ (List.mem_append_left _ (List.mem_append_left _ (List.mem_append_left _ (List.mem_append_left _ (List.mem_append_left _ (List.mem_append_right _ h))))))
theorem inX2 : ∀ w ∈ wsX20, w ∈ lw_tbl := fun w h => wsL_law_in w (inlX2 w h)
theorem inlX3 : ∀ w ∈ wsX30, w ∈ wsL_law := fun _ h => List.mem_append_left _ (List.mem_append_left _ (List.mem_append_left _ (List.mem_append_left _ (List.mem_append_left _ (List.mem_append_left _ (List.mem_append_left _ (List.mem_append_right _ h)))))))
theorem inX3 : ∀ w ∈ wsX30, w ∈ lw_tbl := fun w h => wsL_law_in w (inlX3 w h)
theorem inlX4 : ∀ w ∈ wsX40, w ∈ wsL_law := fun _ h => List.mem_append_left _ (List.mem_append_left _ (List.mem_append_left _ (List.mem_append_left _ (List.mem_append_left _ (List.mem_append_right _ h)))))
theorem inX4 : ∀ w ∈ wsX40, w ∈ lw_tbl := fun w h => wsL_law_in w (inlX4 w h)
theorem inlX5 : ∀ w ∈ wsX50, w ∈ wsL_law := fun _ h => List.mem_append_left _ (List.mem_append_left _ (List.mem_append_left _ (List.mem_append_left _ (List.mem_append_left _ (List.mem_append_left _ (List.mem_append_left _ (List.mem_append_left _ (List.mem_append_left _ (List.mem_append_left _ (List.mem_append_right _ h))))))))))
theorem inX5 : ∀ w ∈ wsX50, w ∈ lw_tbl := fun w h => wsL_law_in w (inlX5 w h)
theorem inlX6 : ∀ w ∈ wsX60, w ∈ wsL_law := fun _ h => List.mem_append_left _ (List.mem_append_left _ (List.mem_append_left _ (List.mem_append_left _ (List.mem_append_left _ (List.mem_append_left _ (List.mem_append_left _ (List.mem_append_left _ (List.mem_append_left _ (List.mem_append_right _ h)))))))))
theorem inX6 : ∀ w ∈ wsX60, w ∈ lw_tbl := fun w h => wsL_law_in w (inlX6 w h)
theorem inJ13 : ∀ w ∈ wsJ130, w ∈ lw_tbl := by decide +kernel
theorem inJ0 : ∀ w ∈ wsJ00, w ∈ lw_tbl := by decide +kernel
theorem inJ10 : ∀ w ∈ wsJ100, w ∈ lw_tbl := by decide +kernel
theorem dX0_init_0 : decode cX0_init 0 = .ok (.aload_n 0, 1) := by decide +kernel
theorem dX0_init_1 : decode cX0_init 1 = .ok (.invokespecial 3, 3) := by decide +kernel
theorem dX0_init_4 : decode cX0_init 4 = .ok (.aload_n 0, 1) := by decide +kernel
theorem dX0_init_5 : decode cX0_init 5 = .ok (.bipush 8, 2) := by decide +kernel
theorem dX0_init_7 : decode cX0_init 7 = .ok (.newarray .int, 2) := by decide +kernel
theorem dX0_init_9 : decode cX0_init 9 = .ok (.putfield 9, 3) := by decide +kernel
theorem dX0_init_12 : decode cX0_init 12 = .ok (.aload_n 0, 1) := by decide +kernel
theorem dX0_init_13 : decode cX0_init 13 = .ok (.bipush 32, 2) := by decide +kernel
theorem dX0_init_15 : decode cX0_init 15 = .ok (.newarray .int, 2) := by decide +kernel
theorem dX0_init_17 : decode cX0_init 17 = .ok (.putfield 15, 3) := by decide +kernel
theorem dX0_init_20 : decode cX0_init 20 = .ok (.return_, 1) := by decide +kernel
theorem dX0_placeOf_0 : decode cX0_placeOf 0 = .ok (.iconst 0, 1) := by decide +kernel
theorem dX0_placeOf_1 : decode cX0_placeOf 1 = .ok (.istore_n 2, 1) := by decide +kernel
theorem dX0_placeOf_2 : decode cX0_placeOf 2 = .ok (.iload_n 2, 1) := by decide +kernel
theorem dX0_placeOf_3 : decode cX0_placeOf 3 = .ok (.aload_n 0, 1) := by decide +kernel
theorem dX0_placeOf_4 : decode cX0_placeOf 4 = .ok (.getfield 18, 3) := by decide +kernel
theorem dX0_placeOf_7 : decode cX0_placeOf 7 = .ok (.if_icmp .ge 21, 3) := by decide +kernel
theorem dX0_placeOf_10 : decode cX0_placeOf 10 = .ok (.aload_n 0, 1) := by decide +kernel
theorem dX0_placeOf_11 : decode cX0_placeOf 11 = .ok (.getfield 9, 3) := by decide +kernel
theorem dX0_placeOf_14 : decode cX0_placeOf 14 = .ok (.iload_n 2, 1) := by decide +kernel
theorem dX0_placeOf_15 : decode cX0_placeOf 15 = .ok (.iaload, 1) := by decide +kernel
theorem dX0_placeOf_16 : decode cX0_placeOf 16 = .ok (.iload_n 1, 1) := by decide +kernel
theorem dX0_placeOf_17 : decode cX0_placeOf 17 = .ok (.if_icmp .ne 5, 3) := by decide +kernel
theorem dX0_placeOf_20 : decode cX0_placeOf 20 = .ok (.iload_n 2, 1) := by decide +kernel
theorem dX0_placeOf_21 : decode cX0_placeOf 21 = .ok (.ireturn, 1) := by decide +kernel
theorem dX0_placeOf_22 : decode cX0_placeOf 22 = .ok (.iinc 2 1, 3) := by decide +kernel
theorem dX0_placeOf_25 : decode cX0_placeOf 25 = .ok (.goto (-23), 3) := by decide +kernel
theorem dX0_placeOf_28 : decode cX0_placeOf 28 = .ok (.iconst (-1), 1) := by decide +kernel
theorem dX0_placeOf_29 : decode cX0_placeOf 29 = .ok (.ireturn, 1) := by decide +kernel
set_option maxRecDepth 20000 in
theorem ggX0_has_X0_placeOf : GoodIn wsX0_has wsX0_placeOf := goodIn_r _ [5, 6, 7, 8, 9, 10] (by decide +kernel) (by decide +kernel)
set_option maxRecDepth 20000 in
theorem gX0_has_X0_placeOf : GoodIn wsX0_has (wsV RX0 22 RX0 yX0_placeOf wsX0_placeOf) := goodIn_app (goodIn_of _ (by decide +kernel)) ggX0_has_X0_placeOf
theorem dX0_has_0 : decode cX0_has 0 = .ok (.aload_n 0, 1) := by decide +kernel
theorem dX0_has_1 : decode cX0_has 1 = .ok (.iload_n 1, 1) := by decide +kernel
theorem dX0_has_2 : decode cX0_has 2 = .ok (.invokevirtual 22, 3) := by decide +kernel
theorem dX0_has_5 : decode cX0_has 5 = .ok (.iconst (-1), 1) := by decide +kernel
theorem dX0_has_6 : decode cX0_has 6 = .ok (.if_icmp .eq 7, 3) := by decide +kernel
theorem dX0_has_9 : decode cX0_has 9 = .ok (.iconst 1, 1) := by decide +kernel
theorem dX0_has_10 : decode cX0_has 10 = .ok (.goto 4, 3) := by decide +kernel
theorem dX0_has_13 : decode cX0_has 13 = .ok (.iconst 0, 1) := by decide +kernel
theorem dX0_has_14 : decode cX0_has 14 = .ok (.ireturn, 1) := by decide +kernel
theorem dX0_valueAt_0 : decode cX0_valueAt 0 = .ok (.aload_n 0, 1) := by decide +kernel
theorem dX0_valueAt_1 : decode cX0_valueAt 1 = .ok (.getfield 15, 3) := by decide +kernel
theorem dX0_valueAt_4 : decode cX0_valueAt 4 = .ok (.iload_n 1, 1) := by decide +kernel
theorem dX0_valueAt_5 : decode cX0_valueAt 5 = .ok (.iconst 4, 1) := by decide +kernel
theorem dX0_valueAt_6 : decode cX0_valueAt 6 = .ok (.imul, 1) := by decide +kernel
theorem dX0_valueAt_7 : decode cX0_valueAt 7 = .ok (.iload_n 2, 1) := by decide +kernel
theorem dX0_valueAt_8 : decode cX0_valueAt 8 = .ok (.iadd, 1) := by decide +kernel
theorem dX0_valueAt_9 : decode cX0_valueAt 9 = .ok (.iaload, 1) := by decide +kernel
theorem dX0_valueAt_10 : decode cX0_valueAt 10 = .ok (.ireturn, 1) := by decide +kernel
set_option maxRecDepth 20000 in
theorem ggX0_valueOf_X0_placeOf : GoodIn wsX0_valueOf wsX0_placeOf := goodIn_r _ [5, 6, 7, 13, 14, 15] (by decide +kernel) (by decide +kernel)
set_option maxRecDepth 20000 in
theorem gX0_valueOf_X0_placeOf : GoodIn wsX0_valueOf (wsV RX0 22 RX0 yX0_placeOf wsX0_placeOf) := goodIn_app (goodIn_of _ (by decide +kernel)) ggX0_valueOf_X0_placeOf
set_option maxRecDepth 20000 in
theorem ggX0_valueOf_X0_valueAt : GoodIn wsX0_valueOf wsX0_valueAt := goodIn_r _ [11, 12, 13, 14, 15] (by decide +kernel) (by decide +kernel)
set_option maxRecDepth 20000 in
theorem gX0_valueOf_X0_valueAt : GoodIn wsX0_valueOf (wsV RX0 26 RX0 yX0_valueAt wsX0_valueAt) := goodIn_app (goodIn_of _ (by decide +kernel)) ggX0_valueOf_X0_valueAt
theorem dX0_valueOf_0 : decode cX0_valueOf 0 = .ok (.aload_n 0, 1) := by decide +kernel
theorem dX0_valueOf_1 : decode cX0_valueOf 1 = .ok (.iload_n 1, 1) := by decide +kernel
theorem dX0_valueOf_2 : decode cX0_valueOf 2 = .ok (.invokevirtual 22, 3) := by decide +kernel
theorem dX0_valueOf_5 : decode cX0_valueOf 5 = .ok (.istore_n 3, 1) := by decide +kernel
theorem dX0_valueOf_6 : decode cX0_valueOf 6 = .ok (.iload_n 3, 1) := by decide +kernel
theorem dX0_valueOf_7 : decode cX0_valueOf 7 = .ok (.iconst (-1), 1) := by decide +kernel
theorem dX0_valueOf_8 : decode cX0_valueOf 8 = .ok (.if_icmp .ne 7, 3) := by decide +kernel
theorem dX0_valueOf_11 : decode cX0_valueOf 11 = .ok (.iconst (-1), 1) := by decide +kernel
theorem dX0_valueOf_12 : decode cX0_valueOf 12 = .ok (.goto 9, 3) := by decide +kernel
theorem dX0_valueOf_15 : decode cX0_valueOf 15 = .ok (.aload_n 0, 1) := by decide +kernel
theorem dX0_valueOf_16 : decode cX0_valueOf 16 = .ok (.iload_n 3, 1) := by decide +kernel
theorem dX0_valueOf_17 : decode cX0_valueOf 17 = .ok (.iload_n 2, 1) := by decide +kernel
theorem dX0_valueOf_18 : decode cX0_valueOf 18 = .ok (.invokevirtual 26, 3) := by decide +kernel
theorem dX0_valueOf_21 : decode cX0_valueOf 21 = .ok (.ireturn, 1) := by decide +kernel
set_option maxRecDepth 20000 in
theorem ggX0_isAlike_X0_placeOf : GoodIn wsX0_isAlike wsX0_placeOf := goodIn_r _ [5, 6, 7, 13, 14, 15] (by decide +kernel) (by decide +kernel)
set_option maxRecDepth 20000 in
theorem gX0_isAlike_X0_placeOf : GoodIn wsX0_isAlike (wsV RX0 22 RX0 yX0_placeOf wsX0_placeOf) := goodIn_app (goodIn_of _ (by decide +kernel)) ggX0_isAlike_X0_placeOf
set_option maxRecDepth 20000 in
theorem ggX0_isAlike_X0_valueAt : GoodIn wsX0_isAlike wsX0_valueAt := goodIn_r _ [11, 12, 13, 14, 15] (by decide +kernel) (by decide +kernel)
set_option maxRecDepth 20000 in
theorem gX0_isAlike_X0_valueAt : GoodIn wsX0_isAlike (wsV RX0 26 RX0 yX0_valueAt wsX0_valueAt) := goodIn_app (goodIn_of _ (by decide +kernel)) ggX0_isAlike_X0_valueAt
theorem dX0_isAlike_0 : decode cX0_isAlike 0 = .ok (.aload_n 0, 1) := by decide +kernel
theorem dX0_isAlike_1 : decode cX0_isAlike 1 = .ok (.iload_n 2, 1) := by decide +kernel
theorem dX0_isAlike_2 : decode cX0_isAlike 2 = .ok (.invokevirtual 22, 3) := by decide +kernel
theorem dX0_isAlike_5 : decode cX0_isAlike 5 = .ok (.istore_n 3, 1) := by decide +kernel
theorem dX0_isAlike_6 : decode cX0_isAlike 6 = .ok (.aload_n 1, 1) := by decide +kernel
theorem dX0_isAlike_7 : decode cX0_isAlike 7 = .ok (.iload_n 2, 1) := by decide +kernel
theorem dX0_isAlike_8 : decode cX0_isAlike 8 = .ok (.invokevirtual 22, 3) := by decide +kernel
theorem dX0_isAlike_11 : decode cX0_isAlike 11 = .ok (.istore 4, 2) := by decide +kernel
theorem dX0_isAlike_13 : decode cX0_isAlike 13 = .ok (.iload_n 3, 1) := by decide +kernel
theorem dX0_isAlike_14 : decode cX0_isAlike 14 = .ok (.iconst (-1), 1) := by decide +kernel
theorem dX0_isAlike_15 : decode cX0_isAlike 15 = .ok (.if_icmp .eq 9, 3) := by decide +kernel
theorem dX0_isAlike_18 : decode cX0_isAlike 18 = .ok (.iload 4, 2) := by decide +kernel
theorem dX0_isAlike_20 : decode cX0_isAlike 20 = .ok (.iconst (-1), 1) := by decide +kernel
theorem dX0_isAlike_21 : decode cX0_isAlike 21 = .ok (.if_icmp .ne 5, 3) := by decide +kernel
theorem dX0_isAlike_24 : decode cX0_isAlike 24 = .ok (.iconst 0, 1) := by decide +kernel
theorem dX0_isAlike_25 : decode cX0_isAlike 25 = .ok (.ireturn, 1) := by decide +kernel
theorem dX0_isAlike_26 : decode cX0_isAlike 26 = .ok (.iconst 0, 1) := by decide +kernel
theorem dX0_isAlike_27 : decode cX0_isAlike 27 = .ok (.istore 5, 2) := by decide +kernel
theorem dX0_isAlike_29 : decode cX0_isAlike 29 = .ok (.iload 5, 2) := by decide +kernel
theorem dX0_isAlike_31 : decode cX0_isAlike 31 = .ok (.iconst 4, 1) := by decide +kernel
theorem dX0_isAlike_32 : decode cX0_isAlike 32 = .ok (.if_icmp .ge 29, 3) := by decide +kernel
theorem dX0_isAlike_35 : decode cX0_isAlike 35 = .ok (.aload_n 0, 1) := by decide +kernel
theorem dX0_isAlike_36 : decode cX0_isAlike 36 = .ok (.iload_n 3, 1) := by decide +kernel
theorem dX0_isAlike_37 : decode cX0_isAlike 37 = .ok (.iload 5, 2) := by decide +kernel
theorem dX0_isAlike_39 : decode cX0_isAlike 39 = .ok (.invokevirtual 26, 3) := by decide +kernel
theorem dX0_isAlike_42 : decode cX0_isAlike 42 = .ok (.aload_n 1, 1) := by decide +kernel
theorem dX0_isAlike_43 : decode cX0_isAlike 43 = .ok (.iload 4, 2) := by decide +kernel
theorem dX0_isAlike_45 : decode cX0_isAlike 45 = .ok (.iload 5, 2) := by decide +kernel
theorem dX0_isAlike_47 : decode cX0_isAlike 47 = .ok (.invokevirtual 26, 3) := by decide +kernel
theorem dX0_isAlike_50 : decode cX0_isAlike 50 = .ok (.if_icmp .eq 5, 3) := by decide +kernel
theorem dX0_isAlike_53 : decode cX0_isAlike 53 = .ok (.iconst 0, 1) := by decide +kernel
theorem dX0_isAlike_54 : decode cX0_isAlike 54 = .ok (.ireturn, 1) := by decide +kernel
theorem dX0_isAlike_55 : decode cX0_isAlike 55 = .ok (.iinc 5 1, 3) := by decide +kernel
theorem dX0_isAlike_58 : decode cX0_isAlike 58 = .ok (.goto (-29), 3) := by decide +kernel
theorem dX0_isAlike_61 : decode cX0_isAlike 61 = .ok (.iconst 1, 1) := by decide +kernel
theorem dX0_isAlike_62 : decode cX0_isAlike 62 = .ok (.ireturn, 1) := by decide +kernel
theorem dX0_put_0 : decode cX0_put 0 = .ok (.aload_n 0, 1) := by decide +kernel
theorem dX0_put_1 : decode cX0_put 1 = .ok (.getfield 15, 3) := by decide +kernel
theorem dX0_put_4 : decode cX0_put 4 = .ok (.iload_n 1, 1) := by decide +kernel
theorem dX0_put_5 : decode cX0_put 5 = .ok (.iconst 4, 1) := by decide +kernel
theorem dX0_put_6 : decode cX0_put 6 = .ok (.imul, 1) := by decide +kernel
theorem dX0_put_7 : decode cX0_put 7 = .ok (.iload_n 2, 1) := by decide +kernel
theorem dX0_put_8 : decode cX0_put 8 = .ok (.iadd, 1) := by decide +kernel
theorem dX0_put_9 : decode cX0_put 9 = .ok (.iload_n 3, 1) := by decide +kernel
theorem dX0_put_10 : decode cX0_put 10 = .ok (.iastore, 1) := by decide +kernel
theorem dX0_put_11 : decode cX0_put 11 = .ok (.return_, 1) := by decide +kernel
set_option maxRecDepth 20000 in
theorem ggX0_insert_X0_move : GoodIn wsX0_insert wsX0_move := goodIn_r _ [7, 2, 8, 9, 10, 6, 11, 12, 13, 14, 15, 16, 17, 18, 19] (by decide +kernel) (by decide +kernel)
set_option maxRecDepth 20000 in
theorem gX0_insert_X0_move : GoodIn wsX0_insert (wsV RX0 30 RX0 yX0_move wsX0_move) := goodIn_app (goodIn_of _ (by decide +kernel)) ggX0_insert_X0_move
set_option maxRecDepth 20000 in
theorem ggX0_insert_X0_put : GoodIn wsX0_insert wsX0_put := goodIn_r _ [16, 12, 17, 18, 19] (by decide +kernel) (by decide +kernel)
set_option maxRecDepth 20000 in
theorem gX0_insert_X0_put : GoodIn wsX0_insert (wsV RX0 34 RX0 yX0_put wsX0_put) := goodIn_app (goodIn_of _ (by decide +kernel)) ggX0_insert_X0_put
theorem dX0_insert_0 : decode cX0_insert 0 = .ok (.aload_n 0, 1) := by decide +kernel
theorem dX0_insert_1 : decode cX0_insert 1 = .ok (.getfield 18, 3) := by decide +kernel
theorem dX0_insert_4 : decode cX0_insert 4 = .ok (.istore_n 3, 1) := by decide +kernel
theorem dX0_insert_5 : decode cX0_insert 5 = .ok (.iload_n 3, 1) := by decide +kernel
theorem dX0_insert_6 : decode cX0_insert 6 = .ok (.iload_n 1, 1) := by decide +kernel
theorem dX0_insert_7 : decode cX0_insert 7 = .ok (.if_icmp .le 17, 3) := by decide +kernel
theorem dX0_insert_10 : decode cX0_insert 10 = .ok (.aload_n 0, 1) := by decide +kernel
theorem dX0_insert_11 : decode cX0_insert 11 = .ok (.iload_n 3, 1) := by decide +kernel
theorem dX0_insert_12 : decode cX0_insert 12 = .ok (.iconst 1, 1) := by decide +kernel
theorem dX0_insert_13 : decode cX0_insert 13 = .ok (.isub, 1) := by decide +kernel
theorem dX0_insert_14 : decode cX0_insert 14 = .ok (.iload_n 3, 1) := by decide +kernel
theorem dX0_insert_15 : decode cX0_insert 15 = .ok (.invokevirtual 30, 3) := by decide +kernel
theorem dX0_insert_18 : decode cX0_insert 18 = .ok (.iinc 3 (-1), 3) := by decide +kernel
theorem dX0_insert_21 : decode cX0_insert 21 = .ok (.goto (-16), 3) := by decide +kernel
theorem dX0_insert_24 : decode cX0_insert 24 = .ok (.aload_n 0, 1) := by decide +kernel
theorem dX0_insert_25 : decode cX0_insert 25 = .ok (.getfield 9, 3) := by decide +kernel
theorem dX0_insert_28 : decode cX0_insert 28 = .ok (.iload_n 1, 1) := by decide +kernel
theorem dX0_insert_29 : decode cX0_insert 29 = .ok (.iload_n 2, 1) := by decide +kernel
theorem dX0_insert_30 : decode cX0_insert 30 = .ok (.iastore, 1) := by decide +kernel
theorem dX0_insert_31 : decode cX0_insert 31 = .ok (.iconst 0, 1) := by decide +kernel
theorem dX0_insert_32 : decode cX0_insert 32 = .ok (.istore_n 3, 1) := by decide +kernel
theorem dX0_insert_33 : decode cX0_insert 33 = .ok (.iload_n 3, 1) := by decide +kernel
theorem dX0_insert_34 : decode cX0_insert 34 = .ok (.iconst 4, 1) := by decide +kernel
theorem dX0_insert_35 : decode cX0_insert 35 = .ok (.if_icmp .ge 16, 3) := by decide +kernel
theorem dX0_insert_38 : decode cX0_insert 38 = .ok (.aload_n 0, 1) := by decide +kernel
theorem dX0_insert_39 : decode cX0_insert 39 = .ok (.iload_n 1, 1) := by decide +kernel
theorem dX0_insert_40 : decode cX0_insert 40 = .ok (.iload_n 3, 1) := by decide +kernel
theorem dX0_insert_41 : decode cX0_insert 41 = .ok (.iconst 0, 1) := by decide +kernel
theorem dX0_insert_42 : decode cX0_insert 42 = .ok (.invokevirtual 34, 3) := by decide +kernel
theorem dX0_insert_45 : decode cX0_insert 45 = .ok (.iinc 3 1, 3) := by decide +kernel
theorem dX0_insert_48 : decode cX0_insert 48 = .ok (.goto (-15), 3) := by decide +kernel
theorem dX0_insert_51 : decode cX0_insert 51 = .ok (.aload_n 0, 1) := by decide +kernel
theorem dX0_insert_52 : decode cX0_insert 52 = .ok (.dup, 1) := by decide +kernel
theorem dX0_insert_53 : decode cX0_insert 53 = .ok (.getfield 18, 3) := by decide +kernel
theorem dX0_insert_56 : decode cX0_insert 56 = .ok (.iconst 1, 1) := by decide +kernel
theorem dX0_insert_57 : decode cX0_insert 57 = .ok (.iadd, 1) := by decide +kernel
theorem dX0_insert_58 : decode cX0_insert 58 = .ok (.putfield 18, 3) := by decide +kernel
theorem dX0_insert_61 : decode cX0_insert 61 = .ok (.return_, 1) := by decide +kernel
set_option maxRecDepth 20000 in
theorem ggX0_removeAt_X0_move : GoodIn wsX0_removeAt wsX0_move := goodIn_r _ [6, 7, 8, 9, 10, 5, 11, 12, 13, 14, 15, 16, 17, 18, 19] (by decide +kernel) (by decide +kernel)
set_option maxRecDepth 20000 in
theorem gX0_removeAt_X0_move : GoodIn wsX0_removeAt (wsV RX0 30 RX0 yX0_move wsX0_move) := goodIn_app (goodIn_of _ (by decide +kernel)) ggX0_removeAt_X0_move
theorem dX0_removeAt_0 : decode cX0_removeAt 0 = .ok (.iload_n 1, 1) := by decide +kernel
theorem dX0_removeAt_1 : decode cX0_removeAt 1 = .ok (.iconst 1, 1) := by decide +kernel
theorem dX0_removeAt_2 : decode cX0_removeAt 2 = .ok (.iadd, 1) := by decide +kernel
theorem dX0_removeAt_3 : decode cX0_removeAt 3 = .ok (.istore_n 2, 1) := by decide +kernel
theorem dX0_removeAt_4 : decode cX0_removeAt 4 = .ok (.iload_n 2, 1) := by decide +kernel
theorem dX0_removeAt_5 : decode cX0_removeAt 5 = .ok (.aload_n 0, 1) := by decide +kernel
theorem dX0_removeAt_6 : decode cX0_removeAt 6 = .ok (.getfield 18, 3) := by decide +kernel
theorem dX0_removeAt_9 : decode cX0_removeAt 9 = .ok (.if_icmp .ge 17, 3) := by decide +kernel
theorem dX0_removeAt_12 : decode cX0_removeAt 12 = .ok (.aload_n 0, 1) := by decide +kernel
theorem dX0_removeAt_13 : decode cX0_removeAt 13 = .ok (.iload_n 2, 1) := by decide +kernel
theorem dX0_removeAt_14 : decode cX0_removeAt 14 = .ok (.iload_n 2, 1) := by decide +kernel
theorem dX0_removeAt_15 : decode cX0_removeAt 15 = .ok (.iconst 1, 1) := by decide +kernel
theorem dX0_removeAt_16 : decode cX0_removeAt 16 = .ok (.isub, 1) := by decide +kernel
theorem dX0_removeAt_17 : decode cX0_removeAt 17 = .ok (.invokevirtual 30, 3) := by decide +kernel
theorem dX0_removeAt_20 : decode cX0_removeAt 20 = .ok (.iinc 2 1, 3) := by decide +kernel
theorem dX0_removeAt_23 : decode cX0_removeAt 23 = .ok (.goto (-19), 3) := by decide +kernel
theorem dX0_removeAt_26 : decode cX0_removeAt 26 = .ok (.aload_n 0, 1) := by decide +kernel
theorem dX0_removeAt_27 : decode cX0_removeAt 27 = .ok (.dup, 1) := by decide +kernel
theorem dX0_removeAt_28 : decode cX0_removeAt 28 = .ok (.getfield 18, 3) := by decide +kernel
theorem dX0_removeAt_31 : decode cX0_removeAt 31 = .ok (.iconst 1, 1) := by decide +kernel
theorem dX0_removeAt_32 : decode cX0_removeAt 32 = .ok (.isub, 1) := by decide +kernel
theorem dX0_removeAt_33 : decode cX0_removeAt 33 = .ok (.putfield 18, 3) := by decide +kernel
theorem dX0_removeAt_36 : decode cX0_removeAt 36 = .ok (.return_, 1) := by decide +kernel
set_option maxRecDepth 20000 in
theorem ggX0_move_X0_valueAt : GoodIn wsX0_move wsX0_valueAt := goodIn_r _ [6, 7, 12, 13, 14] (by decide +kernel) (by decide +kernel)
set_option maxRecDepth 20000 in
theorem gX0_move_X0_valueAt : GoodIn wsX0_move (wsV RX0 26 RX0 yX0_valueAt wsX0_valueAt) := goodIn_app (goodIn_of _ (by decide +kernel)) ggX0_move_X0_valueAt
set_option maxRecDepth 20000 in
theorem ggX0_move_X0_put : GoodIn wsX0_move wsX0_put := goodIn_r _ [11, 7, 12, 13, 14] (by decide +kernel) (by decide +kernel)
set_option maxRecDepth 20000 in
theorem gX0_move_X0_put : GoodIn wsX0_move (wsV RX0 34 RX0 yX0_put wsX0_put) := goodIn_app (goodIn_of _ (by decide +kernel)) ggX0_move_X0_put
theorem dX0_move_0 : decode cX0_move 0 = .ok (.aload_n 0, 1) := by decide +kernel
theorem dX0_move_1 : decode cX0_move 1 = .ok (.getfield 9, 3) := by decide +kernel
theorem dX0_move_4 : decode cX0_move 4 = .ok (.iload_n 2, 1) := by decide +kernel
theorem dX0_move_5 : decode cX0_move 5 = .ok (.aload_n 0, 1) := by decide +kernel
theorem dX0_move_6 : decode cX0_move 6 = .ok (.getfield 9, 3) := by decide +kernel
theorem dX0_move_9 : decode cX0_move 9 = .ok (.iload_n 1, 1) := by decide +kernel
theorem dX0_move_10 : decode cX0_move 10 = .ok (.iaload, 1) := by decide +kernel
theorem dX0_move_11 : decode cX0_move 11 = .ok (.iastore, 1) := by decide +kernel
theorem dX0_move_12 : decode cX0_move 12 = .ok (.iconst 0, 1) := by decide +kernel
theorem dX0_move_13 : decode cX0_move 13 = .ok (.istore_n 3, 1) := by decide +kernel
theorem dX0_move_14 : decode cX0_move 14 = .ok (.iload_n 3, 1) := by decide +kernel
theorem dX0_move_15 : decode cX0_move 15 = .ok (.iconst 4, 1) := by decide +kernel
theorem dX0_move_16 : decode cX0_move 16 = .ok (.if_icmp .ge 21, 3) := by decide +kernel
theorem dX0_move_19 : decode cX0_move 19 = .ok (.aload_n 0, 1) := by decide +kernel
theorem dX0_move_20 : decode cX0_move 20 = .ok (.iload_n 2, 1) := by decide +kernel
theorem dX0_move_21 : decode cX0_move 21 = .ok (.iload_n 3, 1) := by decide +kernel
theorem dX0_move_22 : decode cX0_move 22 = .ok (.aload_n 0, 1) := by decide +kernel
theorem dX0_move_23 : decode cX0_move 23 = .ok (.iload_n 1, 1) := by decide +kernel
theorem dX0_move_24 : decode cX0_move 24 = .ok (.iload_n 3, 1) := by decide +kernel
theorem dX0_move_25 : decode cX0_move 25 = .ok (.invokevirtual 26, 3) := by decide +kernel
theorem dX0_move_28 : decode cX0_move 28 = .ok (.invokevirtual 34, 3) := by decide +kernel
theorem dX0_move_31 : decode cX0_move 31 = .ok (.iinc 3 1, 3) := by decide +kernel
theorem dX0_move_34 : decode cX0_move 34 = .ok (.goto (-20), 3) := by decide +kernel
theorem dX0_move_37 : decode cX0_move 37 = .ok (.return_, 1) := by decide +kernel
theorem dX0_copyFrom_0 : decode cX0_copyFrom 0 = .ok (.aload_n 1, 1) := by decide +kernel
theorem dX0_copyFrom_1 : decode cX0_copyFrom 1 = .ok (.getfield 9, 3) := by decide +kernel
theorem dX0_copyFrom_4 : decode cX0_copyFrom 4 = .ok (.iconst 0, 1) := by decide +kernel
theorem dX0_copyFrom_5 : decode cX0_copyFrom 5 = .ok (.aload_n 0, 1) := by decide +kernel
theorem dX0_copyFrom_6 : decode cX0_copyFrom 6 = .ok (.getfield 9, 3) := by decide +kernel
theorem dX0_copyFrom_9 : decode cX0_copyFrom 9 = .ok (.iconst 0, 1) := by decide +kernel
theorem dX0_copyFrom_10 : decode cX0_copyFrom 10 = .ok (.aload_n 0, 1) := by decide +kernel
theorem dX0_copyFrom_11 : decode cX0_copyFrom 11 = .ok (.getfield 9, 3) := by decide +kernel
theorem dX0_copyFrom_14 : decode cX0_copyFrom 14 = .ok (.arraylength, 1) := by decide +kernel
theorem dX0_copyFrom_15 : decode cX0_copyFrom 15 = .ok (.invokestatic 38, 3) := by decide +kernel
theorem dX0_copyFrom_18 : decode cX0_copyFrom 18 = .ok (.aload_n 1, 1) := by decide +kernel
theorem dX0_copyFrom_19 : decode cX0_copyFrom 19 = .ok (.getfield 15, 3) := by decide +kernel
theorem dX0_copyFrom_22 : decode cX0_copyFrom 22 = .ok (.iconst 0, 1) := by decide +kernel
theorem dX0_copyFrom_23 : decode cX0_copyFrom 23 = .ok (.aload_n 0, 1) := by decide +kernel
theorem dX0_copyFrom_24 : decode cX0_copyFrom 24 = .ok (.getfield 15, 3) := by decide +kernel
theorem dX0_copyFrom_27 : decode cX0_copyFrom 27 = .ok (.iconst 0, 1) := by decide +kernel
theorem dX0_copyFrom_28 : decode cX0_copyFrom 28 = .ok (.aload_n 0, 1) := by decide +kernel
theorem dX0_copyFrom_29 : decode cX0_copyFrom 29 = .ok (.getfield 15, 3) := by decide +kernel
theorem dX0_copyFrom_32 : decode cX0_copyFrom 32 = .ok (.arraylength, 1) := by decide +kernel
theorem dX0_copyFrom_33 : decode cX0_copyFrom 33 = .ok (.invokestatic 38, 3) := by decide +kernel
theorem dX0_copyFrom_36 : decode cX0_copyFrom 36 = .ok (.aload_n 0, 1) := by decide +kernel
theorem dX0_copyFrom_37 : decode cX0_copyFrom 37 = .ok (.aload_n 1, 1) := by decide +kernel
theorem dX0_copyFrom_38 : decode cX0_copyFrom 38 = .ok (.getfield 18, 3) := by decide +kernel
theorem dX0_copyFrom_41 : decode cX0_copyFrom 41 = .ok (.putfield 18, 3) := by decide +kernel
theorem dX0_copyFrom_44 : decode cX0_copyFrom 44 = .ok (.return_, 1) := by decide +kernel
theorem dX1_init_0 : decode cX1_init 0 = .ok (.aload_n 0, 1) := by decide +kernel
theorem dX1_init_1 : decode cX1_init 1 = .ok (.invokespecial 3, 3) := by decide +kernel
theorem dX1_init_4 : decode cX1_init 4 = .ok (.aload_n 0, 1) := by decide +kernel
theorem dX1_init_5 : decode cX1_init 5 = .ok (.aload_n 1, 1) := by decide +kernel
theorem dX1_init_6 : decode cX1_init 6 = .ok (.putfield 9, 3) := by decide +kernel
theorem dX1_init_9 : decode cX1_init 9 = .ok (.aload_n 0, 1) := by decide +kernel
theorem dX1_init_10 : decode cX1_init 10 = .ok (.aload_n 2, 1) := by decide +kernel
theorem dX1_init_11 : decode cX1_init 11 = .ok (.putfield 15, 3) := by decide +kernel
theorem dX1_init_14 : decode cX1_init 14 = .ok (.aload_n 0, 1) := by decide +kernel
theorem dX1_init_15 : decode cX1_init 15 = .ok (.aload_n 3, 1) := by decide +kernel
theorem dX1_init_16 : decode cX1_init 16 = .ok (.putfield 18, 3) := by decide +kernel
theorem dX1_init_19 : decode cX1_init 19 = .ok (.return_, 1) := by decide +kernel
set_option maxRecDepth 20000 in
theorem ggX1_countClashes_X1_isSlideClash : GoodIn wsX1_countClashes wsX1_isSlideClash := goodIn_r _ [5, 6, 7, 8, 9, 10, 11, 12, 13, 14, 15, 16, 17, 18, 19, 20, 21, 22, 23, 24, 25, 26, 27, 28, 37, 38, 39, 40, 41, 42] (by decide +kernel) (by decide +kernel)
set_option maxRecDepth 20000 in
theorem gX1_countClashes_X1_isSlideClash : GoodIn wsX1_countClashes (wsV RX1 21 RX1 yX1_isSlideClash wsX1_isSlideClash) := goodIn_app (goodIn_of _ (by decide +kernel)) ggX1_countClashes_X1_isSlideClash
set_option maxRecDepth 20000 in
theorem ggX1_countClashes_X1_isObjectClash : GoodIn wsX1_countClashes wsX1_isObjectClash := goodIn_r _ [32, 6, 7, 8, 9, 10, 11, 12, 13, 14, 15, 16, 17, 18, 19, 33, 34, 35, 36, 24, 25, 26, 27, 28, 37, 38, 39, 40, 41, 42] (by decide +kernel) (by decide +kernel)
set_option maxRecDepth 20000 in
theorem gX1_countClashes_X1_isObjectClash : GoodIn wsX1_countClashes (wsV RX1 25 RX1 yX1_isObjectClash wsX1_isObjectClash) := goodIn_app (goodIn_of _ (by decide +kernel)) ggX1_countClashes_X1_isObjectClash
theorem dX1_countClashes_0 : decode cX1_countClashes 0 = .ok (.iconst 0, 1) := by decide +kernel
theorem dX1_countClashes_1 : decode cX1_countClashes 1 = .ok (.istore_n 2, 1) := by decide +kernel
theorem dX1_countClashes_2 : decode cX1_countClashes 2 = .ok (.iconst 0, 1) := by decide +kernel
theorem dX1_countClashes_3 : decode cX1_countClashes 3 = .ok (.istore_n 3, 1) := by decide +kernel
theorem dX1_countClashes_4 : decode cX1_countClashes 4 = .ok (.iload_n 3, 1) := by decide +kernel
theorem dX1_countClashes_5 : decode cX1_countClashes 5 = .ok (.iload_n 1, 1) := by decide +kernel
theorem dX1_countClashes_6 : decode cX1_countClashes 6 = .ok (.if_icmp .ge 48, 3) := by decide +kernel
theorem dX1_countClashes_9 : decode cX1_countClashes 9 = .ok (.aload_n 0, 1) := by decide +kernel
theorem dX1_countClashes_10 : decode cX1_countClashes 10 = .ok (.iload_n 3, 1) := by decide +kernel
theorem dX1_countClashes_11 : decode cX1_countClashes 11 = .ok (.invokevirtual 21, 3) := by decide +kernel
theorem dX1_countClashes_14 : decode cX1_countClashes 14 = .ok (.ifCond .eq 6, 3) := by decide +kernel
theorem dX1_countClashes_17 : decode cX1_countClashes 17 = .ok (.iinc 2 1, 3) := by decide +kernel
theorem dX1_countClashes_20 : decode cX1_countClashes 20 = .ok (.iconst 0, 1) := by decide +kernel
theorem dX1_countClashes_21 : decode cX1_countClashes 21 = .ok (.istore 4, 2) := by decide +kernel
theorem dX1_countClashes_23 : decode cX1_countClashes 23 = .ok (.iload 4, 2) := by decide +kernel
theorem dX1_countClashes_25 : decode cX1_countClashes 25 = .ok (.iconst 4, 1) := by decide +kernel
theorem dX1_countClashes_26 : decode cX1_countClashes 26 = .ok (.if_icmp .ge 22, 3) := by decide +kernel
theorem dX1_countClashes_29 : decode cX1_countClashes 29 = .ok (.aload_n 0, 1) := by decide +kernel
theorem dX1_countClashes_30 : decode cX1_countClashes 30 = .ok (.iload_n 3, 1) := by decide +kernel
theorem dX1_countClashes_31 : decode cX1_countClashes 31 = .ok (.iload 4, 2) := by decide +kernel
theorem dX1_countClashes_33 : decode cX1_countClashes 33 = .ok (.invokevirtual 25, 3) := by decide +kernel
theorem dX1_countClashes_36 : decode cX1_countClashes 36 = .ok (.ifCond .eq 6, 3) := by decide +kernel
theorem dX1_countClashes_39 : decode cX1_countClashes 39 = .ok (.iinc 2 1, 3) := by decide +kernel
theorem dX1_countClashes_42 : decode cX1_countClashes 42 = .ok (.iinc 4 1, 3) := by decide +kernel
theorem dX1_countClashes_45 : decode cX1_countClashes 45 = .ok (.goto (-22), 3) := by decide +kernel
theorem dX1_countClashes_48 : decode cX1_countClashes 48 = .ok (.iinc 3 1, 3) := by decide +kernel
theorem dX1_countClashes_51 : decode cX1_countClashes 51 = .ok (.goto (-47), 3) := by decide +kernel
theorem dX1_countClashes_54 : decode cX1_countClashes 54 = .ok (.iload_n 2, 1) := by decide +kernel
theorem dX1_countClashes_55 : decode cX1_countClashes 55 = .ok (.ireturn, 1) := by decide +kernel
set_option maxRecDepth 20000 in
theorem ggX1_countSlides_X1_isKept : GoodIn wsX1_countSlides wsX1_isKept := goodIn_r _ [5, 6, 7, 8, 9, 10, 11, 12, 13, 14, 15, 16, 17, 18, 19, 20, 21, 22, 4, 23, 24, 25, 26, 27, 28, 29, 30, 31, 32, 33, 34, 35, 36, 37, 38] (by decide +kernel) (by decide +kernel)
set_option maxRecDepth 20000 in
theorem gX1_countSlides_X1_isKept : GoodIn wsX1_countSlides (wsV RX1 29 RX1 yX1_isKept wsX1_isKept) := goodIn_app (goodIn_of _ (by decide +kernel)) ggX1_countSlides_X1_isKept
theorem dX1_countSlides_0 : decode cX1_countSlides 0 = .ok (.iconst 0, 1) := by decide +kernel
theorem dX1_countSlides_1 : decode cX1_countSlides 1 = .ok (.istore_n 3, 1) := by decide +kernel
theorem dX1_countSlides_2 : decode cX1_countSlides 2 = .ok (.iconst 0, 1) := by decide +kernel
theorem dX1_countSlides_3 : decode cX1_countSlides 3 = .ok (.istore 4, 2) := by decide +kernel
theorem dX1_countSlides_5 : decode cX1_countSlides 5 = .ok (.iload 4, 2) := by decide +kernel
theorem dX1_countSlides_7 : decode cX1_countSlides 7 = .ok (.iload_n 1, 1) := by decide +kernel
theorem dX1_countSlides_8 : decode cX1_countSlides 8 = .ok (.if_icmp .ge 22, 3) := by decide +kernel
theorem dX1_countSlides_11 : decode cX1_countSlides 11 = .ok (.aload_n 0, 1) := by decide +kernel
theorem dX1_countSlides_12 : decode cX1_countSlides 12 = .ok (.iload 4, 2) := by decide +kernel
theorem dX1_countSlides_14 : decode cX1_countSlides 14 = .ok (.iload_n 2, 1) := by decide +kernel
theorem dX1_countSlides_15 : decode cX1_countSlides 15 = .ok (.invokevirtual 29, 3) := by decide +kernel
theorem dX1_countSlides_18 : decode cX1_countSlides 18 = .ok (.ifCond .eq 6, 3) := by decide +kernel
theorem dX1_countSlides_21 : decode cX1_countSlides 21 = .ok (.iinc 3 1, 3) := by decide +kernel
theorem dX1_countSlides_24 : decode cX1_countSlides 24 = .ok (.iinc 4 1, 3) := by decide +kernel
theorem dX1_countSlides_27 : decode cX1_countSlides 27 = .ok (.goto (-22), 3) := by decide +kernel
theorem dX1_countSlides_30 : decode cX1_countSlides 30 = .ok (.iload_n 3, 1) := by decide +kernel
theorem dX1_countSlides_31 : decode cX1_countSlides 31 = .ok (.ireturn, 1) := by decide +kernel
set_option maxRecDepth 20000 in
theorem ggX1_resultOf_X1_isKept : GoodIn wsX1_resultOf wsX1_isKept := goodIn_r _ [5, 6, 7, 8, 9, 10, 11, 12, 13, 14, 15, 16, 17, 18, 19, 20, 21, 22, 4, 23, 24, 25, 26, 27, 28, 29, 30, 31, 32, 45, 46, 47, 48, 49, 50] (by decide +kernel) (by decide +kernel)
set_option maxRecDepth 20000 in
theorem gX1_resultOf_X1_isKept : GoodIn wsX1_resultOf (wsV RX1 29 RX1 yX1_isKept wsX1_isKept) := goodIn_app (goodIn_of _ (by decide +kernel)) ggX1_resultOf_X1_isKept
set_option maxRecDepth 20000 in
theorem ggX1_resultOf_X1_keptValue : GoodIn wsX1_resultOf wsX1_keptValue := goodIn_r _ [36, 7, 6, 8, 9, 10, 11, 12, 13, 14, 15, 16, 17, 18, 19, 37, 38, 39, 40, 28, 29, 30, 31, 32, 41, 42, 43, 4, 44, 45, 46, 47, 48, 49, 50] (by decide +kernel) (by decide +kernel)
set_option maxRecDepth 20000 in
theorem gX1_resultOf_X1_keptValue : GoodIn wsX1_resultOf (wsV RX1 32 RX1 yX1_keptValue wsX1_keptValue) := goodIn_app (goodIn_of _ (by decide +kernel)) ggX1_resultOf_X1_keptValue
theorem dX1_resultOf_0 : decode cX1_resultOf 0 = .ok (.aload_n 0, 1) := by decide +kernel
theorem dX1_resultOf_1 : decode cX1_resultOf 1 = .ok (.iload_n 1, 1) := by decide +kernel
theorem dX1_resultOf_2 : decode cX1_resultOf 2 = .ok (.iload_n 3, 1) := by decide +kernel
theorem dX1_resultOf_3 : decode cX1_resultOf 3 = .ok (.invokevirtual 29, 3) := by decide +kernel
theorem dX1_resultOf_6 : decode cX1_resultOf 6 = .ok (.ifCond .eq 13, 3) := by decide +kernel
theorem dX1_resultOf_9 : decode cX1_resultOf 9 = .ok (.aload_n 0, 1) := by decide +kernel
theorem dX1_resultOf_10 : decode cX1_resultOf 10 = .ok (.iload_n 1, 1) := by decide +kernel
theorem dX1_resultOf_11 : decode cX1_resultOf 11 = .ok (.iload_n 2, 1) := by decide +kernel
theorem dX1_resultOf_12 : decode cX1_resultOf 12 = .ok (.iload_n 3, 1) := by decide +kernel
theorem dX1_resultOf_13 : decode cX1_resultOf 13 = .ok (.invokevirtual 32, 3) := by decide +kernel
theorem dX1_resultOf_16 : decode cX1_resultOf 16 = .ok (.goto 4, 3) := by decide +kernel
theorem dX1_resultOf_19 : decode cX1_resultOf 19 = .ok (.iconst (-1), 1) := by decide +kernel
theorem dX1_resultOf_20 : decode cX1_resultOf 20 = .ok (.ireturn, 1) := by decide +kernel
set_option maxRecDepth 20000 in
theorem ggX1_keptValue_X0_has : GoodIn wsX1_keptValue wsX0_has := goodIn_r _ [8, 9, 10, 11, 7, 12, 13, 14, 32, 33, 34] (by decide +kernel) (by decide +kernel)
set_option maxRecDepth 20000 in
theorem gX1_keptValue_X0_has : GoodIn wsX1_keptValue (wsV RX1 36 RX0 yX0_has wsX0_has) := goodIn_app (goodIn_of _ (by decide +kernel)) ggX1_keptValue_X0_has
set_option maxRecDepth 20000 in
theorem ggX1_keptValue_X0_valueOf : GoodIn wsX1_keptValue wsX0_valueOf := goodIn_r _ [18, 9, 10, 11, 7, 12, 13, 14, 19, 20, 21, 22, 23, 32, 33, 34] (by decide +kernel) (by decide +kernel)
set_option maxRecDepth 20000 in
theorem gX1_keptValue_X0_valueOf : GoodIn wsX1_keptValue (wsV RX1 41 RX0 yX0_valueOf wsX0_valueOf) := goodIn_app (goodIn_of _ (by decide +kernel)) ggX1_keptValue_X0_valueOf
set_option maxRecDepth 20000 in
theorem ggX1_keptValue_X1_isObjectClash : GoodIn wsX1_keptValue wsX1_isObjectClash := goodIn_r _ [28, 2, 1, 3, 4, 5, 6, 7, 8, 9, 10, 11, 12, 13, 14, 15, 16, 17, 18, 19, 20, 21, 22, 23, 29, 30, 31, 32, 33, 34] (by decide +kernel) (by decide +kernel)
set_option maxRecDepth 20000 in
theorem gX1_keptValue_X1_isObjectClash : GoodIn wsX1_keptValue (wsV RX1 25 RX1 yX1_isObjectClash wsX1_isObjectClash) := goodIn_app (goodIn_of _ (by decide +kernel)) ggX1_keptValue_X1_isObjectClash
theorem dX1_keptValue_0 : decode cX1_keptValue 0 = .ok (.aload_n 0, 1) := by decide +kernel
theorem dX1_keptValue_1 : decode cX1_keptValue 1 = .ok (.getfield 18, 3) := by decide +kernel
theorem dX1_keptValue_4 : decode cX1_keptValue 4 = .ok (.iload_n 1, 1) := by decide +kernel
theorem dX1_keptValue_5 : decode cX1_keptValue 5 = .ok (.invokevirtual 36, 3) := by decide +kernel
theorem dX1_keptValue_8 : decode cX1_keptValue 8 = .ok (.ifCond .ne 13, 3) := by decide +kernel
theorem dX1_keptValue_11 : decode cX1_keptValue 11 = .ok (.aload_n 0, 1) := by decide +kernel
theorem dX1_keptValue_12 : decode cX1_keptValue 12 = .ok (.getfield 15, 3) := by decide +kernel
theorem dX1_keptValue_15 : decode cX1_keptValue 15 = .ok (.iload_n 1, 1) := by decide +kernel
theorem dX1_keptValue_16 : decode cX1_keptValue 16 = .ok (.iload_n 2, 1) := by decide +kernel
theorem dX1_keptValue_17 : decode cX1_keptValue 17 = .ok (.invokevirtual 41, 3) := by decide +kernel
theorem dX1_keptValue_20 : decode cX1_keptValue 20 = .ok (.ireturn, 1) := by decide +kernel
theorem dX1_keptValue_21 : decode cX1_keptValue 21 = .ok (.aload_n 0, 1) := by decide +kernel
theorem dX1_keptValue_22 : decode cX1_keptValue 22 = .ok (.getfield 15, 3) := by decide +kernel
theorem dX1_keptValue_25 : decode cX1_keptValue 25 = .ok (.iload_n 1, 1) := by decide +kernel
theorem dX1_keptValue_26 : decode cX1_keptValue 26 = .ok (.invokevirtual 36, 3) := by decide +kernel
theorem dX1_keptValue_29 : decode cX1_keptValue 29 = .ok (.ifCond .ne 13, 3) := by decide +kernel
theorem dX1_keptValue_32 : decode cX1_keptValue 32 = .ok (.aload_n 0, 1) := by decide +kernel
theorem dX1_keptValue_33 : decode cX1_keptValue 33 = .ok (.getfield 18, 3) := by decide +kernel
theorem dX1_keptValue_36 : decode cX1_keptValue 36 = .ok (.iload_n 1, 1) := by decide +kernel
theorem dX1_keptValue_37 : decode cX1_keptValue 37 = .ok (.iload_n 2, 1) := by decide +kernel
theorem dX1_keptValue_38 : decode cX1_keptValue 38 = .ok (.invokevirtual 41, 3) := by decide +kernel
theorem dX1_keptValue_41 : decode cX1_keptValue 41 = .ok (.ireturn, 1) := by decide +kernel
theorem dX1_keptValue_42 : decode cX1_keptValue 42 = .ok (.aload_n 0, 1) := by decide +kernel
theorem dX1_keptValue_43 : decode cX1_keptValue 43 = .ok (.getfield 15, 3) := by decide +kernel
theorem dX1_keptValue_46 : decode cX1_keptValue 46 = .ok (.iload_n 1, 1) := by decide +kernel
theorem dX1_keptValue_47 : decode cX1_keptValue 47 = .ok (.iload_n 2, 1) := by decide +kernel
theorem dX1_keptValue_48 : decode cX1_keptValue 48 = .ok (.invokevirtual 41, 3) := by decide +kernel
theorem dX1_keptValue_51 : decode cX1_keptValue 51 = .ok (.istore 4, 2) := by decide +kernel
theorem dX1_keptValue_53 : decode cX1_keptValue 53 = .ok (.aload_n 0, 1) := by decide +kernel
theorem dX1_keptValue_54 : decode cX1_keptValue 54 = .ok (.getfield 18, 3) := by decide +kernel
theorem dX1_keptValue_57 : decode cX1_keptValue 57 = .ok (.iload_n 1, 1) := by decide +kernel
theorem dX1_keptValue_58 : decode cX1_keptValue 58 = .ok (.iload_n 2, 1) := by decide +kernel
theorem dX1_keptValue_59 : decode cX1_keptValue 59 = .ok (.invokevirtual 41, 3) := by decide +kernel
theorem dX1_keptValue_62 : decode cX1_keptValue 62 = .ok (.istore 5, 2) := by decide +kernel
theorem dX1_keptValue_64 : decode cX1_keptValue 64 = .ok (.aload_n 0, 1) := by decide +kernel
theorem dX1_keptValue_65 : decode cX1_keptValue 65 = .ok (.iload_n 1, 1) := by decide +kernel
theorem dX1_keptValue_66 : decode cX1_keptValue 66 = .ok (.iload_n 2, 1) := by decide +kernel
theorem dX1_keptValue_67 : decode cX1_keptValue 67 = .ok (.invokevirtual 25, 3) := by decide +kernel
theorem dX1_keptValue_70 : decode cX1_keptValue 70 = .ok (.ifCond .eq 16, 3) := by decide +kernel
theorem dX1_keptValue_73 : decode cX1_keptValue 73 = .ok (.iload_n 3, 1) := by decide +kernel
theorem dX1_keptValue_74 : decode cX1_keptValue 74 = .ok (.iconst 1, 1) := by decide +kernel
theorem dX1_keptValue_75 : decode cX1_keptValue 75 = .ok (.if_icmp .ne 8, 3) := by decide +kernel
theorem dX1_keptValue_78 : decode cX1_keptValue 78 = .ok (.iload 5, 2) := by decide +kernel
theorem dX1_keptValue_80 : decode cX1_keptValue 80 = .ok (.goto 5, 3) := by decide +kernel
theorem dX1_keptValue_83 : decode cX1_keptValue 83 = .ok (.iload 4, 2) := by decide +kernel
theorem dX1_keptValue_85 : decode cX1_keptValue 85 = .ok (.ireturn, 1) := by decide +kernel
theorem dX1_keptValue_86 : decode cX1_keptValue 86 = .ok (.iload 4, 2) := by decide +kernel
theorem dX1_keptValue_88 : decode cX1_keptValue 88 = .ok (.aload_n 0, 1) := by decide +kernel
theorem dX1_keptValue_89 : decode cX1_keptValue 89 = .ok (.getfield 9, 3) := by decide +kernel
theorem dX1_keptValue_92 : decode cX1_keptValue 92 = .ok (.iload_n 1, 1) := by decide +kernel
theorem dX1_keptValue_93 : decode cX1_keptValue 93 = .ok (.iload_n 2, 1) := by decide +kernel
theorem dX1_keptValue_94 : decode cX1_keptValue 94 = .ok (.invokevirtual 41, 3) := by decide +kernel
theorem dX1_keptValue_97 : decode cX1_keptValue 97 = .ok (.if_icmp .ne 8, 3) := by decide +kernel
theorem dX1_keptValue_100 : decode cX1_keptValue 100 = .ok (.iload 5, 2) := by decide +kernel
theorem dX1_keptValue_102 : decode cX1_keptValue 102 = .ok (.goto 5, 3) := by decide +kernel
theorem dX1_keptValue_105 : decode cX1_keptValue 105 = .ok (.iload 4, 2) := by decide +kernel
theorem dX1_keptValue_107 : decode cX1_keptValue 107 = .ok (.ireturn, 1) := by decide +kernel
set_option maxRecDepth 20000 in
theorem ggX1_fill_X1_isKept : GoodIn wsX1_fill wsX1_isKept := goodIn_r _ [9, 2, 4, 10, 11, 12, 13, 14, 15, 16, 17, 18, 19, 20, 21, 22, 23, 24, 8, 25, 26, 27, 28, 29, 30, 31, 32, 33, 34, 67, 68, 69, 64, 65, 66] (by decide +kernel) (by decide +kernel)
set_option maxRecDepth 20000 in
theorem gX1_fill_X1_isKept : GoodIn wsX1_fill (wsV RX1 29 RX1 yX1_isKept wsX1_isKept) := goodIn_app (goodIn_of _ (by decide +kernel)) ggX1_fill_X1_isKept
set_option maxRecDepth 20000 in
theorem ggX1_fill_X1_append : GoodIn wsX1_fill wsX1_append := goodIn_r _ [38, 1, 39, 40, 41, 14, 42, 20, 21, 43, 44, 45, 46, 30, 31, 32, 33, 34, 47, 48, 49, 50, 51, 52, 53, 8, 54, 4, 2, 10, 11, 12, 13, 15, 16, 17, 18, 19, 55, 56, 57, 58, 59, 60, 61, 62, 63, 64, 65, 66, 67, 68, 69] (by decide +kernel) (by decide +kernel)
set_option maxRecDepth 20000 in
theorem gX1_fill_X1_append : GoodIn wsX1_fill (wsV RX1 53 RX1 yX1_append wsX1_append) := goodIn_app (goodIn_of _ (by decide +kernel)) ggX1_fill_X1_append
set_option maxRecDepth 20000 in
theorem ggX1_fill_X0_has : GoodIn wsX1_fill wsX0_has := goodIn_r _ [15, 16, 17, 18, 14, 19, 20, 21, 64, 65, 66] (by decide +kernel) (by decide +kernel)
set_option maxRecDepth 20000 in
theorem gX1_fill_X0_has : GoodIn wsX1_fill (wsV RX1 36 RX0 yX0_has wsX0_has) := goodIn_app (goodIn_of _ (by decide +kernel)) ggX1_fill_X0_has
theorem dX1_fill_0 : decode cX1_fill 0 = .ok (.aload_n 1, 1) := by decide +kernel
theorem dX1_fill_1 : decode cX1_fill 1 = .ok (.iconst 0, 1) := by decide +kernel
theorem dX1_fill_2 : decode cX1_fill 2 = .ok (.putfield 45, 3) := by decide +kernel
theorem dX1_fill_5 : decode cX1_fill 5 = .ok (.iconst 0, 1) := by decide +kernel
theorem dX1_fill_6 : decode cX1_fill 6 = .ok (.istore_n 3, 1) := by decide +kernel
theorem dX1_fill_7 : decode cX1_fill 7 = .ok (.iload_n 3, 1) := by decide +kernel
theorem dX1_fill_8 : decode cX1_fill 8 = .ok (.aload_n 0, 1) := by decide +kernel
theorem dX1_fill_9 : decode cX1_fill 9 = .ok (.getfield 15, 3) := by decide +kernel
theorem dX1_fill_12 : decode cX1_fill 12 = .ok (.getfield 45, 3) := by decide +kernel
theorem dX1_fill_15 : decode cX1_fill 15 = .ok (.if_icmp .ge 38, 3) := by decide +kernel
theorem dX1_fill_18 : decode cX1_fill 18 = .ok (.aload_n 0, 1) := by decide +kernel
theorem dX1_fill_19 : decode cX1_fill 19 = .ok (.getfield 15, 3) := by decide +kernel
theorem dX1_fill_22 : decode cX1_fill 22 = .ok (.getfield 49, 3) := by decide +kernel
theorem dX1_fill_25 : decode cX1_fill 25 = .ok (.iload_n 3, 1) := by decide +kernel
theorem dX1_fill_26 : decode cX1_fill 26 = .ok (.iaload, 1) := by decide +kernel
theorem dX1_fill_27 : decode cX1_fill 27 = .ok (.istore 4, 2) := by decide +kernel
theorem dX1_fill_29 : decode cX1_fill 29 = .ok (.aload_n 0, 1) := by decide +kernel
theorem dX1_fill_30 : decode cX1_fill 30 = .ok (.iload 4, 2) := by decide +kernel
theorem dX1_fill_32 : decode cX1_fill 32 = .ok (.iload_n 2, 1) := by decide +kernel
theorem dX1_fill_33 : decode cX1_fill 33 = .ok (.invokevirtual 29, 3) := by decide +kernel
theorem dX1_fill_36 : decode cX1_fill 36 = .ok (.ifCond .eq 11, 3) := by decide +kernel
theorem dX1_fill_39 : decode cX1_fill 39 = .ok (.aload_n 0, 1) := by decide +kernel
theorem dX1_fill_40 : decode cX1_fill 40 = .ok (.aload_n 1, 1) := by decide +kernel
theorem dX1_fill_41 : decode cX1_fill 41 = .ok (.iload 4, 2) := by decide +kernel
theorem dX1_fill_43 : decode cX1_fill 43 = .ok (.iload_n 2, 1) := by decide +kernel
theorem dX1_fill_44 : decode cX1_fill 44 = .ok (.invokevirtual 53, 3) := by decide +kernel
theorem dX1_fill_47 : decode cX1_fill 47 = .ok (.iinc 3 1, 3) := by decide +kernel
theorem dX1_fill_50 : decode cX1_fill 50 = .ok (.goto (-43), 3) := by decide +kernel
theorem dX1_fill_53 : decode cX1_fill 53 = .ok (.iconst 0, 1) := by decide +kernel
theorem dX1_fill_54 : decode cX1_fill 54 = .ok (.istore_n 3, 1) := by decide +kernel
theorem dX1_fill_55 : decode cX1_fill 55 = .ok (.iload_n 3, 1) := by decide +kernel
theorem dX1_fill_56 : decode cX1_fill 56 = .ok (.aload_n 0, 1) := by decide +kernel
theorem dX1_fill_57 : decode cX1_fill 57 = .ok (.getfield 18, 3) := by decide +kernel
theorem dX1_fill_60 : decode cX1_fill 60 = .ok (.getfield 45, 3) := by decide +kernel
theorem dX1_fill_63 : decode cX1_fill 63 = .ok (.if_icmp .ge 50, 3) := by decide +kernel
theorem dX1_fill_66 : decode cX1_fill 66 = .ok (.aload_n 0, 1) := by decide +kernel
theorem dX1_fill_67 : decode cX1_fill 67 = .ok (.getfield 18, 3) := by decide +kernel
theorem dX1_fill_70 : decode cX1_fill 70 = .ok (.getfield 49, 3) := by decide +kernel
theorem dX1_fill_73 : decode cX1_fill 73 = .ok (.iload_n 3, 1) := by decide +kernel
theorem dX1_fill_74 : decode cX1_fill 74 = .ok (.iaload, 1) := by decide +kernel
theorem dX1_fill_75 : decode cX1_fill 75 = .ok (.istore 4, 2) := by decide +kernel
theorem dX1_fill_77 : decode cX1_fill 77 = .ok (.aload_n 0, 1) := by decide +kernel
theorem dX1_fill_78 : decode cX1_fill 78 = .ok (.getfield 15, 3) := by decide +kernel
theorem dX1_fill_81 : decode cX1_fill 81 = .ok (.iload 4, 2) := by decide +kernel
theorem dX1_fill_83 : decode cX1_fill 83 = .ok (.invokevirtual 36, 3) := by decide +kernel
theorem dX1_fill_86 : decode cX1_fill 86 = .ok (.ifCond .ne 21, 3) := by decide +kernel
theorem dX1_fill_89 : decode cX1_fill 89 = .ok (.aload_n 0, 1) := by decide +kernel
theorem dX1_fill_90 : decode cX1_fill 90 = .ok (.iload 4, 2) := by decide +kernel
theorem dX1_fill_92 : decode cX1_fill 92 = .ok (.iload_n 2, 1) := by decide +kernel
theorem dX1_fill_93 : decode cX1_fill 93 = .ok (.invokevirtual 29, 3) := by decide +kernel
theorem dX1_fill_96 : decode cX1_fill 96 = .ok (.ifCond .eq 11, 3) := by decide +kernel
theorem dX1_fill_99 : decode cX1_fill 99 = .ok (.aload_n 0, 1) := by decide +kernel
theorem dX1_fill_100 : decode cX1_fill 100 = .ok (.aload_n 1, 1) := by decide +kernel
theorem dX1_fill_101 : decode cX1_fill 101 = .ok (.iload 4, 2) := by decide +kernel
theorem dX1_fill_103 : decode cX1_fill 103 = .ok (.iload_n 2, 1) := by decide +kernel
theorem dX1_fill_104 : decode cX1_fill 104 = .ok (.invokevirtual 53, 3) := by decide +kernel
theorem dX1_fill_107 : decode cX1_fill 107 = .ok (.iinc 3 1, 3) := by decide +kernel
theorem dX1_fill_110 : decode cX1_fill 110 = .ok (.goto (-55), 3) := by decide +kernel
theorem dX1_fill_113 : decode cX1_fill 113 = .ok (.return_, 1) := by decide +kernel
set_option maxRecDepth 20000 in
theorem ggX1_append_X0_insert : GoodIn wsX1_append wsX0_insert := goodIn_r _ [6, 7, 8, 9, 10, 11, 5, 12, 13, 14, 15, 16, 17, 18, 19, 20, 21, 47, 48, 49] (by decide +kernel) (by decide +kernel)
set_option maxRecDepth 20000 in
theorem gX1_append_X0_insert : GoodIn wsX1_append (wsV RX1 57 RX0 yX0_insert wsX0_insert) := goodIn_app (goodIn_of _ (by decide +kernel)) ggX1_append_X0_insert
set_option maxRecDepth 20000 in
theorem ggX1_append_X1_keptValue : GoodIn wsX1_append wsX1_keptValue := goodIn_r _ [26, 27, 28, 29, 30, 31, 32, 5, 33, 34, 35, 36, 37, 7, 8, 38, 39, 40, 41, 13, 14, 15, 16, 17, 42, 43, 44, 25, 45, 50, 51, 52, 47, 48, 49] (by decide +kernel) (by decide +kernel)
set_option maxRecDepth 20000 in
theorem gX1_append_X1_keptValue : GoodIn wsX1_append (wsV RX1 32 RX1 yX1_keptValue wsX1_keptValue) := goodIn_app (goodIn_of _ (by decide +kernel)) ggX1_append_X1_keptValue
set_option maxRecDepth 20000 in
theorem ggX1_append_X0_put : GoodIn wsX1_append wsX0_put := goodIn_r _ [21, 17, 47, 48, 49] (by decide +kernel) (by decide +kernel)
set_option maxRecDepth 20000 in
theorem gX1_append_X0_put : GoodIn wsX1_append (wsV RX1 61 RX0 yX0_put wsX0_put) := goodIn_app (goodIn_of _ (by decide +kernel)) ggX1_append_X0_put
theorem dX1_append_0 : decode cX1_append 0 = .ok (.aload_n 1, 1) := by decide +kernel
theorem dX1_append_1 : decode cX1_append 1 = .ok (.getfield 45, 3) := by decide +kernel
theorem dX1_append_4 : decode cX1_append 4 = .ok (.istore 4, 2) := by decide +kernel
theorem dX1_append_6 : decode cX1_append 6 = .ok (.aload_n 1, 1) := by decide +kernel
theorem dX1_append_7 : decode cX1_append 7 = .ok (.iload 4, 2) := by decide +kernel
theorem dX1_append_9 : decode cX1_append 9 = .ok (.iload_n 2, 1) := by decide +kernel
theorem dX1_append_10 : decode cX1_append 10 = .ok (.invokevirtual 57, 3) := by decide +kernel
theorem dX1_append_13 : decode cX1_append 13 = .ok (.iconst 0, 1) := by decide +kernel
theorem dX1_append_14 : decode cX1_append 14 = .ok (.istore 5, 2) := by decide +kernel
theorem dX1_append_16 : decode cX1_append 16 = .ok (.iload 5, 2) := by decide +kernel
theorem dX1_append_18 : decode cX1_append 18 = .ok (.iconst 4, 1) := by decide +kernel
theorem dX1_append_19 : decode cX1_append 19 = .ok (.if_icmp .ge 25, 3) := by decide +kernel
theorem dX1_append_22 : decode cX1_append 22 = .ok (.aload_n 1, 1) := by decide +kernel
theorem dX1_append_23 : decode cX1_append 23 = .ok (.iload 4, 2) := by decide +kernel
theorem dX1_append_25 : decode cX1_append 25 = .ok (.iload 5, 2) := by decide +kernel
theorem dX1_append_27 : decode cX1_append 27 = .ok (.aload_n 0, 1) := by decide +kernel
theorem dX1_append_28 : decode cX1_append 28 = .ok (.iload_n 2, 1) := by decide +kernel
theorem dX1_append_29 : decode cX1_append 29 = .ok (.iload 5, 2) := by decide +kernel
theorem dX1_append_31 : decode cX1_append 31 = .ok (.iload_n 3, 1) := by decide +kernel
theorem dX1_append_32 : decode cX1_append 32 = .ok (.invokevirtual 32, 3) := by decide +kernel
theorem dX1_append_35 : decode cX1_append 35 = .ok (.invokevirtual 61, 3) := by decide +kernel
theorem dX1_append_38 : decode cX1_append 38 = .ok (.iinc 5 1, 3) := by decide +kernel
theorem dX1_append_41 : decode cX1_append 41 = .ok (.goto (-25), 3) := by decide +kernel
theorem dX1_append_44 : decode cX1_append 44 = .ok (.return_, 1) := by decide +kernel
set_option maxRecDepth 20000 in
theorem ggX1_isKept_X0_has : GoodIn wsX1_isKept wsX0_has := goodIn_r _ [8, 9, 10, 11, 7, 12, 13, 14, 32, 33, 34] (by decide +kernel) (by decide +kernel)
set_option maxRecDepth 20000 in
theorem gX1_isKept_X0_has : GoodIn wsX1_isKept (wsV RX1 36 RX0 yX0_has wsX0_has) := goodIn_app (goodIn_of _ (by decide +kernel)) ggX1_isKept_X0_has
set_option maxRecDepth 20000 in
theorem ggX1_isKept_X1_isSlideClash : GoodIn wsX1_isKept wsX1_isSlideClash := goodIn_r _ [19, 1, 2, 3, 4, 5, 6, 7, 8, 9, 10, 11, 12, 13, 14, 20, 21, 22, 23, 24, 25, 26, 27, 28, 29, 30, 31, 32, 33, 34] (by decide +kernel) (by decide +kernel)
set_option maxRecDepth 20000 in
theorem gX1_isKept_X1_isSlideClash : GoodIn wsX1_isKept (wsV RX1 21 RX1 yX1_isSlideClash wsX1_isSlideClash) := goodIn_app (goodIn_of _ (by decide +kernel)) ggX1_isKept_X1_isSlideClash
theorem dX1_isKept_0 : decode cX1_isKept 0 = .ok (.aload_n 0, 1) := by decide +kernel
theorem dX1_isKept_1 : decode cX1_isKept 1 = .ok (.getfield 15, 3) := by decide +kernel
theorem dX1_isKept_4 : decode cX1_isKept 4 = .ok (.iload_n 1, 1) := by decide +kernel
theorem dX1_isKept_5 : decode cX1_isKept 5 = .ok (.invokevirtual 36, 3) := by decide +kernel
theorem dX1_isKept_8 : decode cX1_isKept 8 = .ok (.istore_n 3, 1) := by decide +kernel
theorem dX1_isKept_9 : decode cX1_isKept 9 = .ok (.aload_n 0, 1) := by decide +kernel
theorem dX1_isKept_10 : decode cX1_isKept 10 = .ok (.getfield 18, 3) := by decide +kernel
theorem dX1_isKept_13 : decode cX1_isKept 13 = .ok (.iload_n 1, 1) := by decide +kernel
theorem dX1_isKept_14 : decode cX1_isKept 14 = .ok (.invokevirtual 36, 3) := by decide +kernel
theorem dX1_isKept_17 : decode cX1_isKept 17 = .ok (.istore 4, 2) := by decide +kernel
theorem dX1_isKept_19 : decode cX1_isKept 19 = .ok (.iload_n 3, 1) := by decide +kernel
theorem dX1_isKept_20 : decode cX1_isKept 20 = .ok (.iload 4, 2) := by decide +kernel
theorem dX1_isKept_22 : decode cX1_isKept 22 = .ok (.if_icmp .eq 14, 3) := by decide +kernel
theorem dX1_isKept_25 : decode cX1_isKept 25 = .ok (.aload_n 0, 1) := by decide +kernel
theorem dX1_isKept_26 : decode cX1_isKept 26 = .ok (.getfield 9, 3) := by decide +kernel
theorem dX1_isKept_29 : decode cX1_isKept 29 = .ok (.iload_n 1, 1) := by decide +kernel
theorem dX1_isKept_30 : decode cX1_isKept 30 = .ok (.invokevirtual 36, 3) := by decide +kernel
theorem dX1_isKept_33 : decode cX1_isKept 33 = .ok (.ifCond .ne 18, 3) := by decide +kernel
theorem dX1_isKept_36 : decode cX1_isKept 36 = .ok (.iload_n 3, 1) := by decide +kernel
theorem dX1_isKept_37 : decode cX1_isKept 37 = .ok (.ifCond .ne 8, 3) := by decide +kernel
theorem dX1_isKept_40 : decode cX1_isKept 40 = .ok (.iload 4, 2) := by decide +kernel
theorem dX1_isKept_42 : decode cX1_isKept 42 = .ok (.ifCond .eq 7, 3) := by decide +kernel
theorem dX1_isKept_45 : decode cX1_isKept 45 = .ok (.iconst 1, 1) := by decide +kernel
theorem dX1_isKept_46 : decode cX1_isKept 46 = .ok (.goto 4, 3) := by decide +kernel
theorem dX1_isKept_49 : decode cX1_isKept 49 = .ok (.iconst 0, 1) := by decide +kernel
theorem dX1_isKept_50 : decode cX1_isKept 50 = .ok (.ireturn, 1) := by decide +kernel
theorem dX1_isKept_51 : decode cX1_isKept 51 = .ok (.aload_n 0, 1) := by decide +kernel
theorem dX1_isKept_52 : decode cX1_isKept 52 = .ok (.iload_n 1, 1) := by decide +kernel
theorem dX1_isKept_53 : decode cX1_isKept 53 = .ok (.invokevirtual 21, 3) := by decide +kernel
theorem dX1_isKept_56 : decode cX1_isKept 56 = .ok (.ifCond .eq 24, 3) := by decide +kernel
theorem dX1_isKept_59 : decode cX1_isKept 59 = .ok (.iload_n 2, 1) := by decide +kernel
theorem dX1_isKept_60 : decode cX1_isKept 60 = .ok (.iconst 1, 1) := by decide +kernel
theorem dX1_isKept_61 : decode cX1_isKept 61 = .ok (.if_icmp .ne 11, 3) := by decide +kernel
theorem dX1_isKept_64 : decode cX1_isKept 64 = .ok (.iload 4, 2) := by decide +kernel
theorem dX1_isKept_66 : decode cX1_isKept 66 = .ok (.ifCond .eq 14, 3) := by decide +kernel
theorem dX1_isKept_69 : decode cX1_isKept 69 = .ok (.goto 7, 3) := by decide +kernel
theorem dX1_isKept_72 : decode cX1_isKept 72 = .ok (.iload_n 3, 1) := by decide +kernel
theorem dX1_isKept_73 : decode cX1_isKept 73 = .ok (.ifCond .eq 7, 3) := by decide +kernel
theorem dX1_isKept_76 : decode cX1_isKept 76 = .ok (.iconst 1, 1) := by decide +kernel
theorem dX1_isKept_77 : decode cX1_isKept 77 = .ok (.goto 4, 3) := by decide +kernel
theorem dX1_isKept_80 : decode cX1_isKept 80 = .ok (.iconst 0, 1) := by decide +kernel
theorem dX1_isKept_81 : decode cX1_isKept 81 = .ok (.ireturn, 1) := by decide +kernel
set_option maxRecDepth 20000 in
theorem ggX1_isSlideClash_X0_has : GoodIn wsX1_isSlideClash wsX0_has := goodIn_r _ [8, 9, 10, 11, 7, 12, 13, 14, 27, 28, 29] (by decide +kernel) (by decide +kernel)
set_option maxRecDepth 20000 in
theorem gX1_isSlideClash_X0_has : GoodIn wsX1_isSlideClash (wsV RX1 36 RX0 yX0_has wsX0_has) := goodIn_app (goodIn_of _ (by decide +kernel)) ggX1_isSlideClash_X0_has
set_option maxRecDepth 20000 in
theorem ggX1_isSlideClash_X0_isAlike : GoodIn wsX1_isSlideClash wsX0_isAlike := goodIn_r _ [18, 9, 10, 11, 7, 12, 13, 14, 19, 20, 21, 22, 23, 27, 28, 29] (by decide +kernel) (by decide +kernel)
set_option maxRecDepth 20000 in
theorem gX1_isSlideClash_X0_isAlike : GoodIn wsX1_isSlideClash (wsV RX1 65 RX0 yX0_isAlike wsX0_isAlike) := goodIn_app (goodIn_of _ (by decide +kernel)) ggX1_isSlideClash_X0_isAlike
theorem dX1_isSlideClash_0 : decode cX1_isSlideClash 0 = .ok (.aload_n 0, 1) := by decide +kernel
theorem dX1_isSlideClash_1 : decode cX1_isSlideClash 1 = .ok (.getfield 15, 3) := by decide +kernel
theorem dX1_isSlideClash_4 : decode cX1_isSlideClash 4 = .ok (.iload_n 1, 1) := by decide +kernel
theorem dX1_isSlideClash_5 : decode cX1_isSlideClash 5 = .ok (.invokevirtual 36, 3) := by decide +kernel
theorem dX1_isSlideClash_8 : decode cX1_isSlideClash 8 = .ok (.istore_n 2, 1) := by decide +kernel
theorem dX1_isSlideClash_9 : decode cX1_isSlideClash 9 = .ok (.iload_n 2, 1) := by decide +kernel
theorem dX1_isSlideClash_10 : decode cX1_isSlideClash 10 = .ok (.aload_n 0, 1) := by decide +kernel
theorem dX1_isSlideClash_11 : decode cX1_isSlideClash 11 = .ok (.getfield 18, 3) := by decide +kernel
theorem dX1_isSlideClash_14 : decode cX1_isSlideClash 14 = .ok (.iload_n 1, 1) := by decide +kernel
theorem dX1_isSlideClash_15 : decode cX1_isSlideClash 15 = .ok (.invokevirtual 36, 3) := by decide +kernel
theorem dX1_isSlideClash_18 : decode cX1_isSlideClash 18 = .ok (.if_icmp .eq 14, 3) := by decide +kernel
theorem dX1_isSlideClash_21 : decode cX1_isSlideClash 21 = .ok (.aload_n 0, 1) := by decide +kernel
theorem dX1_isSlideClash_22 : decode cX1_isSlideClash 22 = .ok (.getfield 9, 3) := by decide +kernel
theorem dX1_isSlideClash_25 : decode cX1_isSlideClash 25 = .ok (.iload_n 1, 1) := by decide +kernel
theorem dX1_isSlideClash_26 : decode cX1_isSlideClash 26 = .ok (.invokevirtual 36, 3) := by decide +kernel
theorem dX1_isSlideClash_29 : decode cX1_isSlideClash 29 = .ok (.ifCond .ne 5, 3) := by decide +kernel
theorem dX1_isSlideClash_32 : decode cX1_isSlideClash 32 = .ok (.iconst 0, 1) := by decide +kernel
theorem dX1_isSlideClash_33 : decode cX1_isSlideClash 33 = .ok (.ireturn, 1) := by decide +kernel
theorem dX1_isSlideClash_34 : decode cX1_isSlideClash 34 = .ok (.aload_n 0, 1) := by decide +kernel
theorem dX1_isSlideClash_35 : decode cX1_isSlideClash 35 = .ok (.getfield 9, 3) := by decide +kernel
theorem dX1_isSlideClash_38 : decode cX1_isSlideClash 38 = .ok (.iload_n 2, 1) := by decide +kernel
theorem dX1_isSlideClash_39 : decode cX1_isSlideClash 39 = .ok (.ifCond .eq 10, 3) := by decide +kernel
theorem dX1_isSlideClash_42 : decode cX1_isSlideClash 42 = .ok (.aload_n 0, 1) := by decide +kernel
theorem dX1_isSlideClash_43 : decode cX1_isSlideClash 43 = .ok (.getfield 15, 3) := by decide +kernel
theorem dX1_isSlideClash_46 : decode cX1_isSlideClash 46 = .ok (.goto 7, 3) := by decide +kernel
theorem dX1_isSlideClash_49 : decode cX1_isSlideClash 49 = .ok (.aload_n 0, 1) := by decide +kernel
theorem dX1_isSlideClash_50 : decode cX1_isSlideClash 50 = .ok (.getfield 18, 3) := by decide +kernel
theorem dX1_isSlideClash_53 : decode cX1_isSlideClash 53 = .ok (.iload_n 1, 1) := by decide +kernel
theorem dX1_isSlideClash_54 : decode cX1_isSlideClash 54 = .ok (.invokevirtual 65, 3) := by decide +kernel
theorem dX1_isSlideClash_57 : decode cX1_isSlideClash 57 = .ok (.ifCond .ne 7, 3) := by decide +kernel
theorem dX1_isSlideClash_60 : decode cX1_isSlideClash 60 = .ok (.iconst 1, 1) := by decide +kernel
theorem dX1_isSlideClash_61 : decode cX1_isSlideClash 61 = .ok (.goto 4, 3) := by decide +kernel
theorem dX1_isSlideClash_64 : decode cX1_isSlideClash 64 = .ok (.iconst 0, 1) := by decide +kernel
theorem dX1_isSlideClash_65 : decode cX1_isSlideClash 65 = .ok (.ireturn, 1) := by decide +kernel
set_option maxRecDepth 20000 in
theorem ggX1_isObjectClash_X0_has : GoodIn wsX1_isObjectClash wsX0_has := goodIn_r _ [8, 9, 10, 11, 7, 12, 13, 14, 27, 28, 29] (by decide +kernel) (by decide +kernel)
set_option maxRecDepth 20000 in
theorem gX1_isObjectClash_X0_has : GoodIn wsX1_isObjectClash (wsV RX1 36 RX0 yX0_has wsX0_has) := goodIn_app (goodIn_of _ (by decide +kernel)) ggX1_isObjectClash_X0_has
set_option maxRecDepth 20000 in
theorem ggX1_isObjectClash_X0_valueOf : GoodIn wsX1_isObjectClash wsX0_valueOf := goodIn_r _ [18, 9, 10, 11, 7, 12, 13, 14, 19, 20, 21, 22, 23, 27, 28, 29] (by decide +kernel) (by decide +kernel)
set_option maxRecDepth 20000 in
theorem gX1_isObjectClash_X0_valueOf : GoodIn wsX1_isObjectClash (wsV RX1 41 RX0 yX0_valueOf wsX0_valueOf) := goodIn_app (goodIn_of _ (by decide +kernel)) ggX1_isObjectClash_X0_valueOf
theorem dX1_isObjectClash_0 : decode cX1_isObjectClash 0 = .ok (.aload_n 0, 1) := by decide +kernel
theorem dX1_isObjectClash_1 : decode cX1_isObjectClash 1 = .ok (.getfield 15, 3) := by decide +kernel
theorem dX1_isObjectClash_4 : decode cX1_isObjectClash 4 = .ok (.iload_n 1, 1) := by decide +kernel
theorem dX1_isObjectClash_5 : decode cX1_isObjectClash 5 = .ok (.invokevirtual 36, 3) := by decide +kernel
theorem dX1_isObjectClash_8 : decode cX1_isObjectClash 8 = .ok (.ifCond .eq 14, 3) := by decide +kernel
theorem dX1_isObjectClash_11 : decode cX1_isObjectClash 11 = .ok (.aload_n 0, 1) := by decide +kernel
theorem dX1_isObjectClash_12 : decode cX1_isObjectClash 12 = .ok (.getfield 18, 3) := by decide +kernel
theorem dX1_isObjectClash_15 : decode cX1_isObjectClash 15 = .ok (.iload_n 1, 1) := by decide +kernel
theorem dX1_isObjectClash_16 : decode cX1_isObjectClash 16 = .ok (.invokevirtual 36, 3) := by decide +kernel
theorem dX1_isObjectClash_19 : decode cX1_isObjectClash 19 = .ok (.ifCond .ne 5, 3) := by decide +kernel
theorem dX1_isObjectClash_22 : decode cX1_isObjectClash 22 = .ok (.iconst 0, 1) := by decide +kernel
theorem dX1_isObjectClash_23 : decode cX1_isObjectClash 23 = .ok (.ireturn, 1) := by decide +kernel
theorem dX1_isObjectClash_24 : decode cX1_isObjectClash 24 = .ok (.aload_n 0, 1) := by decide +kernel
theorem dX1_isObjectClash_25 : decode cX1_isObjectClash 25 = .ok (.getfield 15, 3) := by decide +kernel
theorem dX1_isObjectClash_28 : decode cX1_isObjectClash 28 = .ok (.iload_n 1, 1) := by decide +kernel
theorem dX1_isObjectClash_29 : decode cX1_isObjectClash 29 = .ok (.iload_n 2, 1) := by decide +kernel
theorem dX1_isObjectClash_30 : decode cX1_isObjectClash 30 = .ok (.invokevirtual 41, 3) := by decide +kernel
theorem dX1_isObjectClash_33 : decode cX1_isObjectClash 33 = .ok (.istore_n 3, 1) := by decide +kernel
theorem dX1_isObjectClash_34 : decode cX1_isObjectClash 34 = .ok (.aload_n 0, 1) := by decide +kernel
theorem dX1_isObjectClash_35 : decode cX1_isObjectClash 35 = .ok (.getfield 18, 3) := by decide +kernel
theorem dX1_isObjectClash_38 : decode cX1_isObjectClash 38 = .ok (.iload_n 1, 1) := by decide +kernel
theorem dX1_isObjectClash_39 : decode cX1_isObjectClash 39 = .ok (.iload_n 2, 1) := by decide +kernel
theorem dX1_isObjectClash_40 : decode cX1_isObjectClash 40 = .ok (.invokevirtual 41, 3) := by decide +kernel
theorem dX1_isObjectClash_43 : decode cX1_isObjectClash 43 = .ok (.istore 4, 2) := by decide +kernel
theorem dX1_isObjectClash_45 : decode cX1_isObjectClash 45 = .ok (.aload_n 0, 1) := by decide +kernel
theorem dX1_isObjectClash_46 : decode cX1_isObjectClash 46 = .ok (.getfield 9, 3) := by decide +kernel
theorem dX1_isObjectClash_49 : decode cX1_isObjectClash 49 = .ok (.iload_n 1, 1) := by decide +kernel
theorem dX1_isObjectClash_50 : decode cX1_isObjectClash 50 = .ok (.iload_n 2, 1) := by decide +kernel
theorem dX1_isObjectClash_51 : decode cX1_isObjectClash 51 = .ok (.invokevirtual 41, 3) := by decide +kernel
theorem dX1_isObjectClash_54 : decode cX1_isObjectClash 54 = .ok (.istore 5, 2) := by decide +kernel
theorem dX1_isObjectClash_56 : decode cX1_isObjectClash 56 = .ok (.iload_n 3, 1) := by decide +kernel
theorem dX1_isObjectClash_57 : decode cX1_isObjectClash 57 = .ok (.iload 4, 2) := by decide +kernel
theorem dX1_isObjectClash_59 : decode cX1_isObjectClash 59 = .ok (.if_icmp .eq 20, 3) := by decide +kernel
theorem dX1_isObjectClash_62 : decode cX1_isObjectClash 62 = .ok (.iload_n 3, 1) := by decide +kernel
theorem dX1_isObjectClash_63 : decode cX1_isObjectClash 63 = .ok (.iload 5, 2) := by decide +kernel
theorem dX1_isObjectClash_65 : decode cX1_isObjectClash 65 = .ok (.if_icmp .eq 14, 3) := by decide +kernel
theorem dX1_isObjectClash_68 : decode cX1_isObjectClash 68 = .ok (.iload 4, 2) := by decide +kernel
theorem dX1_isObjectClash_70 : decode cX1_isObjectClash 70 = .ok (.iload 5, 2) := by decide +kernel
theorem dX1_isObjectClash_72 : decode cX1_isObjectClash 72 = .ok (.if_icmp .eq 7, 3) := by decide +kernel
theorem dX1_isObjectClash_75 : decode cX1_isObjectClash 75 = .ok (.iconst 1, 1) := by decide +kernel
theorem dX1_isObjectClash_76 : decode cX1_isObjectClash 76 = .ok (.goto 4, 3) := by decide +kernel
theorem dX1_isObjectClash_79 : decode cX1_isObjectClash 79 = .ok (.iconst 0, 1) := by decide +kernel
theorem dX1_isObjectClash_80 : decode cX1_isObjectClash 80 = .ok (.ireturn, 1) := by decide +kernel
theorem dX2_init_0 : decode cX2_init 0 = .ok (.aload_n 0, 1) := by decide +kernel
theorem dX2_init_1 : decode cX2_init 1 = .ok (.invokespecial 1, 3) := by decide +kernel
theorem dX2_init_4 : decode cX2_init 4 = .ok (.return_, 1) := by decide +kernel
set_option maxRecDepth 20000 in
theorem ggX2_isBrokenAt_X0_valueAt : GoodIn wsX2_isBrokenAt wsX0_valueAt := goodIn_r _ [8, 9, 14, 15, 16] (by decide +kernel) (by decide +kernel)
set_option maxRecDepth 20000 in
theorem gX2_isBrokenAt_X0_valueAt : GoodIn wsX2_isBrokenAt (wsV RX2 13 RX0 yX0_valueAt wsX0_valueAt) := goodIn_app (goodIn_of _ (by decide +kernel)) ggX2_isBrokenAt_X0_valueAt
theorem dX2_isBrokenAt_0 : decode cX2_isBrokenAt 0 = .ok (.aload_n 1, 1) := by decide +kernel
theorem dX2_isBrokenAt_1 : decode cX2_isBrokenAt 1 = .ok (.iload_n 2, 1) := by decide +kernel
theorem dX2_isBrokenAt_2 : decode cX2_isBrokenAt 2 = .ok (.aload_n 0, 1) := by decide +kernel
theorem dX2_isBrokenAt_3 : decode cX2_isBrokenAt 3 = .ok (.getfield 7, 3) := by decide +kernel
theorem dX2_isBrokenAt_6 : decode cX2_isBrokenAt 6 = .ok (.invokevirtual 13, 3) := by decide +kernel
theorem dX2_isBrokenAt_9 : decode cX2_isBrokenAt 9 = .ok (.istore_n 3, 1) := by decide +kernel
theorem dX2_isBrokenAt_10 : decode cX2_isBrokenAt 10 = .ok (.iload_n 3, 1) := by decide +kernel
theorem dX2_isBrokenAt_11 : decode cX2_isBrokenAt 11 = .ok (.ifCond .eq 23, 3) := by decide +kernel
theorem dX2_isBrokenAt_14 : decode cX2_isBrokenAt 14 = .ok (.iload_n 3, 1) := by decide +kernel
theorem dX2_isBrokenAt_15 : decode cX2_isBrokenAt 15 = .ok (.aload_n 0, 1) := by decide +kernel
theorem dX2_isBrokenAt_16 : decode cX2_isBrokenAt 16 = .ok (.getfield 19, 3) := by decide +kernel
theorem dX2_isBrokenAt_19 : decode cX2_isBrokenAt 19 = .ok (.if_icmp .lt 11, 3) := by decide +kernel
theorem dX2_isBrokenAt_22 : decode cX2_isBrokenAt 22 = .ok (.iload_n 3, 1) := by decide +kernel
theorem dX2_isBrokenAt_23 : decode cX2_isBrokenAt 23 = .ok (.aload_n 0, 1) := by decide +kernel
theorem dX2_isBrokenAt_24 : decode cX2_isBrokenAt 24 = .ok (.getfield 22, 3) := by decide +kernel
theorem dX2_isBrokenAt_27 : decode cX2_isBrokenAt 27 = .ok (.if_icmp .le 7, 3) := by decide +kernel
theorem dX2_isBrokenAt_30 : decode cX2_isBrokenAt 30 = .ok (.iconst 1, 1) := by decide +kernel
theorem dX2_isBrokenAt_31 : decode cX2_isBrokenAt 31 = .ok (.goto 4, 3) := by decide +kernel
theorem dX2_isBrokenAt_34 : decode cX2_isBrokenAt 34 = .ok (.iconst 0, 1) := by decide +kernel
theorem dX2_isBrokenAt_35 : decode cX2_isBrokenAt 35 = .ok (.ireturn, 1) := by decide +kernel
set_option maxRecDepth 20000 in
theorem ggX3_init_X0_init : GoodIn wsX3_init wsX0_init := goodIn_r _ [11, 12, 2, 3, 13, 14, 15, 16, 17, 18] (by decide +kernel) (by decide +kernel)
set_option maxRecDepth 20000 in
theorem gX3_init_X0_init_n11 : GoodIn wsX3_init (wsX0_init) := ggX3_init_X0_init
theorem dX3_init_0 : decode cX3_init 0 = .ok (.aload_n 0, 1) := by decide +kernel
theorem dX3_init_1 : decode cX3_init 1 = .ok (.invokespecial 3, 3) := by decide +kernel
theorem dX3_init_4 : decode cX3_init 4 = .ok (.aload_n 0, 1) := by decide +kernel
theorem dX3_init_5 : decode cX3_init 5 = .ok (.new 9, 3) := by decide +kernel
theorem dX3_init_8 : decode cX3_init 8 = .ok (.dup, 1) := by decide +kernel
theorem dX3_init_9 : decode cX3_init 9 = .ok (.invokespecial 11, 3) := by decide +kernel
theorem dX3_init_12 : decode cX3_init 12 = .ok (.putfield 12, 3) := by decide +kernel
theorem dX3_init_15 : decode cX3_init 15 = .ok (.aload_n 0, 1) := by decide +kernel
theorem dX3_init_16 : decode cX3_init 16 = .ok (.iconst (-1), 1) := by decide +kernel
theorem dX3_init_17 : decode cX3_init 17 = .ok (.putfield 18, 3) := by decide +kernel
theorem dX3_init_20 : decode cX3_init 20 = .ok (.aload_n 0, 1) := by decide +kernel
theorem dX3_init_21 : decode cX3_init 21 = .ok (.iconst (-1), 1) := by decide +kernel
theorem dX3_init_22 : decode cX3_init 22 = .ok (.putfield 22, 3) := by decide +kernel
theorem dX3_init_25 : decode cX3_init 25 = .ok (.return_, 1) := by decide +kernel
theorem dX4_init_0 : decode cX4_init 0 = .ok (.aload_n 0, 1) := by decide +kernel
theorem dX4_init_1 : decode cX4_init 1 = .ok (.invokespecial 1, 3) := by decide +kernel
theorem dX4_init_4 : decode cX4_init 4 = .ok (.return_, 1) := by decide +kernel
set_option maxRecDepth 20000 in
theorem ggX5_init_X0_init : GoodIn wsX5_init wsX0_init := goodIn_r _ [27, 28, 2, 3, 6, 29, 30, 56, 57, 58] (by decide +kernel) (by decide +kernel)
set_option maxRecDepth 20000 in
theorem gX5_init_X0_init_n36 : GoodIn wsX5_init (wsX0_init) := ggX5_init_X0_init
set_option maxRecDepth 20000 in
theorem ggX5_init_X3_init : GoodIn wsX5_init wsX3_init := goodIn_r _ [32, 33, 2, 3, 34, 14, 15, 35, 36, 37, 26, 27, 28, 6, 29, 30, 56, 57, 58, 59, 60, 61, 62, 63] (by decide +kernel) (by decide +kernel)
set_option maxRecDepth 20000 in
theorem gX5_init_X3_init_n41 : GoodIn wsX5_init (wsX3_init) := ggX5_init_X3_init
set_option maxRecDepth 20000 in
theorem ggX5_init_X2_init : GoodIn wsX5_init wsX2_init := goodIn_r _ [39, 40, 2, 3] (by decide +kernel) (by decide +kernel)
set_option maxRecDepth 20000 in
theorem gX5_init_X2_init_n42 : GoodIn wsX5_init (wsX2_init) := ggX5_init_X2_init
set_option maxRecDepth 20000 in
theorem ggX5_init_X4_init : GoodIn wsX5_init wsX4_init := goodIn_r _ [42, 43, 2, 3] (by decide +kernel) (by decide +kernel)
set_option maxRecDepth 20000 in
theorem gX5_init_X4_init_n43 : GoodIn wsX5_init (wsX4_init) := ggX5_init_X4_init
theorem dX5_init_0 : decode cX5_init 0 = .ok (.aload_n 0, 1) := by decide +kernel
theorem dX5_init_1 : decode cX5_init 1 = .ok (.invokespecial 1, 3) := by decide +kernel
theorem dX5_init_4 : decode cX5_init 4 = .ok (.aload_n 0, 1) := by decide +kernel
theorem dX5_init_5 : decode cX5_init 5 = .ok (.bipush 40, 2) := by decide +kernel
theorem dX5_init_7 : decode cX5_init 7 = .ok (.anewarray 9, 3) := by decide +kernel
theorem dX5_init_10 : decode cX5_init 10 = .ok (.putfield 11, 3) := by decide +kernel
theorem dX5_init_13 : decode cX5_init 13 = .ok (.aload_n 0, 1) := by decide +kernel
theorem dX5_init_14 : decode cX5_init 14 = .ok (.bipush 6, 2) := by decide +kernel
theorem dX5_init_16 : decode cX5_init 16 = .ok (.newarray .int, 2) := by decide +kernel
theorem dX5_init_18 : decode cX5_init 18 = .ok (.putfield 15, 3) := by decide +kernel
theorem dX5_init_21 : decode cX5_init 21 = .ok (.aload_n 0, 1) := by decide +kernel
theorem dX5_init_22 : decode cX5_init 22 = .ok (.bipush 6, 2) := by decide +kernel
theorem dX5_init_24 : decode cX5_init 24 = .ok (.newarray .int, 2) := by decide +kernel
theorem dX5_init_26 : decode cX5_init 26 = .ok (.putfield 19, 3) := by decide +kernel
theorem dX5_init_29 : decode cX5_init 29 = .ok (.aload_n 0, 1) := by decide +kernel
theorem dX5_init_30 : decode cX5_init 30 = .ok (.bipush 8, 2) := by decide +kernel
theorem dX5_init_32 : decode cX5_init 32 = .ok (.anewarray 22, 3) := by decide +kernel
theorem dX5_init_35 : decode cX5_init 35 = .ok (.putfield 24, 3) := by decide +kernel
theorem dX5_init_38 : decode cX5_init 38 = .ok (.aload_n 0, 1) := by decide +kernel
theorem dX5_init_39 : decode cX5_init 39 = .ok (.bipush 12, 2) := by decide +kernel
theorem dX5_init_41 : decode cX5_init 41 = .ok (.anewarray 28, 3) := by decide +kernel
theorem dX5_init_44 : decode cX5_init 44 = .ok (.putfield 30, 3) := by decide +kernel
theorem dX5_init_47 : decode cX5_init 47 = .ok (.aload_n 0, 1) := by decide +kernel
theorem dX5_init_48 : decode cX5_init 48 = .ok (.new 34, 3) := by decide +kernel
theorem dX5_init_51 : decode cX5_init 51 = .ok (.dup, 1) := by decide +kernel
theorem dX5_init_52 : decode cX5_init 52 = .ok (.invokespecial 36, 3) := by decide +kernel
theorem dX5_init_55 : decode cX5_init 55 = .ok (.putfield 37, 3) := by decide +kernel
theorem dX5_init_58 : decode cX5_init 58 = .ok (.iconst 0, 1) := by decide +kernel
theorem dX5_init_59 : decode cX5_init 59 = .ok (.istore_n 1, 1) := by decide +kernel
theorem dX5_init_60 : decode cX5_init 60 = .ok (.iload_n 1, 1) := by decide +kernel
theorem dX5_init_61 : decode cX5_init 61 = .ok (.bipush 40, 2) := by decide +kernel
theorem dX5_init_63 : decode cX5_init 63 = .ok (.if_icmp .ge 22, 3) := by decide +kernel
theorem dX5_init_66 : decode cX5_init 66 = .ok (.aload_n 0, 1) := by decide +kernel
theorem dX5_init_67 : decode cX5_init 67 = .ok (.getfield 11, 3) := by decide +kernel
theorem dX5_init_70 : decode cX5_init 70 = .ok (.iload_n 1, 1) := by decide +kernel
theorem dX5_init_71 : decode cX5_init 71 = .ok (.new 9, 3) := by decide +kernel
theorem dX5_init_74 : decode cX5_init 74 = .ok (.dup, 1) := by decide +kernel
theorem dX5_init_75 : decode cX5_init 75 = .ok (.invokespecial 41, 3) := by decide +kernel
theorem dX5_init_78 : decode cX5_init 78 = .ok (.aastore, 1) := by decide +kernel
theorem dX5_init_79 : decode cX5_init 79 = .ok (.iinc 1 1, 3) := by decide +kernel
theorem dX5_init_82 : decode cX5_init 82 = .ok (.goto (-22), 3) := by decide +kernel
theorem dX5_init_85 : decode cX5_init 85 = .ok (.iconst 0, 1) := by decide +kernel
theorem dX5_init_86 : decode cX5_init 86 = .ok (.istore_n 1, 1) := by decide +kernel
theorem dX5_init_87 : decode cX5_init 87 = .ok (.iload_n 1, 1) := by decide +kernel
theorem dX5_init_88 : decode cX5_init 88 = .ok (.bipush 8, 2) := by decide +kernel
theorem dX5_init_90 : decode cX5_init 90 = .ok (.if_icmp .ge 22, 3) := by decide +kernel
theorem dX5_init_93 : decode cX5_init 93 = .ok (.aload_n 0, 1) := by decide +kernel
theorem dX5_init_94 : decode cX5_init 94 = .ok (.getfield 24, 3) := by decide +kernel
theorem dX5_init_97 : decode cX5_init 97 = .ok (.iload_n 1, 1) := by decide +kernel
theorem dX5_init_98 : decode cX5_init 98 = .ok (.new 22, 3) := by decide +kernel
theorem dX5_init_101 : decode cX5_init 101 = .ok (.dup, 1) := by decide +kernel
theorem dX5_init_102 : decode cX5_init 102 = .ok (.invokespecial 42, 3) := by decide +kernel
theorem dX5_init_105 : decode cX5_init 105 = .ok (.aastore, 1) := by decide +kernel
theorem dX5_init_106 : decode cX5_init 106 = .ok (.iinc 1 1, 3) := by decide +kernel
theorem dX5_init_109 : decode cX5_init 109 = .ok (.goto (-22), 3) := by decide +kernel
theorem dX5_init_112 : decode cX5_init 112 = .ok (.iconst 0, 1) := by decide +kernel
theorem dX5_init_113 : decode cX5_init 113 = .ok (.istore_n 1, 1) := by decide +kernel
theorem dX5_init_114 : decode cX5_init 114 = .ok (.iload_n 1, 1) := by decide +kernel
theorem dX5_init_115 : decode cX5_init 115 = .ok (.bipush 12, 2) := by decide +kernel
theorem dX5_init_117 : decode cX5_init 117 = .ok (.if_icmp .ge 22, 3) := by decide +kernel
theorem dX5_init_120 : decode cX5_init 120 = .ok (.aload_n 0, 1) := by decide +kernel
theorem dX5_init_121 : decode cX5_init 121 = .ok (.getfield 30, 3) := by decide +kernel
theorem dX5_init_124 : decode cX5_init 124 = .ok (.iload_n 1, 1) := by decide +kernel
theorem dX5_init_125 : decode cX5_init 125 = .ok (.new 28, 3) := by decide +kernel
theorem dX5_init_128 : decode cX5_init 128 = .ok (.dup, 1) := by decide +kernel
theorem dX5_init_129 : decode cX5_init 129 = .ok (.invokespecial 43, 3) := by decide +kernel
theorem dX5_init_132 : decode cX5_init 132 = .ok (.aastore, 1) := by decide +kernel
theorem dX5_init_133 : decode cX5_init 133 = .ok (.iinc 1 1, 3) := by decide +kernel
theorem dX5_init_136 : decode cX5_init 136 = .ok (.goto (-22), 3) := by decide +kernel
theorem dX5_init_139 : decode cX5_init 139 = .ok (.iconst 0, 1) := by decide +kernel
theorem dX5_init_140 : decode cX5_init 140 = .ok (.istore_n 1, 1) := by decide +kernel
theorem dX5_init_141 : decode cX5_init 141 = .ok (.iload_n 1, 1) := by decide +kernel
theorem dX5_init_142 : decode cX5_init 142 = .ok (.bipush 6, 2) := by decide +kernel
theorem dX5_init_144 : decode cX5_init 144 = .ok (.if_icmp .ge 16, 3) := by decide +kernel
theorem dX5_init_147 : decode cX5_init 147 = .ok (.aload_n 0, 1) := by decide +kernel
theorem dX5_init_148 : decode cX5_init 148 = .ok (.getfield 19, 3) := by decide +kernel
theorem dX5_init_151 : decode cX5_init 151 = .ok (.iload_n 1, 1) := by decide +kernel
theorem dX5_init_152 : decode cX5_init 152 = .ok (.iconst (-1), 1) := by decide +kernel
theorem dX5_init_153 : decode cX5_init 153 = .ok (.iastore, 1) := by decide +kernel
theorem dX5_init_154 : decode cX5_init 154 = .ok (.iinc 1 1, 3) := by decide +kernel
theorem dX5_init_157 : decode cX5_init 157 = .ok (.goto (-16), 3) := by decide +kernel
theorem dX5_init_160 : decode cX5_init 160 = .ok (.aload_n 0, 1) := by decide +kernel
theorem dX5_init_161 : decode cX5_init 161 = .ok (.getfield 11, 3) := by decide +kernel
theorem dX5_init_164 : decode cX5_init 164 = .ok (.iconst 0, 1) := by decide +kernel
theorem dX5_init_165 : decode cX5_init 165 = .ok (.aaload, 1) := by decide +kernel
theorem dX5_init_166 : decode cX5_init 166 = .ok (.lconst 1, 1) := by decide +kernel
theorem dX5_init_167 : decode cX5_init 167 = .ok (.putfield 44, 3) := by decide +kernel
theorem dX5_init_170 : decode cX5_init 170 = .ok (.aload_n 0, 1) := by decide +kernel
theorem dX5_init_171 : decode cX5_init 171 = .ok (.iconst 1, 1) := by decide +kernel
theorem dX5_init_172 : decode cX5_init 172 = .ok (.putfield 48, 3) := by decide +kernel
theorem dX5_init_175 : decode cX5_init 175 = .ok (.aload_n 0, 1) := by decide +kernel
theorem dX5_init_176 : decode cX5_init 176 = .ok (.iconst 1, 1) := by decide +kernel
theorem dX5_init_177 : decode cX5_init 177 = .ok (.putfield 52, 3) := by decide +kernel
theorem dX5_init_180 : decode cX5_init 180 = .ok (.return_, 1) := by decide +kernel
set_option maxRecDepth 20000 in
theorem ggX5_branch_X5_checkVersion : GoodIn wsX5_branch wsX5_checkVersion := goodIn_ca (goodIn_r _ [9, 10, 11, 12, 13, 14, 15, 16, 17, 18, 19, 20, 21, 22, 23, 24] (by decide +kernel) (by decide +kernel)) (goodIn_sub (fun _ h => List.mem_cons_of_mem _ (List.mem_append_right _ h)) (by decide +kernel))
set_option maxRecDepth 20000 in
theorem gX5_branch_X5_checkVersion : GoodIn wsX5_branch (wsV RX5 55 RX5 yX5_checkVersion wsX5_checkVersion) := goodIn_app (goodIn_of _ (by decide +kernel)) ggX5_branch_X5_checkVersion
theorem dX5_branch_0 : decode cX5_branch 0 = .ok (.aload_n 0, 1) := by decide +kernel
theorem dX5_branch_1 : decode cX5_branch 1 = .ok (.iload_n 1, 1) := by decide +kernel
theorem dX5_branch_2 : decode cX5_branch 2 = .ok (.invokevirtual 55, 3) := by decide +kernel
theorem dX5_branch_5 : decode cX5_branch 5 = .ok (.aload_n 0, 1) := by decide +kernel
theorem dX5_branch_6 : decode cX5_branch 6 = .ok (.getfield 52, 3) := by decide +kernel
theorem dX5_branch_9 : decode cX5_branch 9 = .ok (.bipush 6, 2) := by decide +kernel
theorem dX5_branch_11 : decode cX5_branch 11 = .ok (.if_icmp .lt 13, 3) := by decide +kernel
theorem dX5_branch_14 : decode cX5_branch 14 = .ok (.new 59, 3) := by decide +kernel
theorem dX5_branch_17 : decode cX5_branch 17 = .ok (.dup, 1) := by decide +kernel
theorem dX5_branch_18 : decode cX5_branch 18 = .ok (.ldc 61, 2) := by decide +kernel
theorem dX5_branch_20 : decode cX5_branch 20 = .ok (.invokespecial 63, 3) := by decide +kernel
theorem dX5_branch_23 : decode cX5_branch 23 = .ok (.athrow, 1) := by decide +kernel
theorem dX5_branch_24 : decode cX5_branch 24 = .ok (.aload_n 0, 1) := by decide +kernel
theorem dX5_branch_25 : decode cX5_branch 25 = .ok (.getfield 52, 3) := by decide +kernel
theorem dX5_branch_28 : decode cX5_branch 28 = .ok (.istore_n 2, 1) := by decide +kernel
theorem dX5_branch_29 : decode cX5_branch 29 = .ok (.aload_n 0, 1) := by decide +kernel
theorem dX5_branch_30 : decode cX5_branch 30 = .ok (.getfield 15, 3) := by decide +kernel
theorem dX5_branch_33 : decode cX5_branch 33 = .ok (.iload_n 2, 1) := by decide +kernel
theorem dX5_branch_34 : decode cX5_branch 34 = .ok (.iload_n 1, 1) := by decide +kernel
theorem dX5_branch_35 : decode cX5_branch 35 = .ok (.iastore, 1) := by decide +kernel
theorem dX5_branch_36 : decode cX5_branch 36 = .ok (.aload_n 0, 1) := by decide +kernel
theorem dX5_branch_37 : decode cX5_branch 37 = .ok (.iload_n 2, 1) := by decide +kernel
theorem dX5_branch_38 : decode cX5_branch 38 = .ok (.iconst 1, 1) := by decide +kernel
theorem dX5_branch_39 : decode cX5_branch 39 = .ok (.iadd, 1) := by decide +kernel
theorem dX5_branch_40 : decode cX5_branch 40 = .ok (.putfield 52, 3) := by decide +kernel
theorem dX5_branch_43 : decode cX5_branch 43 = .ok (.iload_n 2, 1) := by decide +kernel
theorem dX5_branch_44 : decode cX5_branch 44 = .ok (.ireturn, 1) := by decide +kernel
set_option maxRecDepth 20000 in
theorem ggX5_add_X5_checkBranch : GoodIn wsX5_add wsX5_checkBranch := goodIn_ca (goodIn_r _ [11, 1, 2, 12, 64, 65, 66, 67, 68, 69, 70, 71, 72, 73, 74, 75] (by decide +kernel) (by decide +kernel)) (goodIn_sub (fun _ h => List.mem_cons_of_mem _ (List.mem_append_left _ (List.mem_append_right _ h))) (by decide +kernel))
set_option maxRecDepth 20000 in
theorem gX5_add_X5_checkBranch : GoodIn wsX5_add (wsV RX5 66 RX5 yX5_checkBranch wsX5_checkBranch) := goodIn_app (goodIn_of _ (by decide +kernel)) ggX5_add_X5_checkBranch
set_option maxRecDepth 20000 in
theorem ggX5_add_X5_headDeck : GoodIn wsX5_add wsX5_headDeck := goodIn_r _ [16, 17, 18, 19, 64, 65, 66, 67, 68, 69, 70, 71, 72, 73, 74, 75, 76, 77, 78, 79, 80] (by decide +kernel) (by decide +kernel)
set_option maxRecDepth 20000 in
theorem gX5_add_X5_headDeck : GoodIn wsX5_add (wsV RX5 69 RX5 yX5_headDeck wsX5_headDeck) := goodIn_app (goodIn_of _ (by decide +kernel)) ggX5_add_X5_headDeck
set_option maxRecDepth 20000 in
theorem ggX5_add_X5_checkRoomForVersion : GoodIn wsX5_add wsX5_checkRoomForVersion := goodIn_ca (goodIn_r _ [23, 3, 4, 24, 64, 65, 66, 67, 68, 69, 70, 71, 72, 73, 74, 75] (by decide +kernel) (by decide +kernel)) (goodIn_sub (fun _ h => List.mem_cons_of_mem _ (List.mem_append_right _ h)) (by decide +kernel))
set_option maxRecDepth 20000 in
theorem gX5_add_X5_checkRoomForVersion : GoodIn wsX5_add (wsV RX5 88 RX5 yX5_checkRoomForVersion wsX5_checkRoomForVersion) := goodIn_app (goodIn_of _ (by decide +kernel)) ggX5_add_X5_checkRoomForVersion
set_option maxRecDepth 20000 in
theorem ggX5_add_X5_makeVersion : GoodIn wsX5_add wsX5_makeVersion := goodIn_r _ [28, 24, 18, 17, 29, 30, 31, 32, 19, 33, 34, 35, 36, 37, 38, 39, 40, 41, 42, 43, 44, 64, 65, 66, 67, 68, 69, 70, 71, 72, 73, 74, 75, 76, 77, 78, 79, 80, 61, 62, 63] (by decide +kernel) (by decide +kernel)
set_option maxRecDepth 20000 in
theorem gX5_add_X5_makeVersion : GoodIn wsX5_add (wsV RX5 91 RX5 yX5_makeVersion wsX5_makeVersion) := goodIn_app (goodIn_of _ (by decide +kernel)) ggX5_add_X5_makeVersion
set_option maxRecDepth 20000 in
theorem ggX5_add_X0_insert : GoodIn wsX5_add wsX0_insert := goodIn_r _ [48, 44, 38, 49, 50, 51, 36, 52, 53, 54, 55, 56, 43, 57, 58, 59, 60, 61, 62, 63] (by decide +kernel) (by decide +kernel)
set_option maxRecDepth 20000 in
theorem gX5_add_X0_insert : GoodIn wsX5_add (wsV RX5 95 RX0 yX0_insert wsX0_insert) := goodIn_app (goodIn_of _ (by decide +kernel)) ggX5_add_X0_insert
theorem dX5_add_0 : decode cX5_add 0 = .ok (.aload_n 0, 1) := by decide +kernel
theorem dX5_add_1 : decode cX5_add 1 = .ok (.iload_n 1, 1) := by decide +kernel
theorem dX5_add_2 : decode cX5_add 2 = .ok (.invokevirtual 66, 3) := by decide +kernel
theorem dX5_add_5 : decode cX5_add 5 = .ok (.aload_n 0, 1) := by decide +kernel
theorem dX5_add_6 : decode cX5_add 6 = .ok (.iload_n 1, 1) := by decide +kernel
theorem dX5_add_7 : decode cX5_add 7 = .ok (.invokevirtual 69, 3) := by decide +kernel
theorem dX5_add_10 : decode cX5_add 10 = .ok (.getfield 73, 3) := by decide +kernel
theorem dX5_add_13 : decode cX5_add 13 = .ok (.istore_n 3, 1) := by decide +kernel
theorem dX5_add_14 : decode cX5_add 14 = .ok (.iload_n 2, 1) := by decide +kernel
theorem dX5_add_15 : decode cX5_add 15 = .ok (.ifCond .lt 8, 3) := by decide +kernel
theorem dX5_add_18 : decode cX5_add 18 = .ok (.iload_n 2, 1) := by decide +kernel
theorem dX5_add_19 : decode cX5_add 19 = .ok (.iload_n 3, 1) := by decide +kernel
theorem dX5_add_20 : decode cX5_add 20 = .ok (.if_icmp .le 13, 3) := by decide +kernel
theorem dX5_add_23 : decode cX5_add 23 = .ok (.new 76, 3) := by decide +kernel
theorem dX5_add_26 : decode cX5_add 26 = .ok (.dup, 1) := by decide +kernel
theorem dX5_add_27 : decode cX5_add 27 = .ok (.ldc 78, 2) := by decide +kernel
theorem dX5_add_29 : decode cX5_add 29 = .ok (.invokespecial 80, 3) := by decide +kernel
theorem dX5_add_32 : decode cX5_add 32 = .ok (.athrow, 1) := by decide +kernel
theorem dX5_add_33 : decode cX5_add 33 = .ok (.iload_n 3, 1) := by decide +kernel
theorem dX5_add_34 : decode cX5_add 34 = .ok (.bipush 8, 2) := by decide +kernel
theorem dX5_add_36 : decode cX5_add 36 = .ok (.if_icmp .lt 13, 3) := by decide +kernel
theorem dX5_add_39 : decode cX5_add 39 = .ok (.new 59, 3) := by decide +kernel
theorem dX5_add_42 : decode cX5_add 42 = .ok (.dup, 1) := by decide +kernel
theorem dX5_add_43 : decode cX5_add 43 = .ok (.ldc 81, 2) := by decide +kernel
theorem dX5_add_45 : decode cX5_add 45 = .ok (.invokespecial 63, 3) := by decide +kernel
theorem dX5_add_48 : decode cX5_add 48 = .ok (.athrow, 1) := by decide +kernel
theorem dX5_add_49 : decode cX5_add 49 = .ok (.aload_n 0, 1) := by decide +kernel
theorem dX5_add_50 : decode cX5_add 50 = .ok (.getfield 83, 3) := by decide +kernel
theorem dX5_add_53 : decode cX5_add 53 = .ok (.bipush 20, 2) := by decide +kernel
theorem dX5_add_55 : decode cX5_add 55 = .ok (.if_icmp .lt 13, 3) := by decide +kernel
theorem dX5_add_58 : decode cX5_add 58 = .ok (.new 59, 3) := by decide +kernel
theorem dX5_add_61 : decode cX5_add 61 = .ok (.dup, 1) := by decide +kernel
theorem dX5_add_62 : decode cX5_add 62 = .ok (.ldc 86, 2) := by decide +kernel
theorem dX5_add_64 : decode cX5_add 64 = .ok (.invokespecial 63, 3) := by decide +kernel
theorem dX5_add_67 : decode cX5_add 67 = .ok (.athrow, 1) := by decide +kernel
theorem dX5_add_68 : decode cX5_add 68 = .ok (.aload_n 0, 1) := by decide +kernel
theorem dX5_add_69 : decode cX5_add 69 = .ok (.invokevirtual 88, 3) := by decide +kernel
theorem dX5_add_72 : decode cX5_add 72 = .ok (.aload_n 0, 1) := by decide +kernel
theorem dX5_add_73 : decode cX5_add 73 = .ok (.getfield 83, 3) := by decide +kernel
theorem dX5_add_76 : decode cX5_add 76 = .ok (.istore 4, 2) := by decide +kernel
theorem dX5_add_78 : decode cX5_add 78 = .ok (.aload_n 0, 1) := by decide +kernel
theorem dX5_add_79 : decode cX5_add 79 = .ok (.iload 4, 2) := by decide +kernel
theorem dX5_add_81 : decode cX5_add 81 = .ok (.iconst 1, 1) := by decide +kernel
theorem dX5_add_82 : decode cX5_add 82 = .ok (.iadd, 1) := by decide +kernel
theorem dX5_add_83 : decode cX5_add 83 = .ok (.putfield 83, 3) := by decide +kernel
theorem dX5_add_86 : decode cX5_add 86 = .ok (.aload_n 0, 1) := by decide +kernel
theorem dX5_add_87 : decode cX5_add 87 = .ok (.iload_n 1, 1) := by decide +kernel
theorem dX5_add_88 : decode cX5_add 88 = .ok (.iconst (-1), 1) := by decide +kernel
theorem dX5_add_89 : decode cX5_add 89 = .ok (.invokevirtual 91, 3) := by decide +kernel
theorem dX5_add_92 : decode cX5_add 92 = .ok (.iload_n 2, 1) := by decide +kernel
theorem dX5_add_93 : decode cX5_add 93 = .ok (.iload 4, 2) := by decide +kernel
theorem dX5_add_95 : decode cX5_add 95 = .ok (.invokevirtual 95, 3) := by decide +kernel
theorem dX5_add_98 : decode cX5_add 98 = .ok (.iload 4, 2) := by decide +kernel
theorem dX5_add_100 : decode cX5_add 100 = .ok (.ireturn, 1) := by decide +kernel
set_option maxRecDepth 20000 in
theorem ggX5_set_X5_checkBranch : GoodIn wsX5_set wsX5_checkBranch := goodIn_ca (goodIn_r _ [7, 8, 9, 10, 64, 65, 66, 67, 68, 69, 70, 71, 72, 73, 74, 75] (by decide +kernel) (by decide +kernel)) (goodIn_sub (fun _ h => List.mem_cons_of_mem _ (List.mem_append_left _ (List.mem_append_right _ h))) (by decide +kernel))
set_option maxRecDepth 20000 in
theorem gX5_set_X5_checkBranch : GoodIn wsX5_set (wsV RX5 66 RX5 yX5_checkBranch wsX5_checkBranch) := goodIn_app (goodIn_of _ (by decide +kernel)) ggX5_set_X5_checkBranch
set_option maxRecDepth 20000 in
theorem ggX5_set_X5_placeInHead : GoodIn wsX5_set wsX5_placeInHead := goodIn_ca (goodIn_r _ [14, 8, 9, 15, 16, 17, 6, 18, 19, 20, 21, 22, 23, 24, 25, 26, 27, 28, 64, 65, 66, 67, 68, 69, 70, 71, 72, 73, 74, 75, 76, 77, 78, 79, 80, 81, 82, 83] (by decide +kernel) (by decide +kernel)) (goodIn_sub (fun _ h => List.mem_cons_of_mem _ (List.mem_append_left _ (List.mem_append_right _ h))) (by decide +kernel))
set_option maxRecDepth 20000 in
theorem gX5_set_X5_placeInHead : GoodIn wsX5_set (wsV RX5 99 RX5 yX5_placeInHead wsX5_placeInHead) := goodIn_app (goodIn_of _ (by decide +kernel)) ggX5_set_X5_placeInHead
set_option maxRecDepth 20000 in
theorem ggX5_set_X5_checkObject : GoodIn wsX5_set wsX5_checkObject := goodIn_ca (goodIn_r _ [31, 8, 9] (by decide +kernel) (by decide +kernel)) (goodIn_sub (fun _ h => List.mem_cons_of_mem _ (List.mem_append_left _ (List.mem_append_right _ h))) (by decide +kernel))
set_option maxRecDepth 20000 in
theorem gX5_set_X5_checkObject : GoodIn wsX5_set (va_wsS RX5 103 yX5_checkObject wsX5_checkObject) := goodIn_app (goodIn_of _ (by decide +kernel)) ggX5_set_X5_checkObject
set_option maxRecDepth 20000 in
theorem ggX5_set_X5_checkRoomForVersion : GoodIn wsX5_set wsX5_checkRoomForVersion := goodIn_ca (goodIn_r _ [35, 36, 37, 38, 64, 65, 66, 67, 68, 69, 70, 71, 72, 73, 74, 75] (by decide +kernel) (by decide +kernel)) (goodIn_sub (fun _ h => List.mem_cons_of_mem _ (List.mem_append_right _ h)) (by decide +kernel))
set_option maxRecDepth 20000 in
theorem gX5_set_X5_checkRoomForVersion : GoodIn wsX5_set (wsV RX5 88 RX5 yX5_checkRoomForVersion wsX5_checkRoomForVersion) := goodIn_app (goodIn_of _ (by decide +kernel)) ggX5_set_X5_checkRoomForVersion
set_option maxRecDepth 20000 in
theorem ggX5_set_X5_makeVersion : GoodIn wsX5_set wsX5_makeVersion := goodIn_r _ [42, 38, 20, 19, 43, 44, 45, 46, 21, 47, 48, 49, 25, 50, 28, 51, 52, 53, 54, 55, 27, 64, 65, 66, 67, 68, 69, 70, 71, 72, 73, 74, 75, 76, 77, 78, 79, 80, 81, 82, 83] (by decide +kernel) (by decide +kernel)
set_option maxRecDepth 20000 in
theorem gX5_set_X5_makeVersion : GoodIn wsX5_set (wsV RX5 91 RX5 yX5_makeVersion wsX5_makeVersion) := goodIn_app (goodIn_of _ (by decide +kernel)) ggX5_set_X5_makeVersion
set_option maxRecDepth 20000 in
theorem ggX5_set_X0_valueAt : GoodIn wsX5_set wsX0_valueAt := goodIn_r _ [59, 55, 81, 82, 83] (by decide +kernel) (by decide +kernel)
set_option maxRecDepth 20000 in
theorem gX5_set_X0_valueAt : GoodIn wsX5_set (wsV RX5 111 RX0 yX0_valueAt wsX0_valueAt) := goodIn_app (goodIn_of _ (by decide +kernel)) ggX5_set_X0_valueAt
set_option maxRecDepth 20000 in
theorem ggX5_set_X0_put : GoodIn wsX5_set wsX0_put := goodIn_r _ [63, 55, 81, 82, 83] (by decide +kernel) (by decide +kernel)
set_option maxRecDepth 20000 in
theorem gX5_set_X0_put : GoodIn wsX5_set (wsV RX5 114 RX0 yX0_put wsX0_put) := goodIn_app (goodIn_of _ (by decide +kernel)) ggX5_set_X0_put
theorem dX5_set_0 : decode cX5_set 0 = .ok (.aload_n 0, 1) := by decide +kernel
theorem dX5_set_1 : decode cX5_set 1 = .ok (.iload_n 1, 1) := by decide +kernel
theorem dX5_set_2 : decode cX5_set 2 = .ok (.invokevirtual 66, 3) := by decide +kernel
theorem dX5_set_5 : decode cX5_set 5 = .ok (.aload_n 0, 1) := by decide +kernel
theorem dX5_set_6 : decode cX5_set 6 = .ok (.iload_n 1, 1) := by decide +kernel
theorem dX5_set_7 : decode cX5_set 7 = .ok (.iload_n 2, 1) := by decide +kernel
theorem dX5_set_8 : decode cX5_set 8 = .ok (.invokevirtual 99, 3) := by decide +kernel
theorem dX5_set_11 : decode cX5_set 11 = .ok (.istore 5, 2) := by decide +kernel
theorem dX5_set_13 : decode cX5_set 13 = .ok (.iload_n 3, 1) := by decide +kernel
theorem dX5_set_14 : decode cX5_set 14 = .ok (.invokestatic 103, 3) := by decide +kernel
theorem dX5_set_17 : decode cX5_set 17 = .ok (.iload 4, 2) := by decide +kernel
theorem dX5_set_19 : decode cX5_set 19 = .ok (.ifCond .lt 11, 3) := by decide +kernel
theorem dX5_set_22 : decode cX5_set 22 = .ok (.iload 4, 2) := by decide +kernel
theorem dX5_set_24 : decode cX5_set 24 = .ok (.sipush 999, 3) := by decide +kernel
theorem dX5_set_27 : decode cX5_set 27 = .ok (.if_icmp .le 13, 3) := by decide +kernel
theorem dX5_set_30 : decode cX5_set 30 = .ok (.new 106, 3) := by decide +kernel
theorem dX5_set_33 : decode cX5_set 33 = .ok (.dup, 1) := by decide +kernel
theorem dX5_set_34 : decode cX5_set 34 = .ok (.ldc 108, 2) := by decide +kernel
theorem dX5_set_36 : decode cX5_set 36 = .ok (.invokespecial 110, 3) := by decide +kernel
theorem dX5_set_39 : decode cX5_set 39 = .ok (.athrow, 1) := by decide +kernel
theorem dX5_set_40 : decode cX5_set 40 = .ok (.aload_n 0, 1) := by decide +kernel
theorem dX5_set_41 : decode cX5_set 41 = .ok (.invokevirtual 88, 3) := by decide +kernel
theorem dX5_set_44 : decode cX5_set 44 = .ok (.aload_n 0, 1) := by decide +kernel
theorem dX5_set_45 : decode cX5_set 45 = .ok (.iload_n 1, 1) := by decide +kernel
theorem dX5_set_46 : decode cX5_set 46 = .ok (.iconst (-1), 1) := by decide +kernel
theorem dX5_set_47 : decode cX5_set 47 = .ok (.invokevirtual 91, 3) := by decide +kernel
theorem dX5_set_50 : decode cX5_set 50 = .ok (.astore 6, 2) := by decide +kernel
theorem dX5_set_52 : decode cX5_set 52 = .ok (.aload 6, 2) := by decide +kernel
theorem dX5_set_54 : decode cX5_set 54 = .ok (.iload 5, 2) := by decide +kernel
theorem dX5_set_56 : decode cX5_set 56 = .ok (.iload_n 3, 1) := by decide +kernel
theorem dX5_set_57 : decode cX5_set 57 = .ok (.invokevirtual 111, 3) := by decide +kernel
theorem dX5_set_60 : decode cX5_set 60 = .ok (.istore 7, 2) := by decide +kernel
theorem dX5_set_62 : decode cX5_set 62 = .ok (.aload 6, 2) := by decide +kernel
theorem dX5_set_64 : decode cX5_set 64 = .ok (.iload 5, 2) := by decide +kernel
theorem dX5_set_66 : decode cX5_set 66 = .ok (.iload_n 3, 1) := by decide +kernel
theorem dX5_set_67 : decode cX5_set 67 = .ok (.iload 4, 2) := by decide +kernel
theorem dX5_set_69 : decode cX5_set 69 = .ok (.invokevirtual 114, 3) := by decide +kernel
theorem dX5_set_72 : decode cX5_set 72 = .ok (.iload 7, 2) := by decide +kernel
theorem dX5_set_74 : decode cX5_set 74 = .ok (.ireturn, 1) := by decide +kernel
set_option maxRecDepth 20000 in
theorem ggX5_drop_X5_checkBranch : GoodIn wsX5_drop wsX5_checkBranch := goodIn_ca (goodIn_r _ [6, 7, 8, 9, 67, 68, 69, 70, 71, 72, 73, 74, 75, 76, 77, 78] (by decide +kernel) (by decide +kernel)) (goodIn_sub (fun _ h => List.mem_cons_of_mem _ (List.mem_append_left _ (List.mem_append_right _ h))) (by decide +kernel))
set_option maxRecDepth 20000 in
theorem gX5_drop_X5_checkBranch : GoodIn wsX5_drop (wsV RX5 66 RX5 yX5_checkBranch wsX5_checkBranch) := goodIn_app (goodIn_of _ (by decide +kernel)) ggX5_drop_X5_checkBranch
set_option maxRecDepth 20000 in
theorem ggX5_drop_X5_placeInHead : GoodIn wsX5_drop wsX5_placeInHead := goodIn_ca (goodIn_r _ [13, 7, 8, 14, 15, 16, 5, 17, 18, 1, 19, 20, 21, 22, 23, 24, 25, 26, 67, 68, 69, 70, 71, 72, 73, 74, 75, 76, 77, 78, 79, 80, 81, 82, 83, 84, 85, 86] (by decide +kernel) (by decide +kernel)) (goodIn_sub (fun _ h => List.mem_cons_of_mem _ (List.mem_append_left _ (List.mem_append_right _ h))) (by decide +kernel))
set_option maxRecDepth 20000 in
theorem gX5_drop_X5_placeInHead : GoodIn wsX5_drop (wsV RX5 99 RX5 yX5_placeInHead wsX5_placeInHead) := goodIn_app (goodIn_of _ (by decide +kernel)) ggX5_drop_X5_placeInHead
set_option maxRecDepth 20000 in
theorem ggX5_drop_X5_checkRoomForVersion : GoodIn wsX5_drop wsX5_checkRoomForVersion := goodIn_ca (goodIn_r _ [30, 31, 32, 33, 67, 68, 69, 70, 71, 72, 73, 74, 75, 76, 77, 78] (by decide +kernel) (by decide +kernel)) (goodIn_sub (fun _ h => List.mem_cons_of_mem _ (List.mem_append_right _ h)) (by decide +kernel))
set_option maxRecDepth 20000 in
theorem gX5_drop_X5_checkRoomForVersion : GoodIn wsX5_drop (wsV RX5 88 RX5 yX5_checkRoomForVersion wsX5_checkRoomForVersion) := goodIn_app (goodIn_of _ (by decide +kernel)) ggX5_drop_X5_checkRoomForVersion
set_option maxRecDepth 20000 in
theorem ggX5_drop_X5_makeVersion : GoodIn wsX5_drop wsX5_makeVersion := goodIn_r _ [37, 33, 1, 18, 38, 39, 40, 41, 19, 42, 43, 44, 23, 45, 26, 46, 47, 48, 49, 50, 25, 67, 68, 69, 70, 71, 72, 73, 74, 75, 76, 77, 78, 79, 80, 81, 82, 83, 84, 85, 86] (by decide +kernel) (by decide +kernel)
set_option maxRecDepth 20000 in
theorem gX5_drop_X5_makeVersion : GoodIn wsX5_drop (wsV RX5 91 RX5 yX5_makeVersion wsX5_makeVersion) := goodIn_app (goodIn_of _ (by decide +kernel)) ggX5_drop_X5_makeVersion
set_option maxRecDepth 20000 in
theorem ggX5_drop_X0_removeAt : GoodIn wsX5_drop wsX0_removeAt := goodIn_r _ [54, 25, 55, 56, 57, 23, 58, 26, 59, 60, 61, 62, 50, 63, 64, 65, 66, 84, 85, 86] (by decide +kernel) (by decide +kernel)
set_option maxRecDepth 20000 in
theorem gX5_drop_X0_removeAt : GoodIn wsX5_drop (wsV RX5 118 RX0 yX0_removeAt wsX0_removeAt) := goodIn_app (goodIn_of _ (by decide +kernel)) ggX5_drop_X0_removeAt
theorem dX5_drop_0 : decode cX5_drop 0 = .ok (.aload_n 0, 1) := by decide +kernel
theorem dX5_drop_1 : decode cX5_drop 1 = .ok (.iload_n 1, 1) := by decide +kernel
theorem dX5_drop_2 : decode cX5_drop 2 = .ok (.invokevirtual 66, 3) := by decide +kernel
theorem dX5_drop_5 : decode cX5_drop 5 = .ok (.aload_n 0, 1) := by decide +kernel
theorem dX5_drop_6 : decode cX5_drop 6 = .ok (.iload_n 1, 1) := by decide +kernel
theorem dX5_drop_7 : decode cX5_drop 7 = .ok (.iload_n 2, 1) := by decide +kernel
theorem dX5_drop_8 : decode cX5_drop 8 = .ok (.invokevirtual 99, 3) := by decide +kernel
theorem dX5_drop_11 : decode cX5_drop 11 = .ok (.istore_n 3, 1) := by decide +kernel
theorem dX5_drop_12 : decode cX5_drop 12 = .ok (.aload_n 0, 1) := by decide +kernel
theorem dX5_drop_13 : decode cX5_drop 13 = .ok (.invokevirtual 88, 3) := by decide +kernel
theorem dX5_drop_16 : decode cX5_drop 16 = .ok (.aload_n 0, 1) := by decide +kernel
theorem dX5_drop_17 : decode cX5_drop 17 = .ok (.iload_n 1, 1) := by decide +kernel
theorem dX5_drop_18 : decode cX5_drop 18 = .ok (.iconst (-1), 1) := by decide +kernel
theorem dX5_drop_19 : decode cX5_drop 19 = .ok (.invokevirtual 91, 3) := by decide +kernel
theorem dX5_drop_22 : decode cX5_drop 22 = .ok (.iload_n 3, 1) := by decide +kernel
theorem dX5_drop_23 : decode cX5_drop 23 = .ok (.invokevirtual 118, 3) := by decide +kernel
theorem dX5_drop_26 : decode cX5_drop 26 = .ok (.aload_n 0, 1) := by decide +kernel
theorem dX5_drop_27 : decode cX5_drop 27 = .ok (.getfield 15, 3) := by decide +kernel
theorem dX5_drop_30 : decode cX5_drop 30 = .ok (.iload_n 1, 1) := by decide +kernel
theorem dX5_drop_31 : decode cX5_drop 31 = .ok (.iaload, 1) := by decide +kernel
theorem dX5_drop_32 : decode cX5_drop 32 = .ok (.ireturn, 1) := by decide +kernel
set_option maxRecDepth 20000 in
theorem ggX5_head_X5_checkBranch : GoodIn wsX5_head wsX5_checkBranch := goodIn_ca (goodIn_r _ [6, 7, 8, 9, 10, 11, 12, 13, 14, 15, 16, 17, 18, 19, 20, 21] (by decide +kernel) (by decide +kernel)) (goodIn_sub (fun _ h => List.mem_cons_of_mem _ (List.mem_append_right _ h)) (by decide +kernel))
set_option maxRecDepth 20000 in
theorem gX5_head_X5_checkBranch : GoodIn wsX5_head (wsV RX5 66 RX5 yX5_checkBranch wsX5_checkBranch) := goodIn_app (goodIn_of _ (by decide +kernel)) ggX5_head_X5_checkBranch
theorem dX5_head_0 : decode cX5_head 0 = .ok (.aload_n 0, 1) := by decide +kernel
theorem dX5_head_1 : decode cX5_head 1 = .ok (.iload_n 1, 1) := by decide +kernel
theorem dX5_head_2 : decode cX5_head 2 = .ok (.invokevirtual 66, 3) := by decide +kernel
theorem dX5_head_5 : decode cX5_head 5 = .ok (.aload_n 0, 1) := by decide +kernel
theorem dX5_head_6 : decode cX5_head 6 = .ok (.getfield 15, 3) := by decide +kernel
theorem dX5_head_9 : decode cX5_head 9 = .ok (.iload_n 1, 1) := by decide +kernel
theorem dX5_head_10 : decode cX5_head 10 = .ok (.iaload, 1) := by decide +kernel
theorem dX5_head_11 : decode cX5_head 11 = .ok (.ireturn, 1) := by decide +kernel
set_option maxRecDepth 20000 in
theorem ggX5_about_X5_checkVersion : GoodIn wsX5_about wsX5_checkVersion := goodIn_ca (goodIn_r _ [14, 15, 16, 17, 25, 26, 27, 28, 29, 30, 31, 32, 33, 34, 35, 36] (by decide +kernel) (by decide +kernel)) (goodIn_sub (fun _ h => List.mem_cons_of_mem _ (List.mem_append_right _ h)) (by decide +kernel))
set_option maxRecDepth 20000 in
theorem gX5_about_X5_checkVersion : GoodIn wsX5_about (wsV RX5 55 RX5 yX5_checkVersion wsX5_checkVersion) := goodIn_app (goodIn_of _ (by decide +kernel)) ggX5_about_X5_checkVersion
set_option maxRecDepth 20000 in
theorem ggX5_about_J13_bitCount_95d88 : GoodIn wsX5_about wsJ13_bitCount_95d88 := goodIn_r _ [21, 22, 23, 24] (by decide +kernel) (by decide +kernel)
set_option maxRecDepth 20000 in
theorem gX5_about_J13_bitCount_95d88 : GoodIn wsX5_about (va_wsS RX5 133 yJ13_bitCount_95d88 wsJ13_bitCount_95d88) := goodIn_app (goodIn_of _ (by decide +kernel)) ggX5_about_J13_bitCount_95d88
theorem dX5_about_0 : decode cX5_about 0 = .ok (.aload_n 0, 1) := by decide +kernel
theorem dX5_about_1 : decode cX5_about 1 = .ok (.iload_n 1, 1) := by decide +kernel
theorem dX5_about_2 : decode cX5_about 2 = .ok (.invokevirtual 55, 3) := by decide +kernel
theorem dX5_about_5 : decode cX5_about 5 = .ok (.aload_n 0, 1) := by decide +kernel
theorem dX5_about_6 : decode cX5_about 6 = .ok (.getfield 11, 3) := by decide +kernel
theorem dX5_about_9 : decode cX5_about 9 = .ok (.iload_n 1, 1) := by decide +kernel
theorem dX5_about_10 : decode cX5_about 10 = .ok (.aaload, 1) := by decide +kernel
theorem dX5_about_11 : decode cX5_about 11 = .ok (.astore_n 3, 1) := by decide +kernel
theorem dX5_about_12 : decode cX5_about 12 = .ok (.iload_n 2, 1) := by decide +kernel
theorem dX5_about_13 : decode cX5_about 13 = .ok (.tableswitch 66 0 4 #[35, 40, 45, 50, 58], 35) := by decide +kernel
theorem dX5_about_48 : decode cX5_about 48 = .ok (.aload_n 3, 1) := by decide +kernel
theorem dX5_about_49 : decode cX5_about 49 = .ok (.getfield 121, 3) := by decide +kernel
theorem dX5_about_52 : decode cX5_about 52 = .ok (.ireturn, 1) := by decide +kernel
theorem dX5_about_53 : decode cX5_about 53 = .ok (.aload_n 3, 1) := by decide +kernel
theorem dX5_about_54 : decode cX5_about 54 = .ok (.getfield 124, 3) := by decide +kernel
theorem dX5_about_57 : decode cX5_about 57 = .ok (.ireturn, 1) := by decide +kernel
theorem dX5_about_58 : decode cX5_about 58 = .ok (.aload_n 3, 1) := by decide +kernel
theorem dX5_about_59 : decode cX5_about 59 = .ok (.getfield 127, 3) := by decide +kernel
theorem dX5_about_62 : decode cX5_about 62 = .ok (.ireturn, 1) := by decide +kernel
theorem dX5_about_63 : decode cX5_about 63 = .ok (.aload_n 3, 1) := by decide +kernel
theorem dX5_about_64 : decode cX5_about 64 = .ok (.getfield 130, 3) := by decide +kernel
theorem dX5_about_67 : decode cX5_about 67 = .ok (.getfield 73, 3) := by decide +kernel
theorem dX5_about_70 : decode cX5_about 70 = .ok (.ireturn, 1) := by decide +kernel
theorem dX5_about_71 : decode cX5_about 71 = .ok (.aload_n 3, 1) := by decide +kernel
theorem dX5_about_72 : decode cX5_about 72 = .ok (.getfield 44, 3) := by decide +kernel
theorem dX5_about_75 : decode cX5_about 75 = .ok (.invokestatic 133, 3) := by decide +kernel
theorem dX5_about_78 : decode cX5_about 78 = .ok (.ireturn, 1) := by decide +kernel
theorem dX5_about_79 : decode cX5_about 79 = .ok (.new 106, 3) := by decide +kernel
theorem dX5_about_82 : decode cX5_about 82 = .ok (.dup, 1) := by decide +kernel
theorem dX5_about_83 : decode cX5_about 83 = .ok (.ldc 139, 2) := by decide +kernel
theorem dX5_about_85 : decode cX5_about 85 = .ok (.invokespecial 110, 3) := by decide +kernel
theorem dX5_about_88 : decode cX5_about 88 = .ok (.athrow, 1) := by decide +kernel
set_option maxRecDepth 20000 in
theorem ggX5_value_X5_checkVersion : GoodIn wsX5_value wsX5_checkVersion := goodIn_ca (goodIn_r _ [7, 8, 9, 10, 35, 36, 37, 38, 39, 40, 41, 42, 43, 44, 45, 46] (by decide +kernel) (by decide +kernel)) (goodIn_sub (fun _ h => List.mem_cons_of_mem _ (List.mem_append_right _ h)) (by decide +kernel))
set_option maxRecDepth 20000 in
theorem gX5_value_X5_checkVersion : GoodIn wsX5_value (wsV RX5 55 RX5 yX5_checkVersion wsX5_checkVersion) := goodIn_app (goodIn_of _ (by decide +kernel)) ggX5_value_X5_checkVersion
set_option maxRecDepth 20000 in
theorem ggX5_value_X5_checkSlide : GoodIn wsX5_value wsX5_checkSlide := goodIn_ca (goodIn_r _ [14, 8, 9, 15, 35, 36, 37, 38, 39, 40, 41, 42, 43, 44, 45, 46] (by decide +kernel) (by decide +kernel)) (goodIn_sub (fun _ h => List.mem_cons_of_mem _ (List.mem_append_right _ h)) (by decide +kernel))
set_option maxRecDepth 20000 in
theorem gX5_value_X5_checkSlide : GoodIn wsX5_value (wsV RX5 141 RX5 yX5_checkSlide wsX5_checkSlide) := goodIn_app (goodIn_of _ (by decide +kernel)) ggX5_value_X5_checkSlide
set_option maxRecDepth 20000 in
theorem ggX5_value_X5_checkObject : GoodIn wsX5_value wsX5_checkObject := goodIn_ca (goodIn_r _ [18, 8, 9] (by decide +kernel) (by decide +kernel)) (goodIn_sub (fun _ h => List.mem_cons_of_mem _ (List.mem_append_right _ h)) (by decide +kernel))
set_option maxRecDepth 20000 in
theorem gX5_value_X5_checkObject : GoodIn wsX5_value (va_wsS RX5 103 yX5_checkObject wsX5_checkObject) := goodIn_app (goodIn_of _ (by decide +kernel)) ggX5_value_X5_checkObject
set_option maxRecDepth 20000 in
theorem ggX5_value_X0_valueOf : GoodIn wsX5_value wsX0_valueOf := goodIn_r _ [23, 24, 25, 26, 22, 27, 28, 29, 30, 31, 32, 33, 34, 52, 53, 54] (by decide +kernel) (by decide +kernel)
set_option maxRecDepth 20000 in
theorem gX5_value_X0_valueOf : GoodIn wsX5_value (wsV RX5 144 RX0 yX0_valueOf wsX0_valueOf) := goodIn_app (goodIn_of _ (by decide +kernel)) ggX5_value_X0_valueOf
theorem dX5_value_0 : decode cX5_value 0 = .ok (.aload_n 0, 1) := by decide +kernel
theorem dX5_value_1 : decode cX5_value 1 = .ok (.iload_n 1, 1) := by decide +kernel
theorem dX5_value_2 : decode cX5_value 2 = .ok (.invokevirtual 55, 3) := by decide +kernel
theorem dX5_value_5 : decode cX5_value 5 = .ok (.aload_n 0, 1) := by decide +kernel
theorem dX5_value_6 : decode cX5_value 6 = .ok (.iload_n 2, 1) := by decide +kernel
theorem dX5_value_7 : decode cX5_value 7 = .ok (.invokevirtual 141, 3) := by decide +kernel
theorem dX5_value_10 : decode cX5_value 10 = .ok (.iload_n 3, 1) := by decide +kernel
theorem dX5_value_11 : decode cX5_value 11 = .ok (.invokestatic 103, 3) := by decide +kernel
theorem dX5_value_14 : decode cX5_value 14 = .ok (.aload_n 0, 1) := by decide +kernel
theorem dX5_value_15 : decode cX5_value 15 = .ok (.getfield 11, 3) := by decide +kernel
theorem dX5_value_18 : decode cX5_value 18 = .ok (.iload_n 1, 1) := by decide +kernel
theorem dX5_value_19 : decode cX5_value 19 = .ok (.aaload, 1) := by decide +kernel
theorem dX5_value_20 : decode cX5_value 20 = .ok (.getfield 130, 3) := by decide +kernel
theorem dX5_value_23 : decode cX5_value 23 = .ok (.iload_n 2, 1) := by decide +kernel
theorem dX5_value_24 : decode cX5_value 24 = .ok (.iload_n 3, 1) := by decide +kernel
theorem dX5_value_25 : decode cX5_value 25 = .ok (.invokevirtual 144, 3) := by decide +kernel
theorem dX5_value_28 : decode cX5_value 28 = .ok (.ireturn, 1) := by decide +kernel
set_option maxRecDepth 20000 in
theorem ggX5_slideAt_X5_checkVersion : GoodIn wsX5_slideAt wsX5_checkVersion := goodIn_ca (goodIn_r _ [11, 1, 2, 12, 13, 14, 15, 16, 17, 18, 19, 20, 21, 22, 23, 24] (by decide +kernel) (by decide +kernel)) (goodIn_sub (fun _ h => List.mem_cons_of_mem _ (List.mem_append_right _ h)) (by decide +kernel))
set_option maxRecDepth 20000 in
theorem gX5_slideAt_X5_checkVersion : GoodIn wsX5_slideAt (wsV RX5 55 RX5 yX5_checkVersion wsX5_checkVersion) := goodIn_app (goodIn_of _ (by decide +kernel)) ggX5_slideAt_X5_checkVersion
theorem dX5_slideAt_0 : decode cX5_slideAt 0 = .ok (.aload_n 0, 1) := by decide +kernel
theorem dX5_slideAt_1 : decode cX5_slideAt 1 = .ok (.iload_n 1, 1) := by decide +kernel
theorem dX5_slideAt_2 : decode cX5_slideAt 2 = .ok (.invokevirtual 55, 3) := by decide +kernel
theorem dX5_slideAt_5 : decode cX5_slideAt 5 = .ok (.iload_n 2, 1) := by decide +kernel
theorem dX5_slideAt_6 : decode cX5_slideAt 6 = .ok (.ifCond .ge 13, 3) := by decide +kernel
theorem dX5_slideAt_9 : decode cX5_slideAt 9 = .ok (.new 76, 3) := by decide +kernel
theorem dX5_slideAt_12 : decode cX5_slideAt 12 = .ok (.dup, 1) := by decide +kernel
theorem dX5_slideAt_13 : decode cX5_slideAt 13 = .ok (.ldc 147, 2) := by decide +kernel
theorem dX5_slideAt_15 : decode cX5_slideAt 15 = .ok (.invokespecial 80, 3) := by decide +kernel
theorem dX5_slideAt_18 : decode cX5_slideAt 18 = .ok (.athrow, 1) := by decide +kernel
theorem dX5_slideAt_19 : decode cX5_slideAt 19 = .ok (.aload_n 0, 1) := by decide +kernel
theorem dX5_slideAt_20 : decode cX5_slideAt 20 = .ok (.getfield 11, 3) := by decide +kernel
theorem dX5_slideAt_23 : decode cX5_slideAt 23 = .ok (.iload_n 1, 1) := by decide +kernel
theorem dX5_slideAt_24 : decode cX5_slideAt 24 = .ok (.aaload, 1) := by decide +kernel
theorem dX5_slideAt_25 : decode cX5_slideAt 25 = .ok (.getfield 130, 3) := by decide +kernel
theorem dX5_slideAt_28 : decode cX5_slideAt 28 = .ok (.astore_n 3, 1) := by decide +kernel
theorem dX5_slideAt_29 : decode cX5_slideAt 29 = .ok (.iload_n 2, 1) := by decide +kernel
theorem dX5_slideAt_30 : decode cX5_slideAt 30 = .ok (.aload_n 3, 1) := by decide +kernel
theorem dX5_slideAt_31 : decode cX5_slideAt 31 = .ok (.getfield 73, 3) := by decide +kernel
theorem dX5_slideAt_34 : decode cX5_slideAt 34 = .ok (.if_icmp .ge 12, 3) := by decide +kernel
theorem dX5_slideAt_37 : decode cX5_slideAt 37 = .ok (.aload_n 3, 1) := by decide +kernel
theorem dX5_slideAt_38 : decode cX5_slideAt 38 = .ok (.getfield 149, 3) := by decide +kernel
theorem dX5_slideAt_41 : decode cX5_slideAt 41 = .ok (.iload_n 2, 1) := by decide +kernel
theorem dX5_slideAt_42 : decode cX5_slideAt 42 = .ok (.iaload, 1) := by decide +kernel
theorem dX5_slideAt_43 : decode cX5_slideAt 43 = .ok (.goto 4, 3) := by decide +kernel
theorem dX5_slideAt_46 : decode cX5_slideAt 46 = .ok (.iconst (-1), 1) := by decide +kernel
theorem dX5_slideAt_47 : decode cX5_slideAt 47 = .ok (.ireturn, 1) := by decide +kernel
set_option maxRecDepth 20000 in
theorem ggX5_base_X5_checkBranch : GoodIn wsX5_base wsX5_checkBranch := goodIn_ca (goodIn_r _ [5, 6, 7, 8, 22, 23, 24, 25, 26, 27, 28, 29, 30, 31, 32, 33] (by decide +kernel) (by decide +kernel)) (goodIn_sub (fun _ h => List.mem_cons_of_mem _ (List.mem_append_left _ (List.mem_append_right _ h))) (by decide +kernel))
set_option maxRecDepth 20000 in
theorem gX5_base_X5_checkBranch : GoodIn wsX5_base (wsV RX5 66 RX5 yX5_checkBranch wsX5_checkBranch) := goodIn_app (goodIn_of _ (by decide +kernel)) ggX5_base_X5_checkBranch
set_option maxRecDepth 20000 in
theorem ggX5_base_X5_checkDifferent : GoodIn wsX5_base wsX5_checkDifferent := goodIn_ca (goodIn_r _ [11, 12, 13] (by decide +kernel) (by decide +kernel)) (goodIn_sub (fun _ h => List.mem_cons_of_mem _ (List.mem_append_right _ h)) (by decide +kernel))
set_option maxRecDepth 20000 in
theorem gX5_base_X5_checkDifferent : GoodIn wsX5_base (va_wsS RX5 152 yX5_checkDifferent wsX5_checkDifferent) := goodIn_app (goodIn_of _ (by decide +kernel)) ggX5_base_X5_checkDifferent
set_option maxRecDepth 20000 in
theorem ggX5_base_X5_baseOf : GoodIn wsX5_base wsX5_baseOf := goodIn_r _ [17, 18, 19, 20, 21, 22, 23, 24, 25, 26, 27, 28, 29, 30, 31, 32, 33, 34, 35, 36, 37, 38] (by decide +kernel) (by decide +kernel)
set_option maxRecDepth 20000 in
theorem gX5_base_X5_baseOf : GoodIn wsX5_base (wsV RX5 155 RX5 yX5_baseOf wsX5_baseOf) := goodIn_app (goodIn_of _ (by decide +kernel)) ggX5_base_X5_baseOf
theorem dX5_base_0 : decode cX5_base 0 = .ok (.aload_n 0, 1) := by decide +kernel
theorem dX5_base_1 : decode cX5_base 1 = .ok (.iload_n 1, 1) := by decide +kernel
theorem dX5_base_2 : decode cX5_base 2 = .ok (.invokevirtual 66, 3) := by decide +kernel
theorem dX5_base_5 : decode cX5_base 5 = .ok (.aload_n 0, 1) := by decide +kernel
theorem dX5_base_6 : decode cX5_base 6 = .ok (.iload_n 2, 1) := by decide +kernel
theorem dX5_base_7 : decode cX5_base 7 = .ok (.invokevirtual 66, 3) := by decide +kernel
theorem dX5_base_10 : decode cX5_base 10 = .ok (.iload_n 1, 1) := by decide +kernel
theorem dX5_base_11 : decode cX5_base 11 = .ok (.iload_n 2, 1) := by decide +kernel
theorem dX5_base_12 : decode cX5_base 12 = .ok (.invokestatic 152, 3) := by decide +kernel
theorem dX5_base_15 : decode cX5_base 15 = .ok (.aload_n 0, 1) := by decide +kernel
theorem dX5_base_16 : decode cX5_base 16 = .ok (.iload_n 1, 1) := by decide +kernel
theorem dX5_base_17 : decode cX5_base 17 = .ok (.iload_n 2, 1) := by decide +kernel
theorem dX5_base_18 : decode cX5_base 18 = .ok (.invokevirtual 155, 3) := by decide +kernel
theorem dX5_base_21 : decode cX5_base 21 = .ok (.ireturn, 1) := by decide +kernel
set_option maxRecDepth 20000 in
theorem ggX5_clashes_X5_checkBranch : GoodIn wsX5_clashes wsX5_checkBranch := goodIn_ca (goodIn_r _ [6, 7, 8, 9, 80, 81, 82, 83, 84, 85, 86, 87, 88, 89, 90, 91] (by decide +kernel) (by decide +kernel)) (goodIn_sub (fun _ h => List.mem_cons_of_mem _ (List.mem_append_left _ (List.mem_append_right _ h))) (by decide +kernel))
set_option maxRecDepth 20000 in
theorem gX5_clashes_X5_checkBranch : GoodIn wsX5_clashes (wsV RX5 66 RX5 yX5_checkBranch wsX5_checkBranch) := goodIn_app (goodIn_of _ (by decide +kernel)) ggX5_clashes_X5_checkBranch
set_option maxRecDepth 20000 in
theorem ggX5_clashes_X5_checkDifferent : GoodIn wsX5_clashes wsX5_checkDifferent := goodIn_ca (goodIn_r _ [12, 13, 14] (by decide +kernel) (by decide +kernel)) (goodIn_sub (fun _ h => List.mem_cons_of_mem _ (List.mem_append_right _ h)) (by decide +kernel))
set_option maxRecDepth 20000 in
theorem gX5_clashes_X5_checkDifferent : GoodIn wsX5_clashes (va_wsS RX5 152 yX5_checkDifferent wsX5_checkDifferent) := goodIn_app (goodIn_of _ (by decide +kernel)) ggX5_clashes_X5_checkDifferent
set_option maxRecDepth 20000 in
theorem ggX5_clashes_X5_mergeOf : GoodIn wsX5_clashes wsX5_mergeOf := goodIn_r _ [18, 19, 20, 21, 22, 23, 24, 25, 26, 5, 27, 28, 29, 30, 31, 32, 33, 34, 35, 36, 37, 38, 39, 40, 41, 42, 43, 92, 93, 94, 80, 81, 82, 83, 84, 85, 86, 87, 88, 89, 90, 91, 95, 96, 97, 98, 99] (by decide +kernel) (by decide +kernel)
set_option maxRecDepth 20000 in
theorem gX5_clashes_X5_mergeOf : GoodIn wsX5_clashes (wsV RX5 158 RX5 yX5_mergeOf wsX5_mergeOf) := goodIn_app (goodIn_of _ (by decide +kernel)) ggX5_clashes_X5_mergeOf
set_option maxRecDepth 20000 in
theorem ggX5_clashes_X1_countClashes : GoodIn wsX5_clashes wsX1_countClashes := goodIn_r _ [47, 48, 49, 50, 21, 51, 42, 43, 41, 52, 53, 54, 55, 56, 57, 58, 59, 60, 61, 62, 63, 64, 65, 66, 67, 68, 69, 70, 71, 72, 73, 74, 75, 76, 77, 78, 79, 92, 93, 94, 100, 101, 102] (by decide +kernel) (by decide +kernel)
set_option maxRecDepth 20000 in
theorem gX5_clashes_X1_countClashes : GoodIn wsX5_clashes (wsV RX5 162 RX1 yX1_countClashes wsX1_countClashes) := goodIn_app (goodIn_of _ (by decide +kernel)) ggX5_clashes_X1_countClashes
theorem dX5_clashes_0 : decode cX5_clashes 0 = .ok (.aload_n 0, 1) := by decide +kernel
theorem dX5_clashes_1 : decode cX5_clashes 1 = .ok (.iload_n 1, 1) := by decide +kernel
theorem dX5_clashes_2 : decode cX5_clashes 2 = .ok (.invokevirtual 66, 3) := by decide +kernel
theorem dX5_clashes_5 : decode cX5_clashes 5 = .ok (.aload_n 0, 1) := by decide +kernel
theorem dX5_clashes_6 : decode cX5_clashes 6 = .ok (.iload_n 2, 1) := by decide +kernel
theorem dX5_clashes_7 : decode cX5_clashes 7 = .ok (.invokevirtual 66, 3) := by decide +kernel
theorem dX5_clashes_10 : decode cX5_clashes 10 = .ok (.iload_n 1, 1) := by decide +kernel
theorem dX5_clashes_11 : decode cX5_clashes 11 = .ok (.iload_n 2, 1) := by decide +kernel
theorem dX5_clashes_12 : decode cX5_clashes 12 = .ok (.invokestatic 152, 3) := by decide +kernel
theorem dX5_clashes_15 : decode cX5_clashes 15 = .ok (.aload_n 0, 1) := by decide +kernel
theorem dX5_clashes_16 : decode cX5_clashes 16 = .ok (.iload_n 1, 1) := by decide +kernel
theorem dX5_clashes_17 : decode cX5_clashes 17 = .ok (.iload_n 2, 1) := by decide +kernel
theorem dX5_clashes_18 : decode cX5_clashes 18 = .ok (.invokevirtual 158, 3) := by decide +kernel
theorem dX5_clashes_21 : decode cX5_clashes 21 = .ok (.aload_n 0, 1) := by decide +kernel
theorem dX5_clashes_22 : decode cX5_clashes 22 = .ok (.getfield 83, 3) := by decide +kernel
theorem dX5_clashes_25 : decode cX5_clashes 25 = .ok (.invokevirtual 162, 3) := by decide +kernel
theorem dX5_clashes_28 : decode cX5_clashes 28 = .ok (.ireturn, 1) := by decide +kernel
set_option maxRecDepth 20000 in
theorem ggX5_merged_X5_checkBranch : GoodIn wsX5_merged wsX5_checkBranch := goodIn_ca (goodIn_r _ [7, 8, 9, 10, 95, 96, 97, 98, 99, 100, 101, 102, 103, 104, 105, 106] (by decide +kernel) (by decide +kernel)) (goodIn_sub (fun _ h => List.mem_cons_of_mem _ (List.mem_append_right _ h)) (by decide +kernel))
set_option maxRecDepth 20000 in
theorem gX5_merged_X5_checkBranch : GoodIn wsX5_merged (wsV RX5 66 RX5 yX5_checkBranch wsX5_checkBranch) := goodIn_app (goodIn_of _ (by decide +kernel)) ggX5_merged_X5_checkBranch
set_option maxRecDepth 20000 in
theorem ggX5_merged_X5_checkSlide : GoodIn wsX5_merged wsX5_checkSlide := goodIn_ca (goodIn_r _ [14, 8, 9, 15, 95, 96, 97, 98, 99, 100, 101, 102, 103, 104, 105, 106] (by decide +kernel) (by decide +kernel)) (goodIn_sub (fun _ h => List.mem_cons_of_mem _ (List.mem_append_right _ h)) (by decide +kernel))
set_option maxRecDepth 20000 in
theorem gX5_merged_X5_checkSlide : GoodIn wsX5_merged (wsV RX5 141 RX5 yX5_checkSlide wsX5_checkSlide) := goodIn_app (goodIn_of _ (by decide +kernel)) ggX5_merged_X5_checkSlide
set_option maxRecDepth 20000 in
theorem ggX5_merged_X5_checkObject : GoodIn wsX5_merged wsX5_checkObject := goodIn_ca (goodIn_r _ [18, 8, 9] (by decide +kernel) (by decide +kernel)) (goodIn_sub (fun _ h => List.mem_cons_of_mem _ (List.mem_append_right _ h)) (by decide +kernel))
set_option maxRecDepth 20000 in
theorem gX5_merged_X5_checkObject : GoodIn wsX5_merged (va_wsS RX5 103 yX5_checkObject wsX5_checkObject) := goodIn_app (goodIn_of _ (by decide +kernel)) ggX5_merged_X5_checkObject
set_option maxRecDepth 20000 in
theorem ggX5_merged_X5_checkDifferent : GoodIn wsX5_merged wsX5_checkDifferent := goodIn_ca (goodIn_r _ [21, 1, 2] (by decide +kernel) (by decide +kernel)) (goodIn_sub (fun _ h => List.mem_cons_of_mem _ (List.mem_append_left _ (List.mem_append_right _ h))) (by decide +kernel))
set_option maxRecDepth 20000 in
theorem gX5_merged_X5_checkDifferent : GoodIn wsX5_merged (va_wsS RX5 152 yX5_checkDifferent wsX5_checkDifferent) := goodIn_app (goodIn_of _ (by decide +kernel)) ggX5_merged_X5_checkDifferent
set_option maxRecDepth 20000 in
theorem ggX5_merged_X5_mergeOf : GoodIn wsX5_merged wsX5_mergeOf := goodIn_r _ [25, 26, 27, 28, 29, 30, 31, 32, 33, 6, 34, 35, 36, 37, 38, 39, 40, 41, 42, 43, 44, 45, 46, 47, 48, 49, 50, 107, 108, 109, 95, 96, 97, 98, 99, 100, 101, 102, 103, 104, 105, 106, 110, 111, 112, 113, 114] (by decide +kernel) (by decide +kernel)
set_option maxRecDepth 20000 in
theorem gX5_merged_X5_mergeOf : GoodIn wsX5_merged (wsV RX5 158 RX5 yX5_mergeOf wsX5_mergeOf) := goodIn_app (goodIn_of _ (by decide +kernel)) ggX5_merged_X5_mergeOf
set_option maxRecDepth 20000 in
theorem ggX5_merged_X1_resultOf : GoodIn wsX5_merged wsX1_resultOf := goodIn_r _ [54, 55, 56, 57, 28, 58, 49, 50, 48, 59, 60, 61, 62, 63, 64, 65, 66, 67, 68, 69, 70, 71, 72, 73, 74, 75, 76, 77, 78, 79, 80, 81, 82, 83, 84, 85, 86, 87, 88, 89, 90, 91, 92, 93, 94, 107, 108, 109, 115, 116, 117] (by decide +kernel) (by decide +kernel)
set_option maxRecDepth 20000 in
theorem gX5_merged_X1_resultOf : GoodIn wsX5_merged (wsV RX5 170 RX1 yX1_resultOf wsX1_resultOf) := goodIn_app (goodIn_of _ (by decide +kernel)) ggX5_merged_X1_resultOf
theorem dX5_merged_0 : decode cX5_merged 0 = .ok (.aload_n 0, 1) := by decide +kernel
theorem dX5_merged_1 : decode cX5_merged 1 = .ok (.iload_n 1, 1) := by decide +kernel
theorem dX5_merged_2 : decode cX5_merged 2 = .ok (.invokevirtual 66, 3) := by decide +kernel
theorem dX5_merged_5 : decode cX5_merged 5 = .ok (.aload_n 0, 1) := by decide +kernel
theorem dX5_merged_6 : decode cX5_merged 6 = .ok (.iload_n 2, 1) := by decide +kernel
theorem dX5_merged_7 : decode cX5_merged 7 = .ok (.invokevirtual 66, 3) := by decide +kernel
theorem dX5_merged_10 : decode cX5_merged 10 = .ok (.aload_n 0, 1) := by decide +kernel
theorem dX5_merged_11 : decode cX5_merged 11 = .ok (.iload_n 3, 1) := by decide +kernel
theorem dX5_merged_12 : decode cX5_merged 12 = .ok (.invokevirtual 141, 3) := by decide +kernel
theorem dX5_merged_15 : decode cX5_merged 15 = .ok (.iload 4, 2) := by decide +kernel
theorem dX5_merged_17 : decode cX5_merged 17 = .ok (.invokestatic 103, 3) := by decide +kernel
theorem dX5_merged_20 : decode cX5_merged 20 = .ok (.iload_n 1, 1) := by decide +kernel
theorem dX5_merged_21 : decode cX5_merged 21 = .ok (.iload_n 2, 1) := by decide +kernel
theorem dX5_merged_22 : decode cX5_merged 22 = .ok (.invokestatic 152, 3) := by decide +kernel
theorem dX5_merged_25 : decode cX5_merged 25 = .ok (.iload 5, 2) := by decide +kernel
theorem dX5_merged_27 : decode cX5_merged 27 = .ok (.ifCond .eq 19, 3) := by decide +kernel
theorem dX5_merged_30 : decode cX5_merged 30 = .ok (.iload 5, 2) := by decide +kernel
theorem dX5_merged_32 : decode cX5_merged 32 = .ok (.iconst 1, 1) := by decide +kernel
theorem dX5_merged_33 : decode cX5_merged 33 = .ok (.if_icmp .eq 13, 3) := by decide +kernel
theorem dX5_merged_36 : decode cX5_merged 36 = .ok (.new 106, 3) := by decide +kernel
theorem dX5_merged_39 : decode cX5_merged 39 = .ok (.dup, 1) := by decide +kernel
theorem dX5_merged_40 : decode cX5_merged 40 = .ok (.ldc 168, 2) := by decide +kernel
theorem dX5_merged_42 : decode cX5_merged 42 = .ok (.invokespecial 110, 3) := by decide +kernel
theorem dX5_merged_45 : decode cX5_merged 45 = .ok (.athrow, 1) := by decide +kernel
theorem dX5_merged_46 : decode cX5_merged 46 = .ok (.aload_n 0, 1) := by decide +kernel
theorem dX5_merged_47 : decode cX5_merged 47 = .ok (.iload_n 1, 1) := by decide +kernel
theorem dX5_merged_48 : decode cX5_merged 48 = .ok (.iload_n 2, 1) := by decide +kernel
theorem dX5_merged_49 : decode cX5_merged 49 = .ok (.invokevirtual 158, 3) := by decide +kernel
theorem dX5_merged_52 : decode cX5_merged 52 = .ok (.iload_n 3, 1) := by decide +kernel
theorem dX5_merged_53 : decode cX5_merged 53 = .ok (.iload 4, 2) := by decide +kernel
theorem dX5_merged_55 : decode cX5_merged 55 = .ok (.iload 5, 2) := by decide +kernel
theorem dX5_merged_57 : decode cX5_merged 57 = .ok (.invokevirtual 170, 3) := by decide +kernel
theorem dX5_merged_60 : decode cX5_merged 60 = .ok (.ireturn, 1) := by decide +kernel
set_option maxRecDepth 20000 in
theorem ggX5_merge_X5_checkBranch : GoodIn wsX5_merge wsX5_checkBranch := goodIn_ca (goodIn_r _ [12, 13, 14, 15, 173, 174, 175, 176, 177, 178, 179, 180, 181, 182, 183, 184] (by decide +kernel) (by decide +kernel)) (goodIn_sub (fun _ h => List.mem_cons_of_mem _ (List.mem_append_right _ h)) (by decide +kernel))
set_option maxRecDepth 20000 in
theorem gX5_merge_X5_checkBranch : GoodIn wsX5_merge (wsV RX5 66 RX5 yX5_checkBranch wsX5_checkBranch) := goodIn_app (goodIn_of _ (by decide +kernel)) ggX5_merge_X5_checkBranch
set_option maxRecDepth 20000 in
theorem ggX5_merge_X5_checkDifferent : GoodIn wsX5_merge wsX5_checkDifferent := goodIn_ca (goodIn_r _ [18, 1, 2] (by decide +kernel) (by decide +kernel)) (goodIn_sub (fun _ h => List.mem_cons_of_mem _ (List.mem_append_left _ (List.mem_append_left _ (List.mem_append_right _ h)))) (by decide +kernel))
set_option maxRecDepth 20000 in
theorem gX5_merge_X5_checkDifferent : GoodIn wsX5_merge (va_wsS RX5 152 yX5_checkDifferent wsX5_checkDifferent) := goodIn_app (goodIn_of _ (by decide +kernel)) ggX5_merge_X5_checkDifferent
set_option maxRecDepth 20000 in
theorem ggX5_merge_X5_mergeOf : GoodIn wsX5_merge wsX5_mergeOf := goodIn_r _ [22, 23, 24, 25, 26, 27, 28, 29, 30, 11, 31, 7, 32, 33, 34, 35, 36, 37, 38, 39, 40, 41, 42, 43, 44, 45, 46, 185, 186, 187, 173, 174, 175, 176, 177, 178, 179, 180, 181, 182, 183, 184, 188, 189, 190, 191, 192] (by decide +kernel) (by decide +kernel)
set_option maxRecDepth 20000 in
theorem gX5_merge_X5_mergeOf : GoodIn wsX5_merge (wsV RX5 158 RX5 yX5_mergeOf wsX5_mergeOf) := goodIn_app (goodIn_of _ (by decide +kernel)) ggX5_merge_X5_mergeOf
set_option maxRecDepth 20000 in
theorem ggX5_merge_X1_countClashes : GoodIn wsX5_merge wsX1_countClashes := goodIn_r _ [50, 51, 52, 53, 25, 54, 45, 46, 44, 55, 56, 57, 58, 59, 60, 61, 62, 63, 64, 65, 66, 67, 68, 69, 70, 71, 72, 73, 74, 75, 76, 77, 78, 79, 80, 81, 82, 185, 186, 187, 193, 194, 195] (by decide +kernel) (by decide +kernel)
set_option maxRecDepth 20000 in
theorem gX5_merge_X1_countClashes : GoodIn wsX5_merge (wsV RX5 162 RX1 yX1_countClashes wsX1_countClashes) := goodIn_app (goodIn_of _ (by decide +kernel)) ggX5_merge_X1_countClashes
set_option maxRecDepth 20000 in
theorem ggX5_merge_X1_countSlides : GoodIn wsX5_merge wsX1_countSlides := goodIn_r _ [86, 87, 88, 89, 25, 90, 45, 46, 44, 55, 56, 57, 58, 59, 60, 61, 62, 63, 64, 65, 51, 52, 53, 54, 66, 67, 68, 69, 70, 71, 72, 73, 74, 185, 186, 187, 193, 194, 195] (by decide +kernel) (by decide +kernel)
set_option maxRecDepth 20000 in
theorem gX5_merge_X1_countSlides : GoodIn wsX5_merge (wsV RX5 176 RX1 yX1_countSlides wsX1_countSlides) := goodIn_app (goodIn_of _ (by decide +kernel)) ggX5_merge_X1_countSlides
set_option maxRecDepth 20000 in
theorem ggX5_merge_X1_fill : GoodIn wsX5_merge wsX1_fill := goodIn_r _ [94, 95, 45, 96, 46, 87, 88, 89, 25, 90, 44, 55, 56, 57, 58, 59, 60, 61, 62, 63, 64, 65, 51, 52, 53, 54, 66, 67, 68, 69, 70, 71, 72, 73, 74, 97, 98, 99, 100, 101, 102, 103, 104, 105, 106, 107, 108, 109, 110, 111, 112, 113, 114, 115, 116, 79, 80, 81, 82, 75, 76, 77, 78, 117, 193, 194, 195, 185, 186, 187] (by decide +kernel) (by decide +kernel)
set_option maxRecDepth 20000 in
theorem gX5_merge_X1_fill : GoodIn wsX5_merge (wsV RX5 181 RX1 yX1_fill wsX1_fill) := goodIn_app (goodIn_of _ (by decide +kernel)) ggX5_merge_X1_fill
set_option maxRecDepth 20000 in
theorem ggX5_merge_X5_countBlocks : GoodIn wsX5_merge wsX5_countBlocks := goodIn_r _ [121, 122, 123, 124, 125, 11, 126, 127, 128, 129, 130, 131, 132, 133, 134, 135, 136, 137, 138, 71, 72, 58, 73, 74, 139, 140, 141, 142, 143, 144, 145, 146, 147, 148, 149, 150, 151, 152, 153, 193, 194, 195, 173, 174, 175, 176, 177, 178, 179, 180, 181, 182, 183, 184, 196, 197, 198, 199, 200, 201, 202] (by decide +kernel) (by decide +kernel)
set_option maxRecDepth 20000 in
theorem gX5_merge_X5_countBlocks : GoodIn wsX5_merge (wsV RX5 185 RX5 yX5_countBlocks wsX5_countBlocks) := goodIn_app (goodIn_of _ (by decide +kernel)) ggX5_merge_X5_countBlocks
set_option maxRecDepth 20000 in
theorem ggX5_merge_X5_checkRoomForVersion : GoodIn wsX5_merge wsX5_checkRoomForVersion := goodIn_ca (goodIn_r _ [157, 3, 4, 33, 173, 174, 175, 176, 177, 178, 179, 180, 181, 182, 183, 184] (by decide +kernel) (by decide +kernel)) (goodIn_sub (fun _ h => List.mem_cons_of_mem _ (List.mem_append_left _ (List.mem_append_right _ h))) (by decide +kernel))
set_option maxRecDepth 20000 in
theorem gX5_merge_X5_checkRoomForVersion : GoodIn wsX5_merge (wsV RX5 88 RX5 yX5_checkRoomForVersion wsX5_checkRoomForVersion) := goodIn_app (goodIn_of _ (by decide +kernel)) ggX5_merge_X5_checkRoomForVersion
set_option maxRecDepth 20000 in
theorem ggX5_merge_X5_makeVersion : GoodIn wsX5_merge wsX5_makeVersion := goodIn_r _ [161, 33, 7, 26, 162, 163, 164, 32, 27, 165, 166, 167, 58, 168, 65, 169, 170, 171, 172, 74, 64, 173, 174, 175, 176, 177, 178, 179, 180, 181, 182, 183, 184, 188, 189, 190, 191, 192, 193, 194, 195] (by decide +kernel) (by decide +kernel)
set_option maxRecDepth 20000 in
theorem gX5_merge_X5_makeVersion : GoodIn wsX5_merge (wsV RX5 91 RX5 yX5_makeVersion wsX5_makeVersion) := goodIn_app (goodIn_of _ (by decide +kernel)) ggX5_merge_X5_makeVersion
set_option maxRecDepth 20000 in
theorem ggX5_merge_X0_copyFrom : GoodIn wsX5_merge wsX0_copyFrom := goodIn_r _ [168, 65, 169, 170, 171, 172, 74, 64, 193, 194, 195] (by decide +kernel) (by decide +kernel)
set_option maxRecDepth 20000 in
theorem gX5_merge_X0_copyFrom : GoodIn wsX5_merge (wsV RX5 191 RX0 yX0_copyFrom wsX0_copyFrom) := goodIn_app (goodIn_of _ (by decide +kernel)) ggX5_merge_X0_copyFrom
theorem dX5_merge_0 : decode cX5_merge 0 = .ok (.aload_n 0, 1) := by decide +kernel
theorem dX5_merge_1 : decode cX5_merge 1 = .ok (.iload_n 1, 1) := by decide +kernel
theorem dX5_merge_2 : decode cX5_merge 2 = .ok (.invokevirtual 66, 3) := by decide +kernel
theorem dX5_merge_5 : decode cX5_merge 5 = .ok (.aload_n 0, 1) := by decide +kernel
theorem dX5_merge_6 : decode cX5_merge 6 = .ok (.iload_n 2, 1) := by decide +kernel
theorem dX5_merge_7 : decode cX5_merge 7 = .ok (.invokevirtual 66, 3) := by decide +kernel
theorem dX5_merge_10 : decode cX5_merge 10 = .ok (.iload_n 1, 1) := by decide +kernel
theorem dX5_merge_11 : decode cX5_merge 11 = .ok (.iload_n 2, 1) := by decide +kernel
theorem dX5_merge_12 : decode cX5_merge 12 = .ok (.invokestatic 152, 3) := by decide +kernel
theorem dX5_merge_15 : decode cX5_merge 15 = .ok (.iload_n 3, 1) := by decide +kernel
theorem dX5_merge_16 : decode cX5_merge 16 = .ok (.ifCond .eq 23, 3) := by decide +kernel
theorem dX5_merge_19 : decode cX5_merge 19 = .ok (.iload_n 3, 1) := by decide +kernel
theorem dX5_merge_20 : decode cX5_merge 20 = .ok (.iconst 1, 1) := by decide +kernel
theorem dX5_merge_21 : decode cX5_merge 21 = .ok (.if_icmp .eq 18, 3) := by decide +kernel
theorem dX5_merge_24 : decode cX5_merge 24 = .ok (.iload_n 3, 1) := by decide +kernel
theorem dX5_merge_25 : decode cX5_merge 25 = .ok (.iconst (-1), 1) := by decide +kernel
theorem dX5_merge_26 : decode cX5_merge 26 = .ok (.if_icmp .eq 13, 3) := by decide +kernel
theorem dX5_merge_29 : decode cX5_merge 29 = .ok (.new 106, 3) := by decide +kernel
theorem dX5_merge_32 : decode cX5_merge 32 = .ok (.dup, 1) := by decide +kernel
theorem dX5_merge_33 : decode cX5_merge 33 = .ok (.ldc 168, 2) := by decide +kernel
theorem dX5_merge_35 : decode cX5_merge 35 = .ok (.invokespecial 110, 3) := by decide +kernel
theorem dX5_merge_38 : decode cX5_merge 38 = .ok (.athrow, 1) := by decide +kernel
theorem dX5_merge_39 : decode cX5_merge 39 = .ok (.aload_n 0, 1) := by decide +kernel
theorem dX5_merge_40 : decode cX5_merge 40 = .ok (.iload_n 1, 1) := by decide +kernel
theorem dX5_merge_41 : decode cX5_merge 41 = .ok (.iload_n 2, 1) := by decide +kernel
theorem dX5_merge_42 : decode cX5_merge 42 = .ok (.invokevirtual 158, 3) := by decide +kernel
theorem dX5_merge_45 : decode cX5_merge 45 = .ok (.astore 4, 2) := by decide +kernel
theorem dX5_merge_47 : decode cX5_merge 47 = .ok (.iload_n 3, 1) := by decide +kernel
theorem dX5_merge_48 : decode cX5_merge 48 = .ok (.iconst (-1), 1) := by decide +kernel
theorem dX5_merge_49 : decode cX5_merge 49 = .ok (.if_icmp .ne 25, 3) := by decide +kernel
theorem dX5_merge_52 : decode cX5_merge 52 = .ok (.aload 4, 2) := by decide +kernel
theorem dX5_merge_54 : decode cX5_merge 54 = .ok (.aload_n 0, 1) := by decide +kernel
theorem dX5_merge_55 : decode cX5_merge 55 = .ok (.getfield 83, 3) := by decide +kernel
theorem dX5_merge_58 : decode cX5_merge 58 = .ok (.invokevirtual 162, 3) := by decide +kernel
theorem dX5_merge_61 : decode cX5_merge 61 = .ok (.ifCond .le 13, 3) := by decide +kernel
theorem dX5_merge_64 : decode cX5_merge 64 = .ok (.new 59, 3) := by decide +kernel
theorem dX5_merge_67 : decode cX5_merge 67 = .ok (.dup, 1) := by decide +kernel
theorem dX5_merge_68 : decode cX5_merge 68 = .ok (.ldc 174, 2) := by decide +kernel
theorem dX5_merge_70 : decode cX5_merge 70 = .ok (.invokespecial 63, 3) := by decide +kernel
theorem dX5_merge_73 : decode cX5_merge 73 = .ok (.athrow, 1) := by decide +kernel
theorem dX5_merge_74 : decode cX5_merge 74 = .ok (.aload 4, 2) := by decide +kernel
theorem dX5_merge_76 : decode cX5_merge 76 = .ok (.aload_n 0, 1) := by decide +kernel
theorem dX5_merge_77 : decode cX5_merge 77 = .ok (.getfield 83, 3) := by decide +kernel
theorem dX5_merge_80 : decode cX5_merge 80 = .ok (.iload_n 3, 1) := by decide +kernel
theorem dX5_merge_81 : decode cX5_merge 81 = .ok (.invokevirtual 176, 3) := by decide +kernel
theorem dX5_merge_84 : decode cX5_merge 84 = .ok (.bipush 8, 2) := by decide +kernel
theorem dX5_merge_86 : decode cX5_merge 86 = .ok (.if_icmp .le 13, 3) := by decide +kernel
theorem dX5_merge_89 : decode cX5_merge 89 = .ok (.new 59, 3) := by decide +kernel
theorem dX5_merge_92 : decode cX5_merge 92 = .ok (.dup, 1) := by decide +kernel
theorem dX5_merge_93 : decode cX5_merge 93 = .ok (.ldc 179, 2) := by decide +kernel
theorem dX5_merge_95 : decode cX5_merge 95 = .ok (.invokespecial 63, 3) := by decide +kernel
theorem dX5_merge_98 : decode cX5_merge 98 = .ok (.athrow, 1) := by decide +kernel
theorem dX5_merge_99 : decode cX5_merge 99 = .ok (.aload 4, 2) := by decide +kernel
theorem dX5_merge_101 : decode cX5_merge 101 = .ok (.aload_n 0, 1) := by decide +kernel
theorem dX5_merge_102 : decode cX5_merge 102 = .ok (.getfield 37, 3) := by decide +kernel
theorem dX5_merge_105 : decode cX5_merge 105 = .ok (.iload_n 3, 1) := by decide +kernel
theorem dX5_merge_106 : decode cX5_merge 106 = .ok (.invokevirtual 181, 3) := by decide +kernel
theorem dX5_merge_109 : decode cX5_merge 109 = .ok (.aload_n 0, 1) := by decide +kernel
theorem dX5_merge_110 : decode cX5_merge 110 = .ok (.aload_n 0, 1) := by decide +kernel
theorem dX5_merge_111 : decode cX5_merge 111 = .ok (.getfield 37, 3) := by decide +kernel
theorem dX5_merge_114 : decode cX5_merge 114 = .ok (.invokevirtual 185, 3) := by decide +kernel
theorem dX5_merge_117 : decode cX5_merge 117 = .ok (.ifCond .le 13, 3) := by decide +kernel
theorem dX5_merge_120 : decode cX5_merge 120 = .ok (.new 59, 3) := by decide +kernel
theorem dX5_merge_123 : decode cX5_merge 123 = .ok (.dup, 1) := by decide +kernel
theorem dX5_merge_124 : decode cX5_merge 124 = .ok (.ldc 189, 2) := by decide +kernel
theorem dX5_merge_126 : decode cX5_merge 126 = .ok (.invokespecial 63, 3) := by decide +kernel
theorem dX5_merge_129 : decode cX5_merge 129 = .ok (.athrow, 1) := by decide +kernel
theorem dX5_merge_130 : decode cX5_merge 130 = .ok (.aload_n 0, 1) := by decide +kernel
theorem dX5_merge_131 : decode cX5_merge 131 = .ok (.invokevirtual 88, 3) := by decide +kernel
theorem dX5_merge_134 : decode cX5_merge 134 = .ok (.aload_n 0, 1) := by decide +kernel
theorem dX5_merge_135 : decode cX5_merge 135 = .ok (.iload_n 1, 1) := by decide +kernel
theorem dX5_merge_136 : decode cX5_merge 136 = .ok (.aload_n 0, 1) := by decide +kernel
theorem dX5_merge_137 : decode cX5_merge 137 = .ok (.getfield 15, 3) := by decide +kernel
theorem dX5_merge_140 : decode cX5_merge 140 = .ok (.iload_n 2, 1) := by decide +kernel
theorem dX5_merge_141 : decode cX5_merge 141 = .ok (.iaload, 1) := by decide +kernel
theorem dX5_merge_142 : decode cX5_merge 142 = .ok (.invokevirtual 91, 3) := by decide +kernel
theorem dX5_merge_145 : decode cX5_merge 145 = .ok (.aload_n 0, 1) := by decide +kernel
theorem dX5_merge_146 : decode cX5_merge 146 = .ok (.getfield 37, 3) := by decide +kernel
theorem dX5_merge_149 : decode cX5_merge 149 = .ok (.invokevirtual 191, 3) := by decide +kernel
theorem dX5_merge_152 : decode cX5_merge 152 = .ok (.aload_n 0, 1) := by decide +kernel
theorem dX5_merge_153 : decode cX5_merge 153 = .ok (.getfield 15, 3) := by decide +kernel
theorem dX5_merge_156 : decode cX5_merge 156 = .ok (.iload_n 1, 1) := by decide +kernel
theorem dX5_merge_157 : decode cX5_merge 157 = .ok (.iaload, 1) := by decide +kernel
theorem dX5_merge_158 : decode cX5_merge 158 = .ok (.ireturn, 1) := by decide +kernel
set_option maxRecDepth 20000 in
theorem ggX5_rule_X5_checkObject : GoodIn wsX5_rule wsX5_checkObject := goodIn_ca (goodIn_r _ [16, 1, 2] (by decide +kernel) (by decide +kernel)) (goodIn_sub (fun _ h => List.mem_cons_of_mem _ (List.mem_append_left _ (List.mem_append_left _ (List.mem_append_right _ h)))) (by decide +kernel))
set_option maxRecDepth 20000 in
theorem gX5_rule_X5_checkObject : GoodIn wsX5_rule (va_wsS RX5 103 yX5_checkObject wsX5_checkObject) := goodIn_app (goodIn_of _ (by decide +kernel)) ggX5_rule_X5_checkObject
theorem dX5_rule_0 : decode cX5_rule 0 = .ok (.iload_n 1, 1) := by decide +kernel
theorem dX5_rule_1 : decode cX5_rule 1 = .ok (.ifCond .lt 8, 3) := by decide +kernel
theorem dX5_rule_4 : decode cX5_rule 4 = .ok (.iload_n 1, 1) := by decide +kernel
theorem dX5_rule_5 : decode cX5_rule 5 = .ok (.iconst 3, 1) := by decide +kernel
theorem dX5_rule_6 : decode cX5_rule 6 = .ok (.if_icmp .lt 13, 3) := by decide +kernel
theorem dX5_rule_9 : decode cX5_rule 9 = .ok (.new 76, 3) := by decide +kernel
theorem dX5_rule_12 : decode cX5_rule 12 = .ok (.dup, 1) := by decide +kernel
theorem dX5_rule_13 : decode cX5_rule 13 = .ok (.ldc 195, 2) := by decide +kernel
theorem dX5_rule_15 : decode cX5_rule 15 = .ok (.invokespecial 80, 3) := by decide +kernel
theorem dX5_rule_18 : decode cX5_rule 18 = .ok (.athrow, 1) := by decide +kernel
theorem dX5_rule_19 : decode cX5_rule 19 = .ok (.iload_n 2, 1) := by decide +kernel
theorem dX5_rule_20 : decode cX5_rule 20 = .ok (.invokestatic 103, 3) := by decide +kernel
theorem dX5_rule_23 : decode cX5_rule 23 = .ok (.iload_n 3, 1) := by decide +kernel
theorem dX5_rule_24 : decode cX5_rule 24 = .ok (.iconst 1, 1) := by decide +kernel
theorem dX5_rule_25 : decode cX5_rule 25 = .ok (.if_icmp .lt 24, 3) := by decide +kernel
theorem dX5_rule_28 : decode cX5_rule 28 = .ok (.iload_n 3, 1) := by decide +kernel
theorem dX5_rule_29 : decode cX5_rule 29 = .ok (.sipush 999, 3) := by decide +kernel
theorem dX5_rule_32 : decode cX5_rule 32 = .ok (.if_icmp .gt 17, 3) := by decide +kernel
theorem dX5_rule_35 : decode cX5_rule 35 = .ok (.iload 4, 2) := by decide +kernel
theorem dX5_rule_37 : decode cX5_rule 37 = .ok (.iload_n 3, 1) := by decide +kernel
theorem dX5_rule_38 : decode cX5_rule 38 = .ok (.if_icmp .lt 11, 3) := by decide +kernel
theorem dX5_rule_41 : decode cX5_rule 41 = .ok (.iload 4, 2) := by decide +kernel
theorem dX5_rule_43 : decode cX5_rule 43 = .ok (.sipush 999, 3) := by decide +kernel
theorem dX5_rule_46 : decode cX5_rule 46 = .ok (.if_icmp .le 13, 3) := by decide +kernel
theorem dX5_rule_49 : decode cX5_rule 49 = .ok (.new 106, 3) := by decide +kernel
theorem dX5_rule_52 : decode cX5_rule 52 = .ok (.dup, 1) := by decide +kernel
theorem dX5_rule_53 : decode cX5_rule 53 = .ok (.ldc 197, 2) := by decide +kernel
theorem dX5_rule_55 : decode cX5_rule 55 = .ok (.invokespecial 110, 3) := by decide +kernel
theorem dX5_rule_58 : decode cX5_rule 58 = .ok (.athrow, 1) := by decide +kernel
theorem dX5_rule_59 : decode cX5_rule 59 = .ok (.aload_n 0, 1) := by decide +kernel
theorem dX5_rule_60 : decode cX5_rule 60 = .ok (.getfield 199, 3) := by decide +kernel
theorem dX5_rule_63 : decode cX5_rule 63 = .ok (.bipush 8, 2) := by decide +kernel
theorem dX5_rule_65 : decode cX5_rule 65 = .ok (.if_icmp .lt 13, 3) := by decide +kernel
theorem dX5_rule_68 : decode cX5_rule 68 = .ok (.new 59, 3) := by decide +kernel
theorem dX5_rule_71 : decode cX5_rule 71 = .ok (.dup, 1) := by decide +kernel
theorem dX5_rule_72 : decode cX5_rule 72 = .ok (.ldc 202, 2) := by decide +kernel
theorem dX5_rule_74 : decode cX5_rule 74 = .ok (.invokespecial 63, 3) := by decide +kernel
theorem dX5_rule_77 : decode cX5_rule 77 = .ok (.athrow, 1) := by decide +kernel
theorem dX5_rule_78 : decode cX5_rule 78 = .ok (.aload_n 0, 1) := by decide +kernel
theorem dX5_rule_79 : decode cX5_rule 79 = .ok (.getfield 199, 3) := by decide +kernel
theorem dX5_rule_82 : decode cX5_rule 82 = .ok (.istore 5, 2) := by decide +kernel
theorem dX5_rule_84 : decode cX5_rule 84 = .ok (.aload_n 0, 1) := by decide +kernel
theorem dX5_rule_85 : decode cX5_rule 85 = .ok (.getfield 24, 3) := by decide +kernel
theorem dX5_rule_88 : decode cX5_rule 88 = .ok (.iload 5, 2) := by decide +kernel
theorem dX5_rule_90 : decode cX5_rule 90 = .ok (.aaload, 1) := by decide +kernel
theorem dX5_rule_91 : decode cX5_rule 91 = .ok (.astore 6, 2) := by decide +kernel
theorem dX5_rule_93 : decode cX5_rule 93 = .ok (.aload 6, 2) := by decide +kernel
theorem dX5_rule_95 : decode cX5_rule 95 = .ok (.iload_n 1, 1) := by decide +kernel
theorem dX5_rule_96 : decode cX5_rule 96 = .ok (.putfield 204, 3) := by decide +kernel
theorem dX5_rule_99 : decode cX5_rule 99 = .ok (.aload 6, 2) := by decide +kernel
theorem dX5_rule_101 : decode cX5_rule 101 = .ok (.iload_n 2, 1) := by decide +kernel
theorem dX5_rule_102 : decode cX5_rule 102 = .ok (.putfield 207, 3) := by decide +kernel
theorem dX5_rule_105 : decode cX5_rule 105 = .ok (.aload 6, 2) := by decide +kernel
theorem dX5_rule_107 : decode cX5_rule 107 = .ok (.iload_n 3, 1) := by decide +kernel
theorem dX5_rule_108 : decode cX5_rule 108 = .ok (.putfield 210, 3) := by decide +kernel
theorem dX5_rule_111 : decode cX5_rule 111 = .ok (.aload 6, 2) := by decide +kernel
theorem dX5_rule_113 : decode cX5_rule 113 = .ok (.iload 4, 2) := by decide +kernel
theorem dX5_rule_115 : decode cX5_rule 115 = .ok (.putfield 213, 3) := by decide +kernel
theorem dX5_rule_118 : decode cX5_rule 118 = .ok (.aload_n 0, 1) := by decide +kernel
theorem dX5_rule_119 : decode cX5_rule 119 = .ok (.iload 5, 2) := by decide +kernel
theorem dX5_rule_121 : decode cX5_rule 121 = .ok (.iconst 1, 1) := by decide +kernel
theorem dX5_rule_122 : decode cX5_rule 122 = .ok (.iadd, 1) := by decide +kernel
theorem dX5_rule_123 : decode cX5_rule 123 = .ok (.putfield 199, 3) := by decide +kernel
theorem dX5_rule_126 : decode cX5_rule 126 = .ok (.iload 5, 2) := by decide +kernel
theorem dX5_rule_128 : decode cX5_rule 128 = .ok (.ireturn, 1) := by decide +kernel
set_option maxRecDepth 20000 in
theorem ggX5_tighten_X5_checkRule : GoodIn wsX5_tighten wsX5_checkRule := goodIn_ca (goodIn_r _ [11, 12, 13, 14, 68, 69, 70, 71, 72, 73, 74, 75, 76, 77, 78, 79] (by decide +kernel) (by decide +kernel)) (goodIn_sub (fun _ h => List.mem_cons_of_mem _ (List.mem_append_right _ h)) (by decide +kernel))
set_option maxRecDepth 20000 in
theorem gX5_tighten_X5_checkRule : GoodIn wsX5_tighten (wsV RX5 216 RX5 yX5_checkRule wsX5_checkRule) := goodIn_app (goodIn_of _ (by decide +kernel)) ggX5_tighten_X5_checkRule
set_option maxRecDepth 20000 in
theorem ggX5_tighten_X5_blockedVersions : GoodIn wsX5_tighten wsX5_blockedVersions := goodIn_r _ [18, 19, 20, 21, 22, 23, 24, 10, 25, 26, 27, 28, 29, 30, 14, 3, 31, 32, 33, 34, 35, 36, 37, 38, 39, 40, 41, 42, 43, 44, 45, 46, 47, 48, 49, 50, 51, 52, 53, 54, 55, 56, 57, 58, 59, 60, 68, 69, 70, 71, 72, 73, 74, 75, 76, 77, 78, 79, 84, 85, 86, 87, 88, 89, 90, 91, 80, 81, 82, 83, 92, 93, 94] (by decide +kernel) (by decide +kernel)
set_option maxRecDepth 20000 in
theorem gX5_tighten_X5_blockedVersions : GoodIn wsX5_tighten (wsV RX5 219 RX5 yX5_blockedVersions wsX5_blockedVersions) := goodIn_app (goodIn_of _ (by decide +kernel)) ggX5_tighten_X5_blockedVersions
set_option maxRecDepth 20000 in
theorem ggX5_tighten_J13_bitCount_95d88 : GoodIn wsX5_tighten wsJ13_bitCount_95d88 := goodIn_r _ [64, 65, 66, 67] (by decide +kernel) (by decide +kernel)
set_option maxRecDepth 20000 in
theorem gX5_tighten_J13_bitCount_95d88 : GoodIn wsX5_tighten (va_wsS RX5 133 yJ13_bitCount_95d88 wsJ13_bitCount_95d88) := goodIn_app (goodIn_of _ (by decide +kernel)) ggX5_tighten_J13_bitCount_95d88
theorem dX5_tighten_0 : decode cX5_tighten 0 = .ok (.aload_n 0, 1) := by decide +kernel
theorem dX5_tighten_1 : decode cX5_tighten 1 = .ok (.iload_n 1, 1) := by decide +kernel
theorem dX5_tighten_2 : decode cX5_tighten 2 = .ok (.invokevirtual 216, 3) := by decide +kernel
theorem dX5_tighten_5 : decode cX5_tighten 5 = .ok (.aload_n 0, 1) := by decide +kernel
theorem dX5_tighten_6 : decode cX5_tighten 6 = .ok (.getfield 24, 3) := by decide +kernel
theorem dX5_tighten_9 : decode cX5_tighten 9 = .ok (.iload_n 1, 1) := by decide +kernel
theorem dX5_tighten_10 : decode cX5_tighten 10 = .ok (.aaload, 1) := by decide +kernel
theorem dX5_tighten_11 : decode cX5_tighten 11 = .ok (.astore 4, 2) := by decide +kernel
theorem dX5_tighten_13 : decode cX5_tighten 13 = .ok (.iload_n 2, 1) := by decide +kernel
theorem dX5_tighten_14 : decode cX5_tighten 14 = .ok (.aload 4, 2) := by decide +kernel
theorem dX5_tighten_16 : decode cX5_tighten 16 = .ok (.getfield 210, 3) := by decide +kernel
theorem dX5_tighten_19 : decode cX5_tighten 19 = .ok (.if_icmp .lt 17, 3) := by decide +kernel
theorem dX5_tighten_22 : decode cX5_tighten 22 = .ok (.iload_n 3, 1) := by decide +kernel
theorem dX5_tighten_23 : decode cX5_tighten 23 = .ok (.aload 4, 2) := by decide +kernel
theorem dX5_tighten_25 : decode cX5_tighten 25 = .ok (.getfield 213, 3) := by decide +kernel
theorem dX5_tighten_28 : decode cX5_tighten 28 = .ok (.if_icmp .gt 8, 3) := by decide +kernel
theorem dX5_tighten_31 : decode cX5_tighten 31 = .ok (.iload_n 3, 1) := by decide +kernel
theorem dX5_tighten_32 : decode cX5_tighten 32 = .ok (.iload_n 2, 1) := by decide +kernel
theorem dX5_tighten_33 : decode cX5_tighten 33 = .ok (.if_icmp .ge 13, 3) := by decide +kernel
theorem dX5_tighten_36 : decode cX5_tighten 36 = .ok (.new 106, 3) := by decide +kernel
theorem dX5_tighten_39 : decode cX5_tighten 39 = .ok (.dup, 1) := by decide +kernel
theorem dX5_tighten_40 : decode cX5_tighten 40 = .ok (.ldc 197, 2) := by decide +kernel
theorem dX5_tighten_42 : decode cX5_tighten 42 = .ok (.invokespecial 110, 3) := by decide +kernel
theorem dX5_tighten_45 : decode cX5_tighten 45 = .ok (.athrow, 1) := by decide +kernel
theorem dX5_tighten_46 : decode cX5_tighten 46 = .ok (.aload_n 0, 1) := by decide +kernel
theorem dX5_tighten_47 : decode cX5_tighten 47 = .ok (.invokevirtual 219, 3) := by decide +kernel
theorem dX5_tighten_50 : decode cX5_tighten 50 = .ok (.lstore 5, 2) := by decide +kernel
theorem dX5_tighten_52 : decode cX5_tighten 52 = .ok (.aload 4, 2) := by decide +kernel
theorem dX5_tighten_54 : decode cX5_tighten 54 = .ok (.iload_n 2, 1) := by decide +kernel
theorem dX5_tighten_55 : decode cX5_tighten 55 = .ok (.putfield 210, 3) := by decide +kernel
theorem dX5_tighten_58 : decode cX5_tighten 58 = .ok (.aload 4, 2) := by decide +kernel
theorem dX5_tighten_60 : decode cX5_tighten 60 = .ok (.iload_n 3, 1) := by decide +kernel
theorem dX5_tighten_61 : decode cX5_tighten 61 = .ok (.putfield 213, 3) := by decide +kernel
theorem dX5_tighten_64 : decode cX5_tighten 64 = .ok (.aload_n 0, 1) := by decide +kernel
theorem dX5_tighten_65 : decode cX5_tighten 65 = .ok (.invokevirtual 219, 3) := by decide +kernel
theorem dX5_tighten_68 : decode cX5_tighten 68 = .ok (.lload 5, 2) := by decide +kernel
theorem dX5_tighten_70 : decode cX5_tighten 70 = .ok (.ldc2_w 223, 3) := by decide +kernel
theorem dX5_tighten_73 : decode cX5_tighten 73 = .ok (.lxor, 1) := by decide +kernel
theorem dX5_tighten_74 : decode cX5_tighten 74 = .ok (.land, 1) := by decide +kernel
theorem dX5_tighten_75 : decode cX5_tighten 75 = .ok (.invokestatic 133, 3) := by decide +kernel
theorem dX5_tighten_78 : decode cX5_tighten 78 = .ok (.ireturn, 1) := by decide +kernel
set_option maxRecDepth 20000 in
theorem ggX5_waive_X5_checkRule : GoodIn wsX5_waive wsX5_checkRule := goodIn_ca (goodIn_r _ [17, 18, 19, 20, 26, 27, 28, 29, 30, 31, 32, 33, 34, 35, 36, 37] (by decide +kernel) (by decide +kernel)) (goodIn_sub (fun _ h => List.mem_cons_of_mem _ (List.mem_append_right _ h)) (by decide +kernel))
set_option maxRecDepth 20000 in
theorem gX5_waive_X5_checkRule : GoodIn wsX5_waive (wsV RX5 216 RX5 yX5_checkRule wsX5_checkRule) := goodIn_app (goodIn_of _ (by decide +kernel)) ggX5_waive_X5_checkRule
set_option maxRecDepth 20000 in
theorem ggX5_waive_X5_checkSlide : GoodIn wsX5_waive wsX5_checkSlide := goodIn_ca (goodIn_r _ [24, 18, 19, 25, 26, 27, 28, 29, 30, 31, 32, 33, 34, 35, 36, 37] (by decide +kernel) (by decide +kernel)) (goodIn_sub (fun _ h => List.mem_cons_of_mem _ (List.mem_append_right _ h)) (by decide +kernel))
set_option maxRecDepth 20000 in
theorem gX5_waive_X5_checkSlide : GoodIn wsX5_waive (wsV RX5 141 RX5 yX5_checkSlide wsX5_checkSlide) := goodIn_app (goodIn_of _ (by decide +kernel)) ggX5_waive_X5_checkSlide
theorem dX5_waive_0 : decode cX5_waive 0 = .ok (.aload_n 0, 1) := by decide +kernel
theorem dX5_waive_1 : decode cX5_waive 1 = .ok (.iload_n 1, 1) := by decide +kernel
theorem dX5_waive_2 : decode cX5_waive 2 = .ok (.invokevirtual 216, 3) := by decide +kernel
theorem dX5_waive_5 : decode cX5_waive 5 = .ok (.aload_n 0, 1) := by decide +kernel
theorem dX5_waive_6 : decode cX5_waive 6 = .ok (.iload_n 2, 1) := by decide +kernel
theorem dX5_waive_7 : decode cX5_waive 7 = .ok (.invokevirtual 141, 3) := by decide +kernel
theorem dX5_waive_10 : decode cX5_waive 10 = .ok (.iload_n 3, 1) := by decide +kernel
theorem dX5_waive_11 : decode cX5_waive 11 = .ok (.aload_n 0, 1) := by decide +kernel
theorem dX5_waive_12 : decode cX5_waive 12 = .ok (.getfield 225, 3) := by decide +kernel
theorem dX5_waive_15 : decode cX5_waive 15 = .ok (.if_icmp .lt 10, 3) := by decide +kernel
theorem dX5_waive_18 : decode cX5_waive 18 = .ok (.iload_n 3, 1) := by decide +kernel
theorem dX5_waive_19 : decode cX5_waive 19 = .ok (.sipush 999, 3) := by decide +kernel
theorem dX5_waive_22 : decode cX5_waive 22 = .ok (.if_icmp .le 13, 3) := by decide +kernel
theorem dX5_waive_25 : decode cX5_waive 25 = .ok (.new 106, 3) := by decide +kernel
theorem dX5_waive_28 : decode cX5_waive 28 = .ok (.dup, 1) := by decide +kernel
theorem dX5_waive_29 : decode cX5_waive 29 = .ok (.ldc 228, 2) := by decide +kernel
theorem dX5_waive_31 : decode cX5_waive 31 = .ok (.invokespecial 110, 3) := by decide +kernel
theorem dX5_waive_34 : decode cX5_waive 34 = .ok (.athrow, 1) := by decide +kernel
theorem dX5_waive_35 : decode cX5_waive 35 = .ok (.aload_n 0, 1) := by decide +kernel
theorem dX5_waive_36 : decode cX5_waive 36 = .ok (.getfield 24, 3) := by decide +kernel
theorem dX5_waive_39 : decode cX5_waive 39 = .ok (.iload_n 1, 1) := by decide +kernel
theorem dX5_waive_40 : decode cX5_waive 40 = .ok (.aaload, 1) := by decide +kernel
theorem dX5_waive_41 : decode cX5_waive 41 = .ok (.getfield 204, 3) := by decide +kernel
theorem dX5_waive_44 : decode cX5_waive 44 = .ok (.iconst 1, 1) := by decide +kernel
theorem dX5_waive_45 : decode cX5_waive 45 = .ok (.if_icmp .eq 13, 3) := by decide +kernel
theorem dX5_waive_48 : decode cX5_waive 48 = .ok (.new 59, 3) := by decide +kernel
theorem dX5_waive_51 : decode cX5_waive 51 = .ok (.dup, 1) := by decide +kernel
theorem dX5_waive_52 : decode cX5_waive 52 = .ok (.ldc 230, 2) := by decide +kernel
theorem dX5_waive_54 : decode cX5_waive 54 = .ok (.invokespecial 63, 3) := by decide +kernel
theorem dX5_waive_57 : decode cX5_waive 57 = .ok (.athrow, 1) := by decide +kernel
theorem dX5_waive_58 : decode cX5_waive 58 = .ok (.aload_n 0, 1) := by decide +kernel
theorem dX5_waive_59 : decode cX5_waive 59 = .ok (.getfield 232, 3) := by decide +kernel
theorem dX5_waive_62 : decode cX5_waive 62 = .ok (.bipush 12, 2) := by decide +kernel
theorem dX5_waive_64 : decode cX5_waive 64 = .ok (.if_icmp .lt 13, 3) := by decide +kernel
theorem dX5_waive_67 : decode cX5_waive 67 = .ok (.new 59, 3) := by decide +kernel
theorem dX5_waive_70 : decode cX5_waive 70 = .ok (.dup, 1) := by decide +kernel
theorem dX5_waive_71 : decode cX5_waive 71 = .ok (.ldc 235, 2) := by decide +kernel
theorem dX5_waive_73 : decode cX5_waive 73 = .ok (.invokespecial 63, 3) := by decide +kernel
theorem dX5_waive_76 : decode cX5_waive 76 = .ok (.athrow, 1) := by decide +kernel
theorem dX5_waive_77 : decode cX5_waive 77 = .ok (.aload_n 0, 1) := by decide +kernel
theorem dX5_waive_78 : decode cX5_waive 78 = .ok (.getfield 232, 3) := by decide +kernel
theorem dX5_waive_81 : decode cX5_waive 81 = .ok (.istore 4, 2) := by decide +kernel
theorem dX5_waive_83 : decode cX5_waive 83 = .ok (.aload_n 0, 1) := by decide +kernel
theorem dX5_waive_84 : decode cX5_waive 84 = .ok (.getfield 30, 3) := by decide +kernel
theorem dX5_waive_87 : decode cX5_waive 87 = .ok (.iload 4, 2) := by decide +kernel
theorem dX5_waive_89 : decode cX5_waive 89 = .ok (.aaload, 1) := by decide +kernel
theorem dX5_waive_90 : decode cX5_waive 90 = .ok (.astore 5, 2) := by decide +kernel
theorem dX5_waive_92 : decode cX5_waive 92 = .ok (.aload 5, 2) := by decide +kernel
theorem dX5_waive_94 : decode cX5_waive 94 = .ok (.iload_n 1, 1) := by decide +kernel
theorem dX5_waive_95 : decode cX5_waive 95 = .ok (.putfield 237, 3) := by decide +kernel
theorem dX5_waive_98 : decode cX5_waive 98 = .ok (.aload 5, 2) := by decide +kernel
theorem dX5_waive_100 : decode cX5_waive 100 = .ok (.iload_n 2, 1) := by decide +kernel
theorem dX5_waive_101 : decode cX5_waive 101 = .ok (.putfield 240, 3) := by decide +kernel
theorem dX5_waive_104 : decode cX5_waive 104 = .ok (.aload 5, 2) := by decide +kernel
theorem dX5_waive_106 : decode cX5_waive 106 = .ok (.iload_n 3, 1) := by decide +kernel
theorem dX5_waive_107 : decode cX5_waive 107 = .ok (.putfield 243, 3) := by decide +kernel
theorem dX5_waive_110 : decode cX5_waive 110 = .ok (.aload_n 0, 1) := by decide +kernel
theorem dX5_waive_111 : decode cX5_waive 111 = .ok (.iload 4, 2) := by decide +kernel
theorem dX5_waive_113 : decode cX5_waive 113 = .ok (.iconst 1, 1) := by decide +kernel
theorem dX5_waive_114 : decode cX5_waive 114 = .ok (.iadd, 1) := by decide +kernel
theorem dX5_waive_115 : decode cX5_waive 115 = .ok (.putfield 232, 3) := by decide +kernel
theorem dX5_waive_118 : decode cX5_waive 118 = .ok (.iload 4, 2) := by decide +kernel
theorem dX5_waive_120 : decode cX5_waive 120 = .ok (.ireturn, 1) := by decide +kernel
set_option maxRecDepth 20000 in
theorem ggX5_blocks_X5_checkVersion : GoodIn wsX5_blocks wsX5_checkVersion := goodIn_ca (goodIn_r _ [7, 8, 9, 10, 52, 53, 54, 55, 56, 57, 58, 59, 60, 61, 62, 63] (by decide +kernel) (by decide +kernel)) (goodIn_sub (fun _ h => List.mem_cons_of_mem _ (List.mem_append_right _ h)) (by decide +kernel))
set_option maxRecDepth 20000 in
theorem gX5_blocks_X5_checkVersion : GoodIn wsX5_blocks (wsV RX5 55 RX5 yX5_checkVersion wsX5_checkVersion) := goodIn_app (goodIn_of _ (by decide +kernel)) ggX5_blocks_X5_checkVersion
set_option maxRecDepth 20000 in
theorem ggX5_blocks_X5_countBlocks : GoodIn wsX5_blocks wsX5_countBlocks := goodIn_r _ [14, 15, 16, 17, 18, 6, 19, 20, 21, 22, 23, 24, 25, 26, 27, 28, 29, 30, 31, 32, 33, 34, 35, 36, 37, 38, 39, 40, 41, 42, 43, 44, 45, 46, 47, 48, 49, 50, 51, 69, 70, 71, 52, 53, 54, 55, 56, 57, 58, 59, 60, 61, 62, 63, 72, 73, 74, 75, 76, 77, 78] (by decide +kernel) (by decide +kernel)
set_option maxRecDepth 20000 in
theorem gX5_blocks_X5_countBlocks : GoodIn wsX5_blocks (wsV RX5 185 RX5 yX5_countBlocks wsX5_countBlocks) := goodIn_app (goodIn_of _ (by decide +kernel)) ggX5_blocks_X5_countBlocks
theorem dX5_blocks_0 : decode cX5_blocks 0 = .ok (.aload_n 0, 1) := by decide +kernel
theorem dX5_blocks_1 : decode cX5_blocks 1 = .ok (.iload_n 1, 1) := by decide +kernel
theorem dX5_blocks_2 : decode cX5_blocks 2 = .ok (.invokevirtual 55, 3) := by decide +kernel
theorem dX5_blocks_5 : decode cX5_blocks 5 = .ok (.aload_n 0, 1) := by decide +kernel
theorem dX5_blocks_6 : decode cX5_blocks 6 = .ok (.aload_n 0, 1) := by decide +kernel
theorem dX5_blocks_7 : decode cX5_blocks 7 = .ok (.getfield 11, 3) := by decide +kernel
theorem dX5_blocks_10 : decode cX5_blocks 10 = .ok (.iload_n 1, 1) := by decide +kernel
theorem dX5_blocks_11 : decode cX5_blocks 11 = .ok (.aaload, 1) := by decide +kernel
theorem dX5_blocks_12 : decode cX5_blocks 12 = .ok (.getfield 130, 3) := by decide +kernel
theorem dX5_blocks_15 : decode cX5_blocks 15 = .ok (.invokevirtual 185, 3) := by decide +kernel
theorem dX5_blocks_18 : decode cX5_blocks 18 = .ok (.ireturn, 1) := by decide +kernel
set_option maxRecDepth 20000 in
theorem ggX5_warnings_X5_checkVersion : GoodIn wsX5_warnings wsX5_checkVersion := goodIn_ca (goodIn_r _ [11, 12, 13, 14, 29, 30, 31, 32, 33, 34, 35, 36, 37, 38, 39, 40] (by decide +kernel) (by decide +kernel)) (goodIn_sub (fun _ h => List.mem_cons_of_mem _ (List.mem_append_right _ h)) (by decide +kernel))
set_option maxRecDepth 20000 in
theorem gX5_warnings_X5_checkVersion : GoodIn wsX5_warnings (wsV RX5 55 RX5 yX5_checkVersion wsX5_checkVersion) := goodIn_app (goodIn_of _ (by decide +kernel)) ggX5_warnings_X5_checkVersion
set_option maxRecDepth 20000 in
theorem ggX5_warnings_X2_isBrokenAt : GoodIn wsX5_warnings wsX2_isBrokenAt := goodIn_r _ [19, 20, 21, 22, 23, 24, 25, 26, 27, 28, 49, 50, 51, 52, 46, 47, 48] (by decide +kernel) (by decide +kernel)
set_option maxRecDepth 20000 in
theorem gX5_warnings_X2_isBrokenAt : GoodIn wsX5_warnings (wsV RX5 246 RX2 yX2_isBrokenAt wsX2_isBrokenAt) := goodIn_app (goodIn_of _ (by decide +kernel)) ggX5_warnings_X2_isBrokenAt
theorem dX5_warnings_0 : decode cX5_warnings 0 = .ok (.aload_n 0, 1) := by decide +kernel
theorem dX5_warnings_1 : decode cX5_warnings 1 = .ok (.iload_n 1, 1) := by decide +kernel
theorem dX5_warnings_2 : decode cX5_warnings 2 = .ok (.invokevirtual 55, 3) := by decide +kernel
theorem dX5_warnings_5 : decode cX5_warnings 5 = .ok (.aload_n 0, 1) := by decide +kernel
theorem dX5_warnings_6 : decode cX5_warnings 6 = .ok (.getfield 11, 3) := by decide +kernel
theorem dX5_warnings_9 : decode cX5_warnings 9 = .ok (.iload_n 1, 1) := by decide +kernel
theorem dX5_warnings_10 : decode cX5_warnings 10 = .ok (.aaload, 1) := by decide +kernel
theorem dX5_warnings_11 : decode cX5_warnings 11 = .ok (.getfield 130, 3) := by decide +kernel
theorem dX5_warnings_14 : decode cX5_warnings 14 = .ok (.astore_n 2, 1) := by decide +kernel
theorem dX5_warnings_15 : decode cX5_warnings 15 = .ok (.iconst 0, 1) := by decide +kernel
theorem dX5_warnings_16 : decode cX5_warnings 16 = .ok (.istore_n 3, 1) := by decide +kernel
theorem dX5_warnings_17 : decode cX5_warnings 17 = .ok (.iconst 0, 1) := by decide +kernel
theorem dX5_warnings_18 : decode cX5_warnings 18 = .ok (.istore 4, 2) := by decide +kernel
theorem dX5_warnings_20 : decode cX5_warnings 20 = .ok (.iload 4, 2) := by decide +kernel
theorem dX5_warnings_22 : decode cX5_warnings 22 = .ok (.aload_n 2, 1) := by decide +kernel
theorem dX5_warnings_23 : decode cX5_warnings 23 = .ok (.getfield 73, 3) := by decide +kernel
theorem dX5_warnings_26 : decode cX5_warnings 26 = .ok (.if_icmp .ge 60, 3) := by decide +kernel
theorem dX5_warnings_29 : decode cX5_warnings 29 = .ok (.iconst 0, 1) := by decide +kernel
theorem dX5_warnings_30 : decode cX5_warnings 30 = .ok (.istore 5, 2) := by decide +kernel
theorem dX5_warnings_32 : decode cX5_warnings 32 = .ok (.iload 5, 2) := by decide +kernel
theorem dX5_warnings_34 : decode cX5_warnings 34 = .ok (.aload_n 0, 1) := by decide +kernel
theorem dX5_warnings_35 : decode cX5_warnings 35 = .ok (.getfield 199, 3) := by decide +kernel
theorem dX5_warnings_38 : decode cX5_warnings 38 = .ok (.if_icmp .ge 42, 3) := by decide +kernel
theorem dX5_warnings_41 : decode cX5_warnings 41 = .ok (.aload_n 0, 1) := by decide +kernel
theorem dX5_warnings_42 : decode cX5_warnings 42 = .ok (.getfield 24, 3) := by decide +kernel
theorem dX5_warnings_45 : decode cX5_warnings 45 = .ok (.iload 5, 2) := by decide +kernel
theorem dX5_warnings_47 : decode cX5_warnings 47 = .ok (.aaload, 1) := by decide +kernel
theorem dX5_warnings_48 : decode cX5_warnings 48 = .ok (.getfield 204, 3) := by decide +kernel
theorem dX5_warnings_51 : decode cX5_warnings 51 = .ok (.iconst 2, 1) := by decide +kernel
theorem dX5_warnings_52 : decode cX5_warnings 52 = .ok (.if_icmp .ne 22, 3) := by decide +kernel
theorem dX5_warnings_55 : decode cX5_warnings 55 = .ok (.aload_n 0, 1) := by decide +kernel
theorem dX5_warnings_56 : decode cX5_warnings 56 = .ok (.getfield 24, 3) := by decide +kernel
theorem dX5_warnings_59 : decode cX5_warnings 59 = .ok (.iload 5, 2) := by decide +kernel
theorem dX5_warnings_61 : decode cX5_warnings 61 = .ok (.aaload, 1) := by decide +kernel
theorem dX5_warnings_62 : decode cX5_warnings 62 = .ok (.aload_n 2, 1) := by decide +kernel
theorem dX5_warnings_63 : decode cX5_warnings 63 = .ok (.iload 4, 2) := by decide +kernel
theorem dX5_warnings_65 : decode cX5_warnings 65 = .ok (.invokevirtual 246, 3) := by decide +kernel
theorem dX5_warnings_68 : decode cX5_warnings 68 = .ok (.ifCond .eq 6, 3) := by decide +kernel
theorem dX5_warnings_71 : decode cX5_warnings 71 = .ok (.iinc 3 1, 3) := by decide +kernel
theorem dX5_warnings_74 : decode cX5_warnings 74 = .ok (.iinc 5 1, 3) := by decide +kernel
theorem dX5_warnings_77 : decode cX5_warnings 77 = .ok (.goto (-45), 3) := by decide +kernel
theorem dX5_warnings_80 : decode cX5_warnings 80 = .ok (.iinc 4 1, 3) := by decide +kernel
theorem dX5_warnings_83 : decode cX5_warnings 83 = .ok (.goto (-63), 3) := by decide +kernel
theorem dX5_warnings_86 : decode cX5_warnings 86 = .ok (.iload_n 3, 1) := by decide +kernel
theorem dX5_warnings_87 : decode cX5_warnings 87 = .ok (.ireturn, 1) := by decide +kernel
set_option maxRecDepth 20000 in
theorem ggX5_firstBlock_X5_checkVersion : GoodIn wsX5_firstBlock wsX5_checkVersion := goodIn_ca (goodIn_r _ [9, 10, 11, 12, 48, 49, 50, 51, 52, 53, 54, 55, 56, 57, 58, 59] (by decide +kernel) (by decide +kernel)) (goodIn_sub (fun _ h => List.mem_cons_of_mem _ (List.mem_append_right _ h)) (by decide +kernel))
set_option maxRecDepth 20000 in
theorem gX5_firstBlock_X5_checkVersion : GoodIn wsX5_firstBlock (wsV RX5 55 RX5 yX5_checkVersion wsX5_checkVersion) := goodIn_app (goodIn_of _ (by decide +kernel)) ggX5_firstBlock_X5_checkVersion
set_option maxRecDepth 20000 in
theorem ggX5_firstBlock_X5_countBlocksAt : GoodIn wsX5_firstBlock wsX5_countBlocksAt := goodIn_r _ [16, 17, 18, 4, 19, 20, 21, 22, 23, 24, 25, 26, 27, 28, 29, 30, 31, 32, 33, 34, 35, 8, 36, 37, 38, 39, 40, 41, 42, 43, 44, 45, 46, 47, 48, 49, 50, 51, 52, 53, 54, 55, 56, 57, 58, 59, 65, 66, 67, 68, 69, 70, 71, 72, 73, 74] (by decide +kernel) (by decide +kernel)
set_option maxRecDepth 20000 in
theorem gX5_firstBlock_X5_countBlocksAt : GoodIn wsX5_firstBlock (wsV RX5 250 RX5 yX5_countBlocksAt wsX5_countBlocksAt) := goodIn_app (goodIn_of _ (by decide +kernel)) ggX5_firstBlock_X5_countBlocksAt
theorem dX5_firstBlock_0 : decode cX5_firstBlock 0 = .ok (.aload_n 0, 1) := by decide +kernel
theorem dX5_firstBlock_1 : decode cX5_firstBlock 1 = .ok (.iload_n 1, 1) := by decide +kernel
theorem dX5_firstBlock_2 : decode cX5_firstBlock 2 = .ok (.invokevirtual 55, 3) := by decide +kernel
theorem dX5_firstBlock_5 : decode cX5_firstBlock 5 = .ok (.aload_n 0, 1) := by decide +kernel
theorem dX5_firstBlock_6 : decode cX5_firstBlock 6 = .ok (.getfield 11, 3) := by decide +kernel
theorem dX5_firstBlock_9 : decode cX5_firstBlock 9 = .ok (.iload_n 1, 1) := by decide +kernel
theorem dX5_firstBlock_10 : decode cX5_firstBlock 10 = .ok (.aaload, 1) := by decide +kernel
theorem dX5_firstBlock_11 : decode cX5_firstBlock 11 = .ok (.getfield 130, 3) := by decide +kernel
theorem dX5_firstBlock_14 : decode cX5_firstBlock 14 = .ok (.astore_n 2, 1) := by decide +kernel
theorem dX5_firstBlock_15 : decode cX5_firstBlock 15 = .ok (.iconst 0, 1) := by decide +kernel
theorem dX5_firstBlock_16 : decode cX5_firstBlock 16 = .ok (.istore_n 3, 1) := by decide +kernel
theorem dX5_firstBlock_17 : decode cX5_firstBlock 17 = .ok (.iload_n 3, 1) := by decide +kernel
theorem dX5_firstBlock_18 : decode cX5_firstBlock 18 = .ok (.aload_n 2, 1) := by decide +kernel
theorem dX5_firstBlock_19 : decode cX5_firstBlock 19 = .ok (.getfield 73, 3) := by decide +kernel
theorem dX5_firstBlock_22 : decode cX5_firstBlock 22 = .ok (.if_icmp .ge 25, 3) := by decide +kernel
theorem dX5_firstBlock_25 : decode cX5_firstBlock 25 = .ok (.aload_n 0, 1) := by decide +kernel
theorem dX5_firstBlock_26 : decode cX5_firstBlock 26 = .ok (.aload_n 2, 1) := by decide +kernel
theorem dX5_firstBlock_27 : decode cX5_firstBlock 27 = .ok (.iload_n 3, 1) := by decide +kernel
theorem dX5_firstBlock_28 : decode cX5_firstBlock 28 = .ok (.invokevirtual 250, 3) := by decide +kernel
theorem dX5_firstBlock_31 : decode cX5_firstBlock 31 = .ok (.ifCond .le 10, 3) := by decide +kernel
theorem dX5_firstBlock_34 : decode cX5_firstBlock 34 = .ok (.aload_n 2, 1) := by decide +kernel
theorem dX5_firstBlock_35 : decode cX5_firstBlock 35 = .ok (.getfield 149, 3) := by decide +kernel
theorem dX5_firstBlock_38 : decode cX5_firstBlock 38 = .ok (.iload_n 3, 1) := by decide +kernel
theorem dX5_firstBlock_39 : decode cX5_firstBlock 39 = .ok (.iaload, 1) := by decide +kernel
theorem dX5_firstBlock_40 : decode cX5_firstBlock 40 = .ok (.ireturn, 1) := by decide +kernel
theorem dX5_firstBlock_41 : decode cX5_firstBlock 41 = .ok (.iinc 3 1, 3) := by decide +kernel
theorem dX5_firstBlock_44 : decode cX5_firstBlock 44 = .ok (.goto (-27), 3) := by decide +kernel
theorem dX5_firstBlock_47 : decode cX5_firstBlock 47 = .ok (.iconst (-1), 1) := by decide +kernel
theorem dX5_firstBlock_48 : decode cX5_firstBlock 48 = .ok (.ireturn, 1) := by decide +kernel
set_option maxRecDepth 20000 in
theorem ggX5_show_X5_checkBranch : GoodIn wsX5_show wsX5_checkBranch := goodIn_ca (goodIn_r _ [9, 10, 11, 12, 60, 61, 62, 63, 64, 65, 66, 67, 68, 69, 70, 71] (by decide +kernel) (by decide +kernel)) (goodIn_sub (fun _ h => List.mem_cons_of_mem _ (List.mem_append_right _ h)) (by decide +kernel))
set_option maxRecDepth 20000 in
theorem gX5_show_X5_checkBranch : GoodIn wsX5_show (wsV RX5 66 RX5 yX5_checkBranch wsX5_checkBranch) := goodIn_app (goodIn_of _ (by decide +kernel)) ggX5_show_X5_checkBranch
set_option maxRecDepth 20000 in
theorem ggX5_show_X5_headDeck : GoodIn wsX5_show wsX5_headDeck := goodIn_r _ [16, 17, 4, 18, 60, 61, 62, 63, 64, 65, 66, 67, 68, 69, 70, 71, 72, 73, 74, 75, 76] (by decide +kernel) (by decide +kernel)
set_option maxRecDepth 20000 in
theorem gX5_show_X5_headDeck : GoodIn wsX5_show (wsV RX5 69 RX5 yX5_headDeck wsX5_headDeck) := goodIn_app (goodIn_of _ (by decide +kernel)) ggX5_show_X5_headDeck
set_option maxRecDepth 20000 in
theorem ggX5_show_X5_countBlocks : GoodIn wsX5_show wsX5_countBlocks := goodIn_r _ [22, 23, 24, 25, 26, 8, 27, 28, 29, 30, 31, 32, 33, 34, 35, 36, 37, 38, 39, 40, 41, 42, 43, 44, 45, 46, 47, 48, 49, 50, 51, 52, 53, 54, 55, 56, 57, 58, 59, 77, 78, 79, 60, 61, 62, 63, 64, 65, 66, 67, 68, 69, 70, 71, 80, 81, 82, 83, 84, 85, 86] (by decide +kernel) (by decide +kernel)
set_option maxRecDepth 20000 in
theorem gX5_show_X5_countBlocks : GoodIn wsX5_show (wsV RX5 185 RX5 yX5_countBlocks wsX5_countBlocks) := goodIn_app (goodIn_of _ (by decide +kernel)) ggX5_show_X5_countBlocks
theorem dX5_show_0 : decode cX5_show 0 = .ok (.aload_n 0, 1) := by decide +kernel
theorem dX5_show_1 : decode cX5_show 1 = .ok (.iload_n 1, 1) := by decide +kernel
theorem dX5_show_2 : decode cX5_show 2 = .ok (.invokevirtual 66, 3) := by decide +kernel
theorem dX5_show_5 : decode cX5_show 5 = .ok (.aload_n 0, 1) := by decide +kernel
theorem dX5_show_6 : decode cX5_show 6 = .ok (.aload_n 0, 1) := by decide +kernel
theorem dX5_show_7 : decode cX5_show 7 = .ok (.iload_n 1, 1) := by decide +kernel
theorem dX5_show_8 : decode cX5_show 8 = .ok (.invokevirtual 69, 3) := by decide +kernel
theorem dX5_show_11 : decode cX5_show 11 = .ok (.invokevirtual 185, 3) := by decide +kernel
theorem dX5_show_14 : decode cX5_show 14 = .ok (.ifCond .le 13, 3) := by decide +kernel
theorem dX5_show_17 : decode cX5_show 17 = .ok (.new 59, 3) := by decide +kernel
theorem dX5_show_20 : decode cX5_show 20 = .ok (.dup, 1) := by decide +kernel
theorem dX5_show_21 : decode cX5_show 21 = .ok (.ldc 254, 2) := by decide +kernel
theorem dX5_show_23 : decode cX5_show 23 = .ok (.invokespecial 63, 3) := by decide +kernel
theorem dX5_show_26 : decode cX5_show 26 = .ok (.athrow, 1) := by decide +kernel
theorem dX5_show_27 : decode cX5_show 27 = .ok (.aload_n 0, 1) := by decide +kernel
theorem dX5_show_28 : decode cX5_show 28 = .ok (.getfield 19, 3) := by decide +kernel
theorem dX5_show_31 : decode cX5_show 31 = .ok (.iload_n 1, 1) := by decide +kernel
theorem dX5_show_32 : decode cX5_show 32 = .ok (.aload_n 0, 1) := by decide +kernel
theorem dX5_show_33 : decode cX5_show 33 = .ok (.getfield 15, 3) := by decide +kernel
theorem dX5_show_36 : decode cX5_show 36 = .ok (.iload_n 1, 1) := by decide +kernel
theorem dX5_show_37 : decode cX5_show 37 = .ok (.iaload, 1) := by decide +kernel
theorem dX5_show_38 : decode cX5_show 38 = .ok (.iastore, 1) := by decide +kernel
theorem dX5_show_39 : decode cX5_show 39 = .ok (.aload_n 0, 1) := by decide +kernel
theorem dX5_show_40 : decode cX5_show 40 = .ok (.getfield 15, 3) := by decide +kernel
theorem dX5_show_43 : decode cX5_show 43 = .ok (.iload_n 1, 1) := by decide +kernel
theorem dX5_show_44 : decode cX5_show 44 = .ok (.iaload, 1) := by decide +kernel
theorem dX5_show_45 : decode cX5_show 45 = .ok (.ireturn, 1) := by decide +kernel
set_option maxRecDepth 20000 in
theorem ggX5_shown_X5_checkBranch : GoodIn wsX5_shown wsX5_checkBranch := goodIn_ca (goodIn_r _ [8, 9, 10, 11, 53, 54, 55, 56, 57, 58, 59, 60, 61, 62, 63, 64] (by decide +kernel) (by decide +kernel)) (goodIn_sub (fun _ h => List.mem_cons_of_mem _ (List.mem_append_right _ h)) (by decide +kernel))
set_option maxRecDepth 20000 in
theorem gX5_shown_X5_checkBranch : GoodIn wsX5_shown (wsV RX5 66 RX5 yX5_checkBranch wsX5_checkBranch) := goodIn_app (goodIn_of _ (by decide +kernel)) ggX5_shown_X5_checkBranch
set_option maxRecDepth 20000 in
theorem ggX5_shown_X5_countBlocks : GoodIn wsX5_shown wsX5_countBlocks := goodIn_r _ [15, 16, 17, 18, 19, 7, 20, 21, 22, 23, 24, 25, 26, 27, 28, 29, 30, 31, 32, 33, 34, 35, 36, 37, 38, 39, 40, 41, 42, 43, 44, 45, 46, 47, 48, 49, 50, 51, 52, 70, 71, 72, 53, 54, 55, 56, 57, 58, 59, 60, 61, 62, 63, 64, 73, 74, 75, 76, 77, 78, 79] (by decide +kernel) (by decide +kernel)
set_option maxRecDepth 20000 in
theorem gX5_shown_X5_countBlocks : GoodIn wsX5_shown (wsV RX5 185 RX5 yX5_countBlocks wsX5_countBlocks) := goodIn_app (goodIn_of _ (by decide +kernel)) ggX5_shown_X5_countBlocks
theorem dX5_shown_0 : decode cX5_shown 0 = .ok (.aload_n 0, 1) := by decide +kernel
theorem dX5_shown_1 : decode cX5_shown 1 = .ok (.iload_n 1, 1) := by decide +kernel
theorem dX5_shown_2 : decode cX5_shown 2 = .ok (.invokevirtual 66, 3) := by decide +kernel
theorem dX5_shown_5 : decode cX5_shown 5 = .ok (.aload_n 0, 1) := by decide +kernel
theorem dX5_shown_6 : decode cX5_shown 6 = .ok (.getfield 19, 3) := by decide +kernel
theorem dX5_shown_9 : decode cX5_shown 9 = .ok (.iload_n 1, 1) := by decide +kernel
theorem dX5_shown_10 : decode cX5_shown 10 = .ok (.iaload, 1) := by decide +kernel
theorem dX5_shown_11 : decode cX5_shown 11 = .ok (.istore_n 2, 1) := by decide +kernel
theorem dX5_shown_12 : decode cX5_shown 12 = .ok (.iload_n 2, 1) := by decide +kernel
theorem dX5_shown_13 : decode cX5_shown 13 = .ok (.iconst (-1), 1) := by decide +kernel
theorem dX5_shown_14 : decode cX5_shown 14 = .ok (.if_icmp .eq 19, 3) := by decide +kernel
theorem dX5_shown_17 : decode cX5_shown 17 = .ok (.aload_n 0, 1) := by decide +kernel
theorem dX5_shown_18 : decode cX5_shown 18 = .ok (.aload_n 0, 1) := by decide +kernel
theorem dX5_shown_19 : decode cX5_shown 19 = .ok (.getfield 11, 3) := by decide +kernel
theorem dX5_shown_22 : decode cX5_shown 22 = .ok (.iload_n 2, 1) := by decide +kernel
theorem dX5_shown_23 : decode cX5_shown 23 = .ok (.aaload, 1) := by decide +kernel
theorem dX5_shown_24 : decode cX5_shown 24 = .ok (.getfield 130, 3) := by decide +kernel
theorem dX5_shown_27 : decode cX5_shown 27 = .ok (.invokevirtual 185, 3) := by decide +kernel
theorem dX5_shown_30 : decode cX5_shown 30 = .ok (.ifCond .le 5, 3) := by decide +kernel
theorem dX5_shown_33 : decode cX5_shown 33 = .ok (.iconst (-1), 1) := by decide +kernel
theorem dX5_shown_34 : decode cX5_shown 34 = .ok (.ireturn, 1) := by decide +kernel
theorem dX5_shown_35 : decode cX5_shown 35 = .ok (.iload_n 2, 1) := by decide +kernel
theorem dX5_shown_36 : decode cX5_shown 36 = .ok (.ireturn, 1) := by decide +kernel
theorem dX5_pass_0 : decode cX5_pass 0 = .ok (.iload_n 1, 1) := by decide +kernel
theorem dX5_pass_1 : decode cX5_pass 1 = .ok (.iconst 1, 1) := by decide +kernel
theorem dX5_pass_2 : decode cX5_pass 2 = .ok (.if_icmp .lt 9, 3) := by decide +kernel
theorem dX5_pass_5 : decode cX5_pass 5 = .ok (.iload_n 1, 1) := by decide +kernel
theorem dX5_pass_6 : decode cX5_pass 6 = .ok (.bipush 100, 2) := by decide +kernel
theorem dX5_pass_8 : decode cX5_pass 8 = .ok (.if_icmp .le 14, 3) := by decide +kernel
theorem dX5_pass_11 : decode cX5_pass 11 = .ok (.new 106, 3) := by decide +kernel
theorem dX5_pass_14 : decode cX5_pass 14 = .ok (.dup, 1) := by decide +kernel
theorem dX5_pass_15 : decode cX5_pass 15 = .ok (.ldc_w 256, 3) := by decide +kernel
theorem dX5_pass_18 : decode cX5_pass 18 = .ok (.invokespecial 110, 3) := by decide +kernel
theorem dX5_pass_21 : decode cX5_pass 21 = .ok (.athrow, 1) := by decide +kernel
theorem dX5_pass_22 : decode cX5_pass 22 = .ok (.aload_n 0, 1) := by decide +kernel
theorem dX5_pass_23 : decode cX5_pass 23 = .ok (.getfield 225, 3) := by decide +kernel
theorem dX5_pass_26 : decode cX5_pass 26 = .ok (.iload_n 1, 1) := by decide +kernel
theorem dX5_pass_27 : decode cX5_pass 27 = .ok (.iadd, 1) := by decide +kernel
theorem dX5_pass_28 : decode cX5_pass 28 = .ok (.sipush 999, 3) := by decide +kernel
theorem dX5_pass_31 : decode cX5_pass 31 = .ok (.if_icmp .le 14, 3) := by decide +kernel
theorem dX5_pass_34 : decode cX5_pass 34 = .ok (.new 59, 3) := by decide +kernel
theorem dX5_pass_37 : decode cX5_pass 37 = .ok (.dup, 1) := by decide +kernel
theorem dX5_pass_38 : decode cX5_pass 38 = .ok (.ldc_w 258, 3) := by decide +kernel
theorem dX5_pass_41 : decode cX5_pass 41 = .ok (.invokespecial 63, 3) := by decide +kernel
theorem dX5_pass_44 : decode cX5_pass 44 = .ok (.athrow, 1) := by decide +kernel
theorem dX5_pass_45 : decode cX5_pass 45 = .ok (.aload_n 0, 1) := by decide +kernel
theorem dX5_pass_46 : decode cX5_pass 46 = .ok (.dup, 1) := by decide +kernel
theorem dX5_pass_47 : decode cX5_pass 47 = .ok (.getfield 225, 3) := by decide +kernel
theorem dX5_pass_50 : decode cX5_pass 50 = .ok (.iload_n 1, 1) := by decide +kernel
theorem dX5_pass_51 : decode cX5_pass 51 = .ok (.iadd, 1) := by decide +kernel
theorem dX5_pass_52 : decode cX5_pass 52 = .ok (.putfield 225, 3) := by decide +kernel
theorem dX5_pass_55 : decode cX5_pass 55 = .ok (.aload_n 0, 1) := by decide +kernel
theorem dX5_pass_56 : decode cX5_pass 56 = .ok (.getfield 225, 3) := by decide +kernel
theorem dX5_pass_59 : decode cX5_pass 59 = .ok (.ireturn, 1) := by decide +kernel
theorem dX5_checkVersion_0 : decode cX5_checkVersion 0 = .ok (.iload_n 1, 1) := by decide +kernel
theorem dX5_checkVersion_1 : decode cX5_checkVersion 1 = .ok (.ifCond .lt 11, 3) := by decide +kernel
theorem dX5_checkVersion_4 : decode cX5_checkVersion 4 = .ok (.iload_n 1, 1) := by decide +kernel
theorem dX5_checkVersion_5 : decode cX5_checkVersion 5 = .ok (.aload_n 0, 1) := by decide +kernel
theorem dX5_checkVersion_6 : decode cX5_checkVersion 6 = .ok (.getfield 48, 3) := by decide +kernel
theorem dX5_checkVersion_9 : decode cX5_checkVersion 9 = .ok (.if_icmp .lt 14, 3) := by decide +kernel
theorem dX5_checkVersion_12 : decode cX5_checkVersion 12 = .ok (.new 76, 3) := by decide +kernel
theorem dX5_checkVersion_15 : decode cX5_checkVersion 15 = .ok (.dup, 1) := by decide +kernel
theorem dX5_checkVersion_16 : decode cX5_checkVersion 16 = .ok (.ldc_w 260, 3) := by decide +kernel
theorem dX5_checkVersion_19 : decode cX5_checkVersion 19 = .ok (.invokespecial 80, 3) := by decide +kernel
theorem dX5_checkVersion_22 : decode cX5_checkVersion 22 = .ok (.athrow, 1) := by decide +kernel
theorem dX5_checkVersion_23 : decode cX5_checkVersion 23 = .ok (.return_, 1) := by decide +kernel
theorem dX5_checkBranch_0 : decode cX5_checkBranch 0 = .ok (.iload_n 1, 1) := by decide +kernel
theorem dX5_checkBranch_1 : decode cX5_checkBranch 1 = .ok (.ifCond .lt 11, 3) := by decide +kernel
theorem dX5_checkBranch_4 : decode cX5_checkBranch 4 = .ok (.iload_n 1, 1) := by decide +kernel
theorem dX5_checkBranch_5 : decode cX5_checkBranch 5 = .ok (.aload_n 0, 1) := by decide +kernel
theorem dX5_checkBranch_6 : decode cX5_checkBranch 6 = .ok (.getfield 52, 3) := by decide +kernel
theorem dX5_checkBranch_9 : decode cX5_checkBranch 9 = .ok (.if_icmp .lt 14, 3) := by decide +kernel
theorem dX5_checkBranch_12 : decode cX5_checkBranch 12 = .ok (.new 76, 3) := by decide +kernel
theorem dX5_checkBranch_15 : decode cX5_checkBranch 15 = .ok (.dup, 1) := by decide +kernel
theorem dX5_checkBranch_16 : decode cX5_checkBranch 16 = .ok (.ldc_w 262, 3) := by decide +kernel
theorem dX5_checkBranch_19 : decode cX5_checkBranch 19 = .ok (.invokespecial 80, 3) := by decide +kernel
theorem dX5_checkBranch_22 : decode cX5_checkBranch 22 = .ok (.athrow, 1) := by decide +kernel
theorem dX5_checkBranch_23 : decode cX5_checkBranch 23 = .ok (.return_, 1) := by decide +kernel
theorem dX5_checkSlide_0 : decode cX5_checkSlide 0 = .ok (.iload_n 1, 1) := by decide +kernel
theorem dX5_checkSlide_1 : decode cX5_checkSlide 1 = .ok (.ifCond .lt 11, 3) := by decide +kernel
theorem dX5_checkSlide_4 : decode cX5_checkSlide 4 = .ok (.iload_n 1, 1) := by decide +kernel
theorem dX5_checkSlide_5 : decode cX5_checkSlide 5 = .ok (.aload_n 0, 1) := by decide +kernel
theorem dX5_checkSlide_6 : decode cX5_checkSlide 6 = .ok (.getfield 83, 3) := by decide +kernel
theorem dX5_checkSlide_9 : decode cX5_checkSlide 9 = .ok (.if_icmp .lt 14, 3) := by decide +kernel
theorem dX5_checkSlide_12 : decode cX5_checkSlide 12 = .ok (.new 76, 3) := by decide +kernel
theorem dX5_checkSlide_15 : decode cX5_checkSlide 15 = .ok (.dup, 1) := by decide +kernel
theorem dX5_checkSlide_16 : decode cX5_checkSlide 16 = .ok (.ldc_w 264, 3) := by decide +kernel
theorem dX5_checkSlide_19 : decode cX5_checkSlide 19 = .ok (.invokespecial 80, 3) := by decide +kernel
theorem dX5_checkSlide_22 : decode cX5_checkSlide 22 = .ok (.athrow, 1) := by decide +kernel
theorem dX5_checkSlide_23 : decode cX5_checkSlide 23 = .ok (.return_, 1) := by decide +kernel
theorem dX5_checkObject_0 : decode cX5_checkObject 0 = .ok (.iload_n 0, 1) := by decide +kernel
theorem dX5_checkObject_1 : decode cX5_checkObject 1 = .ok (.ifCond .lt 8, 3) := by decide +kernel
theorem dX5_checkObject_4 : decode cX5_checkObject 4 = .ok (.iload_n 0, 1) := by decide +kernel
theorem dX5_checkObject_5 : decode cX5_checkObject 5 = .ok (.iconst 4, 1) := by decide +kernel
theorem dX5_checkObject_6 : decode cX5_checkObject 6 = .ok (.if_icmp .lt 14, 3) := by decide +kernel
theorem dX5_checkObject_9 : decode cX5_checkObject 9 = .ok (.new 76, 3) := by decide +kernel
theorem dX5_checkObject_12 : decode cX5_checkObject 12 = .ok (.dup, 1) := by decide +kernel
theorem dX5_checkObject_13 : decode cX5_checkObject 13 = .ok (.ldc_w 266, 3) := by decide +kernel
theorem dX5_checkObject_16 : decode cX5_checkObject 16 = .ok (.invokespecial 80, 3) := by decide +kernel
theorem dX5_checkObject_19 : decode cX5_checkObject 19 = .ok (.athrow, 1) := by decide +kernel
theorem dX5_checkObject_20 : decode cX5_checkObject 20 = .ok (.return_, 1) := by decide +kernel
theorem dX5_checkRule_0 : decode cX5_checkRule 0 = .ok (.iload_n 1, 1) := by decide +kernel
theorem dX5_checkRule_1 : decode cX5_checkRule 1 = .ok (.ifCond .lt 11, 3) := by decide +kernel
theorem dX5_checkRule_4 : decode cX5_checkRule 4 = .ok (.iload_n 1, 1) := by decide +kernel
theorem dX5_checkRule_5 : decode cX5_checkRule 5 = .ok (.aload_n 0, 1) := by decide +kernel
theorem dX5_checkRule_6 : decode cX5_checkRule 6 = .ok (.getfield 199, 3) := by decide +kernel
theorem dX5_checkRule_9 : decode cX5_checkRule 9 = .ok (.if_icmp .lt 14, 3) := by decide +kernel
theorem dX5_checkRule_12 : decode cX5_checkRule 12 = .ok (.new 76, 3) := by decide +kernel
theorem dX5_checkRule_15 : decode cX5_checkRule 15 = .ok (.dup, 1) := by decide +kernel
theorem dX5_checkRule_16 : decode cX5_checkRule 16 = .ok (.ldc_w 268, 3) := by decide +kernel
theorem dX5_checkRule_19 : decode cX5_checkRule 19 = .ok (.invokespecial 80, 3) := by decide +kernel
theorem dX5_checkRule_22 : decode cX5_checkRule 22 = .ok (.athrow, 1) := by decide +kernel
theorem dX5_checkRule_23 : decode cX5_checkRule 23 = .ok (.return_, 1) := by decide +kernel
theorem dX5_checkDifferent_0 : decode cX5_checkDifferent 0 = .ok (.iload_n 0, 1) := by decide +kernel
theorem dX5_checkDifferent_1 : decode cX5_checkDifferent 1 = .ok (.iload_n 1, 1) := by decide +kernel
theorem dX5_checkDifferent_2 : decode cX5_checkDifferent 2 = .ok (.if_icmp .ne 14, 3) := by decide +kernel
theorem dX5_checkDifferent_5 : decode cX5_checkDifferent 5 = .ok (.new 106, 3) := by decide +kernel
theorem dX5_checkDifferent_8 : decode cX5_checkDifferent 8 = .ok (.dup, 1) := by decide +kernel
theorem dX5_checkDifferent_9 : decode cX5_checkDifferent 9 = .ok (.ldc_w 270, 3) := by decide +kernel
theorem dX5_checkDifferent_12 : decode cX5_checkDifferent 12 = .ok (.invokespecial 110, 3) := by decide +kernel
theorem dX5_checkDifferent_15 : decode cX5_checkDifferent 15 = .ok (.athrow, 1) := by decide +kernel
theorem dX5_checkDifferent_16 : decode cX5_checkDifferent 16 = .ok (.return_, 1) := by decide +kernel
theorem dX5_checkRoomForVersion_0 : decode cX5_checkRoomForVersion 0 = .ok (.aload_n 0, 1) := by decide +kernel
theorem dX5_checkRoomForVersion_1 : decode cX5_checkRoomForVersion 1 = .ok (.getfield 48, 3) := by decide +kernel
theorem dX5_checkRoomForVersion_4 : decode cX5_checkRoomForVersion 4 = .ok (.bipush 40, 2) := by decide +kernel
theorem dX5_checkRoomForVersion_6 : decode cX5_checkRoomForVersion 6 = .ok (.if_icmp .lt 14, 3) := by decide +kernel
theorem dX5_checkRoomForVersion_9 : decode cX5_checkRoomForVersion 9 = .ok (.new 59, 3) := by decide +kernel
theorem dX5_checkRoomForVersion_12 : decode cX5_checkRoomForVersion 12 = .ok (.dup, 1) := by decide +kernel
theorem dX5_checkRoomForVersion_13 : decode cX5_checkRoomForVersion 13 = .ok (.ldc_w 272, 3) := by decide +kernel
theorem dX5_checkRoomForVersion_16 : decode cX5_checkRoomForVersion 16 = .ok (.invokespecial 63, 3) := by decide +kernel
theorem dX5_checkRoomForVersion_19 : decode cX5_checkRoomForVersion 19 = .ok (.athrow, 1) := by decide +kernel
theorem dX5_checkRoomForVersion_20 : decode cX5_checkRoomForVersion 20 = .ok (.return_, 1) := by decide +kernel
set_option maxRecDepth 20000 in
theorem ggX5_placeInHead_X5_headDeck : GoodIn wsX5_placeInHead wsX5_headDeck := goodIn_r _ [7, 8, 9, 10, 18, 19, 20, 21, 22, 23, 24, 25, 26, 27, 28, 29, 30, 31, 32, 33, 34] (by decide +kernel) (by decide +kernel)
set_option maxRecDepth 20000 in
theorem gX5_placeInHead_X5_headDeck : GoodIn wsX5_placeInHead (wsV RX5 69 RX5 yX5_headDeck wsX5_headDeck) := goodIn_app (goodIn_of _ (by decide +kernel)) ggX5_placeInHead_X5_headDeck
set_option maxRecDepth 20000 in
theorem ggX5_placeInHead_X0_placeOf : GoodIn wsX5_placeInHead wsX0_placeOf := goodIn_r _ [15, 16, 17, 35, 36, 37] (by decide +kernel) (by decide +kernel)
set_option maxRecDepth 20000 in
theorem gX5_placeInHead_X0_placeOf : GoodIn wsX5_placeInHead (wsV RX5 274 RX0 yX0_placeOf wsX0_placeOf) := goodIn_app (goodIn_of _ (by decide +kernel)) ggX5_placeInHead_X0_placeOf
theorem dX5_placeInHead_0 : decode cX5_placeInHead 0 = .ok (.aload_n 0, 1) := by decide +kernel
theorem dX5_placeInHead_1 : decode cX5_placeInHead 1 = .ok (.iload_n 1, 1) := by decide +kernel
theorem dX5_placeInHead_2 : decode cX5_placeInHead 2 = .ok (.invokevirtual 69, 3) := by decide +kernel
theorem dX5_placeInHead_5 : decode cX5_placeInHead 5 = .ok (.iload_n 2, 1) := by decide +kernel
theorem dX5_placeInHead_6 : decode cX5_placeInHead 6 = .ok (.invokevirtual 274, 3) := by decide +kernel
theorem dX5_placeInHead_9 : decode cX5_placeInHead 9 = .ok (.istore_n 3, 1) := by decide +kernel
theorem dX5_placeInHead_10 : decode cX5_placeInHead 10 = .ok (.iload_n 3, 1) := by decide +kernel
theorem dX5_placeInHead_11 : decode cX5_placeInHead 11 = .ok (.iconst (-1), 1) := by decide +kernel
theorem dX5_placeInHead_12 : decode cX5_placeInHead 12 = .ok (.if_icmp .ne 14, 3) := by decide +kernel
theorem dX5_placeInHead_15 : decode cX5_placeInHead 15 = .ok (.new 76, 3) := by decide +kernel
theorem dX5_placeInHead_18 : decode cX5_placeInHead 18 = .ok (.dup, 1) := by decide +kernel
theorem dX5_placeInHead_19 : decode cX5_placeInHead 19 = .ok (.ldc_w 277, 3) := by decide +kernel
theorem dX5_placeInHead_22 : decode cX5_placeInHead 22 = .ok (.invokespecial 80, 3) := by decide +kernel
theorem dX5_placeInHead_25 : decode cX5_placeInHead 25 = .ok (.athrow, 1) := by decide +kernel
theorem dX5_placeInHead_26 : decode cX5_placeInHead 26 = .ok (.iload_n 3, 1) := by decide +kernel
theorem dX5_placeInHead_27 : decode cX5_placeInHead 27 = .ok (.ireturn, 1) := by decide +kernel
theorem dX5_headDeck_0 : decode cX5_headDeck 0 = .ok (.aload_n 0, 1) := by decide +kernel
theorem dX5_headDeck_1 : decode cX5_headDeck 1 = .ok (.getfield 11, 3) := by decide +kernel
theorem dX5_headDeck_4 : decode cX5_headDeck 4 = .ok (.aload_n 0, 1) := by decide +kernel
theorem dX5_headDeck_5 : decode cX5_headDeck 5 = .ok (.getfield 15, 3) := by decide +kernel
theorem dX5_headDeck_8 : decode cX5_headDeck 8 = .ok (.iload_n 1, 1) := by decide +kernel
theorem dX5_headDeck_9 : decode cX5_headDeck 9 = .ok (.iaload, 1) := by decide +kernel
theorem dX5_headDeck_10 : decode cX5_headDeck 10 = .ok (.aaload, 1) := by decide +kernel
theorem dX5_headDeck_11 : decode cX5_headDeck 11 = .ok (.getfield 130, 3) := by decide +kernel
theorem dX5_headDeck_14 : decode cX5_headDeck 14 = .ok (.areturn, 1) := by decide +kernel
set_option maxRecDepth 20000 in
theorem ggX5_makeVersion_X0_copyFrom : GoodIn wsX5_makeVersion wsX0_copyFrom := goodIn_r _ [13, 14, 15, 16, 17, 18, 19, 20, 38, 39, 40] (by decide +kernel) (by decide +kernel)
set_option maxRecDepth 20000 in
theorem gX5_makeVersion_X0_copyFrom : GoodIn wsX5_makeVersion (wsV RX5 191 RX0 yX0_copyFrom wsX0_copyFrom) := goodIn_app (goodIn_of _ (by decide +kernel)) ggX5_makeVersion_X0_copyFrom
theorem dX5_makeVersion_0 : decode cX5_makeVersion 0 = .ok (.aload_n 0, 1) := by decide +kernel
theorem dX5_makeVersion_1 : decode cX5_makeVersion 1 = .ok (.getfield 48, 3) := by decide +kernel
theorem dX5_makeVersion_4 : decode cX5_makeVersion 4 = .ok (.istore_n 3, 1) := by decide +kernel
theorem dX5_makeVersion_5 : decode cX5_makeVersion 5 = .ok (.aload_n 0, 1) := by decide +kernel
theorem dX5_makeVersion_6 : decode cX5_makeVersion 6 = .ok (.getfield 15, 3) := by decide +kernel
theorem dX5_makeVersion_9 : decode cX5_makeVersion 9 = .ok (.iload_n 1, 1) := by decide +kernel
theorem dX5_makeVersion_10 : decode cX5_makeVersion 10 = .ok (.iaload, 1) := by decide +kernel
theorem dX5_makeVersion_11 : decode cX5_makeVersion 11 = .ok (.istore 4, 2) := by decide +kernel
theorem dX5_makeVersion_13 : decode cX5_makeVersion 13 = .ok (.aload_n 0, 1) := by decide +kernel
theorem dX5_makeVersion_14 : decode cX5_makeVersion 14 = .ok (.getfield 11, 3) := by decide +kernel
theorem dX5_makeVersion_17 : decode cX5_makeVersion 17 = .ok (.iload_n 3, 1) := by decide +kernel
theorem dX5_makeVersion_18 : decode cX5_makeVersion 18 = .ok (.aaload, 1) := by decide +kernel
theorem dX5_makeVersion_19 : decode cX5_makeVersion 19 = .ok (.astore 5, 2) := by decide +kernel
theorem dX5_makeVersion_21 : decode cX5_makeVersion 21 = .ok (.aload 5, 2) := by decide +kernel
theorem dX5_makeVersion_23 : decode cX5_makeVersion 23 = .ok (.iload_n 1, 1) := by decide +kernel
theorem dX5_makeVersion_24 : decode cX5_makeVersion 24 = .ok (.putfield 121, 3) := by decide +kernel
theorem dX5_makeVersion_27 : decode cX5_makeVersion 27 = .ok (.aload 5, 2) := by decide +kernel
theorem dX5_makeVersion_29 : decode cX5_makeVersion 29 = .ok (.iload 4, 2) := by decide +kernel
theorem dX5_makeVersion_31 : decode cX5_makeVersion 31 = .ok (.putfield 124, 3) := by decide +kernel
theorem dX5_makeVersion_34 : decode cX5_makeVersion 34 = .ok (.aload 5, 2) := by decide +kernel
theorem dX5_makeVersion_36 : decode cX5_makeVersion 36 = .ok (.iload_n 2, 1) := by decide +kernel
theorem dX5_makeVersion_37 : decode cX5_makeVersion 37 = .ok (.putfield 127, 3) := by decide +kernel
theorem dX5_makeVersion_40 : decode cX5_makeVersion 40 = .ok (.aload 5, 2) := by decide +kernel
theorem dX5_makeVersion_42 : decode cX5_makeVersion 42 = .ok (.aload_n 0, 1) := by decide +kernel
theorem dX5_makeVersion_43 : decode cX5_makeVersion 43 = .ok (.getfield 11, 3) := by decide +kernel
theorem dX5_makeVersion_46 : decode cX5_makeVersion 46 = .ok (.iload 4, 2) := by decide +kernel
theorem dX5_makeVersion_48 : decode cX5_makeVersion 48 = .ok (.aaload, 1) := by decide +kernel
theorem dX5_makeVersion_49 : decode cX5_makeVersion 49 = .ok (.getfield 44, 3) := by decide +kernel
theorem dX5_makeVersion_52 : decode cX5_makeVersion 52 = .ok (.lconst 1, 1) := by decide +kernel
theorem dX5_makeVersion_53 : decode cX5_makeVersion 53 = .ok (.iload_n 3, 1) := by decide +kernel
theorem dX5_makeVersion_54 : decode cX5_makeVersion 54 = .ok (.lshl, 1) := by decide +kernel
theorem dX5_makeVersion_55 : decode cX5_makeVersion 55 = .ok (.lor, 1) := by decide +kernel
theorem dX5_makeVersion_56 : decode cX5_makeVersion 56 = .ok (.putfield 44, 3) := by decide +kernel
theorem dX5_makeVersion_59 : decode cX5_makeVersion 59 = .ok (.iload_n 2, 1) := by decide +kernel
theorem dX5_makeVersion_60 : decode cX5_makeVersion 60 = .ok (.iconst (-1), 1) := by decide +kernel
theorem dX5_makeVersion_61 : decode cX5_makeVersion 61 = .ok (.if_icmp .eq 22, 3) := by decide +kernel
theorem dX5_makeVersion_64 : decode cX5_makeVersion 64 = .ok (.aload 5, 2) := by decide +kernel
theorem dX5_makeVersion_66 : decode cX5_makeVersion 66 = .ok (.dup, 1) := by decide +kernel
theorem dX5_makeVersion_67 : decode cX5_makeVersion 67 = .ok (.getfield 44, 3) := by decide +kernel
theorem dX5_makeVersion_70 : decode cX5_makeVersion 70 = .ok (.aload_n 0, 1) := by decide +kernel
theorem dX5_makeVersion_71 : decode cX5_makeVersion 71 = .ok (.getfield 11, 3) := by decide +kernel
theorem dX5_makeVersion_74 : decode cX5_makeVersion 74 = .ok (.iload_n 2, 1) := by decide +kernel
theorem dX5_makeVersion_75 : decode cX5_makeVersion 75 = .ok (.aaload, 1) := by decide +kernel
theorem dX5_makeVersion_76 : decode cX5_makeVersion 76 = .ok (.getfield 44, 3) := by decide +kernel
theorem dX5_makeVersion_79 : decode cX5_makeVersion 79 = .ok (.lor, 1) := by decide +kernel
theorem dX5_makeVersion_80 : decode cX5_makeVersion 80 = .ok (.putfield 44, 3) := by decide +kernel
theorem dX5_makeVersion_83 : decode cX5_makeVersion 83 = .ok (.aload 5, 2) := by decide +kernel
theorem dX5_makeVersion_85 : decode cX5_makeVersion 85 = .ok (.getfield 130, 3) := by decide +kernel
theorem dX5_makeVersion_88 : decode cX5_makeVersion 88 = .ok (.aload_n 0, 1) := by decide +kernel
theorem dX5_makeVersion_89 : decode cX5_makeVersion 89 = .ok (.getfield 11, 3) := by decide +kernel
theorem dX5_makeVersion_92 : decode cX5_makeVersion 92 = .ok (.iload 4, 2) := by decide +kernel
theorem dX5_makeVersion_94 : decode cX5_makeVersion 94 = .ok (.aaload, 1) := by decide +kernel
theorem dX5_makeVersion_95 : decode cX5_makeVersion 95 = .ok (.getfield 130, 3) := by decide +kernel
theorem dX5_makeVersion_98 : decode cX5_makeVersion 98 = .ok (.invokevirtual 191, 3) := by decide +kernel
theorem dX5_makeVersion_101 : decode cX5_makeVersion 101 = .ok (.aload_n 0, 1) := by decide +kernel
theorem dX5_makeVersion_102 : decode cX5_makeVersion 102 = .ok (.getfield 15, 3) := by decide +kernel
theorem dX5_makeVersion_105 : decode cX5_makeVersion 105 = .ok (.iload_n 1, 1) := by decide +kernel
theorem dX5_makeVersion_106 : decode cX5_makeVersion 106 = .ok (.iload_n 3, 1) := by decide +kernel
theorem dX5_makeVersion_107 : decode cX5_makeVersion 107 = .ok (.iastore, 1) := by decide +kernel
theorem dX5_makeVersion_108 : decode cX5_makeVersion 108 = .ok (.aload_n 0, 1) := by decide +kernel
theorem dX5_makeVersion_109 : decode cX5_makeVersion 109 = .ok (.iload_n 3, 1) := by decide +kernel
theorem dX5_makeVersion_110 : decode cX5_makeVersion 110 = .ok (.iconst 1, 1) := by decide +kernel
theorem dX5_makeVersion_111 : decode cX5_makeVersion 111 = .ok (.iadd, 1) := by decide +kernel
theorem dX5_makeVersion_112 : decode cX5_makeVersion 112 = .ok (.putfield 48, 3) := by decide +kernel
theorem dX5_makeVersion_115 : decode cX5_makeVersion 115 = .ok (.aload 5, 2) := by decide +kernel
theorem dX5_makeVersion_117 : decode cX5_makeVersion 117 = .ok (.getfield 130, 3) := by decide +kernel
theorem dX5_makeVersion_120 : decode cX5_makeVersion 120 = .ok (.areturn, 1) := by decide +kernel
theorem dX5_baseOf_0 : decode cX5_baseOf 0 = .ok (.aload_n 0, 1) := by decide +kernel
theorem dX5_baseOf_1 : decode cX5_baseOf 1 = .ok (.getfield 11, 3) := by decide +kernel
theorem dX5_baseOf_4 : decode cX5_baseOf 4 = .ok (.aload_n 0, 1) := by decide +kernel
theorem dX5_baseOf_5 : decode cX5_baseOf 5 = .ok (.getfield 15, 3) := by decide +kernel
theorem dX5_baseOf_8 : decode cX5_baseOf 8 = .ok (.iload_n 1, 1) := by decide +kernel
theorem dX5_baseOf_9 : decode cX5_baseOf 9 = .ok (.iaload, 1) := by decide +kernel
theorem dX5_baseOf_10 : decode cX5_baseOf 10 = .ok (.aaload, 1) := by decide +kernel
theorem dX5_baseOf_11 : decode cX5_baseOf 11 = .ok (.getfield 44, 3) := by decide +kernel
theorem dX5_baseOf_14 : decode cX5_baseOf 14 = .ok (.aload_n 0, 1) := by decide +kernel
theorem dX5_baseOf_15 : decode cX5_baseOf 15 = .ok (.getfield 11, 3) := by decide +kernel
theorem dX5_baseOf_18 : decode cX5_baseOf 18 = .ok (.aload_n 0, 1) := by decide +kernel
theorem dX5_baseOf_19 : decode cX5_baseOf 19 = .ok (.getfield 15, 3) := by decide +kernel
theorem dX5_baseOf_22 : decode cX5_baseOf 22 = .ok (.iload_n 2, 1) := by decide +kernel
theorem dX5_baseOf_23 : decode cX5_baseOf 23 = .ok (.iaload, 1) := by decide +kernel
theorem dX5_baseOf_24 : decode cX5_baseOf 24 = .ok (.aaload, 1) := by decide +kernel
theorem dX5_baseOf_25 : decode cX5_baseOf 25 = .ok (.getfield 44, 3) := by decide +kernel
theorem dX5_baseOf_28 : decode cX5_baseOf 28 = .ok (.land, 1) := by decide +kernel
theorem dX5_baseOf_29 : decode cX5_baseOf 29 = .ok (.lstore_n 3, 1) := by decide +kernel
theorem dX5_baseOf_30 : decode cX5_baseOf 30 = .ok (.aload_n 0, 1) := by decide +kernel
theorem dX5_baseOf_31 : decode cX5_baseOf 31 = .ok (.getfield 48, 3) := by decide +kernel
theorem dX5_baseOf_34 : decode cX5_baseOf 34 = .ok (.iconst 1, 1) := by decide +kernel
theorem dX5_baseOf_35 : decode cX5_baseOf 35 = .ok (.isub, 1) := by decide +kernel
theorem dX5_baseOf_36 : decode cX5_baseOf 36 = .ok (.istore 5, 2) := by decide +kernel
theorem dX5_baseOf_38 : decode cX5_baseOf 38 = .ok (.iload 5, 2) := by decide +kernel
theorem dX5_baseOf_40 : decode cX5_baseOf 40 = .ok (.ifCond .le 20, 3) := by decide +kernel
theorem dX5_baseOf_43 : decode cX5_baseOf 43 = .ok (.lload_n 3, 1) := by decide +kernel
theorem dX5_baseOf_44 : decode cX5_baseOf 44 = .ok (.iload 5, 2) := by decide +kernel
theorem dX5_baseOf_46 : decode cX5_baseOf 46 = .ok (.lshr, 1) := by decide +kernel
theorem dX5_baseOf_47 : decode cX5_baseOf 47 = .ok (.lconst 1, 1) := by decide +kernel
theorem dX5_baseOf_48 : decode cX5_baseOf 48 = .ok (.land, 1) := by decide +kernel
theorem dX5_baseOf_49 : decode cX5_baseOf 49 = .ok (.lconst 0, 1) := by decide +kernel
theorem dX5_baseOf_50 : decode cX5_baseOf 50 = .ok (.lcmp, 1) := by decide +kernel
theorem dX5_baseOf_51 : decode cX5_baseOf 51 = .ok (.ifCond .ne 9, 3) := by decide +kernel
theorem dX5_baseOf_54 : decode cX5_baseOf 54 = .ok (.iinc 5 (-1), 3) := by decide +kernel
theorem dX5_baseOf_57 : decode cX5_baseOf 57 = .ok (.goto (-19), 3) := by decide +kernel
theorem dX5_baseOf_60 : decode cX5_baseOf 60 = .ok (.iload 5, 2) := by decide +kernel
theorem dX5_baseOf_62 : decode cX5_baseOf 62 = .ok (.ireturn, 1) := by decide +kernel
set_option maxRecDepth 20000 in
theorem ggX5_mergeOf_X5_baseOf : GoodIn wsX5_mergeOf wsX5_baseOf := goodIn_r _ [10, 4, 11, 12, 13, 30, 31, 32, 33, 34, 35, 36, 37, 38, 39, 40, 41, 42, 43, 44, 45, 46] (by decide +kernel) (by decide +kernel)
set_option maxRecDepth 20000 in
theorem gX5_mergeOf_X5_baseOf : GoodIn wsX5_mergeOf (wsV RX5 155 RX5 yX5_baseOf wsX5_baseOf) := goodIn_app (goodIn_of _ (by decide +kernel)) ggX5_mergeOf_X5_baseOf
set_option maxRecDepth 20000 in
theorem ggX5_mergeOf_X5_headDeck : GoodIn wsX5_mergeOf wsX5_headDeck := goodIn_r _ [17, 4, 11, 5, 30, 31, 32, 33, 34, 35, 36, 37, 38, 39, 40, 41, 42, 43, 44, 45, 46] (by decide +kernel) (by decide +kernel)
set_option maxRecDepth 20000 in
theorem gX5_mergeOf_X5_headDeck : GoodIn wsX5_mergeOf (wsV RX5 69 RX5 yX5_headDeck wsX5_headDeck) := goodIn_app (goodIn_of _ (by decide +kernel)) ggX5_mergeOf_X5_headDeck
set_option maxRecDepth 20000 in
theorem ggX5_mergeOf_X1_init : GoodIn wsX5_mergeOf wsX1_init := goodIn_r _ [20, 21, 22, 23, 24, 25, 26, 27, 28, 29] (by decide +kernel) (by decide +kernel)
set_option maxRecDepth 20000 in
theorem gX5_mergeOf_X1_init : GoodIn wsX5_mergeOf (wsX1_init) := ggX5_mergeOf_X1_init
theorem dX5_mergeOf_0 : decode cX5_mergeOf 0 = .ok (.new 163, 3) := by decide +kernel
theorem dX5_mergeOf_3 : decode cX5_mergeOf 3 = .ok (.dup, 1) := by decide +kernel
theorem dX5_mergeOf_4 : decode cX5_mergeOf 4 = .ok (.aload_n 0, 1) := by decide +kernel
theorem dX5_mergeOf_5 : decode cX5_mergeOf 5 = .ok (.getfield 11, 3) := by decide +kernel
theorem dX5_mergeOf_8 : decode cX5_mergeOf 8 = .ok (.aload_n 0, 1) := by decide +kernel
theorem dX5_mergeOf_9 : decode cX5_mergeOf 9 = .ok (.iload_n 1, 1) := by decide +kernel
theorem dX5_mergeOf_10 : decode cX5_mergeOf 10 = .ok (.iload_n 2, 1) := by decide +kernel
theorem dX5_mergeOf_11 : decode cX5_mergeOf 11 = .ok (.invokevirtual 155, 3) := by decide +kernel
theorem dX5_mergeOf_14 : decode cX5_mergeOf 14 = .ok (.aaload, 1) := by decide +kernel
theorem dX5_mergeOf_15 : decode cX5_mergeOf 15 = .ok (.getfield 130, 3) := by decide +kernel
theorem dX5_mergeOf_18 : decode cX5_mergeOf 18 = .ok (.aload_n 0, 1) := by decide +kernel
theorem dX5_mergeOf_19 : decode cX5_mergeOf 19 = .ok (.iload_n 1, 1) := by decide +kernel
theorem dX5_mergeOf_20 : decode cX5_mergeOf 20 = .ok (.invokevirtual 69, 3) := by decide +kernel
theorem dX5_mergeOf_23 : decode cX5_mergeOf 23 = .ok (.aload_n 0, 1) := by decide +kernel
theorem dX5_mergeOf_24 : decode cX5_mergeOf 24 = .ok (.iload_n 2, 1) := by decide +kernel
theorem dX5_mergeOf_25 : decode cX5_mergeOf 25 = .ok (.invokevirtual 69, 3) := by decide +kernel
theorem dX5_mergeOf_28 : decode cX5_mergeOf 28 = .ok (.invokespecial 279, 3) := by decide +kernel
theorem dX5_mergeOf_31 : decode cX5_mergeOf 31 = .ok (.areturn, 1) := by decide +kernel
set_option maxRecDepth 20000 in
theorem ggX5_countBlocks_X5_countBlocksAt : GoodIn wsX5_countBlocks wsX5_countBlocksAt := goodIn_r _ [6, 7, 8, 9, 10, 11, 12, 13, 14, 15, 16, 17, 18, 19, 20, 21, 22, 23, 24, 25, 26, 5, 27, 28, 29, 30, 31, 32, 33, 34, 35, 36, 37, 38, 42, 43, 44, 45, 46, 47, 48, 49, 50, 51, 52, 53, 39, 40, 41, 54, 55, 56, 57, 58, 59, 60] (by decide +kernel) (by decide +kernel)
set_option maxRecDepth 20000 in
theorem gX5_countBlocks_X5_countBlocksAt : GoodIn wsX5_countBlocks (wsV RX5 250 RX5 yX5_countBlocksAt wsX5_countBlocksAt) := goodIn_app (goodIn_of _ (by decide +kernel)) ggX5_countBlocks_X5_countBlocksAt
theorem dX5_countBlocks_0 : decode cX5_countBlocks 0 = .ok (.iconst 0, 1) := by decide +kernel
theorem dX5_countBlocks_1 : decode cX5_countBlocks 1 = .ok (.istore_n 2, 1) := by decide +kernel
theorem dX5_countBlocks_2 : decode cX5_countBlocks 2 = .ok (.iconst 0, 1) := by decide +kernel
theorem dX5_countBlocks_3 : decode cX5_countBlocks 3 = .ok (.istore_n 3, 1) := by decide +kernel
theorem dX5_countBlocks_4 : decode cX5_countBlocks 4 = .ok (.iload_n 3, 1) := by decide +kernel
theorem dX5_countBlocks_5 : decode cX5_countBlocks 5 = .ok (.aload_n 1, 1) := by decide +kernel
theorem dX5_countBlocks_6 : decode cX5_countBlocks 6 = .ok (.getfield 73, 3) := by decide +kernel
theorem dX5_countBlocks_9 : decode cX5_countBlocks 9 = .ok (.if_icmp .ge 18, 3) := by decide +kernel
theorem dX5_countBlocks_12 : decode cX5_countBlocks 12 = .ok (.iload_n 2, 1) := by decide +kernel
theorem dX5_countBlocks_13 : decode cX5_countBlocks 13 = .ok (.aload_n 0, 1) := by decide +kernel
theorem dX5_countBlocks_14 : decode cX5_countBlocks 14 = .ok (.aload_n 1, 1) := by decide +kernel
theorem dX5_countBlocks_15 : decode cX5_countBlocks 15 = .ok (.iload_n 3, 1) := by decide +kernel
theorem dX5_countBlocks_16 : decode cX5_countBlocks 16 = .ok (.invokevirtual 250, 3) := by decide +kernel
theorem dX5_countBlocks_19 : decode cX5_countBlocks 19 = .ok (.iadd, 1) := by decide +kernel
theorem dX5_countBlocks_20 : decode cX5_countBlocks 20 = .ok (.istore_n 2, 1) := by decide +kernel
theorem dX5_countBlocks_21 : decode cX5_countBlocks 21 = .ok (.iinc 3 1, 3) := by decide +kernel
theorem dX5_countBlocks_24 : decode cX5_countBlocks 24 = .ok (.goto (-20), 3) := by decide +kernel
theorem dX5_countBlocks_27 : decode cX5_countBlocks 27 = .ok (.iload_n 2, 1) := by decide +kernel
theorem dX5_countBlocks_28 : decode cX5_countBlocks 28 = .ok (.ireturn, 1) := by decide +kernel
set_option maxRecDepth 20000 in
theorem ggX5_countBlocksAt_X2_isBrokenAt : GoodIn wsX5_countBlocksAt wsX2_isBrokenAt := goodIn_r _ [8, 9, 10, 11, 12, 13, 14, 15, 16, 17, 49, 50, 51, 52, 46, 47, 48] (by decide +kernel) (by decide +kernel)
set_option maxRecDepth 20000 in
theorem gX5_countBlocksAt_X2_isBrokenAt : GoodIn wsX5_countBlocksAt (wsV RX5 246 RX2 yX2_isBrokenAt wsX2_isBrokenAt) := goodIn_app (goodIn_of _ (by decide +kernel)) ggX5_countBlocksAt_X2_isBrokenAt
set_option maxRecDepth 20000 in
theorem ggX5_countBlocksAt_X5_isBlocking : GoodIn wsX5_countBlocksAt wsX5_isBlocking := goodIn_r _ [22, 2, 23, 24, 25, 26, 21, 27, 28, 29, 30, 31, 32, 33, 34, 35, 36, 37, 38, 39, 40, 41, 42, 43, 44, 45, 49, 50, 51, 52, 53, 54, 55] (by decide +kernel) (by decide +kernel)
set_option maxRecDepth 20000 in
theorem gX5_countBlocksAt_X5_isBlocking : GoodIn wsX5_countBlocksAt (wsV RX5 282 RX5 yX5_isBlocking wsX5_isBlocking) := goodIn_app (goodIn_of _ (by decide +kernel)) ggX5_countBlocksAt_X5_isBlocking
theorem dX5_countBlocksAt_0 : decode cX5_countBlocksAt 0 = .ok (.iconst 0, 1) := by decide +kernel
theorem dX5_countBlocksAt_1 : decode cX5_countBlocksAt 1 = .ok (.istore_n 3, 1) := by decide +kernel
theorem dX5_countBlocksAt_2 : decode cX5_countBlocksAt 2 = .ok (.iconst 0, 1) := by decide +kernel
theorem dX5_countBlocksAt_3 : decode cX5_countBlocksAt 3 = .ok (.istore 4, 2) := by decide +kernel
theorem dX5_countBlocksAt_5 : decode cX5_countBlocksAt 5 = .ok (.iload 4, 2) := by decide +kernel
theorem dX5_countBlocksAt_7 : decode cX5_countBlocksAt 7 = .ok (.aload_n 0, 1) := by decide +kernel
theorem dX5_countBlocksAt_8 : decode cX5_countBlocksAt 8 = .ok (.getfield 199, 3) := by decide +kernel
theorem dX5_countBlocksAt_11 : decode cX5_countBlocksAt 11 = .ok (.if_icmp .ge 42, 3) := by decide +kernel
theorem dX5_countBlocksAt_14 : decode cX5_countBlocksAt 14 = .ok (.aload_n 0, 1) := by decide +kernel
theorem dX5_countBlocksAt_15 : decode cX5_countBlocksAt 15 = .ok (.getfield 24, 3) := by decide +kernel
theorem dX5_countBlocksAt_18 : decode cX5_countBlocksAt 18 = .ok (.iload 4, 2) := by decide +kernel
theorem dX5_countBlocksAt_20 : decode cX5_countBlocksAt 20 = .ok (.aaload, 1) := by decide +kernel
theorem dX5_countBlocksAt_21 : decode cX5_countBlocksAt 21 = .ok (.aload_n 1, 1) := by decide +kernel
theorem dX5_countBlocksAt_22 : decode cX5_countBlocksAt 22 = .ok (.iload_n 2, 1) := by decide +kernel
theorem dX5_countBlocksAt_23 : decode cX5_countBlocksAt 23 = .ok (.invokevirtual 246, 3) := by decide +kernel
theorem dX5_countBlocksAt_26 : decode cX5_countBlocksAt 26 = .ok (.ifCond .eq 21, 3) := by decide +kernel
theorem dX5_countBlocksAt_29 : decode cX5_countBlocksAt 29 = .ok (.aload_n 0, 1) := by decide +kernel
theorem dX5_countBlocksAt_30 : decode cX5_countBlocksAt 30 = .ok (.iload 4, 2) := by decide +kernel
theorem dX5_countBlocksAt_32 : decode cX5_countBlocksAt 32 = .ok (.aload_n 1, 1) := by decide +kernel
theorem dX5_countBlocksAt_33 : decode cX5_countBlocksAt 33 = .ok (.getfield 149, 3) := by decide +kernel
theorem dX5_countBlocksAt_36 : decode cX5_countBlocksAt 36 = .ok (.iload_n 2, 1) := by decide +kernel
theorem dX5_countBlocksAt_37 : decode cX5_countBlocksAt 37 = .ok (.iaload, 1) := by decide +kernel
theorem dX5_countBlocksAt_38 : decode cX5_countBlocksAt 38 = .ok (.invokevirtual 282, 3) := by decide +kernel
theorem dX5_countBlocksAt_41 : decode cX5_countBlocksAt 41 = .ok (.ifCond .eq 6, 3) := by decide +kernel
theorem dX5_countBlocksAt_44 : decode cX5_countBlocksAt 44 = .ok (.iinc 3 1, 3) := by decide +kernel
theorem dX5_countBlocksAt_47 : decode cX5_countBlocksAt 47 = .ok (.iinc 4 1, 3) := by decide +kernel
theorem dX5_countBlocksAt_50 : decode cX5_countBlocksAt 50 = .ok (.goto (-45), 3) := by decide +kernel
theorem dX5_countBlocksAt_53 : decode cX5_countBlocksAt 53 = .ok (.iload_n 3, 1) := by decide +kernel
theorem dX5_countBlocksAt_54 : decode cX5_countBlocksAt 54 = .ok (.ireturn, 1) := by decide +kernel
set_option maxRecDepth 20000 in
theorem ggX5_isBlocking_X5_isWaived : GoodIn wsX5_isBlocking wsX5_isWaived := goodIn_r _ [7, 8, 9, 10, 11, 12, 13, 14, 15, 16, 17, 18, 19, 20, 21, 22, 23, 24, 25, 30, 31, 32] (by decide +kernel) (by decide +kernel)
set_option maxRecDepth 20000 in
theorem gX5_isBlocking_X5_isWaived : GoodIn wsX5_isBlocking (wsV RX5 286 RX5 yX5_isWaived wsX5_isWaived) := goodIn_app (goodIn_of _ (by decide +kernel)) ggX5_isBlocking_X5_isWaived
theorem dX5_isBlocking_0 : decode cX5_isBlocking 0 = .ok (.aload_n 0, 1) := by decide +kernel
theorem dX5_isBlocking_1 : decode cX5_isBlocking 1 = .ok (.getfield 24, 3) := by decide +kernel
theorem dX5_isBlocking_4 : decode cX5_isBlocking 4 = .ok (.iload_n 1, 1) := by decide +kernel
theorem dX5_isBlocking_5 : decode cX5_isBlocking 5 = .ok (.aaload, 1) := by decide +kernel
theorem dX5_isBlocking_6 : decode cX5_isBlocking 6 = .ok (.getfield 204, 3) := by decide +kernel
theorem dX5_isBlocking_9 : decode cX5_isBlocking 9 = .ok (.istore_n 3, 1) := by decide +kernel
theorem dX5_isBlocking_10 : decode cX5_isBlocking 10 = .ok (.iload_n 3, 1) := by decide +kernel
theorem dX5_isBlocking_11 : decode cX5_isBlocking 11 = .ok (.ifCond .eq 17, 3) := by decide +kernel
theorem dX5_isBlocking_14 : decode cX5_isBlocking 14 = .ok (.iload_n 3, 1) := by decide +kernel
theorem dX5_isBlocking_15 : decode cX5_isBlocking 15 = .ok (.iconst 1, 1) := by decide +kernel
theorem dX5_isBlocking_16 : decode cX5_isBlocking 16 = .ok (.if_icmp .ne 16, 3) := by decide +kernel
theorem dX5_isBlocking_19 : decode cX5_isBlocking 19 = .ok (.aload_n 0, 1) := by decide +kernel
theorem dX5_isBlocking_20 : decode cX5_isBlocking 20 = .ok (.iload_n 1, 1) := by decide +kernel
theorem dX5_isBlocking_21 : decode cX5_isBlocking 21 = .ok (.iload_n 2, 1) := by decide +kernel
theorem dX5_isBlocking_22 : decode cX5_isBlocking 22 = .ok (.invokevirtual 286, 3) := by decide +kernel
theorem dX5_isBlocking_25 : decode cX5_isBlocking 25 = .ok (.ifCond .ne 7, 3) := by decide +kernel
theorem dX5_isBlocking_28 : decode cX5_isBlocking 28 = .ok (.iconst 1, 1) := by decide +kernel
theorem dX5_isBlocking_29 : decode cX5_isBlocking 29 = .ok (.goto 4, 3) := by decide +kernel
theorem dX5_isBlocking_32 : decode cX5_isBlocking 32 = .ok (.iconst 0, 1) := by decide +kernel
theorem dX5_isBlocking_33 : decode cX5_isBlocking 33 = .ok (.ireturn, 1) := by decide +kernel
theorem dX5_isWaived_0 : decode cX5_isWaived 0 = .ok (.iconst 0, 1) := by decide +kernel
theorem dX5_isWaived_1 : decode cX5_isWaived 1 = .ok (.istore_n 3, 1) := by decide +kernel
theorem dX5_isWaived_2 : decode cX5_isWaived 2 = .ok (.iload_n 3, 1) := by decide +kernel
theorem dX5_isWaived_3 : decode cX5_isWaived 3 = .ok (.aload_n 0, 1) := by decide +kernel
theorem dX5_isWaived_4 : decode cX5_isWaived 4 = .ok (.getfield 232, 3) := by decide +kernel
theorem dX5_isWaived_7 : decode cX5_isWaived 7 = .ok (.if_icmp .ge 49, 3) := by decide +kernel
theorem dX5_isWaived_10 : decode cX5_isWaived 10 = .ok (.aload_n 0, 1) := by decide +kernel
theorem dX5_isWaived_11 : decode cX5_isWaived 11 = .ok (.getfield 30, 3) := by decide +kernel
theorem dX5_isWaived_14 : decode cX5_isWaived 14 = .ok (.iload_n 3, 1) := by decide +kernel
theorem dX5_isWaived_15 : decode cX5_isWaived 15 = .ok (.aaload, 1) := by decide +kernel
theorem dX5_isWaived_16 : decode cX5_isWaived 16 = .ok (.astore 4, 2) := by decide +kernel
theorem dX5_isWaived_18 : decode cX5_isWaived 18 = .ok (.aload 4, 2) := by decide +kernel
theorem dX5_isWaived_20 : decode cX5_isWaived 20 = .ok (.getfield 237, 3) := by decide +kernel
theorem dX5_isWaived_23 : decode cX5_isWaived 23 = .ok (.iload_n 1, 1) := by decide +kernel
theorem dX5_isWaived_24 : decode cX5_isWaived 24 = .ok (.if_icmp .ne 26, 3) := by decide +kernel
theorem dX5_isWaived_27 : decode cX5_isWaived 27 = .ok (.aload 4, 2) := by decide +kernel
theorem dX5_isWaived_29 : decode cX5_isWaived 29 = .ok (.getfield 240, 3) := by decide +kernel
theorem dX5_isWaived_32 : decode cX5_isWaived 32 = .ok (.iload_n 2, 1) := by decide +kernel
theorem dX5_isWaived_33 : decode cX5_isWaived 33 = .ok (.if_icmp .ne 17, 3) := by decide +kernel
theorem dX5_isWaived_36 : decode cX5_isWaived 36 = .ok (.aload 4, 2) := by decide +kernel
theorem dX5_isWaived_38 : decode cX5_isWaived 38 = .ok (.getfield 243, 3) := by decide +kernel
theorem dX5_isWaived_41 : decode cX5_isWaived 41 = .ok (.aload_n 0, 1) := by decide +kernel
theorem dX5_isWaived_42 : decode cX5_isWaived 42 = .ok (.getfield 225, 3) := by decide +kernel
theorem dX5_isWaived_45 : decode cX5_isWaived 45 = .ok (.if_icmp .lt 5, 3) := by decide +kernel
theorem dX5_isWaived_48 : decode cX5_isWaived 48 = .ok (.iconst 1, 1) := by decide +kernel
theorem dX5_isWaived_49 : decode cX5_isWaived 49 = .ok (.ireturn, 1) := by decide +kernel
theorem dX5_isWaived_50 : decode cX5_isWaived 50 = .ok (.iinc 3 1, 3) := by decide +kernel
theorem dX5_isWaived_53 : decode cX5_isWaived 53 = .ok (.goto (-51), 3) := by decide +kernel
theorem dX5_isWaived_56 : decode cX5_isWaived 56 = .ok (.iconst 0, 1) := by decide +kernel
theorem dX5_isWaived_57 : decode cX5_isWaived 57 = .ok (.ireturn, 1) := by decide +kernel
set_option maxRecDepth 20000 in
theorem ggX5_blockedVersions_X5_countBlocks : GoodIn wsX5_blockedVersions wsX5_countBlocks := goodIn_r _ [8, 9, 10, 11, 12, 7, 13, 14, 15, 16, 17, 18, 19, 20, 21, 22, 23, 24, 25, 26, 27, 28, 29, 30, 31, 32, 33, 34, 35, 36, 37, 38, 39, 40, 41, 42, 43, 44, 45, 63, 64, 65, 46, 47, 48, 49, 50, 51, 52, 53, 54, 55, 56, 57, 66, 67, 68, 69, 70, 71, 72] (by decide +kernel) (by decide +kernel)
set_option maxRecDepth 20000 in
theorem gX5_blockedVersions_X5_countBlocks : GoodIn wsX5_blockedVersions (wsV RX5 185 RX5 yX5_countBlocks wsX5_countBlocks) := goodIn_app (goodIn_of _ (by decide +kernel)) ggX5_blockedVersions_X5_countBlocks
theorem dX5_blockedVersions_0 : decode cX5_blockedVersions 0 = .ok (.lconst 0, 1) := by decide +kernel
theorem dX5_blockedVersions_1 : decode cX5_blockedVersions 1 = .ok (.lstore_n 1, 1) := by decide +kernel
theorem dX5_blockedVersions_2 : decode cX5_blockedVersions 2 = .ok (.iconst 0, 1) := by decide +kernel
theorem dX5_blockedVersions_3 : decode cX5_blockedVersions 3 = .ok (.istore_n 3, 1) := by decide +kernel
theorem dX5_blockedVersions_4 : decode cX5_blockedVersions 4 = .ok (.iload_n 3, 1) := by decide +kernel
theorem dX5_blockedVersions_5 : decode cX5_blockedVersions 5 = .ok (.aload_n 0, 1) := by decide +kernel
theorem dX5_blockedVersions_6 : decode cX5_blockedVersions 6 = .ok (.getfield 48, 3) := by decide +kernel
theorem dX5_blockedVersions_9 : decode cX5_blockedVersions 9 = .ok (.if_icmp .ge 31, 3) := by decide +kernel
theorem dX5_blockedVersions_12 : decode cX5_blockedVersions 12 = .ok (.aload_n 0, 1) := by decide +kernel
theorem dX5_blockedVersions_13 : decode cX5_blockedVersions 13 = .ok (.aload_n 0, 1) := by decide +kernel
theorem dX5_blockedVersions_14 : decode cX5_blockedVersions 14 = .ok (.getfield 11, 3) := by decide +kernel
theorem dX5_blockedVersions_17 : decode cX5_blockedVersions 17 = .ok (.iload_n 3, 1) := by decide +kernel
theorem dX5_blockedVersions_18 : decode cX5_blockedVersions 18 = .ok (.aaload, 1) := by decide +kernel
theorem dX5_blockedVersions_19 : decode cX5_blockedVersions 19 = .ok (.getfield 130, 3) := by decide +kernel
theorem dX5_blockedVersions_22 : decode cX5_blockedVersions 22 = .ok (.invokevirtual 185, 3) := by decide +kernel
theorem dX5_blockedVersions_25 : decode cX5_blockedVersions 25 = .ok (.ifCond .le 9, 3) := by decide +kernel
theorem dX5_blockedVersions_28 : decode cX5_blockedVersions 28 = .ok (.lload_n 1, 1) := by decide +kernel
theorem dX5_blockedVersions_29 : decode cX5_blockedVersions 29 = .ok (.lconst 1, 1) := by decide +kernel
theorem dX5_blockedVersions_30 : decode cX5_blockedVersions 30 = .ok (.iload_n 3, 1) := by decide +kernel
theorem dX5_blockedVersions_31 : decode cX5_blockedVersions 31 = .ok (.lshl, 1) := by decide +kernel
theorem dX5_blockedVersions_32 : decode cX5_blockedVersions 32 = .ok (.lor, 1) := by decide +kernel
theorem dX5_blockedVersions_33 : decode cX5_blockedVersions 33 = .ok (.lstore_n 1, 1) := by decide +kernel
theorem dX5_blockedVersions_34 : decode cX5_blockedVersions 34 = .ok (.iinc 3 1, 3) := by decide +kernel
theorem dX5_blockedVersions_37 : decode cX5_blockedVersions 37 = .ok (.goto (-33), 3) := by decide +kernel
theorem dX5_blockedVersions_40 : decode cX5_blockedVersions 40 = .ok (.lload_n 1, 1) := by decide +kernel
theorem dX5_blockedVersions_41 : decode cX5_blockedVersions 41 = .ok (.lreturn, 1) := by decide +kernel
theorem dX6_init_0 : decode cX6_init 0 = .ok (.aload_n 0, 1) := by decide +kernel
theorem dX6_init_1 : decode cX6_init 1 = .ok (.invokespecial 1, 3) := by decide +kernel
theorem dX6_init_4 : decode cX6_init 4 = .ok (.aload_n 0, 1) := by decide +kernel
theorem dX6_init_5 : decode cX6_init 5 = .ok (.iconst 1, 1) := by decide +kernel
theorem dX6_init_6 : decode cX6_init 6 = .ok (.putfield 7, 3) := by decide +kernel
theorem dX6_init_9 : decode cX6_init 9 = .ok (.aload_n 0, 1) := by decide +kernel
theorem dX6_init_10 : decode cX6_init 10 = .ok (.bipush 40, 2) := by decide +kernel
theorem dX6_init_12 : decode cX6_init 12 = .ok (.newarray .int, 2) := by decide +kernel
theorem dX6_init_14 : decode cX6_init 14 = .ok (.putfield 13, 3) := by decide +kernel
theorem dX6_init_17 : decode cX6_init 17 = .ok (.aload_n 0, 1) := by decide +kernel
theorem dX6_init_18 : decode cX6_init 18 = .ok (.bipush 40, 2) := by decide +kernel
theorem dX6_init_20 : decode cX6_init 20 = .ok (.newarray .int, 2) := by decide +kernel
theorem dX6_init_22 : decode cX6_init 22 = .ok (.putfield 17, 3) := by decide +kernel
theorem dX6_init_25 : decode cX6_init 25 = .ok (.aload_n 0, 1) := by decide +kernel
theorem dX6_init_26 : decode cX6_init 26 = .ok (.bipush 40, 2) := by decide +kernel
theorem dX6_init_28 : decode cX6_init 28 = .ok (.newarray .int, 2) := by decide +kernel
theorem dX6_init_30 : decode cX6_init 30 = .ok (.putfield 20, 3) := by decide +kernel
theorem dX6_init_33 : decode cX6_init 33 = .ok (.aload_n 0, 1) := by decide +kernel
theorem dX6_init_34 : decode cX6_init 34 = .ok (.bipush 40, 2) := by decide +kernel
theorem dX6_init_36 : decode cX6_init 36 = .ok (.newarray .int, 2) := by decide +kernel
theorem dX6_init_38 : decode cX6_init 38 = .ok (.putfield 23, 3) := by decide +kernel
theorem dX6_init_41 : decode cX6_init 41 = .ok (.aload_n 0, 1) := by decide +kernel
theorem dX6_init_42 : decode cX6_init 42 = .ok (.sipush 320, 3) := by decide +kernel
theorem dX6_init_45 : decode cX6_init 45 = .ok (.newarray .int, 2) := by decide +kernel
theorem dX6_init_47 : decode cX6_init 47 = .ok (.putfield 26, 3) := by decide +kernel
theorem dX6_init_50 : decode cX6_init 50 = .ok (.aload_n 0, 1) := by decide +kernel
theorem dX6_init_51 : decode cX6_init 51 = .ok (.sipush 1280, 3) := by decide +kernel
theorem dX6_init_54 : decode cX6_init 54 = .ok (.newarray .int, 2) := by decide +kernel
theorem dX6_init_56 : decode cX6_init 56 = .ok (.putfield 29, 3) := by decide +kernel
theorem dX6_init_59 : decode cX6_init 59 = .ok (.aload_n 0, 1) := by decide +kernel
theorem dX6_init_60 : decode cX6_init 60 = .ok (.iconst 1, 1) := by decide +kernel
theorem dX6_init_61 : decode cX6_init 61 = .ok (.putfield 32, 3) := by decide +kernel
theorem dX6_init_64 : decode cX6_init 64 = .ok (.aload_n 0, 1) := by decide +kernel
theorem dX6_init_65 : decode cX6_init 65 = .ok (.bipush 6, 2) := by decide +kernel
theorem dX6_init_67 : decode cX6_init 67 = .ok (.newarray .int, 2) := by decide +kernel
theorem dX6_init_69 : decode cX6_init 69 = .ok (.putfield 35, 3) := by decide +kernel
theorem dX6_init_72 : decode cX6_init 72 = .ok (.aload_n 0, 1) := by decide +kernel
theorem dX6_init_73 : decode cX6_init 73 = .ok (.bipush 6, 2) := by decide +kernel
theorem dX6_init_75 : decode cX6_init 75 = .ok (.newarray .int, 2) := by decide +kernel
theorem dX6_init_77 : decode cX6_init 77 = .ok (.putfield 38, 3) := by decide +kernel
theorem dX6_init_80 : decode cX6_init 80 = .ok (.aload_n 0, 1) := by decide +kernel
theorem dX6_init_81 : decode cX6_init 81 = .ok (.bipush 8, 2) := by decide +kernel
theorem dX6_init_83 : decode cX6_init 83 = .ok (.newarray .int, 2) := by decide +kernel
theorem dX6_init_85 : decode cX6_init 85 = .ok (.putfield 41, 3) := by decide +kernel
theorem dX6_init_88 : decode cX6_init 88 = .ok (.aload_n 0, 1) := by decide +kernel
theorem dX6_init_89 : decode cX6_init 89 = .ok (.bipush 8, 2) := by decide +kernel
theorem dX6_init_91 : decode cX6_init 91 = .ok (.newarray .int, 2) := by decide +kernel
theorem dX6_init_93 : decode cX6_init 93 = .ok (.putfield 44, 3) := by decide +kernel
theorem dX6_init_96 : decode cX6_init 96 = .ok (.aload_n 0, 1) := by decide +kernel
theorem dX6_init_97 : decode cX6_init 97 = .ok (.bipush 8, 2) := by decide +kernel
theorem dX6_init_99 : decode cX6_init 99 = .ok (.newarray .int, 2) := by decide +kernel
theorem dX6_init_101 : decode cX6_init 101 = .ok (.putfield 47, 3) := by decide +kernel
theorem dX6_init_104 : decode cX6_init 104 = .ok (.aload_n 0, 1) := by decide +kernel
theorem dX6_init_105 : decode cX6_init 105 = .ok (.bipush 8, 2) := by decide +kernel
theorem dX6_init_107 : decode cX6_init 107 = .ok (.newarray .int, 2) := by decide +kernel
theorem dX6_init_109 : decode cX6_init 109 = .ok (.putfield 50, 3) := by decide +kernel
theorem dX6_init_112 : decode cX6_init 112 = .ok (.aload_n 0, 1) := by decide +kernel
theorem dX6_init_113 : decode cX6_init 113 = .ok (.bipush 12, 2) := by decide +kernel
theorem dX6_init_115 : decode cX6_init 115 = .ok (.newarray .int, 2) := by decide +kernel
theorem dX6_init_117 : decode cX6_init 117 = .ok (.putfield 53, 3) := by decide +kernel
theorem dX6_init_120 : decode cX6_init 120 = .ok (.aload_n 0, 1) := by decide +kernel
theorem dX6_init_121 : decode cX6_init 121 = .ok (.bipush 12, 2) := by decide +kernel
theorem dX6_init_123 : decode cX6_init 123 = .ok (.newarray .int, 2) := by decide +kernel
theorem dX6_init_125 : decode cX6_init 125 = .ok (.putfield 56, 3) := by decide +kernel
theorem dX6_init_128 : decode cX6_init 128 = .ok (.aload_n 0, 1) := by decide +kernel
theorem dX6_init_129 : decode cX6_init 129 = .ok (.bipush 12, 2) := by decide +kernel
theorem dX6_init_131 : decode cX6_init 131 = .ok (.newarray .int, 2) := by decide +kernel
theorem dX6_init_133 : decode cX6_init 133 = .ok (.putfield 59, 3) := by decide +kernel
theorem dX6_init_136 : decode cX6_init 136 = .ok (.aload_n 0, 1) := by decide +kernel
theorem dX6_init_137 : decode cX6_init 137 = .ok (.bipush 20, 2) := by decide +kernel
theorem dX6_init_139 : decode cX6_init 139 = .ok (.newarray .int, 2) := by decide +kernel
theorem dX6_init_141 : decode cX6_init 141 = .ok (.putfield 62, 3) := by decide +kernel
theorem dX6_init_144 : decode cX6_init 144 = .ok (.aload_n 0, 1) := by decide +kernel
theorem dX6_init_145 : decode cX6_init 145 = .ok (.bipush 80, 2) := by decide +kernel
theorem dX6_init_147 : decode cX6_init 147 = .ok (.newarray .int, 2) := by decide +kernel
theorem dX6_init_149 : decode cX6_init 149 = .ok (.putfield 65, 3) := by decide +kernel
theorem dX6_init_152 : decode cX6_init 152 = .ok (.aload_n 0, 1) := by decide +kernel
theorem dX6_init_153 : decode cX6_init 153 = .ok (.bipush 40, 2) := by decide +kernel
theorem dX6_init_155 : decode cX6_init 155 = .ok (.newarray .boolean, 2) := by decide +kernel
theorem dX6_init_157 : decode cX6_init 157 = .ok (.putfield 68, 3) := by decide +kernel
theorem dX6_init_160 : decode cX6_init 160 = .ok (.aload_n 0, 1) := by decide +kernel
theorem dX6_init_161 : decode cX6_init 161 = .ok (.bipush 40, 2) := by decide +kernel
theorem dX6_init_163 : decode cX6_init 163 = .ok (.newarray .boolean, 2) := by decide +kernel
theorem dX6_init_165 : decode cX6_init 165 = .ok (.putfield 72, 3) := by decide +kernel
theorem dX6_init_168 : decode cX6_init 168 = .ok (.aload_n 0, 1) := by decide +kernel
theorem dX6_init_169 : decode cX6_init 169 = .ok (.bipush 40, 2) := by decide +kernel
theorem dX6_init_171 : decode cX6_init 171 = .ok (.newarray .boolean, 2) := by decide +kernel
theorem dX6_init_173 : decode cX6_init 173 = .ok (.putfield 75, 3) := by decide +kernel
theorem dX6_init_176 : decode cX6_init 176 = .ok (.aload_n 0, 1) := by decide +kernel
theorem dX6_init_177 : decode cX6_init 177 = .ok (.getfield 17, 3) := by decide +kernel
theorem dX6_init_180 : decode cX6_init 180 = .ok (.iconst 0, 1) := by decide +kernel
theorem dX6_init_181 : decode cX6_init 181 = .ok (.iconst (-1), 1) := by decide +kernel
theorem dX6_init_182 : decode cX6_init 182 = .ok (.iastore, 1) := by decide +kernel
theorem dX6_init_183 : decode cX6_init 183 = .ok (.aload_n 0, 1) := by decide +kernel
theorem dX6_init_184 : decode cX6_init 184 = .ok (.getfield 20, 3) := by decide +kernel
theorem dX6_init_187 : decode cX6_init 187 = .ok (.iconst 0, 1) := by decide +kernel
theorem dX6_init_188 : decode cX6_init 188 = .ok (.iconst (-1), 1) := by decide +kernel
theorem dX6_init_189 : decode cX6_init 189 = .ok (.iastore, 1) := by decide +kernel
theorem dX6_init_190 : decode cX6_init 190 = .ok (.iconst 0, 1) := by decide +kernel
theorem dX6_init_191 : decode cX6_init 191 = .ok (.istore_n 1, 1) := by decide +kernel
theorem dX6_init_192 : decode cX6_init 192 = .ok (.iload_n 1, 1) := by decide +kernel
theorem dX6_init_193 : decode cX6_init 193 = .ok (.bipush 6, 2) := by decide +kernel
theorem dX6_init_195 : decode cX6_init 195 = .ok (.if_icmp .ge 16, 3) := by decide +kernel
theorem dX6_init_198 : decode cX6_init 198 = .ok (.aload_n 0, 1) := by decide +kernel
theorem dX6_init_199 : decode cX6_init 199 = .ok (.getfield 38, 3) := by decide +kernel
theorem dX6_init_202 : decode cX6_init 202 = .ok (.iload_n 1, 1) := by decide +kernel
theorem dX6_init_203 : decode cX6_init 203 = .ok (.iconst (-1), 1) := by decide +kernel
theorem dX6_init_204 : decode cX6_init 204 = .ok (.iastore, 1) := by decide +kernel
theorem dX6_init_205 : decode cX6_init 205 = .ok (.iinc 1 1, 3) := by decide +kernel
theorem dX6_init_208 : decode cX6_init 208 = .ok (.goto (-16), 3) := by decide +kernel
theorem dX6_init_211 : decode cX6_init 211 = .ok (.return_, 1) := by decide +kernel
theorem dX6_thrown_0 : decode cX6_thrown 0 = .ok (.aload_n 0, 1) := by decide +kernel
theorem dX6_thrown_1 : decode cX6_thrown 1 = .ok (.getfield 78, 3) := by decide +kernel
theorem dX6_thrown_4 : decode cX6_thrown 4 = .ok (.ireturn, 1) := by decide +kernel
theorem dX6_in_0 : decode cX6_in 0 = .ok (.iload_n 0, 1) := by decide +kernel
theorem dX6_in_1 : decode cX6_in 1 = .ok (.iload_n 1, 1) := by decide +kernel
theorem dX6_in_2 : decode cX6_in 2 = .ok (.if_icmp .lt 12, 3) := by decide +kernel
theorem dX6_in_5 : decode cX6_in 5 = .ok (.iload_n 0, 1) := by decide +kernel
theorem dX6_in_6 : decode cX6_in 6 = .ok (.iload_n 2, 1) := by decide +kernel
theorem dX6_in_7 : decode cX6_in 7 = .ok (.if_icmp .gt 7, 3) := by decide +kernel
theorem dX6_in_10 : decode cX6_in 10 = .ok (.iconst 1, 1) := by decide +kernel
theorem dX6_in_11 : decode cX6_in 11 = .ok (.goto 4, 3) := by decide +kernel
theorem dX6_in_14 : decode cX6_in 14 = .ok (.iconst 0, 1) := by decide +kernel
theorem dX6_in_15 : decode cX6_in 15 = .ok (.ireturn, 1) := by decide +kernel
set_option maxRecDepth 20000 in
theorem ggX6_isVersion_X6_in : GoodIn wsX6_isVersion wsX6_in := goodIn_r _ [5] (by decide +kernel) (by decide +kernel)
set_option maxRecDepth 20000 in
theorem gX6_isVersion_X6_in : GoodIn wsX6_isVersion (va_wsS RX6 81 yX6_in wsX6_in) := goodIn_app (goodIn_of _ (by decide +kernel)) ggX6_isVersion_X6_in
theorem dX6_isVersion_0 : decode cX6_isVersion 0 = .ok (.iload_n 1, 1) := by decide +kernel
theorem dX6_isVersion_1 : decode cX6_isVersion 1 = .ok (.iconst 0, 1) := by decide +kernel
theorem dX6_isVersion_2 : decode cX6_isVersion 2 = .ok (.aload_n 0, 1) := by decide +kernel
theorem dX6_isVersion_3 : decode cX6_isVersion 3 = .ok (.getfield 7, 3) := by decide +kernel
theorem dX6_isVersion_6 : decode cX6_isVersion 6 = .ok (.iconst 1, 1) := by decide +kernel
theorem dX6_isVersion_7 : decode cX6_isVersion 7 = .ok (.isub, 1) := by decide +kernel
theorem dX6_isVersion_8 : decode cX6_isVersion 8 = .ok (.invokestatic 81, 3) := by decide +kernel
theorem dX6_isVersion_11 : decode cX6_isVersion 11 = .ok (.ireturn, 1) := by decide +kernel
set_option maxRecDepth 20000 in
theorem ggX6_isBranch_X6_in : GoodIn wsX6_isBranch wsX6_in := goodIn_r _ [5] (by decide +kernel) (by decide +kernel)
set_option maxRecDepth 20000 in
theorem gX6_isBranch_X6_in : GoodIn wsX6_isBranch (va_wsS RX6 81 yX6_in wsX6_in) := goodIn_app (goodIn_of _ (by decide +kernel)) ggX6_isBranch_X6_in
theorem dX6_isBranch_0 : decode cX6_isBranch 0 = .ok (.iload_n 1, 1) := by decide +kernel
theorem dX6_isBranch_1 : decode cX6_isBranch 1 = .ok (.iconst 0, 1) := by decide +kernel
theorem dX6_isBranch_2 : decode cX6_isBranch 2 = .ok (.aload_n 0, 1) := by decide +kernel
theorem dX6_isBranch_3 : decode cX6_isBranch 3 = .ok (.getfield 32, 3) := by decide +kernel
theorem dX6_isBranch_6 : decode cX6_isBranch 6 = .ok (.iconst 1, 1) := by decide +kernel
theorem dX6_isBranch_7 : decode cX6_isBranch 7 = .ok (.isub, 1) := by decide +kernel
theorem dX6_isBranch_8 : decode cX6_isBranch 8 = .ok (.invokestatic 81, 3) := by decide +kernel
theorem dX6_isBranch_11 : decode cX6_isBranch 11 = .ok (.ireturn, 1) := by decide +kernel
set_option maxRecDepth 20000 in
theorem ggX6_isObject_X6_in : GoodIn wsX6_isObject wsX6_in := goodIn_r _ [4] (by decide +kernel) (by decide +kernel)
set_option maxRecDepth 20000 in
theorem gX6_isObject_X6_in : GoodIn wsX6_isObject (va_wsS RX6 81 yX6_in wsX6_in) := goodIn_app (goodIn_of _ (by decide +kernel)) ggX6_isObject_X6_in
theorem dX6_isObject_0 : decode cX6_isObject 0 = .ok (.iload_n 0, 1) := by decide +kernel
theorem dX6_isObject_1 : decode cX6_isObject 1 = .ok (.iconst 0, 1) := by decide +kernel
theorem dX6_isObject_2 : decode cX6_isObject 2 = .ok (.iconst 3, 1) := by decide +kernel
theorem dX6_isObject_3 : decode cX6_isObject 3 = .ok (.invokestatic 81, 3) := by decide +kernel
theorem dX6_isObject_6 : decode cX6_isObject 6 = .ok (.ireturn, 1) := by decide +kernel
theorem dX6_placeOf_0 : decode cX6_placeOf 0 = .ok (.iconst 0, 1) := by decide +kernel
theorem dX6_placeOf_1 : decode cX6_placeOf 1 = .ok (.istore_n 3, 1) := by decide +kernel
theorem dX6_placeOf_2 : decode cX6_placeOf 2 = .ok (.iload_n 3, 1) := by decide +kernel
theorem dX6_placeOf_3 : decode cX6_placeOf 3 = .ok (.aload_n 0, 1) := by decide +kernel
theorem dX6_placeOf_4 : decode cX6_placeOf 4 = .ok (.getfield 23, 3) := by decide +kernel
theorem dX6_placeOf_7 : decode cX6_placeOf 7 = .ok (.iload_n 1, 1) := by decide +kernel
theorem dX6_placeOf_8 : decode cX6_placeOf 8 = .ok (.iaload, 1) := by decide +kernel
theorem dX6_placeOf_9 : decode cX6_placeOf 9 = .ok (.if_icmp .ge 26, 3) := by decide +kernel
theorem dX6_placeOf_12 : decode cX6_placeOf 12 = .ok (.aload_n 0, 1) := by decide +kernel
theorem dX6_placeOf_13 : decode cX6_placeOf 13 = .ok (.getfield 26, 3) := by decide +kernel
theorem dX6_placeOf_16 : decode cX6_placeOf 16 = .ok (.bipush 8, 2) := by decide +kernel
theorem dX6_placeOf_18 : decode cX6_placeOf 18 = .ok (.iload_n 1, 1) := by decide +kernel
theorem dX6_placeOf_19 : decode cX6_placeOf 19 = .ok (.imul, 1) := by decide +kernel
theorem dX6_placeOf_20 : decode cX6_placeOf 20 = .ok (.iload_n 3, 1) := by decide +kernel
theorem dX6_placeOf_21 : decode cX6_placeOf 21 = .ok (.iadd, 1) := by decide +kernel
theorem dX6_placeOf_22 : decode cX6_placeOf 22 = .ok (.iaload, 1) := by decide +kernel
theorem dX6_placeOf_23 : decode cX6_placeOf 23 = .ok (.iload_n 2, 1) := by decide +kernel
theorem dX6_placeOf_24 : decode cX6_placeOf 24 = .ok (.if_icmp .ne 5, 3) := by decide +kernel
theorem dX6_placeOf_27 : decode cX6_placeOf 27 = .ok (.iload_n 3, 1) := by decide +kernel
theorem dX6_placeOf_28 : decode cX6_placeOf 28 = .ok (.ireturn, 1) := by decide +kernel
theorem dX6_placeOf_29 : decode cX6_placeOf 29 = .ok (.iinc 3 1, 3) := by decide +kernel
theorem dX6_placeOf_32 : decode cX6_placeOf 32 = .ok (.goto (-30), 3) := by decide +kernel
theorem dX6_placeOf_35 : decode cX6_placeOf 35 = .ok (.iconst (-1), 1) := by decide +kernel
theorem dX6_placeOf_36 : decode cX6_placeOf 36 = .ok (.ireturn, 1) := by decide +kernel
set_option maxRecDepth 20000 in
theorem ggX6_valueOf_X6_placeOf : GoodIn wsX6_valueOf wsX6_placeOf := goodIn_r _ [6, 7, 8, 9, 10, 11, 12, 13, 14, 15, 16, 17, 18, 19, 20, 21, 22, 23, 24, 25, 26, 27, 28, 29, 30, 31, 32, 33, 34, 35, 36] (by decide +kernel) (by decide +kernel)
set_option maxRecDepth 20000 in
theorem gX6_valueOf_X6_placeOf : GoodIn wsX6_valueOf (wsV RX6 85 RX6 yX6_placeOf wsX6_placeOf) := goodIn_app (goodIn_of _ (by decide +kernel)) ggX6_valueOf_X6_placeOf
theorem dX6_valueOf_0 : decode cX6_valueOf 0 = .ok (.aload_n 0, 1) := by decide +kernel
theorem dX6_valueOf_1 : decode cX6_valueOf 1 = .ok (.getfield 29, 3) := by decide +kernel
theorem dX6_valueOf_4 : decode cX6_valueOf 4 = .ok (.iconst 4, 1) := by decide +kernel
theorem dX6_valueOf_5 : decode cX6_valueOf 5 = .ok (.bipush 8, 2) := by decide +kernel
theorem dX6_valueOf_7 : decode cX6_valueOf 7 = .ok (.iload_n 1, 1) := by decide +kernel
theorem dX6_valueOf_8 : decode cX6_valueOf 8 = .ok (.imul, 1) := by decide +kernel
theorem dX6_valueOf_9 : decode cX6_valueOf 9 = .ok (.aload_n 0, 1) := by decide +kernel
theorem dX6_valueOf_10 : decode cX6_valueOf 10 = .ok (.iload_n 1, 1) := by decide +kernel
theorem dX6_valueOf_11 : decode cX6_valueOf 11 = .ok (.iload_n 2, 1) := by decide +kernel
theorem dX6_valueOf_12 : decode cX6_valueOf 12 = .ok (.invokevirtual 85, 3) := by decide +kernel
theorem dX6_valueOf_15 : decode cX6_valueOf 15 = .ok (.iadd, 1) := by decide +kernel
theorem dX6_valueOf_16 : decode cX6_valueOf 16 = .ok (.imul, 1) := by decide +kernel
theorem dX6_valueOf_17 : decode cX6_valueOf 17 = .ok (.iload_n 3, 1) := by decide +kernel
theorem dX6_valueOf_18 : decode cX6_valueOf 18 = .ok (.iadd, 1) := by decide +kernel
theorem dX6_valueOf_19 : decode cX6_valueOf 19 = .ok (.iaload, 1) := by decide +kernel
theorem dX6_valueOf_20 : decode cX6_valueOf 20 = .ok (.ireturn, 1) := by decide +kernel
set_option maxRecDepth 20000 in
theorem ggX6_branch_X6_isVersion : GoodIn wsX6_branch wsX6_isVersion := goodIn_r _ [8, 9, 10, 11, 7, 12, 13, 14, 15, 16, 17, 18, 19, 20, 21, 22, 23, 24, 25, 26, 27, 28, 29, 30, 31, 32, 33, 34, 35, 36, 37, 38, 39, 40] (by decide +kernel) (by decide +kernel)
set_option maxRecDepth 20000 in
theorem gX6_branch_X6_isVersion : GoodIn wsX6_branch (wsV RX6 89 RX6 yX6_isVersion wsX6_isVersion) := goodIn_app (goodIn_of _ (by decide +kernel)) ggX6_branch_X6_isVersion
theorem dX6_branch_0 : decode cX6_branch 0 = .ok (.aload_n 0, 1) := by decide +kernel
theorem dX6_branch_1 : decode cX6_branch 1 = .ok (.aload_n 0, 1) := by decide +kernel
theorem dX6_branch_2 : decode cX6_branch 2 = .ok (.iload_n 1, 1) := by decide +kernel
theorem dX6_branch_3 : decode cX6_branch 3 = .ok (.invokevirtual 89, 3) := by decide +kernel
theorem dX6_branch_6 : decode cX6_branch 6 = .ok (.ifCond .ne 7, 3) := by decide +kernel
theorem dX6_branch_9 : decode cX6_branch 9 = .ok (.iconst 1, 1) := by decide +kernel
theorem dX6_branch_10 : decode cX6_branch 10 = .ok (.goto 17, 3) := by decide +kernel
theorem dX6_branch_13 : decode cX6_branch 13 = .ok (.aload_n 0, 1) := by decide +kernel
theorem dX6_branch_14 : decode cX6_branch 14 = .ok (.getfield 32, 3) := by decide +kernel
theorem dX6_branch_17 : decode cX6_branch 17 = .ok (.bipush 6, 2) := by decide +kernel
theorem dX6_branch_19 : decode cX6_branch 19 = .ok (.if_icmp .ne 7, 3) := by decide +kernel
theorem dX6_branch_22 : decode cX6_branch 22 = .ok (.iconst 2, 1) := by decide +kernel
theorem dX6_branch_23 : decode cX6_branch 23 = .ok (.goto 4, 3) := by decide +kernel
theorem dX6_branch_26 : decode cX6_branch 26 = .ok (.iconst 0, 1) := by decide +kernel
theorem dX6_branch_27 : decode cX6_branch 27 = .ok (.putfield 78, 3) := by decide +kernel
theorem dX6_branch_30 : decode cX6_branch 30 = .ok (.aload_n 0, 1) := by decide +kernel
theorem dX6_branch_31 : decode cX6_branch 31 = .ok (.getfield 78, 3) := by decide +kernel
theorem dX6_branch_34 : decode cX6_branch 34 = .ok (.ifCond .le 5, 3) := by decide +kernel
theorem dX6_branch_37 : decode cX6_branch 37 = .ok (.iconst 0, 1) := by decide +kernel
theorem dX6_branch_38 : decode cX6_branch 38 = .ok (.ireturn, 1) := by decide +kernel
theorem dX6_branch_39 : decode cX6_branch 39 = .ok (.aload_n 0, 1) := by decide +kernel
theorem dX6_branch_40 : decode cX6_branch 40 = .ok (.getfield 35, 3) := by decide +kernel
theorem dX6_branch_43 : decode cX6_branch 43 = .ok (.aload_n 0, 1) := by decide +kernel
theorem dX6_branch_44 : decode cX6_branch 44 = .ok (.getfield 32, 3) := by decide +kernel
theorem dX6_branch_47 : decode cX6_branch 47 = .ok (.iload_n 1, 1) := by decide +kernel
theorem dX6_branch_48 : decode cX6_branch 48 = .ok (.iastore, 1) := by decide +kernel
theorem dX6_branch_49 : decode cX6_branch 49 = .ok (.aload_n 0, 1) := by decide +kernel
theorem dX6_branch_50 : decode cX6_branch 50 = .ok (.dup, 1) := by decide +kernel
theorem dX6_branch_51 : decode cX6_branch 51 = .ok (.getfield 32, 3) := by decide +kernel
theorem dX6_branch_54 : decode cX6_branch 54 = .ok (.iconst 1, 1) := by decide +kernel
theorem dX6_branch_55 : decode cX6_branch 55 = .ok (.iadd, 1) := by decide +kernel
theorem dX6_branch_56 : decode cX6_branch 56 = .ok (.putfield 32, 3) := by decide +kernel
theorem dX6_branch_59 : decode cX6_branch 59 = .ok (.aload_n 0, 1) := by decide +kernel
theorem dX6_branch_60 : decode cX6_branch 60 = .ok (.getfield 32, 3) := by decide +kernel
theorem dX6_branch_63 : decode cX6_branch 63 = .ok (.iconst 1, 1) := by decide +kernel
theorem dX6_branch_64 : decode cX6_branch 64 = .ok (.isub, 1) := by decide +kernel
theorem dX6_branch_65 : decode cX6_branch 65 = .ok (.ireturn, 1) := by decide +kernel
theorem dX6_edits_0 : decode cX6_edits 0 = .ok (.aload_n 0, 1) := by decide +kernel
theorem dX6_edits_1 : decode cX6_edits 1 = .ok (.getfield 7, 3) := by decide +kernel
theorem dX6_edits_4 : decode cX6_edits 4 = .ok (.istore_n 3, 1) := by decide +kernel
theorem dX6_edits_5 : decode cX6_edits 5 = .ok (.aload_n 0, 1) := by decide +kernel
theorem dX6_edits_6 : decode cX6_edits 6 = .ok (.getfield 35, 3) := by decide +kernel
theorem dX6_edits_9 : decode cX6_edits 9 = .ok (.iload_n 1, 1) := by decide +kernel
theorem dX6_edits_10 : decode cX6_edits 10 = .ok (.iaload, 1) := by decide +kernel
theorem dX6_edits_11 : decode cX6_edits 11 = .ok (.istore 4, 2) := by decide +kernel
theorem dX6_edits_13 : decode cX6_edits 13 = .ok (.aload_n 0, 1) := by decide +kernel
theorem dX6_edits_14 : decode cX6_edits 14 = .ok (.dup, 1) := by decide +kernel
theorem dX6_edits_15 : decode cX6_edits 15 = .ok (.getfield 7, 3) := by decide +kernel
theorem dX6_edits_18 : decode cX6_edits 18 = .ok (.iconst 1, 1) := by decide +kernel
theorem dX6_edits_19 : decode cX6_edits 19 = .ok (.iadd, 1) := by decide +kernel
theorem dX6_edits_20 : decode cX6_edits 20 = .ok (.putfield 7, 3) := by decide +kernel
theorem dX6_edits_23 : decode cX6_edits 23 = .ok (.aload_n 0, 1) := by decide +kernel
theorem dX6_edits_24 : decode cX6_edits 24 = .ok (.getfield 13, 3) := by decide +kernel
theorem dX6_edits_27 : decode cX6_edits 27 = .ok (.iload_n 3, 1) := by decide +kernel
theorem dX6_edits_28 : decode cX6_edits 28 = .ok (.iload_n 1, 1) := by decide +kernel
theorem dX6_edits_29 : decode cX6_edits 29 = .ok (.iastore, 1) := by decide +kernel
theorem dX6_edits_30 : decode cX6_edits 30 = .ok (.aload_n 0, 1) := by decide +kernel
theorem dX6_edits_31 : decode cX6_edits 31 = .ok (.getfield 17, 3) := by decide +kernel
theorem dX6_edits_34 : decode cX6_edits 34 = .ok (.iload_n 3, 1) := by decide +kernel
theorem dX6_edits_35 : decode cX6_edits 35 = .ok (.iload 4, 2) := by decide +kernel
theorem dX6_edits_37 : decode cX6_edits 37 = .ok (.iastore, 1) := by decide +kernel
theorem dX6_edits_38 : decode cX6_edits 38 = .ok (.aload_n 0, 1) := by decide +kernel
theorem dX6_edits_39 : decode cX6_edits 39 = .ok (.getfield 20, 3) := by decide +kernel
theorem dX6_edits_42 : decode cX6_edits 42 = .ok (.iload_n 3, 1) := by decide +kernel
theorem dX6_edits_43 : decode cX6_edits 43 = .ok (.iconst (-1), 1) := by decide +kernel
theorem dX6_edits_44 : decode cX6_edits 44 = .ok (.iastore, 1) := by decide +kernel
theorem dX6_edits_45 : decode cX6_edits 45 = .ok (.aload_n 0, 1) := by decide +kernel
theorem dX6_edits_46 : decode cX6_edits 46 = .ok (.getfield 23, 3) := by decide +kernel
theorem dX6_edits_49 : decode cX6_edits 49 = .ok (.iload_n 3, 1) := by decide +kernel
theorem dX6_edits_50 : decode cX6_edits 50 = .ok (.iconst 0, 1) := by decide +kernel
theorem dX6_edits_51 : decode cX6_edits 51 = .ok (.iastore, 1) := by decide +kernel
theorem dX6_edits_52 : decode cX6_edits 52 = .ok (.iconst 0, 1) := by decide +kernel
theorem dX6_edits_53 : decode cX6_edits 53 = .ok (.istore 5, 2) := by decide +kernel
theorem dX6_edits_55 : decode cX6_edits 55 = .ok (.iload 5, 2) := by decide +kernel
theorem dX6_edits_57 : decode cX6_edits 57 = .ok (.aload_n 0, 1) := by decide +kernel
theorem dX6_edits_58 : decode cX6_edits 58 = .ok (.getfield 23, 3) := by decide +kernel
theorem dX6_edits_61 : decode cX6_edits 61 = .ok (.iload 4, 2) := by decide +kernel
theorem dX6_edits_63 : decode cX6_edits 63 = .ok (.iaload, 1) := by decide +kernel
theorem dX6_edits_64 : decode cX6_edits 64 = .ok (.if_icmp .ge 112, 3) := by decide +kernel
theorem dX6_edits_67 : decode cX6_edits 67 = .ok (.aload_n 0, 1) := by decide +kernel
theorem dX6_edits_68 : decode cX6_edits 68 = .ok (.getfield 26, 3) := by decide +kernel
theorem dX6_edits_71 : decode cX6_edits 71 = .ok (.bipush 8, 2) := by decide +kernel
theorem dX6_edits_73 : decode cX6_edits 73 = .ok (.iload 4, 2) := by decide +kernel
theorem dX6_edits_75 : decode cX6_edits 75 = .ok (.imul, 1) := by decide +kernel
theorem dX6_edits_76 : decode cX6_edits 76 = .ok (.iload 5, 2) := by decide +kernel
theorem dX6_edits_78 : decode cX6_edits 78 = .ok (.iadd, 1) := by decide +kernel
theorem dX6_edits_79 : decode cX6_edits 79 = .ok (.iaload, 1) := by decide +kernel
theorem dX6_edits_80 : decode cX6_edits 80 = .ok (.istore 6, 2) := by decide +kernel
theorem dX6_edits_82 : decode cX6_edits 82 = .ok (.iload 6, 2) := by decide +kernel
theorem dX6_edits_84 : decode cX6_edits 84 = .ok (.iload_n 2, 1) := by decide +kernel
theorem dX6_edits_85 : decode cX6_edits 85 = .ok (.if_icmp .eq 85, 3) := by decide +kernel
theorem dX6_edits_88 : decode cX6_edits 88 = .ok (.aload_n 0, 1) := by decide +kernel
theorem dX6_edits_89 : decode cX6_edits 89 = .ok (.getfield 26, 3) := by decide +kernel
theorem dX6_edits_92 : decode cX6_edits 92 = .ok (.bipush 8, 2) := by decide +kernel
theorem dX6_edits_94 : decode cX6_edits 94 = .ok (.iload_n 3, 1) := by decide +kernel
theorem dX6_edits_95 : decode cX6_edits 95 = .ok (.imul, 1) := by decide +kernel
theorem dX6_edits_96 : decode cX6_edits 96 = .ok (.aload_n 0, 1) := by decide +kernel
theorem dX6_edits_97 : decode cX6_edits 97 = .ok (.getfield 23, 3) := by decide +kernel
theorem dX6_edits_100 : decode cX6_edits 100 = .ok (.iload_n 3, 1) := by decide +kernel
theorem dX6_edits_101 : decode cX6_edits 101 = .ok (.iaload, 1) := by decide +kernel
theorem dX6_edits_102 : decode cX6_edits 102 = .ok (.iadd, 1) := by decide +kernel
theorem dX6_edits_103 : decode cX6_edits 103 = .ok (.iload 6, 2) := by decide +kernel
theorem dX6_edits_105 : decode cX6_edits 105 = .ok (.iastore, 1) := by decide +kernel
theorem dX6_edits_106 : decode cX6_edits 106 = .ok (.iconst 0, 1) := by decide +kernel
theorem dX6_edits_107 : decode cX6_edits 107 = .ok (.istore 7, 2) := by decide +kernel
theorem dX6_edits_109 : decode cX6_edits 109 = .ok (.iload 7, 2) := by decide +kernel
theorem dX6_edits_111 : decode cX6_edits 111 = .ok (.iconst 4, 1) := by decide +kernel
theorem dX6_edits_112 : decode cX6_edits 112 = .ok (.if_icmp .ge 48, 3) := by decide +kernel
theorem dX6_edits_115 : decode cX6_edits 115 = .ok (.aload_n 0, 1) := by decide +kernel
theorem dX6_edits_116 : decode cX6_edits 116 = .ok (.getfield 29, 3) := by decide +kernel
theorem dX6_edits_119 : decode cX6_edits 119 = .ok (.iconst 4, 1) := by decide +kernel
theorem dX6_edits_120 : decode cX6_edits 120 = .ok (.bipush 8, 2) := by decide +kernel
theorem dX6_edits_122 : decode cX6_edits 122 = .ok (.iload_n 3, 1) := by decide +kernel
theorem dX6_edits_123 : decode cX6_edits 123 = .ok (.imul, 1) := by decide +kernel
theorem dX6_edits_124 : decode cX6_edits 124 = .ok (.aload_n 0, 1) := by decide +kernel
theorem dX6_edits_125 : decode cX6_edits 125 = .ok (.getfield 23, 3) := by decide +kernel
theorem dX6_edits_128 : decode cX6_edits 128 = .ok (.iload_n 3, 1) := by decide +kernel
theorem dX6_edits_129 : decode cX6_edits 129 = .ok (.iaload, 1) := by decide +kernel
theorem dX6_edits_130 : decode cX6_edits 130 = .ok (.iadd, 1) := by decide +kernel
theorem dX6_edits_131 : decode cX6_edits 131 = .ok (.imul, 1) := by decide +kernel
theorem dX6_edits_132 : decode cX6_edits 132 = .ok (.iload 7, 2) := by decide +kernel
theorem dX6_edits_134 : decode cX6_edits 134 = .ok (.iadd, 1) := by decide +kernel
theorem dX6_edits_135 : decode cX6_edits 135 = .ok (.aload_n 0, 1) := by decide +kernel
theorem dX6_edits_136 : decode cX6_edits 136 = .ok (.getfield 29, 3) := by decide +kernel
theorem dX6_edits_139 : decode cX6_edits 139 = .ok (.iconst 4, 1) := by decide +kernel
theorem dX6_edits_140 : decode cX6_edits 140 = .ok (.bipush 8, 2) := by decide +kernel
theorem dX6_edits_142 : decode cX6_edits 142 = .ok (.iload 4, 2) := by decide +kernel
theorem dX6_edits_144 : decode cX6_edits 144 = .ok (.imul, 1) := by decide +kernel
theorem dX6_edits_145 : decode cX6_edits 145 = .ok (.iload 5, 2) := by decide +kernel
theorem dX6_edits_147 : decode cX6_edits 147 = .ok (.iadd, 1) := by decide +kernel
theorem dX6_edits_148 : decode cX6_edits 148 = .ok (.imul, 1) := by decide +kernel
theorem dX6_edits_149 : decode cX6_edits 149 = .ok (.iload 7, 2) := by decide +kernel
theorem dX6_edits_151 : decode cX6_edits 151 = .ok (.iadd, 1) := by decide +kernel
theorem dX6_edits_152 : decode cX6_edits 152 = .ok (.iaload, 1) := by decide +kernel
theorem dX6_edits_153 : decode cX6_edits 153 = .ok (.iastore, 1) := by decide +kernel
theorem dX6_edits_154 : decode cX6_edits 154 = .ok (.iinc 7 1, 3) := by decide +kernel
theorem dX6_edits_157 : decode cX6_edits 157 = .ok (.goto (-48), 3) := by decide +kernel
theorem dX6_edits_160 : decode cX6_edits 160 = .ok (.aload_n 0, 1) := by decide +kernel
theorem dX6_edits_161 : decode cX6_edits 161 = .ok (.getfield 23, 3) := by decide +kernel
theorem dX6_edits_164 : decode cX6_edits 164 = .ok (.iload_n 3, 1) := by decide +kernel
theorem dX6_edits_165 : decode cX6_edits 165 = .ok (.dup2, 1) := by decide +kernel
theorem dX6_edits_166 : decode cX6_edits 166 = .ok (.iaload, 1) := by decide +kernel
theorem dX6_edits_167 : decode cX6_edits 167 = .ok (.iconst 1, 1) := by decide +kernel
theorem dX6_edits_168 : decode cX6_edits 168 = .ok (.iadd, 1) := by decide +kernel
theorem dX6_edits_169 : decode cX6_edits 169 = .ok (.iastore, 1) := by decide +kernel
theorem dX6_edits_170 : decode cX6_edits 170 = .ok (.iinc 5 1, 3) := by decide +kernel
theorem dX6_edits_173 : decode cX6_edits 173 = .ok (.goto (-118), 3) := by decide +kernel
theorem dX6_edits_176 : decode cX6_edits 176 = .ok (.aload_n 0, 1) := by decide +kernel
theorem dX6_edits_177 : decode cX6_edits 177 = .ok (.getfield 35, 3) := by decide +kernel
theorem dX6_edits_180 : decode cX6_edits 180 = .ok (.iload_n 1, 1) := by decide +kernel
theorem dX6_edits_181 : decode cX6_edits 181 = .ok (.iload_n 3, 1) := by decide +kernel
theorem dX6_edits_182 : decode cX6_edits 182 = .ok (.iastore, 1) := by decide +kernel
theorem dX6_edits_183 : decode cX6_edits 183 = .ok (.iload_n 3, 1) := by decide +kernel
theorem dX6_edits_184 : decode cX6_edits 184 = .ok (.ireturn, 1) := by decide +kernel
set_option maxRecDepth 20000 in
theorem ggX6_add_X6_isBranch : GoodIn wsX6_add wsX6_isBranch := goodIn_r _ [12, 13, 14, 15, 11, 16, 24, 25, 26, 27, 28, 29, 30, 31, 32, 33, 34, 35, 36, 37, 38, 39, 40, 41, 42, 43, 44, 45, 46, 47, 48, 49, 50, 51] (by decide +kernel) (by decide +kernel)
set_option maxRecDepth 20000 in
theorem gX6_add_X6_isBranch : GoodIn wsX6_add (wsV RX6 93 RX6 yX6_isBranch wsX6_isBranch) := goodIn_app (goodIn_of _ (by decide +kernel)) ggX6_add_X6_isBranch
set_option maxRecDepth 20000 in
theorem ggX6_add_X6_in : GoodIn wsX6_add wsX6_in := goodIn_r _ [16] (by decide +kernel) (by decide +kernel)
set_option maxRecDepth 20000 in
theorem gX6_add_X6_in : GoodIn wsX6_add (va_wsS RX6 81 yX6_in wsX6_in) := goodIn_app (goodIn_of _ (by decide +kernel)) ggX6_add_X6_in
set_option maxRecDepth 20000 in
theorem ggX6_add_X6_edits : GoodIn wsX6_add wsX6_edits := goodIn_r _ [20, 4, 2, 21, 22, 23, 1, 6, 7, 24, 25, 26, 27, 28, 29, 30, 31, 32, 33, 34, 35, 36, 37, 38, 39, 40, 41, 42, 43, 44, 45, 46, 47, 48, 49, 50, 51] (by decide +kernel) (by decide +kernel)
set_option maxRecDepth 20000 in
theorem gX6_add_X6_edits : GoodIn wsX6_add (wsV RX6 99 RX6 yX6_edits wsX6_edits) := goodIn_app (goodIn_of _ (by decide +kernel)) ggX6_add_X6_edits
theorem dX6_add_0 : decode cX6_add 0 = .ok (.aload_n 0, 1) := by decide +kernel
theorem dX6_add_1 : decode cX6_add 1 = .ok (.aload_n 0, 1) := by decide +kernel
theorem dX6_add_2 : decode cX6_add 2 = .ok (.iload_n 1, 1) := by decide +kernel
theorem dX6_add_3 : decode cX6_add 3 = .ok (.invokevirtual 93, 3) := by decide +kernel
theorem dX6_add_6 : decode cX6_add 6 = .ok (.ifCond .eq 22, 3) := by decide +kernel
theorem dX6_add_9 : decode cX6_add 9 = .ok (.iload_n 2, 1) := by decide +kernel
theorem dX6_add_10 : decode cX6_add 10 = .ok (.iconst 0, 1) := by decide +kernel
theorem dX6_add_11 : decode cX6_add 11 = .ok (.aload_n 0, 1) := by decide +kernel
theorem dX6_add_12 : decode cX6_add 12 = .ok (.getfield 23, 3) := by decide +kernel
theorem dX6_add_15 : decode cX6_add 15 = .ok (.aload_n 0, 1) := by decide +kernel
theorem dX6_add_16 : decode cX6_add 16 = .ok (.getfield 35, 3) := by decide +kernel
theorem dX6_add_19 : decode cX6_add 19 = .ok (.iload_n 1, 1) := by decide +kernel
theorem dX6_add_20 : decode cX6_add 20 = .ok (.iaload, 1) := by decide +kernel
theorem dX6_add_21 : decode cX6_add 21 = .ok (.iaload, 1) := by decide +kernel
theorem dX6_add_22 : decode cX6_add 22 = .ok (.invokestatic 81, 3) := by decide +kernel
theorem dX6_add_25 : decode cX6_add 25 = .ok (.ifCond .ne 7, 3) := by decide +kernel
theorem dX6_add_28 : decode cX6_add 28 = .ok (.iconst 1, 1) := by decide +kernel
theorem dX6_add_29 : decode cX6_add 29 = .ok (.goto 42, 3) := by decide +kernel
theorem dX6_add_32 : decode cX6_add 32 = .ok (.aload_n 0, 1) := by decide +kernel
theorem dX6_add_33 : decode cX6_add 33 = .ok (.getfield 23, 3) := by decide +kernel
theorem dX6_add_36 : decode cX6_add 36 = .ok (.aload_n 0, 1) := by decide +kernel
theorem dX6_add_37 : decode cX6_add 37 = .ok (.getfield 35, 3) := by decide +kernel
theorem dX6_add_40 : decode cX6_add 40 = .ok (.iload_n 1, 1) := by decide +kernel
theorem dX6_add_41 : decode cX6_add 41 = .ok (.iaload, 1) := by decide +kernel
theorem dX6_add_42 : decode cX6_add 42 = .ok (.iaload, 1) := by decide +kernel
theorem dX6_add_43 : decode cX6_add 43 = .ok (.bipush 8, 2) := by decide +kernel
theorem dX6_add_45 : decode cX6_add 45 = .ok (.if_icmp .eq 21, 3) := by decide +kernel
theorem dX6_add_48 : decode cX6_add 48 = .ok (.aload_n 0, 1) := by decide +kernel
theorem dX6_add_49 : decode cX6_add 49 = .ok (.getfield 96, 3) := by decide +kernel
theorem dX6_add_52 : decode cX6_add 52 = .ok (.bipush 20, 2) := by decide +kernel
theorem dX6_add_54 : decode cX6_add 54 = .ok (.if_icmp .eq 12, 3) := by decide +kernel
theorem dX6_add_57 : decode cX6_add 57 = .ok (.aload_n 0, 1) := by decide +kernel
theorem dX6_add_58 : decode cX6_add 58 = .ok (.getfield 7, 3) := by decide +kernel
theorem dX6_add_61 : decode cX6_add 61 = .ok (.bipush 40, 2) := by decide +kernel
theorem dX6_add_63 : decode cX6_add 63 = .ok (.if_icmp .ne 7, 3) := by decide +kernel
theorem dX6_add_66 : decode cX6_add 66 = .ok (.iconst 2, 1) := by decide +kernel
theorem dX6_add_67 : decode cX6_add 67 = .ok (.goto 4, 3) := by decide +kernel
theorem dX6_add_70 : decode cX6_add 70 = .ok (.iconst 0, 1) := by decide +kernel
theorem dX6_add_71 : decode cX6_add 71 = .ok (.putfield 78, 3) := by decide +kernel
theorem dX6_add_74 : decode cX6_add 74 = .ok (.aload_n 0, 1) := by decide +kernel
theorem dX6_add_75 : decode cX6_add 75 = .ok (.getfield 78, 3) := by decide +kernel
theorem dX6_add_78 : decode cX6_add 78 = .ok (.ifCond .le 5, 3) := by decide +kernel
theorem dX6_add_81 : decode cX6_add 81 = .ok (.iconst 0, 1) := by decide +kernel
theorem dX6_add_82 : decode cX6_add 82 = .ok (.ireturn, 1) := by decide +kernel
theorem dX6_add_83 : decode cX6_add 83 = .ok (.aload_n 0, 1) := by decide +kernel
theorem dX6_add_84 : decode cX6_add 84 = .ok (.iload_n 1, 1) := by decide +kernel
theorem dX6_add_85 : decode cX6_add 85 = .ok (.iconst (-1), 1) := by decide +kernel
theorem dX6_add_86 : decode cX6_add 86 = .ok (.invokevirtual 99, 3) := by decide +kernel
theorem dX6_add_89 : decode cX6_add 89 = .ok (.istore_n 3, 1) := by decide +kernel
theorem dX6_add_90 : decode cX6_add 90 = .ok (.aload_n 0, 1) := by decide +kernel
theorem dX6_add_91 : decode cX6_add 91 = .ok (.getfield 23, 3) := by decide +kernel
theorem dX6_add_94 : decode cX6_add 94 = .ok (.iload_n 3, 1) := by decide +kernel
theorem dX6_add_95 : decode cX6_add 95 = .ok (.iaload, 1) := by decide +kernel
theorem dX6_add_96 : decode cX6_add 96 = .ok (.istore 4, 2) := by decide +kernel
theorem dX6_add_98 : decode cX6_add 98 = .ok (.iload 4, 2) := by decide +kernel
theorem dX6_add_100 : decode cX6_add 100 = .ok (.iload_n 2, 1) := by decide +kernel
theorem dX6_add_101 : decode cX6_add 101 = .ok (.if_icmp .le 86, 3) := by decide +kernel
theorem dX6_add_104 : decode cX6_add 104 = .ok (.aload_n 0, 1) := by decide +kernel
theorem dX6_add_105 : decode cX6_add 105 = .ok (.getfield 26, 3) := by decide +kernel
theorem dX6_add_108 : decode cX6_add 108 = .ok (.bipush 8, 2) := by decide +kernel
theorem dX6_add_110 : decode cX6_add 110 = .ok (.iload_n 3, 1) := by decide +kernel
theorem dX6_add_111 : decode cX6_add 111 = .ok (.imul, 1) := by decide +kernel
theorem dX6_add_112 : decode cX6_add 112 = .ok (.iload 4, 2) := by decide +kernel
theorem dX6_add_114 : decode cX6_add 114 = .ok (.iadd, 1) := by decide +kernel
theorem dX6_add_115 : decode cX6_add 115 = .ok (.aload_n 0, 1) := by decide +kernel
theorem dX6_add_116 : decode cX6_add 116 = .ok (.getfield 26, 3) := by decide +kernel
theorem dX6_add_119 : decode cX6_add 119 = .ok (.bipush 8, 2) := by decide +kernel
theorem dX6_add_121 : decode cX6_add 121 = .ok (.iload_n 3, 1) := by decide +kernel
theorem dX6_add_122 : decode cX6_add 122 = .ok (.imul, 1) := by decide +kernel
theorem dX6_add_123 : decode cX6_add 123 = .ok (.iload 4, 2) := by decide +kernel
theorem dX6_add_125 : decode cX6_add 125 = .ok (.iadd, 1) := by decide +kernel
theorem dX6_add_126 : decode cX6_add 126 = .ok (.iconst 1, 1) := by decide +kernel
theorem dX6_add_127 : decode cX6_add 127 = .ok (.isub, 1) := by decide +kernel
theorem dX6_add_128 : decode cX6_add 128 = .ok (.iaload, 1) := by decide +kernel
theorem dX6_add_129 : decode cX6_add 129 = .ok (.iastore, 1) := by decide +kernel
theorem dX6_add_130 : decode cX6_add 130 = .ok (.iconst 0, 1) := by decide +kernel
theorem dX6_add_131 : decode cX6_add 131 = .ok (.istore 5, 2) := by decide +kernel
theorem dX6_add_133 : decode cX6_add 133 = .ok (.iload 5, 2) := by decide +kernel
theorem dX6_add_135 : decode cX6_add 135 = .ok (.iconst 4, 1) := by decide +kernel
theorem dX6_add_136 : decode cX6_add 136 = .ok (.if_icmp .ge 45, 3) := by decide +kernel
theorem dX6_add_139 : decode cX6_add 139 = .ok (.aload_n 0, 1) := by decide +kernel
theorem dX6_add_140 : decode cX6_add 140 = .ok (.getfield 29, 3) := by decide +kernel
theorem dX6_add_143 : decode cX6_add 143 = .ok (.iconst 4, 1) := by decide +kernel
theorem dX6_add_144 : decode cX6_add 144 = .ok (.bipush 8, 2) := by decide +kernel
theorem dX6_add_146 : decode cX6_add 146 = .ok (.iload_n 3, 1) := by decide +kernel
theorem dX6_add_147 : decode cX6_add 147 = .ok (.imul, 1) := by decide +kernel
theorem dX6_add_148 : decode cX6_add 148 = .ok (.iload 4, 2) := by decide +kernel
theorem dX6_add_150 : decode cX6_add 150 = .ok (.iadd, 1) := by decide +kernel
theorem dX6_add_151 : decode cX6_add 151 = .ok (.imul, 1) := by decide +kernel
theorem dX6_add_152 : decode cX6_add 152 = .ok (.iload 5, 2) := by decide +kernel
theorem dX6_add_154 : decode cX6_add 154 = .ok (.iadd, 1) := by decide +kernel
theorem dX6_add_155 : decode cX6_add 155 = .ok (.aload_n 0, 1) := by decide +kernel
theorem dX6_add_156 : decode cX6_add 156 = .ok (.getfield 29, 3) := by decide +kernel
theorem dX6_add_159 : decode cX6_add 159 = .ok (.iconst 4, 1) := by decide +kernel
theorem dX6_add_160 : decode cX6_add 160 = .ok (.bipush 8, 2) := by decide +kernel
theorem dX6_add_162 : decode cX6_add 162 = .ok (.iload_n 3, 1) := by decide +kernel
theorem dX6_add_163 : decode cX6_add 163 = .ok (.imul, 1) := by decide +kernel
theorem dX6_add_164 : decode cX6_add 164 = .ok (.iload 4, 2) := by decide +kernel
theorem dX6_add_166 : decode cX6_add 166 = .ok (.iadd, 1) := by decide +kernel
theorem dX6_add_167 : decode cX6_add 167 = .ok (.iconst 1, 1) := by decide +kernel
theorem dX6_add_168 : decode cX6_add 168 = .ok (.isub, 1) := by decide +kernel
theorem dX6_add_169 : decode cX6_add 169 = .ok (.imul, 1) := by decide +kernel
theorem dX6_add_170 : decode cX6_add 170 = .ok (.iload 5, 2) := by decide +kernel
theorem dX6_add_172 : decode cX6_add 172 = .ok (.iadd, 1) := by decide +kernel
theorem dX6_add_173 : decode cX6_add 173 = .ok (.iaload, 1) := by decide +kernel
theorem dX6_add_174 : decode cX6_add 174 = .ok (.iastore, 1) := by decide +kernel
theorem dX6_add_175 : decode cX6_add 175 = .ok (.iinc 5 1, 3) := by decide +kernel
theorem dX6_add_178 : decode cX6_add 178 = .ok (.goto (-45), 3) := by decide +kernel
theorem dX6_add_181 : decode cX6_add 181 = .ok (.iinc 4 (-1), 3) := by decide +kernel
theorem dX6_add_184 : decode cX6_add 184 = .ok (.goto (-86), 3) := by decide +kernel
theorem dX6_add_187 : decode cX6_add 187 = .ok (.aload_n 0, 1) := by decide +kernel
theorem dX6_add_188 : decode cX6_add 188 = .ok (.getfield 26, 3) := by decide +kernel
theorem dX6_add_191 : decode cX6_add 191 = .ok (.bipush 8, 2) := by decide +kernel
theorem dX6_add_193 : decode cX6_add 193 = .ok (.iload_n 3, 1) := by decide +kernel
theorem dX6_add_194 : decode cX6_add 194 = .ok (.imul, 1) := by decide +kernel
theorem dX6_add_195 : decode cX6_add 195 = .ok (.iload_n 2, 1) := by decide +kernel
theorem dX6_add_196 : decode cX6_add 196 = .ok (.iadd, 1) := by decide +kernel
theorem dX6_add_197 : decode cX6_add 197 = .ok (.aload_n 0, 1) := by decide +kernel
theorem dX6_add_198 : decode cX6_add 198 = .ok (.getfield 96, 3) := by decide +kernel
theorem dX6_add_201 : decode cX6_add 201 = .ok (.iastore, 1) := by decide +kernel
theorem dX6_add_202 : decode cX6_add 202 = .ok (.iconst 0, 1) := by decide +kernel
theorem dX6_add_203 : decode cX6_add 203 = .ok (.istore 4, 2) := by decide +kernel
theorem dX6_add_205 : decode cX6_add 205 = .ok (.iload 4, 2) := by decide +kernel
theorem dX6_add_207 : decode cX6_add 207 = .ok (.iconst 4, 1) := by decide +kernel
theorem dX6_add_208 : decode cX6_add 208 = .ok (.if_icmp .ge 26, 3) := by decide +kernel
theorem dX6_add_211 : decode cX6_add 211 = .ok (.aload_n 0, 1) := by decide +kernel
theorem dX6_add_212 : decode cX6_add 212 = .ok (.getfield 29, 3) := by decide +kernel
theorem dX6_add_215 : decode cX6_add 215 = .ok (.iconst 4, 1) := by decide +kernel
theorem dX6_add_216 : decode cX6_add 216 = .ok (.bipush 8, 2) := by decide +kernel
theorem dX6_add_218 : decode cX6_add 218 = .ok (.iload_n 3, 1) := by decide +kernel
theorem dX6_add_219 : decode cX6_add 219 = .ok (.imul, 1) := by decide +kernel
theorem dX6_add_220 : decode cX6_add 220 = .ok (.iload_n 2, 1) := by decide +kernel
theorem dX6_add_221 : decode cX6_add 221 = .ok (.iadd, 1) := by decide +kernel
theorem dX6_add_222 : decode cX6_add 222 = .ok (.imul, 1) := by decide +kernel
theorem dX6_add_223 : decode cX6_add 223 = .ok (.iload 4, 2) := by decide +kernel
theorem dX6_add_225 : decode cX6_add 225 = .ok (.iadd, 1) := by decide +kernel
theorem dX6_add_226 : decode cX6_add 226 = .ok (.iconst 0, 1) := by decide +kernel
theorem dX6_add_227 : decode cX6_add 227 = .ok (.iastore, 1) := by decide +kernel
theorem dX6_add_228 : decode cX6_add 228 = .ok (.iinc 4 1, 3) := by decide +kernel
theorem dX6_add_231 : decode cX6_add 231 = .ok (.goto (-26), 3) := by decide +kernel
theorem dX6_add_234 : decode cX6_add 234 = .ok (.aload_n 0, 1) := by decide +kernel
theorem dX6_add_235 : decode cX6_add 235 = .ok (.getfield 23, 3) := by decide +kernel
theorem dX6_add_238 : decode cX6_add 238 = .ok (.iload_n 3, 1) := by decide +kernel
theorem dX6_add_239 : decode cX6_add 239 = .ok (.dup2, 1) := by decide +kernel
theorem dX6_add_240 : decode cX6_add 240 = .ok (.iaload, 1) := by decide +kernel
theorem dX6_add_241 : decode cX6_add 241 = .ok (.iconst 1, 1) := by decide +kernel
theorem dX6_add_242 : decode cX6_add 242 = .ok (.iadd, 1) := by decide +kernel
theorem dX6_add_243 : decode cX6_add 243 = .ok (.iastore, 1) := by decide +kernel
theorem dX6_add_244 : decode cX6_add 244 = .ok (.aload_n 0, 1) := by decide +kernel
theorem dX6_add_245 : decode cX6_add 245 = .ok (.dup, 1) := by decide +kernel
theorem dX6_add_246 : decode cX6_add 246 = .ok (.getfield 96, 3) := by decide +kernel
theorem dX6_add_249 : decode cX6_add 249 = .ok (.iconst 1, 1) := by decide +kernel
theorem dX6_add_250 : decode cX6_add 250 = .ok (.iadd, 1) := by decide +kernel
theorem dX6_add_251 : decode cX6_add 251 = .ok (.putfield 96, 3) := by decide +kernel
theorem dX6_add_254 : decode cX6_add 254 = .ok (.aload_n 0, 1) := by decide +kernel
theorem dX6_add_255 : decode cX6_add 255 = .ok (.getfield 96, 3) := by decide +kernel
theorem dX6_add_258 : decode cX6_add 258 = .ok (.iconst 1, 1) := by decide +kernel
theorem dX6_add_259 : decode cX6_add 259 = .ok (.isub, 1) := by decide +kernel
theorem dX6_add_260 : decode cX6_add 260 = .ok (.ireturn, 1) := by decide +kernel
set_option maxRecDepth 20000 in
theorem ggX6_isInHead_X6_isBranch : GoodIn wsX6_isInHead wsX6_isBranch := goodIn_r _ [6, 7, 8, 9, 5, 10, 17, 18, 19, 20, 21, 22, 23, 24, 25, 26, 27, 28, 29, 30, 31, 32, 33, 34, 35, 36, 37, 38, 39, 40, 41, 42, 43, 44] (by decide +kernel) (by decide +kernel)
set_option maxRecDepth 20000 in
theorem gX6_isInHead_X6_isBranch : GoodIn wsX6_isInHead (wsV RX6 93 RX6 yX6_isBranch wsX6_isBranch) := goodIn_app (goodIn_of _ (by decide +kernel)) ggX6_isInHead_X6_isBranch
set_option maxRecDepth 20000 in
theorem ggX6_isInHead_X6_placeOf : GoodIn wsX6_isInHead wsX6_placeOf := goodIn_r _ [14, 15, 16, 17, 18, 19, 20, 21, 22, 23, 24, 25, 26, 27, 28, 29, 30, 31, 32, 33, 34, 35, 36, 37, 38, 39, 40, 41, 42, 43, 44] (by decide +kernel) (by decide +kernel)
set_option maxRecDepth 20000 in
theorem gX6_isInHead_X6_placeOf : GoodIn wsX6_isInHead (wsV RX6 85 RX6 yX6_placeOf wsX6_placeOf) := goodIn_app (goodIn_of _ (by decide +kernel)) ggX6_isInHead_X6_placeOf
theorem dX6_isInHead_0 : decode cX6_isInHead 0 = .ok (.aload_n 0, 1) := by decide +kernel
theorem dX6_isInHead_1 : decode cX6_isInHead 1 = .ok (.iload_n 1, 1) := by decide +kernel
theorem dX6_isInHead_2 : decode cX6_isInHead 2 = .ok (.invokevirtual 93, 3) := by decide +kernel
theorem dX6_isInHead_5 : decode cX6_isInHead 5 = .ok (.ifCond .eq 22, 3) := by decide +kernel
theorem dX6_isInHead_8 : decode cX6_isInHead 8 = .ok (.aload_n 0, 1) := by decide +kernel
theorem dX6_isInHead_9 : decode cX6_isInHead 9 = .ok (.aload_n 0, 1) := by decide +kernel
theorem dX6_isInHead_10 : decode cX6_isInHead 10 = .ok (.getfield 35, 3) := by decide +kernel
theorem dX6_isInHead_13 : decode cX6_isInHead 13 = .ok (.iload_n 1, 1) := by decide +kernel
theorem dX6_isInHead_14 : decode cX6_isInHead 14 = .ok (.iaload, 1) := by decide +kernel
theorem dX6_isInHead_15 : decode cX6_isInHead 15 = .ok (.iload_n 2, 1) := by decide +kernel
theorem dX6_isInHead_16 : decode cX6_isInHead 16 = .ok (.invokevirtual 85, 3) := by decide +kernel
theorem dX6_isInHead_19 : decode cX6_isInHead 19 = .ok (.iconst (-1), 1) := by decide +kernel
theorem dX6_isInHead_20 : decode cX6_isInHead 20 = .ok (.if_icmp .eq 7, 3) := by decide +kernel
theorem dX6_isInHead_23 : decode cX6_isInHead 23 = .ok (.iconst 1, 1) := by decide +kernel
theorem dX6_isInHead_24 : decode cX6_isInHead 24 = .ok (.goto 4, 3) := by decide +kernel
theorem dX6_isInHead_27 : decode cX6_isInHead 27 = .ok (.iconst 0, 1) := by decide +kernel
theorem dX6_isInHead_28 : decode cX6_isInHead 28 = .ok (.ireturn, 1) := by decide +kernel
set_option maxRecDepth 20000 in
theorem ggX6_set_X6_isInHead : GoodIn wsX6_set wsX6_isInHead := goodIn_r _ [8, 9, 10, 11, 12, 7, 13, 14, 15, 16, 17, 18, 19, 20, 21, 22, 23, 34, 35, 36, 37, 38, 39, 40, 41, 42, 43, 44, 45, 46, 47, 48, 49, 50, 51, 52, 53, 54, 55, 56, 57, 58, 59, 60, 61] (by decide +kernel) (by decide +kernel)
set_option maxRecDepth 20000 in
theorem gX6_set_X6_isInHead : GoodIn wsX6_set (wsV RX6 102 RX6 yX6_isInHead wsX6_isInHead) := goodIn_app (goodIn_of _ (by decide +kernel)) ggX6_set_X6_isInHead
set_option maxRecDepth 20000 in
theorem ggX6_set_X6_isObject : GoodIn wsX6_set wsX6_isObject := goodIn_r _ [26, 15, 16, 7, 17] (by decide +kernel) (by decide +kernel)
set_option maxRecDepth 20000 in
theorem gX6_set_X6_isObject : GoodIn wsX6_set (va_wsS RX6 106 yX6_isObject wsX6_isObject) := goodIn_app (goodIn_of _ (by decide +kernel)) ggX6_set_X6_isObject
set_option maxRecDepth 20000 in
theorem ggX6_set_X6_in : GoodIn wsX6_set wsX6_in := goodIn_r _ [17] (by decide +kernel) (by decide +kernel)
set_option maxRecDepth 20000 in
theorem gX6_set_X6_in : GoodIn wsX6_set (va_wsS RX6 81 yX6_in wsX6_in) := goodIn_app (goodIn_of _ (by decide +kernel)) ggX6_set_X6_in
set_option maxRecDepth 20000 in
theorem ggX6_set_X6_edits : GoodIn wsX6_set wsX6_edits := goodIn_r _ [30, 1, 9, 31, 32, 33, 22, 23, 3, 34, 35, 36, 37, 38, 39, 40, 41, 42, 43, 44, 45, 46, 47, 48, 49, 50, 51, 52, 53, 54, 55, 56, 57, 58, 59, 60, 61] (by decide +kernel) (by decide +kernel)
set_option maxRecDepth 20000 in
theorem gX6_set_X6_edits : GoodIn wsX6_set (wsV RX6 99 RX6 yX6_edits wsX6_edits) := goodIn_app (goodIn_of _ (by decide +kernel)) ggX6_set_X6_edits
set_option maxRecDepth 20000 in
theorem ggX6_set_X6_placeOf : GoodIn wsX6_set wsX6_placeOf := goodIn_r _ [21, 22, 23, 34, 35, 36, 37, 38, 39, 40, 41, 42, 43, 44, 45, 46, 47, 48, 49, 50, 51, 52, 53, 54, 55, 56, 57, 58, 59, 60, 61] (by decide +kernel) (by decide +kernel)
set_option maxRecDepth 20000 in
theorem gX6_set_X6_placeOf : GoodIn wsX6_set (wsV RX6 85 RX6 yX6_placeOf wsX6_placeOf) := goodIn_app (goodIn_of _ (by decide +kernel)) ggX6_set_X6_placeOf
theorem dX6_set_0 : decode cX6_set 0 = .ok (.aload_n 0, 1) := by decide +kernel
theorem dX6_set_1 : decode cX6_set 1 = .ok (.aload_n 0, 1) := by decide +kernel
theorem dX6_set_2 : decode cX6_set 2 = .ok (.iload_n 1, 1) := by decide +kernel
theorem dX6_set_3 : decode cX6_set 3 = .ok (.iload_n 2, 1) := by decide +kernel
theorem dX6_set_4 : decode cX6_set 4 = .ok (.invokevirtual 102, 3) := by decide +kernel
theorem dX6_set_7 : decode cX6_set 7 = .ok (.ifCond .eq 10, 3) := by decide +kernel
theorem dX6_set_10 : decode cX6_set 10 = .ok (.iload_n 3, 1) := by decide +kernel
theorem dX6_set_11 : decode cX6_set 11 = .ok (.invokestatic 106, 3) := by decide +kernel
theorem dX6_set_14 : decode cX6_set 14 = .ok (.ifCond .ne 7, 3) := by decide +kernel
theorem dX6_set_17 : decode cX6_set 17 = .ok (.iconst 1, 1) := by decide +kernel
theorem dX6_set_18 : decode cX6_set 18 = .ok (.goto 33, 3) := by decide +kernel
theorem dX6_set_21 : decode cX6_set 21 = .ok (.iload 4, 2) := by decide +kernel
theorem dX6_set_23 : decode cX6_set 23 = .ok (.iconst 0, 1) := by decide +kernel
theorem dX6_set_24 : decode cX6_set 24 = .ok (.sipush 999, 3) := by decide +kernel
theorem dX6_set_27 : decode cX6_set 27 = .ok (.invokestatic 81, 3) := by decide +kernel
theorem dX6_set_30 : decode cX6_set 30 = .ok (.ifCond .ne 7, 3) := by decide +kernel
theorem dX6_set_33 : decode cX6_set 33 = .ok (.iconst 2, 1) := by decide +kernel
theorem dX6_set_34 : decode cX6_set 34 = .ok (.goto 17, 3) := by decide +kernel
theorem dX6_set_37 : decode cX6_set 37 = .ok (.aload_n 0, 1) := by decide +kernel
theorem dX6_set_38 : decode cX6_set 38 = .ok (.getfield 7, 3) := by decide +kernel
theorem dX6_set_41 : decode cX6_set 41 = .ok (.bipush 40, 2) := by decide +kernel
theorem dX6_set_43 : decode cX6_set 43 = .ok (.if_icmp .ne 7, 3) := by decide +kernel
theorem dX6_set_46 : decode cX6_set 46 = .ok (.iconst 3, 1) := by decide +kernel
theorem dX6_set_47 : decode cX6_set 47 = .ok (.goto 4, 3) := by decide +kernel
theorem dX6_set_50 : decode cX6_set 50 = .ok (.iconst 0, 1) := by decide +kernel
theorem dX6_set_51 : decode cX6_set 51 = .ok (.putfield 78, 3) := by decide +kernel
theorem dX6_set_54 : decode cX6_set 54 = .ok (.aload_n 0, 1) := by decide +kernel
theorem dX6_set_55 : decode cX6_set 55 = .ok (.getfield 78, 3) := by decide +kernel
theorem dX6_set_58 : decode cX6_set 58 = .ok (.ifCond .le 5, 3) := by decide +kernel
theorem dX6_set_61 : decode cX6_set 61 = .ok (.iconst 0, 1) := by decide +kernel
theorem dX6_set_62 : decode cX6_set 62 = .ok (.ireturn, 1) := by decide +kernel
theorem dX6_set_63 : decode cX6_set 63 = .ok (.aload_n 0, 1) := by decide +kernel
theorem dX6_set_64 : decode cX6_set 64 = .ok (.iload_n 1, 1) := by decide +kernel
theorem dX6_set_65 : decode cX6_set 65 = .ok (.iconst (-1), 1) := by decide +kernel
theorem dX6_set_66 : decode cX6_set 66 = .ok (.invokevirtual 99, 3) := by decide +kernel
theorem dX6_set_69 : decode cX6_set 69 = .ok (.istore 5, 2) := by decide +kernel
theorem dX6_set_71 : decode cX6_set 71 = .ok (.iconst 4, 1) := by decide +kernel
theorem dX6_set_72 : decode cX6_set 72 = .ok (.bipush 8, 2) := by decide +kernel
theorem dX6_set_74 : decode cX6_set 74 = .ok (.iload 5, 2) := by decide +kernel
theorem dX6_set_76 : decode cX6_set 76 = .ok (.imul, 1) := by decide +kernel
theorem dX6_set_77 : decode cX6_set 77 = .ok (.aload_n 0, 1) := by decide +kernel
theorem dX6_set_78 : decode cX6_set 78 = .ok (.iload 5, 2) := by decide +kernel
theorem dX6_set_80 : decode cX6_set 80 = .ok (.iload_n 2, 1) := by decide +kernel
theorem dX6_set_81 : decode cX6_set 81 = .ok (.invokevirtual 85, 3) := by decide +kernel
theorem dX6_set_84 : decode cX6_set 84 = .ok (.iadd, 1) := by decide +kernel
theorem dX6_set_85 : decode cX6_set 85 = .ok (.imul, 1) := by decide +kernel
theorem dX6_set_86 : decode cX6_set 86 = .ok (.iload_n 3, 1) := by decide +kernel
theorem dX6_set_87 : decode cX6_set 87 = .ok (.iadd, 1) := by decide +kernel
theorem dX6_set_88 : decode cX6_set 88 = .ok (.istore 6, 2) := by decide +kernel
theorem dX6_set_90 : decode cX6_set 90 = .ok (.aload_n 0, 1) := by decide +kernel
theorem dX6_set_91 : decode cX6_set 91 = .ok (.getfield 29, 3) := by decide +kernel
theorem dX6_set_94 : decode cX6_set 94 = .ok (.iload 6, 2) := by decide +kernel
theorem dX6_set_96 : decode cX6_set 96 = .ok (.iaload, 1) := by decide +kernel
theorem dX6_set_97 : decode cX6_set 97 = .ok (.istore 7, 2) := by decide +kernel
theorem dX6_set_99 : decode cX6_set 99 = .ok (.aload_n 0, 1) := by decide +kernel
theorem dX6_set_100 : decode cX6_set 100 = .ok (.getfield 29, 3) := by decide +kernel
theorem dX6_set_103 : decode cX6_set 103 = .ok (.iload 6, 2) := by decide +kernel
theorem dX6_set_105 : decode cX6_set 105 = .ok (.iload 4, 2) := by decide +kernel
theorem dX6_set_107 : decode cX6_set 107 = .ok (.iastore, 1) := by decide +kernel
theorem dX6_set_108 : decode cX6_set 108 = .ok (.iload 7, 2) := by decide +kernel
theorem dX6_set_110 : decode cX6_set 110 = .ok (.ireturn, 1) := by decide +kernel
set_option maxRecDepth 20000 in
theorem ggX6_drop_X6_isInHead : GoodIn wsX6_drop wsX6_isInHead := goodIn_r _ [7, 8, 9, 10, 11, 6, 12, 13, 14, 15, 16, 17, 18, 19, 20, 21, 22, 31, 32, 33, 34, 35, 36, 37, 38, 39, 40, 41, 42, 43, 44, 45, 46, 47, 48, 49, 50, 51, 52, 53, 54, 55, 56, 57, 58] (by decide +kernel) (by decide +kernel)
set_option maxRecDepth 20000 in
theorem gX6_drop_X6_isInHead : GoodIn wsX6_drop (wsV RX6 102 RX6 yX6_isInHead wsX6_isInHead) := goodIn_app (goodIn_of _ (by decide +kernel)) ggX6_drop_X6_isInHead
set_option maxRecDepth 20000 in
theorem ggX6_drop_X6_edits : GoodIn wsX6_drop wsX6_edits := goodIn_r _ [26, 1, 8, 27, 28, 29, 21, 22, 30, 31, 32, 33, 34, 35, 36, 37, 38, 39, 40, 41, 42, 43, 44, 45, 46, 47, 48, 49, 50, 51, 52, 53, 54, 55, 56, 57, 58] (by decide +kernel) (by decide +kernel)
set_option maxRecDepth 20000 in
theorem gX6_drop_X6_edits : GoodIn wsX6_drop (wsV RX6 99 RX6 yX6_edits wsX6_edits) := goodIn_app (goodIn_of _ (by decide +kernel)) ggX6_drop_X6_edits
theorem dX6_drop_0 : decode cX6_drop 0 = .ok (.aload_n 0, 1) := by decide +kernel
theorem dX6_drop_1 : decode cX6_drop 1 = .ok (.aload_n 0, 1) := by decide +kernel
theorem dX6_drop_2 : decode cX6_drop 2 = .ok (.iload_n 1, 1) := by decide +kernel
theorem dX6_drop_3 : decode cX6_drop 3 = .ok (.iload_n 2, 1) := by decide +kernel
theorem dX6_drop_4 : decode cX6_drop 4 = .ok (.invokevirtual 102, 3) := by decide +kernel
theorem dX6_drop_7 : decode cX6_drop 7 = .ok (.ifCond .ne 7, 3) := by decide +kernel
theorem dX6_drop_10 : decode cX6_drop 10 = .ok (.iconst 1, 1) := by decide +kernel
theorem dX6_drop_11 : decode cX6_drop 11 = .ok (.goto 17, 3) := by decide +kernel
theorem dX6_drop_14 : decode cX6_drop 14 = .ok (.aload_n 0, 1) := by decide +kernel
theorem dX6_drop_15 : decode cX6_drop 15 = .ok (.getfield 7, 3) := by decide +kernel
theorem dX6_drop_18 : decode cX6_drop 18 = .ok (.bipush 40, 2) := by decide +kernel
theorem dX6_drop_20 : decode cX6_drop 20 = .ok (.if_icmp .ne 7, 3) := by decide +kernel
theorem dX6_drop_23 : decode cX6_drop 23 = .ok (.iconst 2, 1) := by decide +kernel
theorem dX6_drop_24 : decode cX6_drop 24 = .ok (.goto 4, 3) := by decide +kernel
theorem dX6_drop_27 : decode cX6_drop 27 = .ok (.iconst 0, 1) := by decide +kernel
theorem dX6_drop_28 : decode cX6_drop 28 = .ok (.putfield 78, 3) := by decide +kernel
theorem dX6_drop_31 : decode cX6_drop 31 = .ok (.aload_n 0, 1) := by decide +kernel
theorem dX6_drop_32 : decode cX6_drop 32 = .ok (.getfield 78, 3) := by decide +kernel
theorem dX6_drop_35 : decode cX6_drop 35 = .ok (.ifCond .le 7, 3) := by decide +kernel
theorem dX6_drop_38 : decode cX6_drop 38 = .ok (.iconst 0, 1) := by decide +kernel
theorem dX6_drop_39 : decode cX6_drop 39 = .ok (.goto 9, 3) := by decide +kernel
theorem dX6_drop_42 : decode cX6_drop 42 = .ok (.aload_n 0, 1) := by decide +kernel
theorem dX6_drop_43 : decode cX6_drop 43 = .ok (.iload_n 1, 1) := by decide +kernel
theorem dX6_drop_44 : decode cX6_drop 44 = .ok (.iload_n 2, 1) := by decide +kernel
theorem dX6_drop_45 : decode cX6_drop 45 = .ok (.invokevirtual 99, 3) := by decide +kernel
theorem dX6_drop_48 : decode cX6_drop 48 = .ok (.ireturn, 1) := by decide +kernel
set_option maxRecDepth 20000 in
theorem ggX6_head_X6_isBranch : GoodIn wsX6_head wsX6_isBranch := goodIn_r _ [7, 8, 9, 10, 6, 11, 12, 13, 14, 15, 16, 17, 18, 19, 20, 21, 22, 23, 24, 25, 26, 27, 28, 29, 30, 31, 32, 33, 34, 35, 36, 37, 38, 39] (by decide +kernel) (by decide +kernel)
set_option maxRecDepth 20000 in
theorem gX6_head_X6_isBranch : GoodIn wsX6_head (wsV RX6 93 RX6 yX6_isBranch wsX6_isBranch) := goodIn_app (goodIn_of _ (by decide +kernel)) ggX6_head_X6_isBranch
theorem dX6_head_0 : decode cX6_head 0 = .ok (.aload_n 0, 1) := by decide +kernel
theorem dX6_head_1 : decode cX6_head 1 = .ok (.aload_n 0, 1) := by decide +kernel
theorem dX6_head_2 : decode cX6_head 2 = .ok (.iload_n 1, 1) := by decide +kernel
theorem dX6_head_3 : decode cX6_head 3 = .ok (.invokevirtual 93, 3) := by decide +kernel
theorem dX6_head_6 : decode cX6_head 6 = .ok (.ifCond .eq 7, 3) := by decide +kernel
theorem dX6_head_9 : decode cX6_head 9 = .ok (.iconst 0, 1) := by decide +kernel
theorem dX6_head_10 : decode cX6_head 10 = .ok (.goto 4, 3) := by decide +kernel
theorem dX6_head_13 : decode cX6_head 13 = .ok (.iconst 1, 1) := by decide +kernel
theorem dX6_head_14 : decode cX6_head 14 = .ok (.putfield 78, 3) := by decide +kernel
theorem dX6_head_17 : decode cX6_head 17 = .ok (.aload_n 0, 1) := by decide +kernel
theorem dX6_head_18 : decode cX6_head 18 = .ok (.getfield 78, 3) := by decide +kernel
theorem dX6_head_21 : decode cX6_head 21 = .ok (.ifCond .le 7, 3) := by decide +kernel
theorem dX6_head_24 : decode cX6_head 24 = .ok (.iconst 0, 1) := by decide +kernel
theorem dX6_head_25 : decode cX6_head 25 = .ok (.goto 9, 3) := by decide +kernel
theorem dX6_head_28 : decode cX6_head 28 = .ok (.aload_n 0, 1) := by decide +kernel
theorem dX6_head_29 : decode cX6_head 29 = .ok (.getfield 35, 3) := by decide +kernel
theorem dX6_head_32 : decode cX6_head 32 = .ok (.iload_n 1, 1) := by decide +kernel
theorem dX6_head_33 : decode cX6_head 33 = .ok (.iaload, 1) := by decide +kernel
theorem dX6_head_34 : decode cX6_head 34 = .ok (.ireturn, 1) := by decide +kernel
theorem dX6_layAncestors_0 : decode cX6_layAncestors 0 = .ok (.iconst 0, 1) := by decide +kernel
theorem dX6_layAncestors_1 : decode cX6_layAncestors 1 = .ok (.istore_n 3, 1) := by decide +kernel
theorem dX6_layAncestors_2 : decode cX6_layAncestors 2 = .ok (.bipush 39, 2) := by decide +kernel
theorem dX6_layAncestors_4 : decode cX6_layAncestors 4 = .ok (.istore 4, 2) := by decide +kernel
theorem dX6_layAncestors_6 : decode cX6_layAncestors 6 = .ok (.iload 4, 2) := by decide +kernel
theorem dX6_layAncestors_8 : decode cX6_layAncestors 8 = .ok (.ifCond .lt 166, 3) := by decide +kernel
theorem dX6_layAncestors_11 : decode cX6_layAncestors 11 = .ok (.iload 4, 2) := by decide +kernel
theorem dX6_layAncestors_13 : decode cX6_layAncestors 13 = .ok (.iload_n 1, 1) := by decide +kernel
theorem dX6_layAncestors_14 : decode cX6_layAncestors 14 = .ok (.if_icmp .ne 7, 3) := by decide +kernel
theorem dX6_layAncestors_17 : decode cX6_layAncestors 17 = .ok (.iconst 1, 1) := by decide +kernel
theorem dX6_layAncestors_18 : decode cX6_layAncestors 18 = .ok (.goto 4, 3) := by decide +kernel
theorem dX6_layAncestors_21 : decode cX6_layAncestors 21 = .ok (.iconst 0, 1) := by decide +kernel
theorem dX6_layAncestors_22 : decode cX6_layAncestors 22 = .ok (.istore 5, 2) := by decide +kernel
theorem dX6_layAncestors_24 : decode cX6_layAncestors 24 = .ok (.iload 4, 2) := by decide +kernel
theorem dX6_layAncestors_26 : decode cX6_layAncestors 26 = .ok (.iconst 1, 1) := by decide +kernel
theorem dX6_layAncestors_27 : decode cX6_layAncestors 27 = .ok (.iadd, 1) := by decide +kernel
theorem dX6_layAncestors_28 : decode cX6_layAncestors 28 = .ok (.istore 6, 2) := by decide +kernel
theorem dX6_layAncestors_30 : decode cX6_layAncestors 30 = .ok (.iload 6, 2) := by decide +kernel
theorem dX6_layAncestors_32 : decode cX6_layAncestors 32 = .ok (.aload_n 0, 1) := by decide +kernel
theorem dX6_layAncestors_33 : decode cX6_layAncestors 33 = .ok (.getfield 7, 3) := by decide +kernel
theorem dX6_layAncestors_36 : decode cX6_layAncestors 36 = .ok (.if_icmp .ge 73, 3) := by decide +kernel
theorem dX6_layAncestors_39 : decode cX6_layAncestors 39 = .ok (.iload_n 2, 1) := by decide +kernel
theorem dX6_layAncestors_40 : decode cX6_layAncestors 40 = .ok (.ifCond .eq 13, 3) := by decide +kernel
theorem dX6_layAncestors_43 : decode cX6_layAncestors 43 = .ok (.aload_n 0, 1) := by decide +kernel
theorem dX6_layAncestors_44 : decode cX6_layAncestors 44 = .ok (.getfield 72, 3) := by decide +kernel
theorem dX6_layAncestors_47 : decode cX6_layAncestors 47 = .ok (.iload 6, 2) := by decide +kernel
theorem dX6_layAncestors_49 : decode cX6_layAncestors 49 = .ok (.baload, 1) := by decide +kernel
theorem dX6_layAncestors_50 : decode cX6_layAncestors 50 = .ok (.goto 10, 3) := by decide +kernel
theorem dX6_layAncestors_53 : decode cX6_layAncestors 53 = .ok (.aload_n 0, 1) := by decide +kernel
theorem dX6_layAncestors_54 : decode cX6_layAncestors 54 = .ok (.getfield 68, 3) := by decide +kernel
theorem dX6_layAncestors_57 : decode cX6_layAncestors 57 = .ok (.iload 6, 2) := by decide +kernel
theorem dX6_layAncestors_59 : decode cX6_layAncestors 59 = .ok (.baload, 1) := by decide +kernel
theorem dX6_layAncestors_60 : decode cX6_layAncestors 60 = .ok (.istore 7, 2) := by decide +kernel
theorem dX6_layAncestors_62 : decode cX6_layAncestors 62 = .ok (.iload 5, 2) := by decide +kernel
theorem dX6_layAncestors_64 : decode cX6_layAncestors 64 = .ok (.ifCond .ne 32, 3) := by decide +kernel
theorem dX6_layAncestors_67 : decode cX6_layAncestors 67 = .ok (.iload 7, 2) := by decide +kernel
theorem dX6_layAncestors_69 : decode cX6_layAncestors 69 = .ok (.ifCond .eq 31, 3) := by decide +kernel
theorem dX6_layAncestors_72 : decode cX6_layAncestors 72 = .ok (.aload_n 0, 1) := by decide +kernel
theorem dX6_layAncestors_73 : decode cX6_layAncestors 73 = .ok (.getfield 17, 3) := by decide +kernel
theorem dX6_layAncestors_76 : decode cX6_layAncestors 76 = .ok (.iload 6, 2) := by decide +kernel
theorem dX6_layAncestors_78 : decode cX6_layAncestors 78 = .ok (.iaload, 1) := by decide +kernel
theorem dX6_layAncestors_79 : decode cX6_layAncestors 79 = .ok (.iload 4, 2) := by decide +kernel
theorem dX6_layAncestors_81 : decode cX6_layAncestors 81 = .ok (.if_icmp .eq 15, 3) := by decide +kernel
theorem dX6_layAncestors_84 : decode cX6_layAncestors 84 = .ok (.aload_n 0, 1) := by decide +kernel
theorem dX6_layAncestors_85 : decode cX6_layAncestors 85 = .ok (.getfield 20, 3) := by decide +kernel
theorem dX6_layAncestors_88 : decode cX6_layAncestors 88 = .ok (.iload 6, 2) := by decide +kernel
theorem dX6_layAncestors_90 : decode cX6_layAncestors 90 = .ok (.iaload, 1) := by decide +kernel
theorem dX6_layAncestors_91 : decode cX6_layAncestors 91 = .ok (.iload 4, 2) := by decide +kernel
theorem dX6_layAncestors_93 : decode cX6_layAncestors 93 = .ok (.if_icmp .ne 7, 3) := by decide +kernel
theorem dX6_layAncestors_96 : decode cX6_layAncestors 96 = .ok (.iconst 1, 1) := by decide +kernel
theorem dX6_layAncestors_97 : decode cX6_layAncestors 97 = .ok (.goto 4, 3) := by decide +kernel
theorem dX6_layAncestors_100 : decode cX6_layAncestors 100 = .ok (.iconst 0, 1) := by decide +kernel
theorem dX6_layAncestors_101 : decode cX6_layAncestors 101 = .ok (.istore 5, 2) := by decide +kernel
theorem dX6_layAncestors_103 : decode cX6_layAncestors 103 = .ok (.iinc 6 1, 3) := by decide +kernel
theorem dX6_layAncestors_106 : decode cX6_layAncestors 106 = .ok (.goto (-76), 3) := by decide +kernel
theorem dX6_layAncestors_109 : decode cX6_layAncestors 109 = .ok (.aload_n 0, 1) := by decide +kernel
theorem dX6_layAncestors_110 : decode cX6_layAncestors 110 = .ok (.getfield 68, 3) := by decide +kernel
theorem dX6_layAncestors_113 : decode cX6_layAncestors 113 = .ok (.iload 4, 2) := by decide +kernel
theorem dX6_layAncestors_115 : decode cX6_layAncestors 115 = .ok (.iload_n 2, 1) := by decide +kernel
theorem dX6_layAncestors_116 : decode cX6_layAncestors 116 = .ok (.ifCond .eq 13, 3) := by decide +kernel
theorem dX6_layAncestors_119 : decode cX6_layAncestors 119 = .ok (.aload_n 0, 1) := by decide +kernel
theorem dX6_layAncestors_120 : decode cX6_layAncestors 120 = .ok (.getfield 68, 3) := by decide +kernel
theorem dX6_layAncestors_123 : decode cX6_layAncestors 123 = .ok (.iload 4, 2) := by decide +kernel
theorem dX6_layAncestors_125 : decode cX6_layAncestors 125 = .ok (.baload, 1) := by decide +kernel
theorem dX6_layAncestors_126 : decode cX6_layAncestors 126 = .ok (.goto 5, 3) := by decide +kernel
theorem dX6_layAncestors_129 : decode cX6_layAncestors 129 = .ok (.iload 5, 2) := by decide +kernel
theorem dX6_layAncestors_131 : decode cX6_layAncestors 131 = .ok (.bastore, 1) := by decide +kernel
theorem dX6_layAncestors_132 : decode cX6_layAncestors 132 = .ok (.aload_n 0, 1) := by decide +kernel
theorem dX6_layAncestors_133 : decode cX6_layAncestors 133 = .ok (.getfield 72, 3) := by decide +kernel
theorem dX6_layAncestors_136 : decode cX6_layAncestors 136 = .ok (.iload 4, 2) := by decide +kernel
theorem dX6_layAncestors_138 : decode cX6_layAncestors 138 = .ok (.iload_n 2, 1) := by decide +kernel
theorem dX6_layAncestors_139 : decode cX6_layAncestors 139 = .ok (.ifCond .eq 8, 3) := by decide +kernel
theorem dX6_layAncestors_142 : decode cX6_layAncestors 142 = .ok (.iload 5, 2) := by decide +kernel
theorem dX6_layAncestors_144 : decode cX6_layAncestors 144 = .ok (.goto 10, 3) := by decide +kernel
theorem dX6_layAncestors_147 : decode cX6_layAncestors 147 = .ok (.aload_n 0, 1) := by decide +kernel
theorem dX6_layAncestors_148 : decode cX6_layAncestors 148 = .ok (.getfield 72, 3) := by decide +kernel
theorem dX6_layAncestors_151 : decode cX6_layAncestors 151 = .ok (.iload 4, 2) := by decide +kernel
theorem dX6_layAncestors_153 : decode cX6_layAncestors 153 = .ok (.baload, 1) := by decide +kernel
theorem dX6_layAncestors_154 : decode cX6_layAncestors 154 = .ok (.bastore, 1) := by decide +kernel
theorem dX6_layAncestors_155 : decode cX6_layAncestors 155 = .ok (.iload_n 3, 1) := by decide +kernel
theorem dX6_layAncestors_156 : decode cX6_layAncestors 156 = .ok (.iload 5, 2) := by decide +kernel
theorem dX6_layAncestors_158 : decode cX6_layAncestors 158 = .ok (.ifCond .eq 7, 3) := by decide +kernel
theorem dX6_layAncestors_161 : decode cX6_layAncestors 161 = .ok (.iconst 1, 1) := by decide +kernel
theorem dX6_layAncestors_162 : decode cX6_layAncestors 162 = .ok (.goto 4, 3) := by decide +kernel
theorem dX6_layAncestors_165 : decode cX6_layAncestors 165 = .ok (.iconst 0, 1) := by decide +kernel
theorem dX6_layAncestors_166 : decode cX6_layAncestors 166 = .ok (.iadd, 1) := by decide +kernel
theorem dX6_layAncestors_167 : decode cX6_layAncestors 167 = .ok (.istore_n 3, 1) := by decide +kernel
theorem dX6_layAncestors_168 : decode cX6_layAncestors 168 = .ok (.iinc 4 (-1), 3) := by decide +kernel
theorem dX6_layAncestors_171 : decode cX6_layAncestors 171 = .ok (.goto (-165), 3) := by decide +kernel
theorem dX6_layAncestors_174 : decode cX6_layAncestors 174 = .ok (.iload_n 3, 1) := by decide +kernel
theorem dX6_layAncestors_175 : decode cX6_layAncestors 175 = .ok (.ireturn, 1) := by decide +kernel
set_option maxRecDepth 20000 in
theorem ggX6_about_X6_isVersion : GoodIn wsX6_about wsX6_isVersion := goodIn_r _ [10, 11, 12, 13, 9, 14, 21, 22, 23, 24, 25, 26, 27, 28, 29, 30, 31, 32, 33, 34, 35, 36, 37, 38, 39, 40, 41, 42, 43, 44, 45, 46, 47, 48] (by decide +kernel) (by decide +kernel)
set_option maxRecDepth 20000 in
theorem gX6_about_X6_isVersion : GoodIn wsX6_about (wsV RX6 89 RX6 yX6_isVersion wsX6_isVersion) := goodIn_app (goodIn_of _ (by decide +kernel)) ggX6_about_X6_isVersion
set_option maxRecDepth 20000 in
theorem ggX6_about_X6_in : GoodIn wsX6_about wsX6_in := goodIn_r _ [14] (by decide +kernel) (by decide +kernel)
set_option maxRecDepth 20000 in
theorem gX6_about_X6_in : GoodIn wsX6_about (va_wsS RX6 81 yX6_in wsX6_in) := goodIn_app (goodIn_of _ (by decide +kernel)) ggX6_about_X6_in
set_option maxRecDepth 20000 in
theorem ggX6_about_X6_layAncestors : GoodIn wsX6_about wsX6_layAncestors := goodIn_r _ [18, 11, 19, 20, 3, 4, 21, 22, 23, 24, 25, 26, 27, 28, 29, 30, 31, 32, 33, 34, 35, 36, 37, 38, 39, 40, 41, 42, 43, 44, 45, 46, 47, 48] (by decide +kernel) (by decide +kernel)
set_option maxRecDepth 20000 in
theorem gX6_about_X6_layAncestors : GoodIn wsX6_about (wsV RX6 109 RX6 yX6_layAncestors wsX6_layAncestors) := goodIn_app (goodIn_of _ (by decide +kernel)) ggX6_about_X6_layAncestors
theorem dX6_about_0 : decode cX6_about 0 = .ok (.aload_n 0, 1) := by decide +kernel
theorem dX6_about_1 : decode cX6_about 1 = .ok (.aload_n 0, 1) := by decide +kernel
theorem dX6_about_2 : decode cX6_about 2 = .ok (.iload_n 1, 1) := by decide +kernel
theorem dX6_about_3 : decode cX6_about 3 = .ok (.invokevirtual 89, 3) := by decide +kernel
theorem dX6_about_6 : decode cX6_about 6 = .ok (.ifCond .ne 7, 3) := by decide +kernel
theorem dX6_about_9 : decode cX6_about 9 = .ok (.iconst 1, 1) := by decide +kernel
theorem dX6_about_10 : decode cX6_about 10 = .ok (.goto 17, 3) := by decide +kernel
theorem dX6_about_13 : decode cX6_about 13 = .ok (.iload_n 2, 1) := by decide +kernel
theorem dX6_about_14 : decode cX6_about 14 = .ok (.iconst 0, 1) := by decide +kernel
theorem dX6_about_15 : decode cX6_about 15 = .ok (.iconst 4, 1) := by decide +kernel
theorem dX6_about_16 : decode cX6_about 16 = .ok (.invokestatic 81, 3) := by decide +kernel
theorem dX6_about_19 : decode cX6_about 19 = .ok (.ifCond .ne 7, 3) := by decide +kernel
theorem dX6_about_22 : decode cX6_about 22 = .ok (.iconst 2, 1) := by decide +kernel
theorem dX6_about_23 : decode cX6_about 23 = .ok (.goto 4, 3) := by decide +kernel
theorem dX6_about_26 : decode cX6_about 26 = .ok (.iconst 0, 1) := by decide +kernel
theorem dX6_about_27 : decode cX6_about 27 = .ok (.putfield 78, 3) := by decide +kernel
theorem dX6_about_30 : decode cX6_about 30 = .ok (.aload_n 0, 1) := by decide +kernel
theorem dX6_about_31 : decode cX6_about 31 = .ok (.getfield 78, 3) := by decide +kernel
theorem dX6_about_34 : decode cX6_about 34 = .ok (.ifCond .le 5, 3) := by decide +kernel
theorem dX6_about_37 : decode cX6_about 37 = .ok (.iconst 0, 1) := by decide +kernel
theorem dX6_about_38 : decode cX6_about 38 = .ok (.ireturn, 1) := by decide +kernel
theorem dX6_about_39 : decode cX6_about 39 = .ok (.iload_n 2, 1) := by decide +kernel
theorem dX6_about_40 : decode cX6_about 40 = .ok (.ifCond .ne 12, 3) := by decide +kernel
theorem dX6_about_43 : decode cX6_about 43 = .ok (.aload_n 0, 1) := by decide +kernel
theorem dX6_about_44 : decode cX6_about 44 = .ok (.getfield 13, 3) := by decide +kernel
theorem dX6_about_47 : decode cX6_about 47 = .ok (.iload_n 1, 1) := by decide +kernel
theorem dX6_about_48 : decode cX6_about 48 = .ok (.iaload, 1) := by decide +kernel
theorem dX6_about_49 : decode cX6_about 49 = .ok (.goto 51, 3) := by decide +kernel
theorem dX6_about_52 : decode cX6_about 52 = .ok (.iload_n 2, 1) := by decide +kernel
theorem dX6_about_53 : decode cX6_about 53 = .ok (.iconst 1, 1) := by decide +kernel
theorem dX6_about_54 : decode cX6_about 54 = .ok (.if_icmp .ne 12, 3) := by decide +kernel
theorem dX6_about_57 : decode cX6_about 57 = .ok (.aload_n 0, 1) := by decide +kernel
theorem dX6_about_58 : decode cX6_about 58 = .ok (.getfield 17, 3) := by decide +kernel
theorem dX6_about_61 : decode cX6_about 61 = .ok (.iload_n 1, 1) := by decide +kernel
theorem dX6_about_62 : decode cX6_about 62 = .ok (.iaload, 1) := by decide +kernel
theorem dX6_about_63 : decode cX6_about 63 = .ok (.goto 37, 3) := by decide +kernel
theorem dX6_about_66 : decode cX6_about 66 = .ok (.iload_n 2, 1) := by decide +kernel
theorem dX6_about_67 : decode cX6_about 67 = .ok (.iconst 2, 1) := by decide +kernel
theorem dX6_about_68 : decode cX6_about 68 = .ok (.if_icmp .ne 12, 3) := by decide +kernel
theorem dX6_about_71 : decode cX6_about 71 = .ok (.aload_n 0, 1) := by decide +kernel
theorem dX6_about_72 : decode cX6_about 72 = .ok (.getfield 20, 3) := by decide +kernel
theorem dX6_about_75 : decode cX6_about 75 = .ok (.iload_n 1, 1) := by decide +kernel
theorem dX6_about_76 : decode cX6_about 76 = .ok (.iaload, 1) := by decide +kernel
theorem dX6_about_77 : decode cX6_about 77 = .ok (.goto 23, 3) := by decide +kernel
theorem dX6_about_80 : decode cX6_about 80 = .ok (.iload_n 2, 1) := by decide +kernel
theorem dX6_about_81 : decode cX6_about 81 = .ok (.iconst 3, 1) := by decide +kernel
theorem dX6_about_82 : decode cX6_about 82 = .ok (.if_icmp .ne 12, 3) := by decide +kernel
theorem dX6_about_85 : decode cX6_about 85 = .ok (.aload_n 0, 1) := by decide +kernel
theorem dX6_about_86 : decode cX6_about 86 = .ok (.getfield 23, 3) := by decide +kernel
theorem dX6_about_89 : decode cX6_about 89 = .ok (.iload_n 1, 1) := by decide +kernel
theorem dX6_about_90 : decode cX6_about 90 = .ok (.iaload, 1) := by decide +kernel
theorem dX6_about_91 : decode cX6_about 91 = .ok (.goto 9, 3) := by decide +kernel
theorem dX6_about_94 : decode cX6_about 94 = .ok (.aload_n 0, 1) := by decide +kernel
theorem dX6_about_95 : decode cX6_about 95 = .ok (.iload_n 1, 1) := by decide +kernel
theorem dX6_about_96 : decode cX6_about 96 = .ok (.iconst 0, 1) := by decide +kernel
theorem dX6_about_97 : decode cX6_about 97 = .ok (.invokevirtual 109, 3) := by decide +kernel
theorem dX6_about_100 : decode cX6_about 100 = .ok (.ireturn, 1) := by decide +kernel
set_option maxRecDepth 20000 in
theorem ggX6_isSlide_X6_in : GoodIn wsX6_isSlide wsX6_in := goodIn_r _ [5] (by decide +kernel) (by decide +kernel)
set_option maxRecDepth 20000 in
theorem gX6_isSlide_X6_in : GoodIn wsX6_isSlide (va_wsS RX6 81 yX6_in wsX6_in) := goodIn_app (goodIn_of _ (by decide +kernel)) ggX6_isSlide_X6_in
theorem dX6_isSlide_0 : decode cX6_isSlide 0 = .ok (.iload_n 1, 1) := by decide +kernel
theorem dX6_isSlide_1 : decode cX6_isSlide 1 = .ok (.iconst 0, 1) := by decide +kernel
theorem dX6_isSlide_2 : decode cX6_isSlide 2 = .ok (.aload_n 0, 1) := by decide +kernel
theorem dX6_isSlide_3 : decode cX6_isSlide 3 = .ok (.getfield 96, 3) := by decide +kernel
theorem dX6_isSlide_6 : decode cX6_isSlide 6 = .ok (.iconst 1, 1) := by decide +kernel
theorem dX6_isSlide_7 : decode cX6_isSlide 7 = .ok (.isub, 1) := by decide +kernel
theorem dX6_isSlide_8 : decode cX6_isSlide 8 = .ok (.invokestatic 81, 3) := by decide +kernel
theorem dX6_isSlide_11 : decode cX6_isSlide 11 = .ok (.ireturn, 1) := by decide +kernel
set_option maxRecDepth 20000 in
theorem ggX6_value_X6_isVersion : GoodIn wsX6_value wsX6_isVersion := goodIn_r _ [6, 7, 8, 9, 5, 10, 30, 31, 32, 33, 34, 35, 36, 37, 38, 39, 40, 41, 42, 43, 44, 45, 46, 47, 48, 49, 50, 51, 52, 53, 54, 55, 56, 57] (by decide +kernel) (by decide +kernel)
set_option maxRecDepth 20000 in
theorem gX6_value_X6_isVersion : GoodIn wsX6_value (wsV RX6 89 RX6 yX6_isVersion wsX6_isVersion) := goodIn_app (goodIn_of _ (by decide +kernel)) ggX6_value_X6_isVersion
set_option maxRecDepth 20000 in
theorem ggX6_value_X6_isSlide : GoodIn wsX6_value wsX6_isSlide := goodIn_r _ [14, 15, 8, 9, 5, 10, 30, 31, 32, 33, 34, 35, 36, 37, 38, 39, 40, 41, 42, 43, 44, 45, 46, 47, 48, 49, 50, 51, 52, 53, 54, 55, 56, 57] (by decide +kernel) (by decide +kernel)
set_option maxRecDepth 20000 in
theorem gX6_value_X6_isSlide : GoodIn wsX6_value (wsV RX6 113 RX6 yX6_isSlide wsX6_isSlide) := goodIn_app (goodIn_of _ (by decide +kernel)) ggX6_value_X6_isSlide
set_option maxRecDepth 20000 in
theorem ggX6_value_X6_isObject : GoodIn wsX6_value wsX6_isObject := goodIn_r _ [18, 8, 9, 5, 10] (by decide +kernel) (by decide +kernel)
set_option maxRecDepth 20000 in
theorem gX6_value_X6_isObject : GoodIn wsX6_value (va_wsS RX6 106 yX6_isObject wsX6_isObject) := goodIn_app (goodIn_of _ (by decide +kernel)) ggX6_value_X6_isObject
set_option maxRecDepth 20000 in
theorem ggX6_value_X6_placeOf : GoodIn wsX6_value wsX6_placeOf := goodIn_r _ [22, 23, 24, 30, 31, 32, 33, 34, 35, 36, 37, 38, 39, 40, 41, 42, 43, 44, 45, 46, 47, 48, 49, 50, 51, 52, 53, 54, 55, 56, 57] (by decide +kernel) (by decide +kernel)
set_option maxRecDepth 20000 in
theorem gX6_value_X6_placeOf : GoodIn wsX6_value (wsV RX6 85 RX6 yX6_placeOf wsX6_placeOf) := goodIn_app (goodIn_of _ (by decide +kernel)) ggX6_value_X6_placeOf
set_option maxRecDepth 20000 in
theorem ggX6_value_X6_valueOf : GoodIn wsX6_value wsX6_valueOf := goodIn_r _ [28, 29, 19, 20, 21, 5, 22, 23, 24, 30, 31, 32, 33, 34, 35, 36, 37, 38, 39, 40, 41, 42, 43, 44, 45, 46, 47, 48, 49, 50, 51, 52, 53, 54, 55, 56, 57] (by decide +kernel) (by decide +kernel)
set_option maxRecDepth 20000 in
theorem gX6_value_X6_valueOf : GoodIn wsX6_value (wsV RX6 116 RX6 yX6_valueOf wsX6_valueOf) := goodIn_app (goodIn_of _ (by decide +kernel)) ggX6_value_X6_valueOf
theorem dX6_value_0 : decode cX6_value 0 = .ok (.aload_n 0, 1) := by decide +kernel
theorem dX6_value_1 : decode cX6_value 1 = .ok (.aload_n 0, 1) := by decide +kernel
theorem dX6_value_2 : decode cX6_value 2 = .ok (.iload_n 1, 1) := by decide +kernel
theorem dX6_value_3 : decode cX6_value 3 = .ok (.invokevirtual 89, 3) := by decide +kernel
theorem dX6_value_6 : decode cX6_value 6 = .ok (.ifCond .eq 22, 3) := by decide +kernel
theorem dX6_value_9 : decode cX6_value 9 = .ok (.aload_n 0, 1) := by decide +kernel
theorem dX6_value_10 : decode cX6_value 10 = .ok (.iload_n 2, 1) := by decide +kernel
theorem dX6_value_11 : decode cX6_value 11 = .ok (.invokevirtual 113, 3) := by decide +kernel
theorem dX6_value_14 : decode cX6_value 14 = .ok (.ifCond .eq 14, 3) := by decide +kernel
theorem dX6_value_17 : decode cX6_value 17 = .ok (.iload_n 3, 1) := by decide +kernel
theorem dX6_value_18 : decode cX6_value 18 = .ok (.invokestatic 106, 3) := by decide +kernel
theorem dX6_value_21 : decode cX6_value 21 = .ok (.ifCond .eq 7, 3) := by decide +kernel
theorem dX6_value_24 : decode cX6_value 24 = .ok (.iconst 0, 1) := by decide +kernel
theorem dX6_value_25 : decode cX6_value 25 = .ok (.goto 4, 3) := by decide +kernel
theorem dX6_value_28 : decode cX6_value 28 = .ok (.iconst 1, 1) := by decide +kernel
theorem dX6_value_29 : decode cX6_value 29 = .ok (.putfield 78, 3) := by decide +kernel
theorem dX6_value_32 : decode cX6_value 32 = .ok (.aload_n 0, 1) := by decide +kernel
theorem dX6_value_33 : decode cX6_value 33 = .ok (.getfield 78, 3) := by decide +kernel
theorem dX6_value_36 : decode cX6_value 36 = .ok (.ifCond .le 5, 3) := by decide +kernel
theorem dX6_value_39 : decode cX6_value 39 = .ok (.iconst 0, 1) := by decide +kernel
theorem dX6_value_40 : decode cX6_value 40 = .ok (.ireturn, 1) := by decide +kernel
theorem dX6_value_41 : decode cX6_value 41 = .ok (.aload_n 0, 1) := by decide +kernel
theorem dX6_value_42 : decode cX6_value 42 = .ok (.iload_n 1, 1) := by decide +kernel
theorem dX6_value_43 : decode cX6_value 43 = .ok (.iload_n 2, 1) := by decide +kernel
theorem dX6_value_44 : decode cX6_value 44 = .ok (.invokevirtual 85, 3) := by decide +kernel
theorem dX6_value_47 : decode cX6_value 47 = .ok (.iconst (-1), 1) := by decide +kernel
theorem dX6_value_48 : decode cX6_value 48 = .ok (.if_icmp .ne 7, 3) := by decide +kernel
theorem dX6_value_51 : decode cX6_value 51 = .ok (.iconst (-1), 1) := by decide +kernel
theorem dX6_value_52 : decode cX6_value 52 = .ok (.goto 10, 3) := by decide +kernel
theorem dX6_value_55 : decode cX6_value 55 = .ok (.aload_n 0, 1) := by decide +kernel
theorem dX6_value_56 : decode cX6_value 56 = .ok (.iload_n 1, 1) := by decide +kernel
theorem dX6_value_57 : decode cX6_value 57 = .ok (.iload_n 2, 1) := by decide +kernel
theorem dX6_value_58 : decode cX6_value 58 = .ok (.iload_n 3, 1) := by decide +kernel
theorem dX6_value_59 : decode cX6_value 59 = .ok (.invokevirtual 116, 3) := by decide +kernel
theorem dX6_value_62 : decode cX6_value 62 = .ok (.ireturn, 1) := by decide +kernel
set_option maxRecDepth 20000 in
theorem ggX6_slideAt_X6_isVersion : GoodIn wsX6_slideAt wsX6_isVersion := goodIn_r _ [8, 9, 10, 11, 7, 12, 13, 14, 15, 16, 17, 18, 19, 20, 21, 22, 23, 24, 25, 26, 27, 28, 29, 30, 31, 32, 33, 34, 35, 36, 37, 38, 39, 40] (by decide +kernel) (by decide +kernel)
set_option maxRecDepth 20000 in
theorem gX6_slideAt_X6_isVersion : GoodIn wsX6_slideAt (wsV RX6 89 RX6 yX6_isVersion wsX6_isVersion) := goodIn_app (goodIn_of _ (by decide +kernel)) ggX6_slideAt_X6_isVersion
theorem dX6_slideAt_0 : decode cX6_slideAt 0 = .ok (.aload_n 0, 1) := by decide +kernel
theorem dX6_slideAt_1 : decode cX6_slideAt 1 = .ok (.aload_n 0, 1) := by decide +kernel
theorem dX6_slideAt_2 : decode cX6_slideAt 2 = .ok (.iload_n 1, 1) := by decide +kernel
theorem dX6_slideAt_3 : decode cX6_slideAt 3 = .ok (.invokevirtual 89, 3) := by decide +kernel
theorem dX6_slideAt_6 : decode cX6_slideAt 6 = .ok (.ifCond .eq 11, 3) := by decide +kernel
theorem dX6_slideAt_9 : decode cX6_slideAt 9 = .ok (.iload_n 2, 1) := by decide +kernel
theorem dX6_slideAt_10 : decode cX6_slideAt 10 = .ok (.ifCond .lt 7, 3) := by decide +kernel
theorem dX6_slideAt_13 : decode cX6_slideAt 13 = .ok (.iconst 0, 1) := by decide +kernel
theorem dX6_slideAt_14 : decode cX6_slideAt 14 = .ok (.goto 4, 3) := by decide +kernel
theorem dX6_slideAt_17 : decode cX6_slideAt 17 = .ok (.iconst 1, 1) := by decide +kernel
theorem dX6_slideAt_18 : decode cX6_slideAt 18 = .ok (.putfield 78, 3) := by decide +kernel
theorem dX6_slideAt_21 : decode cX6_slideAt 21 = .ok (.aload_n 0, 1) := by decide +kernel
theorem dX6_slideAt_22 : decode cX6_slideAt 22 = .ok (.getfield 78, 3) := by decide +kernel
theorem dX6_slideAt_25 : decode cX6_slideAt 25 = .ok (.ifCond .le 5, 3) := by decide +kernel
theorem dX6_slideAt_28 : decode cX6_slideAt 28 = .ok (.iconst 0, 1) := by decide +kernel
theorem dX6_slideAt_29 : decode cX6_slideAt 29 = .ok (.ireturn, 1) := by decide +kernel
theorem dX6_slideAt_30 : decode cX6_slideAt 30 = .ok (.iload_n 2, 1) := by decide +kernel
theorem dX6_slideAt_31 : decode cX6_slideAt 31 = .ok (.aload_n 0, 1) := by decide +kernel
theorem dX6_slideAt_32 : decode cX6_slideAt 32 = .ok (.getfield 23, 3) := by decide +kernel
theorem dX6_slideAt_35 : decode cX6_slideAt 35 = .ok (.iload_n 1, 1) := by decide +kernel
theorem dX6_slideAt_36 : decode cX6_slideAt 36 = .ok (.iaload, 1) := by decide +kernel
theorem dX6_slideAt_37 : decode cX6_slideAt 37 = .ok (.if_icmp .ge 17, 3) := by decide +kernel
theorem dX6_slideAt_40 : decode cX6_slideAt 40 = .ok (.aload_n 0, 1) := by decide +kernel
theorem dX6_slideAt_41 : decode cX6_slideAt 41 = .ok (.getfield 26, 3) := by decide +kernel
theorem dX6_slideAt_44 : decode cX6_slideAt 44 = .ok (.bipush 8, 2) := by decide +kernel
theorem dX6_slideAt_46 : decode cX6_slideAt 46 = .ok (.iload_n 1, 1) := by decide +kernel
theorem dX6_slideAt_47 : decode cX6_slideAt 47 = .ok (.imul, 1) := by decide +kernel
theorem dX6_slideAt_48 : decode cX6_slideAt 48 = .ok (.iload_n 2, 1) := by decide +kernel
theorem dX6_slideAt_49 : decode cX6_slideAt 49 = .ok (.iadd, 1) := by decide +kernel
theorem dX6_slideAt_50 : decode cX6_slideAt 50 = .ok (.iaload, 1) := by decide +kernel
theorem dX6_slideAt_51 : decode cX6_slideAt 51 = .ok (.goto 4, 3) := by decide +kernel
theorem dX6_slideAt_54 : decode cX6_slideAt 54 = .ok (.iconst (-1), 1) := by decide +kernel
theorem dX6_slideAt_55 : decode cX6_slideAt 55 = .ok (.ireturn, 1) := by decide +kernel
set_option maxRecDepth 20000 in
theorem ggX6_baseOf_X6_layAncestors : GoodIn wsX6_baseOf wsX6_layAncestors := goodIn_r _ [9, 2, 4, 3, 10, 11, 12, 13, 14, 15, 16, 17, 18, 19, 20, 21, 22, 23, 24, 25, 26, 27, 28, 29, 30, 31, 32, 33, 34, 35, 36, 37, 38, 39] (by decide +kernel) (by decide +kernel)
set_option maxRecDepth 20000 in
theorem gX6_baseOf_X6_layAncestors : GoodIn wsX6_baseOf (wsV RX6 109 RX6 yX6_layAncestors wsX6_layAncestors) := goodIn_app (goodIn_of _ (by decide +kernel)) ggX6_baseOf_X6_layAncestors
theorem dX6_baseOf_0 : decode cX6_baseOf 0 = .ok (.aload_n 0, 1) := by decide +kernel
theorem dX6_baseOf_1 : decode cX6_baseOf 1 = .ok (.aload_n 0, 1) := by decide +kernel
theorem dX6_baseOf_2 : decode cX6_baseOf 2 = .ok (.getfield 35, 3) := by decide +kernel
theorem dX6_baseOf_5 : decode cX6_baseOf 5 = .ok (.iload_n 1, 1) := by decide +kernel
theorem dX6_baseOf_6 : decode cX6_baseOf 6 = .ok (.iaload, 1) := by decide +kernel
theorem dX6_baseOf_7 : decode cX6_baseOf 7 = .ok (.iconst 0, 1) := by decide +kernel
theorem dX6_baseOf_8 : decode cX6_baseOf 8 = .ok (.invokevirtual 109, 3) := by decide +kernel
theorem dX6_baseOf_11 : decode cX6_baseOf 11 = .ok (.aload_n 0, 1) := by decide +kernel
theorem dX6_baseOf_12 : decode cX6_baseOf 12 = .ok (.aload_n 0, 1) := by decide +kernel
theorem dX6_baseOf_13 : decode cX6_baseOf 13 = .ok (.getfield 35, 3) := by decide +kernel
theorem dX6_baseOf_16 : decode cX6_baseOf 16 = .ok (.iload_n 2, 1) := by decide +kernel
theorem dX6_baseOf_17 : decode cX6_baseOf 17 = .ok (.iaload, 1) := by decide +kernel
theorem dX6_baseOf_18 : decode cX6_baseOf 18 = .ok (.iconst 1, 1) := by decide +kernel
theorem dX6_baseOf_19 : decode cX6_baseOf 19 = .ok (.invokevirtual 109, 3) := by decide +kernel
theorem dX6_baseOf_22 : decode cX6_baseOf 22 = .ok (.iadd, 1) := by decide +kernel
theorem dX6_baseOf_23 : decode cX6_baseOf 23 = .ok (.istore_n 3, 1) := by decide +kernel
theorem dX6_baseOf_24 : decode cX6_baseOf 24 = .ok (.iload_n 3, 1) := by decide +kernel
theorem dX6_baseOf_25 : decode cX6_baseOf 25 = .ok (.ifCond .le 7, 3) := by decide +kernel
theorem dX6_baseOf_28 : decode cX6_baseOf 28 = .ok (.iconst 0, 1) := by decide +kernel
theorem dX6_baseOf_29 : decode cX6_baseOf 29 = .ok (.goto 4, 3) := by decide +kernel
theorem dX6_baseOf_32 : decode cX6_baseOf 32 = .ok (.iconst (-1), 1) := by decide +kernel
theorem dX6_baseOf_33 : decode cX6_baseOf 33 = .ok (.istore 4, 2) := by decide +kernel
theorem dX6_baseOf_35 : decode cX6_baseOf 35 = .ok (.iconst 0, 1) := by decide +kernel
theorem dX6_baseOf_36 : decode cX6_baseOf 36 = .ok (.istore 5, 2) := by decide +kernel
theorem dX6_baseOf_38 : decode cX6_baseOf 38 = .ok (.iload 5, 2) := by decide +kernel
theorem dX6_baseOf_40 : decode cX6_baseOf 40 = .ok (.aload_n 0, 1) := by decide +kernel
theorem dX6_baseOf_41 : decode cX6_baseOf 41 = .ok (.getfield 7, 3) := by decide +kernel
theorem dX6_baseOf_44 : decode cX6_baseOf 44 = .ok (.if_icmp .ge 38, 3) := by decide +kernel
theorem dX6_baseOf_47 : decode cX6_baseOf 47 = .ok (.aload_n 0, 1) := by decide +kernel
theorem dX6_baseOf_48 : decode cX6_baseOf 48 = .ok (.getfield 68, 3) := by decide +kernel
theorem dX6_baseOf_51 : decode cX6_baseOf 51 = .ok (.iload 5, 2) := by decide +kernel
theorem dX6_baseOf_53 : decode cX6_baseOf 53 = .ok (.baload, 1) := by decide +kernel
theorem dX6_baseOf_54 : decode cX6_baseOf 54 = .ok (.ifCond .eq 18, 3) := by decide +kernel
theorem dX6_baseOf_57 : decode cX6_baseOf 57 = .ok (.aload_n 0, 1) := by decide +kernel
theorem dX6_baseOf_58 : decode cX6_baseOf 58 = .ok (.getfield 72, 3) := by decide +kernel
theorem dX6_baseOf_61 : decode cX6_baseOf 61 = .ok (.iload 5, 2) := by decide +kernel
theorem dX6_baseOf_63 : decode cX6_baseOf 63 = .ok (.baload, 1) := by decide +kernel
theorem dX6_baseOf_64 : decode cX6_baseOf 64 = .ok (.ifCond .eq 8, 3) := by decide +kernel
theorem dX6_baseOf_67 : decode cX6_baseOf 67 = .ok (.iload 5, 2) := by decide +kernel
theorem dX6_baseOf_69 : decode cX6_baseOf 69 = .ok (.goto 5, 3) := by decide +kernel
theorem dX6_baseOf_72 : decode cX6_baseOf 72 = .ok (.iload 4, 2) := by decide +kernel
theorem dX6_baseOf_74 : decode cX6_baseOf 74 = .ok (.istore 4, 2) := by decide +kernel
theorem dX6_baseOf_76 : decode cX6_baseOf 76 = .ok (.iinc 5 1, 3) := by decide +kernel
theorem dX6_baseOf_79 : decode cX6_baseOf 79 = .ok (.goto (-41), 3) := by decide +kernel
theorem dX6_baseOf_82 : decode cX6_baseOf 82 = .ok (.iload 4, 2) := by decide +kernel
theorem dX6_baseOf_84 : decode cX6_baseOf 84 = .ok (.ireturn, 1) := by decide +kernel
set_option maxRecDepth 20000 in
theorem ggX6_isAs_X6_valueOf : GoodIn wsX6_isAs wsX6_valueOf := goodIn_r _ [5, 6, 7, 8, 9, 4, 10, 11, 12, 13, 14, 15, 16, 17, 18, 19, 20, 21, 22, 23, 24, 25, 26, 27, 28, 29, 30, 31, 32, 33, 34, 35, 36, 37, 38, 39, 40] (by decide +kernel) (by decide +kernel)
set_option maxRecDepth 20000 in
theorem gX6_isAs_X6_valueOf : GoodIn wsX6_isAs (wsV RX6 116 RX6 yX6_valueOf wsX6_valueOf) := goodIn_app (goodIn_of _ (by decide +kernel)) ggX6_isAs_X6_valueOf
theorem dX6_isAs_0 : decode cX6_isAs 0 = .ok (.iconst 1, 1) := by decide +kernel
theorem dX6_isAs_1 : decode cX6_isAs 1 = .ok (.istore 4, 2) := by decide +kernel
theorem dX6_isAs_3 : decode cX6_isAs 3 = .ok (.iconst 0, 1) := by decide +kernel
theorem dX6_isAs_4 : decode cX6_isAs 4 = .ok (.istore 5, 2) := by decide +kernel
theorem dX6_isAs_6 : decode cX6_isAs 6 = .ok (.iload 5, 2) := by decide +kernel
theorem dX6_isAs_8 : decode cX6_isAs 8 = .ok (.iconst 4, 1) := by decide +kernel
theorem dX6_isAs_9 : decode cX6_isAs 9 = .ok (.if_icmp .ge 40, 3) := by decide +kernel
theorem dX6_isAs_12 : decode cX6_isAs 12 = .ok (.iload 4, 2) := by decide +kernel
theorem dX6_isAs_14 : decode cX6_isAs 14 = .ok (.ifCond .eq 26, 3) := by decide +kernel
theorem dX6_isAs_17 : decode cX6_isAs 17 = .ok (.aload_n 0, 1) := by decide +kernel
theorem dX6_isAs_18 : decode cX6_isAs 18 = .ok (.iload_n 1, 1) := by decide +kernel
theorem dX6_isAs_19 : decode cX6_isAs 19 = .ok (.iload_n 3, 1) := by decide +kernel
theorem dX6_isAs_20 : decode cX6_isAs 20 = .ok (.iload 5, 2) := by decide +kernel
theorem dX6_isAs_22 : decode cX6_isAs 22 = .ok (.invokevirtual 116, 3) := by decide +kernel
theorem dX6_isAs_25 : decode cX6_isAs 25 = .ok (.aload_n 0, 1) := by decide +kernel
theorem dX6_isAs_26 : decode cX6_isAs 26 = .ok (.iload_n 2, 1) := by decide +kernel
theorem dX6_isAs_27 : decode cX6_isAs 27 = .ok (.iload_n 3, 1) := by decide +kernel
theorem dX6_isAs_28 : decode cX6_isAs 28 = .ok (.iload 5, 2) := by decide +kernel
theorem dX6_isAs_30 : decode cX6_isAs 30 = .ok (.invokevirtual 116, 3) := by decide +kernel
theorem dX6_isAs_33 : decode cX6_isAs 33 = .ok (.if_icmp .ne 7, 3) := by decide +kernel
theorem dX6_isAs_36 : decode cX6_isAs 36 = .ok (.iconst 1, 1) := by decide +kernel
theorem dX6_isAs_37 : decode cX6_isAs 37 = .ok (.goto 4, 3) := by decide +kernel
theorem dX6_isAs_40 : decode cX6_isAs 40 = .ok (.iconst 0, 1) := by decide +kernel
theorem dX6_isAs_41 : decode cX6_isAs 41 = .ok (.istore 4, 2) := by decide +kernel
theorem dX6_isAs_43 : decode cX6_isAs 43 = .ok (.iinc 5 1, 3) := by decide +kernel
theorem dX6_isAs_46 : decode cX6_isAs 46 = .ok (.goto (-40), 3) := by decide +kernel
theorem dX6_isAs_49 : decode cX6_isAs 49 = .ok (.iload 4, 2) := by decide +kernel
theorem dX6_isAs_51 : decode cX6_isAs 51 = .ok (.ireturn, 1) := by decide +kernel
set_option maxRecDepth 20000 in
theorem ggX6_fate_X6_placeOf : GoodIn wsX6_fate wsX6_placeOf := goodIn_r _ [5, 6, 7, 17, 18, 19, 20, 21, 22, 23, 24, 25, 26, 27, 28, 29, 30, 31, 32, 33, 34, 35, 36, 37, 38, 39, 40, 41, 42, 43, 44] (by decide +kernel) (by decide +kernel)
set_option maxRecDepth 20000 in
theorem gX6_fate_X6_placeOf : GoodIn wsX6_fate (wsV RX6 85 RX6 yX6_placeOf wsX6_placeOf) := goodIn_app (goodIn_of _ (by decide +kernel)) ggX6_fate_X6_placeOf
set_option maxRecDepth 20000 in
theorem ggX6_fate_X6_isAs : GoodIn wsX6_fate wsX6_isAs := goodIn_r _ [11, 12, 13, 14, 4, 15, 16, 1, 2, 3, 5, 6, 7, 17, 18, 19, 20, 21, 22, 23, 24, 25, 26, 27, 28, 29, 30, 31, 32, 33, 34, 35, 36, 37, 38, 39, 40, 41, 42, 43, 44] (by decide +kernel) (by decide +kernel)
set_option maxRecDepth 20000 in
theorem gX6_fate_X6_isAs : GoodIn wsX6_fate (wsV RX6 120 RX6 yX6_isAs wsX6_isAs) := goodIn_app (goodIn_of _ (by decide +kernel)) ggX6_fate_X6_isAs
theorem dX6_fate_0 : decode cX6_fate 0 = .ok (.aload_n 0, 1) := by decide +kernel
theorem dX6_fate_1 : decode cX6_fate 1 = .ok (.iload_n 2, 1) := by decide +kernel
theorem dX6_fate_2 : decode cX6_fate 2 = .ok (.iload 4, 2) := by decide +kernel
theorem dX6_fate_4 : decode cX6_fate 4 = .ok (.invokevirtual 85, 3) := by decide +kernel
theorem dX6_fate_7 : decode cX6_fate 7 = .ok (.iconst (-1), 1) := by decide +kernel
theorem dX6_fate_8 : decode cX6_fate 8 = .ok (.if_icmp .eq 7, 3) := by decide +kernel
theorem dX6_fate_11 : decode cX6_fate 11 = .ok (.iconst 1, 1) := by decide +kernel
theorem dX6_fate_12 : decode cX6_fate 12 = .ok (.goto 4, 3) := by decide +kernel
theorem dX6_fate_15 : decode cX6_fate 15 = .ok (.iconst 0, 1) := by decide +kernel
theorem dX6_fate_16 : decode cX6_fate 16 = .ok (.istore 5, 2) := by decide +kernel
theorem dX6_fate_18 : decode cX6_fate 18 = .ok (.aload_n 0, 1) := by decide +kernel
theorem dX6_fate_19 : decode cX6_fate 19 = .ok (.iload_n 3, 1) := by decide +kernel
theorem dX6_fate_20 : decode cX6_fate 20 = .ok (.iload 4, 2) := by decide +kernel
theorem dX6_fate_22 : decode cX6_fate 22 = .ok (.invokevirtual 85, 3) := by decide +kernel
theorem dX6_fate_25 : decode cX6_fate 25 = .ok (.iconst (-1), 1) := by decide +kernel
theorem dX6_fate_26 : decode cX6_fate 26 = .ok (.if_icmp .eq 7, 3) := by decide +kernel
theorem dX6_fate_29 : decode cX6_fate 29 = .ok (.iconst 1, 1) := by decide +kernel
theorem dX6_fate_30 : decode cX6_fate 30 = .ok (.goto 4, 3) := by decide +kernel
theorem dX6_fate_33 : decode cX6_fate 33 = .ok (.iconst 0, 1) := by decide +kernel
theorem dX6_fate_34 : decode cX6_fate 34 = .ok (.istore 6, 2) := by decide +kernel
theorem dX6_fate_36 : decode cX6_fate 36 = .ok (.aload_n 0, 1) := by decide +kernel
theorem dX6_fate_37 : decode cX6_fate 37 = .ok (.iload_n 1, 1) := by decide +kernel
theorem dX6_fate_38 : decode cX6_fate 38 = .ok (.iload 4, 2) := by decide +kernel
theorem dX6_fate_40 : decode cX6_fate 40 = .ok (.invokevirtual 85, 3) := by decide +kernel
theorem dX6_fate_43 : decode cX6_fate 43 = .ok (.iconst (-1), 1) := by decide +kernel
theorem dX6_fate_44 : decode cX6_fate 44 = .ok (.if_icmp .eq 7, 3) := by decide +kernel
theorem dX6_fate_47 : decode cX6_fate 47 = .ok (.iconst 1, 1) := by decide +kernel
theorem dX6_fate_48 : decode cX6_fate 48 = .ok (.goto 4, 3) := by decide +kernel
theorem dX6_fate_51 : decode cX6_fate 51 = .ok (.iconst 0, 1) := by decide +kernel
theorem dX6_fate_52 : decode cX6_fate 52 = .ok (.istore 7, 2) := by decide +kernel
theorem dX6_fate_54 : decode cX6_fate 54 = .ok (.iload 5, 2) := by decide +kernel
theorem dX6_fate_56 : decode cX6_fate 56 = .ok (.ifCond .eq 19, 3) := by decide +kernel
theorem dX6_fate_59 : decode cX6_fate 59 = .ok (.iload 6, 2) := by decide +kernel
theorem dX6_fate_61 : decode cX6_fate 61 = .ok (.ifCond .eq 14, 3) := by decide +kernel
theorem dX6_fate_64 : decode cX6_fate 64 = .ok (.iload 7, 2) := by decide +kernel
theorem dX6_fate_66 : decode cX6_fate 66 = .ok (.ifCond .eq 7, 3) := by decide +kernel
theorem dX6_fate_69 : decode cX6_fate 69 = .ok (.iconst 4, 1) := by decide +kernel
theorem dX6_fate_70 : decode cX6_fate 70 = .ok (.goto 4, 3) := by decide +kernel
theorem dX6_fate_73 : decode cX6_fate 73 = .ok (.iconst 3, 1) := by decide +kernel
theorem dX6_fate_74 : decode cX6_fate 74 = .ok (.ireturn, 1) := by decide +kernel
theorem dX6_fate_75 : decode cX6_fate 75 = .ok (.iload 5, 2) := by decide +kernel
theorem dX6_fate_77 : decode cX6_fate 77 = .ok (.ifCond .ne 11, 3) := by decide +kernel
theorem dX6_fate_80 : decode cX6_fate 80 = .ok (.iload 6, 2) := by decide +kernel
theorem dX6_fate_82 : decode cX6_fate 82 = .ok (.ifCond .ne 6, 3) := by decide +kernel
theorem dX6_fate_85 : decode cX6_fate 85 = .ok (.bipush (-2), 2) := by decide +kernel
theorem dX6_fate_87 : decode cX6_fate 87 = .ok (.ireturn, 1) := by decide +kernel
theorem dX6_fate_88 : decode cX6_fate 88 = .ok (.iload 7, 2) := by decide +kernel
theorem dX6_fate_90 : decode cX6_fate 90 = .ok (.ifCond .ne 14, 3) := by decide +kernel
theorem dX6_fate_93 : decode cX6_fate 93 = .ok (.iload 5, 2) := by decide +kernel
theorem dX6_fate_95 : decode cX6_fate 95 = .ok (.ifCond .eq 7, 3) := by decide +kernel
theorem dX6_fate_98 : decode cX6_fate 98 = .ok (.iconst 1, 1) := by decide +kernel
theorem dX6_fate_99 : decode cX6_fate 99 = .ok (.goto 4, 3) := by decide +kernel
theorem dX6_fate_102 : decode cX6_fate 102 = .ok (.iconst 2, 1) := by decide +kernel
theorem dX6_fate_103 : decode cX6_fate 103 = .ok (.ireturn, 1) := by decide +kernel
theorem dX6_fate_104 : decode cX6_fate 104 = .ok (.aload_n 0, 1) := by decide +kernel
theorem dX6_fate_105 : decode cX6_fate 105 = .ok (.iload 5, 2) := by decide +kernel
theorem dX6_fate_107 : decode cX6_fate 107 = .ok (.ifCond .eq 7, 3) := by decide +kernel
theorem dX6_fate_110 : decode cX6_fate 110 = .ok (.iload_n 2, 1) := by decide +kernel
theorem dX6_fate_111 : decode cX6_fate 111 = .ok (.goto 4, 3) := by decide +kernel
theorem dX6_fate_114 : decode cX6_fate 114 = .ok (.iload_n 3, 1) := by decide +kernel
theorem dX6_fate_115 : decode cX6_fate 115 = .ok (.iload_n 1, 1) := by decide +kernel
theorem dX6_fate_116 : decode cX6_fate 116 = .ok (.iload 4, 2) := by decide +kernel
theorem dX6_fate_118 : decode cX6_fate 118 = .ok (.invokevirtual 120, 3) := by decide +kernel
theorem dX6_fate_121 : decode cX6_fate 121 = .ok (.ifCond .eq 8, 3) := by decide +kernel
theorem dX6_fate_124 : decode cX6_fate 124 = .ok (.bipush (-2), 2) := by decide +kernel
theorem dX6_fate_126 : decode cX6_fate 126 = .ok (.goto 5, 3) := by decide +kernel
theorem dX6_fate_129 : decode cX6_fate 129 = .ok (.bipush (-3), 2) := by decide +kernel
theorem dX6_fate_131 : decode cX6_fate 131 = .ok (.ireturn, 1) := by decide +kernel
set_option maxRecDepth 20000 in
theorem ggX6_meets_X6_valueOf : GoodIn wsX6_meets wsX6_valueOf := goodIn_r _ [5, 6, 7, 8, 9, 4, 10, 11, 12, 13, 14, 15, 16, 17, 18, 19, 20, 21, 22, 23, 24, 25, 26, 27, 28, 29, 30, 31, 32, 33, 34, 35, 36, 37, 38, 39, 40] (by decide +kernel) (by decide +kernel)
set_option maxRecDepth 20000 in
theorem gX6_meets_X6_valueOf : GoodIn wsX6_meets (wsV RX6 116 RX6 yX6_valueOf wsX6_valueOf) := goodIn_app (goodIn_of _ (by decide +kernel)) ggX6_meets_X6_valueOf
theorem dX6_meets_0 : decode cX6_meets 0 = .ok (.aload_n 0, 1) := by decide +kernel
theorem dX6_meets_1 : decode cX6_meets 1 = .ok (.iload_n 2, 1) := by decide +kernel
theorem dX6_meets_2 : decode cX6_meets 2 = .ok (.iload 4, 2) := by decide +kernel
theorem dX6_meets_4 : decode cX6_meets 4 = .ok (.iload 5, 2) := by decide +kernel
theorem dX6_meets_6 : decode cX6_meets 6 = .ok (.invokevirtual 116, 3) := by decide +kernel
theorem dX6_meets_9 : decode cX6_meets 9 = .ok (.istore 7, 2) := by decide +kernel
theorem dX6_meets_11 : decode cX6_meets 11 = .ok (.aload_n 0, 1) := by decide +kernel
theorem dX6_meets_12 : decode cX6_meets 12 = .ok (.iload_n 3, 1) := by decide +kernel
theorem dX6_meets_13 : decode cX6_meets 13 = .ok (.iload 4, 2) := by decide +kernel
theorem dX6_meets_15 : decode cX6_meets 15 = .ok (.iload 5, 2) := by decide +kernel
theorem dX6_meets_17 : decode cX6_meets 17 = .ok (.invokevirtual 116, 3) := by decide +kernel
theorem dX6_meets_20 : decode cX6_meets 20 = .ok (.istore 8, 2) := by decide +kernel
theorem dX6_meets_22 : decode cX6_meets 22 = .ok (.iload 6, 2) := by decide +kernel
theorem dX6_meets_24 : decode cX6_meets 24 = .ok (.ifCond .eq 15, 3) := by decide +kernel
theorem dX6_meets_27 : decode cX6_meets 27 = .ok (.aload_n 0, 1) := by decide +kernel
theorem dX6_meets_28 : decode cX6_meets 28 = .ok (.iload_n 1, 1) := by decide +kernel
theorem dX6_meets_29 : decode cX6_meets 29 = .ok (.iload 4, 2) := by decide +kernel
theorem dX6_meets_31 : decode cX6_meets 31 = .ok (.iload 5, 2) := by decide +kernel
theorem dX6_meets_33 : decode cX6_meets 33 = .ok (.invokevirtual 116, 3) := by decide +kernel
theorem dX6_meets_36 : decode cX6_meets 36 = .ok (.goto 4, 3) := by decide +kernel
theorem dX6_meets_39 : decode cX6_meets 39 = .ok (.iconst (-1), 1) := by decide +kernel
theorem dX6_meets_40 : decode cX6_meets 40 = .ok (.istore 9, 2) := by decide +kernel
theorem dX6_meets_42 : decode cX6_meets 42 = .ok (.iload 7, 2) := by decide +kernel
theorem dX6_meets_44 : decode cX6_meets 44 = .ok (.iload 8, 2) := by decide +kernel
theorem dX6_meets_46 : decode cX6_meets 46 = .ok (.if_icmp .ne 8, 3) := by decide +kernel
theorem dX6_meets_49 : decode cX6_meets 49 = .ok (.iload 7, 2) := by decide +kernel
theorem dX6_meets_51 : decode cX6_meets 51 = .ok (.goto 29, 3) := by decide +kernel
theorem dX6_meets_54 : decode cX6_meets 54 = .ok (.iload 7, 2) := by decide +kernel
theorem dX6_meets_56 : decode cX6_meets 56 = .ok (.iload 9, 2) := by decide +kernel
theorem dX6_meets_58 : decode cX6_meets 58 = .ok (.if_icmp .ne 8, 3) := by decide +kernel
theorem dX6_meets_61 : decode cX6_meets 61 = .ok (.iload 8, 2) := by decide +kernel
theorem dX6_meets_63 : decode cX6_meets 63 = .ok (.goto 17, 3) := by decide +kernel
theorem dX6_meets_66 : decode cX6_meets 66 = .ok (.iload 8, 2) := by decide +kernel
theorem dX6_meets_68 : decode cX6_meets 68 = .ok (.iload 9, 2) := by decide +kernel
theorem dX6_meets_70 : decode cX6_meets 70 = .ok (.if_icmp .ne 8, 3) := by decide +kernel
theorem dX6_meets_73 : decode cX6_meets 73 = .ok (.iload 7, 2) := by decide +kernel
theorem dX6_meets_75 : decode cX6_meets 75 = .ok (.goto 5, 3) := by decide +kernel
theorem dX6_meets_78 : decode cX6_meets 78 = .ok (.bipush (-3), 2) := by decide +kernel
theorem dX6_meets_80 : decode cX6_meets 80 = .ok (.ireturn, 1) := by decide +kernel
set_option maxRecDepth 20000 in
theorem ggX6_clashesOf_X6_fate : GoodIn wsX6_clashesOf wsX6_fate := goodIn_r _ [6, 7, 8, 9, 5, 10, 11, 12, 13, 14, 15, 16, 17, 18, 19, 20, 21, 26, 27, 28, 29, 30, 31, 32, 33, 34, 35, 36, 37, 38, 39, 40, 41, 42, 43, 44, 45, 46, 47, 48, 49, 50, 51, 52, 53] (by decide +kernel) (by decide +kernel)
set_option maxRecDepth 20000 in
theorem gX6_clashesOf_X6_fate : GoodIn wsX6_clashesOf (wsV RX6 123 RX6 yX6_fate wsX6_fate) := goodIn_app (goodIn_of _ (by decide +kernel)) ggX6_clashesOf_X6_fate
set_option maxRecDepth 20000 in
theorem ggX6_clashesOf_X6_meets : GoodIn wsX6_clashesOf wsX6_meets := goodIn_r _ [25, 17, 18, 19, 5, 20, 21, 7, 8, 9, 10, 11, 12, 26, 27, 28, 29, 30, 31, 32, 33, 34, 35, 36, 37, 38, 39, 40, 41, 42, 43, 44, 45, 46, 47, 48, 49, 50, 51, 52, 53] (by decide +kernel) (by decide +kernel)
set_option maxRecDepth 20000 in
theorem gX6_clashesOf_X6_meets : GoodIn wsX6_clashesOf (wsV RX6 127 RX6 yX6_meets wsX6_meets) := goodIn_app (goodIn_of _ (by decide +kernel)) ggX6_clashesOf_X6_meets
theorem dX6_clashesOf_0 : decode cX6_clashesOf 0 = .ok (.iconst 0, 1) := by decide +kernel
theorem dX6_clashesOf_1 : decode cX6_clashesOf 1 = .ok (.istore 4, 2) := by decide +kernel
theorem dX6_clashesOf_3 : decode cX6_clashesOf 3 = .ok (.iconst 0, 1) := by decide +kernel
theorem dX6_clashesOf_4 : decode cX6_clashesOf 4 = .ok (.istore 5, 2) := by decide +kernel
theorem dX6_clashesOf_6 : decode cX6_clashesOf 6 = .ok (.iload 5, 2) := by decide +kernel
theorem dX6_clashesOf_8 : decode cX6_clashesOf 8 = .ok (.aload_n 0, 1) := by decide +kernel
theorem dX6_clashesOf_9 : decode cX6_clashesOf 9 = .ok (.getfield 96, 3) := by decide +kernel
theorem dX6_clashesOf_12 : decode cX6_clashesOf 12 = .ok (.if_icmp .ge 95, 3) := by decide +kernel
theorem dX6_clashesOf_15 : decode cX6_clashesOf 15 = .ok (.aload_n 0, 1) := by decide +kernel
theorem dX6_clashesOf_16 : decode cX6_clashesOf 16 = .ok (.iload_n 1, 1) := by decide +kernel
theorem dX6_clashesOf_17 : decode cX6_clashesOf 17 = .ok (.iload_n 2, 1) := by decide +kernel
theorem dX6_clashesOf_18 : decode cX6_clashesOf 18 = .ok (.iload_n 3, 1) := by decide +kernel
theorem dX6_clashesOf_19 : decode cX6_clashesOf 19 = .ok (.iload 5, 2) := by decide +kernel
theorem dX6_clashesOf_21 : decode cX6_clashesOf 21 = .ok (.invokevirtual 123, 3) := by decide +kernel
theorem dX6_clashesOf_24 : decode cX6_clashesOf 24 = .ok (.istore 6, 2) := by decide +kernel
theorem dX6_clashesOf_26 : decode cX6_clashesOf 26 = .ok (.iload 4, 2) := by decide +kernel
theorem dX6_clashesOf_28 : decode cX6_clashesOf 28 = .ok (.iload 6, 2) := by decide +kernel
theorem dX6_clashesOf_30 : decode cX6_clashesOf 30 = .ok (.bipush (-3), 2) := by decide +kernel
theorem dX6_clashesOf_32 : decode cX6_clashesOf 32 = .ok (.if_icmp .ne 7, 3) := by decide +kernel
theorem dX6_clashesOf_35 : decode cX6_clashesOf 35 = .ok (.iconst 1, 1) := by decide +kernel
theorem dX6_clashesOf_36 : decode cX6_clashesOf 36 = .ok (.goto 4, 3) := by decide +kernel
theorem dX6_clashesOf_39 : decode cX6_clashesOf 39 = .ok (.iconst 0, 1) := by decide +kernel
theorem dX6_clashesOf_40 : decode cX6_clashesOf 40 = .ok (.iadd, 1) := by decide +kernel
theorem dX6_clashesOf_41 : decode cX6_clashesOf 41 = .ok (.istore 4, 2) := by decide +kernel
theorem dX6_clashesOf_43 : decode cX6_clashesOf 43 = .ok (.iconst 0, 1) := by decide +kernel
theorem dX6_clashesOf_44 : decode cX6_clashesOf 44 = .ok (.istore 7, 2) := by decide +kernel
theorem dX6_clashesOf_46 : decode cX6_clashesOf 46 = .ok (.iload 7, 2) := by decide +kernel
theorem dX6_clashesOf_48 : decode cX6_clashesOf 48 = .ok (.iconst 4, 1) := by decide +kernel
theorem dX6_clashesOf_49 : decode cX6_clashesOf 49 = .ok (.if_icmp .ge 52, 3) := by decide +kernel
theorem dX6_clashesOf_52 : decode cX6_clashesOf 52 = .ok (.iload 6, 2) := by decide +kernel
theorem dX6_clashesOf_54 : decode cX6_clashesOf 54 = .ok (.iconst 3, 1) := by decide +kernel
theorem dX6_clashesOf_55 : decode cX6_clashesOf 55 = .ok (.if_icmp .lt 46, 3) := by decide +kernel
theorem dX6_clashesOf_58 : decode cX6_clashesOf 58 = .ok (.iload 4, 2) := by decide +kernel
theorem dX6_clashesOf_60 : decode cX6_clashesOf 60 = .ok (.aload_n 0, 1) := by decide +kernel
theorem dX6_clashesOf_61 : decode cX6_clashesOf 61 = .ok (.iload_n 1, 1) := by decide +kernel
theorem dX6_clashesOf_62 : decode cX6_clashesOf 62 = .ok (.iload_n 2, 1) := by decide +kernel
theorem dX6_clashesOf_63 : decode cX6_clashesOf 63 = .ok (.iload_n 3, 1) := by decide +kernel
theorem dX6_clashesOf_64 : decode cX6_clashesOf 64 = .ok (.iload 5, 2) := by decide +kernel
theorem dX6_clashesOf_66 : decode cX6_clashesOf 66 = .ok (.iload 7, 2) := by decide +kernel
theorem dX6_clashesOf_68 : decode cX6_clashesOf 68 = .ok (.iload 6, 2) := by decide +kernel
theorem dX6_clashesOf_70 : decode cX6_clashesOf 70 = .ok (.iconst 4, 1) := by decide +kernel
theorem dX6_clashesOf_71 : decode cX6_clashesOf 71 = .ok (.if_icmp .ne 7, 3) := by decide +kernel
theorem dX6_clashesOf_74 : decode cX6_clashesOf 74 = .ok (.iconst 1, 1) := by decide +kernel
theorem dX6_clashesOf_75 : decode cX6_clashesOf 75 = .ok (.goto 4, 3) := by decide +kernel
theorem dX6_clashesOf_78 : decode cX6_clashesOf 78 = .ok (.iconst 0, 1) := by decide +kernel
theorem dX6_clashesOf_79 : decode cX6_clashesOf 79 = .ok (.invokevirtual 127, 3) := by decide +kernel
theorem dX6_clashesOf_82 : decode cX6_clashesOf 82 = .ok (.bipush (-3), 2) := by decide +kernel
theorem dX6_clashesOf_84 : decode cX6_clashesOf 84 = .ok (.if_icmp .ne 7, 3) := by decide +kernel
theorem dX6_clashesOf_87 : decode cX6_clashesOf 87 = .ok (.iconst 1, 1) := by decide +kernel
theorem dX6_clashesOf_88 : decode cX6_clashesOf 88 = .ok (.goto 4, 3) := by decide +kernel
theorem dX6_clashesOf_91 : decode cX6_clashesOf 91 = .ok (.iconst 0, 1) := by decide +kernel
theorem dX6_clashesOf_92 : decode cX6_clashesOf 92 = .ok (.iadd, 1) := by decide +kernel
theorem dX6_clashesOf_93 : decode cX6_clashesOf 93 = .ok (.istore 4, 2) := by decide +kernel
theorem dX6_clashesOf_95 : decode cX6_clashesOf 95 = .ok (.iinc 7 1, 3) := by decide +kernel
theorem dX6_clashesOf_98 : decode cX6_clashesOf 98 = .ok (.goto (-52), 3) := by decide +kernel
theorem dX6_clashesOf_101 : decode cX6_clashesOf 101 = .ok (.iinc 5 1, 3) := by decide +kernel
theorem dX6_clashesOf_104 : decode cX6_clashesOf 104 = .ok (.goto (-98), 3) := by decide +kernel
theorem dX6_clashesOf_107 : decode cX6_clashesOf 107 = .ok (.iload 4, 2) := by decide +kernel
theorem dX6_clashesOf_109 : decode cX6_clashesOf 109 = .ok (.ireturn, 1) := by decide +kernel
set_option maxRecDepth 20000 in
theorem ggX6_settles_X6_fate : GoodIn wsX6_settles wsX6_fate := goodIn_r _ [5, 6, 7, 8, 4, 9, 10, 11, 12, 13, 14, 15, 16, 17, 18, 19, 20, 25, 26, 27, 28, 29, 30, 31, 32, 33, 34, 35, 36, 37, 38, 39, 40, 41, 42, 43, 44, 45, 46, 47, 48, 49, 50, 51, 52] (by decide +kernel) (by decide +kernel)
set_option maxRecDepth 20000 in
theorem gX6_settles_X6_fate : GoodIn wsX6_settles (wsV RX6 123 RX6 yX6_fate wsX6_fate) := goodIn_app (goodIn_of _ (by decide +kernel)) ggX6_settles_X6_fate
set_option maxRecDepth 20000 in
theorem ggX6_settles_X6_placeOf : GoodIn wsX6_settles wsX6_placeOf := goodIn_r _ [9, 10, 11, 25, 26, 27, 28, 29, 30, 31, 32, 33, 34, 35, 36, 37, 38, 39, 40, 41, 42, 43, 44, 45, 46, 47, 48, 49, 50, 51, 52] (by decide +kernel) (by decide +kernel)
set_option maxRecDepth 20000 in
theorem gX6_settles_X6_placeOf : GoodIn wsX6_settles (wsV RX6 85 RX6 yX6_placeOf wsX6_placeOf) := goodIn_app (goodIn_of _ (by decide +kernel)) ggX6_settles_X6_placeOf
set_option maxRecDepth 20000 in
theorem ggX6_settles_X6_valueOf : GoodIn wsX6_settles wsX6_valueOf := goodIn_r _ [19, 20, 6, 7, 8, 4, 9, 10, 11, 25, 26, 27, 28, 29, 30, 31, 32, 33, 34, 35, 36, 37, 38, 39, 40, 41, 42, 43, 44, 45, 46, 47, 48, 49, 50, 51, 52] (by decide +kernel) (by decide +kernel)
set_option maxRecDepth 20000 in
theorem gX6_settles_X6_valueOf : GoodIn wsX6_settles (wsV RX6 116 RX6 yX6_valueOf wsX6_valueOf) := goodIn_app (goodIn_of _ (by decide +kernel)) ggX6_settles_X6_valueOf
set_option maxRecDepth 20000 in
theorem ggX6_settles_X6_meets : GoodIn wsX6_settles wsX6_meets := goodIn_r _ [24, 16, 17, 18, 4, 19, 20, 6, 7, 8, 9, 10, 11, 25, 26, 27, 28, 29, 30, 31, 32, 33, 34, 35, 36, 37, 38, 39, 40, 41, 42, 43, 44, 45, 46, 47, 48, 49, 50, 51, 52] (by decide +kernel) (by decide +kernel)
set_option maxRecDepth 20000 in
theorem gX6_settles_X6_meets : GoodIn wsX6_settles (wsV RX6 127 RX6 yX6_meets wsX6_meets) := goodIn_app (goodIn_of _ (by decide +kernel)) ggX6_settles_X6_meets
theorem dX6_settles_0 : decode cX6_settles 0 = .ok (.aload_n 0, 1) := by decide +kernel
theorem dX6_settles_1 : decode cX6_settles 1 = .ok (.iload_n 1, 1) := by decide +kernel
theorem dX6_settles_2 : decode cX6_settles 2 = .ok (.iload_n 2, 1) := by decide +kernel
theorem dX6_settles_3 : decode cX6_settles 3 = .ok (.iload_n 3, 1) := by decide +kernel
theorem dX6_settles_4 : decode cX6_settles 4 = .ok (.iload 4, 2) := by decide +kernel
theorem dX6_settles_6 : decode cX6_settles 6 = .ok (.invokevirtual 123, 3) := by decide +kernel
theorem dX6_settles_9 : decode cX6_settles 9 = .ok (.istore 7, 2) := by decide +kernel
theorem dX6_settles_11 : decode cX6_settles 11 = .ok (.iload 6, 2) := by decide +kernel
theorem dX6_settles_13 : decode cX6_settles 13 = .ok (.ifCond .ne 7, 3) := by decide +kernel
theorem dX6_settles_16 : decode cX6_settles 16 = .ok (.iload_n 2, 1) := by decide +kernel
theorem dX6_settles_17 : decode cX6_settles 17 = .ok (.goto 4, 3) := by decide +kernel
theorem dX6_settles_20 : decode cX6_settles 20 = .ok (.iload_n 3, 1) := by decide +kernel
theorem dX6_settles_21 : decode cX6_settles 21 = .ok (.istore 8, 2) := by decide +kernel
theorem dX6_settles_23 : decode cX6_settles 23 = .ok (.iload 7, 2) := by decide +kernel
theorem dX6_settles_25 : decode cX6_settles 25 = .ok (.bipush (-2), 2) := by decide +kernel
theorem dX6_settles_27 : decode cX6_settles 27 = .ok (.if_icmp .eq 22, 3) := by decide +kernel
theorem dX6_settles_30 : decode cX6_settles 30 = .ok (.iload 7, 2) := by decide +kernel
theorem dX6_settles_32 : decode cX6_settles 32 = .ok (.bipush (-3), 2) := by decide +kernel
theorem dX6_settles_34 : decode cX6_settles 34 = .ok (.if_icmp .ne 17, 3) := by decide +kernel
theorem dX6_settles_37 : decode cX6_settles 37 = .ok (.aload_n 0, 1) := by decide +kernel
theorem dX6_settles_38 : decode cX6_settles 38 = .ok (.iload 8, 2) := by decide +kernel
theorem dX6_settles_40 : decode cX6_settles 40 = .ok (.iload 4, 2) := by decide +kernel
theorem dX6_settles_42 : decode cX6_settles 42 = .ok (.invokevirtual 85, 3) := by decide +kernel
theorem dX6_settles_45 : decode cX6_settles 45 = .ok (.iconst (-1), 1) := by decide +kernel
theorem dX6_settles_46 : decode cX6_settles 46 = .ok (.if_icmp .ne 5, 3) := by decide +kernel
theorem dX6_settles_49 : decode cX6_settles 49 = .ok (.iconst (-1), 1) := by decide +kernel
theorem dX6_settles_50 : decode cX6_settles 50 = .ok (.ireturn, 1) := by decide +kernel
theorem dX6_settles_51 : decode cX6_settles 51 = .ok (.iload 7, 2) := by decide +kernel
theorem dX6_settles_53 : decode cX6_settles 53 = .ok (.iconst 1, 1) := by decide +kernel
theorem dX6_settles_54 : decode cX6_settles 54 = .ok (.if_icmp .eq 9, 3) := by decide +kernel
theorem dX6_settles_57 : decode cX6_settles 57 = .ok (.iload 7, 2) := by decide +kernel
theorem dX6_settles_59 : decode cX6_settles 59 = .ok (.iconst 2, 1) := by decide +kernel
theorem dX6_settles_60 : decode cX6_settles 60 = .ok (.if_icmp .ne 23, 3) := by decide +kernel
theorem dX6_settles_63 : decode cX6_settles 63 = .ok (.aload_n 0, 1) := by decide +kernel
theorem dX6_settles_64 : decode cX6_settles 64 = .ok (.iload 7, 2) := by decide +kernel
theorem dX6_settles_66 : decode cX6_settles 66 = .ok (.iconst 1, 1) := by decide +kernel
theorem dX6_settles_67 : decode cX6_settles 67 = .ok (.if_icmp .ne 7, 3) := by decide +kernel
theorem dX6_settles_70 : decode cX6_settles 70 = .ok (.iload_n 2, 1) := by decide +kernel
theorem dX6_settles_71 : decode cX6_settles 71 = .ok (.goto 4, 3) := by decide +kernel
theorem dX6_settles_74 : decode cX6_settles 74 = .ok (.iload_n 3, 1) := by decide +kernel
theorem dX6_settles_75 : decode cX6_settles 75 = .ok (.iload 4, 2) := by decide +kernel
theorem dX6_settles_77 : decode cX6_settles 77 = .ok (.iload 5, 2) := by decide +kernel
theorem dX6_settles_79 : decode cX6_settles 79 = .ok (.invokevirtual 116, 3) := by decide +kernel
theorem dX6_settles_82 : decode cX6_settles 82 = .ok (.ireturn, 1) := by decide +kernel
theorem dX6_settles_83 : decode cX6_settles 83 = .ok (.iload 7, 2) := by decide +kernel
theorem dX6_settles_85 : decode cX6_settles 85 = .ok (.bipush (-3), 2) := by decide +kernel
theorem dX6_settles_87 : decode cX6_settles 87 = .ok (.if_icmp .ne 8, 3) := by decide +kernel
theorem dX6_settles_90 : decode cX6_settles 90 = .ok (.bipush (-3), 2) := by decide +kernel
theorem dX6_settles_92 : decode cX6_settles 92 = .ok (.goto 25, 3) := by decide +kernel
theorem dX6_settles_95 : decode cX6_settles 95 = .ok (.aload_n 0, 1) := by decide +kernel
theorem dX6_settles_96 : decode cX6_settles 96 = .ok (.iload_n 1, 1) := by decide +kernel
theorem dX6_settles_97 : decode cX6_settles 97 = .ok (.iload_n 2, 1) := by decide +kernel
theorem dX6_settles_98 : decode cX6_settles 98 = .ok (.iload_n 3, 1) := by decide +kernel
theorem dX6_settles_99 : decode cX6_settles 99 = .ok (.iload 4, 2) := by decide +kernel
theorem dX6_settles_101 : decode cX6_settles 101 = .ok (.iload 5, 2) := by decide +kernel
theorem dX6_settles_103 : decode cX6_settles 103 = .ok (.iload 7, 2) := by decide +kernel
theorem dX6_settles_105 : decode cX6_settles 105 = .ok (.iconst 4, 1) := by decide +kernel
theorem dX6_settles_106 : decode cX6_settles 106 = .ok (.if_icmp .ne 7, 3) := by decide +kernel
theorem dX6_settles_109 : decode cX6_settles 109 = .ok (.iconst 1, 1) := by decide +kernel
theorem dX6_settles_110 : decode cX6_settles 110 = .ok (.goto 4, 3) := by decide +kernel
theorem dX6_settles_113 : decode cX6_settles 113 = .ok (.iconst 0, 1) := by decide +kernel
theorem dX6_settles_114 : decode cX6_settles 114 = .ok (.invokevirtual 127, 3) := by decide +kernel
theorem dX6_settles_117 : decode cX6_settles 117 = .ok (.istore 9, 2) := by decide +kernel
theorem dX6_settles_119 : decode cX6_settles 119 = .ok (.iload 9, 2) := by decide +kernel
theorem dX6_settles_121 : decode cX6_settles 121 = .ok (.bipush (-3), 2) := by decide +kernel
theorem dX6_settles_123 : decode cX6_settles 123 = .ok (.if_icmp .ne 16, 3) := by decide +kernel
theorem dX6_settles_126 : decode cX6_settles 126 = .ok (.aload_n 0, 1) := by decide +kernel
theorem dX6_settles_127 : decode cX6_settles 127 = .ok (.iload 8, 2) := by decide +kernel
theorem dX6_settles_129 : decode cX6_settles 129 = .ok (.iload 4, 2) := by decide +kernel
theorem dX6_settles_131 : decode cX6_settles 131 = .ok (.iload 5, 2) := by decide +kernel
theorem dX6_settles_133 : decode cX6_settles 133 = .ok (.invokevirtual 116, 3) := by decide +kernel
theorem dX6_settles_136 : decode cX6_settles 136 = .ok (.goto 5, 3) := by decide +kernel
theorem dX6_settles_139 : decode cX6_settles 139 = .ok (.iload 9, 2) := by decide +kernel
theorem dX6_settles_141 : decode cX6_settles 141 = .ok (.ireturn, 1) := by decide +kernel
set_option maxRecDepth 20000 in
theorem ggX6_wrong_X6_isBranch : GoodIn wsX6_wrong wsX6_isBranch := goodIn_r _ [5, 6, 7, 8, 4, 9, 10, 11, 12, 13, 14, 15, 16, 17, 18, 19, 20, 21, 22, 23, 24, 25, 26, 27, 28, 29, 30, 31, 32, 33, 34, 35, 36, 37] (by decide +kernel) (by decide +kernel)
set_option maxRecDepth 20000 in
theorem gX6_wrong_X6_isBranch : GoodIn wsX6_wrong (wsV RX6 93 RX6 yX6_isBranch wsX6_isBranch) := goodIn_app (goodIn_of _ (by decide +kernel)) ggX6_wrong_X6_isBranch
theorem dX6_wrong_0 : decode cX6_wrong 0 = .ok (.aload_n 0, 1) := by decide +kernel
theorem dX6_wrong_1 : decode cX6_wrong 1 = .ok (.iload_n 1, 1) := by decide +kernel
theorem dX6_wrong_2 : decode cX6_wrong 2 = .ok (.invokevirtual 93, 3) := by decide +kernel
theorem dX6_wrong_5 : decode cX6_wrong 5 = .ok (.ifCond .eq 11, 3) := by decide +kernel
theorem dX6_wrong_8 : decode cX6_wrong 8 = .ok (.aload_n 0, 1) := by decide +kernel
theorem dX6_wrong_9 : decode cX6_wrong 9 = .ok (.iload_n 2, 1) := by decide +kernel
theorem dX6_wrong_10 : decode cX6_wrong 10 = .ok (.invokevirtual 93, 3) := by decide +kernel
theorem dX6_wrong_13 : decode cX6_wrong 13 = .ok (.ifCond .ne 7, 3) := by decide +kernel
theorem dX6_wrong_16 : decode cX6_wrong 16 = .ok (.iconst 1, 1) := by decide +kernel
theorem dX6_wrong_17 : decode cX6_wrong 17 = .ok (.goto 13, 3) := by decide +kernel
theorem dX6_wrong_20 : decode cX6_wrong 20 = .ok (.iload_n 1, 1) := by decide +kernel
theorem dX6_wrong_21 : decode cX6_wrong 21 = .ok (.iload_n 2, 1) := by decide +kernel
theorem dX6_wrong_22 : decode cX6_wrong 22 = .ok (.if_icmp .ne 7, 3) := by decide +kernel
theorem dX6_wrong_25 : decode cX6_wrong 25 = .ok (.iconst 2, 1) := by decide +kernel
theorem dX6_wrong_26 : decode cX6_wrong 26 = .ok (.goto 4, 3) := by decide +kernel
theorem dX6_wrong_29 : decode cX6_wrong 29 = .ok (.iconst 0, 1) := by decide +kernel
theorem dX6_wrong_30 : decode cX6_wrong 30 = .ok (.ireturn, 1) := by decide +kernel
set_option maxRecDepth 20000 in
theorem ggX6_base_X6_wrong : GoodIn wsX6_base wsX6_wrong := goodIn_r _ [6, 7, 8, 9, 5, 10, 11, 12, 13, 14, 29, 30, 31, 32, 33, 34, 35, 36, 37, 38, 39, 40, 41, 42, 43, 44, 45, 46, 47, 48, 49, 50, 51, 52, 53, 54, 55, 56] (by decide +kernel) (by decide +kernel)
set_option maxRecDepth 20000 in
theorem gX6_base_X6_wrong : GoodIn wsX6_base (wsV RX6 131 RX6 yX6_wrong wsX6_wrong) := goodIn_app (goodIn_of _ (by decide +kernel)) ggX6_base_X6_wrong
set_option maxRecDepth 20000 in
theorem ggX6_base_X6_baseOf : GoodIn wsX6_base wsX6_baseOf := goodIn_r _ [18, 19, 20, 21, 22, 23, 24, 25, 5, 26, 27, 28, 29, 30, 31, 32, 33, 34, 35, 36, 37, 38, 39, 40, 41, 42, 43, 44, 45, 46, 47, 48, 49, 50, 51, 52, 53, 54, 55, 56] (by decide +kernel) (by decide +kernel)
set_option maxRecDepth 20000 in
theorem gX6_base_X6_baseOf : GoodIn wsX6_base (wsV RX6 134 RX6 yX6_baseOf wsX6_baseOf) := goodIn_app (goodIn_of _ (by decide +kernel)) ggX6_base_X6_baseOf
theorem dX6_base_0 : decode cX6_base 0 = .ok (.aload_n 0, 1) := by decide +kernel
theorem dX6_base_1 : decode cX6_base 1 = .ok (.aload_n 0, 1) := by decide +kernel
theorem dX6_base_2 : decode cX6_base 2 = .ok (.iload_n 1, 1) := by decide +kernel
theorem dX6_base_3 : decode cX6_base 3 = .ok (.iload_n 2, 1) := by decide +kernel
theorem dX6_base_4 : decode cX6_base 4 = .ok (.invokevirtual 131, 3) := by decide +kernel
theorem dX6_base_7 : decode cX6_base 7 = .ok (.putfield 78, 3) := by decide +kernel
theorem dX6_base_10 : decode cX6_base 10 = .ok (.aload_n 0, 1) := by decide +kernel
theorem dX6_base_11 : decode cX6_base 11 = .ok (.getfield 78, 3) := by decide +kernel
theorem dX6_base_14 : decode cX6_base 14 = .ok (.ifCond .le 7, 3) := by decide +kernel
theorem dX6_base_17 : decode cX6_base 17 = .ok (.iconst 0, 1) := by decide +kernel
theorem dX6_base_18 : decode cX6_base 18 = .ok (.goto 9, 3) := by decide +kernel
theorem dX6_base_21 : decode cX6_base 21 = .ok (.aload_n 0, 1) := by decide +kernel
theorem dX6_base_22 : decode cX6_base 22 = .ok (.iload_n 1, 1) := by decide +kernel
theorem dX6_base_23 : decode cX6_base 23 = .ok (.iload_n 2, 1) := by decide +kernel
theorem dX6_base_24 : decode cX6_base 24 = .ok (.invokevirtual 134, 3) := by decide +kernel
theorem dX6_base_27 : decode cX6_base 27 = .ok (.ireturn, 1) := by decide +kernel
set_option maxRecDepth 20000 in
theorem ggX6_clashes_X6_wrong : GoodIn wsX6_clashes wsX6_wrong := goodIn_r _ [7, 8, 9, 10, 6, 11, 12, 13, 14, 15, 57, 58, 59, 60, 61, 62, 63, 64, 65, 66, 67, 68, 69, 70, 71, 72, 73, 74, 75, 76, 77, 78, 79, 80, 81, 82, 83, 84] (by decide +kernel) (by decide +kernel)
set_option maxRecDepth 20000 in
theorem gX6_clashes_X6_wrong : GoodIn wsX6_clashes (wsV RX6 131 RX6 yX6_wrong wsX6_wrong) := goodIn_app (goodIn_of _ (by decide +kernel)) ggX6_clashes_X6_wrong
set_option maxRecDepth 20000 in
theorem ggX6_clashes_X6_baseOf : GoodIn wsX6_clashes wsX6_baseOf := goodIn_r _ [19, 2, 20, 21, 22, 23, 24, 25, 6, 26, 27, 28, 57, 58, 59, 60, 61, 62, 63, 64, 65, 66, 67, 68, 69, 70, 71, 72, 73, 74, 75, 76, 77, 78, 79, 80, 81, 82, 83, 84] (by decide +kernel) (by decide +kernel)
set_option maxRecDepth 20000 in
theorem gX6_clashes_X6_baseOf : GoodIn wsX6_clashes (wsV RX6 134 RX6 yX6_baseOf wsX6_baseOf) := goodIn_app (goodIn_of _ (by decide +kernel)) ggX6_clashes_X6_baseOf
set_option maxRecDepth 20000 in
theorem ggX6_clashes_X6_clashesOf : GoodIn wsX6_clashes wsX6_clashesOf := goodIn_r _ [32, 33, 34, 35, 36, 6, 37, 38, 39, 40, 41, 42, 43, 44, 45, 46, 47, 48, 49, 50, 51, 52, 53, 54, 55, 56, 57, 58, 59, 60, 61, 62, 63, 64, 65, 66, 67, 68, 69, 70, 71, 72, 73, 74, 75, 76, 77, 78, 79, 80, 81, 82, 83, 84] (by decide +kernel) (by decide +kernel)
set_option maxRecDepth 20000 in
theorem gX6_clashes_X6_clashesOf : GoodIn wsX6_clashes (wsV RX6 137 RX6 yX6_clashesOf wsX6_clashesOf) := goodIn_app (goodIn_of _ (by decide +kernel)) ggX6_clashes_X6_clashesOf
theorem dX6_clashes_0 : decode cX6_clashes 0 = .ok (.aload_n 0, 1) := by decide +kernel
theorem dX6_clashes_1 : decode cX6_clashes 1 = .ok (.aload_n 0, 1) := by decide +kernel
theorem dX6_clashes_2 : decode cX6_clashes 2 = .ok (.iload_n 1, 1) := by decide +kernel
theorem dX6_clashes_3 : decode cX6_clashes 3 = .ok (.iload_n 2, 1) := by decide +kernel
theorem dX6_clashes_4 : decode cX6_clashes 4 = .ok (.invokevirtual 131, 3) := by decide +kernel
theorem dX6_clashes_7 : decode cX6_clashes 7 = .ok (.putfield 78, 3) := by decide +kernel
theorem dX6_clashes_10 : decode cX6_clashes 10 = .ok (.aload_n 0, 1) := by decide +kernel
theorem dX6_clashes_11 : decode cX6_clashes 11 = .ok (.getfield 78, 3) := by decide +kernel
theorem dX6_clashes_14 : decode cX6_clashes 14 = .ok (.ifCond .le 7, 3) := by decide +kernel
theorem dX6_clashes_17 : decode cX6_clashes 17 = .ok (.iconst 0, 1) := by decide +kernel
theorem dX6_clashes_18 : decode cX6_clashes 18 = .ok (.goto 25, 3) := by decide +kernel
theorem dX6_clashes_21 : decode cX6_clashes 21 = .ok (.aload_n 0, 1) := by decide +kernel
theorem dX6_clashes_22 : decode cX6_clashes 22 = .ok (.aload_n 0, 1) := by decide +kernel
theorem dX6_clashes_23 : decode cX6_clashes 23 = .ok (.iload_n 1, 1) := by decide +kernel
theorem dX6_clashes_24 : decode cX6_clashes 24 = .ok (.iload_n 2, 1) := by decide +kernel
theorem dX6_clashes_25 : decode cX6_clashes 25 = .ok (.invokevirtual 134, 3) := by decide +kernel
theorem dX6_clashes_28 : decode cX6_clashes 28 = .ok (.aload_n 0, 1) := by decide +kernel
theorem dX6_clashes_29 : decode cX6_clashes 29 = .ok (.getfield 35, 3) := by decide +kernel
theorem dX6_clashes_32 : decode cX6_clashes 32 = .ok (.iload_n 1, 1) := by decide +kernel
theorem dX6_clashes_33 : decode cX6_clashes 33 = .ok (.iaload, 1) := by decide +kernel
theorem dX6_clashes_34 : decode cX6_clashes 34 = .ok (.aload_n 0, 1) := by decide +kernel
theorem dX6_clashes_35 : decode cX6_clashes 35 = .ok (.getfield 35, 3) := by decide +kernel
theorem dX6_clashes_38 : decode cX6_clashes 38 = .ok (.iload_n 2, 1) := by decide +kernel
theorem dX6_clashes_39 : decode cX6_clashes 39 = .ok (.iaload, 1) := by decide +kernel
theorem dX6_clashes_40 : decode cX6_clashes 40 = .ok (.invokevirtual 137, 3) := by decide +kernel
theorem dX6_clashes_43 : decode cX6_clashes 43 = .ok (.ireturn, 1) := by decide +kernel
set_option maxRecDepth 20000 in
theorem ggX6_merged_X6_isBranch : GoodIn wsX6_merged wsX6_isBranch := goodIn_r _ [7, 8, 9, 10, 6, 11, 60, 61, 62, 63, 64, 65, 66, 67, 68, 69, 70, 71, 72, 73, 74, 75, 76, 77, 78, 79, 80, 81, 82, 83, 84, 85, 86, 87] (by decide +kernel) (by decide +kernel)
set_option maxRecDepth 20000 in
theorem gX6_merged_X6_isBranch : GoodIn wsX6_merged (wsV RX6 93 RX6 yX6_isBranch wsX6_isBranch) := goodIn_app (goodIn_of _ (by decide +kernel)) ggX6_merged_X6_isBranch
set_option maxRecDepth 20000 in
theorem ggX6_merged_X6_isSlide : GoodIn wsX6_merged wsX6_isSlide := goodIn_r _ [15, 16, 9, 10, 6, 11, 60, 61, 62, 63, 64, 65, 66, 67, 68, 69, 70, 71, 72, 73, 74, 75, 76, 77, 78, 79, 80, 81, 82, 83, 84, 85, 86, 87] (by decide +kernel) (by decide +kernel)
set_option maxRecDepth 20000 in
theorem gX6_merged_X6_isSlide : GoodIn wsX6_merged (wsV RX6 113 RX6 yX6_isSlide wsX6_isSlide) := goodIn_app (goodIn_of _ (by decide +kernel)) ggX6_merged_X6_isSlide
set_option maxRecDepth 20000 in
theorem ggX6_merged_X6_isObject : GoodIn wsX6_merged wsX6_isObject := goodIn_r _ [19, 9, 10, 6, 11] (by decide +kernel) (by decide +kernel)
set_option maxRecDepth 20000 in
theorem gX6_merged_X6_isObject : GoodIn wsX6_merged (va_wsS RX6 106 yX6_isObject wsX6_isObject) := goodIn_app (goodIn_of _ (by decide +kernel)) ggX6_merged_X6_isObject
set_option maxRecDepth 20000 in
theorem ggX6_merged_X6_in : GoodIn wsX6_merged wsX6_in := goodIn_r _ [11] (by decide +kernel) (by decide +kernel)
set_option maxRecDepth 20000 in
theorem gX6_merged_X6_in : GoodIn wsX6_merged (va_wsS RX6 81 yX6_in wsX6_in) := goodIn_app (goodIn_of _ (by decide +kernel)) ggX6_merged_X6_in
set_option maxRecDepth 20000 in
theorem ggX6_merged_X6_baseOf : GoodIn wsX6_merged wsX6_baseOf := goodIn_r _ [23, 2, 24, 25, 26, 27, 28, 29, 6, 30, 31, 32, 60, 61, 62, 63, 64, 65, 66, 67, 68, 69, 70, 71, 72, 73, 74, 75, 76, 77, 78, 79, 80, 81, 82, 83, 84, 85, 86, 87] (by decide +kernel) (by decide +kernel)
set_option maxRecDepth 20000 in
theorem gX6_merged_X6_baseOf : GoodIn wsX6_merged (wsV RX6 134 RX6 yX6_baseOf wsX6_baseOf) := goodIn_app (goodIn_of _ (by decide +kernel)) ggX6_merged_X6_baseOf
set_option maxRecDepth 20000 in
theorem ggX6_merged_X6_settles : GoodIn wsX6_merged wsX6_settles := goodIn_r _ [36, 37, 38, 39, 6, 40, 41, 42, 43, 44, 45, 46, 47, 48, 49, 50, 51, 52, 53, 54, 55, 56, 57, 58, 59, 60, 61, 62, 63, 64, 65, 66, 67, 68, 69, 70, 71, 72, 73, 74, 75, 76, 77, 78, 79, 80, 81, 82, 83, 84, 85, 86, 87] (by decide +kernel) (by decide +kernel)
set_option maxRecDepth 20000 in
theorem gX6_merged_X6_settles : GoodIn wsX6_merged (wsV RX6 140 RX6 yX6_settles wsX6_settles) := goodIn_app (goodIn_of _ (by decide +kernel)) ggX6_merged_X6_settles
theorem dX6_merged_0 : decode cX6_merged 0 = .ok (.aload_n 0, 1) := by decide +kernel
theorem dX6_merged_1 : decode cX6_merged 1 = .ok (.aload_n 0, 1) := by decide +kernel
theorem dX6_merged_2 : decode cX6_merged 2 = .ok (.iload_n 1, 1) := by decide +kernel
theorem dX6_merged_3 : decode cX6_merged 3 = .ok (.invokevirtual 93, 3) := by decide +kernel
theorem dX6_merged_6 : decode cX6_merged 6 = .ok (.ifCond .eq 27, 3) := by decide +kernel
theorem dX6_merged_9 : decode cX6_merged 9 = .ok (.aload_n 0, 1) := by decide +kernel
theorem dX6_merged_10 : decode cX6_merged 10 = .ok (.iload_n 2, 1) := by decide +kernel
theorem dX6_merged_11 : decode cX6_merged 11 = .ok (.invokevirtual 93, 3) := by decide +kernel
theorem dX6_merged_14 : decode cX6_merged 14 = .ok (.ifCond .eq 19, 3) := by decide +kernel
theorem dX6_merged_17 : decode cX6_merged 17 = .ok (.aload_n 0, 1) := by decide +kernel
theorem dX6_merged_18 : decode cX6_merged 18 = .ok (.iload_n 3, 1) := by decide +kernel
theorem dX6_merged_19 : decode cX6_merged 19 = .ok (.invokevirtual 113, 3) := by decide +kernel
theorem dX6_merged_22 : decode cX6_merged 22 = .ok (.ifCond .eq 11, 3) := by decide +kernel
theorem dX6_merged_25 : decode cX6_merged 25 = .ok (.iload 4, 2) := by decide +kernel
theorem dX6_merged_27 : decode cX6_merged 27 = .ok (.invokestatic 106, 3) := by decide +kernel
theorem dX6_merged_30 : decode cX6_merged 30 = .ok (.ifCond .ne 7, 3) := by decide +kernel
theorem dX6_merged_33 : decode cX6_merged 33 = .ok (.iconst 1, 1) := by decide +kernel
theorem dX6_merged_34 : decode cX6_merged 34 = .ok (.goto 23, 3) := by decide +kernel
theorem dX6_merged_37 : decode cX6_merged 37 = .ok (.iload_n 1, 1) := by decide +kernel
theorem dX6_merged_38 : decode cX6_merged 38 = .ok (.iload_n 2, 1) := by decide +kernel
theorem dX6_merged_39 : decode cX6_merged 39 = .ok (.if_icmp .eq 13, 3) := by decide +kernel
theorem dX6_merged_42 : decode cX6_merged 42 = .ok (.iload 5, 2) := by decide +kernel
theorem dX6_merged_44 : decode cX6_merged 44 = .ok (.iconst 0, 1) := by decide +kernel
theorem dX6_merged_45 : decode cX6_merged 45 = .ok (.iconst 1, 1) := by decide +kernel
theorem dX6_merged_46 : decode cX6_merged 46 = .ok (.invokestatic 81, 3) := by decide +kernel
theorem dX6_merged_49 : decode cX6_merged 49 = .ok (.ifCond .ne 7, 3) := by decide +kernel
theorem dX6_merged_52 : decode cX6_merged 52 = .ok (.iconst 2, 1) := by decide +kernel
theorem dX6_merged_53 : decode cX6_merged 53 = .ok (.goto 4, 3) := by decide +kernel
theorem dX6_merged_56 : decode cX6_merged 56 = .ok (.iconst 0, 1) := by decide +kernel
theorem dX6_merged_57 : decode cX6_merged 57 = .ok (.putfield 78, 3) := by decide +kernel
theorem dX6_merged_60 : decode cX6_merged 60 = .ok (.aload_n 0, 1) := by decide +kernel
theorem dX6_merged_61 : decode cX6_merged 61 = .ok (.getfield 78, 3) := by decide +kernel
theorem dX6_merged_64 : decode cX6_merged 64 = .ok (.ifCond .le 7, 3) := by decide +kernel
theorem dX6_merged_67 : decode cX6_merged 67 = .ok (.iconst 0, 1) := by decide +kernel
theorem dX6_merged_68 : decode cX6_merged 68 = .ok (.goto 30, 3) := by decide +kernel
theorem dX6_merged_71 : decode cX6_merged 71 = .ok (.aload_n 0, 1) := by decide +kernel
theorem dX6_merged_72 : decode cX6_merged 72 = .ok (.aload_n 0, 1) := by decide +kernel
theorem dX6_merged_73 : decode cX6_merged 73 = .ok (.iload_n 1, 1) := by decide +kernel
theorem dX6_merged_74 : decode cX6_merged 74 = .ok (.iload_n 2, 1) := by decide +kernel
theorem dX6_merged_75 : decode cX6_merged 75 = .ok (.invokevirtual 134, 3) := by decide +kernel
theorem dX6_merged_78 : decode cX6_merged 78 = .ok (.aload_n 0, 1) := by decide +kernel
theorem dX6_merged_79 : decode cX6_merged 79 = .ok (.getfield 35, 3) := by decide +kernel
theorem dX6_merged_82 : decode cX6_merged 82 = .ok (.iload_n 1, 1) := by decide +kernel
theorem dX6_merged_83 : decode cX6_merged 83 = .ok (.iaload, 1) := by decide +kernel
theorem dX6_merged_84 : decode cX6_merged 84 = .ok (.aload_n 0, 1) := by decide +kernel
theorem dX6_merged_85 : decode cX6_merged 85 = .ok (.getfield 35, 3) := by decide +kernel
theorem dX6_merged_88 : decode cX6_merged 88 = .ok (.iload_n 2, 1) := by decide +kernel
theorem dX6_merged_89 : decode cX6_merged 89 = .ok (.iaload, 1) := by decide +kernel
theorem dX6_merged_90 : decode cX6_merged 90 = .ok (.iload_n 3, 1) := by decide +kernel
theorem dX6_merged_91 : decode cX6_merged 91 = .ok (.iload 4, 2) := by decide +kernel
theorem dX6_merged_93 : decode cX6_merged 93 = .ok (.iload 5, 2) := by decide +kernel
theorem dX6_merged_95 : decode cX6_merged 95 = .ok (.invokevirtual 140, 3) := by decide +kernel
theorem dX6_merged_98 : decode cX6_merged 98 = .ok (.ireturn, 1) := by decide +kernel
set_option maxRecDepth 20000 in
theorem ggX6_lays_X6_settles : GoodIn wsX6_lays wsX6_settles := goodIn_r _ [8, 9, 10, 11, 7, 12, 13, 14, 15, 16, 17, 18, 19, 20, 21, 22, 23, 24, 25, 26, 27, 28, 29, 30, 31, 32, 33, 34, 35, 36, 37, 38, 39, 40, 41, 42, 43, 44, 45, 46, 47, 48, 49, 50, 51, 52, 53, 54, 55, 56, 57, 58, 59] (by decide +kernel) (by decide +kernel)
set_option maxRecDepth 20000 in
theorem gX6_lays_X6_settles : GoodIn wsX6_lays (wsV RX6 140 RX6 yX6_settles wsX6_settles) := goodIn_app (goodIn_of _ (by decide +kernel)) ggX6_lays_X6_settles
theorem dX6_lays_0 : decode cX6_lays 0 = .ok (.aload_n 0, 1) := by decide +kernel
theorem dX6_lays_1 : decode cX6_lays 1 = .ok (.iload_n 1, 1) := by decide +kernel
theorem dX6_lays_2 : decode cX6_lays 2 = .ok (.iload_n 2, 1) := by decide +kernel
theorem dX6_lays_3 : decode cX6_lays 3 = .ok (.iload_n 3, 1) := by decide +kernel
theorem dX6_lays_4 : decode cX6_lays 4 = .ok (.iload 4, 2) := by decide +kernel
theorem dX6_lays_6 : decode cX6_lays 6 = .ok (.iconst 0, 1) := by decide +kernel
theorem dX6_lays_7 : decode cX6_lays 7 = .ok (.iload 5, 2) := by decide +kernel
theorem dX6_lays_9 : decode cX6_lays 9 = .ok (.invokevirtual 140, 3) := by decide +kernel
theorem dX6_lays_12 : decode cX6_lays 12 = .ok (.iconst (-1), 1) := by decide +kernel
theorem dX6_lays_13 : decode cX6_lays 13 = .ok (.if_icmp .ne 4, 3) := by decide +kernel
theorem dX6_lays_16 : decode cX6_lays 16 = .ok (.return_, 1) := by decide +kernel
theorem dX6_lays_17 : decode cX6_lays 17 = .ok (.aload_n 0, 1) := by decide +kernel
theorem dX6_lays_18 : decode cX6_lays 18 = .ok (.getfield 62, 3) := by decide +kernel
theorem dX6_lays_21 : decode cX6_lays 21 = .ok (.aload_n 0, 1) := by decide +kernel
theorem dX6_lays_22 : decode cX6_lays 22 = .ok (.getfield 144, 3) := by decide +kernel
theorem dX6_lays_25 : decode cX6_lays 25 = .ok (.iload 4, 2) := by decide +kernel
theorem dX6_lays_27 : decode cX6_lays 27 = .ok (.iastore, 1) := by decide +kernel
theorem dX6_lays_28 : decode cX6_lays 28 = .ok (.iconst 0, 1) := by decide +kernel
theorem dX6_lays_29 : decode cX6_lays 29 = .ok (.istore 6, 2) := by decide +kernel
theorem dX6_lays_31 : decode cX6_lays 31 = .ok (.iload 6, 2) := by decide +kernel
theorem dX6_lays_33 : decode cX6_lays 33 = .ok (.iconst 4, 1) := by decide +kernel
theorem dX6_lays_34 : decode cX6_lays 34 = .ok (.if_icmp .ge 36, 3) := by decide +kernel
theorem dX6_lays_37 : decode cX6_lays 37 = .ok (.aload_n 0, 1) := by decide +kernel
theorem dX6_lays_38 : decode cX6_lays 38 = .ok (.getfield 65, 3) := by decide +kernel
theorem dX6_lays_41 : decode cX6_lays 41 = .ok (.iconst 4, 1) := by decide +kernel
theorem dX6_lays_42 : decode cX6_lays 42 = .ok (.aload_n 0, 1) := by decide +kernel
theorem dX6_lays_43 : decode cX6_lays 43 = .ok (.getfield 144, 3) := by decide +kernel
theorem dX6_lays_46 : decode cX6_lays 46 = .ok (.imul, 1) := by decide +kernel
theorem dX6_lays_47 : decode cX6_lays 47 = .ok (.iload 6, 2) := by decide +kernel
theorem dX6_lays_49 : decode cX6_lays 49 = .ok (.iadd, 1) := by decide +kernel
theorem dX6_lays_50 : decode cX6_lays 50 = .ok (.aload_n 0, 1) := by decide +kernel
theorem dX6_lays_51 : decode cX6_lays 51 = .ok (.iload_n 1, 1) := by decide +kernel
theorem dX6_lays_52 : decode cX6_lays 52 = .ok (.iload_n 2, 1) := by decide +kernel
theorem dX6_lays_53 : decode cX6_lays 53 = .ok (.iload_n 3, 1) := by decide +kernel
theorem dX6_lays_54 : decode cX6_lays 54 = .ok (.iload 4, 2) := by decide +kernel
theorem dX6_lays_56 : decode cX6_lays 56 = .ok (.iload 6, 2) := by decide +kernel
theorem dX6_lays_58 : decode cX6_lays 58 = .ok (.iload 5, 2) := by decide +kernel
theorem dX6_lays_60 : decode cX6_lays 60 = .ok (.invokevirtual 140, 3) := by decide +kernel
theorem dX6_lays_63 : decode cX6_lays 63 = .ok (.iastore, 1) := by decide +kernel
theorem dX6_lays_64 : decode cX6_lays 64 = .ok (.iinc 6 1, 3) := by decide +kernel
theorem dX6_lays_67 : decode cX6_lays 67 = .ok (.goto (-36), 3) := by decide +kernel
theorem dX6_lays_70 : decode cX6_lays 70 = .ok (.aload_n 0, 1) := by decide +kernel
theorem dX6_lays_71 : decode cX6_lays 71 = .ok (.dup, 1) := by decide +kernel
theorem dX6_lays_72 : decode cX6_lays 72 = .ok (.getfield 144, 3) := by decide +kernel
theorem dX6_lays_75 : decode cX6_lays 75 = .ok (.iconst 1, 1) := by decide +kernel
theorem dX6_lays_76 : decode cX6_lays 76 = .ok (.iadd, 1) := by decide +kernel
theorem dX6_lays_77 : decode cX6_lays 77 = .ok (.putfield 144, 3) := by decide +kernel
theorem dX6_lays_80 : decode cX6_lays 80 = .ok (.return_, 1) := by decide +kernel
set_option maxRecDepth 20000 in
theorem ggX6_layDeck_X6_lays : GoodIn wsX6_layDeck wsX6_lays := goodIn_r _ [8, 9, 1, 10, 11, 12, 13, 7, 14, 15, 16, 17, 18, 19, 20, 21, 22, 2, 3, 23, 24, 25, 26, 27, 28, 29, 30, 31, 32, 33, 34, 35, 36, 37, 38, 39, 40, 41, 42, 43, 44, 45, 46, 47, 48, 49, 50, 51, 52, 53, 54, 55, 56, 57, 58, 59, 60, 61, 62, 63] (by decide +kernel) (by decide +kernel)
set_option maxRecDepth 20000 in
theorem gX6_layDeck_X6_lays : GoodIn wsX6_layDeck (wsV RX6 147 RX6 yX6_lays wsX6_lays) := goodIn_app (goodIn_of _ (by decide +kernel)) ggX6_layDeck_X6_lays
set_option maxRecDepth 20000 in
theorem ggX6_layDeck_X6_placeOf : GoodIn wsX6_layDeck wsX6_placeOf := goodIn_r _ [22, 2, 3, 36, 37, 38, 39, 40, 41, 42, 43, 44, 45, 46, 47, 48, 49, 50, 51, 52, 53, 54, 55, 56, 57, 58, 59, 60, 61, 62, 63] (by decide +kernel) (by decide +kernel)
set_option maxRecDepth 20000 in
theorem gX6_layDeck_X6_placeOf : GoodIn wsX6_layDeck (wsV RX6 85 RX6 yX6_placeOf wsX6_placeOf) := goodIn_app (goodIn_of _ (by decide +kernel)) ggX6_layDeck_X6_placeOf
theorem dX6_layDeck_0 : decode cX6_layDeck 0 = .ok (.aload_n 0, 1) := by decide +kernel
theorem dX6_layDeck_1 : decode cX6_layDeck 1 = .ok (.iconst 0, 1) := by decide +kernel
theorem dX6_layDeck_2 : decode cX6_layDeck 2 = .ok (.putfield 144, 3) := by decide +kernel
theorem dX6_layDeck_5 : decode cX6_layDeck 5 = .ok (.iconst 0, 1) := by decide +kernel
theorem dX6_layDeck_6 : decode cX6_layDeck 6 = .ok (.istore 5, 2) := by decide +kernel
theorem dX6_layDeck_8 : decode cX6_layDeck 8 = .ok (.iload 5, 2) := by decide +kernel
theorem dX6_layDeck_10 : decode cX6_layDeck 10 = .ok (.aload_n 0, 1) := by decide +kernel
theorem dX6_layDeck_11 : decode cX6_layDeck 11 = .ok (.getfield 23, 3) := by decide +kernel
theorem dX6_layDeck_14 : decode cX6_layDeck 14 = .ok (.iload_n 2, 1) := by decide +kernel
theorem dX6_layDeck_15 : decode cX6_layDeck 15 = .ok (.iaload, 1) := by decide +kernel
theorem dX6_layDeck_16 : decode cX6_layDeck 16 = .ok (.if_icmp .ge 30, 3) := by decide +kernel
theorem dX6_layDeck_19 : decode cX6_layDeck 19 = .ok (.aload_n 0, 1) := by decide +kernel
theorem dX6_layDeck_20 : decode cX6_layDeck 20 = .ok (.iload_n 1, 1) := by decide +kernel
theorem dX6_layDeck_21 : decode cX6_layDeck 21 = .ok (.iload_n 2, 1) := by decide +kernel
theorem dX6_layDeck_22 : decode cX6_layDeck 22 = .ok (.iload_n 3, 1) := by decide +kernel
theorem dX6_layDeck_23 : decode cX6_layDeck 23 = .ok (.aload_n 0, 1) := by decide +kernel
theorem dX6_layDeck_24 : decode cX6_layDeck 24 = .ok (.getfield 26, 3) := by decide +kernel
theorem dX6_layDeck_27 : decode cX6_layDeck 27 = .ok (.bipush 8, 2) := by decide +kernel
theorem dX6_layDeck_29 : decode cX6_layDeck 29 = .ok (.iload_n 2, 1) := by decide +kernel
theorem dX6_layDeck_30 : decode cX6_layDeck 30 = .ok (.imul, 1) := by decide +kernel
theorem dX6_layDeck_31 : decode cX6_layDeck 31 = .ok (.iload 5, 2) := by decide +kernel
theorem dX6_layDeck_33 : decode cX6_layDeck 33 = .ok (.iadd, 1) := by decide +kernel
theorem dX6_layDeck_34 : decode cX6_layDeck 34 = .ok (.iaload, 1) := by decide +kernel
theorem dX6_layDeck_35 : decode cX6_layDeck 35 = .ok (.iload 4, 2) := by decide +kernel
theorem dX6_layDeck_37 : decode cX6_layDeck 37 = .ok (.invokevirtual 147, 3) := by decide +kernel
theorem dX6_layDeck_40 : decode cX6_layDeck 40 = .ok (.iinc 5 1, 3) := by decide +kernel
theorem dX6_layDeck_43 : decode cX6_layDeck 43 = .ok (.goto (-35), 3) := by decide +kernel
theorem dX6_layDeck_46 : decode cX6_layDeck 46 = .ok (.iconst 0, 1) := by decide +kernel
theorem dX6_layDeck_47 : decode cX6_layDeck 47 = .ok (.istore 5, 2) := by decide +kernel
theorem dX6_layDeck_49 : decode cX6_layDeck 49 = .ok (.iload 5, 2) := by decide +kernel
theorem dX6_layDeck_51 : decode cX6_layDeck 51 = .ok (.aload_n 0, 1) := by decide +kernel
theorem dX6_layDeck_52 : decode cX6_layDeck 52 = .ok (.getfield 23, 3) := by decide +kernel
theorem dX6_layDeck_55 : decode cX6_layDeck 55 = .ok (.iload_n 3, 1) := by decide +kernel
theorem dX6_layDeck_56 : decode cX6_layDeck 56 = .ok (.iaload, 1) := by decide +kernel
theorem dX6_layDeck_57 : decode cX6_layDeck 57 = .ok (.if_icmp .ge 51, 3) := by decide +kernel
theorem dX6_layDeck_60 : decode cX6_layDeck 60 = .ok (.aload_n 0, 1) := by decide +kernel
theorem dX6_layDeck_61 : decode cX6_layDeck 61 = .ok (.iload_n 2, 1) := by decide +kernel
theorem dX6_layDeck_62 : decode cX6_layDeck 62 = .ok (.aload_n 0, 1) := by decide +kernel
theorem dX6_layDeck_63 : decode cX6_layDeck 63 = .ok (.getfield 26, 3) := by decide +kernel
theorem dX6_layDeck_66 : decode cX6_layDeck 66 = .ok (.bipush 8, 2) := by decide +kernel
theorem dX6_layDeck_68 : decode cX6_layDeck 68 = .ok (.iload_n 3, 1) := by decide +kernel
theorem dX6_layDeck_69 : decode cX6_layDeck 69 = .ok (.imul, 1) := by decide +kernel
theorem dX6_layDeck_70 : decode cX6_layDeck 70 = .ok (.iload 5, 2) := by decide +kernel
theorem dX6_layDeck_72 : decode cX6_layDeck 72 = .ok (.iadd, 1) := by decide +kernel
theorem dX6_layDeck_73 : decode cX6_layDeck 73 = .ok (.iaload, 1) := by decide +kernel
theorem dX6_layDeck_74 : decode cX6_layDeck 74 = .ok (.invokevirtual 85, 3) := by decide +kernel
theorem dX6_layDeck_77 : decode cX6_layDeck 77 = .ok (.iconst (-1), 1) := by decide +kernel
theorem dX6_layDeck_78 : decode cX6_layDeck 78 = .ok (.if_icmp .ne 24, 3) := by decide +kernel
theorem dX6_layDeck_81 : decode cX6_layDeck 81 = .ok (.aload_n 0, 1) := by decide +kernel
theorem dX6_layDeck_82 : decode cX6_layDeck 82 = .ok (.iload_n 1, 1) := by decide +kernel
theorem dX6_layDeck_83 : decode cX6_layDeck 83 = .ok (.iload_n 2, 1) := by decide +kernel
theorem dX6_layDeck_84 : decode cX6_layDeck 84 = .ok (.iload_n 3, 1) := by decide +kernel
theorem dX6_layDeck_85 : decode cX6_layDeck 85 = .ok (.aload_n 0, 1) := by decide +kernel
theorem dX6_layDeck_86 : decode cX6_layDeck 86 = .ok (.getfield 26, 3) := by decide +kernel
theorem dX6_layDeck_89 : decode cX6_layDeck 89 = .ok (.bipush 8, 2) := by decide +kernel
theorem dX6_layDeck_91 : decode cX6_layDeck 91 = .ok (.iload_n 3, 1) := by decide +kernel
theorem dX6_layDeck_92 : decode cX6_layDeck 92 = .ok (.imul, 1) := by decide +kernel
theorem dX6_layDeck_93 : decode cX6_layDeck 93 = .ok (.iload 5, 2) := by decide +kernel
theorem dX6_layDeck_95 : decode cX6_layDeck 95 = .ok (.iadd, 1) := by decide +kernel
theorem dX6_layDeck_96 : decode cX6_layDeck 96 = .ok (.iaload, 1) := by decide +kernel
theorem dX6_layDeck_97 : decode cX6_layDeck 97 = .ok (.iload 4, 2) := by decide +kernel
theorem dX6_layDeck_99 : decode cX6_layDeck 99 = .ok (.invokevirtual 147, 3) := by decide +kernel
theorem dX6_layDeck_102 : decode cX6_layDeck 102 = .ok (.iinc 5 1, 3) := by decide +kernel
theorem dX6_layDeck_105 : decode cX6_layDeck 105 = .ok (.goto (-56), 3) := by decide +kernel
theorem dX6_layDeck_108 : decode cX6_layDeck 108 = .ok (.return_, 1) := by decide +kernel
set_option maxRecDepth 20000 in
theorem ggX6_merge_X6_isBranch : GoodIn wsX6_merge wsX6_isBranch := goodIn_r _ [17, 18, 19, 20, 16, 21, 95, 96, 97, 98, 99, 100, 101, 102, 103, 104, 105, 106, 107, 108, 109, 110, 111, 112, 113, 114, 115, 116, 117, 118, 119, 120, 121, 122] (by decide +kernel) (by decide +kernel)
set_option maxRecDepth 20000 in
theorem gX6_merge_X6_isBranch : GoodIn wsX6_merge (wsV RX6 93 RX6 yX6_isBranch wsX6_isBranch) := goodIn_app (goodIn_of _ (by decide +kernel)) ggX6_merge_X6_isBranch
set_option maxRecDepth 20000 in
theorem ggX6_merge_X6_in : GoodIn wsX6_merge wsX6_in := goodIn_r _ [21] (by decide +kernel) (by decide +kernel)
set_option maxRecDepth 20000 in
theorem gX6_merge_X6_in : GoodIn wsX6_merge (va_wsS RX6 81 yX6_in wsX6_in) := goodIn_app (goodIn_of _ (by decide +kernel)) ggX6_merge_X6_in
set_option maxRecDepth 20000 in
theorem ggX6_merge_X6_baseOf : GoodIn wsX6_merge wsX6_baseOf := goodIn_r _ [25, 2, 8, 26, 27, 28, 29, 30, 16, 31, 32, 9, 95, 96, 97, 98, 99, 100, 101, 102, 103, 104, 105, 106, 107, 108, 109, 110, 111, 112, 113, 114, 115, 116, 117, 118, 119, 120, 121, 122] (by decide +kernel) (by decide +kernel)
set_option maxRecDepth 20000 in
theorem gX6_merge_X6_baseOf : GoodIn wsX6_merge (wsV RX6 134 RX6 yX6_baseOf wsX6_baseOf) := goodIn_app (goodIn_of _ (by decide +kernel)) ggX6_merge_X6_baseOf
set_option maxRecDepth 20000 in
theorem ggX6_merge_X6_layDeck : GoodIn wsX6_merge wsX6_layDeck := goodIn_r _ [36, 3, 10, 11, 37, 38, 39, 16, 40, 5, 6, 41, 42, 43, 44, 45, 46, 47, 48, 49, 50, 51, 52, 53, 54, 55, 56, 57, 58, 59, 60, 12, 61, 62, 63, 64, 95, 96, 97, 98, 99, 100, 101, 102, 103, 104, 105, 106, 107, 108, 109, 110, 111, 112, 113, 114, 115, 116, 117, 118, 119, 120, 121, 122] (by decide +kernel) (by decide +kernel)
set_option maxRecDepth 20000 in
theorem gX6_merge_X6_layDeck : GoodIn wsX6_merge (wsV RX6 151 RX6 yX6_layDeck wsX6_layDeck) := goodIn_app (goodIn_of _ (by decide +kernel)) ggX6_merge_X6_layDeck
set_option maxRecDepth 20000 in
theorem ggX6_merge_X6_isBlocked : GoodIn wsX6_merge wsX6_isBlocked := goodIn_r _ [68, 69, 70, 71, 72, 16, 73, 74, 75, 19, 20, 21, 76, 77, 78, 79, 80, 81, 82, 83, 84, 95, 96, 97, 98, 99, 100, 101, 102, 103, 104, 105, 106, 107, 108, 109, 110, 111, 112, 113, 114, 115, 116, 117, 118, 119, 120, 121, 122] (by decide +kernel) (by decide +kernel)
set_option maxRecDepth 20000 in
theorem gX6_merge_X6_isBlocked : GoodIn wsX6_merge (wsV RX6 158 RX6 yX6_isBlocked wsX6_isBlocked) := goodIn_app (goodIn_of _ (by decide +kernel)) ggX6_merge_X6_isBlocked
set_option maxRecDepth 20000 in
theorem ggX6_merge_X6_clashesOf : GoodIn wsX6_merge wsX6_clashesOf := goodIn_r _ [88, 89, 45, 46, 47, 16, 48, 49, 50, 51, 52, 10, 11, 53, 54, 55, 56, 57, 58, 59, 60, 12, 61, 62, 63, 64, 95, 96, 97, 98, 99, 100, 101, 102, 103, 104, 105, 106, 107, 108, 109, 110, 111, 112, 113, 114, 115, 116, 117, 118, 119, 120, 121, 122] (by decide +kernel) (by decide +kernel)
set_option maxRecDepth 20000 in
theorem gX6_merge_X6_clashesOf : GoodIn wsX6_merge (wsV RX6 137 RX6 yX6_clashesOf wsX6_clashesOf) := goodIn_app (goodIn_of _ (by decide +kernel)) ggX6_merge_X6_clashesOf
set_option maxRecDepth 20000 in
theorem ggX6_merge_X6_edits : GoodIn wsX6_merge wsX6_edits := goodIn_r _ [93, 8, 2, 94, 32, 9, 10, 11, 12, 95, 96, 97, 98, 99, 100, 101, 102, 103, 104, 105, 106, 107, 108, 109, 110, 111, 112, 113, 114, 115, 116, 117, 118, 119, 120, 121, 122] (by decide +kernel) (by decide +kernel)
set_option maxRecDepth 20000 in
theorem gX6_merge_X6_edits : GoodIn wsX6_merge (wsV RX6 99 RX6 yX6_edits wsX6_edits) := goodIn_app (goodIn_of _ (by decide +kernel)) ggX6_merge_X6_edits
theorem dX6_merge_0 : decode cX6_merge 0 = .ok (.aload_n 0, 1) := by decide +kernel
theorem dX6_merge_1 : decode cX6_merge 1 = .ok (.aload_n 0, 1) := by decide +kernel
theorem dX6_merge_2 : decode cX6_merge 2 = .ok (.iload_n 1, 1) := by decide +kernel
theorem dX6_merge_3 : decode cX6_merge 3 = .ok (.invokevirtual 93, 3) := by decide +kernel
theorem dX6_merge_6 : decode cX6_merge 6 = .ok (.ifCond .eq 11, 3) := by decide +kernel
theorem dX6_merge_9 : decode cX6_merge 9 = .ok (.aload_n 0, 1) := by decide +kernel
theorem dX6_merge_10 : decode cX6_merge 10 = .ok (.iload_n 2, 1) := by decide +kernel
theorem dX6_merge_11 : decode cX6_merge 11 = .ok (.invokevirtual 93, 3) := by decide +kernel
theorem dX6_merge_14 : decode cX6_merge 14 = .ok (.ifCond .ne 7, 3) := by decide +kernel
theorem dX6_merge_17 : decode cX6_merge 17 = .ok (.iconst 1, 1) := by decide +kernel
theorem dX6_merge_18 : decode cX6_merge 18 = .ok (.goto 22, 3) := by decide +kernel
theorem dX6_merge_21 : decode cX6_merge 21 = .ok (.iload_n 1, 1) := by decide +kernel
theorem dX6_merge_22 : decode cX6_merge 22 = .ok (.iload_n 2, 1) := by decide +kernel
theorem dX6_merge_23 : decode cX6_merge 23 = .ok (.if_icmp .eq 12, 3) := by decide +kernel
theorem dX6_merge_26 : decode cX6_merge 26 = .ok (.iload_n 3, 1) := by decide +kernel
theorem dX6_merge_27 : decode cX6_merge 27 = .ok (.iconst (-1), 1) := by decide +kernel
theorem dX6_merge_28 : decode cX6_merge 28 = .ok (.iconst 1, 1) := by decide +kernel
theorem dX6_merge_29 : decode cX6_merge 29 = .ok (.invokestatic 81, 3) := by decide +kernel
theorem dX6_merge_32 : decode cX6_merge 32 = .ok (.ifCond .ne 7, 3) := by decide +kernel
theorem dX6_merge_35 : decode cX6_merge 35 = .ok (.iconst 2, 1) := by decide +kernel
theorem dX6_merge_36 : decode cX6_merge 36 = .ok (.goto 4, 3) := by decide +kernel
theorem dX6_merge_39 : decode cX6_merge 39 = .ok (.iconst 0, 1) := by decide +kernel
theorem dX6_merge_40 : decode cX6_merge 40 = .ok (.putfield 78, 3) := by decide +kernel
theorem dX6_merge_43 : decode cX6_merge 43 = .ok (.aload_n 0, 1) := by decide +kernel
theorem dX6_merge_44 : decode cX6_merge 44 = .ok (.getfield 78, 3) := by decide +kernel
theorem dX6_merge_47 : decode cX6_merge 47 = .ok (.ifCond .le 5, 3) := by decide +kernel
theorem dX6_merge_50 : decode cX6_merge 50 = .ok (.iconst 0, 1) := by decide +kernel
theorem dX6_merge_51 : decode cX6_merge 51 = .ok (.ireturn, 1) := by decide +kernel
theorem dX6_merge_52 : decode cX6_merge 52 = .ok (.aload_n 0, 1) := by decide +kernel
theorem dX6_merge_53 : decode cX6_merge 53 = .ok (.iload_n 1, 1) := by decide +kernel
theorem dX6_merge_54 : decode cX6_merge 54 = .ok (.iload_n 2, 1) := by decide +kernel
theorem dX6_merge_55 : decode cX6_merge 55 = .ok (.invokevirtual 134, 3) := by decide +kernel
theorem dX6_merge_58 : decode cX6_merge 58 = .ok (.istore 4, 2) := by decide +kernel
theorem dX6_merge_60 : decode cX6_merge 60 = .ok (.aload_n 0, 1) := by decide +kernel
theorem dX6_merge_61 : decode cX6_merge 61 = .ok (.getfield 35, 3) := by decide +kernel
theorem dX6_merge_64 : decode cX6_merge 64 = .ok (.iload_n 1, 1) := by decide +kernel
theorem dX6_merge_65 : decode cX6_merge 65 = .ok (.iaload, 1) := by decide +kernel
theorem dX6_merge_66 : decode cX6_merge 66 = .ok (.istore 5, 2) := by decide +kernel
theorem dX6_merge_68 : decode cX6_merge 68 = .ok (.aload_n 0, 1) := by decide +kernel
theorem dX6_merge_69 : decode cX6_merge 69 = .ok (.getfield 35, 3) := by decide +kernel
theorem dX6_merge_72 : decode cX6_merge 72 = .ok (.iload_n 2, 1) := by decide +kernel
theorem dX6_merge_73 : decode cX6_merge 73 = .ok (.iaload, 1) := by decide +kernel
theorem dX6_merge_74 : decode cX6_merge 74 = .ok (.istore 6, 2) := by decide +kernel
theorem dX6_merge_76 : decode cX6_merge 76 = .ok (.aload_n 0, 1) := by decide +kernel
theorem dX6_merge_77 : decode cX6_merge 77 = .ok (.iload 4, 2) := by decide +kernel
theorem dX6_merge_79 : decode cX6_merge 79 = .ok (.iload 5, 2) := by decide +kernel
theorem dX6_merge_81 : decode cX6_merge 81 = .ok (.iload 6, 2) := by decide +kernel
theorem dX6_merge_83 : decode cX6_merge 83 = .ok (.iload_n 3, 1) := by decide +kernel
theorem dX6_merge_84 : decode cX6_merge 84 = .ok (.iconst (-1), 1) := by decide +kernel
theorem dX6_merge_85 : decode cX6_merge 85 = .ok (.if_icmp .ne 7, 3) := by decide +kernel
theorem dX6_merge_88 : decode cX6_merge 88 = .ok (.iconst 0, 1) := by decide +kernel
theorem dX6_merge_89 : decode cX6_merge 89 = .ok (.goto 4, 3) := by decide +kernel
theorem dX6_merge_92 : decode cX6_merge 92 = .ok (.iload_n 3, 1) := by decide +kernel
theorem dX6_merge_93 : decode cX6_merge 93 = .ok (.invokevirtual 151, 3) := by decide +kernel
theorem dX6_merge_96 : decode cX6_merge 96 = .ok (.iconst 0, 1) := by decide +kernel
theorem dX6_merge_97 : decode cX6_merge 97 = .ok (.istore 7, 2) := by decide +kernel
theorem dX6_merge_99 : decode cX6_merge 99 = .ok (.iconst 0, 1) := by decide +kernel
theorem dX6_merge_100 : decode cX6_merge 100 = .ok (.istore 8, 2) := by decide +kernel
theorem dX6_merge_102 : decode cX6_merge 102 = .ok (.iload 8, 2) := by decide +kernel
theorem dX6_merge_104 : decode cX6_merge 104 = .ok (.aload_n 0, 1) := by decide +kernel
theorem dX6_merge_105 : decode cX6_merge 105 = .ok (.getfield 144, 3) := by decide +kernel
theorem dX6_merge_108 : decode cX6_merge 108 = .ok (.if_icmp .ge 72, 3) := by decide +kernel
theorem dX6_merge_111 : decode cX6_merge 111 = .ok (.iconst 0, 1) := by decide +kernel
theorem dX6_merge_112 : decode cX6_merge 112 = .ok (.istore 9, 2) := by decide +kernel
theorem dX6_merge_114 : decode cX6_merge 114 = .ok (.iload 9, 2) := by decide +kernel
theorem dX6_merge_116 : decode cX6_merge 116 = .ok (.aload_n 0, 1) := by decide +kernel
theorem dX6_merge_117 : decode cX6_merge 117 = .ok (.getfield 155, 3) := by decide +kernel
theorem dX6_merge_120 : decode cX6_merge 120 = .ok (.if_icmp .ge 54, 3) := by decide +kernel
theorem dX6_merge_123 : decode cX6_merge 123 = .ok (.iload 7, 2) := by decide +kernel
theorem dX6_merge_125 : decode cX6_merge 125 = .ok (.ifCond .ne 36, 3) := by decide +kernel
theorem dX6_merge_128 : decode cX6_merge 128 = .ok (.aload_n 0, 1) := by decide +kernel
theorem dX6_merge_129 : decode cX6_merge 129 = .ok (.iload 9, 2) := by decide +kernel
theorem dX6_merge_131 : decode cX6_merge 131 = .ok (.aload_n 0, 1) := by decide +kernel
theorem dX6_merge_132 : decode cX6_merge 132 = .ok (.getfield 62, 3) := by decide +kernel
theorem dX6_merge_135 : decode cX6_merge 135 = .ok (.iload 8, 2) := by decide +kernel
theorem dX6_merge_137 : decode cX6_merge 137 = .ok (.iaload, 1) := by decide +kernel
theorem dX6_merge_138 : decode cX6_merge 138 = .ok (.aload_n 0, 1) := by decide +kernel
theorem dX6_merge_139 : decode cX6_merge 139 = .ok (.getfield 65, 3) := by decide +kernel
theorem dX6_merge_142 : decode cX6_merge 142 = .ok (.iconst 4, 1) := by decide +kernel
theorem dX6_merge_143 : decode cX6_merge 143 = .ok (.iload 8, 2) := by decide +kernel
theorem dX6_merge_145 : decode cX6_merge 145 = .ok (.imul, 1) := by decide +kernel
theorem dX6_merge_146 : decode cX6_merge 146 = .ok (.aload_n 0, 1) := by decide +kernel
theorem dX6_merge_147 : decode cX6_merge 147 = .ok (.getfield 44, 3) := by decide +kernel
theorem dX6_merge_150 : decode cX6_merge 150 = .ok (.iload 9, 2) := by decide +kernel
theorem dX6_merge_152 : decode cX6_merge 152 = .ok (.iaload, 1) := by decide +kernel
theorem dX6_merge_153 : decode cX6_merge 153 = .ok (.iadd, 1) := by decide +kernel
theorem dX6_merge_154 : decode cX6_merge 154 = .ok (.iaload, 1) := by decide +kernel
theorem dX6_merge_155 : decode cX6_merge 155 = .ok (.invokevirtual 158, 3) := by decide +kernel
theorem dX6_merge_158 : decode cX6_merge 158 = .ok (.ifCond .eq 7, 3) := by decide +kernel
theorem dX6_merge_161 : decode cX6_merge 161 = .ok (.iconst 1, 1) := by decide +kernel
theorem dX6_merge_162 : decode cX6_merge 162 = .ok (.goto 4, 3) := by decide +kernel
theorem dX6_merge_165 : decode cX6_merge 165 = .ok (.iconst 0, 1) := by decide +kernel
theorem dX6_merge_166 : decode cX6_merge 166 = .ok (.istore 7, 2) := by decide +kernel
theorem dX6_merge_168 : decode cX6_merge 168 = .ok (.iinc 9 1, 3) := by decide +kernel
theorem dX6_merge_171 : decode cX6_merge 171 = .ok (.goto (-57), 3) := by decide +kernel
theorem dX6_merge_174 : decode cX6_merge 174 = .ok (.iinc 8 1, 3) := by decide +kernel
theorem dX6_merge_177 : decode cX6_merge 177 = .ok (.goto (-75), 3) := by decide +kernel
theorem dX6_merge_180 : decode cX6_merge 180 = .ok (.aload_n 0, 1) := by decide +kernel
theorem dX6_merge_181 : decode cX6_merge 181 = .ok (.iload_n 3, 1) := by decide +kernel
theorem dX6_merge_182 : decode cX6_merge 182 = .ok (.iconst (-1), 1) := by decide +kernel
theorem dX6_merge_183 : decode cX6_merge 183 = .ok (.if_icmp .ne 16, 3) := by decide +kernel
theorem dX6_merge_186 : decode cX6_merge 186 = .ok (.aload_n 0, 1) := by decide +kernel
theorem dX6_merge_187 : decode cX6_merge 187 = .ok (.iload 4, 2) := by decide +kernel
theorem dX6_merge_189 : decode cX6_merge 189 = .ok (.iload 5, 2) := by decide +kernel
theorem dX6_merge_191 : decode cX6_merge 191 = .ok (.iload 6, 2) := by decide +kernel
theorem dX6_merge_193 : decode cX6_merge 193 = .ok (.invokevirtual 137, 3) := by decide +kernel
theorem dX6_merge_196 : decode cX6_merge 196 = .ok (.ifCond .gt 26, 3) := by decide +kernel
theorem dX6_merge_199 : decode cX6_merge 199 = .ok (.aload_n 0, 1) := by decide +kernel
theorem dX6_merge_200 : decode cX6_merge 200 = .ok (.getfield 144, 3) := by decide +kernel
theorem dX6_merge_203 : decode cX6_merge 203 = .ok (.bipush 8, 2) := by decide +kernel
theorem dX6_merge_205 : decode cX6_merge 205 = .ok (.if_icmp .gt 17, 3) := by decide +kernel
theorem dX6_merge_208 : decode cX6_merge 208 = .ok (.iload 7, 2) := by decide +kernel
theorem dX6_merge_210 : decode cX6_merge 210 = .ok (.ifCond .ne 12, 3) := by decide +kernel
theorem dX6_merge_213 : decode cX6_merge 213 = .ok (.aload_n 0, 1) := by decide +kernel
theorem dX6_merge_214 : decode cX6_merge 214 = .ok (.getfield 7, 3) := by decide +kernel
theorem dX6_merge_217 : decode cX6_merge 217 = .ok (.bipush 40, 2) := by decide +kernel
theorem dX6_merge_219 : decode cX6_merge 219 = .ok (.if_icmp .ne 7, 3) := by decide +kernel
theorem dX6_merge_222 : decode cX6_merge 222 = .ok (.iconst 3, 1) := by decide +kernel
theorem dX6_merge_223 : decode cX6_merge 223 = .ok (.goto 4, 3) := by decide +kernel
theorem dX6_merge_226 : decode cX6_merge 226 = .ok (.iconst 0, 1) := by decide +kernel
theorem dX6_merge_227 : decode cX6_merge 227 = .ok (.putfield 78, 3) := by decide +kernel
theorem dX6_merge_230 : decode cX6_merge 230 = .ok (.aload_n 0, 1) := by decide +kernel
theorem dX6_merge_231 : decode cX6_merge 231 = .ok (.getfield 78, 3) := by decide +kernel
theorem dX6_merge_234 : decode cX6_merge 234 = .ok (.ifCond .le 5, 3) := by decide +kernel
theorem dX6_merge_237 : decode cX6_merge 237 = .ok (.iconst 0, 1) := by decide +kernel
theorem dX6_merge_238 : decode cX6_merge 238 = .ok (.ireturn, 1) := by decide +kernel
theorem dX6_merge_239 : decode cX6_merge 239 = .ok (.aload_n 0, 1) := by decide +kernel
theorem dX6_merge_240 : decode cX6_merge 240 = .ok (.iload_n 1, 1) := by decide +kernel
theorem dX6_merge_241 : decode cX6_merge 241 = .ok (.iconst (-1), 1) := by decide +kernel
theorem dX6_merge_242 : decode cX6_merge 242 = .ok (.invokevirtual 99, 3) := by decide +kernel
theorem dX6_merge_245 : decode cX6_merge 245 = .ok (.istore 8, 2) := by decide +kernel
theorem dX6_merge_247 : decode cX6_merge 247 = .ok (.aload_n 0, 1) := by decide +kernel
theorem dX6_merge_248 : decode cX6_merge 248 = .ok (.getfield 20, 3) := by decide +kernel
theorem dX6_merge_251 : decode cX6_merge 251 = .ok (.iload 8, 2) := by decide +kernel
theorem dX6_merge_253 : decode cX6_merge 253 = .ok (.iload 6, 2) := by decide +kernel
theorem dX6_merge_255 : decode cX6_merge 255 = .ok (.iastore, 1) := by decide +kernel
theorem dX6_merge_256 : decode cX6_merge 256 = .ok (.aload_n 0, 1) := by decide +kernel
theorem dX6_merge_257 : decode cX6_merge 257 = .ok (.getfield 23, 3) := by decide +kernel
theorem dX6_merge_260 : decode cX6_merge 260 = .ok (.iload 8, 2) := by decide +kernel
theorem dX6_merge_262 : decode cX6_merge 262 = .ok (.aload_n 0, 1) := by decide +kernel
theorem dX6_merge_263 : decode cX6_merge 263 = .ok (.getfield 144, 3) := by decide +kernel
theorem dX6_merge_266 : decode cX6_merge 266 = .ok (.iastore, 1) := by decide +kernel
theorem dX6_merge_267 : decode cX6_merge 267 = .ok (.iconst 0, 1) := by decide +kernel
theorem dX6_merge_268 : decode cX6_merge 268 = .ok (.istore 9, 2) := by decide +kernel
theorem dX6_merge_270 : decode cX6_merge 270 = .ok (.iload 9, 2) := by decide +kernel
theorem dX6_merge_272 : decode cX6_merge 272 = .ok (.aload_n 0, 1) := by decide +kernel
theorem dX6_merge_273 : decode cX6_merge 273 = .ok (.getfield 144, 3) := by decide +kernel
theorem dX6_merge_276 : decode cX6_merge 276 = .ok (.if_icmp .ge 74, 3) := by decide +kernel
theorem dX6_merge_279 : decode cX6_merge 279 = .ok (.aload_n 0, 1) := by decide +kernel
theorem dX6_merge_280 : decode cX6_merge 280 = .ok (.getfield 26, 3) := by decide +kernel
theorem dX6_merge_283 : decode cX6_merge 283 = .ok (.bipush 8, 2) := by decide +kernel
theorem dX6_merge_285 : decode cX6_merge 285 = .ok (.iload 8, 2) := by decide +kernel
theorem dX6_merge_287 : decode cX6_merge 287 = .ok (.imul, 1) := by decide +kernel
theorem dX6_merge_288 : decode cX6_merge 288 = .ok (.iload 9, 2) := by decide +kernel
theorem dX6_merge_290 : decode cX6_merge 290 = .ok (.iadd, 1) := by decide +kernel
theorem dX6_merge_291 : decode cX6_merge 291 = .ok (.aload_n 0, 1) := by decide +kernel
theorem dX6_merge_292 : decode cX6_merge 292 = .ok (.getfield 62, 3) := by decide +kernel
theorem dX6_merge_295 : decode cX6_merge 295 = .ok (.iload 9, 2) := by decide +kernel
theorem dX6_merge_297 : decode cX6_merge 297 = .ok (.iaload, 1) := by decide +kernel
theorem dX6_merge_298 : decode cX6_merge 298 = .ok (.iastore, 1) := by decide +kernel
theorem dX6_merge_299 : decode cX6_merge 299 = .ok (.iconst 0, 1) := by decide +kernel
theorem dX6_merge_300 : decode cX6_merge 300 = .ok (.istore 10, 2) := by decide +kernel
theorem dX6_merge_302 : decode cX6_merge 302 = .ok (.iload 10, 2) := by decide +kernel
theorem dX6_merge_304 : decode cX6_merge 304 = .ok (.iconst 4, 1) := by decide +kernel
theorem dX6_merge_305 : decode cX6_merge 305 = .ok (.if_icmp .ge 39, 3) := by decide +kernel
theorem dX6_merge_308 : decode cX6_merge 308 = .ok (.aload_n 0, 1) := by decide +kernel
theorem dX6_merge_309 : decode cX6_merge 309 = .ok (.getfield 29, 3) := by decide +kernel
theorem dX6_merge_312 : decode cX6_merge 312 = .ok (.iconst 4, 1) := by decide +kernel
theorem dX6_merge_313 : decode cX6_merge 313 = .ok (.bipush 8, 2) := by decide +kernel
theorem dX6_merge_315 : decode cX6_merge 315 = .ok (.iload 8, 2) := by decide +kernel
theorem dX6_merge_317 : decode cX6_merge 317 = .ok (.imul, 1) := by decide +kernel
theorem dX6_merge_318 : decode cX6_merge 318 = .ok (.iload 9, 2) := by decide +kernel
theorem dX6_merge_320 : decode cX6_merge 320 = .ok (.iadd, 1) := by decide +kernel
theorem dX6_merge_321 : decode cX6_merge 321 = .ok (.imul, 1) := by decide +kernel
theorem dX6_merge_322 : decode cX6_merge 322 = .ok (.iload 10, 2) := by decide +kernel
theorem dX6_merge_324 : decode cX6_merge 324 = .ok (.iadd, 1) := by decide +kernel
theorem dX6_merge_325 : decode cX6_merge 325 = .ok (.aload_n 0, 1) := by decide +kernel
theorem dX6_merge_326 : decode cX6_merge 326 = .ok (.getfield 65, 3) := by decide +kernel
theorem dX6_merge_329 : decode cX6_merge 329 = .ok (.iconst 4, 1) := by decide +kernel
theorem dX6_merge_330 : decode cX6_merge 330 = .ok (.iload 9, 2) := by decide +kernel
theorem dX6_merge_332 : decode cX6_merge 332 = .ok (.imul, 1) := by decide +kernel
theorem dX6_merge_333 : decode cX6_merge 333 = .ok (.iload 10, 2) := by decide +kernel
theorem dX6_merge_335 : decode cX6_merge 335 = .ok (.iadd, 1) := by decide +kernel
theorem dX6_merge_336 : decode cX6_merge 336 = .ok (.iaload, 1) := by decide +kernel
theorem dX6_merge_337 : decode cX6_merge 337 = .ok (.iastore, 1) := by decide +kernel
theorem dX6_merge_338 : decode cX6_merge 338 = .ok (.iinc 10 1, 3) := by decide +kernel
theorem dX6_merge_341 : decode cX6_merge 341 = .ok (.goto (-39), 3) := by decide +kernel
theorem dX6_merge_344 : decode cX6_merge 344 = .ok (.iinc 9 1, 3) := by decide +kernel
theorem dX6_merge_347 : decode cX6_merge 347 = .ok (.goto (-77), 3) := by decide +kernel
theorem dX6_merge_350 : decode cX6_merge 350 = .ok (.iload 8, 2) := by decide +kernel
theorem dX6_merge_352 : decode cX6_merge 352 = .ok (.ireturn, 1) := by decide +kernel
set_option maxRecDepth 20000 in
theorem ggX6_breaks_X6_in : GoodIn wsX6_breaks wsX6_in := goodIn_r _ [6] (by decide +kernel) (by decide +kernel)
set_option maxRecDepth 20000 in
theorem gX6_breaks_X6_in : GoodIn wsX6_breaks (va_wsS RX6 81 yX6_in wsX6_in) := goodIn_app (goodIn_of _ (by decide +kernel)) ggX6_breaks_X6_in
theorem dX6_breaks_0 : decode cX6_breaks 0 = .ok (.iload_n 2, 1) := by decide +kernel
theorem dX6_breaks_1 : decode cX6_breaks 1 = .ok (.ifCond .eq 26, 3) := by decide +kernel
theorem dX6_breaks_4 : decode cX6_breaks 4 = .ok (.iload_n 2, 1) := by decide +kernel
theorem dX6_breaks_5 : decode cX6_breaks 5 = .ok (.aload_n 0, 1) := by decide +kernel
theorem dX6_breaks_6 : decode cX6_breaks 6 = .ok (.getfield 47, 3) := by decide +kernel
theorem dX6_breaks_9 : decode cX6_breaks 9 = .ok (.iload_n 1, 1) := by decide +kernel
theorem dX6_breaks_10 : decode cX6_breaks 10 = .ok (.iaload, 1) := by decide +kernel
theorem dX6_breaks_11 : decode cX6_breaks 11 = .ok (.aload_n 0, 1) := by decide +kernel
theorem dX6_breaks_12 : decode cX6_breaks 12 = .ok (.getfield 50, 3) := by decide +kernel
theorem dX6_breaks_15 : decode cX6_breaks 15 = .ok (.iload_n 1, 1) := by decide +kernel
theorem dX6_breaks_16 : decode cX6_breaks 16 = .ok (.iaload, 1) := by decide +kernel
theorem dX6_breaks_17 : decode cX6_breaks 17 = .ok (.invokestatic 81, 3) := by decide +kernel
theorem dX6_breaks_20 : decode cX6_breaks 20 = .ok (.ifCond .ne 7, 3) := by decide +kernel
theorem dX6_breaks_23 : decode cX6_breaks 23 = .ok (.iconst 1, 1) := by decide +kernel
theorem dX6_breaks_24 : decode cX6_breaks 24 = .ok (.goto 4, 3) := by decide +kernel
theorem dX6_breaks_27 : decode cX6_breaks 27 = .ok (.iconst 0, 1) := by decide +kernel
theorem dX6_breaks_28 : decode cX6_breaks 28 = .ok (.ireturn, 1) := by decide +kernel
theorem dX6_isWaived_0 : decode cX6_isWaived 0 = .ok (.iconst 0, 1) := by decide +kernel
theorem dX6_isWaived_1 : decode cX6_isWaived 1 = .ok (.istore_n 3, 1) := by decide +kernel
theorem dX6_isWaived_2 : decode cX6_isWaived 2 = .ok (.iconst 0, 1) := by decide +kernel
theorem dX6_isWaived_3 : decode cX6_isWaived 3 = .ok (.istore 4, 2) := by decide +kernel
theorem dX6_isWaived_5 : decode cX6_isWaived 5 = .ok (.iload 4, 2) := by decide +kernel
theorem dX6_isWaived_7 : decode cX6_isWaived 7 = .ok (.aload_n 0, 1) := by decide +kernel
theorem dX6_isWaived_8 : decode cX6_isWaived 8 = .ok (.getfield 161, 3) := by decide +kernel
theorem dX6_isWaived_11 : decode cX6_isWaived 11 = .ok (.if_icmp .ge 55, 3) := by decide +kernel
theorem dX6_isWaived_14 : decode cX6_isWaived 14 = .ok (.iload_n 3, 1) := by decide +kernel
theorem dX6_isWaived_15 : decode cX6_isWaived 15 = .ok (.ifCond .ne 39, 3) := by decide +kernel
theorem dX6_isWaived_18 : decode cX6_isWaived 18 = .ok (.aload_n 0, 1) := by decide +kernel
theorem dX6_isWaived_19 : decode cX6_isWaived 19 = .ok (.getfield 53, 3) := by decide +kernel
theorem dX6_isWaived_22 : decode cX6_isWaived 22 = .ok (.iload 4, 2) := by decide +kernel
theorem dX6_isWaived_24 : decode cX6_isWaived 24 = .ok (.iaload, 1) := by decide +kernel
theorem dX6_isWaived_25 : decode cX6_isWaived 25 = .ok (.iload_n 1, 1) := by decide +kernel
theorem dX6_isWaived_26 : decode cX6_isWaived 26 = .ok (.if_icmp .ne 32, 3) := by decide +kernel
theorem dX6_isWaived_29 : decode cX6_isWaived 29 = .ok (.aload_n 0, 1) := by decide +kernel
theorem dX6_isWaived_30 : decode cX6_isWaived 30 = .ok (.getfield 56, 3) := by decide +kernel
theorem dX6_isWaived_33 : decode cX6_isWaived 33 = .ok (.iload 4, 2) := by decide +kernel
theorem dX6_isWaived_35 : decode cX6_isWaived 35 = .ok (.iaload, 1) := by decide +kernel
theorem dX6_isWaived_36 : decode cX6_isWaived 36 = .ok (.iload_n 2, 1) := by decide +kernel
theorem dX6_isWaived_37 : decode cX6_isWaived 37 = .ok (.if_icmp .ne 21, 3) := by decide +kernel
theorem dX6_isWaived_40 : decode cX6_isWaived 40 = .ok (.aload_n 0, 1) := by decide +kernel
theorem dX6_isWaived_41 : decode cX6_isWaived 41 = .ok (.getfield 59, 3) := by decide +kernel
theorem dX6_isWaived_44 : decode cX6_isWaived 44 = .ok (.iload 4, 2) := by decide +kernel
theorem dX6_isWaived_46 : decode cX6_isWaived 46 = .ok (.iaload, 1) := by decide +kernel
theorem dX6_isWaived_47 : decode cX6_isWaived 47 = .ok (.aload_n 0, 1) := by decide +kernel
theorem dX6_isWaived_48 : decode cX6_isWaived 48 = .ok (.getfield 164, 3) := by decide +kernel
theorem dX6_isWaived_51 : decode cX6_isWaived 51 = .ok (.if_icmp .lt 7, 3) := by decide +kernel
theorem dX6_isWaived_54 : decode cX6_isWaived 54 = .ok (.iconst 1, 1) := by decide +kernel
theorem dX6_isWaived_55 : decode cX6_isWaived 55 = .ok (.goto 4, 3) := by decide +kernel
theorem dX6_isWaived_58 : decode cX6_isWaived 58 = .ok (.iconst 0, 1) := by decide +kernel
theorem dX6_isWaived_59 : decode cX6_isWaived 59 = .ok (.istore_n 3, 1) := by decide +kernel
theorem dX6_isWaived_60 : decode cX6_isWaived 60 = .ok (.iinc 4 1, 3) := by decide +kernel
theorem dX6_isWaived_63 : decode cX6_isWaived 63 = .ok (.goto (-58), 3) := by decide +kernel
theorem dX6_isWaived_66 : decode cX6_isWaived 66 = .ok (.iload_n 3, 1) := by decide +kernel
theorem dX6_isWaived_67 : decode cX6_isWaived 67 = .ok (.ireturn, 1) := by decide +kernel
set_option maxRecDepth 20000 in
theorem ggX6_isBlocked_X6_breaks : GoodIn wsX6_isBlocked wsX6_breaks := goodIn_r _ [6, 7, 8, 9, 10, 5, 11, 21, 22, 23, 24, 25, 26, 27, 28, 29, 30, 31, 32, 33, 34, 35, 36, 37, 38, 39, 40, 41, 42, 43, 44, 45, 46, 47, 48] (by decide +kernel) (by decide +kernel)
set_option maxRecDepth 20000 in
theorem gX6_isBlocked_X6_breaks : GoodIn wsX6_isBlocked (wsV RX6 167 RX6 yX6_breaks wsX6_breaks) := goodIn_app (goodIn_of _ (by decide +kernel)) ggX6_isBlocked_X6_breaks
set_option maxRecDepth 20000 in
theorem ggX6_isBlocked_X6_isWaived : GoodIn wsX6_isBlocked wsX6_isWaived := goodIn_r _ [15, 16, 17, 18, 19, 20, 21, 22, 23, 24, 25, 26, 27, 28, 29, 30, 31, 32, 33, 34, 35, 36, 37, 38, 39, 40, 41, 42, 43, 44, 45, 46, 47, 48] (by decide +kernel) (by decide +kernel)
set_option maxRecDepth 20000 in
theorem gX6_isBlocked_X6_isWaived : GoodIn wsX6_isBlocked (wsV RX6 170 RX6 yX6_isWaived wsX6_isWaived) := goodIn_app (goodIn_of _ (by decide +kernel)) ggX6_isBlocked_X6_isWaived
theorem dX6_isBlocked_0 : decode cX6_isBlocked 0 = .ok (.aload_n 0, 1) := by decide +kernel
theorem dX6_isBlocked_1 : decode cX6_isBlocked 1 = .ok (.iload_n 1, 1) := by decide +kernel
theorem dX6_isBlocked_2 : decode cX6_isBlocked 2 = .ok (.iload_n 3, 1) := by decide +kernel
theorem dX6_isBlocked_3 : decode cX6_isBlocked 3 = .ok (.invokevirtual 167, 3) := by decide +kernel
theorem dX6_isBlocked_6 : decode cX6_isBlocked 6 = .ok (.ifCond .eq 35, 3) := by decide +kernel
theorem dX6_isBlocked_9 : decode cX6_isBlocked 9 = .ok (.aload_n 0, 1) := by decide +kernel
theorem dX6_isBlocked_10 : decode cX6_isBlocked 10 = .ok (.getfield 41, 3) := by decide +kernel
theorem dX6_isBlocked_13 : decode cX6_isBlocked 13 = .ok (.iload_n 1, 1) := by decide +kernel
theorem dX6_isBlocked_14 : decode cX6_isBlocked 14 = .ok (.iaload, 1) := by decide +kernel
theorem dX6_isBlocked_15 : decode cX6_isBlocked 15 = .ok (.ifCond .eq 22, 3) := by decide +kernel
theorem dX6_isBlocked_18 : decode cX6_isBlocked 18 = .ok (.aload_n 0, 1) := by decide +kernel
theorem dX6_isBlocked_19 : decode cX6_isBlocked 19 = .ok (.getfield 41, 3) := by decide +kernel
theorem dX6_isBlocked_22 : decode cX6_isBlocked 22 = .ok (.iload_n 1, 1) := by decide +kernel
theorem dX6_isBlocked_23 : decode cX6_isBlocked 23 = .ok (.iaload, 1) := by decide +kernel
theorem dX6_isBlocked_24 : decode cX6_isBlocked 24 = .ok (.iconst 1, 1) := by decide +kernel
theorem dX6_isBlocked_25 : decode cX6_isBlocked 25 = .ok (.if_icmp .ne 16, 3) := by decide +kernel
theorem dX6_isBlocked_28 : decode cX6_isBlocked 28 = .ok (.aload_n 0, 1) := by decide +kernel
theorem dX6_isBlocked_29 : decode cX6_isBlocked 29 = .ok (.iload_n 1, 1) := by decide +kernel
theorem dX6_isBlocked_30 : decode cX6_isBlocked 30 = .ok (.iload_n 2, 1) := by decide +kernel
theorem dX6_isBlocked_31 : decode cX6_isBlocked 31 = .ok (.invokevirtual 170, 3) := by decide +kernel
theorem dX6_isBlocked_34 : decode cX6_isBlocked 34 = .ok (.ifCond .ne 7, 3) := by decide +kernel
theorem dX6_isBlocked_37 : decode cX6_isBlocked 37 = .ok (.iconst 1, 1) := by decide +kernel
theorem dX6_isBlocked_38 : decode cX6_isBlocked 38 = .ok (.goto 4, 3) := by decide +kernel
theorem dX6_isBlocked_41 : decode cX6_isBlocked 41 = .ok (.iconst 0, 1) := by decide +kernel
theorem dX6_isBlocked_42 : decode cX6_isBlocked 42 = .ok (.ireturn, 1) := by decide +kernel
set_option maxRecDepth 20000 in
theorem ggX6_blocksOf_X6_isBlocked : GoodIn wsX6_blocksOf wsX6_isBlocked := goodIn_r _ [10, 11, 12, 13, 14, 9, 15, 16, 17, 18, 19, 20, 21, 22, 23, 24, 25, 26, 27, 28, 29, 30, 31, 32, 33, 34, 35, 36, 37, 38, 39, 40, 41, 42, 43, 44, 45, 46, 47, 48, 49, 50, 51, 52, 53, 54, 55, 56, 57] (by decide +kernel) (by decide +kernel)
set_option maxRecDepth 20000 in
theorem gX6_blocksOf_X6_isBlocked : GoodIn wsX6_blocksOf (wsV RX6 158 RX6 yX6_isBlocked wsX6_isBlocked) := goodIn_app (goodIn_of _ (by decide +kernel)) ggX6_blocksOf_X6_isBlocked
theorem dX6_blocksOf_0 : decode cX6_blocksOf 0 = .ok (.iconst 0, 1) := by decide +kernel
theorem dX6_blocksOf_1 : decode cX6_blocksOf 1 = .ok (.istore_n 2, 1) := by decide +kernel
theorem dX6_blocksOf_2 : decode cX6_blocksOf 2 = .ok (.iconst 0, 1) := by decide +kernel
theorem dX6_blocksOf_3 : decode cX6_blocksOf 3 = .ok (.istore_n 3, 1) := by decide +kernel
theorem dX6_blocksOf_4 : decode cX6_blocksOf 4 = .ok (.iload_n 3, 1) := by decide +kernel
theorem dX6_blocksOf_5 : decode cX6_blocksOf 5 = .ok (.aload_n 0, 1) := by decide +kernel
theorem dX6_blocksOf_6 : decode cX6_blocksOf 6 = .ok (.getfield 23, 3) := by decide +kernel
theorem dX6_blocksOf_9 : decode cX6_blocksOf 9 = .ok (.iload_n 1, 1) := by decide +kernel
theorem dX6_blocksOf_10 : decode cX6_blocksOf 10 = .ok (.iaload, 1) := by decide +kernel
theorem dX6_blocksOf_11 : decode cX6_blocksOf 11 = .ok (.if_icmp .ge 76, 3) := by decide +kernel
theorem dX6_blocksOf_14 : decode cX6_blocksOf 14 = .ok (.iconst 0, 1) := by decide +kernel
theorem dX6_blocksOf_15 : decode cX6_blocksOf 15 = .ok (.istore 4, 2) := by decide +kernel
theorem dX6_blocksOf_17 : decode cX6_blocksOf 17 = .ok (.iload 4, 2) := by decide +kernel
theorem dX6_blocksOf_19 : decode cX6_blocksOf 19 = .ok (.aload_n 0, 1) := by decide +kernel
theorem dX6_blocksOf_20 : decode cX6_blocksOf 20 = .ok (.getfield 155, 3) := by decide +kernel
theorem dX6_blocksOf_23 : decode cX6_blocksOf 23 = .ok (.if_icmp .ge 58, 3) := by decide +kernel
theorem dX6_blocksOf_26 : decode cX6_blocksOf 26 = .ok (.iload_n 2, 1) := by decide +kernel
theorem dX6_blocksOf_27 : decode cX6_blocksOf 27 = .ok (.aload_n 0, 1) := by decide +kernel
theorem dX6_blocksOf_28 : decode cX6_blocksOf 28 = .ok (.iload 4, 2) := by decide +kernel
theorem dX6_blocksOf_30 : decode cX6_blocksOf 30 = .ok (.aload_n 0, 1) := by decide +kernel
theorem dX6_blocksOf_31 : decode cX6_blocksOf 31 = .ok (.getfield 26, 3) := by decide +kernel
theorem dX6_blocksOf_34 : decode cX6_blocksOf 34 = .ok (.bipush 8, 2) := by decide +kernel
theorem dX6_blocksOf_36 : decode cX6_blocksOf 36 = .ok (.iload_n 1, 1) := by decide +kernel
theorem dX6_blocksOf_37 : decode cX6_blocksOf 37 = .ok (.imul, 1) := by decide +kernel
theorem dX6_blocksOf_38 : decode cX6_blocksOf 38 = .ok (.iload_n 3, 1) := by decide +kernel
theorem dX6_blocksOf_39 : decode cX6_blocksOf 39 = .ok (.iadd, 1) := by decide +kernel
theorem dX6_blocksOf_40 : decode cX6_blocksOf 40 = .ok (.iaload, 1) := by decide +kernel
theorem dX6_blocksOf_41 : decode cX6_blocksOf 41 = .ok (.aload_n 0, 1) := by decide +kernel
theorem dX6_blocksOf_42 : decode cX6_blocksOf 42 = .ok (.getfield 29, 3) := by decide +kernel
theorem dX6_blocksOf_45 : decode cX6_blocksOf 45 = .ok (.iconst 4, 1) := by decide +kernel
theorem dX6_blocksOf_46 : decode cX6_blocksOf 46 = .ok (.bipush 8, 2) := by decide +kernel
theorem dX6_blocksOf_48 : decode cX6_blocksOf 48 = .ok (.iload_n 1, 1) := by decide +kernel
theorem dX6_blocksOf_49 : decode cX6_blocksOf 49 = .ok (.imul, 1) := by decide +kernel
theorem dX6_blocksOf_50 : decode cX6_blocksOf 50 = .ok (.iload_n 3, 1) := by decide +kernel
theorem dX6_blocksOf_51 : decode cX6_blocksOf 51 = .ok (.iadd, 1) := by decide +kernel
theorem dX6_blocksOf_52 : decode cX6_blocksOf 52 = .ok (.imul, 1) := by decide +kernel
theorem dX6_blocksOf_53 : decode cX6_blocksOf 53 = .ok (.aload_n 0, 1) := by decide +kernel
theorem dX6_blocksOf_54 : decode cX6_blocksOf 54 = .ok (.getfield 44, 3) := by decide +kernel
theorem dX6_blocksOf_57 : decode cX6_blocksOf 57 = .ok (.iload 4, 2) := by decide +kernel
theorem dX6_blocksOf_59 : decode cX6_blocksOf 59 = .ok (.iaload, 1) := by decide +kernel
theorem dX6_blocksOf_60 : decode cX6_blocksOf 60 = .ok (.iadd, 1) := by decide +kernel
theorem dX6_blocksOf_61 : decode cX6_blocksOf 61 = .ok (.iaload, 1) := by decide +kernel
theorem dX6_blocksOf_62 : decode cX6_blocksOf 62 = .ok (.invokevirtual 158, 3) := by decide +kernel
theorem dX6_blocksOf_65 : decode cX6_blocksOf 65 = .ok (.ifCond .eq 7, 3) := by decide +kernel
theorem dX6_blocksOf_68 : decode cX6_blocksOf 68 = .ok (.iconst 1, 1) := by decide +kernel
theorem dX6_blocksOf_69 : decode cX6_blocksOf 69 = .ok (.goto 4, 3) := by decide +kernel
theorem dX6_blocksOf_72 : decode cX6_blocksOf 72 = .ok (.iconst 0, 1) := by decide +kernel
theorem dX6_blocksOf_73 : decode cX6_blocksOf 73 = .ok (.iadd, 1) := by decide +kernel
theorem dX6_blocksOf_74 : decode cX6_blocksOf 74 = .ok (.istore_n 2, 1) := by decide +kernel
theorem dX6_blocksOf_75 : decode cX6_blocksOf 75 = .ok (.iinc 4 1, 3) := by decide +kernel
theorem dX6_blocksOf_78 : decode cX6_blocksOf 78 = .ok (.goto (-61), 3) := by decide +kernel
theorem dX6_blocksOf_81 : decode cX6_blocksOf 81 = .ok (.iinc 3 1, 3) := by decide +kernel
theorem dX6_blocksOf_84 : decode cX6_blocksOf 84 = .ok (.goto (-80), 3) := by decide +kernel
theorem dX6_blocksOf_87 : decode cX6_blocksOf 87 = .ok (.iload_n 2, 1) := by decide +kernel
theorem dX6_blocksOf_88 : decode cX6_blocksOf 88 = .ok (.ireturn, 1) := by decide +kernel
set_option maxRecDepth 20000 in
theorem ggX6_rule_X6_in : GoodIn wsX6_rule wsX6_in := goodIn_r _ [10] (by decide +kernel) (by decide +kernel)
set_option maxRecDepth 20000 in
theorem gX6_rule_X6_in : GoodIn wsX6_rule (va_wsS RX6 81 yX6_in wsX6_in) := goodIn_app (goodIn_of _ (by decide +kernel)) ggX6_rule_X6_in
set_option maxRecDepth 20000 in
theorem ggX6_rule_X6_isObject : GoodIn wsX6_rule wsX6_isObject := goodIn_r _ [13, 7, 8, 9, 10] (by decide +kernel) (by decide +kernel)
set_option maxRecDepth 20000 in
theorem gX6_rule_X6_isObject : GoodIn wsX6_rule (va_wsS RX6 106 yX6_isObject wsX6_isObject) := goodIn_app (goodIn_of _ (by decide +kernel)) ggX6_rule_X6_isObject
theorem dX6_rule_0 : decode cX6_rule 0 = .ok (.aload_n 0, 1) := by decide +kernel
theorem dX6_rule_1 : decode cX6_rule 1 = .ok (.iload_n 1, 1) := by decide +kernel
theorem dX6_rule_2 : decode cX6_rule 2 = .ok (.iconst 0, 1) := by decide +kernel
theorem dX6_rule_3 : decode cX6_rule 3 = .ok (.iconst 2, 1) := by decide +kernel
theorem dX6_rule_4 : decode cX6_rule 4 = .ok (.invokestatic 81, 3) := by decide +kernel
theorem dX6_rule_7 : decode cX6_rule 7 = .ok (.ifCond .eq 10, 3) := by decide +kernel
theorem dX6_rule_10 : decode cX6_rule 10 = .ok (.iload_n 2, 1) := by decide +kernel
theorem dX6_rule_11 : decode cX6_rule 11 = .ok (.invokestatic 106, 3) := by decide +kernel
theorem dX6_rule_14 : decode cX6_rule 14 = .ok (.ifCond .ne 7, 3) := by decide +kernel
theorem dX6_rule_17 : decode cX6_rule 17 = .ok (.iconst 1, 1) := by decide +kernel
theorem dX6_rule_18 : decode cX6_rule 18 = .ok (.goto 44, 3) := by decide +kernel
theorem dX6_rule_21 : decode cX6_rule 21 = .ok (.iload_n 3, 1) := by decide +kernel
theorem dX6_rule_22 : decode cX6_rule 22 = .ok (.iconst 1, 1) := by decide +kernel
theorem dX6_rule_23 : decode cX6_rule 23 = .ok (.sipush 999, 3) := by decide +kernel
theorem dX6_rule_26 : decode cX6_rule 26 = .ok (.invokestatic 81, 3) := by decide +kernel
theorem dX6_rule_29 : decode cX6_rule 29 = .ok (.ifCond .eq 15, 3) := by decide +kernel
theorem dX6_rule_32 : decode cX6_rule 32 = .ok (.iload 4, 2) := by decide +kernel
theorem dX6_rule_34 : decode cX6_rule 34 = .ok (.iload_n 3, 1) := by decide +kernel
theorem dX6_rule_35 : decode cX6_rule 35 = .ok (.sipush 999, 3) := by decide +kernel
theorem dX6_rule_38 : decode cX6_rule 38 = .ok (.invokestatic 81, 3) := by decide +kernel
theorem dX6_rule_41 : decode cX6_rule 41 = .ok (.ifCond .ne 7, 3) := by decide +kernel
theorem dX6_rule_44 : decode cX6_rule 44 = .ok (.iconst 2, 1) := by decide +kernel
theorem dX6_rule_45 : decode cX6_rule 45 = .ok (.goto 17, 3) := by decide +kernel
theorem dX6_rule_48 : decode cX6_rule 48 = .ok (.aload_n 0, 1) := by decide +kernel
theorem dX6_rule_49 : decode cX6_rule 49 = .ok (.getfield 155, 3) := by decide +kernel
theorem dX6_rule_52 : decode cX6_rule 52 = .ok (.bipush 8, 2) := by decide +kernel
theorem dX6_rule_54 : decode cX6_rule 54 = .ok (.if_icmp .ne 7, 3) := by decide +kernel
theorem dX6_rule_57 : decode cX6_rule 57 = .ok (.iconst 3, 1) := by decide +kernel
theorem dX6_rule_58 : decode cX6_rule 58 = .ok (.goto 4, 3) := by decide +kernel
theorem dX6_rule_61 : decode cX6_rule 61 = .ok (.iconst 0, 1) := by decide +kernel
theorem dX6_rule_62 : decode cX6_rule 62 = .ok (.putfield 78, 3) := by decide +kernel
theorem dX6_rule_65 : decode cX6_rule 65 = .ok (.aload_n 0, 1) := by decide +kernel
theorem dX6_rule_66 : decode cX6_rule 66 = .ok (.getfield 78, 3) := by decide +kernel
theorem dX6_rule_69 : decode cX6_rule 69 = .ok (.ifCond .le 5, 3) := by decide +kernel
theorem dX6_rule_72 : decode cX6_rule 72 = .ok (.iconst 0, 1) := by decide +kernel
theorem dX6_rule_73 : decode cX6_rule 73 = .ok (.ireturn, 1) := by decide +kernel
theorem dX6_rule_74 : decode cX6_rule 74 = .ok (.aload_n 0, 1) := by decide +kernel
theorem dX6_rule_75 : decode cX6_rule 75 = .ok (.getfield 41, 3) := by decide +kernel
theorem dX6_rule_78 : decode cX6_rule 78 = .ok (.aload_n 0, 1) := by decide +kernel
theorem dX6_rule_79 : decode cX6_rule 79 = .ok (.getfield 155, 3) := by decide +kernel
theorem dX6_rule_82 : decode cX6_rule 82 = .ok (.iload_n 1, 1) := by decide +kernel
theorem dX6_rule_83 : decode cX6_rule 83 = .ok (.iastore, 1) := by decide +kernel
theorem dX6_rule_84 : decode cX6_rule 84 = .ok (.aload_n 0, 1) := by decide +kernel
theorem dX6_rule_85 : decode cX6_rule 85 = .ok (.getfield 44, 3) := by decide +kernel
theorem dX6_rule_88 : decode cX6_rule 88 = .ok (.aload_n 0, 1) := by decide +kernel
theorem dX6_rule_89 : decode cX6_rule 89 = .ok (.getfield 155, 3) := by decide +kernel
theorem dX6_rule_92 : decode cX6_rule 92 = .ok (.iload_n 2, 1) := by decide +kernel
theorem dX6_rule_93 : decode cX6_rule 93 = .ok (.iastore, 1) := by decide +kernel
theorem dX6_rule_94 : decode cX6_rule 94 = .ok (.aload_n 0, 1) := by decide +kernel
theorem dX6_rule_95 : decode cX6_rule 95 = .ok (.getfield 47, 3) := by decide +kernel
theorem dX6_rule_98 : decode cX6_rule 98 = .ok (.aload_n 0, 1) := by decide +kernel
theorem dX6_rule_99 : decode cX6_rule 99 = .ok (.getfield 155, 3) := by decide +kernel
theorem dX6_rule_102 : decode cX6_rule 102 = .ok (.iload_n 3, 1) := by decide +kernel
theorem dX6_rule_103 : decode cX6_rule 103 = .ok (.iastore, 1) := by decide +kernel
theorem dX6_rule_104 : decode cX6_rule 104 = .ok (.aload_n 0, 1) := by decide +kernel
theorem dX6_rule_105 : decode cX6_rule 105 = .ok (.getfield 50, 3) := by decide +kernel
theorem dX6_rule_108 : decode cX6_rule 108 = .ok (.aload_n 0, 1) := by decide +kernel
theorem dX6_rule_109 : decode cX6_rule 109 = .ok (.getfield 155, 3) := by decide +kernel
theorem dX6_rule_112 : decode cX6_rule 112 = .ok (.iload 4, 2) := by decide +kernel
theorem dX6_rule_114 : decode cX6_rule 114 = .ok (.iastore, 1) := by decide +kernel
theorem dX6_rule_115 : decode cX6_rule 115 = .ok (.aload_n 0, 1) := by decide +kernel
theorem dX6_rule_116 : decode cX6_rule 116 = .ok (.dup, 1) := by decide +kernel
theorem dX6_rule_117 : decode cX6_rule 117 = .ok (.getfield 155, 3) := by decide +kernel
theorem dX6_rule_120 : decode cX6_rule 120 = .ok (.iconst 1, 1) := by decide +kernel
theorem dX6_rule_121 : decode cX6_rule 121 = .ok (.iadd, 1) := by decide +kernel
theorem dX6_rule_122 : decode cX6_rule 122 = .ok (.putfield 155, 3) := by decide +kernel
theorem dX6_rule_125 : decode cX6_rule 125 = .ok (.aload_n 0, 1) := by decide +kernel
theorem dX6_rule_126 : decode cX6_rule 126 = .ok (.getfield 155, 3) := by decide +kernel
theorem dX6_rule_129 : decode cX6_rule 129 = .ok (.iconst 1, 1) := by decide +kernel
theorem dX6_rule_130 : decode cX6_rule 130 = .ok (.isub, 1) := by decide +kernel
theorem dX6_rule_131 : decode cX6_rule 131 = .ok (.ireturn, 1) := by decide +kernel
set_option maxRecDepth 20000 in
theorem ggX6_tighten_X6_in : GoodIn wsX6_tighten wsX6_in := goodIn_r _ [10] (by decide +kernel) (by decide +kernel)
set_option maxRecDepth 20000 in
theorem gX6_tighten_X6_in : GoodIn wsX6_tighten (va_wsS RX6 81 yX6_in wsX6_in) := goodIn_app (goodIn_of _ (by decide +kernel)) ggX6_tighten_X6_in
set_option maxRecDepth 20000 in
theorem ggX6_tighten_X6_blocksOf : GoodIn wsX6_tighten wsX6_blocksOf := goodIn_r _ [14, 15, 1, 16, 17, 18, 19, 20, 21, 9, 22, 23, 24, 25, 26, 27, 3, 4, 7, 8, 10, 28, 29, 30, 31, 32, 33, 34, 35, 36, 37, 38, 39, 40, 41, 42, 43, 44, 45, 46, 47, 48, 49, 50, 51, 52, 53, 54, 55, 56, 57, 58, 59, 60, 61, 62, 63, 64] (by decide +kernel) (by decide +kernel)
set_option maxRecDepth 20000 in
theorem gX6_tighten_X6_blocksOf : GoodIn wsX6_tighten (wsV RX6 173 RX6 yX6_blocksOf wsX6_blocksOf) := goodIn_app (goodIn_of _ (by decide +kernel)) ggX6_tighten_X6_blocksOf
theorem dX6_tighten_0 : decode cX6_tighten 0 = .ok (.iload_n 1, 1) := by decide +kernel
theorem dX6_tighten_1 : decode cX6_tighten 1 = .ok (.iconst 0, 1) := by decide +kernel
theorem dX6_tighten_2 : decode cX6_tighten 2 = .ok (.aload_n 0, 1) := by decide +kernel
theorem dX6_tighten_3 : decode cX6_tighten 3 = .ok (.getfield 155, 3) := by decide +kernel
theorem dX6_tighten_6 : decode cX6_tighten 6 = .ok (.iconst 1, 1) := by decide +kernel
theorem dX6_tighten_7 : decode cX6_tighten 7 = .ok (.isub, 1) := by decide +kernel
theorem dX6_tighten_8 : decode cX6_tighten 8 = .ok (.invokestatic 81, 3) := by decide +kernel
theorem dX6_tighten_11 : decode cX6_tighten 11 = .ok (.ifCond .ne 10, 3) := by decide +kernel
theorem dX6_tighten_14 : decode cX6_tighten 14 = .ok (.aload_n 0, 1) := by decide +kernel
theorem dX6_tighten_15 : decode cX6_tighten 15 = .ok (.iconst 1, 1) := by decide +kernel
theorem dX6_tighten_16 : decode cX6_tighten 16 = .ok (.putfield 78, 3) := by decide +kernel
theorem dX6_tighten_19 : decode cX6_tighten 19 = .ok (.iconst 0, 1) := by decide +kernel
theorem dX6_tighten_20 : decode cX6_tighten 20 = .ok (.ireturn, 1) := by decide +kernel
theorem dX6_tighten_21 : decode cX6_tighten 21 = .ok (.aload_n 0, 1) := by decide +kernel
theorem dX6_tighten_22 : decode cX6_tighten 22 = .ok (.iload_n 2, 1) := by decide +kernel
theorem dX6_tighten_23 : decode cX6_tighten 23 = .ok (.aload_n 0, 1) := by decide +kernel
theorem dX6_tighten_24 : decode cX6_tighten 24 = .ok (.getfield 47, 3) := by decide +kernel
theorem dX6_tighten_27 : decode cX6_tighten 27 = .ok (.iload_n 1, 1) := by decide +kernel
theorem dX6_tighten_28 : decode cX6_tighten 28 = .ok (.iaload, 1) := by decide +kernel
theorem dX6_tighten_29 : decode cX6_tighten 29 = .ok (.if_icmp .lt 18, 3) := by decide +kernel
theorem dX6_tighten_32 : decode cX6_tighten 32 = .ok (.iload_n 3, 1) := by decide +kernel
theorem dX6_tighten_33 : decode cX6_tighten 33 = .ok (.aload_n 0, 1) := by decide +kernel
theorem dX6_tighten_34 : decode cX6_tighten 34 = .ok (.getfield 50, 3) := by decide +kernel
theorem dX6_tighten_37 : decode cX6_tighten 37 = .ok (.iload_n 1, 1) := by decide +kernel
theorem dX6_tighten_38 : decode cX6_tighten 38 = .ok (.iaload, 1) := by decide +kernel
theorem dX6_tighten_39 : decode cX6_tighten 39 = .ok (.if_icmp .gt 8, 3) := by decide +kernel
theorem dX6_tighten_42 : decode cX6_tighten 42 = .ok (.iload_n 2, 1) := by decide +kernel
theorem dX6_tighten_43 : decode cX6_tighten 43 = .ok (.iload_n 3, 1) := by decide +kernel
theorem dX6_tighten_44 : decode cX6_tighten 44 = .ok (.if_icmp .le 7, 3) := by decide +kernel
theorem dX6_tighten_47 : decode cX6_tighten 47 = .ok (.iconst 2, 1) := by decide +kernel
theorem dX6_tighten_48 : decode cX6_tighten 48 = .ok (.goto 4, 3) := by decide +kernel
theorem dX6_tighten_51 : decode cX6_tighten 51 = .ok (.iconst 0, 1) := by decide +kernel
theorem dX6_tighten_52 : decode cX6_tighten 52 = .ok (.putfield 78, 3) := by decide +kernel
theorem dX6_tighten_55 : decode cX6_tighten 55 = .ok (.aload_n 0, 1) := by decide +kernel
theorem dX6_tighten_56 : decode cX6_tighten 56 = .ok (.getfield 78, 3) := by decide +kernel
theorem dX6_tighten_59 : decode cX6_tighten 59 = .ok (.ifCond .le 5, 3) := by decide +kernel
theorem dX6_tighten_62 : decode cX6_tighten 62 = .ok (.iconst 0, 1) := by decide +kernel
theorem dX6_tighten_63 : decode cX6_tighten 63 = .ok (.ireturn, 1) := by decide +kernel
theorem dX6_tighten_64 : decode cX6_tighten 64 = .ok (.iconst 0, 1) := by decide +kernel
theorem dX6_tighten_65 : decode cX6_tighten 65 = .ok (.istore 4, 2) := by decide +kernel
theorem dX6_tighten_67 : decode cX6_tighten 67 = .ok (.iload 4, 2) := by decide +kernel
theorem dX6_tighten_69 : decode cX6_tighten 69 = .ok (.aload_n 0, 1) := by decide +kernel
theorem dX6_tighten_70 : decode cX6_tighten 70 = .ok (.getfield 7, 3) := by decide +kernel
theorem dX6_tighten_73 : decode cX6_tighten 73 = .ok (.if_icmp .ge 30, 3) := by decide +kernel
theorem dX6_tighten_76 : decode cX6_tighten 76 = .ok (.aload_n 0, 1) := by decide +kernel
theorem dX6_tighten_77 : decode cX6_tighten 77 = .ok (.getfield 75, 3) := by decide +kernel
theorem dX6_tighten_80 : decode cX6_tighten 80 = .ok (.iload 4, 2) := by decide +kernel
theorem dX6_tighten_82 : decode cX6_tighten 82 = .ok (.aload_n 0, 1) := by decide +kernel
theorem dX6_tighten_83 : decode cX6_tighten 83 = .ok (.iload 4, 2) := by decide +kernel
theorem dX6_tighten_85 : decode cX6_tighten 85 = .ok (.invokevirtual 173, 3) := by decide +kernel
theorem dX6_tighten_88 : decode cX6_tighten 88 = .ok (.ifCond .le 7, 3) := by decide +kernel
theorem dX6_tighten_91 : decode cX6_tighten 91 = .ok (.iconst 1, 1) := by decide +kernel
theorem dX6_tighten_92 : decode cX6_tighten 92 = .ok (.goto 4, 3) := by decide +kernel
theorem dX6_tighten_95 : decode cX6_tighten 95 = .ok (.iconst 0, 1) := by decide +kernel
theorem dX6_tighten_96 : decode cX6_tighten 96 = .ok (.bastore, 1) := by decide +kernel
theorem dX6_tighten_97 : decode cX6_tighten 97 = .ok (.iinc 4 1, 3) := by decide +kernel
theorem dX6_tighten_100 : decode cX6_tighten 100 = .ok (.goto (-33), 3) := by decide +kernel
theorem dX6_tighten_103 : decode cX6_tighten 103 = .ok (.aload_n 0, 1) := by decide +kernel
theorem dX6_tighten_104 : decode cX6_tighten 104 = .ok (.getfield 47, 3) := by decide +kernel
theorem dX6_tighten_107 : decode cX6_tighten 107 = .ok (.iload_n 1, 1) := by decide +kernel
theorem dX6_tighten_108 : decode cX6_tighten 108 = .ok (.iload_n 2, 1) := by decide +kernel
theorem dX6_tighten_109 : decode cX6_tighten 109 = .ok (.iastore, 1) := by decide +kernel
theorem dX6_tighten_110 : decode cX6_tighten 110 = .ok (.aload_n 0, 1) := by decide +kernel
theorem dX6_tighten_111 : decode cX6_tighten 111 = .ok (.getfield 50, 3) := by decide +kernel
theorem dX6_tighten_114 : decode cX6_tighten 114 = .ok (.iload_n 1, 1) := by decide +kernel
theorem dX6_tighten_115 : decode cX6_tighten 115 = .ok (.iload_n 3, 1) := by decide +kernel
theorem dX6_tighten_116 : decode cX6_tighten 116 = .ok (.iastore, 1) := by decide +kernel
theorem dX6_tighten_117 : decode cX6_tighten 117 = .ok (.iconst 0, 1) := by decide +kernel
theorem dX6_tighten_118 : decode cX6_tighten 118 = .ok (.istore 4, 2) := by decide +kernel
theorem dX6_tighten_120 : decode cX6_tighten 120 = .ok (.iconst 0, 1) := by decide +kernel
theorem dX6_tighten_121 : decode cX6_tighten 121 = .ok (.istore 5, 2) := by decide +kernel
theorem dX6_tighten_123 : decode cX6_tighten 123 = .ok (.iload 5, 2) := by decide +kernel
theorem dX6_tighten_125 : decode cX6_tighten 125 = .ok (.aload_n 0, 1) := by decide +kernel
theorem dX6_tighten_126 : decode cX6_tighten 126 = .ok (.getfield 7, 3) := by decide +kernel
theorem dX6_tighten_129 : decode cX6_tighten 129 = .ok (.if_icmp .ge 38, 3) := by decide +kernel
theorem dX6_tighten_132 : decode cX6_tighten 132 = .ok (.iload 4, 2) := by decide +kernel
theorem dX6_tighten_134 : decode cX6_tighten 134 = .ok (.aload_n 0, 1) := by decide +kernel
theorem dX6_tighten_135 : decode cX6_tighten 135 = .ok (.getfield 75, 3) := by decide +kernel
theorem dX6_tighten_138 : decode cX6_tighten 138 = .ok (.iload 5, 2) := by decide +kernel
theorem dX6_tighten_140 : decode cX6_tighten 140 = .ok (.baload, 1) := by decide +kernel
theorem dX6_tighten_141 : decode cX6_tighten 141 = .ok (.ifCond .ne 16, 3) := by decide +kernel
theorem dX6_tighten_144 : decode cX6_tighten 144 = .ok (.aload_n 0, 1) := by decide +kernel
theorem dX6_tighten_145 : decode cX6_tighten 145 = .ok (.iload 5, 2) := by decide +kernel
theorem dX6_tighten_147 : decode cX6_tighten 147 = .ok (.invokevirtual 173, 3) := by decide +kernel
theorem dX6_tighten_150 : decode cX6_tighten 150 = .ok (.ifCond .le 7, 3) := by decide +kernel
theorem dX6_tighten_153 : decode cX6_tighten 153 = .ok (.iconst 1, 1) := by decide +kernel
theorem dX6_tighten_154 : decode cX6_tighten 154 = .ok (.goto 4, 3) := by decide +kernel
theorem dX6_tighten_157 : decode cX6_tighten 157 = .ok (.iconst 0, 1) := by decide +kernel
theorem dX6_tighten_158 : decode cX6_tighten 158 = .ok (.iadd, 1) := by decide +kernel
theorem dX6_tighten_159 : decode cX6_tighten 159 = .ok (.istore 4, 2) := by decide +kernel
theorem dX6_tighten_161 : decode cX6_tighten 161 = .ok (.iinc 5 1, 3) := by decide +kernel
theorem dX6_tighten_164 : decode cX6_tighten 164 = .ok (.goto (-41), 3) := by decide +kernel
theorem dX6_tighten_167 : decode cX6_tighten 167 = .ok (.iload 4, 2) := by decide +kernel
theorem dX6_tighten_169 : decode cX6_tighten 169 = .ok (.ireturn, 1) := by decide +kernel
set_option maxRecDepth 20000 in
theorem ggX6_waive_X6_in : GoodIn wsX6_waive wsX6_in := goodIn_r _ [12] (by decide +kernel) (by decide +kernel)
set_option maxRecDepth 20000 in
theorem gX6_waive_X6_in : GoodIn wsX6_waive (va_wsS RX6 81 yX6_in wsX6_in) := goodIn_app (goodIn_of _ (by decide +kernel)) ggX6_waive_X6_in
set_option maxRecDepth 20000 in
theorem ggX6_waive_X6_isSlide : GoodIn wsX6_waive wsX6_isSlide := goodIn_r _ [16, 17, 9, 10, 11, 12, 18, 19, 20, 21, 22, 23, 24, 25, 26, 27, 28, 29, 30, 31, 32, 33, 34, 35, 36, 37, 38, 39, 40, 41, 42, 43, 44, 45] (by decide +kernel) (by decide +kernel)
set_option maxRecDepth 20000 in
theorem gX6_waive_X6_isSlide : GoodIn wsX6_waive (wsV RX6 113 RX6 yX6_isSlide wsX6_isSlide) := goodIn_app (goodIn_of _ (by decide +kernel)) ggX6_waive_X6_isSlide
theorem dX6_waive_0 : decode cX6_waive 0 = .ok (.aload_n 0, 1) := by decide +kernel
theorem dX6_waive_1 : decode cX6_waive 1 = .ok (.iload_n 1, 1) := by decide +kernel
theorem dX6_waive_2 : decode cX6_waive 2 = .ok (.iconst 0, 1) := by decide +kernel
theorem dX6_waive_3 : decode cX6_waive 3 = .ok (.aload_n 0, 1) := by decide +kernel
theorem dX6_waive_4 : decode cX6_waive 4 = .ok (.getfield 155, 3) := by decide +kernel
theorem dX6_waive_7 : decode cX6_waive 7 = .ok (.iconst 1, 1) := by decide +kernel
theorem dX6_waive_8 : decode cX6_waive 8 = .ok (.isub, 1) := by decide +kernel
theorem dX6_waive_9 : decode cX6_waive 9 = .ok (.invokestatic 81, 3) := by decide +kernel
theorem dX6_waive_12 : decode cX6_waive 12 = .ok (.ifCond .eq 11, 3) := by decide +kernel
theorem dX6_waive_15 : decode cX6_waive 15 = .ok (.aload_n 0, 1) := by decide +kernel
theorem dX6_waive_16 : decode cX6_waive 16 = .ok (.iload_n 2, 1) := by decide +kernel
theorem dX6_waive_17 : decode cX6_waive 17 = .ok (.invokevirtual 113, 3) := by decide +kernel
theorem dX6_waive_20 : decode cX6_waive 20 = .ok (.ifCond .ne 7, 3) := by decide +kernel
theorem dX6_waive_23 : decode cX6_waive 23 = .ok (.iconst 1, 1) := by decide +kernel
theorem dX6_waive_24 : decode cX6_waive 24 = .ok (.goto 45, 3) := by decide +kernel
theorem dX6_waive_27 : decode cX6_waive 27 = .ok (.iload_n 3, 1) := by decide +kernel
theorem dX6_waive_28 : decode cX6_waive 28 = .ok (.aload_n 0, 1) := by decide +kernel
theorem dX6_waive_29 : decode cX6_waive 29 = .ok (.getfield 164, 3) := by decide +kernel
theorem dX6_waive_32 : decode cX6_waive 32 = .ok (.sipush 999, 3) := by decide +kernel
theorem dX6_waive_35 : decode cX6_waive 35 = .ok (.invokestatic 81, 3) := by decide +kernel
theorem dX6_waive_38 : decode cX6_waive 38 = .ok (.ifCond .ne 7, 3) := by decide +kernel
theorem dX6_waive_41 : decode cX6_waive 41 = .ok (.iconst 2, 1) := by decide +kernel
theorem dX6_waive_42 : decode cX6_waive 42 = .ok (.goto 27, 3) := by decide +kernel
theorem dX6_waive_45 : decode cX6_waive 45 = .ok (.aload_n 0, 1) := by decide +kernel
theorem dX6_waive_46 : decode cX6_waive 46 = .ok (.getfield 41, 3) := by decide +kernel
theorem dX6_waive_49 : decode cX6_waive 49 = .ok (.iload_n 1, 1) := by decide +kernel
theorem dX6_waive_50 : decode cX6_waive 50 = .ok (.iaload, 1) := by decide +kernel
theorem dX6_waive_51 : decode cX6_waive 51 = .ok (.iconst 1, 1) := by decide +kernel
theorem dX6_waive_52 : decode cX6_waive 52 = .ok (.if_icmp .ne 12, 3) := by decide +kernel
theorem dX6_waive_55 : decode cX6_waive 55 = .ok (.aload_n 0, 1) := by decide +kernel
theorem dX6_waive_56 : decode cX6_waive 56 = .ok (.getfield 161, 3) := by decide +kernel
theorem dX6_waive_59 : decode cX6_waive 59 = .ok (.bipush 12, 2) := by decide +kernel
theorem dX6_waive_61 : decode cX6_waive 61 = .ok (.if_icmp .ne 7, 3) := by decide +kernel
theorem dX6_waive_64 : decode cX6_waive 64 = .ok (.iconst 3, 1) := by decide +kernel
theorem dX6_waive_65 : decode cX6_waive 65 = .ok (.goto 4, 3) := by decide +kernel
theorem dX6_waive_68 : decode cX6_waive 68 = .ok (.iconst 0, 1) := by decide +kernel
theorem dX6_waive_69 : decode cX6_waive 69 = .ok (.putfield 78, 3) := by decide +kernel
theorem dX6_waive_72 : decode cX6_waive 72 = .ok (.aload_n 0, 1) := by decide +kernel
theorem dX6_waive_73 : decode cX6_waive 73 = .ok (.getfield 78, 3) := by decide +kernel
theorem dX6_waive_76 : decode cX6_waive 76 = .ok (.ifCond .le 5, 3) := by decide +kernel
theorem dX6_waive_79 : decode cX6_waive 79 = .ok (.iconst 0, 1) := by decide +kernel
theorem dX6_waive_80 : decode cX6_waive 80 = .ok (.ireturn, 1) := by decide +kernel
theorem dX6_waive_81 : decode cX6_waive 81 = .ok (.aload_n 0, 1) := by decide +kernel
theorem dX6_waive_82 : decode cX6_waive 82 = .ok (.getfield 53, 3) := by decide +kernel
theorem dX6_waive_85 : decode cX6_waive 85 = .ok (.aload_n 0, 1) := by decide +kernel
theorem dX6_waive_86 : decode cX6_waive 86 = .ok (.getfield 161, 3) := by decide +kernel
theorem dX6_waive_89 : decode cX6_waive 89 = .ok (.iload_n 1, 1) := by decide +kernel
theorem dX6_waive_90 : decode cX6_waive 90 = .ok (.iastore, 1) := by decide +kernel
theorem dX6_waive_91 : decode cX6_waive 91 = .ok (.aload_n 0, 1) := by decide +kernel
theorem dX6_waive_92 : decode cX6_waive 92 = .ok (.getfield 56, 3) := by decide +kernel
theorem dX6_waive_95 : decode cX6_waive 95 = .ok (.aload_n 0, 1) := by decide +kernel
theorem dX6_waive_96 : decode cX6_waive 96 = .ok (.getfield 161, 3) := by decide +kernel
theorem dX6_waive_99 : decode cX6_waive 99 = .ok (.iload_n 2, 1) := by decide +kernel
theorem dX6_waive_100 : decode cX6_waive 100 = .ok (.iastore, 1) := by decide +kernel
theorem dX6_waive_101 : decode cX6_waive 101 = .ok (.aload_n 0, 1) := by decide +kernel
theorem dX6_waive_102 : decode cX6_waive 102 = .ok (.getfield 59, 3) := by decide +kernel
theorem dX6_waive_105 : decode cX6_waive 105 = .ok (.aload_n 0, 1) := by decide +kernel
theorem dX6_waive_106 : decode cX6_waive 106 = .ok (.getfield 161, 3) := by decide +kernel
theorem dX6_waive_109 : decode cX6_waive 109 = .ok (.iload_n 3, 1) := by decide +kernel
theorem dX6_waive_110 : decode cX6_waive 110 = .ok (.iastore, 1) := by decide +kernel
theorem dX6_waive_111 : decode cX6_waive 111 = .ok (.aload_n 0, 1) := by decide +kernel
theorem dX6_waive_112 : decode cX6_waive 112 = .ok (.dup, 1) := by decide +kernel
theorem dX6_waive_113 : decode cX6_waive 113 = .ok (.getfield 161, 3) := by decide +kernel
theorem dX6_waive_116 : decode cX6_waive 116 = .ok (.iconst 1, 1) := by decide +kernel
theorem dX6_waive_117 : decode cX6_waive 117 = .ok (.iadd, 1) := by decide +kernel
theorem dX6_waive_118 : decode cX6_waive 118 = .ok (.putfield 161, 3) := by decide +kernel
theorem dX6_waive_121 : decode cX6_waive 121 = .ok (.aload_n 0, 1) := by decide +kernel
theorem dX6_waive_122 : decode cX6_waive 122 = .ok (.getfield 161, 3) := by decide +kernel
theorem dX6_waive_125 : decode cX6_waive 125 = .ok (.iconst 1, 1) := by decide +kernel
theorem dX6_waive_126 : decode cX6_waive 126 = .ok (.isub, 1) := by decide +kernel
theorem dX6_waive_127 : decode cX6_waive 127 = .ok (.ireturn, 1) := by decide +kernel
set_option maxRecDepth 20000 in
theorem ggX6_blocks_X6_isVersion : GoodIn wsX6_blocks wsX6_isVersion := goodIn_r _ [6, 7, 8, 9, 5, 10, 40, 41, 42, 43, 44, 45, 46, 47, 48, 49, 50, 51, 52, 53, 54, 55, 56, 57, 58, 59, 60, 61, 62, 63, 64, 65, 66, 67] (by decide +kernel) (by decide +kernel)
set_option maxRecDepth 20000 in
theorem gX6_blocks_X6_isVersion : GoodIn wsX6_blocks (wsV RX6 89 RX6 yX6_isVersion wsX6_isVersion) := goodIn_app (goodIn_of _ (by decide +kernel)) ggX6_blocks_X6_isVersion
set_option maxRecDepth 20000 in
theorem ggX6_blocks_X6_blocksOf : GoodIn wsX6_blocks wsX6_blocksOf := goodIn_r _ [14, 15, 16, 17, 18, 19, 20, 21, 22, 5, 23, 24, 25, 26, 27, 28, 29, 30, 8, 9, 10, 31, 32, 33, 34, 35, 36, 37, 38, 39, 40, 41, 42, 43, 44, 45, 46, 47, 48, 49, 50, 51, 52, 53, 54, 55, 56, 57, 58, 59, 60, 61, 62, 63, 64, 65, 66, 67] (by decide +kernel) (by decide +kernel)
set_option maxRecDepth 20000 in
theorem gX6_blocks_X6_blocksOf : GoodIn wsX6_blocks (wsV RX6 173 RX6 yX6_blocksOf wsX6_blocksOf) := goodIn_app (goodIn_of _ (by decide +kernel)) ggX6_blocks_X6_blocksOf
theorem dX6_blocks_0 : decode cX6_blocks 0 = .ok (.aload_n 0, 1) := by decide +kernel
theorem dX6_blocks_1 : decode cX6_blocks 1 = .ok (.aload_n 0, 1) := by decide +kernel
theorem dX6_blocks_2 : decode cX6_blocks 2 = .ok (.iload_n 1, 1) := by decide +kernel
theorem dX6_blocks_3 : decode cX6_blocks 3 = .ok (.invokevirtual 89, 3) := by decide +kernel
theorem dX6_blocks_6 : decode cX6_blocks 6 = .ok (.ifCond .eq 7, 3) := by decide +kernel
theorem dX6_blocks_9 : decode cX6_blocks 9 = .ok (.iconst 0, 1) := by decide +kernel
theorem dX6_blocks_10 : decode cX6_blocks 10 = .ok (.goto 4, 3) := by decide +kernel
theorem dX6_blocks_13 : decode cX6_blocks 13 = .ok (.iconst 1, 1) := by decide +kernel
theorem dX6_blocks_14 : decode cX6_blocks 14 = .ok (.putfield 78, 3) := by decide +kernel
theorem dX6_blocks_17 : decode cX6_blocks 17 = .ok (.aload_n 0, 1) := by decide +kernel
theorem dX6_blocks_18 : decode cX6_blocks 18 = .ok (.getfield 78, 3) := by decide +kernel
theorem dX6_blocks_21 : decode cX6_blocks 21 = .ok (.ifCond .le 7, 3) := by decide +kernel
theorem dX6_blocks_24 : decode cX6_blocks 24 = .ok (.iconst 0, 1) := by decide +kernel
theorem dX6_blocks_25 : decode cX6_blocks 25 = .ok (.goto 8, 3) := by decide +kernel
theorem dX6_blocks_28 : decode cX6_blocks 28 = .ok (.aload_n 0, 1) := by decide +kernel
theorem dX6_blocks_29 : decode cX6_blocks 29 = .ok (.iload_n 1, 1) := by decide +kernel
theorem dX6_blocks_30 : decode cX6_blocks 30 = .ok (.invokevirtual 173, 3) := by decide +kernel
theorem dX6_blocks_33 : decode cX6_blocks 33 = .ok (.ireturn, 1) := by decide +kernel
set_option maxRecDepth 20000 in
theorem ggX6_warnings_X6_isVersion : GoodIn wsX6_warnings wsX6_isVersion := goodIn_r _ [11, 12, 13, 14, 10, 15, 22, 23, 24, 25, 26, 27, 28, 29, 30, 31, 32, 33, 34, 35, 36, 37, 38, 39, 40, 41, 42, 43, 44, 45, 46, 47, 48, 49] (by decide +kernel) (by decide +kernel)
set_option maxRecDepth 20000 in
theorem gX6_warnings_X6_isVersion : GoodIn wsX6_warnings (wsV RX6 89 RX6 yX6_isVersion wsX6_isVersion) := goodIn_app (goodIn_of _ (by decide +kernel)) ggX6_warnings_X6_isVersion
set_option maxRecDepth 20000 in
theorem ggX6_warnings_X6_breaks : GoodIn wsX6_warnings wsX6_breaks := goodIn_r _ [19, 20, 21, 13, 14, 10, 15, 22, 23, 24, 25, 26, 27, 28, 29, 30, 31, 32, 33, 34, 35, 36, 37, 38, 39, 40, 41, 42, 43, 44, 45, 46, 47, 48, 49] (by decide +kernel) (by decide +kernel)
set_option maxRecDepth 20000 in
theorem gX6_warnings_X6_breaks : GoodIn wsX6_warnings (wsV RX6 167 RX6 yX6_breaks wsX6_breaks) := goodIn_app (goodIn_of _ (by decide +kernel)) ggX6_warnings_X6_breaks
theorem dX6_warnings_0 : decode cX6_warnings 0 = .ok (.aload_n 0, 1) := by decide +kernel
theorem dX6_warnings_1 : decode cX6_warnings 1 = .ok (.aload_n 0, 1) := by decide +kernel
theorem dX6_warnings_2 : decode cX6_warnings 2 = .ok (.iload_n 1, 1) := by decide +kernel
theorem dX6_warnings_3 : decode cX6_warnings 3 = .ok (.invokevirtual 89, 3) := by decide +kernel
theorem dX6_warnings_6 : decode cX6_warnings 6 = .ok (.ifCond .eq 7, 3) := by decide +kernel
theorem dX6_warnings_9 : decode cX6_warnings 9 = .ok (.iconst 0, 1) := by decide +kernel
theorem dX6_warnings_10 : decode cX6_warnings 10 = .ok (.goto 4, 3) := by decide +kernel
theorem dX6_warnings_13 : decode cX6_warnings 13 = .ok (.iconst 1, 1) := by decide +kernel
theorem dX6_warnings_14 : decode cX6_warnings 14 = .ok (.putfield 78, 3) := by decide +kernel
theorem dX6_warnings_17 : decode cX6_warnings 17 = .ok (.iconst 0, 1) := by decide +kernel
theorem dX6_warnings_18 : decode cX6_warnings 18 = .ok (.istore_n 2, 1) := by decide +kernel
theorem dX6_warnings_19 : decode cX6_warnings 19 = .ok (.iconst 0, 1) := by decide +kernel
theorem dX6_warnings_20 : decode cX6_warnings 20 = .ok (.istore_n 3, 1) := by decide +kernel
theorem dX6_warnings_21 : decode cX6_warnings 21 = .ok (.aload_n 0, 1) := by decide +kernel
theorem dX6_warnings_22 : decode cX6_warnings 22 = .ok (.getfield 78, 3) := by decide +kernel
theorem dX6_warnings_25 : decode cX6_warnings 25 = .ok (.ifCond .ne 86, 3) := by decide +kernel
theorem dX6_warnings_28 : decode cX6_warnings 28 = .ok (.iload_n 3, 1) := by decide +kernel
theorem dX6_warnings_29 : decode cX6_warnings 29 = .ok (.aload_n 0, 1) := by decide +kernel
theorem dX6_warnings_30 : decode cX6_warnings 30 = .ok (.getfield 23, 3) := by decide +kernel
theorem dX6_warnings_33 : decode cX6_warnings 33 = .ok (.iload_n 1, 1) := by decide +kernel
theorem dX6_warnings_34 : decode cX6_warnings 34 = .ok (.iaload, 1) := by decide +kernel
theorem dX6_warnings_35 : decode cX6_warnings 35 = .ok (.if_icmp .ge 76, 3) := by decide +kernel
theorem dX6_warnings_38 : decode cX6_warnings 38 = .ok (.iconst 0, 1) := by decide +kernel
theorem dX6_warnings_39 : decode cX6_warnings 39 = .ok (.istore 4, 2) := by decide +kernel
theorem dX6_warnings_41 : decode cX6_warnings 41 = .ok (.iload 4, 2) := by decide +kernel
theorem dX6_warnings_43 : decode cX6_warnings 43 = .ok (.aload_n 0, 1) := by decide +kernel
theorem dX6_warnings_44 : decode cX6_warnings 44 = .ok (.getfield 155, 3) := by decide +kernel
theorem dX6_warnings_47 : decode cX6_warnings 47 = .ok (.if_icmp .ge 58, 3) := by decide +kernel
theorem dX6_warnings_50 : decode cX6_warnings 50 = .ok (.iload_n 2, 1) := by decide +kernel
theorem dX6_warnings_51 : decode cX6_warnings 51 = .ok (.aload_n 0, 1) := by decide +kernel
theorem dX6_warnings_52 : decode cX6_warnings 52 = .ok (.getfield 41, 3) := by decide +kernel
theorem dX6_warnings_55 : decode cX6_warnings 55 = .ok (.iload 4, 2) := by decide +kernel
theorem dX6_warnings_57 : decode cX6_warnings 57 = .ok (.iaload, 1) := by decide +kernel
theorem dX6_warnings_58 : decode cX6_warnings 58 = .ok (.iconst 2, 1) := by decide +kernel
theorem dX6_warnings_59 : decode cX6_warnings 59 = .ok (.if_icmp .ne 37, 3) := by decide +kernel
theorem dX6_warnings_62 : decode cX6_warnings 62 = .ok (.aload_n 0, 1) := by decide +kernel
theorem dX6_warnings_63 : decode cX6_warnings 63 = .ok (.iload 4, 2) := by decide +kernel
theorem dX6_warnings_65 : decode cX6_warnings 65 = .ok (.aload_n 0, 1) := by decide +kernel
theorem dX6_warnings_66 : decode cX6_warnings 66 = .ok (.getfield 29, 3) := by decide +kernel
theorem dX6_warnings_69 : decode cX6_warnings 69 = .ok (.iconst 4, 1) := by decide +kernel
theorem dX6_warnings_70 : decode cX6_warnings 70 = .ok (.bipush 8, 2) := by decide +kernel
theorem dX6_warnings_72 : decode cX6_warnings 72 = .ok (.iload_n 1, 1) := by decide +kernel
theorem dX6_warnings_73 : decode cX6_warnings 73 = .ok (.imul, 1) := by decide +kernel
theorem dX6_warnings_74 : decode cX6_warnings 74 = .ok (.iload_n 3, 1) := by decide +kernel
theorem dX6_warnings_75 : decode cX6_warnings 75 = .ok (.iadd, 1) := by decide +kernel
theorem dX6_warnings_76 : decode cX6_warnings 76 = .ok (.imul, 1) := by decide +kernel
theorem dX6_warnings_77 : decode cX6_warnings 77 = .ok (.aload_n 0, 1) := by decide +kernel
theorem dX6_warnings_78 : decode cX6_warnings 78 = .ok (.getfield 44, 3) := by decide +kernel
theorem dX6_warnings_81 : decode cX6_warnings 81 = .ok (.iload 4, 2) := by decide +kernel
theorem dX6_warnings_83 : decode cX6_warnings 83 = .ok (.iaload, 1) := by decide +kernel
theorem dX6_warnings_84 : decode cX6_warnings 84 = .ok (.iadd, 1) := by decide +kernel
theorem dX6_warnings_85 : decode cX6_warnings 85 = .ok (.iaload, 1) := by decide +kernel
theorem dX6_warnings_86 : decode cX6_warnings 86 = .ok (.invokevirtual 167, 3) := by decide +kernel
theorem dX6_warnings_89 : decode cX6_warnings 89 = .ok (.ifCond .eq 7, 3) := by decide +kernel
theorem dX6_warnings_92 : decode cX6_warnings 92 = .ok (.iconst 1, 1) := by decide +kernel
theorem dX6_warnings_93 : decode cX6_warnings 93 = .ok (.goto 4, 3) := by decide +kernel
theorem dX6_warnings_96 : decode cX6_warnings 96 = .ok (.iconst 0, 1) := by decide +kernel
theorem dX6_warnings_97 : decode cX6_warnings 97 = .ok (.iadd, 1) := by decide +kernel
theorem dX6_warnings_98 : decode cX6_warnings 98 = .ok (.istore_n 2, 1) := by decide +kernel
theorem dX6_warnings_99 : decode cX6_warnings 99 = .ok (.iinc 4 1, 3) := by decide +kernel
theorem dX6_warnings_102 : decode cX6_warnings 102 = .ok (.goto (-61), 3) := by decide +kernel
theorem dX6_warnings_105 : decode cX6_warnings 105 = .ok (.iinc 3 1, 3) := by decide +kernel
theorem dX6_warnings_108 : decode cX6_warnings 108 = .ok (.goto (-87), 3) := by decide +kernel
theorem dX6_warnings_111 : decode cX6_warnings 111 = .ok (.iload_n 2, 1) := by decide +kernel
theorem dX6_warnings_112 : decode cX6_warnings 112 = .ok (.ireturn, 1) := by decide +kernel
set_option maxRecDepth 20000 in
theorem ggX6_firstBlock_X6_isVersion : GoodIn wsX6_firstBlock wsX6_isVersion := goodIn_r _ [11, 12, 13, 14, 10, 15, 36, 37, 38, 39, 40, 41, 42, 43, 44, 45, 46, 47, 48, 49, 50, 51, 52, 53, 54, 55, 56, 57, 58, 59, 60, 61, 62, 63] (by decide +kernel) (by decide +kernel)
set_option maxRecDepth 20000 in
theorem gX6_firstBlock_X6_isVersion : GoodIn wsX6_firstBlock (wsV RX6 89 RX6 yX6_isVersion wsX6_isVersion) := goodIn_app (goodIn_of _ (by decide +kernel)) ggX6_firstBlock_X6_isVersion
set_option maxRecDepth 20000 in
theorem ggX6_firstBlock_X6_isBlocked : GoodIn wsX6_firstBlock wsX6_isBlocked := goodIn_r _ [19, 20, 21, 22, 23, 10, 24, 25, 26, 13, 14, 15, 27, 28, 29, 30, 31, 32, 33, 34, 35, 36, 37, 38, 39, 40, 41, 42, 43, 44, 45, 46, 47, 48, 49, 50, 51, 52, 53, 54, 55, 56, 57, 58, 59, 60, 61, 62, 63] (by decide +kernel) (by decide +kernel)
set_option maxRecDepth 20000 in
theorem gX6_firstBlock_X6_isBlocked : GoodIn wsX6_firstBlock (wsV RX6 158 RX6 yX6_isBlocked wsX6_isBlocked) := goodIn_app (goodIn_of _ (by decide +kernel)) ggX6_firstBlock_X6_isBlocked
theorem dX6_firstBlock_0 : decode cX6_firstBlock 0 = .ok (.aload_n 0, 1) := by decide +kernel
theorem dX6_firstBlock_1 : decode cX6_firstBlock 1 = .ok (.aload_n 0, 1) := by decide +kernel
theorem dX6_firstBlock_2 : decode cX6_firstBlock 2 = .ok (.iload_n 1, 1) := by decide +kernel
theorem dX6_firstBlock_3 : decode cX6_firstBlock 3 = .ok (.invokevirtual 89, 3) := by decide +kernel
theorem dX6_firstBlock_6 : decode cX6_firstBlock 6 = .ok (.ifCond .eq 7, 3) := by decide +kernel
theorem dX6_firstBlock_9 : decode cX6_firstBlock 9 = .ok (.iconst 0, 1) := by decide +kernel
theorem dX6_firstBlock_10 : decode cX6_firstBlock 10 = .ok (.goto 4, 3) := by decide +kernel
theorem dX6_firstBlock_13 : decode cX6_firstBlock 13 = .ok (.iconst 1, 1) := by decide +kernel
theorem dX6_firstBlock_14 : decode cX6_firstBlock 14 = .ok (.putfield 78, 3) := by decide +kernel
theorem dX6_firstBlock_17 : decode cX6_firstBlock 17 = .ok (.iconst 0, 1) := by decide +kernel
theorem dX6_firstBlock_18 : decode cX6_firstBlock 18 = .ok (.istore_n 2, 1) := by decide +kernel
theorem dX6_firstBlock_19 : decode cX6_firstBlock 19 = .ok (.aload_n 0, 1) := by decide +kernel
theorem dX6_firstBlock_20 : decode cX6_firstBlock 20 = .ok (.getfield 78, 3) := by decide +kernel
theorem dX6_firstBlock_23 : decode cX6_firstBlock 23 = .ok (.ifCond .ne 86, 3) := by decide +kernel
theorem dX6_firstBlock_26 : decode cX6_firstBlock 26 = .ok (.iload_n 2, 1) := by decide +kernel
theorem dX6_firstBlock_27 : decode cX6_firstBlock 27 = .ok (.aload_n 0, 1) := by decide +kernel
theorem dX6_firstBlock_28 : decode cX6_firstBlock 28 = .ok (.getfield 23, 3) := by decide +kernel
theorem dX6_firstBlock_31 : decode cX6_firstBlock 31 = .ok (.iload_n 1, 1) := by decide +kernel
theorem dX6_firstBlock_32 : decode cX6_firstBlock 32 = .ok (.iaload, 1) := by decide +kernel
theorem dX6_firstBlock_33 : decode cX6_firstBlock 33 = .ok (.if_icmp .ge 76, 3) := by decide +kernel
theorem dX6_firstBlock_36 : decode cX6_firstBlock 36 = .ok (.iconst 0, 1) := by decide +kernel
theorem dX6_firstBlock_37 : decode cX6_firstBlock 37 = .ok (.istore_n 3, 1) := by decide +kernel
theorem dX6_firstBlock_38 : decode cX6_firstBlock 38 = .ok (.iload_n 3, 1) := by decide +kernel
theorem dX6_firstBlock_39 : decode cX6_firstBlock 39 = .ok (.aload_n 0, 1) := by decide +kernel
theorem dX6_firstBlock_40 : decode cX6_firstBlock 40 = .ok (.getfield 155, 3) := by decide +kernel
theorem dX6_firstBlock_43 : decode cX6_firstBlock 43 = .ok (.if_icmp .ge 60, 3) := by decide +kernel
theorem dX6_firstBlock_46 : decode cX6_firstBlock 46 = .ok (.aload_n 0, 1) := by decide +kernel
theorem dX6_firstBlock_47 : decode cX6_firstBlock 47 = .ok (.iload_n 3, 1) := by decide +kernel
theorem dX6_firstBlock_48 : decode cX6_firstBlock 48 = .ok (.aload_n 0, 1) := by decide +kernel
theorem dX6_firstBlock_49 : decode cX6_firstBlock 49 = .ok (.getfield 26, 3) := by decide +kernel
theorem dX6_firstBlock_52 : decode cX6_firstBlock 52 = .ok (.bipush 8, 2) := by decide +kernel
theorem dX6_firstBlock_54 : decode cX6_firstBlock 54 = .ok (.iload_n 1, 1) := by decide +kernel
theorem dX6_firstBlock_55 : decode cX6_firstBlock 55 = .ok (.imul, 1) := by decide +kernel
theorem dX6_firstBlock_56 : decode cX6_firstBlock 56 = .ok (.iload_n 2, 1) := by decide +kernel
theorem dX6_firstBlock_57 : decode cX6_firstBlock 57 = .ok (.iadd, 1) := by decide +kernel
theorem dX6_firstBlock_58 : decode cX6_firstBlock 58 = .ok (.iaload, 1) := by decide +kernel
theorem dX6_firstBlock_59 : decode cX6_firstBlock 59 = .ok (.aload_n 0, 1) := by decide +kernel
theorem dX6_firstBlock_60 : decode cX6_firstBlock 60 = .ok (.getfield 29, 3) := by decide +kernel
theorem dX6_firstBlock_63 : decode cX6_firstBlock 63 = .ok (.iconst 4, 1) := by decide +kernel
theorem dX6_firstBlock_64 : decode cX6_firstBlock 64 = .ok (.bipush 8, 2) := by decide +kernel
theorem dX6_firstBlock_66 : decode cX6_firstBlock 66 = .ok (.iload_n 1, 1) := by decide +kernel
theorem dX6_firstBlock_67 : decode cX6_firstBlock 67 = .ok (.imul, 1) := by decide +kernel
theorem dX6_firstBlock_68 : decode cX6_firstBlock 68 = .ok (.iload_n 2, 1) := by decide +kernel
theorem dX6_firstBlock_69 : decode cX6_firstBlock 69 = .ok (.iadd, 1) := by decide +kernel
theorem dX6_firstBlock_70 : decode cX6_firstBlock 70 = .ok (.imul, 1) := by decide +kernel
theorem dX6_firstBlock_71 : decode cX6_firstBlock 71 = .ok (.aload_n 0, 1) := by decide +kernel
theorem dX6_firstBlock_72 : decode cX6_firstBlock 72 = .ok (.getfield 44, 3) := by decide +kernel
theorem dX6_firstBlock_75 : decode cX6_firstBlock 75 = .ok (.iload_n 3, 1) := by decide +kernel
theorem dX6_firstBlock_76 : decode cX6_firstBlock 76 = .ok (.iaload, 1) := by decide +kernel
theorem dX6_firstBlock_77 : decode cX6_firstBlock 77 = .ok (.iadd, 1) := by decide +kernel
theorem dX6_firstBlock_78 : decode cX6_firstBlock 78 = .ok (.iaload, 1) := by decide +kernel
theorem dX6_firstBlock_79 : decode cX6_firstBlock 79 = .ok (.invokevirtual 158, 3) := by decide +kernel
theorem dX6_firstBlock_82 : decode cX6_firstBlock 82 = .ok (.ifCond .eq 15, 3) := by decide +kernel
theorem dX6_firstBlock_85 : decode cX6_firstBlock 85 = .ok (.aload_n 0, 1) := by decide +kernel
theorem dX6_firstBlock_86 : decode cX6_firstBlock 86 = .ok (.getfield 26, 3) := by decide +kernel
theorem dX6_firstBlock_89 : decode cX6_firstBlock 89 = .ok (.bipush 8, 2) := by decide +kernel
theorem dX6_firstBlock_91 : decode cX6_firstBlock 91 = .ok (.iload_n 1, 1) := by decide +kernel
theorem dX6_firstBlock_92 : decode cX6_firstBlock 92 = .ok (.imul, 1) := by decide +kernel
theorem dX6_firstBlock_93 : decode cX6_firstBlock 93 = .ok (.iload_n 2, 1) := by decide +kernel
theorem dX6_firstBlock_94 : decode cX6_firstBlock 94 = .ok (.iadd, 1) := by decide +kernel
theorem dX6_firstBlock_95 : decode cX6_firstBlock 95 = .ok (.iaload, 1) := by decide +kernel
theorem dX6_firstBlock_96 : decode cX6_firstBlock 96 = .ok (.ireturn, 1) := by decide +kernel
theorem dX6_firstBlock_97 : decode cX6_firstBlock 97 = .ok (.iinc 3 1, 3) := by decide +kernel
theorem dX6_firstBlock_100 : decode cX6_firstBlock 100 = .ok (.goto (-62), 3) := by decide +kernel
theorem dX6_firstBlock_103 : decode cX6_firstBlock 103 = .ok (.iinc 2 1, 3) := by decide +kernel
theorem dX6_firstBlock_106 : decode cX6_firstBlock 106 = .ok (.goto (-87), 3) := by decide +kernel
theorem dX6_firstBlock_109 : decode cX6_firstBlock 109 = .ok (.aload_n 0, 1) := by decide +kernel
theorem dX6_firstBlock_110 : decode cX6_firstBlock 110 = .ok (.getfield 78, 3) := by decide +kernel
theorem dX6_firstBlock_113 : decode cX6_firstBlock 113 = .ok (.ifCond .le 7, 3) := by decide +kernel
theorem dX6_firstBlock_116 : decode cX6_firstBlock 116 = .ok (.iconst 0, 1) := by decide +kernel
theorem dX6_firstBlock_117 : decode cX6_firstBlock 117 = .ok (.goto 4, 3) := by decide +kernel
theorem dX6_firstBlock_120 : decode cX6_firstBlock 120 = .ok (.iconst (-1), 1) := by decide +kernel
theorem dX6_firstBlock_121 : decode cX6_firstBlock 121 = .ok (.ireturn, 1) := by decide +kernel
set_option maxRecDepth 20000 in
theorem ggX6_show_X6_isBranch : GoodIn wsX6_show wsX6_isBranch := goodIn_r _ [8, 9, 10, 11, 7, 12, 42, 43, 44, 45, 46, 47, 48, 49, 50, 51, 52, 53, 54, 55, 56, 57, 58, 59, 60, 61, 62, 63, 64, 65, 66, 67, 68, 69] (by decide +kernel) (by decide +kernel)
set_option maxRecDepth 20000 in
theorem gX6_show_X6_isBranch : GoodIn wsX6_show (wsV RX6 93 RX6 yX6_isBranch wsX6_isBranch) := goodIn_app (goodIn_of _ (by decide +kernel)) ggX6_show_X6_isBranch
set_option maxRecDepth 20000 in
theorem ggX6_show_X6_blocksOf : GoodIn wsX6_show wsX6_blocksOf := goodIn_r _ [16, 17, 18, 19, 20, 21, 22, 23, 24, 7, 25, 26, 27, 28, 29, 30, 31, 32, 10, 11, 12, 33, 34, 35, 36, 37, 38, 39, 40, 41, 42, 43, 44, 45, 46, 47, 48, 49, 50, 51, 52, 53, 54, 55, 56, 57, 58, 59, 60, 61, 62, 63, 64, 65, 66, 67, 68, 69] (by decide +kernel) (by decide +kernel)
set_option maxRecDepth 20000 in
theorem gX6_show_X6_blocksOf : GoodIn wsX6_show (wsV RX6 173 RX6 yX6_blocksOf wsX6_blocksOf) := goodIn_app (goodIn_of _ (by decide +kernel)) ggX6_show_X6_blocksOf
theorem dX6_show_0 : decode cX6_show 0 = .ok (.aload_n 0, 1) := by decide +kernel
theorem dX6_show_1 : decode cX6_show 1 = .ok (.aload_n 0, 1) := by decide +kernel
theorem dX6_show_2 : decode cX6_show 2 = .ok (.iload_n 1, 1) := by decide +kernel
theorem dX6_show_3 : decode cX6_show 3 = .ok (.invokevirtual 93, 3) := by decide +kernel
theorem dX6_show_6 : decode cX6_show 6 = .ok (.ifCond .ne 7, 3) := by decide +kernel
theorem dX6_show_9 : decode cX6_show 9 = .ok (.iconst 1, 1) := by decide +kernel
theorem dX6_show_10 : decode cX6_show 10 = .ok (.goto 21, 3) := by decide +kernel
theorem dX6_show_13 : decode cX6_show 13 = .ok (.aload_n 0, 1) := by decide +kernel
theorem dX6_show_14 : decode cX6_show 14 = .ok (.aload_n 0, 1) := by decide +kernel
theorem dX6_show_15 : decode cX6_show 15 = .ok (.getfield 35, 3) := by decide +kernel
theorem dX6_show_18 : decode cX6_show 18 = .ok (.iload_n 1, 1) := by decide +kernel
theorem dX6_show_19 : decode cX6_show 19 = .ok (.iaload, 1) := by decide +kernel
theorem dX6_show_20 : decode cX6_show 20 = .ok (.invokevirtual 173, 3) := by decide +kernel
theorem dX6_show_23 : decode cX6_show 23 = .ok (.ifCond .le 7, 3) := by decide +kernel
theorem dX6_show_26 : decode cX6_show 26 = .ok (.iconst 2, 1) := by decide +kernel
theorem dX6_show_27 : decode cX6_show 27 = .ok (.goto 4, 3) := by decide +kernel
theorem dX6_show_30 : decode cX6_show 30 = .ok (.iconst 0, 1) := by decide +kernel
theorem dX6_show_31 : decode cX6_show 31 = .ok (.putfield 78, 3) := by decide +kernel
theorem dX6_show_34 : decode cX6_show 34 = .ok (.aload_n 0, 1) := by decide +kernel
theorem dX6_show_35 : decode cX6_show 35 = .ok (.getfield 78, 3) := by decide +kernel
theorem dX6_show_38 : decode cX6_show 38 = .ok (.ifCond .le 5, 3) := by decide +kernel
theorem dX6_show_41 : decode cX6_show 41 = .ok (.iconst 0, 1) := by decide +kernel
theorem dX6_show_42 : decode cX6_show 42 = .ok (.ireturn, 1) := by decide +kernel
theorem dX6_show_43 : decode cX6_show 43 = .ok (.aload_n 0, 1) := by decide +kernel
theorem dX6_show_44 : decode cX6_show 44 = .ok (.getfield 38, 3) := by decide +kernel
theorem dX6_show_47 : decode cX6_show 47 = .ok (.iload_n 1, 1) := by decide +kernel
theorem dX6_show_48 : decode cX6_show 48 = .ok (.aload_n 0, 1) := by decide +kernel
theorem dX6_show_49 : decode cX6_show 49 = .ok (.getfield 35, 3) := by decide +kernel
theorem dX6_show_52 : decode cX6_show 52 = .ok (.iload_n 1, 1) := by decide +kernel
theorem dX6_show_53 : decode cX6_show 53 = .ok (.iaload, 1) := by decide +kernel
theorem dX6_show_54 : decode cX6_show 54 = .ok (.iastore, 1) := by decide +kernel
theorem dX6_show_55 : decode cX6_show 55 = .ok (.aload_n 0, 1) := by decide +kernel
theorem dX6_show_56 : decode cX6_show 56 = .ok (.getfield 35, 3) := by decide +kernel
theorem dX6_show_59 : decode cX6_show 59 = .ok (.iload_n 1, 1) := by decide +kernel
theorem dX6_show_60 : decode cX6_show 60 = .ok (.iaload, 1) := by decide +kernel
theorem dX6_show_61 : decode cX6_show 61 = .ok (.ireturn, 1) := by decide +kernel
set_option maxRecDepth 20000 in
theorem ggX6_shown_X6_isBranch : GoodIn wsX6_shown wsX6_isBranch := goodIn_r _ [7, 8, 9, 10, 6, 11, 41, 42, 43, 44, 45, 46, 47, 48, 49, 50, 51, 52, 53, 54, 55, 56, 57, 58, 59, 60, 61, 62, 63, 64, 65, 66, 67, 68] (by decide +kernel) (by decide +kernel)
set_option maxRecDepth 20000 in
theorem gX6_shown_X6_isBranch : GoodIn wsX6_shown (wsV RX6 93 RX6 yX6_isBranch wsX6_isBranch) := goodIn_app (goodIn_of _ (by decide +kernel)) ggX6_shown_X6_isBranch
set_option maxRecDepth 20000 in
theorem ggX6_shown_X6_blocksOf : GoodIn wsX6_shown wsX6_blocksOf := goodIn_r _ [15, 16, 17, 18, 19, 20, 21, 22, 23, 6, 24, 25, 26, 27, 28, 29, 30, 31, 9, 10, 11, 32, 33, 34, 35, 36, 37, 38, 39, 40, 41, 42, 43, 44, 45, 46, 47, 48, 49, 50, 51, 52, 53, 54, 55, 56, 57, 58, 59, 60, 61, 62, 63, 64, 65, 66, 67, 68] (by decide +kernel) (by decide +kernel)
set_option maxRecDepth 20000 in
theorem gX6_shown_X6_blocksOf : GoodIn wsX6_shown (wsV RX6 173 RX6 yX6_blocksOf wsX6_blocksOf) := goodIn_app (goodIn_of _ (by decide +kernel)) ggX6_shown_X6_blocksOf
theorem dX6_shown_0 : decode cX6_shown 0 = .ok (.aload_n 0, 1) := by decide +kernel
theorem dX6_shown_1 : decode cX6_shown 1 = .ok (.aload_n 0, 1) := by decide +kernel
theorem dX6_shown_2 : decode cX6_shown 2 = .ok (.iload_n 1, 1) := by decide +kernel
theorem dX6_shown_3 : decode cX6_shown 3 = .ok (.invokevirtual 93, 3) := by decide +kernel
theorem dX6_shown_6 : decode cX6_shown 6 = .ok (.ifCond .eq 7, 3) := by decide +kernel
theorem dX6_shown_9 : decode cX6_shown 9 = .ok (.iconst 0, 1) := by decide +kernel
theorem dX6_shown_10 : decode cX6_shown 10 = .ok (.goto 4, 3) := by decide +kernel
theorem dX6_shown_13 : decode cX6_shown 13 = .ok (.iconst 1, 1) := by decide +kernel
theorem dX6_shown_14 : decode cX6_shown 14 = .ok (.putfield 78, 3) := by decide +kernel
theorem dX6_shown_17 : decode cX6_shown 17 = .ok (.aload_n 0, 1) := by decide +kernel
theorem dX6_shown_18 : decode cX6_shown 18 = .ok (.getfield 78, 3) := by decide +kernel
theorem dX6_shown_21 : decode cX6_shown 21 = .ok (.ifCond .le 5, 3) := by decide +kernel
theorem dX6_shown_24 : decode cX6_shown 24 = .ok (.iconst 0, 1) := by decide +kernel
theorem dX6_shown_25 : decode cX6_shown 25 = .ok (.ireturn, 1) := by decide +kernel
theorem dX6_shown_26 : decode cX6_shown 26 = .ok (.aload_n 0, 1) := by decide +kernel
theorem dX6_shown_27 : decode cX6_shown 27 = .ok (.getfield 38, 3) := by decide +kernel
theorem dX6_shown_30 : decode cX6_shown 30 = .ok (.iload_n 1, 1) := by decide +kernel
theorem dX6_shown_31 : decode cX6_shown 31 = .ok (.iaload, 1) := by decide +kernel
theorem dX6_shown_32 : decode cX6_shown 32 = .ok (.iconst (-1), 1) := by decide +kernel
theorem dX6_shown_33 : decode cX6_shown 33 = .ok (.if_icmp .eq 16, 3) := by decide +kernel
theorem dX6_shown_36 : decode cX6_shown 36 = .ok (.aload_n 0, 1) := by decide +kernel
theorem dX6_shown_37 : decode cX6_shown 37 = .ok (.aload_n 0, 1) := by decide +kernel
theorem dX6_shown_38 : decode cX6_shown 38 = .ok (.getfield 38, 3) := by decide +kernel
theorem dX6_shown_41 : decode cX6_shown 41 = .ok (.iload_n 1, 1) := by decide +kernel
theorem dX6_shown_42 : decode cX6_shown 42 = .ok (.iaload, 1) := by decide +kernel
theorem dX6_shown_43 : decode cX6_shown 43 = .ok (.invokevirtual 173, 3) := by decide +kernel
theorem dX6_shown_46 : decode cX6_shown 46 = .ok (.ifCond .le 7, 3) := by decide +kernel
theorem dX6_shown_49 : decode cX6_shown 49 = .ok (.iconst (-1), 1) := by decide +kernel
theorem dX6_shown_50 : decode cX6_shown 50 = .ok (.goto 9, 3) := by decide +kernel
theorem dX6_shown_53 : decode cX6_shown 53 = .ok (.aload_n 0, 1) := by decide +kernel
theorem dX6_shown_54 : decode cX6_shown 54 = .ok (.getfield 38, 3) := by decide +kernel
theorem dX6_shown_57 : decode cX6_shown 57 = .ok (.iload_n 1, 1) := by decide +kernel
theorem dX6_shown_58 : decode cX6_shown 58 = .ok (.iaload, 1) := by decide +kernel
theorem dX6_shown_59 : decode cX6_shown 59 = .ok (.ireturn, 1) := by decide +kernel
set_option maxRecDepth 20000 in
theorem ggX6_pass_X6_in : GoodIn wsX6_pass wsX6_in := goodIn_r _ [6] (by decide +kernel) (by decide +kernel)
set_option maxRecDepth 20000 in
theorem gX6_pass_X6_in : GoodIn wsX6_pass (va_wsS RX6 81 yX6_in wsX6_in) := goodIn_app (goodIn_of _ (by decide +kernel)) ggX6_pass_X6_in
theorem dX6_pass_0 : decode cX6_pass 0 = .ok (.aload_n 0, 1) := by decide +kernel
theorem dX6_pass_1 : decode cX6_pass 1 = .ok (.iload_n 1, 1) := by decide +kernel
theorem dX6_pass_2 : decode cX6_pass 2 = .ok (.iconst 1, 1) := by decide +kernel
theorem dX6_pass_3 : decode cX6_pass 3 = .ok (.bipush 100, 2) := by decide +kernel
theorem dX6_pass_5 : decode cX6_pass 5 = .ok (.invokestatic 81, 3) := by decide +kernel
theorem dX6_pass_8 : decode cX6_pass 8 = .ok (.ifCond .ne 7, 3) := by decide +kernel
theorem dX6_pass_11 : decode cX6_pass 11 = .ok (.iconst 1, 1) := by decide +kernel
theorem dX6_pass_12 : decode cX6_pass 12 = .ok (.goto 20, 3) := by decide +kernel
theorem dX6_pass_15 : decode cX6_pass 15 = .ok (.aload_n 0, 1) := by decide +kernel
theorem dX6_pass_16 : decode cX6_pass 16 = .ok (.getfield 164, 3) := by decide +kernel
theorem dX6_pass_19 : decode cX6_pass 19 = .ok (.iload_n 1, 1) := by decide +kernel
theorem dX6_pass_20 : decode cX6_pass 20 = .ok (.iadd, 1) := by decide +kernel
theorem dX6_pass_21 : decode cX6_pass 21 = .ok (.sipush 999, 3) := by decide +kernel
theorem dX6_pass_24 : decode cX6_pass 24 = .ok (.if_icmp .le 7, 3) := by decide +kernel
theorem dX6_pass_27 : decode cX6_pass 27 = .ok (.iconst 2, 1) := by decide +kernel
theorem dX6_pass_28 : decode cX6_pass 28 = .ok (.goto 4, 3) := by decide +kernel
theorem dX6_pass_31 : decode cX6_pass 31 = .ok (.iconst 0, 1) := by decide +kernel
theorem dX6_pass_32 : decode cX6_pass 32 = .ok (.putfield 78, 3) := by decide +kernel
theorem dX6_pass_35 : decode cX6_pass 35 = .ok (.aload_n 0, 1) := by decide +kernel
theorem dX6_pass_36 : decode cX6_pass 36 = .ok (.getfield 78, 3) := by decide +kernel
theorem dX6_pass_39 : decode cX6_pass 39 = .ok (.ifCond .le 5, 3) := by decide +kernel
theorem dX6_pass_42 : decode cX6_pass 42 = .ok (.iconst 0, 1) := by decide +kernel
theorem dX6_pass_43 : decode cX6_pass 43 = .ok (.ireturn, 1) := by decide +kernel
theorem dX6_pass_44 : decode cX6_pass 44 = .ok (.aload_n 0, 1) := by decide +kernel
theorem dX6_pass_45 : decode cX6_pass 45 = .ok (.dup, 1) := by decide +kernel
theorem dX6_pass_46 : decode cX6_pass 46 = .ok (.getfield 164, 3) := by decide +kernel
theorem dX6_pass_49 : decode cX6_pass 49 = .ok (.iload_n 1, 1) := by decide +kernel
theorem dX6_pass_50 : decode cX6_pass 50 = .ok (.iadd, 1) := by decide +kernel
theorem dX6_pass_51 : decode cX6_pass 51 = .ok (.putfield 164, 3) := by decide +kernel
theorem dX6_pass_54 : decode cX6_pass 54 = .ok (.aload_n 0, 1) := by decide +kernel
theorem dX6_pass_55 : decode cX6_pass 55 = .ok (.getfield 164, 3) := by decide +kernel
theorem dX6_pass_58 : decode cX6_pass 58 = .ok (.ireturn, 1) := by decide +kernel
theorem dJ13_bitCount_95d88_0 : decode cJ13_bitCount_95d88 0 = .ok (.lload_n 0, 1) := by decide +kernel
theorem dJ13_bitCount_95d88_1 : decode cJ13_bitCount_95d88 1 = .ok (.lload_n 0, 1) := by decide +kernel
theorem dJ13_bitCount_95d88_2 : decode cJ13_bitCount_95d88 2 = .ok (.iconst 1, 1) := by decide +kernel
theorem dJ13_bitCount_95d88_3 : decode cJ13_bitCount_95d88 3 = .ok (.lushr, 1) := by decide +kernel
theorem dJ13_bitCount_95d88_4 : decode cJ13_bitCount_95d88 4 = .ok (.ldc2_w 314, 3) := by decide +kernel
theorem dJ13_bitCount_95d88_7 : decode cJ13_bitCount_95d88 7 = .ok (.land, 1) := by decide +kernel
theorem dJ13_bitCount_95d88_8 : decode cJ13_bitCount_95d88 8 = .ok (.lsub, 1) := by decide +kernel
theorem dJ13_bitCount_95d88_9 : decode cJ13_bitCount_95d88 9 = .ok (.lstore_n 0, 1) := by decide +kernel
theorem dJ13_bitCount_95d88_10 : decode cJ13_bitCount_95d88 10 = .ok (.lload_n 0, 1) := by decide +kernel
theorem dJ13_bitCount_95d88_11 : decode cJ13_bitCount_95d88 11 = .ok (.ldc2_w 316, 3) := by decide +kernel
theorem dJ13_bitCount_95d88_14 : decode cJ13_bitCount_95d88 14 = .ok (.land, 1) := by decide +kernel
theorem dJ13_bitCount_95d88_15 : decode cJ13_bitCount_95d88 15 = .ok (.lload_n 0, 1) := by decide +kernel
theorem dJ13_bitCount_95d88_16 : decode cJ13_bitCount_95d88 16 = .ok (.iconst 2, 1) := by decide +kernel
theorem dJ13_bitCount_95d88_17 : decode cJ13_bitCount_95d88 17 = .ok (.lushr, 1) := by decide +kernel
theorem dJ13_bitCount_95d88_18 : decode cJ13_bitCount_95d88 18 = .ok (.ldc2_w 316, 3) := by decide +kernel
theorem dJ13_bitCount_95d88_21 : decode cJ13_bitCount_95d88 21 = .ok (.land, 1) := by decide +kernel
theorem dJ13_bitCount_95d88_22 : decode cJ13_bitCount_95d88 22 = .ok (.ladd, 1) := by decide +kernel
theorem dJ13_bitCount_95d88_23 : decode cJ13_bitCount_95d88 23 = .ok (.lstore_n 0, 1) := by decide +kernel
theorem dJ13_bitCount_95d88_24 : decode cJ13_bitCount_95d88 24 = .ok (.lload_n 0, 1) := by decide +kernel
theorem dJ13_bitCount_95d88_25 : decode cJ13_bitCount_95d88 25 = .ok (.lload_n 0, 1) := by decide +kernel
theorem dJ13_bitCount_95d88_26 : decode cJ13_bitCount_95d88 26 = .ok (.iconst 4, 1) := by decide +kernel
theorem dJ13_bitCount_95d88_27 : decode cJ13_bitCount_95d88 27 = .ok (.lushr, 1) := by decide +kernel
theorem dJ13_bitCount_95d88_28 : decode cJ13_bitCount_95d88 28 = .ok (.ladd, 1) := by decide +kernel
theorem dJ13_bitCount_95d88_29 : decode cJ13_bitCount_95d88 29 = .ok (.ldc2_w 318, 3) := by decide +kernel
theorem dJ13_bitCount_95d88_32 : decode cJ13_bitCount_95d88 32 = .ok (.land, 1) := by decide +kernel
theorem dJ13_bitCount_95d88_33 : decode cJ13_bitCount_95d88 33 = .ok (.lstore_n 0, 1) := by decide +kernel
theorem dJ13_bitCount_95d88_34 : decode cJ13_bitCount_95d88 34 = .ok (.lload_n 0, 1) := by decide +kernel
theorem dJ13_bitCount_95d88_35 : decode cJ13_bitCount_95d88 35 = .ok (.lload_n 0, 1) := by decide +kernel
theorem dJ13_bitCount_95d88_36 : decode cJ13_bitCount_95d88 36 = .ok (.bipush 8, 2) := by decide +kernel
theorem dJ13_bitCount_95d88_38 : decode cJ13_bitCount_95d88 38 = .ok (.lushr, 1) := by decide +kernel
theorem dJ13_bitCount_95d88_39 : decode cJ13_bitCount_95d88 39 = .ok (.ladd, 1) := by decide +kernel
theorem dJ13_bitCount_95d88_40 : decode cJ13_bitCount_95d88 40 = .ok (.lstore_n 0, 1) := by decide +kernel
theorem dJ13_bitCount_95d88_41 : decode cJ13_bitCount_95d88 41 = .ok (.lload_n 0, 1) := by decide +kernel
theorem dJ13_bitCount_95d88_42 : decode cJ13_bitCount_95d88 42 = .ok (.lload_n 0, 1) := by decide +kernel
theorem dJ13_bitCount_95d88_43 : decode cJ13_bitCount_95d88 43 = .ok (.bipush 16, 2) := by decide +kernel
theorem dJ13_bitCount_95d88_45 : decode cJ13_bitCount_95d88 45 = .ok (.lushr, 1) := by decide +kernel
theorem dJ13_bitCount_95d88_46 : decode cJ13_bitCount_95d88 46 = .ok (.ladd, 1) := by decide +kernel
theorem dJ13_bitCount_95d88_47 : decode cJ13_bitCount_95d88 47 = .ok (.lstore_n 0, 1) := by decide +kernel
theorem dJ13_bitCount_95d88_48 : decode cJ13_bitCount_95d88 48 = .ok (.lload_n 0, 1) := by decide +kernel
theorem dJ13_bitCount_95d88_49 : decode cJ13_bitCount_95d88 49 = .ok (.lload_n 0, 1) := by decide +kernel
theorem dJ13_bitCount_95d88_50 : decode cJ13_bitCount_95d88 50 = .ok (.bipush 32, 2) := by decide +kernel
theorem dJ13_bitCount_95d88_52 : decode cJ13_bitCount_95d88 52 = .ok (.lushr, 1) := by decide +kernel
theorem dJ13_bitCount_95d88_53 : decode cJ13_bitCount_95d88 53 = .ok (.ladd, 1) := by decide +kernel
theorem dJ13_bitCount_95d88_54 : decode cJ13_bitCount_95d88 54 = .ok (.lstore_n 0, 1) := by decide +kernel
theorem dJ13_bitCount_95d88_55 : decode cJ13_bitCount_95d88 55 = .ok (.lload_n 0, 1) := by decide +kernel
theorem dJ13_bitCount_95d88_56 : decode cJ13_bitCount_95d88 56 = .ok (.l2i, 1) := by decide +kernel
theorem dJ13_bitCount_95d88_57 : decode cJ13_bitCount_95d88 57 = .ok (.bipush 127, 2) := by decide +kernel
theorem dJ13_bitCount_95d88_59 : decode cJ13_bitCount_95d88 59 = .ok (.iand, 1) := by decide +kernel
theorem dJ13_bitCount_95d88_60 : decode cJ13_bitCount_95d88 60 = .ok (.ireturn, 1) := by decide +kernel
set_option maxRecDepth 20000 in
theorem ggL_branch_X5_branch : GoodIn wsL_branch wsX5_branch := goodIn_ca (goodIn_ca (goodIn_r _ [7, 8, 9, 10, 11, 12, 13, 14, 6, 15, 16, 17, 18, 19, 20, 21, 22, 23, 24, 25, 26, 27, 28, 29, 30] (by decide +kernel) (by decide +kernel)) (goodIn_sub (fun _ h => List.mem_cons_of_mem _ (List.mem_append_left _ (List.mem_append_right _ h))) (by decide +kernel))) (goodIn_sub (fun _ h => List.mem_cons_of_mem _ (List.mem_append_right _ h)) (by decide +kernel))
set_option maxRecDepth 20000 in
theorem gL_branch_X5_branch : GoodIn wsL_branch (wsV RL 7 RX5 yX5_branch wsX5_branch) := goodIn_app (goodIn_of _ (by decide +kernel)) ggL_branch_X5_branch
theorem dL_branch_0 : decode cL_branch 0 = .ok (.aload_n 2, 1) := by decide +kernel
theorem dL_branch_1 : decode cL_branch 1 = .ok (.iconst 0, 1) := by decide +kernel
theorem dL_branch_2 : decode cL_branch 2 = .ok (.aload_n 0, 1) := by decide +kernel
theorem dL_branch_3 : decode cL_branch 3 = .ok (.iload_n 1, 1) := by decide +kernel
theorem dL_branch_4 : decode cL_branch 4 = .ok (.invokevirtual 7, 3) := by decide +kernel
theorem dL_branch_7 : decode cL_branch 7 = .ok (.i2l, 1) := by decide +kernel
theorem dL_branch_8 : decode cL_branch 8 = .ok (.lastore, 1) := by decide +kernel
theorem dL_branch_9 : decode cL_branch 9 = .ok (.goto 9, 3) := by decide +kernel
theorem dL_branch_12 : decode cL_branch 12 = .ok (.astore_n 3, 1) := by decide +kernel
theorem dL_branch_13 : decode cL_branch 13 = .ok (.iconst 1, 1) := by decide +kernel
theorem dL_branch_14 : decode cL_branch 14 = .ok (.ireturn, 1) := by decide +kernel
theorem dL_branch_15 : decode cL_branch 15 = .ok (.astore_n 3, 1) := by decide +kernel
theorem dL_branch_16 : decode cL_branch 16 = .ok (.iconst 2, 1) := by decide +kernel
theorem dL_branch_17 : decode cL_branch 17 = .ok (.ireturn, 1) := by decide +kernel
theorem dL_branch_18 : decode cL_branch 18 = .ok (.iconst 0, 1) := by decide +kernel
theorem dL_branch_19 : decode cL_branch 19 = .ok (.ireturn, 1) := by decide +kernel
set_option maxRecDepth 20000 in
theorem ggL_add_X5_add : GoodIn wsL_add wsX5_add := goodIn_ca (goodIn_ca (goodIn_r _ [7, 8, 9, 10, 11, 12, 13, 14, 15, 16, 6, 17, 18, 19, 20, 21, 22, 23, 24, 25, 26, 27, 28, 29, 30, 31, 32, 33, 34, 35, 36, 37, 38, 39, 40, 41, 42, 43, 44, 45, 46, 47, 48, 49, 50, 51, 52, 53, 54, 55, 56, 57, 58, 59, 60, 61, 62, 63, 64, 65, 66, 67, 68, 69, 70, 71, 72, 73, 74, 75, 76, 77, 78, 79, 80, 81, 82, 83, 84, 85, 86] (by decide +kernel) (by decide +kernel)) (goodIn_sub (fun _ h => List.mem_cons_of_mem _ (List.mem_append_left _ (List.mem_append_right _ h))) (by decide +kernel))) (goodIn_sub (fun _ h => List.mem_cons_of_mem _ (List.mem_append_right _ h)) (by decide +kernel))
set_option maxRecDepth 20000 in
theorem gL_add_X5_add : GoodIn wsL_add (wsV RL 17 RX5 yX5_add wsX5_add) := goodIn_app (goodIn_of _ (by decide +kernel)) ggL_add_X5_add
theorem dL_add_0 : decode cL_add 0 = .ok (.aload_n 3, 1) := by decide +kernel
theorem dL_add_1 : decode cL_add 1 = .ok (.iconst 0, 1) := by decide +kernel
theorem dL_add_2 : decode cL_add 2 = .ok (.aload_n 0, 1) := by decide +kernel
theorem dL_add_3 : decode cL_add 3 = .ok (.iload_n 1, 1) := by decide +kernel
theorem dL_add_4 : decode cL_add 4 = .ok (.iload_n 2, 1) := by decide +kernel
theorem dL_add_5 : decode cL_add 5 = .ok (.invokevirtual 17, 3) := by decide +kernel
theorem dL_add_8 : decode cL_add 8 = .ok (.i2l, 1) := by decide +kernel
theorem dL_add_9 : decode cL_add 9 = .ok (.lastore, 1) := by decide +kernel
theorem dL_add_10 : decode cL_add 10 = .ok (.goto 11, 3) := by decide +kernel
theorem dL_add_13 : decode cL_add 13 = .ok (.astore 4, 2) := by decide +kernel
theorem dL_add_15 : decode cL_add 15 = .ok (.iconst 1, 1) := by decide +kernel
theorem dL_add_16 : decode cL_add 16 = .ok (.ireturn, 1) := by decide +kernel
theorem dL_add_17 : decode cL_add 17 = .ok (.astore 4, 2) := by decide +kernel
theorem dL_add_19 : decode cL_add 19 = .ok (.iconst 2, 1) := by decide +kernel
theorem dL_add_20 : decode cL_add 20 = .ok (.ireturn, 1) := by decide +kernel
theorem dL_add_21 : decode cL_add 21 = .ok (.iconst 0, 1) := by decide +kernel
theorem dL_add_22 : decode cL_add 22 = .ok (.ireturn, 1) := by decide +kernel
set_option maxRecDepth 20000 in
theorem ggL_set_X5_set : GoodIn wsL_set wsX5_set := goodIn_ca (goodIn_ca (goodIn_ca (goodIn_r _ [8, 9, 10, 11, 12, 13, 7, 14, 15, 16, 17, 18, 19, 20, 21, 22, 23, 24, 25, 26, 27, 28, 29, 30, 31, 32, 33, 34, 35, 36, 37, 38, 39, 40, 41, 42, 43, 44, 45, 46, 47, 48, 49, 50, 51, 52, 53, 54, 55, 56, 57, 58, 59, 60, 61, 62, 63, 64, 65, 66, 67, 68, 69, 70, 71, 72, 73, 74, 75, 76, 77, 78, 79, 80, 81, 82, 83, 84, 85, 86, 87, 88, 89, 90] (by decide +kernel) (by decide +kernel)) (goodIn_sub (fun _ h => List.mem_cons_of_mem _ (List.mem_append_left _ (List.mem_append_left _ (List.mem_append_right _ h)))) (by decide +kernel))) (goodIn_sub (fun _ h => List.mem_cons_of_mem _ (List.mem_append_left _ (List.mem_append_right _ h))) (by decide +kernel))) (goodIn_sub (fun _ h => List.mem_cons_of_mem _ (List.mem_append_right _ h)) (by decide +kernel))
set_option maxRecDepth 20000 in
theorem gL_set_X5_set : GoodIn wsL_set (wsV RL 21 RX5 yX5_set wsX5_set) := goodIn_app (goodIn_of _ (by decide +kernel)) ggL_set_X5_set
theorem dL_set_0 : decode cL_set 0 = .ok (.aload 5, 2) := by decide +kernel
theorem dL_set_2 : decode cL_set 2 = .ok (.iconst 0, 1) := by decide +kernel
theorem dL_set_3 : decode cL_set 3 = .ok (.aload_n 0, 1) := by decide +kernel
theorem dL_set_4 : decode cL_set 4 = .ok (.iload_n 1, 1) := by decide +kernel
theorem dL_set_5 : decode cL_set 5 = .ok (.iload_n 2, 1) := by decide +kernel
theorem dL_set_6 : decode cL_set 6 = .ok (.iload_n 3, 1) := by decide +kernel
theorem dL_set_7 : decode cL_set 7 = .ok (.iload 4, 2) := by decide +kernel
theorem dL_set_9 : decode cL_set 9 = .ok (.invokevirtual 21, 3) := by decide +kernel
theorem dL_set_12 : decode cL_set 12 = .ok (.i2l, 1) := by decide +kernel
theorem dL_set_13 : decode cL_set 13 = .ok (.lastore, 1) := by decide +kernel
theorem dL_set_14 : decode cL_set 14 = .ok (.goto 15, 3) := by decide +kernel
theorem dL_set_17 : decode cL_set 17 = .ok (.astore 6, 2) := by decide +kernel
theorem dL_set_19 : decode cL_set 19 = .ok (.iconst 1, 1) := by decide +kernel
theorem dL_set_20 : decode cL_set 20 = .ok (.ireturn, 1) := by decide +kernel
theorem dL_set_21 : decode cL_set 21 = .ok (.astore 6, 2) := by decide +kernel
theorem dL_set_23 : decode cL_set 23 = .ok (.iconst 2, 1) := by decide +kernel
theorem dL_set_24 : decode cL_set 24 = .ok (.ireturn, 1) := by decide +kernel
theorem dL_set_25 : decode cL_set 25 = .ok (.astore 6, 2) := by decide +kernel
theorem dL_set_27 : decode cL_set 27 = .ok (.iconst 3, 1) := by decide +kernel
theorem dL_set_28 : decode cL_set 28 = .ok (.ireturn, 1) := by decide +kernel
theorem dL_set_29 : decode cL_set 29 = .ok (.iconst 0, 1) := by decide +kernel
theorem dL_set_30 : decode cL_set 30 = .ok (.ireturn, 1) := by decide +kernel
set_option maxRecDepth 20000 in
theorem ggL_drop_X5_drop : GoodIn wsL_drop wsX5_drop := goodIn_ca (goodIn_ca (goodIn_r _ [7, 8, 9, 10, 11, 6, 12, 13, 14, 15, 16, 17, 18, 19, 20, 21, 22, 23, 24, 25, 26, 27, 28, 29, 30, 31, 32, 33, 34, 35, 36, 37, 38, 39, 40, 41, 42, 43, 44, 45, 46, 47, 48, 49, 50, 51, 52, 53, 54, 55, 56, 57, 58, 59, 60, 61, 62, 63, 64, 65, 66, 67, 68, 69, 70, 71, 72, 73, 74, 75, 76, 77, 78, 79, 80, 81, 82, 83, 84, 85, 86, 87, 88, 89, 90, 91, 92] (by decide +kernel) (by decide +kernel)) (goodIn_sub (fun _ h => List.mem_cons_of_mem _ (List.mem_append_left _ (List.mem_append_right _ h))) (by decide +kernel))) (goodIn_sub (fun _ h => List.mem_cons_of_mem _ (List.mem_append_right _ h)) (by decide +kernel))
set_option maxRecDepth 20000 in
theorem gL_drop_X5_drop : GoodIn wsL_drop (wsV RL 27 RX5 yX5_drop wsX5_drop) := goodIn_app (goodIn_of _ (by decide +kernel)) ggL_drop_X5_drop
theorem dL_drop_0 : decode cL_drop 0 = .ok (.aload_n 3, 1) := by decide +kernel
theorem dL_drop_1 : decode cL_drop 1 = .ok (.iconst 0, 1) := by decide +kernel
theorem dL_drop_2 : decode cL_drop 2 = .ok (.aload_n 0, 1) := by decide +kernel
theorem dL_drop_3 : decode cL_drop 3 = .ok (.iload_n 1, 1) := by decide +kernel
theorem dL_drop_4 : decode cL_drop 4 = .ok (.iload_n 2, 1) := by decide +kernel
theorem dL_drop_5 : decode cL_drop 5 = .ok (.invokevirtual 27, 3) := by decide +kernel
theorem dL_drop_8 : decode cL_drop 8 = .ok (.i2l, 1) := by decide +kernel
theorem dL_drop_9 : decode cL_drop 9 = .ok (.lastore, 1) := by decide +kernel
theorem dL_drop_10 : decode cL_drop 10 = .ok (.goto 11, 3) := by decide +kernel
theorem dL_drop_13 : decode cL_drop 13 = .ok (.astore 4, 2) := by decide +kernel
theorem dL_drop_15 : decode cL_drop 15 = .ok (.iconst 1, 1) := by decide +kernel
theorem dL_drop_16 : decode cL_drop 16 = .ok (.ireturn, 1) := by decide +kernel
theorem dL_drop_17 : decode cL_drop 17 = .ok (.astore 4, 2) := by decide +kernel
theorem dL_drop_19 : decode cL_drop 19 = .ok (.iconst 2, 1) := by decide +kernel
theorem dL_drop_20 : decode cL_drop 20 = .ok (.ireturn, 1) := by decide +kernel
theorem dL_drop_21 : decode cL_drop 21 = .ok (.iconst 0, 1) := by decide +kernel
theorem dL_drop_22 : decode cL_drop 22 = .ok (.ireturn, 1) := by decide +kernel
set_option maxRecDepth 20000 in
theorem ggL_head_X5_head : GoodIn wsL_head wsX5_head := goodIn_ca (goodIn_r _ [6, 7, 8, 9, 10, 5, 11, 12, 13, 14, 15, 16, 17, 18, 19, 20, 21, 22, 23, 24, 25, 26] (by decide +kernel) (by decide +kernel)) (goodIn_sub (fun _ h => List.mem_cons_of_mem _ (List.mem_append_right _ h)) (by decide +kernel))
set_option maxRecDepth 20000 in
theorem gL_head_X5_head : GoodIn wsL_head (wsV RL 30 RX5 yX5_head wsX5_head) := goodIn_app (goodIn_of _ (by decide +kernel)) ggL_head_X5_head
theorem dL_head_0 : decode cL_head 0 = .ok (.aload_n 2, 1) := by decide +kernel
theorem dL_head_1 : decode cL_head 1 = .ok (.iconst 0, 1) := by decide +kernel
theorem dL_head_2 : decode cL_head 2 = .ok (.aload_n 0, 1) := by decide +kernel
theorem dL_head_3 : decode cL_head 3 = .ok (.iload_n 1, 1) := by decide +kernel
theorem dL_head_4 : decode cL_head 4 = .ok (.invokevirtual 30, 3) := by decide +kernel
theorem dL_head_7 : decode cL_head 7 = .ok (.i2l, 1) := by decide +kernel
theorem dL_head_8 : decode cL_head 8 = .ok (.lastore, 1) := by decide +kernel
theorem dL_head_9 : decode cL_head 9 = .ok (.goto 6, 3) := by decide +kernel
theorem dL_head_12 : decode cL_head 12 = .ok (.astore_n 3, 1) := by decide +kernel
theorem dL_head_13 : decode cL_head 13 = .ok (.iconst 1, 1) := by decide +kernel
theorem dL_head_14 : decode cL_head 14 = .ok (.ireturn, 1) := by decide +kernel
theorem dL_head_15 : decode cL_head 15 = .ok (.iconst 0, 1) := by decide +kernel
theorem dL_head_16 : decode cL_head 16 = .ok (.ireturn, 1) := by decide +kernel
set_option maxRecDepth 20000 in
theorem ggL_about_X5_about : GoodIn wsL_about wsX5_about := goodIn_ca (goodIn_ca (goodIn_r _ [7, 8, 9, 10, 11, 12, 13, 14, 15, 16, 17, 18, 19, 6, 20, 21, 22, 23, 24, 25, 26, 27, 28, 29, 30, 31, 32, 33, 34, 35, 36, 37, 38, 39, 40, 41, 42, 43, 44, 45, 46, 47, 48, 49, 50] (by decide +kernel) (by decide +kernel)) (goodIn_sub (fun _ h => List.mem_cons_of_mem _ (List.mem_append_left _ (List.mem_append_right _ h))) (by decide +kernel))) (goodIn_sub (fun _ h => List.mem_cons_of_mem _ (List.mem_append_right _ h)) (by decide +kernel))
set_option maxRecDepth 20000 in
theorem gL_about_X5_about : GoodIn wsL_about (wsV RL 33 RX5 yX5_about wsX5_about) := goodIn_app (goodIn_of _ (by decide +kernel)) ggL_about_X5_about
theorem dL_about_0 : decode cL_about 0 = .ok (.aload_n 3, 1) := by decide +kernel
theorem dL_about_1 : decode cL_about 1 = .ok (.iconst 0, 1) := by decide +kernel
theorem dL_about_2 : decode cL_about 2 = .ok (.aload_n 0, 1) := by decide +kernel
theorem dL_about_3 : decode cL_about 3 = .ok (.iload_n 1, 1) := by decide +kernel
theorem dL_about_4 : decode cL_about 4 = .ok (.iload_n 2, 1) := by decide +kernel
theorem dL_about_5 : decode cL_about 5 = .ok (.invokevirtual 33, 3) := by decide +kernel
theorem dL_about_8 : decode cL_about 8 = .ok (.i2l, 1) := by decide +kernel
theorem dL_about_9 : decode cL_about 9 = .ok (.lastore, 1) := by decide +kernel
theorem dL_about_10 : decode cL_about 10 = .ok (.goto 11, 3) := by decide +kernel
theorem dL_about_13 : decode cL_about 13 = .ok (.astore 4, 2) := by decide +kernel
theorem dL_about_15 : decode cL_about 15 = .ok (.iconst 1, 1) := by decide +kernel
theorem dL_about_16 : decode cL_about 16 = .ok (.ireturn, 1) := by decide +kernel
theorem dL_about_17 : decode cL_about 17 = .ok (.astore 4, 2) := by decide +kernel
theorem dL_about_19 : decode cL_about 19 = .ok (.iconst 2, 1) := by decide +kernel
theorem dL_about_20 : decode cL_about 20 = .ok (.ireturn, 1) := by decide +kernel
theorem dL_about_21 : decode cL_about 21 = .ok (.iconst 0, 1) := by decide +kernel
theorem dL_about_22 : decode cL_about 22 = .ok (.ireturn, 1) := by decide +kernel
set_option maxRecDepth 20000 in
theorem ggL_value_X5_value : GoodIn wsL_value wsX5_value := goodIn_ca (goodIn_r _ [6, 7, 8, 9, 10, 11, 5, 12, 13, 14, 15, 16, 17, 18, 19, 20, 21, 22, 23, 24, 25, 26, 27, 28, 29, 30, 31, 32, 33, 34, 35, 36, 37, 38, 39, 40, 41, 42, 43, 44, 45, 46, 47, 48, 49, 50, 51, 52, 53, 54, 55, 56, 57, 58, 59] (by decide +kernel) (by decide +kernel)) (goodIn_sub (fun _ h => List.mem_cons_of_mem _ (List.mem_append_right _ h)) (by decide +kernel))
set_option maxRecDepth 20000 in
theorem gL_value_X5_value : GoodIn wsL_value (wsV RL 36 RX5 yX5_value wsX5_value) := goodIn_app (goodIn_of _ (by decide +kernel)) ggL_value_X5_value
theorem dL_value_0 : decode cL_value 0 = .ok (.aload 4, 2) := by decide +kernel
theorem dL_value_2 : decode cL_value 2 = .ok (.iconst 0, 1) := by decide +kernel
theorem dL_value_3 : decode cL_value 3 = .ok (.aload_n 0, 1) := by decide +kernel
theorem dL_value_4 : decode cL_value 4 = .ok (.iload_n 1, 1) := by decide +kernel
theorem dL_value_5 : decode cL_value 5 = .ok (.iload_n 2, 1) := by decide +kernel
theorem dL_value_6 : decode cL_value 6 = .ok (.iload_n 3, 1) := by decide +kernel
theorem dL_value_7 : decode cL_value 7 = .ok (.invokevirtual 36, 3) := by decide +kernel
theorem dL_value_10 : decode cL_value 10 = .ok (.i2l, 1) := by decide +kernel
theorem dL_value_11 : decode cL_value 11 = .ok (.lastore, 1) := by decide +kernel
theorem dL_value_12 : decode cL_value 12 = .ok (.goto 7, 3) := by decide +kernel
theorem dL_value_15 : decode cL_value 15 = .ok (.astore 5, 2) := by decide +kernel
theorem dL_value_17 : decode cL_value 17 = .ok (.iconst 1, 1) := by decide +kernel
theorem dL_value_18 : decode cL_value 18 = .ok (.ireturn, 1) := by decide +kernel
theorem dL_value_19 : decode cL_value 19 = .ok (.iconst 0, 1) := by decide +kernel
theorem dL_value_20 : decode cL_value 20 = .ok (.ireturn, 1) := by decide +kernel
set_option maxRecDepth 20000 in
theorem ggL_slideAt_X5_slideAt : GoodIn wsL_slideAt wsX5_slideAt := goodIn_ca (goodIn_r _ [6, 7, 8, 9, 10, 11, 12, 13, 14, 15, 5, 16, 17, 18, 19, 20, 21, 22, 23, 24, 25, 26, 27, 28, 29, 30, 31, 32, 33, 34, 35, 36, 37] (by decide +kernel) (by decide +kernel)) (goodIn_sub (fun _ h => List.mem_cons_of_mem _ (List.mem_append_right _ h)) (by decide +kernel))
set_option maxRecDepth 20000 in
theorem gL_slideAt_X5_slideAt : GoodIn wsL_slideAt (wsV RL 40 RX5 yX5_slideAt wsX5_slideAt) := goodIn_app (goodIn_of _ (by decide +kernel)) ggL_slideAt_X5_slideAt
theorem dL_slideAt_0 : decode cL_slideAt 0 = .ok (.aload_n 3, 1) := by decide +kernel
theorem dL_slideAt_1 : decode cL_slideAt 1 = .ok (.iconst 0, 1) := by decide +kernel
theorem dL_slideAt_2 : decode cL_slideAt 2 = .ok (.aload_n 0, 1) := by decide +kernel
theorem dL_slideAt_3 : decode cL_slideAt 3 = .ok (.iload_n 1, 1) := by decide +kernel
theorem dL_slideAt_4 : decode cL_slideAt 4 = .ok (.iload_n 2, 1) := by decide +kernel
theorem dL_slideAt_5 : decode cL_slideAt 5 = .ok (.invokevirtual 40, 3) := by decide +kernel
theorem dL_slideAt_8 : decode cL_slideAt 8 = .ok (.i2l, 1) := by decide +kernel
theorem dL_slideAt_9 : decode cL_slideAt 9 = .ok (.lastore, 1) := by decide +kernel
theorem dL_slideAt_10 : decode cL_slideAt 10 = .ok (.goto 7, 3) := by decide +kernel
theorem dL_slideAt_13 : decode cL_slideAt 13 = .ok (.astore 4, 2) := by decide +kernel
theorem dL_slideAt_15 : decode cL_slideAt 15 = .ok (.iconst 1, 1) := by decide +kernel
theorem dL_slideAt_16 : decode cL_slideAt 16 = .ok (.ireturn, 1) := by decide +kernel
theorem dL_slideAt_17 : decode cL_slideAt 17 = .ok (.iconst 0, 1) := by decide +kernel
theorem dL_slideAt_18 : decode cL_slideAt 18 = .ok (.ireturn, 1) := by decide +kernel
set_option maxRecDepth 20000 in
theorem ggL_base_X5_base : GoodIn wsL_base wsX5_base := goodIn_ca (goodIn_ca (goodIn_r _ [7, 8, 9, 10, 6, 11, 12, 13, 14, 15, 16, 17, 18, 19, 20, 21, 22, 23, 24, 25, 26, 27, 28, 29, 30, 31, 32, 33, 34, 35, 36, 37, 38, 39, 40, 41, 42, 43, 44] (by decide +kernel) (by decide +kernel)) (goodIn_sub (fun _ h => List.mem_cons_of_mem _ (List.mem_append_left _ (List.mem_append_right _ h))) (by decide +kernel))) (goodIn_sub (fun _ h => List.mem_cons_of_mem _ (List.mem_append_right _ h)) (by decide +kernel))
set_option maxRecDepth 20000 in
theorem gL_base_X5_base : GoodIn wsL_base (wsV RL 43 RX5 yX5_base wsX5_base) := goodIn_app (goodIn_of _ (by decide +kernel)) ggL_base_X5_base
theorem dL_base_0 : decode cL_base 0 = .ok (.aload_n 3, 1) := by decide +kernel
theorem dL_base_1 : decode cL_base 1 = .ok (.iconst 0, 1) := by decide +kernel
theorem dL_base_2 : decode cL_base 2 = .ok (.aload_n 0, 1) := by decide +kernel
theorem dL_base_3 : decode cL_base 3 = .ok (.iload_n 1, 1) := by decide +kernel
theorem dL_base_4 : decode cL_base 4 = .ok (.iload_n 2, 1) := by decide +kernel
theorem dL_base_5 : decode cL_base 5 = .ok (.invokevirtual 43, 3) := by decide +kernel
theorem dL_base_8 : decode cL_base 8 = .ok (.i2l, 1) := by decide +kernel
theorem dL_base_9 : decode cL_base 9 = .ok (.lastore, 1) := by decide +kernel
theorem dL_base_10 : decode cL_base 10 = .ok (.goto 11, 3) := by decide +kernel
theorem dL_base_13 : decode cL_base 13 = .ok (.astore 4, 2) := by decide +kernel
theorem dL_base_15 : decode cL_base 15 = .ok (.iconst 1, 1) := by decide +kernel
theorem dL_base_16 : decode cL_base 16 = .ok (.ireturn, 1) := by decide +kernel
theorem dL_base_17 : decode cL_base 17 = .ok (.astore 4, 2) := by decide +kernel
theorem dL_base_19 : decode cL_base 19 = .ok (.iconst 2, 1) := by decide +kernel
theorem dL_base_20 : decode cL_base 20 = .ok (.ireturn, 1) := by decide +kernel
theorem dL_base_21 : decode cL_base 21 = .ok (.iconst 0, 1) := by decide +kernel
theorem dL_base_22 : decode cL_base 22 = .ok (.ireturn, 1) := by decide +kernel
set_option maxRecDepth 20000 in
theorem ggL_clashes_X5_clashes : GoodIn wsL_clashes wsX5_clashes := goodIn_ca (goodIn_ca (goodIn_r _ [7, 8, 9, 10, 11, 6, 12, 13, 14, 15, 16, 17, 18, 19, 20, 21, 22, 23, 24, 25, 26, 27, 28, 29, 30, 31, 32, 33, 34, 35, 36, 37, 38, 39, 40, 41, 42, 43, 44, 45, 46, 47, 48, 49, 50, 51, 52, 53, 54, 55, 56, 57, 58, 59, 60, 61, 62, 63, 64, 65, 66, 67, 68, 69, 70, 71, 72, 73, 74, 75, 76, 77, 78, 79, 80, 81, 82, 83, 84, 85, 86, 87, 88, 89, 90, 91, 92, 93, 94, 95, 96, 97, 98, 99, 100, 101, 102, 103, 104, 105, 106, 107, 108] (by decide +kernel) (by decide +kernel)) (goodIn_sub (fun _ h => List.mem_cons_of_mem _ (List.mem_append_left _ (List.mem_append_right _ h))) (by decide +kernel))) (goodIn_sub (fun _ h => List.mem_cons_of_mem _ (List.mem_append_right _ h)) (by decide +kernel))
set_option maxRecDepth 20000 in
theorem gL_clashes_X5_clashes : GoodIn wsL_clashes (wsV RL 46 RX5 yX5_clashes wsX5_clashes) := goodIn_app (goodIn_of _ (by decide +kernel)) ggL_clashes_X5_clashes
theorem dL_clashes_0 : decode cL_clashes 0 = .ok (.aload_n 3, 1) := by decide +kernel
theorem dL_clashes_1 : decode cL_clashes 1 = .ok (.iconst 0, 1) := by decide +kernel
theorem dL_clashes_2 : decode cL_clashes 2 = .ok (.aload_n 0, 1) := by decide +kernel
theorem dL_clashes_3 : decode cL_clashes 3 = .ok (.iload_n 1, 1) := by decide +kernel
theorem dL_clashes_4 : decode cL_clashes 4 = .ok (.iload_n 2, 1) := by decide +kernel
theorem dL_clashes_5 : decode cL_clashes 5 = .ok (.invokevirtual 46, 3) := by decide +kernel
theorem dL_clashes_8 : decode cL_clashes 8 = .ok (.i2l, 1) := by decide +kernel
theorem dL_clashes_9 : decode cL_clashes 9 = .ok (.lastore, 1) := by decide +kernel
theorem dL_clashes_10 : decode cL_clashes 10 = .ok (.goto 11, 3) := by decide +kernel
theorem dL_clashes_13 : decode cL_clashes 13 = .ok (.astore 4, 2) := by decide +kernel
theorem dL_clashes_15 : decode cL_clashes 15 = .ok (.iconst 1, 1) := by decide +kernel
theorem dL_clashes_16 : decode cL_clashes 16 = .ok (.ireturn, 1) := by decide +kernel
theorem dL_clashes_17 : decode cL_clashes 17 = .ok (.astore 4, 2) := by decide +kernel
theorem dL_clashes_19 : decode cL_clashes 19 = .ok (.iconst 2, 1) := by decide +kernel
theorem dL_clashes_20 : decode cL_clashes 20 = .ok (.ireturn, 1) := by decide +kernel
theorem dL_clashes_21 : decode cL_clashes 21 = .ok (.iconst 0, 1) := by decide +kernel
theorem dL_clashes_22 : decode cL_clashes 22 = .ok (.ireturn, 1) := by decide +kernel
set_option maxRecDepth 20000 in
theorem ggL_merged_X5_merged : GoodIn wsL_merged wsX5_merged := goodIn_ca (goodIn_ca (goodIn_r _ [7, 8, 9, 10, 11, 12, 6, 13, 14, 15, 16, 17, 18, 19, 20, 21, 22, 23, 24, 25, 26, 27, 28, 29, 30, 31, 32, 33, 34, 35, 36, 37, 38, 39, 40, 41, 42, 43, 44, 45, 46, 47, 48, 49, 50, 51, 52, 53, 54, 55, 56, 57, 58, 59, 60, 61, 62, 63, 64, 65, 66, 67, 68, 69, 70, 71, 72, 73, 74, 75, 76, 77, 78, 79, 80, 81, 82, 83, 84, 85, 86, 87, 88, 89, 90, 91, 92, 93, 94, 95, 96, 97, 98, 99, 100, 101, 102, 103, 104, 105, 106, 107, 108, 109, 110, 111, 112, 113, 114, 115, 116, 117, 118, 119, 120, 121, 122, 123] (by decide +kernel) (by decide +kernel)) (goodIn_sub (fun _ h => List.mem_cons_of_mem _ (List.mem_append_left _ (List.mem_append_right _ h))) (by decide +kernel))) (goodIn_sub (fun _ h => List.mem_cons_of_mem _ (List.mem_append_right _ h)) (by decide +kernel))
set_option maxRecDepth 20000 in
theorem gL_merged_X5_merged : GoodIn wsL_merged (wsV RL 49 RX5 yX5_merged wsX5_merged) := goodIn_app (goodIn_of _ (by decide +kernel)) ggL_merged_X5_merged
theorem dL_merged_0 : decode cL_merged 0 = .ok (.aload 6, 2) := by decide +kernel
theorem dL_merged_2 : decode cL_merged 2 = .ok (.iconst 0, 1) := by decide +kernel
theorem dL_merged_3 : decode cL_merged 3 = .ok (.aload_n 0, 1) := by decide +kernel
theorem dL_merged_4 : decode cL_merged 4 = .ok (.iload_n 1, 1) := by decide +kernel
theorem dL_merged_5 : decode cL_merged 5 = .ok (.iload_n 2, 1) := by decide +kernel
theorem dL_merged_6 : decode cL_merged 6 = .ok (.iload_n 3, 1) := by decide +kernel
theorem dL_merged_7 : decode cL_merged 7 = .ok (.iload 4, 2) := by decide +kernel
theorem dL_merged_9 : decode cL_merged 9 = .ok (.iload 5, 2) := by decide +kernel
theorem dL_merged_11 : decode cL_merged 11 = .ok (.invokevirtual 49, 3) := by decide +kernel
theorem dL_merged_14 : decode cL_merged 14 = .ok (.i2l, 1) := by decide +kernel
theorem dL_merged_15 : decode cL_merged 15 = .ok (.lastore, 1) := by decide +kernel
theorem dL_merged_16 : decode cL_merged 16 = .ok (.goto 11, 3) := by decide +kernel
theorem dL_merged_19 : decode cL_merged 19 = .ok (.astore 7, 2) := by decide +kernel
theorem dL_merged_21 : decode cL_merged 21 = .ok (.iconst 1, 1) := by decide +kernel
theorem dL_merged_22 : decode cL_merged 22 = .ok (.ireturn, 1) := by decide +kernel
theorem dL_merged_23 : decode cL_merged 23 = .ok (.astore 7, 2) := by decide +kernel
theorem dL_merged_25 : decode cL_merged 25 = .ok (.iconst 2, 1) := by decide +kernel
theorem dL_merged_26 : decode cL_merged 26 = .ok (.ireturn, 1) := by decide +kernel
theorem dL_merged_27 : decode cL_merged 27 = .ok (.iconst 0, 1) := by decide +kernel
theorem dL_merged_28 : decode cL_merged 28 = .ok (.ireturn, 1) := by decide +kernel
set_option maxRecDepth 20000 in
theorem ggL_merge_X5_merge : GoodIn wsL_merge wsX5_merge := goodIn_ca (goodIn_ca (goodIn_ca (goodIn_r _ [8, 9, 10, 11, 12, 13, 14, 15, 16, 17, 18, 7, 19, 20, 21, 22, 23, 24, 25, 26, 27, 28, 29, 30, 31, 32, 33, 34, 35, 36, 37, 38, 39, 40, 41, 42, 43, 44, 45, 46, 47, 48, 49, 50, 51, 52, 53, 54, 55, 56, 57, 58, 59, 60, 61, 62, 63, 64, 65, 66, 67, 68, 69, 70, 71, 72, 73, 74, 75, 76, 77, 78, 79, 80, 81, 82, 83, 84, 85, 86, 87, 88, 89, 90, 91, 92, 93, 94, 95, 96, 97, 98, 99, 100, 101, 102, 103, 104, 105, 106, 107, 108, 109, 110, 111, 112, 113, 114, 115, 116, 117, 118, 119, 120, 121, 122, 123, 124, 125, 126, 127, 128, 129, 130, 131, 132, 133, 134, 135, 136, 137, 138, 139, 140, 141, 142, 143, 144, 145, 146, 147, 148, 149, 150, 151, 152, 153, 154, 155, 156, 157, 158, 159, 160, 161, 162, 163, 164, 165, 166, 167, 168, 169, 170, 171, 172, 173, 174, 175, 176, 177, 178, 179, 180, 181, 182, 183, 184, 185, 186, 187, 188, 189, 190, 191, 192, 193, 194, 195, 196, 197, 198, 199, 200, 201, 202, 203, 204, 205, 206, 207, 208, 209] (by decide +kernel) (by decide +kernel)) (goodIn_sub (fun _ h => List.mem_cons_of_mem _ (List.mem_append_left _ (List.mem_append_left _ (List.mem_append_right _ h)))) (by decide +kernel))) (goodIn_sub (fun _ h => List.mem_cons_of_mem _ (List.mem_append_left _ (List.mem_append_right _ h))) (by decide +kernel))) (goodIn_sub (fun _ h => List.mem_cons_of_mem _ (List.mem_append_right _ h)) (by decide +kernel))
set_option maxRecDepth 20000 in
theorem gL_merge_X5_merge : GoodIn wsL_merge (wsV RL 53 RX5 yX5_merge wsX5_merge) := goodIn_app (goodIn_of _ (by decide +kernel)) ggL_merge_X5_merge
theorem dL_merge_0 : decode cL_merge 0 = .ok (.aload 4, 2) := by decide +kernel
theorem dL_merge_2 : decode cL_merge 2 = .ok (.iconst 0, 1) := by decide +kernel
theorem dL_merge_3 : decode cL_merge 3 = .ok (.aload_n 0, 1) := by decide +kernel
theorem dL_merge_4 : decode cL_merge 4 = .ok (.iload_n 1, 1) := by decide +kernel
theorem dL_merge_5 : decode cL_merge 5 = .ok (.iload_n 2, 1) := by decide +kernel
theorem dL_merge_6 : decode cL_merge 6 = .ok (.iload_n 3, 1) := by decide +kernel
theorem dL_merge_7 : decode cL_merge 7 = .ok (.invokevirtual 53, 3) := by decide +kernel
theorem dL_merge_10 : decode cL_merge 10 = .ok (.i2l, 1) := by decide +kernel
theorem dL_merge_11 : decode cL_merge 11 = .ok (.lastore, 1) := by decide +kernel
theorem dL_merge_12 : decode cL_merge 12 = .ok (.goto 15, 3) := by decide +kernel
theorem dL_merge_15 : decode cL_merge 15 = .ok (.astore 5, 2) := by decide +kernel
theorem dL_merge_17 : decode cL_merge 17 = .ok (.iconst 1, 1) := by decide +kernel
theorem dL_merge_18 : decode cL_merge 18 = .ok (.ireturn, 1) := by decide +kernel
theorem dL_merge_19 : decode cL_merge 19 = .ok (.astore 5, 2) := by decide +kernel
theorem dL_merge_21 : decode cL_merge 21 = .ok (.iconst 2, 1) := by decide +kernel
theorem dL_merge_22 : decode cL_merge 22 = .ok (.ireturn, 1) := by decide +kernel
theorem dL_merge_23 : decode cL_merge 23 = .ok (.astore 5, 2) := by decide +kernel
theorem dL_merge_25 : decode cL_merge 25 = .ok (.iconst 3, 1) := by decide +kernel
theorem dL_merge_26 : decode cL_merge 26 = .ok (.ireturn, 1) := by decide +kernel
theorem dL_merge_27 : decode cL_merge 27 = .ok (.iconst 0, 1) := by decide +kernel
theorem dL_merge_28 : decode cL_merge 28 = .ok (.ireturn, 1) := by decide +kernel
set_option maxRecDepth 20000 in
theorem ggL_rule_X5_rule : GoodIn wsL_rule wsX5_rule := goodIn_ca (goodIn_ca (goodIn_ca (goodIn_r _ [8, 9, 10, 11, 12, 13, 14, 15, 16, 17, 18, 19, 20, 21, 22, 7, 23, 24, 25, 26, 27, 28, 29, 30, 31, 32, 33, 34, 35, 36, 37, 38, 39] (by decide +kernel) (by decide +kernel)) (goodIn_sub (fun _ h => List.mem_cons_of_mem _ (List.mem_append_left _ (List.mem_append_left _ (List.mem_append_right _ h)))) (by decide +kernel))) (goodIn_sub (fun _ h => List.mem_cons_of_mem _ (List.mem_append_left _ (List.mem_append_right _ h))) (by decide +kernel))) (goodIn_sub (fun _ h => List.mem_cons_of_mem _ (List.mem_append_right _ h)) (by decide +kernel))
set_option maxRecDepth 20000 in
theorem gL_rule_X5_rule : GoodIn wsL_rule (wsV RL 56 RX5 yX5_rule wsX5_rule) := goodIn_app (goodIn_of _ (by decide +kernel)) ggL_rule_X5_rule
theorem dL_rule_0 : decode cL_rule 0 = .ok (.aload 5, 2) := by decide +kernel
theorem dL_rule_2 : decode cL_rule 2 = .ok (.iconst 0, 1) := by decide +kernel
theorem dL_rule_3 : decode cL_rule 3 = .ok (.aload_n 0, 1) := by decide +kernel
theorem dL_rule_4 : decode cL_rule 4 = .ok (.iload_n 1, 1) := by decide +kernel
theorem dL_rule_5 : decode cL_rule 5 = .ok (.iload_n 2, 1) := by decide +kernel
theorem dL_rule_6 : decode cL_rule 6 = .ok (.iload_n 3, 1) := by decide +kernel
theorem dL_rule_7 : decode cL_rule 7 = .ok (.iload 4, 2) := by decide +kernel
theorem dL_rule_9 : decode cL_rule 9 = .ok (.invokevirtual 56, 3) := by decide +kernel
theorem dL_rule_12 : decode cL_rule 12 = .ok (.i2l, 1) := by decide +kernel
theorem dL_rule_13 : decode cL_rule 13 = .ok (.lastore, 1) := by decide +kernel
theorem dL_rule_14 : decode cL_rule 14 = .ok (.goto 15, 3) := by decide +kernel
theorem dL_rule_17 : decode cL_rule 17 = .ok (.astore 6, 2) := by decide +kernel
theorem dL_rule_19 : decode cL_rule 19 = .ok (.iconst 1, 1) := by decide +kernel
theorem dL_rule_20 : decode cL_rule 20 = .ok (.ireturn, 1) := by decide +kernel
theorem dL_rule_21 : decode cL_rule 21 = .ok (.astore 6, 2) := by decide +kernel
theorem dL_rule_23 : decode cL_rule 23 = .ok (.iconst 2, 1) := by decide +kernel
theorem dL_rule_24 : decode cL_rule 24 = .ok (.ireturn, 1) := by decide +kernel
theorem dL_rule_25 : decode cL_rule 25 = .ok (.astore 6, 2) := by decide +kernel
theorem dL_rule_27 : decode cL_rule 27 = .ok (.iconst 3, 1) := by decide +kernel
theorem dL_rule_28 : decode cL_rule 28 = .ok (.ireturn, 1) := by decide +kernel
theorem dL_rule_29 : decode cL_rule 29 = .ok (.iconst 0, 1) := by decide +kernel
theorem dL_rule_30 : decode cL_rule 30 = .ok (.ireturn, 1) := by decide +kernel
set_option maxRecDepth 20000 in
theorem ggL_tighten_X5_tighten : GoodIn wsL_tighten wsX5_tighten := goodIn_ca (goodIn_ca (goodIn_r _ [7, 8, 9, 10, 11, 12, 13, 14, 15, 16, 6, 17, 18, 19, 20, 21, 22, 23, 24, 25, 26, 27, 28, 29, 30, 31, 32, 33, 34, 35, 36, 37, 38, 39, 40, 41, 42, 43, 44, 45, 46, 47, 48, 49, 50, 51, 52, 53, 54, 55, 56, 57, 58, 59, 60, 61, 62, 63, 64, 65, 66, 67, 68, 69, 70, 71, 72, 73, 74, 75, 76, 77, 78, 79, 80, 81, 82, 83, 84, 85, 86, 87, 88, 89, 90, 91, 92, 93, 94, 95, 96, 97, 98, 99, 100] (by decide +kernel) (by decide +kernel)) (goodIn_sub (fun _ h => List.mem_cons_of_mem _ (List.mem_append_left _ (List.mem_append_right _ h))) (by decide +kernel))) (goodIn_sub (fun _ h => List.mem_cons_of_mem _ (List.mem_append_right _ h)) (by decide +kernel))
set_option maxRecDepth 20000 in
theorem gL_tighten_X5_tighten : GoodIn wsL_tighten (wsV RL 59 RX5 yX5_tighten wsX5_tighten) := goodIn_app (goodIn_of _ (by decide +kernel)) ggL_tighten_X5_tighten
theorem dL_tighten_0 : decode cL_tighten 0 = .ok (.aload 4, 2) := by decide +kernel
theorem dL_tighten_2 : decode cL_tighten 2 = .ok (.iconst 0, 1) := by decide +kernel
theorem dL_tighten_3 : decode cL_tighten 3 = .ok (.aload_n 0, 1) := by decide +kernel
theorem dL_tighten_4 : decode cL_tighten 4 = .ok (.iload_n 1, 1) := by decide +kernel
theorem dL_tighten_5 : decode cL_tighten 5 = .ok (.iload_n 2, 1) := by decide +kernel
theorem dL_tighten_6 : decode cL_tighten 6 = .ok (.iload_n 3, 1) := by decide +kernel
theorem dL_tighten_7 : decode cL_tighten 7 = .ok (.invokevirtual 59, 3) := by decide +kernel
theorem dL_tighten_10 : decode cL_tighten 10 = .ok (.i2l, 1) := by decide +kernel
theorem dL_tighten_11 : decode cL_tighten 11 = .ok (.lastore, 1) := by decide +kernel
theorem dL_tighten_12 : decode cL_tighten 12 = .ok (.goto 11, 3) := by decide +kernel
theorem dL_tighten_15 : decode cL_tighten 15 = .ok (.astore 5, 2) := by decide +kernel
theorem dL_tighten_17 : decode cL_tighten 17 = .ok (.iconst 1, 1) := by decide +kernel
theorem dL_tighten_18 : decode cL_tighten 18 = .ok (.ireturn, 1) := by decide +kernel
theorem dL_tighten_19 : decode cL_tighten 19 = .ok (.astore 5, 2) := by decide +kernel
theorem dL_tighten_21 : decode cL_tighten 21 = .ok (.iconst 2, 1) := by decide +kernel
theorem dL_tighten_22 : decode cL_tighten 22 = .ok (.ireturn, 1) := by decide +kernel
theorem dL_tighten_23 : decode cL_tighten 23 = .ok (.iconst 0, 1) := by decide +kernel
theorem dL_tighten_24 : decode cL_tighten 24 = .ok (.ireturn, 1) := by decide +kernel
set_option maxRecDepth 20000 in
theorem ggL_waive_X5_waive : GoodIn wsL_waive wsX5_waive := goodIn_ca (goodIn_ca (goodIn_ca (goodIn_r _ [8, 9, 10, 11, 12, 13, 14, 15, 16, 17, 18, 19, 20, 21, 22, 23, 7, 24, 25, 26, 27, 28, 29, 30, 31, 32, 33, 34, 35, 36, 37, 38, 39, 40, 41, 42, 43, 44, 45, 46, 47, 48, 49, 50, 51] (by decide +kernel) (by decide +kernel)) (goodIn_sub (fun _ h => List.mem_cons_of_mem _ (List.mem_append_left _ (List.mem_append_left _ (List.mem_append_right _ h)))) (by decide +kernel))) (goodIn_sub (fun _ h => List.mem_cons_of_mem _ (List.mem_append_left _ (List.mem_append_right _ h))) (by decide +kernel))) (goodIn_sub (fun _ h => List.mem_cons_of_mem _ (List.mem_append_right _ h)) (by decide +kernel))
set_option maxRecDepth 20000 in
theorem gL_waive_X5_waive : GoodIn wsL_waive (wsV RL 62 RX5 yX5_waive wsX5_waive) := goodIn_app (goodIn_of _ (by decide +kernel)) ggL_waive_X5_waive
theorem dL_waive_0 : decode cL_waive 0 = .ok (.aload 4, 2) := by decide +kernel
theorem dL_waive_2 : decode cL_waive 2 = .ok (.iconst 0, 1) := by decide +kernel
theorem dL_waive_3 : decode cL_waive 3 = .ok (.aload_n 0, 1) := by decide +kernel
theorem dL_waive_4 : decode cL_waive 4 = .ok (.iload_n 1, 1) := by decide +kernel
theorem dL_waive_5 : decode cL_waive 5 = .ok (.iload_n 2, 1) := by decide +kernel
theorem dL_waive_6 : decode cL_waive 6 = .ok (.iload_n 3, 1) := by decide +kernel
theorem dL_waive_7 : decode cL_waive 7 = .ok (.invokevirtual 62, 3) := by decide +kernel
theorem dL_waive_10 : decode cL_waive 10 = .ok (.i2l, 1) := by decide +kernel
theorem dL_waive_11 : decode cL_waive 11 = .ok (.lastore, 1) := by decide +kernel
theorem dL_waive_12 : decode cL_waive 12 = .ok (.goto 15, 3) := by decide +kernel
theorem dL_waive_15 : decode cL_waive 15 = .ok (.astore 5, 2) := by decide +kernel
theorem dL_waive_17 : decode cL_waive 17 = .ok (.iconst 1, 1) := by decide +kernel
theorem dL_waive_18 : decode cL_waive 18 = .ok (.ireturn, 1) := by decide +kernel
theorem dL_waive_19 : decode cL_waive 19 = .ok (.astore 5, 2) := by decide +kernel
theorem dL_waive_21 : decode cL_waive 21 = .ok (.iconst 2, 1) := by decide +kernel
theorem dL_waive_22 : decode cL_waive 22 = .ok (.ireturn, 1) := by decide +kernel
theorem dL_waive_23 : decode cL_waive 23 = .ok (.astore 5, 2) := by decide +kernel
theorem dL_waive_25 : decode cL_waive 25 = .ok (.iconst 3, 1) := by decide +kernel
theorem dL_waive_26 : decode cL_waive 26 = .ok (.ireturn, 1) := by decide +kernel
theorem dL_waive_27 : decode cL_waive 27 = .ok (.iconst 0, 1) := by decide +kernel
theorem dL_waive_28 : decode cL_waive 28 = .ok (.ireturn, 1) := by decide +kernel
set_option maxRecDepth 20000 in
theorem ggL_blocks_X5_blocks : GoodIn wsL_blocks wsX5_blocks := goodIn_ca (goodIn_r _ [6, 7, 8, 9, 10, 11, 5, 12, 13, 14, 15, 16, 17, 18, 19, 20, 21, 22, 23, 24, 25, 26, 27, 28, 29, 30, 31, 32, 33, 34, 35, 36, 37, 38, 39, 40, 41, 42, 43, 44, 45, 46, 47, 48, 49, 50, 51, 52, 53, 54, 55, 56, 57, 58, 59, 60, 61, 62, 63, 64, 65, 66, 67, 68, 69, 70, 71, 72, 73, 74, 75, 76, 77, 78, 79, 80, 81, 82, 83] (by decide +kernel) (by decide +kernel)) (goodIn_sub (fun _ h => List.mem_cons_of_mem _ (List.mem_append_right _ h)) (by decide +kernel))
set_option maxRecDepth 20000 in
theorem gL_blocks_X5_blocks : GoodIn wsL_blocks (wsV RL 65 RX5 yX5_blocks wsX5_blocks) := goodIn_app (goodIn_of _ (by decide +kernel)) ggL_blocks_X5_blocks
theorem dL_blocks_0 : decode cL_blocks 0 = .ok (.aload_n 2, 1) := by decide +kernel
theorem dL_blocks_1 : decode cL_blocks 1 = .ok (.iconst 0, 1) := by decide +kernel
theorem dL_blocks_2 : decode cL_blocks 2 = .ok (.aload_n 0, 1) := by decide +kernel
theorem dL_blocks_3 : decode cL_blocks 3 = .ok (.iload_n 1, 1) := by decide +kernel
theorem dL_blocks_4 : decode cL_blocks 4 = .ok (.invokevirtual 65, 3) := by decide +kernel
theorem dL_blocks_7 : decode cL_blocks 7 = .ok (.i2l, 1) := by decide +kernel
theorem dL_blocks_8 : decode cL_blocks 8 = .ok (.lastore, 1) := by decide +kernel
theorem dL_blocks_9 : decode cL_blocks 9 = .ok (.goto 6, 3) := by decide +kernel
theorem dL_blocks_12 : decode cL_blocks 12 = .ok (.astore_n 3, 1) := by decide +kernel
theorem dL_blocks_13 : decode cL_blocks 13 = .ok (.iconst 1, 1) := by decide +kernel
theorem dL_blocks_14 : decode cL_blocks 14 = .ok (.ireturn, 1) := by decide +kernel
theorem dL_blocks_15 : decode cL_blocks 15 = .ok (.iconst 0, 1) := by decide +kernel
theorem dL_blocks_16 : decode cL_blocks 16 = .ok (.ireturn, 1) := by decide +kernel
set_option maxRecDepth 20000 in
theorem ggL_warnings_X5_warnings : GoodIn wsL_warnings wsX5_warnings := goodIn_ca (goodIn_r _ [6, 7, 8, 9, 10, 11, 12, 13, 14, 15, 5, 16, 17, 18, 19, 20, 21, 22, 23, 24, 25, 26, 27, 28, 29, 30, 31, 32, 33, 34, 35, 36, 37, 38, 39, 40, 41, 42, 43, 44, 45, 46, 47, 48, 49, 50, 51, 52, 53, 54, 55, 56, 57] (by decide +kernel) (by decide +kernel)) (goodIn_sub (fun _ h => List.mem_cons_of_mem _ (List.mem_append_right _ h)) (by decide +kernel))
set_option maxRecDepth 20000 in
theorem gL_warnings_X5_warnings : GoodIn wsL_warnings (wsV RL 68 RX5 yX5_warnings wsX5_warnings) := goodIn_app (goodIn_of _ (by decide +kernel)) ggL_warnings_X5_warnings
theorem dL_warnings_0 : decode cL_warnings 0 = .ok (.aload_n 2, 1) := by decide +kernel
theorem dL_warnings_1 : decode cL_warnings 1 = .ok (.iconst 0, 1) := by decide +kernel
theorem dL_warnings_2 : decode cL_warnings 2 = .ok (.aload_n 0, 1) := by decide +kernel
theorem dL_warnings_3 : decode cL_warnings 3 = .ok (.iload_n 1, 1) := by decide +kernel
theorem dL_warnings_4 : decode cL_warnings 4 = .ok (.invokevirtual 68, 3) := by decide +kernel
theorem dL_warnings_7 : decode cL_warnings 7 = .ok (.i2l, 1) := by decide +kernel
theorem dL_warnings_8 : decode cL_warnings 8 = .ok (.lastore, 1) := by decide +kernel
theorem dL_warnings_9 : decode cL_warnings 9 = .ok (.goto 6, 3) := by decide +kernel
theorem dL_warnings_12 : decode cL_warnings 12 = .ok (.astore_n 3, 1) := by decide +kernel
theorem dL_warnings_13 : decode cL_warnings 13 = .ok (.iconst 1, 1) := by decide +kernel
theorem dL_warnings_14 : decode cL_warnings 14 = .ok (.ireturn, 1) := by decide +kernel
theorem dL_warnings_15 : decode cL_warnings 15 = .ok (.iconst 0, 1) := by decide +kernel
theorem dL_warnings_16 : decode cL_warnings 16 = .ok (.ireturn, 1) := by decide +kernel
set_option maxRecDepth 20000 in
theorem ggL_firstBlock_X5_firstBlock : GoodIn wsL_firstBlock wsX5_firstBlock := goodIn_ca (goodIn_r _ [6, 7, 8, 9, 10, 11, 12, 13, 5, 14, 15, 16, 17, 18, 19, 20, 21, 22, 23, 24, 25, 26, 27, 28, 29, 30, 31, 32, 33, 34, 35, 36, 37, 38, 39, 40, 41, 42, 43, 44, 45, 46, 47, 48, 49, 50, 51, 52, 53, 54, 55, 56, 57, 58, 59, 60, 61, 62, 63, 64, 65, 66, 67, 68, 69, 70, 71, 72, 73, 74, 75, 76, 77, 78, 79] (by decide +kernel) (by decide +kernel)) (goodIn_sub (fun _ h => List.mem_cons_of_mem _ (List.mem_append_right _ h)) (by decide +kernel))
set_option maxRecDepth 20000 in
theorem gL_firstBlock_X5_firstBlock : GoodIn wsL_firstBlock (wsV RL 71 RX5 yX5_firstBlock wsX5_firstBlock) := goodIn_app (goodIn_of _ (by decide +kernel)) ggL_firstBlock_X5_firstBlock
theorem dL_firstBlock_0 : decode cL_firstBlock 0 = .ok (.aload_n 2, 1) := by decide +kernel
theorem dL_firstBlock_1 : decode cL_firstBlock 1 = .ok (.iconst 0, 1) := by decide +kernel
theorem dL_firstBlock_2 : decode cL_firstBlock 2 = .ok (.aload_n 0, 1) := by decide +kernel
theorem dL_firstBlock_3 : decode cL_firstBlock 3 = .ok (.iload_n 1, 1) := by decide +kernel
theorem dL_firstBlock_4 : decode cL_firstBlock 4 = .ok (.invokevirtual 71, 3) := by decide +kernel
theorem dL_firstBlock_7 : decode cL_firstBlock 7 = .ok (.i2l, 1) := by decide +kernel
theorem dL_firstBlock_8 : decode cL_firstBlock 8 = .ok (.lastore, 1) := by decide +kernel
theorem dL_firstBlock_9 : decode cL_firstBlock 9 = .ok (.goto 6, 3) := by decide +kernel
theorem dL_firstBlock_12 : decode cL_firstBlock 12 = .ok (.astore_n 3, 1) := by decide +kernel
theorem dL_firstBlock_13 : decode cL_firstBlock 13 = .ok (.iconst 1, 1) := by decide +kernel
theorem dL_firstBlock_14 : decode cL_firstBlock 14 = .ok (.ireturn, 1) := by decide +kernel
theorem dL_firstBlock_15 : decode cL_firstBlock 15 = .ok (.iconst 0, 1) := by decide +kernel
theorem dL_firstBlock_16 : decode cL_firstBlock 16 = .ok (.ireturn, 1) := by decide +kernel
set_option maxRecDepth 20000 in
theorem ggL_show_X5_show : GoodIn wsL_show wsX5_show := goodIn_ca (goodIn_ca (goodIn_r _ [7, 8, 9, 10, 11, 12, 13, 14, 6, 15, 16, 17, 18, 19, 20, 21, 22, 23, 24, 25, 26, 27, 28, 29, 30, 31, 32, 33, 34, 35, 36, 37, 38, 39, 40, 41, 42, 43, 44, 45, 46, 47, 48, 49, 50, 51, 52, 53, 54, 55, 56, 57, 58, 59, 60, 61, 62, 63, 64, 65, 66, 67, 68, 69, 70, 71, 72, 73, 74, 75, 76, 77, 78, 79, 80, 81, 82, 83, 84, 85, 86, 87, 88, 89, 90, 91, 92] (by decide +kernel) (by decide +kernel)) (goodIn_sub (fun _ h => List.mem_cons_of_mem _ (List.mem_append_left _ (List.mem_append_right _ h))) (by decide +kernel))) (goodIn_sub (fun _ h => List.mem_cons_of_mem _ (List.mem_append_right _ h)) (by decide +kernel))
set_option maxRecDepth 20000 in
theorem gL_show_X5_show : GoodIn wsL_show (wsV RL 74 RX5 yX5_show wsX5_show) := goodIn_app (goodIn_of _ (by decide +kernel)) ggL_show_X5_show
theorem dL_show_0 : decode cL_show 0 = .ok (.aload_n 2, 1) := by decide +kernel
theorem dL_show_1 : decode cL_show 1 = .ok (.iconst 0, 1) := by decide +kernel
theorem dL_show_2 : decode cL_show 2 = .ok (.aload_n 0, 1) := by decide +kernel
theorem dL_show_3 : decode cL_show 3 = .ok (.iload_n 1, 1) := by decide +kernel
theorem dL_show_4 : decode cL_show 4 = .ok (.invokevirtual 74, 3) := by decide +kernel
theorem dL_show_7 : decode cL_show 7 = .ok (.i2l, 1) := by decide +kernel
theorem dL_show_8 : decode cL_show 8 = .ok (.lastore, 1) := by decide +kernel
theorem dL_show_9 : decode cL_show 9 = .ok (.goto 9, 3) := by decide +kernel
theorem dL_show_12 : decode cL_show 12 = .ok (.astore_n 3, 1) := by decide +kernel
theorem dL_show_13 : decode cL_show 13 = .ok (.iconst 1, 1) := by decide +kernel
theorem dL_show_14 : decode cL_show 14 = .ok (.ireturn, 1) := by decide +kernel
theorem dL_show_15 : decode cL_show 15 = .ok (.astore_n 3, 1) := by decide +kernel
theorem dL_show_16 : decode cL_show 16 = .ok (.iconst 2, 1) := by decide +kernel
theorem dL_show_17 : decode cL_show 17 = .ok (.ireturn, 1) := by decide +kernel
theorem dL_show_18 : decode cL_show 18 = .ok (.iconst 0, 1) := by decide +kernel
theorem dL_show_19 : decode cL_show 19 = .ok (.ireturn, 1) := by decide +kernel
set_option maxRecDepth 20000 in
theorem ggL_shown_X5_shown : GoodIn wsL_shown wsX5_shown := goodIn_ca (goodIn_r _ [6, 7, 8, 9, 10, 11, 12, 5, 13, 14, 15, 16, 17, 18, 19, 20, 21, 22, 23, 24, 25, 26, 27, 28, 29, 30, 31, 32, 33, 34, 35, 36, 37, 38, 39, 40, 41, 42, 43, 44, 45, 46, 47, 48, 49, 50, 51, 52, 53, 54, 55, 56, 57, 58, 59, 60, 61, 62, 63, 64, 65, 66, 67, 68, 69, 70, 71, 72, 73, 74, 75, 76, 77, 78, 79, 80, 81, 82, 83, 84] (by decide +kernel) (by decide +kernel)) (goodIn_sub (fun _ h => List.mem_cons_of_mem _ (List.mem_append_right _ h)) (by decide +kernel))
set_option maxRecDepth 20000 in
theorem gL_shown_X5_shown : GoodIn wsL_shown (wsV RL 77 RX5 yX5_shown wsX5_shown) := goodIn_app (goodIn_of _ (by decide +kernel)) ggL_shown_X5_shown
theorem dL_shown_0 : decode cL_shown 0 = .ok (.aload_n 2, 1) := by decide +kernel
theorem dL_shown_1 : decode cL_shown 1 = .ok (.iconst 0, 1) := by decide +kernel
theorem dL_shown_2 : decode cL_shown 2 = .ok (.aload_n 0, 1) := by decide +kernel
theorem dL_shown_3 : decode cL_shown 3 = .ok (.iload_n 1, 1) := by decide +kernel
theorem dL_shown_4 : decode cL_shown 4 = .ok (.invokevirtual 77, 3) := by decide +kernel
theorem dL_shown_7 : decode cL_shown 7 = .ok (.i2l, 1) := by decide +kernel
theorem dL_shown_8 : decode cL_shown 8 = .ok (.lastore, 1) := by decide +kernel
theorem dL_shown_9 : decode cL_shown 9 = .ok (.goto 6, 3) := by decide +kernel
theorem dL_shown_12 : decode cL_shown 12 = .ok (.astore_n 3, 1) := by decide +kernel
theorem dL_shown_13 : decode cL_shown 13 = .ok (.iconst 1, 1) := by decide +kernel
theorem dL_shown_14 : decode cL_shown 14 = .ok (.ireturn, 1) := by decide +kernel
theorem dL_shown_15 : decode cL_shown 15 = .ok (.iconst 0, 1) := by decide +kernel
theorem dL_shown_16 : decode cL_shown 16 = .ok (.ireturn, 1) := by decide +kernel
set_option maxRecDepth 20000 in
theorem ggL_pass_X5_pass : GoodIn wsL_pass wsX5_pass := goodIn_ca (goodIn_ca (goodIn_r _ [7, 8, 9, 10, 11, 12, 13, 14, 15, 16, 17, 18, 19, 20, 21, 22, 23, 24] (by decide +kernel) (by decide +kernel)) (goodIn_sub (fun _ h => List.mem_cons_of_mem _ (List.mem_append_left _ (List.mem_append_right _ h))) (by decide +kernel))) (goodIn_sub (fun _ h => List.mem_cons_of_mem _ (List.mem_append_right _ h)) (by decide +kernel))
set_option maxRecDepth 20000 in
theorem gL_pass_X5_pass : GoodIn wsL_pass (wsV RL 80 RX5 yX5_pass wsX5_pass) := goodIn_app (goodIn_of _ (by decide +kernel)) ggL_pass_X5_pass
theorem dL_pass_0 : decode cL_pass 0 = .ok (.aload_n 2, 1) := by decide +kernel
theorem dL_pass_1 : decode cL_pass 1 = .ok (.iconst 0, 1) := by decide +kernel
theorem dL_pass_2 : decode cL_pass 2 = .ok (.aload_n 0, 1) := by decide +kernel
theorem dL_pass_3 : decode cL_pass 3 = .ok (.iload_n 1, 1) := by decide +kernel
theorem dL_pass_4 : decode cL_pass 4 = .ok (.invokevirtual 80, 3) := by decide +kernel
theorem dL_pass_7 : decode cL_pass 7 = .ok (.i2l, 1) := by decide +kernel
theorem dL_pass_8 : decode cL_pass 8 = .ok (.lastore, 1) := by decide +kernel
theorem dL_pass_9 : decode cL_pass 9 = .ok (.goto 9, 3) := by decide +kernel
theorem dL_pass_12 : decode cL_pass 12 = .ok (.astore_n 3, 1) := by decide +kernel
theorem dL_pass_13 : decode cL_pass 13 = .ok (.iconst 1, 1) := by decide +kernel
theorem dL_pass_14 : decode cL_pass 14 = .ok (.ireturn, 1) := by decide +kernel
theorem dL_pass_15 : decode cL_pass 15 = .ok (.astore_n 3, 1) := by decide +kernel
theorem dL_pass_16 : decode cL_pass 16 = .ok (.iconst 2, 1) := by decide +kernel
theorem dL_pass_17 : decode cL_pass 17 = .ok (.ireturn, 1) := by decide +kernel
theorem dL_pass_18 : decode cL_pass 18 = .ok (.iconst 0, 1) := by decide +kernel
theorem dL_pass_19 : decode cL_pass 19 = .ok (.ireturn, 1) := by decide +kernel
set_option maxRecDepth 20000 in
theorem ggL_law_X5_init : GoodIn wsL_law wsX5_init := goodIn_r _ [9, 10, 11, 12, 13, 14, 15, 16, 17, 18, 19, 20, 21, 22, 23, 24, 25, 26, 27, 28, 29, 30, 31, 32, 33, 34, 35, 36, 37, 38, 39, 40, 41, 42, 43, 44, 45, 46, 47, 48, 49, 50, 51, 52, 619, 620, 621, 622, 623, 624, 625, 626, 627, 628, 629, 630, 659, 660, 661, 662, 663, 664, 665, 666, 667, 668, 669, 670, 671, 672, 673] (by decide +kernel) (by decide +kernel)
set_option maxRecDepth 20000 in
theorem gL_law_X5_init : GoodIn wsL_law (wsX5_init) := ggL_law_X5_init
set_option maxRecDepth 20000 in
theorem ggL_law_X6_init : GoodIn wsL_law wsX6_init := goodIn_r _ [55, 56, 11, 12, 57, 15, 58, 59, 60, 61, 62, 63, 64, 65, 66, 67, 68, 69, 70, 71, 72, 73, 74, 75, 76, 77, 78, 79, 631, 632, 633, 634, 635, 636, 637, 638, 639, 640, 641, 642, 643, 644, 645, 646, 647, 648, 649, 650, 651, 652, 653, 654, 655, 656, 657, 658] (by decide +kernel) (by decide +kernel)
set_option maxRecDepth 20000 in
theorem gL_law_X6_init : GoodIn wsL_law (wsX6_init) := ggL_law_X6_init
set_option maxRecDepth 20000 in
theorem ggL_law_L_branch : GoodIn wsL_law wsL_branch := goodIn_ca (goodIn_ca (goodIn_r _ [83, 84, 85, 86, 87, 88, 2, 89, 90, 91, 34, 16, 92, 93, 94, 95, 96, 97, 33, 619, 620, 621, 622, 623, 624, 625, 626, 627, 628, 629, 630] (by decide +kernel) (by decide +kernel)) (goodIn_sub (fun _ h => List.mem_append_left _ (List.mem_append_left _ (List.mem_append_right _ h))) (by decide +kernel))) (goodIn_sub (fun _ h => List.mem_append_left _ (List.mem_append_right _ h)) (by decide +kernel))
set_option maxRecDepth 20000 in
theorem gL_law_L_branch : GoodIn wsL_law (va_wsS RL 87 yL_branch wsL_branch) := goodIn_app (goodIn_of _ (by decide +kernel)) ggL_law_L_branch
set_option maxRecDepth 20000 in
theorem ggL_law_X6_branch : GoodIn wsL_law wsX6_branch := goodIn_r _ [101, 64, 102, 65, 103, 104, 105, 5, 106, 57, 107, 108, 109, 631, 632, 633, 634, 635, 636, 637, 638, 639, 640, 641, 642, 643, 644, 645, 646, 647, 648, 649, 650, 651, 652, 653, 654, 655, 656, 657, 658] (by decide +kernel) (by decide +kernel)
set_option maxRecDepth 20000 in
theorem gL_law_X6_branch : GoodIn wsL_law (wsV RL 92 RX6 yX6_branch wsX6_branch) := goodIn_app (goodIn_of _ (by decide +kernel)) ggL_law_X6_branch
set_option maxRecDepth 20000 in
theorem ggL_law_X6_thrown : GoodIn wsL_law wsX6_thrown := goodIn_r _ [113, 102, 631, 632, 633, 634, 635, 636, 637, 638, 639, 640, 641, 642, 643, 644, 645, 646, 647, 648, 649, 650, 651, 652, 653, 654, 655, 656, 657, 658] (by decide +kernel) (by decide +kernel)
set_option maxRecDepth 20000 in
theorem gL_law_X6_thrown : GoodIn wsL_law (wsV RL 93 RX6 yX6_thrown wsX6_thrown) := goodIn_app (goodIn_of _ (by decide +kernel)) ggL_law_X6_thrown
set_option maxRecDepth 20000 in
theorem ggL_law_L_add : GoodIn wsL_law wsL_add := goodIn_ca (goodIn_ca (goodIn_r _ [116, 84, 85, 117, 118, 119, 2, 120, 96, 97, 90, 91, 121, 122, 123, 124, 125, 126, 34, 127, 128, 129, 130, 14, 16, 131, 132, 133, 134, 135, 33, 136, 137, 138, 139, 140, 141, 142, 32, 143, 144, 145, 24, 146, 38, 147, 148, 149, 150, 39, 151, 152, 153, 154, 155, 156, 157, 158, 159, 160, 161, 162, 163, 164, 165, 166, 167, 659, 660, 661, 619, 620, 621, 622, 623, 624, 625, 626, 627, 628, 629, 630, 662, 663, 664, 665, 666] (by decide +kernel) (by decide +kernel)) (goodIn_sub (fun _ h => List.mem_append_left _ (List.mem_append_right _ h)) (by decide +kernel))) (goodIn_sub (fun _ h => List.mem_append_left _ (List.mem_append_left _ (List.mem_append_right _ h))) (by decide +kernel))
set_option maxRecDepth 20000 in
theorem gL_law_L_add : GoodIn wsL_law (va_wsS RL 97 yL_add wsL_add) := goodIn_app (goodIn_of _ (by decide +kernel)) ggL_law_L_add
set_option maxRecDepth 20000 in
theorem ggL_law_X6_add : GoodIn wsL_law wsX6_add := goodIn_r _ [171, 61, 65, 172, 57, 102, 62, 63, 173, 174, 175, 5, 176, 64, 107, 108, 109, 177, 178, 179, 180, 58, 59, 60, 631, 632, 633, 634, 635, 636, 637, 638, 639, 640, 641, 642, 643, 644, 645, 646, 647, 648, 649, 650, 651, 652, 653, 654, 655, 656, 657, 658] (by decide +kernel) (by decide +kernel)
set_option maxRecDepth 20000 in
theorem gL_law_X6_add : GoodIn wsL_law (wsV RL 100 RX6 yX6_add wsX6_add) := goodIn_app (goodIn_of _ (by decide +kernel)) ggL_law_X6_add
set_option maxRecDepth 20000 in
theorem ggL_law_L_set : GoodIn wsL_law wsL_set := goodIn_ca (goodIn_ca (goodIn_ca (goodIn_r _ [183, 84, 184, 85, 185, 186, 187, 2, 188, 189, 190, 123, 124, 125, 126, 96, 97, 34, 191, 192, 193, 194, 127, 128, 129, 130, 14, 16, 131, 195, 196, 197, 24, 198, 151, 38, 199, 200, 201, 132, 133, 134, 135, 90, 91, 33, 136, 137, 138, 139, 140, 141, 142, 32, 143, 144, 145, 146, 147, 148, 149, 150, 39, 202, 161, 162, 163, 203, 165, 166, 167, 619, 620, 621, 622, 623, 624, 625, 626, 627, 628, 629, 630, 662, 663, 664, 665, 666, 659, 660, 661] (by decide +kernel) (by decide +kernel)) (goodIn_sub (fun _ h => List.mem_append_right _ h) (by decide +kernel))) (goodIn_sub (fun _ h => List.mem_append_left _ (List.mem_append_right _ h)) (by decide +kernel))) (goodIn_sub (fun _ h => List.mem_append_left _ (List.mem_append_left _ (List.mem_append_right _ h))) (by decide +kernel))
set_option maxRecDepth 20000 in
theorem gL_law_L_set : GoodIn wsL_law (va_wsS RL 101 yL_set wsL_set) := goodIn_app (goodIn_of _ (by decide +kernel)) ggL_law_L_set
set_option maxRecDepth 20000 in
theorem ggL_law_X6_set : GoodIn wsL_law wsX6_set := goodIn_r _ [207, 57, 102, 63, 208, 209, 210, 5, 211, 65, 173, 174, 175, 176, 64, 107, 108, 109, 212, 213, 214, 215, 61, 62, 216, 217, 218, 177, 178, 179, 180, 58, 59, 60, 631, 632, 633, 634, 635, 636, 637, 638, 639, 640, 641, 642, 643, 644, 645, 646, 647, 648, 649, 650, 651, 652, 653, 654, 655, 656, 657, 658] (by decide +kernel) (by decide +kernel)
set_option maxRecDepth 20000 in
theorem gL_law_X6_set : GoodIn wsL_law (wsV RL 104 RX6 yX6_set wsX6_set) := goodIn_app (goodIn_of _ (by decide +kernel)) ggL_law_X6_set
set_option maxRecDepth 20000 in
theorem ggL_law_L_drop : GoodIn wsL_law wsL_drop := goodIn_ca (goodIn_ca (goodIn_r _ [221, 84, 85, 222, 223, 224, 2, 225, 16, 123, 124, 125, 126, 96, 97, 34, 191, 192, 193, 194, 127, 128, 129, 130, 14, 131, 195, 196, 197, 24, 198, 151, 38, 132, 133, 134, 135, 90, 91, 33, 136, 137, 138, 139, 140, 141, 142, 32, 143, 144, 145, 146, 147, 148, 149, 150, 39, 226, 227, 228, 229, 156, 157, 158, 159, 160, 161, 162, 163, 164, 165, 166, 167, 619, 620, 621, 622, 623, 624, 625, 626, 627, 628, 629, 630, 662, 663, 664, 665, 666, 659, 660, 661] (by decide +kernel) (by decide +kernel)) (goodIn_sub (fun _ h => List.mem_append_left _ (List.mem_append_right _ h)) (by decide +kernel))) (goodIn_sub (fun _ h => List.mem_append_left _ (List.mem_append_left _ (List.mem_append_right _ h))) (by decide +kernel))
set_option maxRecDepth 20000 in
theorem gL_law_L_drop : GoodIn wsL_law (va_wsS RL 105 yL_drop wsL_drop) := goodIn_app (goodIn_of _ (by decide +kernel)) ggL_law_L_drop
set_option maxRecDepth 20000 in
theorem ggL_law_X6_drop : GoodIn wsL_law wsX6_drop := goodIn_r _ [233, 57, 102, 208, 209, 210, 5, 211, 65, 173, 174, 175, 176, 64, 107, 108, 109, 212, 213, 214, 215, 61, 62, 177, 178, 179, 180, 58, 59, 60, 63, 631, 632, 633, 634, 635, 636, 637, 638, 639, 640, 641, 642, 643, 644, 645, 646, 647, 648, 649, 650, 651, 652, 653, 654, 655, 656, 657, 658] (by decide +kernel) (by decide +kernel)
set_option maxRecDepth 20000 in
theorem gL_law_X6_drop : GoodIn wsL_law (wsV RL 107 RX6 yX6_drop wsX6_drop) := goodIn_app (goodIn_of _ (by decide +kernel)) ggL_law_X6_drop
set_option maxRecDepth 20000 in
theorem ggL_law_L_head : GoodIn wsL_law wsL_head := goodIn_ca (goodIn_r _ [236, 84, 237, 238, 239, 2, 240, 16, 123, 124, 125, 126, 96, 97, 34, 619, 620, 621, 622, 623, 624, 625, 626, 627, 628, 629, 630] (by decide +kernel) (by decide +kernel)) (goodIn_sub (fun _ h => List.mem_append_left _ (List.mem_append_right _ h)) (by decide +kernel))
set_option maxRecDepth 20000 in
theorem gL_law_L_head : GoodIn wsL_law (va_wsS RL 108 yL_head wsL_head) := goodIn_app (goodIn_of _ (by decide +kernel)) ggL_law_L_head
set_option maxRecDepth 20000 in
theorem ggL_law_X6_head : GoodIn wsL_law wsX6_head := goodIn_r _ [244, 102, 65, 173, 174, 175, 5, 176, 64, 107, 108, 109, 631, 632, 633, 634, 635, 636, 637, 638, 639, 640, 641, 642, 643, 644, 645, 646, 647, 648, 649, 650, 651, 652, 653, 654, 655, 656, 657, 658] (by decide +kernel) (by decide +kernel)
set_option maxRecDepth 20000 in
theorem gL_law_X6_head : GoodIn wsL_law (wsV RL 110 RX6 yX6_head wsX6_head) := goodIn_app (goodIn_of _ (by decide +kernel)) ggL_law_X6_head
set_option maxRecDepth 20000 in
theorem ggL_law_L_about : GoodIn wsL_law wsL_about := goodIn_ca (goodIn_ca (goodIn_r _ [247, 84, 184, 248, 249, 250, 2, 251, 189, 190, 14, 140, 141, 142, 131, 121, 32, 92, 93, 94, 95, 96, 97, 33, 252, 253, 254, 255, 256, 257, 258, 619, 620, 621, 622, 623, 624, 625, 626, 627, 628, 629, 630, 662, 663, 664, 665, 666, 659, 660, 661] (by decide +kernel) (by decide +kernel)) (goodIn_sub (fun _ h => List.mem_append_right _ h) (by decide +kernel))) (goodIn_sub (fun _ h => List.mem_append_left _ (List.mem_append_right _ h)) (by decide +kernel))
set_option maxRecDepth 20000 in
theorem gL_law_L_about : GoodIn wsL_law (va_wsS RL 111 yL_about wsL_about) := goodIn_app (goodIn_of _ (by decide +kernel)) ggL_law_L_about
set_option maxRecDepth 20000 in
theorem ggL_law_X6_about : GoodIn wsL_law wsX6_about := goodIn_r _ [262, 102, 58, 59, 60, 61, 103, 104, 105, 5, 106, 57, 107, 108, 109, 263, 264, 265, 266, 78, 77, 631, 632, 633, 634, 635, 636, 637, 638, 639, 640, 641, 642, 643, 644, 645, 646, 647, 648, 649, 650, 651, 652, 653, 654, 655, 656, 657, 658] (by decide +kernel) (by decide +kernel)
set_option maxRecDepth 20000 in
theorem gL_law_X6_about : GoodIn wsL_law (wsV RL 113 RX6 yX6_about wsX6_about) := goodIn_app (goodIn_of _ (by decide +kernel)) ggL_law_X6_about
set_option maxRecDepth 20000 in
theorem ggL_law_L_value : GoodIn wsL_law wsL_value := goodIn_ca (goodIn_r _ [269, 84, 270, 271, 272, 2, 273, 14, 131, 92, 93, 94, 95, 96, 97, 33, 274, 275, 276, 277, 122, 199, 200, 201, 278, 279, 280, 24, 281, 282, 196, 197, 198, 151, 38, 160, 161, 162, 163, 39, 619, 620, 621, 622, 623, 624, 625, 626, 627, 628, 629, 630, 662, 663, 664, 665, 666, 659, 660, 661] (by decide +kernel) (by decide +kernel)) (goodIn_sub (fun _ h => List.mem_append_left _ (List.mem_append_right _ h)) (by decide +kernel))
set_option maxRecDepth 20000 in
theorem gL_law_L_value : GoodIn wsL_law (va_wsS RL 114 yL_value wsL_value) := goodIn_app (goodIn_of _ (by decide +kernel)) ggL_law_L_value
set_option maxRecDepth 20000 in
theorem ggL_law_X6_value : GoodIn wsL_law wsX6_value := goodIn_r _ [286, 102, 103, 104, 105, 5, 106, 57, 107, 108, 109, 287, 288, 289, 290, 172, 216, 217, 218, 212, 213, 214, 215, 61, 62, 291, 292, 293, 294, 63, 631, 632, 633, 634, 635, 636, 637, 638, 639, 640, 641, 642, 643, 644, 645, 646, 647, 648, 649, 650, 651, 652, 653, 654, 655, 656, 657, 658] (by decide +kernel) (by decide +kernel)
set_option maxRecDepth 20000 in
theorem gL_law_X6_value : GoodIn wsL_law (wsV RL 117 RX6 yX6_value wsX6_value) := goodIn_app (goodIn_of _ (by decide +kernel)) ggL_law_X6_value
set_option maxRecDepth 20000 in
theorem ggL_law_L_slideAt : GoodIn wsL_law wsL_slideAt := goodIn_ca (goodIn_r _ [297, 84, 298, 299, 300, 2, 301, 96, 97, 14, 131, 121, 302, 92, 93, 94, 95, 33, 619, 620, 621, 622, 623, 624, 625, 626, 627, 628, 629, 630, 662, 663, 664, 665, 666, 659, 660, 661] (by decide +kernel) (by decide +kernel)) (goodIn_sub (fun _ h => List.mem_append_left _ (List.mem_append_right _ h)) (by decide +kernel))
set_option maxRecDepth 20000 in
theorem gL_law_L_slideAt : GoodIn wsL_law (va_wsS RL 118 yL_slideAt wsL_slideAt) := goodIn_app (goodIn_of _ (by decide +kernel)) ggL_law_L_slideAt
set_option maxRecDepth 20000 in
theorem ggL_law_X6_slideAt : GoodIn wsL_law wsX6_slideAt := goodIn_r _ [306, 102, 61, 62, 103, 104, 105, 5, 106, 57, 107, 108, 109, 631, 632, 633, 634, 635, 636, 637, 638, 639, 640, 641, 642, 643, 644, 645, 646, 647, 648, 649, 650, 651, 652, 653, 654, 655, 656, 657, 658] (by decide +kernel) (by decide +kernel)
set_option maxRecDepth 20000 in
theorem gL_law_X6_slideAt : GoodIn wsL_law (wsV RL 120 RX6 yX6_slideAt wsX6_slideAt) := goodIn_app (goodIn_of _ (by decide +kernel)) ggL_law_X6_slideAt
set_option maxRecDepth 20000 in
theorem ggL_law_L_base : GoodIn wsL_law wsL_base := goodIn_ca (goodIn_ca (goodIn_r _ [309, 84, 184, 310, 311, 312, 2, 313, 123, 124, 125, 126, 96, 97, 34, 314, 315, 316, 189, 190, 317, 318, 319, 320, 14, 16, 32, 33, 619, 620, 621, 622, 623, 624, 625, 626, 627, 628, 629, 630, 662, 663, 664, 665, 666] (by decide +kernel) (by decide +kernel)) (goodIn_sub (fun _ h => List.mem_append_left _ (List.mem_append_right _ h)) (by decide +kernel))) (goodIn_sub (fun _ h => List.mem_append_right _ h) (by decide +kernel))
set_option maxRecDepth 20000 in
theorem gL_law_L_base : GoodIn wsL_law (va_wsS RL 121 yL_base wsL_base) := goodIn_app (goodIn_of _ (by decide +kernel)) ggL_law_L_base
set_option maxRecDepth 20000 in
theorem ggL_law_X6_base : GoodIn wsL_law wsX6_base := goodIn_r _ [324, 102, 325, 326, 327, 5, 328, 173, 174, 175, 176, 64, 107, 108, 109, 329, 330, 331, 332, 65, 57, 77, 78, 263, 264, 265, 266, 59, 60, 631, 632, 633, 634, 635, 636, 637, 638, 639, 640, 641, 642, 643, 644, 645, 646, 647, 648, 649, 650, 651, 652, 653, 654, 655, 656, 657, 658] (by decide +kernel) (by decide +kernel)
set_option maxRecDepth 20000 in
theorem gL_law_X6_base : GoodIn wsL_law (wsV RL 123 RX6 yX6_base wsX6_base) := goodIn_app (goodIn_of _ (by decide +kernel)) ggL_law_X6_base
set_option maxRecDepth 20000 in
theorem ggL_law_L_clashes : GoodIn wsL_law wsL_clashes := goodIn_ca (goodIn_ca (goodIn_r _ [335, 84, 184, 336, 337, 338, 2, 339, 122, 123, 124, 125, 126, 96, 97, 34, 314, 315, 316, 189, 190, 340, 341, 342, 343, 344, 345, 346, 14, 131, 317, 318, 319, 320, 16, 32, 33, 127, 128, 129, 130, 347, 348, 349, 350, 11, 12, 351, 352, 353, 354, 355, 356, 357, 358, 359, 360, 361, 362, 363, 364, 24, 365, 282, 196, 197, 198, 151, 38, 366, 367, 368, 369, 160, 161, 162, 163, 39, 370, 371, 372, 373, 374, 279, 280, 281, 619, 620, 621, 622, 623, 624, 625, 626, 627, 628, 629, 630, 674, 675, 676, 662, 663, 664, 665, 666, 659, 660, 661] (by decide +kernel) (by decide +kernel)) (goodIn_sub (fun _ h => List.mem_append_left _ (List.mem_append_right _ h)) (by decide +kernel))) (goodIn_sub (fun _ h => List.mem_append_right _ h) (by decide +kernel))
set_option maxRecDepth 20000 in
theorem gL_law_L_clashes : GoodIn wsL_law (va_wsS RL 124 yL_clashes wsL_clashes) := goodIn_app (goodIn_of _ (by decide +kernel)) ggL_law_L_clashes
set_option maxRecDepth 20000 in
theorem ggL_law_X6_clashes : GoodIn wsL_law wsX6_clashes := goodIn_r _ [378, 102, 65, 325, 326, 327, 5, 328, 173, 174, 175, 176, 64, 107, 108, 109, 329, 330, 331, 332, 57, 77, 78, 263, 264, 265, 266, 59, 60, 379, 380, 381, 382, 172, 383, 384, 385, 386, 212, 213, 214, 215, 61, 62, 387, 388, 389, 390, 291, 292, 293, 294, 63, 391, 392, 393, 394, 631, 632, 633, 634, 635, 636, 637, 638, 639, 640, 641, 642, 643, 644, 645, 646, 647, 648, 649, 650, 651, 652, 653, 654, 655, 656, 657, 658] (by decide +kernel) (by decide +kernel)
set_option maxRecDepth 20000 in
theorem gL_law_X6_clashes : GoodIn wsL_law (wsV RL 126 RX6 yX6_clashes wsX6_clashes) := goodIn_app (goodIn_of _ (by decide +kernel)) ggL_law_X6_clashes
set_option maxRecDepth 20000 in
theorem ggL_law_L_merged : GoodIn wsL_law wsL_merged := goodIn_ca (goodIn_ca (goodIn_r _ [397, 84, 184, 398, 399, 400, 2, 401, 189, 190, 123, 124, 125, 126, 96, 97, 34, 274, 275, 276, 277, 122, 199, 200, 201, 314, 315, 316, 340, 341, 342, 343, 344, 345, 346, 14, 131, 317, 318, 319, 320, 16, 32, 33, 127, 128, 129, 130, 347, 348, 349, 350, 11, 12, 351, 352, 353, 402, 403, 404, 405, 406, 407, 408, 409, 362, 363, 364, 24, 365, 282, 196, 197, 198, 151, 38, 358, 359, 360, 361, 366, 367, 368, 369, 160, 161, 162, 163, 39, 410, 411, 412, 413, 374, 279, 280, 281, 370, 371, 372, 373, 619, 620, 621, 622, 623, 624, 625, 626, 627, 628, 629, 630, 674, 675, 676, 662, 663, 664, 665, 666, 659, 660, 661] (by decide +kernel) (by decide +kernel)) (goodIn_sub (fun _ h => List.mem_append_right _ h) (by decide +kernel))) (goodIn_sub (fun _ h => List.mem_append_left _ (List.mem_append_right _ h)) (by decide +kernel))
set_option maxRecDepth 20000 in
theorem gL_law_L_merged : GoodIn wsL_law (va_wsS RL 127 yL_merged wsL_merged) := goodIn_app (goodIn_of _ (by decide +kernel)) ggL_law_L_merged
set_option maxRecDepth 20000 in
theorem ggL_law_X6_merged : GoodIn wsL_law wsX6_merged := goodIn_r _ [417, 102, 65, 173, 174, 175, 5, 176, 64, 107, 108, 109, 287, 288, 289, 290, 172, 216, 217, 218, 329, 330, 331, 332, 57, 77, 78, 263, 264, 265, 266, 59, 60, 418, 419, 420, 421, 383, 384, 385, 386, 212, 213, 214, 215, 61, 62, 387, 388, 389, 390, 291, 292, 293, 294, 63, 391, 392, 393, 394, 631, 632, 633, 634, 635, 636, 637, 638, 639, 640, 641, 642, 643, 644, 645, 646, 647, 648, 649, 650, 651, 652, 653, 654, 655, 656, 657, 658] (by decide +kernel) (by decide +kernel)
set_option maxRecDepth 20000 in
theorem gL_law_X6_merged : GoodIn wsL_law (wsV RL 130 RX6 yX6_merged wsX6_merged) := goodIn_app (goodIn_of _ (by decide +kernel)) ggL_law_X6_merged
set_option maxRecDepth 20000 in
theorem ggL_law_L_merge : GoodIn wsL_law wsL_merge := goodIn_ca (goodIn_ca (goodIn_ca (goodIn_r _ [424, 84, 184, 85, 425, 426, 427, 2, 428, 189, 190, 90, 91, 122, 25, 16, 123, 124, 125, 126, 96, 97, 34, 314, 315, 316, 340, 341, 342, 343, 344, 345, 346, 14, 131, 317, 318, 319, 320, 32, 33, 127, 128, 129, 130, 347, 348, 349, 350, 11, 12, 351, 352, 353, 354, 355, 356, 357, 358, 359, 360, 361, 362, 363, 364, 24, 365, 282, 196, 197, 198, 151, 38, 366, 367, 368, 369, 160, 161, 162, 163, 39, 370, 371, 372, 373, 374, 279, 280, 281, 429, 430, 431, 432, 406, 407, 408, 409, 433, 434, 435, 436, 437, 438, 439, 440, 441, 442, 443, 153, 154, 155, 156, 157, 158, 159, 164, 165, 166, 167, 410, 411, 412, 413, 444, 445, 446, 447, 448, 121, 449, 450, 451, 452, 453, 19, 302, 454, 455, 456, 29, 457, 458, 459, 460, 461, 462, 463, 464, 465, 466, 467, 468, 469, 470, 471, 21, 472, 473, 474, 475, 132, 133, 134, 135, 136, 137, 138, 139, 140, 141, 142, 143, 144, 145, 146, 147, 148, 149, 150, 619, 620, 621, 622, 623, 624, 625, 626, 627, 628, 629, 630, 674, 675, 676, 662, 663, 664, 665, 666, 659, 660, 661, 667, 668, 669, 670, 671, 672, 673] (by decide +kernel) (by decide +kernel)) (goodIn_sub (fun _ h => List.mem_append_right _ h) (by decide +kernel))) (goodIn_sub (fun _ h => List.mem_append_left _ (List.mem_append_left _ (List.mem_append_right _ h))) (by decide +kernel))) (goodIn_sub (fun _ h => List.mem_append_left _ (List.mem_append_right _ h)) (by decide +kernel))
set_option maxRecDepth 20000 in
theorem gL_law_L_merge : GoodIn wsL_law (va_wsS RL 131 yL_merge wsL_merge) := goodIn_app (goodIn_of _ (by decide +kernel)) ggL_law_L_merge
set_option maxRecDepth 20000 in
theorem ggL_law_X6_merge : GoodIn wsL_law wsX6_merge := goodIn_r _ [479, 102, 65, 480, 481, 74, 75, 68, 57, 60, 61, 62, 63, 173, 174, 175, 5, 176, 64, 107, 108, 109, 329, 330, 331, 332, 77, 78, 263, 264, 265, 266, 59, 482, 483, 484, 485, 486, 487, 488, 489, 418, 419, 420, 421, 383, 384, 385, 386, 212, 213, 214, 215, 387, 388, 389, 390, 291, 292, 293, 294, 391, 392, 393, 394, 490, 491, 492, 493, 67, 494, 495, 496, 497, 69, 70, 498, 499, 500, 501, 502, 71, 72, 73, 503, 379, 380, 381, 382, 172, 177, 178, 179, 180, 58, 631, 632, 633, 634, 635, 636, 637, 638, 639, 640, 641, 642, 643, 644, 645, 646, 647, 648, 649, 650, 651, 652, 653, 654, 655, 656, 657, 658] (by decide +kernel) (by decide +kernel)
set_option maxRecDepth 20000 in
theorem gL_law_X6_merge : GoodIn wsL_law (wsV RL 133 RX6 yX6_merge wsX6_merge) := goodIn_app (goodIn_of _ (by decide +kernel)) ggL_law_X6_merge
set_option maxRecDepth 20000 in
theorem ggL_law_L_rule : GoodIn wsL_law wsL_rule := goodIn_ca (goodIn_ca (goodIn_ca (goodIn_r _ [506, 84, 184, 85, 507, 508, 509, 2, 510, 96, 97, 189, 190, 90, 91, 453, 19, 466, 511, 512, 513, 199, 200, 201, 619, 620, 621, 622, 623, 624, 625, 626, 627, 628, 629, 630, 667, 668, 669, 670] (by decide +kernel) (by decide +kernel)) (goodIn_sub (fun _ h => List.mem_append_left _ (List.mem_append_right _ h)) (by decide +kernel))) (goodIn_sub (fun _ h => List.mem_append_right _ h) (by decide +kernel))) (goodIn_sub (fun _ h => List.mem_append_left _ (List.mem_append_left _ (List.mem_append_right _ h))) (by decide +kernel))
set_option maxRecDepth 20000 in
theorem gL_law_L_rule : GoodIn wsL_law (va_wsS RL 134 yL_rule wsL_rule) := goodIn_app (goodIn_of _ (by decide +kernel)) ggL_law_L_rule
set_option maxRecDepth 20000 in
theorem ggL_law_X6_rule : GoodIn wsL_law wsX6_rule := goodIn_r _ [517, 481, 102, 67, 68, 69, 70, 107, 108, 5, 109, 216, 217, 218, 631, 632, 633, 634, 635, 636, 637, 638, 639, 640, 641, 642, 643, 644, 645, 646, 647, 648, 649, 650, 651, 652, 653, 654, 655, 656, 657, 658] (by decide +kernel) (by decide +kernel)
set_option maxRecDepth 20000 in
theorem gL_law_X6_rule : GoodIn wsL_law (wsV RL 136 RX6 yX6_rule wsX6_rule) := goodIn_app (goodIn_of _ (by decide +kernel)) ggL_law_X6_rule
set_option maxRecDepth 20000 in
theorem ggL_law_L_tighten : GoodIn wsL_law wsL_tighten := goodIn_ca (goodIn_ca (goodIn_r _ [520, 84, 184, 521, 522, 523, 2, 524, 189, 190, 19, 512, 513, 525, 526, 527, 528, 529, 96, 97, 453, 530, 531, 532, 533, 33, 14, 131, 445, 446, 447, 448, 121, 449, 450, 451, 452, 302, 454, 455, 456, 29, 457, 458, 459, 460, 461, 161, 162, 24, 163, 39, 462, 463, 464, 465, 466, 467, 468, 469, 470, 471, 21, 472, 473, 474, 475, 252, 253, 254, 255, 256, 257, 258, 619, 620, 621, 622, 623, 624, 625, 626, 627, 628, 629, 630, 667, 668, 669, 670, 662, 663, 664, 665, 666, 659, 660, 661, 671, 672, 673] (by decide +kernel) (by decide +kernel)) (goodIn_sub (fun _ h => List.mem_append_right _ h) (by decide +kernel))) (goodIn_sub (fun _ h => List.mem_append_left _ (List.mem_append_right _ h)) (by decide +kernel))
set_option maxRecDepth 20000 in
theorem gL_law_L_tighten : GoodIn wsL_law (va_wsS RL 137 yL_tighten wsL_tighten) := goodIn_app (goodIn_of _ (by decide +kernel)) ggL_law_L_tighten
set_option maxRecDepth 20000 in
theorem ggL_law_X6_tighten : GoodIn wsL_law wsX6_tighten := goodIn_r _ [537, 481, 102, 69, 70, 57, 79, 107, 108, 5, 109, 538, 539, 540, 541, 61, 62, 63, 68, 490, 491, 492, 493, 67, 494, 495, 496, 497, 498, 499, 500, 501, 502, 71, 72, 73, 503, 631, 632, 633, 634, 635, 636, 637, 638, 639, 640, 641, 642, 643, 644, 645, 646, 647, 648, 649, 650, 651, 652, 653, 654, 655, 656, 657, 658] (by decide +kernel) (by decide +kernel)
set_option maxRecDepth 20000 in
theorem gL_law_X6_tighten : GoodIn wsL_law (wsV RL 139 RX6 yX6_tighten wsX6_tighten) := goodIn_app (goodIn_of _ (by decide +kernel)) ggL_law_X6_tighten
set_option maxRecDepth 20000 in
theorem ggL_law_L_waive : GoodIn wsL_law wsL_waive := goodIn_ca (goodIn_ca (goodIn_ca (goodIn_r _ [544, 84, 184, 85, 545, 546, 547, 2, 548, 189, 190, 90, 91, 475, 19, 466, 471, 21, 472, 473, 474, 526, 527, 528, 529, 96, 97, 453, 274, 275, 276, 277, 122, 619, 620, 621, 622, 623, 624, 625, 626, 627, 628, 629, 630, 667, 668, 669, 670, 671, 672, 673] (by decide +kernel) (by decide +kernel)) (goodIn_sub (fun _ h => List.mem_append_right _ h) (by decide +kernel))) (goodIn_sub (fun _ h => List.mem_append_left _ (List.mem_append_left _ (List.mem_append_right _ h))) (by decide +kernel))) (goodIn_sub (fun _ h => List.mem_append_left _ (List.mem_append_right _ h)) (by decide +kernel))
set_option maxRecDepth 20000 in
theorem gL_law_L_waive : GoodIn wsL_law (va_wsS RL 140 yL_waive wsL_waive) := goodIn_app (goodIn_of _ (by decide +kernel)) ggL_law_L_waive
set_option maxRecDepth 20000 in
theorem ggL_law_X6_waive : GoodIn wsL_law wsX6_waive := goodIn_r _ [552, 481, 503, 67, 502, 102, 71, 72, 73, 107, 108, 5, 109, 287, 288, 289, 290, 172, 631, 632, 633, 634, 635, 636, 637, 638, 639, 640, 641, 642, 643, 644, 645, 646, 647, 648, 649, 650, 651, 652, 653, 654, 655, 656, 657, 658] (by decide +kernel) (by decide +kernel)
set_option maxRecDepth 20000 in
theorem gL_law_X6_waive : GoodIn wsL_law (wsV RL 142 RX6 yX6_waive wsX6_waive) := goodIn_app (goodIn_of _ (by decide +kernel)) ggL_law_X6_waive
set_option maxRecDepth 20000 in
theorem ggL_law_L_blocks : GoodIn wsL_law wsL_blocks := goodIn_ca (goodIn_r _ [555, 84, 556, 557, 558, 2, 559, 14, 131, 92, 93, 94, 95, 96, 97, 33, 445, 446, 447, 448, 121, 449, 450, 451, 452, 453, 19, 302, 454, 455, 456, 29, 457, 458, 459, 460, 461, 161, 162, 24, 163, 39, 462, 463, 464, 465, 466, 467, 468, 469, 470, 471, 21, 472, 473, 474, 475, 619, 620, 621, 622, 623, 624, 625, 626, 627, 628, 629, 630, 662, 663, 664, 665, 666, 659, 660, 661, 667, 668, 669, 670, 671, 672, 673] (by decide +kernel) (by decide +kernel)) (goodIn_sub (fun _ h => List.mem_append_left _ (List.mem_append_right _ h)) (by decide +kernel))
set_option maxRecDepth 20000 in
theorem gL_law_L_blocks : GoodIn wsL_law (va_wsS RL 143 yL_blocks wsL_blocks) := goodIn_app (goodIn_of _ (by decide +kernel)) ggL_law_L_blocks
set_option maxRecDepth 20000 in
theorem ggL_law_X6_blocks : GoodIn wsL_law wsX6_blocks := goodIn_r _ [563, 102, 103, 104, 105, 5, 106, 57, 107, 108, 109, 538, 539, 540, 541, 61, 481, 62, 63, 68, 490, 491, 492, 493, 67, 494, 495, 496, 497, 69, 70, 498, 499, 500, 501, 502, 71, 72, 73, 503, 631, 632, 633, 634, 635, 636, 637, 638, 639, 640, 641, 642, 643, 644, 645, 646, 647, 648, 649, 650, 651, 652, 653, 654, 655, 656, 657, 658] (by decide +kernel) (by decide +kernel)
set_option maxRecDepth 20000 in
theorem gL_law_X6_blocks : GoodIn wsL_law (wsV RL 145 RX6 yX6_blocks wsX6_blocks) := goodIn_app (goodIn_of _ (by decide +kernel)) ggL_law_X6_blocks
set_option maxRecDepth 20000 in
theorem ggL_law_L_warnings : GoodIn wsL_law wsL_warnings := goodIn_ca (goodIn_r _ [566, 84, 567, 568, 569, 2, 570, 14, 131, 121, 453, 19, 466, 92, 93, 94, 95, 96, 97, 33, 454, 455, 456, 29, 457, 458, 459, 460, 461, 161, 162, 24, 163, 39, 619, 620, 621, 622, 623, 624, 625, 626, 627, 628, 629, 630, 662, 663, 664, 665, 666, 659, 660, 661, 667, 668, 669, 670] (by decide +kernel) (by decide +kernel)) (goodIn_sub (fun _ h => List.mem_append_left _ (List.mem_append_right _ h)) (by decide +kernel))
set_option maxRecDepth 20000 in
theorem gL_law_L_warnings : GoodIn wsL_law (va_wsS RL 146 yL_warnings wsL_warnings) := goodIn_app (goodIn_of _ (by decide +kernel)) ggL_law_L_warnings
set_option maxRecDepth 20000 in
theorem ggL_law_X6_warnings : GoodIn wsL_law wsX6_warnings := goodIn_r _ [574, 102, 61, 481, 67, 63, 68, 103, 104, 105, 5, 106, 57, 107, 108, 109, 494, 495, 496, 497, 69, 70, 631, 632, 633, 634, 635, 636, 637, 638, 639, 640, 641, 642, 643, 644, 645, 646, 647, 648, 649, 650, 651, 652, 653, 654, 655, 656, 657, 658] (by decide +kernel) (by decide +kernel)
set_option maxRecDepth 20000 in
theorem gL_law_X6_warnings : GoodIn wsL_law (wsV RL 148 RX6 yX6_warnings wsX6_warnings) := goodIn_app (goodIn_of _ (by decide +kernel)) ggL_law_X6_warnings
set_option maxRecDepth 20000 in
theorem ggL_law_L_firstBlock : GoodIn wsL_law wsL_firstBlock := goodIn_ca (goodIn_r _ [577, 84, 578, 579, 580, 2, 581, 14, 131, 121, 302, 92, 93, 94, 95, 96, 97, 33, 449, 450, 451, 452, 453, 19, 454, 455, 456, 29, 457, 458, 459, 460, 461, 161, 162, 24, 163, 39, 462, 463, 464, 465, 466, 467, 468, 469, 470, 471, 21, 472, 473, 474, 475, 619, 620, 621, 622, 623, 624, 625, 626, 627, 628, 629, 630, 662, 663, 664, 665, 666, 659, 660, 661, 667, 668, 669, 670, 671, 672, 673] (by decide +kernel) (by decide +kernel)) (goodIn_sub (fun _ h => List.mem_append_left _ (List.mem_append_right _ h)) (by decide +kernel))
set_option maxRecDepth 20000 in
theorem gL_law_L_firstBlock : GoodIn wsL_law (va_wsS RL 149 yL_firstBlock wsL_firstBlock) := goodIn_app (goodIn_of _ (by decide +kernel)) ggL_law_L_firstBlock
set_option maxRecDepth 20000 in
theorem ggL_law_X6_firstBlock : GoodIn wsL_law wsX6_firstBlock := goodIn_r _ [585, 102, 61, 481, 62, 63, 68, 103, 104, 105, 5, 106, 57, 107, 108, 109, 490, 491, 492, 493, 67, 494, 495, 496, 497, 69, 70, 498, 499, 500, 501, 502, 71, 72, 73, 503, 631, 632, 633, 634, 635, 636, 637, 638, 639, 640, 641, 642, 643, 644, 645, 646, 647, 648, 649, 650, 651, 652, 653, 654, 655, 656, 657, 658] (by decide +kernel) (by decide +kernel)
set_option maxRecDepth 20000 in
theorem gL_law_X6_firstBlock : GoodIn wsL_law (wsV RL 151 RX6 yX6_firstBlock wsX6_firstBlock) := goodIn_app (goodIn_of _ (by decide +kernel)) ggL_law_X6_firstBlock
set_option maxRecDepth 20000 in
theorem ggL_law_L_show : GoodIn wsL_law wsL_show := goodIn_ca (goodIn_ca (goodIn_r _ [588, 84, 85, 589, 590, 591, 2, 592, 90, 91, 17, 16, 123, 124, 125, 126, 96, 97, 34, 127, 128, 129, 130, 14, 131, 445, 446, 447, 448, 121, 449, 450, 451, 452, 453, 19, 302, 454, 455, 456, 29, 457, 458, 459, 460, 461, 161, 162, 24, 163, 39, 462, 463, 464, 465, 466, 467, 468, 469, 470, 471, 21, 472, 473, 474, 475, 619, 620, 621, 622, 623, 624, 625, 626, 627, 628, 629, 630, 662, 663, 664, 665, 666, 659, 660, 661, 667, 668, 669, 670, 671, 672, 673] (by decide +kernel) (by decide +kernel)) (goodIn_sub (fun _ h => List.mem_append_left _ (List.mem_append_left _ (List.mem_append_right _ h))) (by decide +kernel))) (goodIn_sub (fun _ h => List.mem_append_left _ (List.mem_append_right _ h)) (by decide +kernel))
set_option maxRecDepth 20000 in
theorem gL_law_L_show : GoodIn wsL_law (va_wsS RL 152 yL_show wsL_show) := goodIn_app (goodIn_of _ (by decide +kernel)) ggL_law_L_show
set_option maxRecDepth 20000 in
theorem ggL_law_X6_show : GoodIn wsL_law wsX6_show := goodIn_r _ [596, 65, 102, 66, 173, 174, 175, 5, 176, 64, 107, 108, 109, 538, 539, 540, 541, 61, 481, 62, 63, 68, 490, 491, 492, 493, 67, 494, 495, 496, 497, 69, 70, 498, 499, 500, 501, 502, 71, 72, 73, 503, 631, 632, 633, 634, 635, 636, 637, 638, 639, 640, 641, 642, 643, 644, 645, 646, 647, 648, 649, 650, 651, 652, 653, 654, 655, 656, 657, 658] (by decide +kernel) (by decide +kernel)
set_option maxRecDepth 20000 in
theorem gL_law_X6_show : GoodIn wsL_law (wsV RL 154 RX6 yX6_show wsX6_show) := goodIn_app (goodIn_of _ (by decide +kernel)) ggL_law_X6_show
set_option maxRecDepth 20000 in
theorem ggL_law_L_shown : GoodIn wsL_law wsL_shown := goodIn_ca (goodIn_r _ [599, 84, 600, 601, 602, 2, 603, 17, 14, 131, 123, 124, 125, 126, 96, 97, 34, 445, 446, 447, 448, 121, 449, 450, 451, 452, 453, 19, 302, 454, 455, 456, 29, 457, 458, 459, 460, 461, 161, 162, 24, 163, 39, 462, 463, 464, 465, 466, 467, 468, 469, 470, 471, 21, 472, 473, 474, 475, 619, 620, 621, 622, 623, 624, 625, 626, 627, 628, 629, 630, 662, 663, 664, 665, 666, 659, 660, 661, 667, 668, 669, 670, 671, 672, 673] (by decide +kernel) (by decide +kernel)) (goodIn_sub (fun _ h => List.mem_append_left _ (List.mem_append_right _ h)) (by decide +kernel))
set_option maxRecDepth 20000 in
theorem gL_law_L_shown : GoodIn wsL_law (va_wsS RL 155 yL_shown wsL_shown) := goodIn_app (goodIn_of _ (by decide +kernel)) ggL_law_L_shown
set_option maxRecDepth 20000 in
theorem ggL_law_X6_shown : GoodIn wsL_law wsX6_shown := goodIn_r _ [607, 102, 66, 173, 174, 175, 5, 176, 64, 107, 108, 109, 538, 539, 540, 541, 61, 481, 62, 63, 68, 490, 491, 492, 493, 67, 494, 495, 496, 497, 69, 70, 498, 499, 500, 501, 502, 71, 72, 73, 503, 631, 632, 633, 634, 635, 636, 637, 638, 639, 640, 641, 642, 643, 644, 645, 646, 647, 648, 649, 650, 651, 652, 653, 654, 655, 656, 657, 658] (by decide +kernel) (by decide +kernel)
set_option maxRecDepth 20000 in
theorem gL_law_X6_shown : GoodIn wsL_law (wsV RL 157 RX6 yX6_shown wsX6_shown) := goodIn_app (goodIn_of _ (by decide +kernel)) ggL_law_X6_shown
set_option maxRecDepth 20000 in
theorem ggL_law_L_pass : GoodIn wsL_law wsL_pass := goodIn_ca (goodIn_ca (goodIn_r _ [610, 184, 85, 611, 612, 613, 2, 614, 189, 190, 90, 91, 475, 619, 620, 621, 622, 623, 624, 625, 626, 627, 628, 629, 630] (by decide +kernel) (by decide +kernel)) (goodIn_sub (fun _ h => List.mem_append_right _ h) (by decide +kernel))) (goodIn_sub (fun _ h => List.mem_append_left _ (List.mem_append_left _ (List.mem_append_right _ h))) (by decide +kernel))
set_option maxRecDepth 20000 in
theorem gL_law_L_pass : GoodIn wsL_law (va_wsS RL 158 yL_pass wsL_pass) := goodIn_app (goodIn_of _ (by decide +kernel)) ggL_law_L_pass
set_option maxRecDepth 20000 in
theorem ggL_law_X6_pass : GoodIn wsL_law wsX6_pass := goodIn_r _ [618, 503, 102, 107, 108, 5, 109, 631, 632, 633, 634, 635, 636, 637, 638, 639, 640, 641, 642, 643, 644, 645, 646, 647, 648, 649, 650, 651, 652, 653, 654, 655, 656, 657, 658] (by decide +kernel) (by decide +kernel)
set_option maxRecDepth 20000 in
theorem gL_law_X6_pass : GoodIn wsL_law (wsV RL 160 RX6 yX6_pass wsX6_pass) := goodIn_app (goodIn_of _ (by decide +kernel)) ggL_law_X6_pass
theorem dL_law_0 : decode cL_law 0 = .ok (.new 8, 3) := by decide +kernel
theorem dL_law_3 : decode cL_law 3 = .ok (.dup, 1) := by decide +kernel
theorem dL_law_4 : decode cL_law 4 = .ok (.invokespecial 83, 3) := by decide +kernel
theorem dL_law_7 : decode cL_law 7 = .ok (.astore_n 1, 1) := by decide +kernel
theorem dL_law_8 : decode cL_law 8 = .ok (.new 84, 3) := by decide +kernel
theorem dL_law_11 : decode cL_law 11 = .ok (.dup, 1) := by decide +kernel
theorem dL_law_12 : decode cL_law 12 = .ok (.invokespecial 86, 3) := by decide +kernel
theorem dL_law_15 : decode cL_law 15 = .ok (.astore_n 2, 1) := by decide +kernel
theorem dL_law_16 : decode cL_law 16 = .ok (.iconst 1, 1) := by decide +kernel
theorem dL_law_17 : decode cL_law 17 = .ok (.newarray .long, 2) := by decide +kernel
theorem dL_law_19 : decode cL_law 19 = .ok (.astore_n 3, 1) := by decide +kernel
theorem dL_law_20 : decode cL_law 20 = .ok (.iconst 0, 1) := by decide +kernel
theorem dL_law_21 : decode cL_law 21 = .ok (.istore 4, 2) := by decide +kernel
theorem dL_law_23 : decode cL_law 23 = .ok (.iload 4, 2) := by decide +kernel
theorem dL_law_25 : decode cL_law 25 = .ok (.aload_n 0, 1) := by decide +kernel
theorem dL_law_26 : decode cL_law 26 = .ok (.arraylength, 1) := by decide +kernel
theorem dL_law_27 : decode cL_law 27 = .ok (.bipush 6, 2) := by decide +kernel
theorem dL_law_29 : decode cL_law 29 = .ok (.isub, 1) := by decide +kernel
theorem dL_law_30 : decode cL_law 30 = .ok (.if_icmp .gt 1580, 3) := by decide +kernel
theorem dL_law_33 : decode cL_law 33 = .ok (.aload_n 0, 1) := by decide +kernel
theorem dL_law_34 : decode cL_law 34 = .ok (.iload 4, 2) := by decide +kernel
theorem dL_law_36 : decode cL_law 36 = .ok (.iaload, 1) := by decide +kernel
theorem dL_law_37 : decode cL_law 37 = .ok (.bipush 31, 2) := by decide +kernel
theorem dL_law_39 : decode cL_law 39 = .ok (.iand, 1) := by decide +kernel
theorem dL_law_40 : decode cL_law 40 = .ok (.tableswitch 1564 0 20 #[100, 156, 224, 316, 384, 440, 508, 588, 656, 724, 792, 896, 976, 1068, 1148, 1228, 1284, 1340, 1396, 1452, 1508], 100) := by decide +kernel
theorem dL_law_140 : decode cL_law 140 = .ok (.aload_n 1, 1) := by decide +kernel
theorem dL_law_141 : decode cL_law 141 = .ok (.aload_n 0, 1) := by decide +kernel
theorem dL_law_142 : decode cL_law 142 = .ok (.iload 4, 2) := by decide +kernel
theorem dL_law_144 : decode cL_law 144 = .ok (.iconst 1, 1) := by decide +kernel
theorem dL_law_145 : decode cL_law 145 = .ok (.iadd, 1) := by decide +kernel
theorem dL_law_146 : decode cL_law 146 = .ok (.iaload, 1) := by decide +kernel
theorem dL_law_147 : decode cL_law 147 = .ok (.aload_n 3, 1) := by decide +kernel
theorem dL_law_148 : decode cL_law 148 = .ok (.invokestatic 87, 3) := by decide +kernel
theorem dL_law_151 : decode cL_law 151 = .ok (.istore 5, 2) := by decide +kernel
theorem dL_law_153 : decode cL_law 153 = .ok (.aload_n 2, 1) := by decide +kernel
theorem dL_law_154 : decode cL_law 154 = .ok (.aload_n 0, 1) := by decide +kernel
theorem dL_law_155 : decode cL_law 155 = .ok (.iload 4, 2) := by decide +kernel
theorem dL_law_157 : decode cL_law 157 = .ok (.iconst 1, 1) := by decide +kernel
theorem dL_law_158 : decode cL_law 158 = .ok (.iadd, 1) := by decide +kernel
theorem dL_law_159 : decode cL_law 159 = .ok (.iaload, 1) := by decide +kernel
theorem dL_law_160 : decode cL_law 160 = .ok (.invokevirtual 92, 3) := by decide +kernel
theorem dL_law_163 : decode cL_law 163 = .ok (.istore 6, 2) := by decide +kernel
theorem dL_law_165 : decode cL_law 165 = .ok (.aload_n 2, 1) := by decide +kernel
theorem dL_law_166 : decode cL_law 166 = .ok (.invokevirtual 93, 3) := by decide +kernel
theorem dL_law_169 : decode cL_law 169 = .ok (.iload 5, 2) := by decide +kernel
theorem dL_law_171 : decode cL_law 171 = .ok (.if_icmp .eq 5, 3) := by decide +kernel
theorem dL_law_174 : decode cL_law 174 = .ok (.iconst 0, 1) := by decide +kernel
theorem dL_law_175 : decode cL_law 175 = .ok (.ireturn, 1) := by decide +kernel
theorem dL_law_176 : decode cL_law 176 = .ok (.iload 5, 2) := by decide +kernel
theorem dL_law_178 : decode cL_law 178 = .ok (.ifCond .ne 15, 3) := by decide +kernel
theorem dL_law_181 : decode cL_law 181 = .ok (.aload_n 3, 1) := by decide +kernel
theorem dL_law_182 : decode cL_law 182 = .ok (.iconst 0, 1) := by decide +kernel
theorem dL_law_183 : decode cL_law 183 = .ok (.laload, 1) := by decide +kernel
theorem dL_law_184 : decode cL_law 184 = .ok (.iload 6, 2) := by decide +kernel
theorem dL_law_186 : decode cL_law 186 = .ok (.i2l, 1) := by decide +kernel
theorem dL_law_187 : decode cL_law 187 = .ok (.lcmp, 1) := by decide +kernel
theorem dL_law_188 : decode cL_law 188 = .ok (.ifCond .eq 5, 3) := by decide +kernel
theorem dL_law_191 : decode cL_law 191 = .ok (.iconst 0, 1) := by decide +kernel
theorem dL_law_192 : decode cL_law 192 = .ok (.ireturn, 1) := by decide +kernel
theorem dL_law_193 : decode cL_law 193 = .ok (.goto 1411, 3) := by decide +kernel
theorem dL_law_196 : decode cL_law 196 = .ok (.aload_n 1, 1) := by decide +kernel
theorem dL_law_197 : decode cL_law 197 = .ok (.aload_n 0, 1) := by decide +kernel
theorem dL_law_198 : decode cL_law 198 = .ok (.iload 4, 2) := by decide +kernel
theorem dL_law_200 : decode cL_law 200 = .ok (.iconst 1, 1) := by decide +kernel
theorem dL_law_201 : decode cL_law 201 = .ok (.iadd, 1) := by decide +kernel
theorem dL_law_202 : decode cL_law 202 = .ok (.iaload, 1) := by decide +kernel
theorem dL_law_203 : decode cL_law 203 = .ok (.aload_n 0, 1) := by decide +kernel
theorem dL_law_204 : decode cL_law 204 = .ok (.iload 4, 2) := by decide +kernel
theorem dL_law_206 : decode cL_law 206 = .ok (.iconst 2, 1) := by decide +kernel
theorem dL_law_207 : decode cL_law 207 = .ok (.iadd, 1) := by decide +kernel
theorem dL_law_208 : decode cL_law 208 = .ok (.iaload, 1) := by decide +kernel
theorem dL_law_209 : decode cL_law 209 = .ok (.aload_n 3, 1) := by decide +kernel
theorem dL_law_210 : decode cL_law 210 = .ok (.invokestatic 97, 3) := by decide +kernel
theorem dL_law_213 : decode cL_law 213 = .ok (.istore 5, 2) := by decide +kernel
theorem dL_law_215 : decode cL_law 215 = .ok (.aload_n 2, 1) := by decide +kernel
theorem dL_law_216 : decode cL_law 216 = .ok (.aload_n 0, 1) := by decide +kernel
theorem dL_law_217 : decode cL_law 217 = .ok (.iload 4, 2) := by decide +kernel
theorem dL_law_219 : decode cL_law 219 = .ok (.iconst 1, 1) := by decide +kernel
theorem dL_law_220 : decode cL_law 220 = .ok (.iadd, 1) := by decide +kernel
theorem dL_law_221 : decode cL_law 221 = .ok (.iaload, 1) := by decide +kernel
theorem dL_law_222 : decode cL_law 222 = .ok (.aload_n 0, 1) := by decide +kernel
theorem dL_law_223 : decode cL_law 223 = .ok (.iload 4, 2) := by decide +kernel
theorem dL_law_225 : decode cL_law 225 = .ok (.iconst 2, 1) := by decide +kernel
theorem dL_law_226 : decode cL_law 226 = .ok (.iadd, 1) := by decide +kernel
theorem dL_law_227 : decode cL_law 227 = .ok (.iaload, 1) := by decide +kernel
theorem dL_law_228 : decode cL_law 228 = .ok (.invokevirtual 100, 3) := by decide +kernel
theorem dL_law_231 : decode cL_law 231 = .ok (.istore 6, 2) := by decide +kernel
theorem dL_law_233 : decode cL_law 233 = .ok (.aload_n 2, 1) := by decide +kernel
theorem dL_law_234 : decode cL_law 234 = .ok (.invokevirtual 93, 3) := by decide +kernel
theorem dL_law_237 : decode cL_law 237 = .ok (.iload 5, 2) := by decide +kernel
theorem dL_law_239 : decode cL_law 239 = .ok (.if_icmp .eq 5, 3) := by decide +kernel
theorem dL_law_242 : decode cL_law 242 = .ok (.iconst 0, 1) := by decide +kernel
theorem dL_law_243 : decode cL_law 243 = .ok (.ireturn, 1) := by decide +kernel
theorem dL_law_244 : decode cL_law 244 = .ok (.iload 5, 2) := by decide +kernel
theorem dL_law_246 : decode cL_law 246 = .ok (.ifCond .ne 15, 3) := by decide +kernel
theorem dL_law_249 : decode cL_law 249 = .ok (.aload_n 3, 1) := by decide +kernel
theorem dL_law_250 : decode cL_law 250 = .ok (.iconst 0, 1) := by decide +kernel
theorem dL_law_251 : decode cL_law 251 = .ok (.laload, 1) := by decide +kernel
theorem dL_law_252 : decode cL_law 252 = .ok (.iload 6, 2) := by decide +kernel
theorem dL_law_254 : decode cL_law 254 = .ok (.i2l, 1) := by decide +kernel
theorem dL_law_255 : decode cL_law 255 = .ok (.lcmp, 1) := by decide +kernel
theorem dL_law_256 : decode cL_law 256 = .ok (.ifCond .eq 5, 3) := by decide +kernel
theorem dL_law_259 : decode cL_law 259 = .ok (.iconst 0, 1) := by decide +kernel
theorem dL_law_260 : decode cL_law 260 = .ok (.ireturn, 1) := by decide +kernel
theorem dL_law_261 : decode cL_law 261 = .ok (.goto 1343, 3) := by decide +kernel
theorem dL_law_264 : decode cL_law 264 = .ok (.aload_n 1, 1) := by decide +kernel
theorem dL_law_265 : decode cL_law 265 = .ok (.aload_n 0, 1) := by decide +kernel
theorem dL_law_266 : decode cL_law 266 = .ok (.iload 4, 2) := by decide +kernel
theorem dL_law_268 : decode cL_law 268 = .ok (.iconst 1, 1) := by decide +kernel
theorem dL_law_269 : decode cL_law 269 = .ok (.iadd, 1) := by decide +kernel
theorem dL_law_270 : decode cL_law 270 = .ok (.iaload, 1) := by decide +kernel
theorem dL_law_271 : decode cL_law 271 = .ok (.aload_n 0, 1) := by decide +kernel
theorem dL_law_272 : decode cL_law 272 = .ok (.iload 4, 2) := by decide +kernel
theorem dL_law_274 : decode cL_law 274 = .ok (.iconst 2, 1) := by decide +kernel
theorem dL_law_275 : decode cL_law 275 = .ok (.iadd, 1) := by decide +kernel
theorem dL_law_276 : decode cL_law 276 = .ok (.iaload, 1) := by decide +kernel
theorem dL_law_277 : decode cL_law 277 = .ok (.aload_n 0, 1) := by decide +kernel
theorem dL_law_278 : decode cL_law 278 = .ok (.iload 4, 2) := by decide +kernel
theorem dL_law_280 : decode cL_law 280 = .ok (.iconst 3, 1) := by decide +kernel
theorem dL_law_281 : decode cL_law 281 = .ok (.iadd, 1) := by decide +kernel
theorem dL_law_282 : decode cL_law 282 = .ok (.iaload, 1) := by decide +kernel
theorem dL_law_283 : decode cL_law 283 = .ok (.aload_n 0, 1) := by decide +kernel
theorem dL_law_284 : decode cL_law 284 = .ok (.iload 4, 2) := by decide +kernel
theorem dL_law_286 : decode cL_law 286 = .ok (.iconst 4, 1) := by decide +kernel
theorem dL_law_287 : decode cL_law 287 = .ok (.iadd, 1) := by decide +kernel
theorem dL_law_288 : decode cL_law 288 = .ok (.iaload, 1) := by decide +kernel
theorem dL_law_289 : decode cL_law 289 = .ok (.aload_n 3, 1) := by decide +kernel
theorem dL_law_290 : decode cL_law 290 = .ok (.invokestatic 101, 3) := by decide +kernel
theorem dL_law_293 : decode cL_law 293 = .ok (.istore 5, 2) := by decide +kernel
theorem dL_law_295 : decode cL_law 295 = .ok (.aload_n 2, 1) := by decide +kernel
theorem dL_law_296 : decode cL_law 296 = .ok (.aload_n 0, 1) := by decide +kernel
theorem dL_law_297 : decode cL_law 297 = .ok (.iload 4, 2) := by decide +kernel
theorem dL_law_299 : decode cL_law 299 = .ok (.iconst 1, 1) := by decide +kernel
theorem dL_law_300 : decode cL_law 300 = .ok (.iadd, 1) := by decide +kernel
theorem dL_law_301 : decode cL_law 301 = .ok (.iaload, 1) := by decide +kernel
theorem dL_law_302 : decode cL_law 302 = .ok (.aload_n 0, 1) := by decide +kernel
theorem dL_law_303 : decode cL_law 303 = .ok (.iload 4, 2) := by decide +kernel
theorem dL_law_305 : decode cL_law 305 = .ok (.iconst 2, 1) := by decide +kernel
theorem dL_law_306 : decode cL_law 306 = .ok (.iadd, 1) := by decide +kernel
theorem dL_law_307 : decode cL_law 307 = .ok (.iaload, 1) := by decide +kernel
theorem dL_law_308 : decode cL_law 308 = .ok (.aload_n 0, 1) := by decide +kernel
theorem dL_law_309 : decode cL_law 309 = .ok (.iload 4, 2) := by decide +kernel
theorem dL_law_311 : decode cL_law 311 = .ok (.iconst 3, 1) := by decide +kernel
theorem dL_law_312 : decode cL_law 312 = .ok (.iadd, 1) := by decide +kernel
theorem dL_law_313 : decode cL_law 313 = .ok (.iaload, 1) := by decide +kernel
theorem dL_law_314 : decode cL_law 314 = .ok (.aload_n 0, 1) := by decide +kernel
theorem dL_law_315 : decode cL_law 315 = .ok (.iload 4, 2) := by decide +kernel
theorem dL_law_317 : decode cL_law 317 = .ok (.iconst 4, 1) := by decide +kernel
theorem dL_law_318 : decode cL_law 318 = .ok (.iadd, 1) := by decide +kernel
theorem dL_law_319 : decode cL_law 319 = .ok (.iaload, 1) := by decide +kernel
theorem dL_law_320 : decode cL_law 320 = .ok (.invokevirtual 104, 3) := by decide +kernel
theorem dL_law_323 : decode cL_law 323 = .ok (.istore 6, 2) := by decide +kernel
theorem dL_law_325 : decode cL_law 325 = .ok (.aload_n 2, 1) := by decide +kernel
theorem dL_law_326 : decode cL_law 326 = .ok (.invokevirtual 93, 3) := by decide +kernel
theorem dL_law_329 : decode cL_law 329 = .ok (.iload 5, 2) := by decide +kernel
theorem dL_law_331 : decode cL_law 331 = .ok (.if_icmp .eq 5, 3) := by decide +kernel
theorem dL_law_334 : decode cL_law 334 = .ok (.iconst 0, 1) := by decide +kernel
theorem dL_law_335 : decode cL_law 335 = .ok (.ireturn, 1) := by decide +kernel
theorem dL_law_336 : decode cL_law 336 = .ok (.iload 5, 2) := by decide +kernel
theorem dL_law_338 : decode cL_law 338 = .ok (.ifCond .ne 15, 3) := by decide +kernel
theorem dL_law_341 : decode cL_law 341 = .ok (.aload_n 3, 1) := by decide +kernel
theorem dL_law_342 : decode cL_law 342 = .ok (.iconst 0, 1) := by decide +kernel
theorem dL_law_343 : decode cL_law 343 = .ok (.laload, 1) := by decide +kernel
theorem dL_law_344 : decode cL_law 344 = .ok (.iload 6, 2) := by decide +kernel
theorem dL_law_346 : decode cL_law 346 = .ok (.i2l, 1) := by decide +kernel
theorem dL_law_347 : decode cL_law 347 = .ok (.lcmp, 1) := by decide +kernel
theorem dL_law_348 : decode cL_law 348 = .ok (.ifCond .eq 5, 3) := by decide +kernel
theorem dL_law_351 : decode cL_law 351 = .ok (.iconst 0, 1) := by decide +kernel
theorem dL_law_352 : decode cL_law 352 = .ok (.ireturn, 1) := by decide +kernel
theorem dL_law_353 : decode cL_law 353 = .ok (.goto 1251, 3) := by decide +kernel
theorem dL_law_356 : decode cL_law 356 = .ok (.aload_n 1, 1) := by decide +kernel
theorem dL_law_357 : decode cL_law 357 = .ok (.aload_n 0, 1) := by decide +kernel
theorem dL_law_358 : decode cL_law 358 = .ok (.iload 4, 2) := by decide +kernel
theorem dL_law_360 : decode cL_law 360 = .ok (.iconst 1, 1) := by decide +kernel
theorem dL_law_361 : decode cL_law 361 = .ok (.iadd, 1) := by decide +kernel
theorem dL_law_362 : decode cL_law 362 = .ok (.iaload, 1) := by decide +kernel
theorem dL_law_363 : decode cL_law 363 = .ok (.aload_n 0, 1) := by decide +kernel
theorem dL_law_364 : decode cL_law 364 = .ok (.iload 4, 2) := by decide +kernel
theorem dL_law_366 : decode cL_law 366 = .ok (.iconst 2, 1) := by decide +kernel
theorem dL_law_367 : decode cL_law 367 = .ok (.iadd, 1) := by decide +kernel
theorem dL_law_368 : decode cL_law 368 = .ok (.iaload, 1) := by decide +kernel
theorem dL_law_369 : decode cL_law 369 = .ok (.aload_n 3, 1) := by decide +kernel
theorem dL_law_370 : decode cL_law 370 = .ok (.invokestatic 105, 3) := by decide +kernel
theorem dL_law_373 : decode cL_law 373 = .ok (.istore 5, 2) := by decide +kernel
theorem dL_law_375 : decode cL_law 375 = .ok (.aload_n 2, 1) := by decide +kernel
theorem dL_law_376 : decode cL_law 376 = .ok (.aload_n 0, 1) := by decide +kernel
theorem dL_law_377 : decode cL_law 377 = .ok (.iload 4, 2) := by decide +kernel
theorem dL_law_379 : decode cL_law 379 = .ok (.iconst 1, 1) := by decide +kernel
theorem dL_law_380 : decode cL_law 380 = .ok (.iadd, 1) := by decide +kernel
theorem dL_law_381 : decode cL_law 381 = .ok (.iaload, 1) := by decide +kernel
theorem dL_law_382 : decode cL_law 382 = .ok (.aload_n 0, 1) := by decide +kernel
theorem dL_law_383 : decode cL_law 383 = .ok (.iload 4, 2) := by decide +kernel
theorem dL_law_385 : decode cL_law 385 = .ok (.iconst 2, 1) := by decide +kernel
theorem dL_law_386 : decode cL_law 386 = .ok (.iadd, 1) := by decide +kernel
theorem dL_law_387 : decode cL_law 387 = .ok (.iaload, 1) := by decide +kernel
theorem dL_law_388 : decode cL_law 388 = .ok (.invokevirtual 107, 3) := by decide +kernel
theorem dL_law_391 : decode cL_law 391 = .ok (.istore 6, 2) := by decide +kernel
theorem dL_law_393 : decode cL_law 393 = .ok (.aload_n 2, 1) := by decide +kernel
theorem dL_law_394 : decode cL_law 394 = .ok (.invokevirtual 93, 3) := by decide +kernel
theorem dL_law_397 : decode cL_law 397 = .ok (.iload 5, 2) := by decide +kernel
theorem dL_law_399 : decode cL_law 399 = .ok (.if_icmp .eq 5, 3) := by decide +kernel
theorem dL_law_402 : decode cL_law 402 = .ok (.iconst 0, 1) := by decide +kernel
theorem dL_law_403 : decode cL_law 403 = .ok (.ireturn, 1) := by decide +kernel
theorem dL_law_404 : decode cL_law 404 = .ok (.iload 5, 2) := by decide +kernel
theorem dL_law_406 : decode cL_law 406 = .ok (.ifCond .ne 15, 3) := by decide +kernel
theorem dL_law_409 : decode cL_law 409 = .ok (.aload_n 3, 1) := by decide +kernel
theorem dL_law_410 : decode cL_law 410 = .ok (.iconst 0, 1) := by decide +kernel
theorem dL_law_411 : decode cL_law 411 = .ok (.laload, 1) := by decide +kernel
theorem dL_law_412 : decode cL_law 412 = .ok (.iload 6, 2) := by decide +kernel
theorem dL_law_414 : decode cL_law 414 = .ok (.i2l, 1) := by decide +kernel
theorem dL_law_415 : decode cL_law 415 = .ok (.lcmp, 1) := by decide +kernel
theorem dL_law_416 : decode cL_law 416 = .ok (.ifCond .eq 5, 3) := by decide +kernel
theorem dL_law_419 : decode cL_law 419 = .ok (.iconst 0, 1) := by decide +kernel
theorem dL_law_420 : decode cL_law 420 = .ok (.ireturn, 1) := by decide +kernel
theorem dL_law_421 : decode cL_law 421 = .ok (.goto 1183, 3) := by decide +kernel
theorem dL_law_424 : decode cL_law 424 = .ok (.aload_n 1, 1) := by decide +kernel
theorem dL_law_425 : decode cL_law 425 = .ok (.aload_n 0, 1) := by decide +kernel
theorem dL_law_426 : decode cL_law 426 = .ok (.iload 4, 2) := by decide +kernel
theorem dL_law_428 : decode cL_law 428 = .ok (.iconst 1, 1) := by decide +kernel
theorem dL_law_429 : decode cL_law 429 = .ok (.iadd, 1) := by decide +kernel
theorem dL_law_430 : decode cL_law 430 = .ok (.iaload, 1) := by decide +kernel
theorem dL_law_431 : decode cL_law 431 = .ok (.aload_n 3, 1) := by decide +kernel
theorem dL_law_432 : decode cL_law 432 = .ok (.invokestatic 108, 3) := by decide +kernel
theorem dL_law_435 : decode cL_law 435 = .ok (.istore 5, 2) := by decide +kernel
theorem dL_law_437 : decode cL_law 437 = .ok (.aload_n 2, 1) := by decide +kernel
theorem dL_law_438 : decode cL_law 438 = .ok (.aload_n 0, 1) := by decide +kernel
theorem dL_law_439 : decode cL_law 439 = .ok (.iload 4, 2) := by decide +kernel
theorem dL_law_441 : decode cL_law 441 = .ok (.iconst 1, 1) := by decide +kernel
theorem dL_law_442 : decode cL_law 442 = .ok (.iadd, 1) := by decide +kernel
theorem dL_law_443 : decode cL_law 443 = .ok (.iaload, 1) := by decide +kernel
theorem dL_law_444 : decode cL_law 444 = .ok (.invokevirtual 110, 3) := by decide +kernel
theorem dL_law_447 : decode cL_law 447 = .ok (.istore 6, 2) := by decide +kernel
theorem dL_law_449 : decode cL_law 449 = .ok (.aload_n 2, 1) := by decide +kernel
theorem dL_law_450 : decode cL_law 450 = .ok (.invokevirtual 93, 3) := by decide +kernel
theorem dL_law_453 : decode cL_law 453 = .ok (.iload 5, 2) := by decide +kernel
theorem dL_law_455 : decode cL_law 455 = .ok (.if_icmp .eq 5, 3) := by decide +kernel
theorem dL_law_458 : decode cL_law 458 = .ok (.iconst 0, 1) := by decide +kernel
theorem dL_law_459 : decode cL_law 459 = .ok (.ireturn, 1) := by decide +kernel
theorem dL_law_460 : decode cL_law 460 = .ok (.iload 5, 2) := by decide +kernel
theorem dL_law_462 : decode cL_law 462 = .ok (.ifCond .ne 15, 3) := by decide +kernel
theorem dL_law_465 : decode cL_law 465 = .ok (.aload_n 3, 1) := by decide +kernel
theorem dL_law_466 : decode cL_law 466 = .ok (.iconst 0, 1) := by decide +kernel
theorem dL_law_467 : decode cL_law 467 = .ok (.laload, 1) := by decide +kernel
theorem dL_law_468 : decode cL_law 468 = .ok (.iload 6, 2) := by decide +kernel
theorem dL_law_470 : decode cL_law 470 = .ok (.i2l, 1) := by decide +kernel
theorem dL_law_471 : decode cL_law 471 = .ok (.lcmp, 1) := by decide +kernel
theorem dL_law_472 : decode cL_law 472 = .ok (.ifCond .eq 5, 3) := by decide +kernel
theorem dL_law_475 : decode cL_law 475 = .ok (.iconst 0, 1) := by decide +kernel
theorem dL_law_476 : decode cL_law 476 = .ok (.ireturn, 1) := by decide +kernel
theorem dL_law_477 : decode cL_law 477 = .ok (.goto 1127, 3) := by decide +kernel
theorem dL_law_480 : decode cL_law 480 = .ok (.aload_n 1, 1) := by decide +kernel
theorem dL_law_481 : decode cL_law 481 = .ok (.aload_n 0, 1) := by decide +kernel
theorem dL_law_482 : decode cL_law 482 = .ok (.iload 4, 2) := by decide +kernel
theorem dL_law_484 : decode cL_law 484 = .ok (.iconst 1, 1) := by decide +kernel
theorem dL_law_485 : decode cL_law 485 = .ok (.iadd, 1) := by decide +kernel
theorem dL_law_486 : decode cL_law 486 = .ok (.iaload, 1) := by decide +kernel
theorem dL_law_487 : decode cL_law 487 = .ok (.aload_n 0, 1) := by decide +kernel
theorem dL_law_488 : decode cL_law 488 = .ok (.iload 4, 2) := by decide +kernel
theorem dL_law_490 : decode cL_law 490 = .ok (.iconst 2, 1) := by decide +kernel
theorem dL_law_491 : decode cL_law 491 = .ok (.iadd, 1) := by decide +kernel
theorem dL_law_492 : decode cL_law 492 = .ok (.iaload, 1) := by decide +kernel
theorem dL_law_493 : decode cL_law 493 = .ok (.aload_n 3, 1) := by decide +kernel
theorem dL_law_494 : decode cL_law 494 = .ok (.invokestatic 111, 3) := by decide +kernel
theorem dL_law_497 : decode cL_law 497 = .ok (.istore 5, 2) := by decide +kernel
theorem dL_law_499 : decode cL_law 499 = .ok (.aload_n 2, 1) := by decide +kernel
theorem dL_law_500 : decode cL_law 500 = .ok (.aload_n 0, 1) := by decide +kernel
theorem dL_law_501 : decode cL_law 501 = .ok (.iload 4, 2) := by decide +kernel
theorem dL_law_503 : decode cL_law 503 = .ok (.iconst 1, 1) := by decide +kernel
theorem dL_law_504 : decode cL_law 504 = .ok (.iadd, 1) := by decide +kernel
theorem dL_law_505 : decode cL_law 505 = .ok (.iaload, 1) := by decide +kernel
theorem dL_law_506 : decode cL_law 506 = .ok (.aload_n 0, 1) := by decide +kernel
theorem dL_law_507 : decode cL_law 507 = .ok (.iload 4, 2) := by decide +kernel
theorem dL_law_509 : decode cL_law 509 = .ok (.iconst 2, 1) := by decide +kernel
theorem dL_law_510 : decode cL_law 510 = .ok (.iadd, 1) := by decide +kernel
theorem dL_law_511 : decode cL_law 511 = .ok (.iaload, 1) := by decide +kernel
theorem dL_law_512 : decode cL_law 512 = .ok (.invokevirtual 113, 3) := by decide +kernel
theorem dL_law_515 : decode cL_law 515 = .ok (.istore 6, 2) := by decide +kernel
theorem dL_law_517 : decode cL_law 517 = .ok (.aload_n 2, 1) := by decide +kernel
theorem dL_law_518 : decode cL_law 518 = .ok (.invokevirtual 93, 3) := by decide +kernel
theorem dL_law_521 : decode cL_law 521 = .ok (.iload 5, 2) := by decide +kernel
theorem dL_law_523 : decode cL_law 523 = .ok (.if_icmp .eq 5, 3) := by decide +kernel
theorem dL_law_526 : decode cL_law 526 = .ok (.iconst 0, 1) := by decide +kernel
theorem dL_law_527 : decode cL_law 527 = .ok (.ireturn, 1) := by decide +kernel
theorem dL_law_528 : decode cL_law 528 = .ok (.iload 5, 2) := by decide +kernel
theorem dL_law_530 : decode cL_law 530 = .ok (.ifCond .ne 15, 3) := by decide +kernel
theorem dL_law_533 : decode cL_law 533 = .ok (.aload_n 3, 1) := by decide +kernel
theorem dL_law_534 : decode cL_law 534 = .ok (.iconst 0, 1) := by decide +kernel
theorem dL_law_535 : decode cL_law 535 = .ok (.laload, 1) := by decide +kernel
theorem dL_law_536 : decode cL_law 536 = .ok (.iload 6, 2) := by decide +kernel
theorem dL_law_538 : decode cL_law 538 = .ok (.i2l, 1) := by decide +kernel
theorem dL_law_539 : decode cL_law 539 = .ok (.lcmp, 1) := by decide +kernel
theorem dL_law_540 : decode cL_law 540 = .ok (.ifCond .eq 5, 3) := by decide +kernel
theorem dL_law_543 : decode cL_law 543 = .ok (.iconst 0, 1) := by decide +kernel
theorem dL_law_544 : decode cL_law 544 = .ok (.ireturn, 1) := by decide +kernel
theorem dL_law_545 : decode cL_law 545 = .ok (.goto 1059, 3) := by decide +kernel
theorem dL_law_548 : decode cL_law 548 = .ok (.aload_n 1, 1) := by decide +kernel
theorem dL_law_549 : decode cL_law 549 = .ok (.aload_n 0, 1) := by decide +kernel
theorem dL_law_550 : decode cL_law 550 = .ok (.iload 4, 2) := by decide +kernel
theorem dL_law_552 : decode cL_law 552 = .ok (.iconst 1, 1) := by decide +kernel
theorem dL_law_553 : decode cL_law 553 = .ok (.iadd, 1) := by decide +kernel
theorem dL_law_554 : decode cL_law 554 = .ok (.iaload, 1) := by decide +kernel
theorem dL_law_555 : decode cL_law 555 = .ok (.aload_n 0, 1) := by decide +kernel
theorem dL_law_556 : decode cL_law 556 = .ok (.iload 4, 2) := by decide +kernel
theorem dL_law_558 : decode cL_law 558 = .ok (.iconst 2, 1) := by decide +kernel
theorem dL_law_559 : decode cL_law 559 = .ok (.iadd, 1) := by decide +kernel
theorem dL_law_560 : decode cL_law 560 = .ok (.iaload, 1) := by decide +kernel
theorem dL_law_561 : decode cL_law 561 = .ok (.aload_n 0, 1) := by decide +kernel
theorem dL_law_562 : decode cL_law 562 = .ok (.iload 4, 2) := by decide +kernel
theorem dL_law_564 : decode cL_law 564 = .ok (.iconst 3, 1) := by decide +kernel
theorem dL_law_565 : decode cL_law 565 = .ok (.iadd, 1) := by decide +kernel
theorem dL_law_566 : decode cL_law 566 = .ok (.iaload, 1) := by decide +kernel
theorem dL_law_567 : decode cL_law 567 = .ok (.aload_n 3, 1) := by decide +kernel
theorem dL_law_568 : decode cL_law 568 = .ok (.invokestatic 114, 3) := by decide +kernel
theorem dL_law_571 : decode cL_law 571 = .ok (.istore 5, 2) := by decide +kernel
theorem dL_law_573 : decode cL_law 573 = .ok (.aload_n 2, 1) := by decide +kernel
theorem dL_law_574 : decode cL_law 574 = .ok (.aload_n 0, 1) := by decide +kernel
theorem dL_law_575 : decode cL_law 575 = .ok (.iload 4, 2) := by decide +kernel
theorem dL_law_577 : decode cL_law 577 = .ok (.iconst 1, 1) := by decide +kernel
theorem dL_law_578 : decode cL_law 578 = .ok (.iadd, 1) := by decide +kernel
theorem dL_law_579 : decode cL_law 579 = .ok (.iaload, 1) := by decide +kernel
theorem dL_law_580 : decode cL_law 580 = .ok (.aload_n 0, 1) := by decide +kernel
theorem dL_law_581 : decode cL_law 581 = .ok (.iload 4, 2) := by decide +kernel
theorem dL_law_583 : decode cL_law 583 = .ok (.iconst 2, 1) := by decide +kernel
theorem dL_law_584 : decode cL_law 584 = .ok (.iadd, 1) := by decide +kernel
theorem dL_law_585 : decode cL_law 585 = .ok (.iaload, 1) := by decide +kernel
theorem dL_law_586 : decode cL_law 586 = .ok (.aload_n 0, 1) := by decide +kernel
theorem dL_law_587 : decode cL_law 587 = .ok (.iload 4, 2) := by decide +kernel
theorem dL_law_589 : decode cL_law 589 = .ok (.iconst 3, 1) := by decide +kernel
theorem dL_law_590 : decode cL_law 590 = .ok (.iadd, 1) := by decide +kernel
theorem dL_law_591 : decode cL_law 591 = .ok (.iaload, 1) := by decide +kernel
theorem dL_law_592 : decode cL_law 592 = .ok (.invokevirtual 117, 3) := by decide +kernel
theorem dL_law_595 : decode cL_law 595 = .ok (.istore 6, 2) := by decide +kernel
theorem dL_law_597 : decode cL_law 597 = .ok (.aload_n 2, 1) := by decide +kernel
theorem dL_law_598 : decode cL_law 598 = .ok (.invokevirtual 93, 3) := by decide +kernel
theorem dL_law_601 : decode cL_law 601 = .ok (.iload 5, 2) := by decide +kernel
theorem dL_law_603 : decode cL_law 603 = .ok (.if_icmp .eq 5, 3) := by decide +kernel
theorem dL_law_606 : decode cL_law 606 = .ok (.iconst 0, 1) := by decide +kernel
theorem dL_law_607 : decode cL_law 607 = .ok (.ireturn, 1) := by decide +kernel
theorem dL_law_608 : decode cL_law 608 = .ok (.iload 5, 2) := by decide +kernel
theorem dL_law_610 : decode cL_law 610 = .ok (.ifCond .ne 15, 3) := by decide +kernel
theorem dL_law_613 : decode cL_law 613 = .ok (.aload_n 3, 1) := by decide +kernel
theorem dL_law_614 : decode cL_law 614 = .ok (.iconst 0, 1) := by decide +kernel
theorem dL_law_615 : decode cL_law 615 = .ok (.laload, 1) := by decide +kernel
theorem dL_law_616 : decode cL_law 616 = .ok (.iload 6, 2) := by decide +kernel
theorem dL_law_618 : decode cL_law 618 = .ok (.i2l, 1) := by decide +kernel
theorem dL_law_619 : decode cL_law 619 = .ok (.lcmp, 1) := by decide +kernel
theorem dL_law_620 : decode cL_law 620 = .ok (.ifCond .eq 5, 3) := by decide +kernel
theorem dL_law_623 : decode cL_law 623 = .ok (.iconst 0, 1) := by decide +kernel
theorem dL_law_624 : decode cL_law 624 = .ok (.ireturn, 1) := by decide +kernel
theorem dL_law_625 : decode cL_law 625 = .ok (.goto 979, 3) := by decide +kernel
theorem dL_law_628 : decode cL_law 628 = .ok (.aload_n 1, 1) := by decide +kernel
theorem dL_law_629 : decode cL_law 629 = .ok (.aload_n 0, 1) := by decide +kernel
theorem dL_law_630 : decode cL_law 630 = .ok (.iload 4, 2) := by decide +kernel
theorem dL_law_632 : decode cL_law 632 = .ok (.iconst 1, 1) := by decide +kernel
theorem dL_law_633 : decode cL_law 633 = .ok (.iadd, 1) := by decide +kernel
theorem dL_law_634 : decode cL_law 634 = .ok (.iaload, 1) := by decide +kernel
theorem dL_law_635 : decode cL_law 635 = .ok (.aload_n 0, 1) := by decide +kernel
theorem dL_law_636 : decode cL_law 636 = .ok (.iload 4, 2) := by decide +kernel
theorem dL_law_638 : decode cL_law 638 = .ok (.iconst 2, 1) := by decide +kernel
theorem dL_law_639 : decode cL_law 639 = .ok (.iadd, 1) := by decide +kernel
theorem dL_law_640 : decode cL_law 640 = .ok (.iaload, 1) := by decide +kernel
theorem dL_law_641 : decode cL_law 641 = .ok (.aload_n 3, 1) := by decide +kernel
theorem dL_law_642 : decode cL_law 642 = .ok (.invokestatic 118, 3) := by decide +kernel
theorem dL_law_645 : decode cL_law 645 = .ok (.istore 5, 2) := by decide +kernel
theorem dL_law_647 : decode cL_law 647 = .ok (.aload_n 2, 1) := by decide +kernel
theorem dL_law_648 : decode cL_law 648 = .ok (.aload_n 0, 1) := by decide +kernel
theorem dL_law_649 : decode cL_law 649 = .ok (.iload 4, 2) := by decide +kernel
theorem dL_law_651 : decode cL_law 651 = .ok (.iconst 1, 1) := by decide +kernel
theorem dL_law_652 : decode cL_law 652 = .ok (.iadd, 1) := by decide +kernel
theorem dL_law_653 : decode cL_law 653 = .ok (.iaload, 1) := by decide +kernel
theorem dL_law_654 : decode cL_law 654 = .ok (.aload_n 0, 1) := by decide +kernel
theorem dL_law_655 : decode cL_law 655 = .ok (.iload 4, 2) := by decide +kernel
theorem dL_law_657 : decode cL_law 657 = .ok (.iconst 2, 1) := by decide +kernel
theorem dL_law_658 : decode cL_law 658 = .ok (.iadd, 1) := by decide +kernel
theorem dL_law_659 : decode cL_law 659 = .ok (.iaload, 1) := by decide +kernel
theorem dL_law_660 : decode cL_law 660 = .ok (.invokevirtual 120, 3) := by decide +kernel
theorem dL_law_663 : decode cL_law 663 = .ok (.istore 6, 2) := by decide +kernel
theorem dL_law_665 : decode cL_law 665 = .ok (.aload_n 2, 1) := by decide +kernel
theorem dL_law_666 : decode cL_law 666 = .ok (.invokevirtual 93, 3) := by decide +kernel
theorem dL_law_669 : decode cL_law 669 = .ok (.iload 5, 2) := by decide +kernel
theorem dL_law_671 : decode cL_law 671 = .ok (.if_icmp .eq 5, 3) := by decide +kernel
theorem dL_law_674 : decode cL_law 674 = .ok (.iconst 0, 1) := by decide +kernel
theorem dL_law_675 : decode cL_law 675 = .ok (.ireturn, 1) := by decide +kernel
theorem dL_law_676 : decode cL_law 676 = .ok (.iload 5, 2) := by decide +kernel
theorem dL_law_678 : decode cL_law 678 = .ok (.ifCond .ne 15, 3) := by decide +kernel
theorem dL_law_681 : decode cL_law 681 = .ok (.aload_n 3, 1) := by decide +kernel
theorem dL_law_682 : decode cL_law 682 = .ok (.iconst 0, 1) := by decide +kernel
theorem dL_law_683 : decode cL_law 683 = .ok (.laload, 1) := by decide +kernel
theorem dL_law_684 : decode cL_law 684 = .ok (.iload 6, 2) := by decide +kernel
theorem dL_law_686 : decode cL_law 686 = .ok (.i2l, 1) := by decide +kernel
theorem dL_law_687 : decode cL_law 687 = .ok (.lcmp, 1) := by decide +kernel
theorem dL_law_688 : decode cL_law 688 = .ok (.ifCond .eq 5, 3) := by decide +kernel
theorem dL_law_691 : decode cL_law 691 = .ok (.iconst 0, 1) := by decide +kernel
theorem dL_law_692 : decode cL_law 692 = .ok (.ireturn, 1) := by decide +kernel
theorem dL_law_693 : decode cL_law 693 = .ok (.goto 911, 3) := by decide +kernel
theorem dL_law_696 : decode cL_law 696 = .ok (.aload_n 1, 1) := by decide +kernel
theorem dL_law_697 : decode cL_law 697 = .ok (.aload_n 0, 1) := by decide +kernel
theorem dL_law_698 : decode cL_law 698 = .ok (.iload 4, 2) := by decide +kernel
theorem dL_law_700 : decode cL_law 700 = .ok (.iconst 1, 1) := by decide +kernel
theorem dL_law_701 : decode cL_law 701 = .ok (.iadd, 1) := by decide +kernel
theorem dL_law_702 : decode cL_law 702 = .ok (.iaload, 1) := by decide +kernel
theorem dL_law_703 : decode cL_law 703 = .ok (.aload_n 0, 1) := by decide +kernel
theorem dL_law_704 : decode cL_law 704 = .ok (.iload 4, 2) := by decide +kernel
theorem dL_law_706 : decode cL_law 706 = .ok (.iconst 2, 1) := by decide +kernel
theorem dL_law_707 : decode cL_law 707 = .ok (.iadd, 1) := by decide +kernel
theorem dL_law_708 : decode cL_law 708 = .ok (.iaload, 1) := by decide +kernel
theorem dL_law_709 : decode cL_law 709 = .ok (.aload_n 3, 1) := by decide +kernel
theorem dL_law_710 : decode cL_law 710 = .ok (.invokestatic 121, 3) := by decide +kernel
theorem dL_law_713 : decode cL_law 713 = .ok (.istore 5, 2) := by decide +kernel
theorem dL_law_715 : decode cL_law 715 = .ok (.aload_n 2, 1) := by decide +kernel
theorem dL_law_716 : decode cL_law 716 = .ok (.aload_n 0, 1) := by decide +kernel
theorem dL_law_717 : decode cL_law 717 = .ok (.iload 4, 2) := by decide +kernel
theorem dL_law_719 : decode cL_law 719 = .ok (.iconst 1, 1) := by decide +kernel
theorem dL_law_720 : decode cL_law 720 = .ok (.iadd, 1) := by decide +kernel
theorem dL_law_721 : decode cL_law 721 = .ok (.iaload, 1) := by decide +kernel
theorem dL_law_722 : decode cL_law 722 = .ok (.aload_n 0, 1) := by decide +kernel
theorem dL_law_723 : decode cL_law 723 = .ok (.iload 4, 2) := by decide +kernel
theorem dL_law_725 : decode cL_law 725 = .ok (.iconst 2, 1) := by decide +kernel
theorem dL_law_726 : decode cL_law 726 = .ok (.iadd, 1) := by decide +kernel
theorem dL_law_727 : decode cL_law 727 = .ok (.iaload, 1) := by decide +kernel
theorem dL_law_728 : decode cL_law 728 = .ok (.invokevirtual 123, 3) := by decide +kernel
theorem dL_law_731 : decode cL_law 731 = .ok (.istore 6, 2) := by decide +kernel
theorem dL_law_733 : decode cL_law 733 = .ok (.aload_n 2, 1) := by decide +kernel
theorem dL_law_734 : decode cL_law 734 = .ok (.invokevirtual 93, 3) := by decide +kernel
theorem dL_law_737 : decode cL_law 737 = .ok (.iload 5, 2) := by decide +kernel
theorem dL_law_739 : decode cL_law 739 = .ok (.if_icmp .eq 5, 3) := by decide +kernel
theorem dL_law_742 : decode cL_law 742 = .ok (.iconst 0, 1) := by decide +kernel
theorem dL_law_743 : decode cL_law 743 = .ok (.ireturn, 1) := by decide +kernel
theorem dL_law_744 : decode cL_law 744 = .ok (.iload 5, 2) := by decide +kernel
theorem dL_law_746 : decode cL_law 746 = .ok (.ifCond .ne 15, 3) := by decide +kernel
theorem dL_law_749 : decode cL_law 749 = .ok (.aload_n 3, 1) := by decide +kernel
theorem dL_law_750 : decode cL_law 750 = .ok (.iconst 0, 1) := by decide +kernel
theorem dL_law_751 : decode cL_law 751 = .ok (.laload, 1) := by decide +kernel
theorem dL_law_752 : decode cL_law 752 = .ok (.iload 6, 2) := by decide +kernel
theorem dL_law_754 : decode cL_law 754 = .ok (.i2l, 1) := by decide +kernel
theorem dL_law_755 : decode cL_law 755 = .ok (.lcmp, 1) := by decide +kernel
theorem dL_law_756 : decode cL_law 756 = .ok (.ifCond .eq 5, 3) := by decide +kernel
theorem dL_law_759 : decode cL_law 759 = .ok (.iconst 0, 1) := by decide +kernel
theorem dL_law_760 : decode cL_law 760 = .ok (.ireturn, 1) := by decide +kernel
theorem dL_law_761 : decode cL_law 761 = .ok (.goto 843, 3) := by decide +kernel
theorem dL_law_764 : decode cL_law 764 = .ok (.aload_n 1, 1) := by decide +kernel
theorem dL_law_765 : decode cL_law 765 = .ok (.aload_n 0, 1) := by decide +kernel
theorem dL_law_766 : decode cL_law 766 = .ok (.iload 4, 2) := by decide +kernel
theorem dL_law_768 : decode cL_law 768 = .ok (.iconst 1, 1) := by decide +kernel
theorem dL_law_769 : decode cL_law 769 = .ok (.iadd, 1) := by decide +kernel
theorem dL_law_770 : decode cL_law 770 = .ok (.iaload, 1) := by decide +kernel
theorem dL_law_771 : decode cL_law 771 = .ok (.aload_n 0, 1) := by decide +kernel
theorem dL_law_772 : decode cL_law 772 = .ok (.iload 4, 2) := by decide +kernel
theorem dL_law_774 : decode cL_law 774 = .ok (.iconst 2, 1) := by decide +kernel
theorem dL_law_775 : decode cL_law 775 = .ok (.iadd, 1) := by decide +kernel
theorem dL_law_776 : decode cL_law 776 = .ok (.iaload, 1) := by decide +kernel
theorem dL_law_777 : decode cL_law 777 = .ok (.aload_n 3, 1) := by decide +kernel
theorem dL_law_778 : decode cL_law 778 = .ok (.invokestatic 124, 3) := by decide +kernel
theorem dL_law_781 : decode cL_law 781 = .ok (.istore 5, 2) := by decide +kernel
theorem dL_law_783 : decode cL_law 783 = .ok (.aload_n 2, 1) := by decide +kernel
theorem dL_law_784 : decode cL_law 784 = .ok (.aload_n 0, 1) := by decide +kernel
theorem dL_law_785 : decode cL_law 785 = .ok (.iload 4, 2) := by decide +kernel
theorem dL_law_787 : decode cL_law 787 = .ok (.iconst 1, 1) := by decide +kernel
theorem dL_law_788 : decode cL_law 788 = .ok (.iadd, 1) := by decide +kernel
theorem dL_law_789 : decode cL_law 789 = .ok (.iaload, 1) := by decide +kernel
theorem dL_law_790 : decode cL_law 790 = .ok (.aload_n 0, 1) := by decide +kernel
theorem dL_law_791 : decode cL_law 791 = .ok (.iload 4, 2) := by decide +kernel
theorem dL_law_793 : decode cL_law 793 = .ok (.iconst 2, 1) := by decide +kernel
theorem dL_law_794 : decode cL_law 794 = .ok (.iadd, 1) := by decide +kernel
theorem dL_law_795 : decode cL_law 795 = .ok (.iaload, 1) := by decide +kernel
theorem dL_law_796 : decode cL_law 796 = .ok (.invokevirtual 126, 3) := by decide +kernel
theorem dL_law_799 : decode cL_law 799 = .ok (.istore 6, 2) := by decide +kernel
theorem dL_law_801 : decode cL_law 801 = .ok (.aload_n 2, 1) := by decide +kernel
theorem dL_law_802 : decode cL_law 802 = .ok (.invokevirtual 93, 3) := by decide +kernel
theorem dL_law_805 : decode cL_law 805 = .ok (.iload 5, 2) := by decide +kernel
theorem dL_law_807 : decode cL_law 807 = .ok (.if_icmp .eq 5, 3) := by decide +kernel
theorem dL_law_810 : decode cL_law 810 = .ok (.iconst 0, 1) := by decide +kernel
theorem dL_law_811 : decode cL_law 811 = .ok (.ireturn, 1) := by decide +kernel
theorem dL_law_812 : decode cL_law 812 = .ok (.iload 5, 2) := by decide +kernel
theorem dL_law_814 : decode cL_law 814 = .ok (.ifCond .ne 15, 3) := by decide +kernel
theorem dL_law_817 : decode cL_law 817 = .ok (.aload_n 3, 1) := by decide +kernel
theorem dL_law_818 : decode cL_law 818 = .ok (.iconst 0, 1) := by decide +kernel
theorem dL_law_819 : decode cL_law 819 = .ok (.laload, 1) := by decide +kernel
theorem dL_law_820 : decode cL_law 820 = .ok (.iload 6, 2) := by decide +kernel
theorem dL_law_822 : decode cL_law 822 = .ok (.i2l, 1) := by decide +kernel
theorem dL_law_823 : decode cL_law 823 = .ok (.lcmp, 1) := by decide +kernel
theorem dL_law_824 : decode cL_law 824 = .ok (.ifCond .eq 5, 3) := by decide +kernel
theorem dL_law_827 : decode cL_law 827 = .ok (.iconst 0, 1) := by decide +kernel
theorem dL_law_828 : decode cL_law 828 = .ok (.ireturn, 1) := by decide +kernel
theorem dL_law_829 : decode cL_law 829 = .ok (.goto 775, 3) := by decide +kernel
theorem dL_law_832 : decode cL_law 832 = .ok (.aload_n 1, 1) := by decide +kernel
theorem dL_law_833 : decode cL_law 833 = .ok (.aload_n 0, 1) := by decide +kernel
theorem dL_law_834 : decode cL_law 834 = .ok (.iload 4, 2) := by decide +kernel
theorem dL_law_836 : decode cL_law 836 = .ok (.iconst 1, 1) := by decide +kernel
theorem dL_law_837 : decode cL_law 837 = .ok (.iadd, 1) := by decide +kernel
theorem dL_law_838 : decode cL_law 838 = .ok (.iaload, 1) := by decide +kernel
theorem dL_law_839 : decode cL_law 839 = .ok (.aload_n 0, 1) := by decide +kernel
theorem dL_law_840 : decode cL_law 840 = .ok (.iload 4, 2) := by decide +kernel
theorem dL_law_842 : decode cL_law 842 = .ok (.iconst 2, 1) := by decide +kernel
theorem dL_law_843 : decode cL_law 843 = .ok (.iadd, 1) := by decide +kernel
theorem dL_law_844 : decode cL_law 844 = .ok (.iaload, 1) := by decide +kernel
theorem dL_law_845 : decode cL_law 845 = .ok (.aload_n 0, 1) := by decide +kernel
theorem dL_law_846 : decode cL_law 846 = .ok (.iload 4, 2) := by decide +kernel
theorem dL_law_848 : decode cL_law 848 = .ok (.iconst 3, 1) := by decide +kernel
theorem dL_law_849 : decode cL_law 849 = .ok (.iadd, 1) := by decide +kernel
theorem dL_law_850 : decode cL_law 850 = .ok (.iaload, 1) := by decide +kernel
theorem dL_law_851 : decode cL_law 851 = .ok (.aload_n 0, 1) := by decide +kernel
theorem dL_law_852 : decode cL_law 852 = .ok (.iload 4, 2) := by decide +kernel
theorem dL_law_854 : decode cL_law 854 = .ok (.iconst 4, 1) := by decide +kernel
theorem dL_law_855 : decode cL_law 855 = .ok (.iadd, 1) := by decide +kernel
theorem dL_law_856 : decode cL_law 856 = .ok (.iaload, 1) := by decide +kernel
theorem dL_law_857 : decode cL_law 857 = .ok (.aload_n 0, 1) := by decide +kernel
theorem dL_law_858 : decode cL_law 858 = .ok (.iload 4, 2) := by decide +kernel
theorem dL_law_860 : decode cL_law 860 = .ok (.iconst 5, 1) := by decide +kernel
theorem dL_law_861 : decode cL_law 861 = .ok (.iadd, 1) := by decide +kernel
theorem dL_law_862 : decode cL_law 862 = .ok (.iaload, 1) := by decide +kernel
theorem dL_law_863 : decode cL_law 863 = .ok (.aload_n 3, 1) := by decide +kernel
theorem dL_law_864 : decode cL_law 864 = .ok (.invokestatic 127, 3) := by decide +kernel
theorem dL_law_867 : decode cL_law 867 = .ok (.istore 5, 2) := by decide +kernel
theorem dL_law_869 : decode cL_law 869 = .ok (.aload_n 2, 1) := by decide +kernel
theorem dL_law_870 : decode cL_law 870 = .ok (.aload_n 0, 1) := by decide +kernel
theorem dL_law_871 : decode cL_law 871 = .ok (.iload 4, 2) := by decide +kernel
theorem dL_law_873 : decode cL_law 873 = .ok (.iconst 1, 1) := by decide +kernel
theorem dL_law_874 : decode cL_law 874 = .ok (.iadd, 1) := by decide +kernel
theorem dL_law_875 : decode cL_law 875 = .ok (.iaload, 1) := by decide +kernel
theorem dL_law_876 : decode cL_law 876 = .ok (.aload_n 0, 1) := by decide +kernel
theorem dL_law_877 : decode cL_law 877 = .ok (.iload 4, 2) := by decide +kernel
theorem dL_law_879 : decode cL_law 879 = .ok (.iconst 2, 1) := by decide +kernel
theorem dL_law_880 : decode cL_law 880 = .ok (.iadd, 1) := by decide +kernel
theorem dL_law_881 : decode cL_law 881 = .ok (.iaload, 1) := by decide +kernel
theorem dL_law_882 : decode cL_law 882 = .ok (.aload_n 0, 1) := by decide +kernel
theorem dL_law_883 : decode cL_law 883 = .ok (.iload 4, 2) := by decide +kernel
theorem dL_law_885 : decode cL_law 885 = .ok (.iconst 3, 1) := by decide +kernel
theorem dL_law_886 : decode cL_law 886 = .ok (.iadd, 1) := by decide +kernel
theorem dL_law_887 : decode cL_law 887 = .ok (.iaload, 1) := by decide +kernel
theorem dL_law_888 : decode cL_law 888 = .ok (.aload_n 0, 1) := by decide +kernel
theorem dL_law_889 : decode cL_law 889 = .ok (.iload 4, 2) := by decide +kernel
theorem dL_law_891 : decode cL_law 891 = .ok (.iconst 4, 1) := by decide +kernel
theorem dL_law_892 : decode cL_law 892 = .ok (.iadd, 1) := by decide +kernel
theorem dL_law_893 : decode cL_law 893 = .ok (.iaload, 1) := by decide +kernel
theorem dL_law_894 : decode cL_law 894 = .ok (.aload_n 0, 1) := by decide +kernel
theorem dL_law_895 : decode cL_law 895 = .ok (.iload 4, 2) := by decide +kernel
theorem dL_law_897 : decode cL_law 897 = .ok (.iconst 5, 1) := by decide +kernel
theorem dL_law_898 : decode cL_law 898 = .ok (.iadd, 1) := by decide +kernel
theorem dL_law_899 : decode cL_law 899 = .ok (.iaload, 1) := by decide +kernel
theorem dL_law_900 : decode cL_law 900 = .ok (.invokevirtual 130, 3) := by decide +kernel
theorem dL_law_903 : decode cL_law 903 = .ok (.istore 6, 2) := by decide +kernel
theorem dL_law_905 : decode cL_law 905 = .ok (.aload_n 2, 1) := by decide +kernel
theorem dL_law_906 : decode cL_law 906 = .ok (.invokevirtual 93, 3) := by decide +kernel
theorem dL_law_909 : decode cL_law 909 = .ok (.iload 5, 2) := by decide +kernel
theorem dL_law_911 : decode cL_law 911 = .ok (.if_icmp .eq 5, 3) := by decide +kernel
theorem dL_law_914 : decode cL_law 914 = .ok (.iconst 0, 1) := by decide +kernel
theorem dL_law_915 : decode cL_law 915 = .ok (.ireturn, 1) := by decide +kernel
theorem dL_law_916 : decode cL_law 916 = .ok (.iload 5, 2) := by decide +kernel
theorem dL_law_918 : decode cL_law 918 = .ok (.ifCond .ne 15, 3) := by decide +kernel
theorem dL_law_921 : decode cL_law 921 = .ok (.aload_n 3, 1) := by decide +kernel
theorem dL_law_922 : decode cL_law 922 = .ok (.iconst 0, 1) := by decide +kernel
theorem dL_law_923 : decode cL_law 923 = .ok (.laload, 1) := by decide +kernel
theorem dL_law_924 : decode cL_law 924 = .ok (.iload 6, 2) := by decide +kernel
theorem dL_law_926 : decode cL_law 926 = .ok (.i2l, 1) := by decide +kernel
theorem dL_law_927 : decode cL_law 927 = .ok (.lcmp, 1) := by decide +kernel
theorem dL_law_928 : decode cL_law 928 = .ok (.ifCond .eq 5, 3) := by decide +kernel
theorem dL_law_931 : decode cL_law 931 = .ok (.iconst 0, 1) := by decide +kernel
theorem dL_law_932 : decode cL_law 932 = .ok (.ireturn, 1) := by decide +kernel
theorem dL_law_933 : decode cL_law 933 = .ok (.goto 671, 3) := by decide +kernel
theorem dL_law_936 : decode cL_law 936 = .ok (.aload_n 1, 1) := by decide +kernel
theorem dL_law_937 : decode cL_law 937 = .ok (.aload_n 0, 1) := by decide +kernel
theorem dL_law_938 : decode cL_law 938 = .ok (.iload 4, 2) := by decide +kernel
theorem dL_law_940 : decode cL_law 940 = .ok (.iconst 1, 1) := by decide +kernel
theorem dL_law_941 : decode cL_law 941 = .ok (.iadd, 1) := by decide +kernel
theorem dL_law_942 : decode cL_law 942 = .ok (.iaload, 1) := by decide +kernel
theorem dL_law_943 : decode cL_law 943 = .ok (.aload_n 0, 1) := by decide +kernel
theorem dL_law_944 : decode cL_law 944 = .ok (.iload 4, 2) := by decide +kernel
theorem dL_law_946 : decode cL_law 946 = .ok (.iconst 2, 1) := by decide +kernel
theorem dL_law_947 : decode cL_law 947 = .ok (.iadd, 1) := by decide +kernel
theorem dL_law_948 : decode cL_law 948 = .ok (.iaload, 1) := by decide +kernel
theorem dL_law_949 : decode cL_law 949 = .ok (.aload_n 0, 1) := by decide +kernel
theorem dL_law_950 : decode cL_law 950 = .ok (.iload 4, 2) := by decide +kernel
theorem dL_law_952 : decode cL_law 952 = .ok (.iconst 3, 1) := by decide +kernel
theorem dL_law_953 : decode cL_law 953 = .ok (.iadd, 1) := by decide +kernel
theorem dL_law_954 : decode cL_law 954 = .ok (.iaload, 1) := by decide +kernel
theorem dL_law_955 : decode cL_law 955 = .ok (.aload_n 3, 1) := by decide +kernel
theorem dL_law_956 : decode cL_law 956 = .ok (.invokestatic 131, 3) := by decide +kernel
theorem dL_law_959 : decode cL_law 959 = .ok (.istore 5, 2) := by decide +kernel
theorem dL_law_961 : decode cL_law 961 = .ok (.aload_n 2, 1) := by decide +kernel
theorem dL_law_962 : decode cL_law 962 = .ok (.aload_n 0, 1) := by decide +kernel
theorem dL_law_963 : decode cL_law 963 = .ok (.iload 4, 2) := by decide +kernel
theorem dL_law_965 : decode cL_law 965 = .ok (.iconst 1, 1) := by decide +kernel
theorem dL_law_966 : decode cL_law 966 = .ok (.iadd, 1) := by decide +kernel
theorem dL_law_967 : decode cL_law 967 = .ok (.iaload, 1) := by decide +kernel
theorem dL_law_968 : decode cL_law 968 = .ok (.aload_n 0, 1) := by decide +kernel
theorem dL_law_969 : decode cL_law 969 = .ok (.iload 4, 2) := by decide +kernel
theorem dL_law_971 : decode cL_law 971 = .ok (.iconst 2, 1) := by decide +kernel
theorem dL_law_972 : decode cL_law 972 = .ok (.iadd, 1) := by decide +kernel
theorem dL_law_973 : decode cL_law 973 = .ok (.iaload, 1) := by decide +kernel
theorem dL_law_974 : decode cL_law 974 = .ok (.aload_n 0, 1) := by decide +kernel
theorem dL_law_975 : decode cL_law 975 = .ok (.iload 4, 2) := by decide +kernel
theorem dL_law_977 : decode cL_law 977 = .ok (.iconst 3, 1) := by decide +kernel
theorem dL_law_978 : decode cL_law 978 = .ok (.iadd, 1) := by decide +kernel
theorem dL_law_979 : decode cL_law 979 = .ok (.iaload, 1) := by decide +kernel
theorem dL_law_980 : decode cL_law 980 = .ok (.invokevirtual 133, 3) := by decide +kernel
theorem dL_law_983 : decode cL_law 983 = .ok (.istore 6, 2) := by decide +kernel
theorem dL_law_985 : decode cL_law 985 = .ok (.aload_n 2, 1) := by decide +kernel
theorem dL_law_986 : decode cL_law 986 = .ok (.invokevirtual 93, 3) := by decide +kernel
theorem dL_law_989 : decode cL_law 989 = .ok (.iload 5, 2) := by decide +kernel
theorem dL_law_991 : decode cL_law 991 = .ok (.if_icmp .eq 5, 3) := by decide +kernel
theorem dL_law_994 : decode cL_law 994 = .ok (.iconst 0, 1) := by decide +kernel
theorem dL_law_995 : decode cL_law 995 = .ok (.ireturn, 1) := by decide +kernel
theorem dL_law_996 : decode cL_law 996 = .ok (.iload 5, 2) := by decide +kernel
theorem dL_law_998 : decode cL_law 998 = .ok (.ifCond .ne 15, 3) := by decide +kernel
theorem dL_law_1001 : decode cL_law 1001 = .ok (.aload_n 3, 1) := by decide +kernel
theorem dL_law_1002 : decode cL_law 1002 = .ok (.iconst 0, 1) := by decide +kernel
theorem dL_law_1003 : decode cL_law 1003 = .ok (.laload, 1) := by decide +kernel
theorem dL_law_1004 : decode cL_law 1004 = .ok (.iload 6, 2) := by decide +kernel
theorem dL_law_1006 : decode cL_law 1006 = .ok (.i2l, 1) := by decide +kernel
theorem dL_law_1007 : decode cL_law 1007 = .ok (.lcmp, 1) := by decide +kernel
theorem dL_law_1008 : decode cL_law 1008 = .ok (.ifCond .eq 5, 3) := by decide +kernel
theorem dL_law_1011 : decode cL_law 1011 = .ok (.iconst 0, 1) := by decide +kernel
theorem dL_law_1012 : decode cL_law 1012 = .ok (.ireturn, 1) := by decide +kernel
theorem dL_law_1013 : decode cL_law 1013 = .ok (.goto 591, 3) := by decide +kernel
theorem dL_law_1016 : decode cL_law 1016 = .ok (.aload_n 1, 1) := by decide +kernel
theorem dL_law_1017 : decode cL_law 1017 = .ok (.aload_n 0, 1) := by decide +kernel
theorem dL_law_1018 : decode cL_law 1018 = .ok (.iload 4, 2) := by decide +kernel
theorem dL_law_1020 : decode cL_law 1020 = .ok (.iconst 1, 1) := by decide +kernel
theorem dL_law_1021 : decode cL_law 1021 = .ok (.iadd, 1) := by decide +kernel
theorem dL_law_1022 : decode cL_law 1022 = .ok (.iaload, 1) := by decide +kernel
theorem dL_law_1023 : decode cL_law 1023 = .ok (.aload_n 0, 1) := by decide +kernel
theorem dL_law_1024 : decode cL_law 1024 = .ok (.iload 4, 2) := by decide +kernel
theorem dL_law_1026 : decode cL_law 1026 = .ok (.iconst 2, 1) := by decide +kernel
theorem dL_law_1027 : decode cL_law 1027 = .ok (.iadd, 1) := by decide +kernel
theorem dL_law_1028 : decode cL_law 1028 = .ok (.iaload, 1) := by decide +kernel
theorem dL_law_1029 : decode cL_law 1029 = .ok (.aload_n 0, 1) := by decide +kernel
theorem dL_law_1030 : decode cL_law 1030 = .ok (.iload 4, 2) := by decide +kernel
theorem dL_law_1032 : decode cL_law 1032 = .ok (.iconst 3, 1) := by decide +kernel
theorem dL_law_1033 : decode cL_law 1033 = .ok (.iadd, 1) := by decide +kernel
theorem dL_law_1034 : decode cL_law 1034 = .ok (.iaload, 1) := by decide +kernel
theorem dL_law_1035 : decode cL_law 1035 = .ok (.aload_n 0, 1) := by decide +kernel
theorem dL_law_1036 : decode cL_law 1036 = .ok (.iload 4, 2) := by decide +kernel
theorem dL_law_1038 : decode cL_law 1038 = .ok (.iconst 4, 1) := by decide +kernel
theorem dL_law_1039 : decode cL_law 1039 = .ok (.iadd, 1) := by decide +kernel
theorem dL_law_1040 : decode cL_law 1040 = .ok (.iaload, 1) := by decide +kernel
theorem dL_law_1041 : decode cL_law 1041 = .ok (.aload_n 3, 1) := by decide +kernel
theorem dL_law_1042 : decode cL_law 1042 = .ok (.invokestatic 134, 3) := by decide +kernel
theorem dL_law_1045 : decode cL_law 1045 = .ok (.istore 5, 2) := by decide +kernel
theorem dL_law_1047 : decode cL_law 1047 = .ok (.aload_n 2, 1) := by decide +kernel
theorem dL_law_1048 : decode cL_law 1048 = .ok (.aload_n 0, 1) := by decide +kernel
theorem dL_law_1049 : decode cL_law 1049 = .ok (.iload 4, 2) := by decide +kernel
theorem dL_law_1051 : decode cL_law 1051 = .ok (.iconst 1, 1) := by decide +kernel
theorem dL_law_1052 : decode cL_law 1052 = .ok (.iadd, 1) := by decide +kernel
theorem dL_law_1053 : decode cL_law 1053 = .ok (.iaload, 1) := by decide +kernel
theorem dL_law_1054 : decode cL_law 1054 = .ok (.aload_n 0, 1) := by decide +kernel
theorem dL_law_1055 : decode cL_law 1055 = .ok (.iload 4, 2) := by decide +kernel
theorem dL_law_1057 : decode cL_law 1057 = .ok (.iconst 2, 1) := by decide +kernel
theorem dL_law_1058 : decode cL_law 1058 = .ok (.iadd, 1) := by decide +kernel
theorem dL_law_1059 : decode cL_law 1059 = .ok (.iaload, 1) := by decide +kernel
theorem dL_law_1060 : decode cL_law 1060 = .ok (.aload_n 0, 1) := by decide +kernel
theorem dL_law_1061 : decode cL_law 1061 = .ok (.iload 4, 2) := by decide +kernel
theorem dL_law_1063 : decode cL_law 1063 = .ok (.iconst 3, 1) := by decide +kernel
theorem dL_law_1064 : decode cL_law 1064 = .ok (.iadd, 1) := by decide +kernel
theorem dL_law_1065 : decode cL_law 1065 = .ok (.iaload, 1) := by decide +kernel
theorem dL_law_1066 : decode cL_law 1066 = .ok (.aload_n 0, 1) := by decide +kernel
theorem dL_law_1067 : decode cL_law 1067 = .ok (.iload 4, 2) := by decide +kernel
theorem dL_law_1069 : decode cL_law 1069 = .ok (.iconst 4, 1) := by decide +kernel
theorem dL_law_1070 : decode cL_law 1070 = .ok (.iadd, 1) := by decide +kernel
theorem dL_law_1071 : decode cL_law 1071 = .ok (.iaload, 1) := by decide +kernel
theorem dL_law_1072 : decode cL_law 1072 = .ok (.invokevirtual 136, 3) := by decide +kernel
theorem dL_law_1075 : decode cL_law 1075 = .ok (.istore 6, 2) := by decide +kernel
theorem dL_law_1077 : decode cL_law 1077 = .ok (.aload_n 2, 1) := by decide +kernel
theorem dL_law_1078 : decode cL_law 1078 = .ok (.invokevirtual 93, 3) := by decide +kernel
theorem dL_law_1081 : decode cL_law 1081 = .ok (.iload 5, 2) := by decide +kernel
theorem dL_law_1083 : decode cL_law 1083 = .ok (.if_icmp .eq 5, 3) := by decide +kernel
theorem dL_law_1086 : decode cL_law 1086 = .ok (.iconst 0, 1) := by decide +kernel
theorem dL_law_1087 : decode cL_law 1087 = .ok (.ireturn, 1) := by decide +kernel
theorem dL_law_1088 : decode cL_law 1088 = .ok (.iload 5, 2) := by decide +kernel
theorem dL_law_1090 : decode cL_law 1090 = .ok (.ifCond .ne 15, 3) := by decide +kernel
theorem dL_law_1093 : decode cL_law 1093 = .ok (.aload_n 3, 1) := by decide +kernel
theorem dL_law_1094 : decode cL_law 1094 = .ok (.iconst 0, 1) := by decide +kernel
theorem dL_law_1095 : decode cL_law 1095 = .ok (.laload, 1) := by decide +kernel
theorem dL_law_1096 : decode cL_law 1096 = .ok (.iload 6, 2) := by decide +kernel
theorem dL_law_1098 : decode cL_law 1098 = .ok (.i2l, 1) := by decide +kernel
theorem dL_law_1099 : decode cL_law 1099 = .ok (.lcmp, 1) := by decide +kernel
theorem dL_law_1100 : decode cL_law 1100 = .ok (.ifCond .eq 5, 3) := by decide +kernel
theorem dL_law_1103 : decode cL_law 1103 = .ok (.iconst 0, 1) := by decide +kernel
theorem dL_law_1104 : decode cL_law 1104 = .ok (.ireturn, 1) := by decide +kernel
theorem dL_law_1105 : decode cL_law 1105 = .ok (.goto 499, 3) := by decide +kernel
theorem dL_law_1108 : decode cL_law 1108 = .ok (.aload_n 1, 1) := by decide +kernel
theorem dL_law_1109 : decode cL_law 1109 = .ok (.aload_n 0, 1) := by decide +kernel
theorem dL_law_1110 : decode cL_law 1110 = .ok (.iload 4, 2) := by decide +kernel
theorem dL_law_1112 : decode cL_law 1112 = .ok (.iconst 1, 1) := by decide +kernel
theorem dL_law_1113 : decode cL_law 1113 = .ok (.iadd, 1) := by decide +kernel
theorem dL_law_1114 : decode cL_law 1114 = .ok (.iaload, 1) := by decide +kernel
theorem dL_law_1115 : decode cL_law 1115 = .ok (.aload_n 0, 1) := by decide +kernel
theorem dL_law_1116 : decode cL_law 1116 = .ok (.iload 4, 2) := by decide +kernel
theorem dL_law_1118 : decode cL_law 1118 = .ok (.iconst 2, 1) := by decide +kernel
theorem dL_law_1119 : decode cL_law 1119 = .ok (.iadd, 1) := by decide +kernel
theorem dL_law_1120 : decode cL_law 1120 = .ok (.iaload, 1) := by decide +kernel
theorem dL_law_1121 : decode cL_law 1121 = .ok (.aload_n 0, 1) := by decide +kernel
theorem dL_law_1122 : decode cL_law 1122 = .ok (.iload 4, 2) := by decide +kernel
theorem dL_law_1124 : decode cL_law 1124 = .ok (.iconst 3, 1) := by decide +kernel
theorem dL_law_1125 : decode cL_law 1125 = .ok (.iadd, 1) := by decide +kernel
theorem dL_law_1126 : decode cL_law 1126 = .ok (.iaload, 1) := by decide +kernel
theorem dL_law_1127 : decode cL_law 1127 = .ok (.aload_n 3, 1) := by decide +kernel
theorem dL_law_1128 : decode cL_law 1128 = .ok (.invokestatic 137, 3) := by decide +kernel
theorem dL_law_1131 : decode cL_law 1131 = .ok (.istore 5, 2) := by decide +kernel
theorem dL_law_1133 : decode cL_law 1133 = .ok (.aload_n 2, 1) := by decide +kernel
theorem dL_law_1134 : decode cL_law 1134 = .ok (.aload_n 0, 1) := by decide +kernel
theorem dL_law_1135 : decode cL_law 1135 = .ok (.iload 4, 2) := by decide +kernel
theorem dL_law_1137 : decode cL_law 1137 = .ok (.iconst 1, 1) := by decide +kernel
theorem dL_law_1138 : decode cL_law 1138 = .ok (.iadd, 1) := by decide +kernel
theorem dL_law_1139 : decode cL_law 1139 = .ok (.iaload, 1) := by decide +kernel
theorem dL_law_1140 : decode cL_law 1140 = .ok (.aload_n 0, 1) := by decide +kernel
theorem dL_law_1141 : decode cL_law 1141 = .ok (.iload 4, 2) := by decide +kernel
theorem dL_law_1143 : decode cL_law 1143 = .ok (.iconst 2, 1) := by decide +kernel
theorem dL_law_1144 : decode cL_law 1144 = .ok (.iadd, 1) := by decide +kernel
theorem dL_law_1145 : decode cL_law 1145 = .ok (.iaload, 1) := by decide +kernel
theorem dL_law_1146 : decode cL_law 1146 = .ok (.aload_n 0, 1) := by decide +kernel
theorem dL_law_1147 : decode cL_law 1147 = .ok (.iload 4, 2) := by decide +kernel
theorem dL_law_1149 : decode cL_law 1149 = .ok (.iconst 3, 1) := by decide +kernel
theorem dL_law_1150 : decode cL_law 1150 = .ok (.iadd, 1) := by decide +kernel
theorem dL_law_1151 : decode cL_law 1151 = .ok (.iaload, 1) := by decide +kernel
theorem dL_law_1152 : decode cL_law 1152 = .ok (.invokevirtual 139, 3) := by decide +kernel
theorem dL_law_1155 : decode cL_law 1155 = .ok (.istore 6, 2) := by decide +kernel
theorem dL_law_1157 : decode cL_law 1157 = .ok (.aload_n 2, 1) := by decide +kernel
theorem dL_law_1158 : decode cL_law 1158 = .ok (.invokevirtual 93, 3) := by decide +kernel
theorem dL_law_1161 : decode cL_law 1161 = .ok (.iload 5, 2) := by decide +kernel
theorem dL_law_1163 : decode cL_law 1163 = .ok (.if_icmp .eq 5, 3) := by decide +kernel
theorem dL_law_1166 : decode cL_law 1166 = .ok (.iconst 0, 1) := by decide +kernel
theorem dL_law_1167 : decode cL_law 1167 = .ok (.ireturn, 1) := by decide +kernel
theorem dL_law_1168 : decode cL_law 1168 = .ok (.iload 5, 2) := by decide +kernel
theorem dL_law_1170 : decode cL_law 1170 = .ok (.ifCond .ne 15, 3) := by decide +kernel
theorem dL_law_1173 : decode cL_law 1173 = .ok (.aload_n 3, 1) := by decide +kernel
theorem dL_law_1174 : decode cL_law 1174 = .ok (.iconst 0, 1) := by decide +kernel
theorem dL_law_1175 : decode cL_law 1175 = .ok (.laload, 1) := by decide +kernel
theorem dL_law_1176 : decode cL_law 1176 = .ok (.iload 6, 2) := by decide +kernel
theorem dL_law_1178 : decode cL_law 1178 = .ok (.i2l, 1) := by decide +kernel
theorem dL_law_1179 : decode cL_law 1179 = .ok (.lcmp, 1) := by decide +kernel
theorem dL_law_1180 : decode cL_law 1180 = .ok (.ifCond .eq 5, 3) := by decide +kernel
theorem dL_law_1183 : decode cL_law 1183 = .ok (.iconst 0, 1) := by decide +kernel
theorem dL_law_1184 : decode cL_law 1184 = .ok (.ireturn, 1) := by decide +kernel
theorem dL_law_1185 : decode cL_law 1185 = .ok (.goto 419, 3) := by decide +kernel
theorem dL_law_1188 : decode cL_law 1188 = .ok (.aload_n 1, 1) := by decide +kernel
theorem dL_law_1189 : decode cL_law 1189 = .ok (.aload_n 0, 1) := by decide +kernel
theorem dL_law_1190 : decode cL_law 1190 = .ok (.iload 4, 2) := by decide +kernel
theorem dL_law_1192 : decode cL_law 1192 = .ok (.iconst 1, 1) := by decide +kernel
theorem dL_law_1193 : decode cL_law 1193 = .ok (.iadd, 1) := by decide +kernel
theorem dL_law_1194 : decode cL_law 1194 = .ok (.iaload, 1) := by decide +kernel
theorem dL_law_1195 : decode cL_law 1195 = .ok (.aload_n 0, 1) := by decide +kernel
theorem dL_law_1196 : decode cL_law 1196 = .ok (.iload 4, 2) := by decide +kernel
theorem dL_law_1198 : decode cL_law 1198 = .ok (.iconst 2, 1) := by decide +kernel
theorem dL_law_1199 : decode cL_law 1199 = .ok (.iadd, 1) := by decide +kernel
theorem dL_law_1200 : decode cL_law 1200 = .ok (.iaload, 1) := by decide +kernel
theorem dL_law_1201 : decode cL_law 1201 = .ok (.aload_n 0, 1) := by decide +kernel
theorem dL_law_1202 : decode cL_law 1202 = .ok (.iload 4, 2) := by decide +kernel
theorem dL_law_1204 : decode cL_law 1204 = .ok (.iconst 3, 1) := by decide +kernel
theorem dL_law_1205 : decode cL_law 1205 = .ok (.iadd, 1) := by decide +kernel
theorem dL_law_1206 : decode cL_law 1206 = .ok (.iaload, 1) := by decide +kernel
theorem dL_law_1207 : decode cL_law 1207 = .ok (.aload_n 3, 1) := by decide +kernel
theorem dL_law_1208 : decode cL_law 1208 = .ok (.invokestatic 140, 3) := by decide +kernel
theorem dL_law_1211 : decode cL_law 1211 = .ok (.istore 5, 2) := by decide +kernel
theorem dL_law_1213 : decode cL_law 1213 = .ok (.aload_n 2, 1) := by decide +kernel
theorem dL_law_1214 : decode cL_law 1214 = .ok (.aload_n 0, 1) := by decide +kernel
theorem dL_law_1215 : decode cL_law 1215 = .ok (.iload 4, 2) := by decide +kernel
theorem dL_law_1217 : decode cL_law 1217 = .ok (.iconst 1, 1) := by decide +kernel
theorem dL_law_1218 : decode cL_law 1218 = .ok (.iadd, 1) := by decide +kernel
theorem dL_law_1219 : decode cL_law 1219 = .ok (.iaload, 1) := by decide +kernel
theorem dL_law_1220 : decode cL_law 1220 = .ok (.aload_n 0, 1) := by decide +kernel
theorem dL_law_1221 : decode cL_law 1221 = .ok (.iload 4, 2) := by decide +kernel
theorem dL_law_1223 : decode cL_law 1223 = .ok (.iconst 2, 1) := by decide +kernel
theorem dL_law_1224 : decode cL_law 1224 = .ok (.iadd, 1) := by decide +kernel
theorem dL_law_1225 : decode cL_law 1225 = .ok (.iaload, 1) := by decide +kernel
theorem dL_law_1226 : decode cL_law 1226 = .ok (.aload_n 0, 1) := by decide +kernel
theorem dL_law_1227 : decode cL_law 1227 = .ok (.iload 4, 2) := by decide +kernel
theorem dL_law_1229 : decode cL_law 1229 = .ok (.iconst 3, 1) := by decide +kernel
theorem dL_law_1230 : decode cL_law 1230 = .ok (.iadd, 1) := by decide +kernel
theorem dL_law_1231 : decode cL_law 1231 = .ok (.iaload, 1) := by decide +kernel
theorem dL_law_1232 : decode cL_law 1232 = .ok (.invokevirtual 142, 3) := by decide +kernel
theorem dL_law_1235 : decode cL_law 1235 = .ok (.istore 6, 2) := by decide +kernel
theorem dL_law_1237 : decode cL_law 1237 = .ok (.aload_n 2, 1) := by decide +kernel
theorem dL_law_1238 : decode cL_law 1238 = .ok (.invokevirtual 93, 3) := by decide +kernel
theorem dL_law_1241 : decode cL_law 1241 = .ok (.iload 5, 2) := by decide +kernel
theorem dL_law_1243 : decode cL_law 1243 = .ok (.if_icmp .eq 5, 3) := by decide +kernel
theorem dL_law_1246 : decode cL_law 1246 = .ok (.iconst 0, 1) := by decide +kernel
theorem dL_law_1247 : decode cL_law 1247 = .ok (.ireturn, 1) := by decide +kernel
theorem dL_law_1248 : decode cL_law 1248 = .ok (.iload 5, 2) := by decide +kernel
theorem dL_law_1250 : decode cL_law 1250 = .ok (.ifCond .ne 15, 3) := by decide +kernel
theorem dL_law_1253 : decode cL_law 1253 = .ok (.aload_n 3, 1) := by decide +kernel
theorem dL_law_1254 : decode cL_law 1254 = .ok (.iconst 0, 1) := by decide +kernel
theorem dL_law_1255 : decode cL_law 1255 = .ok (.laload, 1) := by decide +kernel
theorem dL_law_1256 : decode cL_law 1256 = .ok (.iload 6, 2) := by decide +kernel
theorem dL_law_1258 : decode cL_law 1258 = .ok (.i2l, 1) := by decide +kernel
theorem dL_law_1259 : decode cL_law 1259 = .ok (.lcmp, 1) := by decide +kernel
theorem dL_law_1260 : decode cL_law 1260 = .ok (.ifCond .eq 5, 3) := by decide +kernel
theorem dL_law_1263 : decode cL_law 1263 = .ok (.iconst 0, 1) := by decide +kernel
theorem dL_law_1264 : decode cL_law 1264 = .ok (.ireturn, 1) := by decide +kernel
theorem dL_law_1265 : decode cL_law 1265 = .ok (.goto 339, 3) := by decide +kernel
theorem dL_law_1268 : decode cL_law 1268 = .ok (.aload_n 1, 1) := by decide +kernel
theorem dL_law_1269 : decode cL_law 1269 = .ok (.aload_n 0, 1) := by decide +kernel
theorem dL_law_1270 : decode cL_law 1270 = .ok (.iload 4, 2) := by decide +kernel
theorem dL_law_1272 : decode cL_law 1272 = .ok (.iconst 1, 1) := by decide +kernel
theorem dL_law_1273 : decode cL_law 1273 = .ok (.iadd, 1) := by decide +kernel
theorem dL_law_1274 : decode cL_law 1274 = .ok (.iaload, 1) := by decide +kernel
theorem dL_law_1275 : decode cL_law 1275 = .ok (.aload_n 3, 1) := by decide +kernel
theorem dL_law_1276 : decode cL_law 1276 = .ok (.invokestatic 143, 3) := by decide +kernel
theorem dL_law_1279 : decode cL_law 1279 = .ok (.istore 5, 2) := by decide +kernel
theorem dL_law_1281 : decode cL_law 1281 = .ok (.aload_n 2, 1) := by decide +kernel
theorem dL_law_1282 : decode cL_law 1282 = .ok (.aload_n 0, 1) := by decide +kernel
theorem dL_law_1283 : decode cL_law 1283 = .ok (.iload 4, 2) := by decide +kernel
theorem dL_law_1285 : decode cL_law 1285 = .ok (.iconst 1, 1) := by decide +kernel
theorem dL_law_1286 : decode cL_law 1286 = .ok (.iadd, 1) := by decide +kernel
theorem dL_law_1287 : decode cL_law 1287 = .ok (.iaload, 1) := by decide +kernel
theorem dL_law_1288 : decode cL_law 1288 = .ok (.invokevirtual 145, 3) := by decide +kernel
theorem dL_law_1291 : decode cL_law 1291 = .ok (.istore 6, 2) := by decide +kernel
theorem dL_law_1293 : decode cL_law 1293 = .ok (.aload_n 2, 1) := by decide +kernel
theorem dL_law_1294 : decode cL_law 1294 = .ok (.invokevirtual 93, 3) := by decide +kernel
theorem dL_law_1297 : decode cL_law 1297 = .ok (.iload 5, 2) := by decide +kernel
theorem dL_law_1299 : decode cL_law 1299 = .ok (.if_icmp .eq 5, 3) := by decide +kernel
theorem dL_law_1302 : decode cL_law 1302 = .ok (.iconst 0, 1) := by decide +kernel
theorem dL_law_1303 : decode cL_law 1303 = .ok (.ireturn, 1) := by decide +kernel
theorem dL_law_1304 : decode cL_law 1304 = .ok (.iload 5, 2) := by decide +kernel
theorem dL_law_1306 : decode cL_law 1306 = .ok (.ifCond .ne 15, 3) := by decide +kernel
theorem dL_law_1309 : decode cL_law 1309 = .ok (.aload_n 3, 1) := by decide +kernel
theorem dL_law_1310 : decode cL_law 1310 = .ok (.iconst 0, 1) := by decide +kernel
theorem dL_law_1311 : decode cL_law 1311 = .ok (.laload, 1) := by decide +kernel
theorem dL_law_1312 : decode cL_law 1312 = .ok (.iload 6, 2) := by decide +kernel
theorem dL_law_1314 : decode cL_law 1314 = .ok (.i2l, 1) := by decide +kernel
theorem dL_law_1315 : decode cL_law 1315 = .ok (.lcmp, 1) := by decide +kernel
theorem dL_law_1316 : decode cL_law 1316 = .ok (.ifCond .eq 5, 3) := by decide +kernel
theorem dL_law_1319 : decode cL_law 1319 = .ok (.iconst 0, 1) := by decide +kernel
theorem dL_law_1320 : decode cL_law 1320 = .ok (.ireturn, 1) := by decide +kernel
theorem dL_law_1321 : decode cL_law 1321 = .ok (.goto 283, 3) := by decide +kernel
theorem dL_law_1324 : decode cL_law 1324 = .ok (.aload_n 1, 1) := by decide +kernel
theorem dL_law_1325 : decode cL_law 1325 = .ok (.aload_n 0, 1) := by decide +kernel
theorem dL_law_1326 : decode cL_law 1326 = .ok (.iload 4, 2) := by decide +kernel
theorem dL_law_1328 : decode cL_law 1328 = .ok (.iconst 1, 1) := by decide +kernel
theorem dL_law_1329 : decode cL_law 1329 = .ok (.iadd, 1) := by decide +kernel
theorem dL_law_1330 : decode cL_law 1330 = .ok (.iaload, 1) := by decide +kernel
theorem dL_law_1331 : decode cL_law 1331 = .ok (.aload_n 3, 1) := by decide +kernel
theorem dL_law_1332 : decode cL_law 1332 = .ok (.invokestatic 146, 3) := by decide +kernel
theorem dL_law_1335 : decode cL_law 1335 = .ok (.istore 5, 2) := by decide +kernel
theorem dL_law_1337 : decode cL_law 1337 = .ok (.aload_n 2, 1) := by decide +kernel
theorem dL_law_1338 : decode cL_law 1338 = .ok (.aload_n 0, 1) := by decide +kernel
theorem dL_law_1339 : decode cL_law 1339 = .ok (.iload 4, 2) := by decide +kernel
theorem dL_law_1341 : decode cL_law 1341 = .ok (.iconst 1, 1) := by decide +kernel
theorem dL_law_1342 : decode cL_law 1342 = .ok (.iadd, 1) := by decide +kernel
theorem dL_law_1343 : decode cL_law 1343 = .ok (.iaload, 1) := by decide +kernel
theorem dL_law_1344 : decode cL_law 1344 = .ok (.invokevirtual 148, 3) := by decide +kernel
theorem dL_law_1347 : decode cL_law 1347 = .ok (.istore 6, 2) := by decide +kernel
theorem dL_law_1349 : decode cL_law 1349 = .ok (.aload_n 2, 1) := by decide +kernel
theorem dL_law_1350 : decode cL_law 1350 = .ok (.invokevirtual 93, 3) := by decide +kernel
theorem dL_law_1353 : decode cL_law 1353 = .ok (.iload 5, 2) := by decide +kernel
theorem dL_law_1355 : decode cL_law 1355 = .ok (.if_icmp .eq 5, 3) := by decide +kernel
theorem dL_law_1358 : decode cL_law 1358 = .ok (.iconst 0, 1) := by decide +kernel
theorem dL_law_1359 : decode cL_law 1359 = .ok (.ireturn, 1) := by decide +kernel
theorem dL_law_1360 : decode cL_law 1360 = .ok (.iload 5, 2) := by decide +kernel
theorem dL_law_1362 : decode cL_law 1362 = .ok (.ifCond .ne 15, 3) := by decide +kernel
theorem dL_law_1365 : decode cL_law 1365 = .ok (.aload_n 3, 1) := by decide +kernel
theorem dL_law_1366 : decode cL_law 1366 = .ok (.iconst 0, 1) := by decide +kernel
theorem dL_law_1367 : decode cL_law 1367 = .ok (.laload, 1) := by decide +kernel
theorem dL_law_1368 : decode cL_law 1368 = .ok (.iload 6, 2) := by decide +kernel
theorem dL_law_1370 : decode cL_law 1370 = .ok (.i2l, 1) := by decide +kernel
theorem dL_law_1371 : decode cL_law 1371 = .ok (.lcmp, 1) := by decide +kernel
theorem dL_law_1372 : decode cL_law 1372 = .ok (.ifCond .eq 5, 3) := by decide +kernel
theorem dL_law_1375 : decode cL_law 1375 = .ok (.iconst 0, 1) := by decide +kernel
theorem dL_law_1376 : decode cL_law 1376 = .ok (.ireturn, 1) := by decide +kernel
theorem dL_law_1377 : decode cL_law 1377 = .ok (.goto 227, 3) := by decide +kernel
theorem dL_law_1380 : decode cL_law 1380 = .ok (.aload_n 1, 1) := by decide +kernel
theorem dL_law_1381 : decode cL_law 1381 = .ok (.aload_n 0, 1) := by decide +kernel
theorem dL_law_1382 : decode cL_law 1382 = .ok (.iload 4, 2) := by decide +kernel
theorem dL_law_1384 : decode cL_law 1384 = .ok (.iconst 1, 1) := by decide +kernel
theorem dL_law_1385 : decode cL_law 1385 = .ok (.iadd, 1) := by decide +kernel
theorem dL_law_1386 : decode cL_law 1386 = .ok (.iaload, 1) := by decide +kernel
theorem dL_law_1387 : decode cL_law 1387 = .ok (.aload_n 3, 1) := by decide +kernel
theorem dL_law_1388 : decode cL_law 1388 = .ok (.invokestatic 149, 3) := by decide +kernel
theorem dL_law_1391 : decode cL_law 1391 = .ok (.istore 5, 2) := by decide +kernel
theorem dL_law_1393 : decode cL_law 1393 = .ok (.aload_n 2, 1) := by decide +kernel
theorem dL_law_1394 : decode cL_law 1394 = .ok (.aload_n 0, 1) := by decide +kernel
theorem dL_law_1395 : decode cL_law 1395 = .ok (.iload 4, 2) := by decide +kernel
theorem dL_law_1397 : decode cL_law 1397 = .ok (.iconst 1, 1) := by decide +kernel
theorem dL_law_1398 : decode cL_law 1398 = .ok (.iadd, 1) := by decide +kernel
theorem dL_law_1399 : decode cL_law 1399 = .ok (.iaload, 1) := by decide +kernel
theorem dL_law_1400 : decode cL_law 1400 = .ok (.invokevirtual 151, 3) := by decide +kernel
theorem dL_law_1403 : decode cL_law 1403 = .ok (.istore 6, 2) := by decide +kernel
theorem dL_law_1405 : decode cL_law 1405 = .ok (.aload_n 2, 1) := by decide +kernel
theorem dL_law_1406 : decode cL_law 1406 = .ok (.invokevirtual 93, 3) := by decide +kernel
theorem dL_law_1409 : decode cL_law 1409 = .ok (.iload 5, 2) := by decide +kernel
theorem dL_law_1411 : decode cL_law 1411 = .ok (.if_icmp .eq 5, 3) := by decide +kernel
theorem dL_law_1414 : decode cL_law 1414 = .ok (.iconst 0, 1) := by decide +kernel
theorem dL_law_1415 : decode cL_law 1415 = .ok (.ireturn, 1) := by decide +kernel
theorem dL_law_1416 : decode cL_law 1416 = .ok (.iload 5, 2) := by decide +kernel
theorem dL_law_1418 : decode cL_law 1418 = .ok (.ifCond .ne 15, 3) := by decide +kernel
theorem dL_law_1421 : decode cL_law 1421 = .ok (.aload_n 3, 1) := by decide +kernel
theorem dL_law_1422 : decode cL_law 1422 = .ok (.iconst 0, 1) := by decide +kernel
theorem dL_law_1423 : decode cL_law 1423 = .ok (.laload, 1) := by decide +kernel
theorem dL_law_1424 : decode cL_law 1424 = .ok (.iload 6, 2) := by decide +kernel
theorem dL_law_1426 : decode cL_law 1426 = .ok (.i2l, 1) := by decide +kernel
theorem dL_law_1427 : decode cL_law 1427 = .ok (.lcmp, 1) := by decide +kernel
theorem dL_law_1428 : decode cL_law 1428 = .ok (.ifCond .eq 5, 3) := by decide +kernel
theorem dL_law_1431 : decode cL_law 1431 = .ok (.iconst 0, 1) := by decide +kernel
theorem dL_law_1432 : decode cL_law 1432 = .ok (.ireturn, 1) := by decide +kernel
theorem dL_law_1433 : decode cL_law 1433 = .ok (.goto 171, 3) := by decide +kernel
theorem dL_law_1436 : decode cL_law 1436 = .ok (.aload_n 1, 1) := by decide +kernel
theorem dL_law_1437 : decode cL_law 1437 = .ok (.aload_n 0, 1) := by decide +kernel
theorem dL_law_1438 : decode cL_law 1438 = .ok (.iload 4, 2) := by decide +kernel
theorem dL_law_1440 : decode cL_law 1440 = .ok (.iconst 1, 1) := by decide +kernel
theorem dL_law_1441 : decode cL_law 1441 = .ok (.iadd, 1) := by decide +kernel
theorem dL_law_1442 : decode cL_law 1442 = .ok (.iaload, 1) := by decide +kernel
theorem dL_law_1443 : decode cL_law 1443 = .ok (.aload_n 3, 1) := by decide +kernel
theorem dL_law_1444 : decode cL_law 1444 = .ok (.invokestatic 152, 3) := by decide +kernel
theorem dL_law_1447 : decode cL_law 1447 = .ok (.istore 5, 2) := by decide +kernel
theorem dL_law_1449 : decode cL_law 1449 = .ok (.aload_n 2, 1) := by decide +kernel
theorem dL_law_1450 : decode cL_law 1450 = .ok (.aload_n 0, 1) := by decide +kernel
theorem dL_law_1451 : decode cL_law 1451 = .ok (.iload 4, 2) := by decide +kernel
theorem dL_law_1453 : decode cL_law 1453 = .ok (.iconst 1, 1) := by decide +kernel
theorem dL_law_1454 : decode cL_law 1454 = .ok (.iadd, 1) := by decide +kernel
theorem dL_law_1455 : decode cL_law 1455 = .ok (.iaload, 1) := by decide +kernel
theorem dL_law_1456 : decode cL_law 1456 = .ok (.invokevirtual 154, 3) := by decide +kernel
theorem dL_law_1459 : decode cL_law 1459 = .ok (.istore 6, 2) := by decide +kernel
theorem dL_law_1461 : decode cL_law 1461 = .ok (.aload_n 2, 1) := by decide +kernel
theorem dL_law_1462 : decode cL_law 1462 = .ok (.invokevirtual 93, 3) := by decide +kernel
theorem dL_law_1465 : decode cL_law 1465 = .ok (.iload 5, 2) := by decide +kernel
theorem dL_law_1467 : decode cL_law 1467 = .ok (.if_icmp .eq 5, 3) := by decide +kernel
theorem dL_law_1470 : decode cL_law 1470 = .ok (.iconst 0, 1) := by decide +kernel
theorem dL_law_1471 : decode cL_law 1471 = .ok (.ireturn, 1) := by decide +kernel
theorem dL_law_1472 : decode cL_law 1472 = .ok (.iload 5, 2) := by decide +kernel
theorem dL_law_1474 : decode cL_law 1474 = .ok (.ifCond .ne 15, 3) := by decide +kernel
theorem dL_law_1477 : decode cL_law 1477 = .ok (.aload_n 3, 1) := by decide +kernel
theorem dL_law_1478 : decode cL_law 1478 = .ok (.iconst 0, 1) := by decide +kernel
theorem dL_law_1479 : decode cL_law 1479 = .ok (.laload, 1) := by decide +kernel
theorem dL_law_1480 : decode cL_law 1480 = .ok (.iload 6, 2) := by decide +kernel
theorem dL_law_1482 : decode cL_law 1482 = .ok (.i2l, 1) := by decide +kernel
theorem dL_law_1483 : decode cL_law 1483 = .ok (.lcmp, 1) := by decide +kernel
theorem dL_law_1484 : decode cL_law 1484 = .ok (.ifCond .eq 5, 3) := by decide +kernel
theorem dL_law_1487 : decode cL_law 1487 = .ok (.iconst 0, 1) := by decide +kernel
theorem dL_law_1488 : decode cL_law 1488 = .ok (.ireturn, 1) := by decide +kernel
theorem dL_law_1489 : decode cL_law 1489 = .ok (.goto 115, 3) := by decide +kernel
theorem dL_law_1492 : decode cL_law 1492 = .ok (.aload_n 1, 1) := by decide +kernel
theorem dL_law_1493 : decode cL_law 1493 = .ok (.aload_n 0, 1) := by decide +kernel
theorem dL_law_1494 : decode cL_law 1494 = .ok (.iload 4, 2) := by decide +kernel
theorem dL_law_1496 : decode cL_law 1496 = .ok (.iconst 1, 1) := by decide +kernel
theorem dL_law_1497 : decode cL_law 1497 = .ok (.iadd, 1) := by decide +kernel
theorem dL_law_1498 : decode cL_law 1498 = .ok (.iaload, 1) := by decide +kernel
theorem dL_law_1499 : decode cL_law 1499 = .ok (.aload_n 3, 1) := by decide +kernel
theorem dL_law_1500 : decode cL_law 1500 = .ok (.invokestatic 155, 3) := by decide +kernel
theorem dL_law_1503 : decode cL_law 1503 = .ok (.istore 5, 2) := by decide +kernel
theorem dL_law_1505 : decode cL_law 1505 = .ok (.aload_n 2, 1) := by decide +kernel
theorem dL_law_1506 : decode cL_law 1506 = .ok (.aload_n 0, 1) := by decide +kernel
theorem dL_law_1507 : decode cL_law 1507 = .ok (.iload 4, 2) := by decide +kernel
theorem dL_law_1509 : decode cL_law 1509 = .ok (.iconst 1, 1) := by decide +kernel
theorem dL_law_1510 : decode cL_law 1510 = .ok (.iadd, 1) := by decide +kernel
theorem dL_law_1511 : decode cL_law 1511 = .ok (.iaload, 1) := by decide +kernel
theorem dL_law_1512 : decode cL_law 1512 = .ok (.invokevirtual 157, 3) := by decide +kernel
theorem dL_law_1515 : decode cL_law 1515 = .ok (.istore 6, 2) := by decide +kernel
theorem dL_law_1517 : decode cL_law 1517 = .ok (.aload_n 2, 1) := by decide +kernel
theorem dL_law_1518 : decode cL_law 1518 = .ok (.invokevirtual 93, 3) := by decide +kernel
theorem dL_law_1521 : decode cL_law 1521 = .ok (.iload 5, 2) := by decide +kernel
theorem dL_law_1523 : decode cL_law 1523 = .ok (.if_icmp .eq 5, 3) := by decide +kernel
theorem dL_law_1526 : decode cL_law 1526 = .ok (.iconst 0, 1) := by decide +kernel
theorem dL_law_1527 : decode cL_law 1527 = .ok (.ireturn, 1) := by decide +kernel
theorem dL_law_1528 : decode cL_law 1528 = .ok (.iload 5, 2) := by decide +kernel
theorem dL_law_1530 : decode cL_law 1530 = .ok (.ifCond .ne 15, 3) := by decide +kernel
theorem dL_law_1533 : decode cL_law 1533 = .ok (.aload_n 3, 1) := by decide +kernel
theorem dL_law_1534 : decode cL_law 1534 = .ok (.iconst 0, 1) := by decide +kernel
theorem dL_law_1535 : decode cL_law 1535 = .ok (.laload, 1) := by decide +kernel
theorem dL_law_1536 : decode cL_law 1536 = .ok (.iload 6, 2) := by decide +kernel
theorem dL_law_1538 : decode cL_law 1538 = .ok (.i2l, 1) := by decide +kernel
theorem dL_law_1539 : decode cL_law 1539 = .ok (.lcmp, 1) := by decide +kernel
theorem dL_law_1540 : decode cL_law 1540 = .ok (.ifCond .eq 5, 3) := by decide +kernel
theorem dL_law_1543 : decode cL_law 1543 = .ok (.iconst 0, 1) := by decide +kernel
theorem dL_law_1544 : decode cL_law 1544 = .ok (.ireturn, 1) := by decide +kernel
theorem dL_law_1545 : decode cL_law 1545 = .ok (.goto 59, 3) := by decide +kernel
theorem dL_law_1548 : decode cL_law 1548 = .ok (.aload_n 1, 1) := by decide +kernel
theorem dL_law_1549 : decode cL_law 1549 = .ok (.aload_n 0, 1) := by decide +kernel
theorem dL_law_1550 : decode cL_law 1550 = .ok (.iload 4, 2) := by decide +kernel
theorem dL_law_1552 : decode cL_law 1552 = .ok (.iconst 1, 1) := by decide +kernel
theorem dL_law_1553 : decode cL_law 1553 = .ok (.iadd, 1) := by decide +kernel
theorem dL_law_1554 : decode cL_law 1554 = .ok (.iaload, 1) := by decide +kernel
theorem dL_law_1555 : decode cL_law 1555 = .ok (.aload_n 3, 1) := by decide +kernel
theorem dL_law_1556 : decode cL_law 1556 = .ok (.invokestatic 158, 3) := by decide +kernel
theorem dL_law_1559 : decode cL_law 1559 = .ok (.istore 5, 2) := by decide +kernel
theorem dL_law_1561 : decode cL_law 1561 = .ok (.aload_n 2, 1) := by decide +kernel
theorem dL_law_1562 : decode cL_law 1562 = .ok (.aload_n 0, 1) := by decide +kernel
theorem dL_law_1563 : decode cL_law 1563 = .ok (.iload 4, 2) := by decide +kernel
theorem dL_law_1565 : decode cL_law 1565 = .ok (.iconst 1, 1) := by decide +kernel
theorem dL_law_1566 : decode cL_law 1566 = .ok (.iadd, 1) := by decide +kernel
theorem dL_law_1567 : decode cL_law 1567 = .ok (.iaload, 1) := by decide +kernel
theorem dL_law_1568 : decode cL_law 1568 = .ok (.invokevirtual 160, 3) := by decide +kernel
theorem dL_law_1571 : decode cL_law 1571 = .ok (.istore 6, 2) := by decide +kernel
theorem dL_law_1573 : decode cL_law 1573 = .ok (.aload_n 2, 1) := by decide +kernel
theorem dL_law_1574 : decode cL_law 1574 = .ok (.invokevirtual 93, 3) := by decide +kernel
theorem dL_law_1577 : decode cL_law 1577 = .ok (.iload 5, 2) := by decide +kernel
theorem dL_law_1579 : decode cL_law 1579 = .ok (.if_icmp .eq 5, 3) := by decide +kernel
theorem dL_law_1582 : decode cL_law 1582 = .ok (.iconst 0, 1) := by decide +kernel
theorem dL_law_1583 : decode cL_law 1583 = .ok (.ireturn, 1) := by decide +kernel
theorem dL_law_1584 : decode cL_law 1584 = .ok (.iload 5, 2) := by decide +kernel
theorem dL_law_1586 : decode cL_law 1586 = .ok (.ifCond .ne 15, 3) := by decide +kernel
theorem dL_law_1589 : decode cL_law 1589 = .ok (.aload_n 3, 1) := by decide +kernel
theorem dL_law_1590 : decode cL_law 1590 = .ok (.iconst 0, 1) := by decide +kernel
theorem dL_law_1591 : decode cL_law 1591 = .ok (.laload, 1) := by decide +kernel
theorem dL_law_1592 : decode cL_law 1592 = .ok (.iload 6, 2) := by decide +kernel
theorem dL_law_1594 : decode cL_law 1594 = .ok (.i2l, 1) := by decide +kernel
theorem dL_law_1595 : decode cL_law 1595 = .ok (.lcmp, 1) := by decide +kernel
theorem dL_law_1596 : decode cL_law 1596 = .ok (.ifCond .eq 5, 3) := by decide +kernel
theorem dL_law_1599 : decode cL_law 1599 = .ok (.iconst 0, 1) := by decide +kernel
theorem dL_law_1600 : decode cL_law 1600 = .ok (.ireturn, 1) := by decide +kernel
theorem dL_law_1601 : decode cL_law 1601 = .ok (.goto 3, 3) := by decide +kernel
theorem dL_law_1604 : decode cL_law 1604 = .ok (.iinc 4 6, 3) := by decide +kernel
theorem dL_law_1607 : decode cL_law 1607 = .ok (.goto (-1584), 3) := by decide +kernel
theorem dL_law_1610 : decode cL_law 1610 = .ok (.iconst 1, 1) := by decide +kernel
theorem dL_law_1611 : decode cL_law 1611 = .ok (.ireturn, 1) := by decide +kernel
abbrev vwCl : List vw_C := [(RX0, TX0, 3), (RX1, TX1, 3), (RX2, TX2, 4), (RX3, TX3, 5), (RX4, TX4, 3), (RX5, TX5, 12), (RX6, TX6, 28)]
end
section
theorem zz_t : True := trivial
end
