-- ===== PART A: goes FIRST, ahead of the names: the tables' words, and 'selects' of the private methods out of them =====
/-- a private method of a class that the tables say can be made, by its rows of tables_1 -/
def lw_okq (q : MethodName × Nat) : Prop := (q.1.cls ≠ "java/lang/invoke/MethodHandle" ∧ q.1.cls ≠ "java/lang/invoke/VarHandle") ∧ Cond.instantiable q.1.cls q.2 ∈ tables_1 ∧ Cond.privateMethod q.1 ∈ tables_1 ∧ Cond.instanceMethod q.1 ∈ tables_1
theorem lw_p0 : lw_okq (⟨"IronStairs", "bad", "()I"⟩, 15) := ⟨⟨by decide +kernel, by decide +kernel⟩, List.mem_of_getElem? (i := 16) (by decide +kernel), List.mem_of_getElem? (i := 238) (by decide +kernel), List.mem_of_getElem? (i := 239) (by decide +kernel)⟩
theorem lw_p1 : lw_okq (⟨"IronStairs", "badAs", "(I)I"⟩, 15) := ⟨⟨by decide +kernel, by decide +kernel⟩, List.mem_of_getElem? (i := 16) (by decide +kernel), List.mem_of_getElem? (i := 242) (by decide +kernel), List.mem_of_getElem? (i := 243) (by decide +kernel)⟩
theorem lw_p2 : lw_okq (⟨"IronStairs", "full", "()I"⟩, 15) := ⟨⟨by decide +kernel, by decide +kernel⟩, List.mem_of_getElem? (i := 16) (by decide +kernel), List.mem_of_getElem? (i := 255) (by decide +kernel), List.mem_of_getElem? (i := 256) (by decide +kernel)⟩
theorem lw_p3 : lw_okq (⟨"IronStairs$Reader", "nextToken", "()V"⟩, 6) := ⟨⟨by decide +kernel, by decide +kernel⟩, List.mem_of_getElem? (i := 123) (by decide +kernel), List.mem_of_getElem? (i := 323) (by decide +kernel), List.mem_of_getElem? (i := 324) (by decide +kernel)⟩
theorem lw_p4 : lw_okq (⟨"IronStairs$Reader", "isWord", "(Ljava/lang/String;)Z"⟩, 6) := ⟨⟨by decide +kernel, by decide +kernel⟩, List.mem_of_getElem? (i := 123) (by decide +kernel), List.mem_of_getElem? (i := 332) (by decide +kernel), List.mem_of_getElem? (i := 333) (by decide +kernel)⟩
theorem lw_p5 : lw_okq (⟨"IronStairs$Reader", "nextIsStop", "()Z"⟩, 6) := ⟨⟨by decide +kernel, by decide +kernel⟩, List.mem_of_getElem? (i := 123) (by decide +kernel), List.mem_of_getElem? (i := 384) (by decide +kernel), List.mem_of_getElem? (i := 385) (by decide +kernel)⟩
theorem lw_p6 : lw_okq (⟨"IronStairs$Reader", "readItem", "(LIronStairs$Back;)Z"⟩, 6) := ⟨⟨by decide +kernel, by decide +kernel⟩, List.mem_of_getElem? (i := 123) (by decide +kernel), List.mem_of_getElem? (i := 388) (by decide +kernel), List.mem_of_getElem? (i := 389) (by decide +kernel)⟩
theorem lw_p7 : lw_okq (⟨"IronStairs$Reader", "readLadder", "(LIronStairs$Back;)Z"⟩, 6) := ⟨⟨by decide +kernel, by decide +kernel⟩, List.mem_of_getElem? (i := 123) (by decide +kernel), List.mem_of_getElem? (i := 393) (by decide +kernel), List.mem_of_getElem? (i := 394) (by decide +kernel)⟩
theorem lw_p8 : lw_okq (⟨"IronStairs$Reader", "nextIsNumber", "(II)Z"⟩, 6) := ⟨⟨by decide +kernel, by decide +kernel⟩, List.mem_of_getElem? (i := 123) (by decide +kernel), List.mem_of_getElem? (i := 398) (by decide +kernel), List.mem_of_getElem? (i := 399) (by decide +kernel)⟩
theorem lw_p9 : lw_okq (⟨"IronStairs$Reader", "readGoer", "(LIronStairs$Back;)Z"⟩, 6) := ⟨⟨by decide +kernel, by decide +kernel⟩, List.mem_of_getElem? (i := 123) (by decide +kernel), List.mem_of_getElem? (i := 405) (by decide +kernel), List.mem_of_getElem? (i := 406) (by decide +kernel)⟩
theorem lw_p10 : lw_okq (⟨"IronStairs$Reader", "readWindow", "(LIronStairs$Back;)Z"⟩, 6) := ⟨⟨by decide +kernel, by decide +kernel⟩, List.mem_of_getElem? (i := 123) (by decide +kernel), List.mem_of_getElem? (i := 411) (by decide +kernel), List.mem_of_getElem? (i := 412) (by decide +kernel)⟩
theorem lw_p11 : lw_okq (⟨"IronStairs$Reader", "readTurn", "(LIronStairs$Back;)Z"⟩, 6) := ⟨⟨by decide +kernel, by decide +kernel⟩, List.mem_of_getElem? (i := 123) (by decide +kernel), List.mem_of_getElem? (i := 417) (by decide +kernel), List.mem_of_getElem? (i := 418) (by decide +kernel)⟩
theorem lw_p12 : lw_okq (⟨"IronStairs$Reader", "readDraw", "(LIronStairs$Back;)Z"⟩, 6) := ⟨⟨by decide +kernel, by decide +kernel⟩, List.mem_of_getElem? (i := 123) (by decide +kernel), List.mem_of_getElem? (i := 428) (by decide +kernel), List.mem_of_getElem? (i := 429) (by decide +kernel)⟩
theorem lw_p13 : lw_okq (⟨"IronStairs$Reader", "readMinutes", "(LIronStairs$Back;)Z"⟩, 6) := ⟨⟨by decide +kernel, by decide +kernel⟩, List.mem_of_getElem? (i := 123) (by decide +kernel), List.mem_of_getElem? (i := 437) (by decide +kernel), List.mem_of_getElem? (i := 438) (by decide +kernel)⟩
theorem lw_p14 : lw_okq (⟨"IronStairs$Back", "layWays", "()V"⟩, 9) := ⟨⟨by decide +kernel, by decide +kernel⟩, List.mem_of_getElem? (i := 24) (by decide +kernel), List.mem_of_getElem? (i := 445) (by decide +kernel), List.mem_of_getElem? (i := 446) (by decide +kernel)⟩
theorem lw_p15 : lw_okq (⟨"IronStairs$Back", "goalOf", "(I)I"⟩, 9) := ⟨⟨by decide +kernel, by decide +kernel⟩, List.mem_of_getElem? (i := 24) (by decide +kernel), List.mem_of_getElem? (i := 453) (by decide +kernel), List.mem_of_getElem? (i := 454) (by decide +kernel)⟩
def lw_privs_1 : List (MethodName × Nat) := [(⟨"IronStairs", "bad", "()I"⟩, 15), (⟨"IronStairs", "badAs", "(I)I"⟩, 15), (⟨"IronStairs", "full", "()I"⟩, 15), (⟨"IronStairs$Reader", "nextToken", "()V"⟩, 6), (⟨"IronStairs$Reader", "isWord", "(Ljava/lang/String;)Z"⟩, 6), (⟨"IronStairs$Reader", "nextIsStop", "()Z"⟩, 6), (⟨"IronStairs$Reader", "readItem", "(LIronStairs$Back;)Z"⟩, 6), (⟨"IronStairs$Reader", "readLadder", "(LIronStairs$Back;)Z"⟩, 6), (⟨"IronStairs$Reader", "nextIsNumber", "(II)Z"⟩, 6), (⟨"IronStairs$Reader", "readGoer", "(LIronStairs$Back;)Z"⟩, 6), (⟨"IronStairs$Reader", "readWindow", "(LIronStairs$Back;)Z"⟩, 6), (⟨"IronStairs$Reader", "readTurn", "(LIronStairs$Back;)Z"⟩, 6), (⟨"IronStairs$Reader", "readDraw", "(LIronStairs$Back;)Z"⟩, 6), (⟨"IronStairs$Reader", "readMinutes", "(LIronStairs$Back;)Z"⟩, 6), (⟨"IronStairs$Back", "layWays", "()V"⟩, 9), (⟨"IronStairs$Back", "goalOf", "(I)I"⟩, 9)]
theorem lw_r1 : ∀ q ∈ lw_privs_1, lw_okq q := List.forall_mem_cons.mpr ⟨lw_p0, List.forall_mem_cons.mpr ⟨lw_p1, List.forall_mem_cons.mpr ⟨lw_p2, List.forall_mem_cons.mpr ⟨lw_p3, List.forall_mem_cons.mpr ⟨lw_p4, List.forall_mem_cons.mpr ⟨lw_p5, List.forall_mem_cons.mpr ⟨lw_p6, List.forall_mem_cons.mpr ⟨lw_p7, List.forall_mem_cons.mpr ⟨lw_p8, List.forall_mem_cons.mpr ⟨lw_p9, List.forall_mem_cons.mpr ⟨lw_p10, List.forall_mem_cons.mpr ⟨lw_p11, List.forall_mem_cons.mpr ⟨lw_p12, List.forall_mem_cons.mpr ⟨lw_p13, List.forall_mem_cons.mpr ⟨lw_p14, List.forall_mem_cons.mpr ⟨lw_p15, fun _ h => absurd h List.not_mem_nil⟩⟩⟩⟩⟩⟩⟩⟩⟩⟩⟩⟩⟩⟩⟩⟩
theorem lw_p16 : lw_okq (⟨"IronStairs$Ways", "spread", "(I)V"⟩, 4) := ⟨⟨by decide +kernel, by decide +kernel⟩, List.mem_of_getElem? (i := 63) (by decide +kernel), List.mem_of_getElem? (i := 461) (by decide +kernel), List.mem_of_getElem? (i := 462) (by decide +kernel)⟩
theorem lw_p17 : lw_okq (⟨"IronStairs$Ways", "beside", "(II)I"⟩, 4) := ⟨⟨by decide +kernel, by decide +kernel⟩, List.mem_of_getElem? (i := 63) (by decide +kernel), List.mem_of_getElem? (i := 467) (by decide +kernel), List.mem_of_getElem? (i := 468) (by decide +kernel)⟩
theorem lw_p18 : lw_okq (⟨"IronStairs", "no", "()I"⟩, 15) := ⟨⟨by decide +kernel, by decide +kernel⟩, List.mem_of_getElem? (i := 16) (by decide +kernel), List.mem_of_getElem? (i := 525) (by decide +kernel), List.mem_of_getElem? (i := 526) (by decide +kernel)⟩
theorem lw_p19 : lw_okq (⟨"IronStairs$Back", "loudStep", "(I)I"⟩, 9) := ⟨⟨by decide +kernel, by decide +kernel⟩, List.mem_of_getElem? (i := 24) (by decide +kernel), List.mem_of_getElem? (i := 546) (by decide +kernel), List.mem_of_getElem? (i := 547) (by decide +kernel)⟩
theorem lw_p20 : lw_okq (⟨"IronStairs", "areTwoGoers", "(II)Z"⟩, 15) := ⟨⟨by decide +kernel, by decide +kernel⟩, List.mem_of_getElem? (i := 16) (by decide +kernel), List.mem_of_getElem? (i := 620) (by decide +kernel), List.mem_of_getElem? (i := 621) (by decide +kernel)⟩
theorem lw_p21 : lw_okq (⟨"IronStairs", "firstMeeting", "(III)I"⟩, 15) := ⟨⟨by decide +kernel, by decide +kernel⟩, List.mem_of_getElem? (i := 16) (by decide +kernel), List.mem_of_getElem? (i := 624) (by decide +kernel), List.mem_of_getElem? (i := 625) (by decide +kernel)⟩
theorem lw_p22 : lw_okq (⟨"IronStairs", "goersCutOff", "(I)I"⟩, 15) := ⟨⟨by decide +kernel, by decide +kernel⟩, List.mem_of_getElem? (i := 16) (by decide +kernel), List.mem_of_getElem? (i := 645) (by decide +kernel), List.mem_of_getElem? (i := 646) (by decide +kernel)⟩
theorem lw_p23 : lw_okq (⟨"IronStairs", "climbsDown", "(II)Z"⟩, 15) := ⟨⟨by decide +kernel, by decide +kernel⟩, List.mem_of_getElem? (i := 16) (by decide +kernel), List.mem_of_getElem? (i := 650) (by decide +kernel), List.mem_of_getElem? (i := 651) (by decide +kernel)⟩
theorem lw_p24 : lw_okq (⟨"IronStairs", "fillToHomes", "()V"⟩, 15) := ⟨⟨by decide +kernel, by decide +kernel⟩, List.mem_of_getElem? (i := 16) (by decide +kernel), List.mem_of_getElem? (i := 662) (by decide +kernel), List.mem_of_getElem? (i := 663) (by decide +kernel)⟩
theorem lw_p25 : lw_okq (⟨"IronStairs", "fillLeast", "()V"⟩, 15) := ⟨⟨by decide +kernel, by decide +kernel⟩, List.mem_of_getElem? (i := 16) (by decide +kernel), List.mem_of_getElem? (i := 666) (by decide +kernel), List.mem_of_getElem? (i := 667) (by decide +kernel)⟩
theorem lw_p26 : lw_okq (⟨"IronStairs", "leastBehind", "(I)I"⟩, 15) := ⟨⟨by decide +kernel, by decide +kernel⟩, List.mem_of_getElem? (i := 16) (by decide +kernel), List.mem_of_getElem? (i := 670) (by decide +kernel), List.mem_of_getElem? (i := 671) (by decide +kernel)⟩
theorem lw_p27 : lw_okq (⟨"IronStairs", "wayThrough", "(III)I"⟩, 15) := ⟨⟨by decide +kernel, by decide +kernel⟩, List.mem_of_getElem? (i := 16) (by decide +kernel), List.mem_of_getElem? (i := 680) (by decide +kernel), List.mem_of_getElem? (i := 681) (by decide +kernel)⟩
theorem lw_p28 : lw_okq (⟨"IronStairs", "homeChosenBy", "(I)I"⟩, 15) := ⟨⟨by decide +kernel, by decide +kernel⟩, List.mem_of_getElem? (i := 16) (by decide +kernel), List.mem_of_getElem? (i := 684) (by decide +kernel), List.mem_of_getElem? (i := 685) (by decide +kernel)⟩
theorem lw_p29 : lw_okq (⟨"IronStairs", "firstHome", "(II)I"⟩, 15) := ⟨⟨by decide +kernel, by decide +kernel⟩, List.mem_of_getElem? (i := 16) (by decide +kernel), List.mem_of_getElem? (i := 688) (by decide +kernel), List.mem_of_getElem? (i := 689) (by decide +kernel)⟩
theorem lw_p30 : lw_okq (⟨"IronStairs", "fitsSounds", "(I)Z"⟩, 15) := ⟨⟨by decide +kernel, by decide +kernel⟩, List.mem_of_getElem? (i := 16) (by decide +kernel), List.mem_of_getElem? (i := 701) (by decide +kernel), List.mem_of_getElem? (i := 702) (by decide +kernel)⟩
theorem lw_p31 : lw_okq (⟨"IronStairs", "goerKinds", "(I)I"⟩, 15) := ⟨⟨by decide +kernel, by decide +kernel⟩, List.mem_of_getElem? (i := 16) (by decide +kernel), List.mem_of_getElem? (i := 723) (by decide +kernel), List.mem_of_getElem? (i := 724) (by decide +kernel)⟩
def lw_privs_2 : List (MethodName × Nat) := [(⟨"IronStairs$Ways", "spread", "(I)V"⟩, 4), (⟨"IronStairs$Ways", "beside", "(II)I"⟩, 4), (⟨"IronStairs", "no", "()I"⟩, 15), (⟨"IronStairs$Back", "loudStep", "(I)I"⟩, 9), (⟨"IronStairs", "areTwoGoers", "(II)Z"⟩, 15), (⟨"IronStairs", "firstMeeting", "(III)I"⟩, 15), (⟨"IronStairs", "goersCutOff", "(I)I"⟩, 15), (⟨"IronStairs", "climbsDown", "(II)Z"⟩, 15), (⟨"IronStairs", "fillToHomes", "()V"⟩, 15), (⟨"IronStairs", "fillLeast", "()V"⟩, 15), (⟨"IronStairs", "leastBehind", "(I)I"⟩, 15), (⟨"IronStairs", "wayThrough", "(III)I"⟩, 15), (⟨"IronStairs", "homeChosenBy", "(I)I"⟩, 15), (⟨"IronStairs", "firstHome", "(II)I"⟩, 15), (⟨"IronStairs", "fitsSounds", "(I)Z"⟩, 15), (⟨"IronStairs", "goerKinds", "(I)I"⟩, 15)]
theorem lw_r2 : ∀ q ∈ lw_privs_2, lw_okq q := List.forall_mem_cons.mpr ⟨lw_p16, List.forall_mem_cons.mpr ⟨lw_p17, List.forall_mem_cons.mpr ⟨lw_p18, List.forall_mem_cons.mpr ⟨lw_p19, List.forall_mem_cons.mpr ⟨lw_p20, List.forall_mem_cons.mpr ⟨lw_p21, List.forall_mem_cons.mpr ⟨lw_p22, List.forall_mem_cons.mpr ⟨lw_p23, List.forall_mem_cons.mpr ⟨lw_p24, List.forall_mem_cons.mpr ⟨lw_p25, List.forall_mem_cons.mpr ⟨lw_p26, List.forall_mem_cons.mpr ⟨lw_p27, List.forall_mem_cons.mpr ⟨lw_p28, List.forall_mem_cons.mpr ⟨lw_p29, List.forall_mem_cons.mpr ⟨lw_p30, List.forall_mem_cons.mpr ⟨lw_p31, fun _ h => absurd h List.not_mem_nil⟩⟩⟩⟩⟩⟩⟩⟩⟩⟩⟩⟩⟩⟩⟩⟩
theorem lw_p32 : lw_okq (⟨"IronStairs", "fitsNotes", "(II)Z"⟩, 15) := ⟨⟨by decide +kernel, by decide +kernel⟩, List.mem_of_getElem? (i := 16) (by decide +kernel), List.mem_of_getElem? (i := 727) (by decide +kernel), List.mem_of_getElem? (i := 728) (by decide +kernel)⟩
theorem lw_p33 : lw_okq (⟨"IronStairs", "windowKinds", "(I)I"⟩, 15) := ⟨⟨by decide +kernel, by decide +kernel⟩, List.mem_of_getElem? (i := 16) (by decide +kernel), List.mem_of_getElem? (i := 742) (by decide +kernel), List.mem_of_getElem? (i := 743) (by decide +kernel)⟩
theorem lw_p34 : lw_okq (⟨"IronStairs", "fitsMarks", "(II)Z"⟩, 15) := ⟨⟨by decide +kernel, by decide +kernel⟩, List.mem_of_getElem? (i := 16) (by decide +kernel), List.mem_of_getElem? (i := 746) (by decide +kernel), List.mem_of_getElem? (i := 747) (by decide +kernel)⟩
theorem lw_p35 : lw_okq (⟨"IronStairs", "fillMet", "(II)V"⟩, 15) := ⟨⟨by decide +kernel, by decide +kernel⟩, List.mem_of_getElem? (i := 16) (by decide +kernel), List.mem_of_getElem? (i := 762) (by decide +kernel), List.mem_of_getElem? (i := 763) (by decide +kernel)⟩
theorem lw_p36 : lw_okq (⟨"IronStairs", "rests", "(II)Z"⟩, 15) := ⟨⟨by decide +kernel, by decide +kernel⟩, List.mem_of_getElem? (i := 16) (by decide +kernel), List.mem_of_getElem? (i := 766) (by decide +kernel), List.mem_of_getElem? (i := 767) (by decide +kernel)⟩
theorem lw_p37 : lw_okq (⟨"IronStairs", "gainOfA", "(II)I"⟩, 15) := ⟨⟨by decide +kernel, by decide +kernel⟩, List.mem_of_getElem? (i := 16) (by decide +kernel), List.mem_of_getElem? (i := 770) (by decide +kernel), List.mem_of_getElem? (i := 771) (by decide +kernel)⟩
theorem lw_p38 : lw_okq (⟨"IronStairs", "gainOfB", "(II)I"⟩, 15) := ⟨⟨by decide +kernel, by decide +kernel⟩, List.mem_of_getElem? (i := 16) (by decide +kernel), List.mem_of_getElem? (i := 774) (by decide +kernel), List.mem_of_getElem? (i := 775) (by decide +kernel)⟩
theorem lw_p39 : lw_okq (⟨"IronStairs", "howMany", "(I)I"⟩, 15) := ⟨⟨by decide +kernel, by decide +kernel⟩, List.mem_of_getElem? (i := 16) (by decide +kernel), List.mem_of_getElem? (i := 826) (by decide +kernel), List.mem_of_getElem? (i := 827) (by decide +kernel)⟩
theorem lw_p40 : lw_okq (⟨"IronStairsModel", "empties", "(I)V"⟩, 21) := ⟨⟨by decide +kernel, by decide +kernel⟩, List.mem_of_getElem? (i := 849) (by decide +kernel), List.mem_of_getElem? (i := 924) (by decide +kernel), List.mem_of_getElem? (i := 925) (by decide +kernel)⟩
theorem lw_p41 : lw_okq (⟨"IronStairsModel", "hasLadder", "(II)Z"⟩, 21) := ⟨⟨by decide +kernel, by decide +kernel⟩, List.mem_of_getElem? (i := 849) (by decide +kernel), List.mem_of_getElem? (i := 936) (by decide +kernel), List.mem_of_getElem? (i := 937) (by decide +kernel)⟩
theorem lw_p42 : lw_okq (⟨"IronStairsModel", "bad", "(I)I"⟩, 21) := ⟨⟨by decide +kernel, by decide +kernel⟩, List.mem_of_getElem? (i := 849) (by decide +kernel), List.mem_of_getElem? (i := 940) (by decide +kernel), List.mem_of_getElem? (i := 941) (by decide +kernel)⟩
theorem lw_p43 : lw_okq (⟨"IronStairsModel", "full", "()I"⟩, 21) := ⟨⟨by decide +kernel, by decide +kernel⟩, List.mem_of_getElem? (i := 849) (by decide +kernel), List.mem_of_getElem? (i := 944) (by decide +kernel), List.mem_of_getElem? (i := 945) (by decide +kernel)⟩
theorem lw_p44 : lw_okq (⟨"IronStairsModel", "addsLadder", "(II)V"⟩, 21) := ⟨⟨by decide +kernel, by decide +kernel⟩, List.mem_of_getElem? (i := 849) (by decide +kernel), List.mem_of_getElem? (i := 948) (by decide +kernel), List.mem_of_getElem? (i := 949) (by decide +kernel)⟩
theorem lw_p45 : lw_okq (⟨"IronStairsModel", "addsGoer", "(IIII)V"⟩, 21) := ⟨⟨by decide +kernel, by decide +kernel⟩, List.mem_of_getElem? (i := 849) (by decide +kernel), List.mem_of_getElem? (i := 961) (by decide +kernel), List.mem_of_getElem? (i := 962) (by decide +kernel)⟩
theorem lw_p46 : lw_okq (⟨"IronStairsModel", "addsWindow", "(III)V"⟩, 21) := ⟨⟨by decide +kernel, by decide +kernel⟩, List.mem_of_getElem? (i := 849) (by decide +kernel), List.mem_of_getElem? (i := 969) (by decide +kernel), List.mem_of_getElem? (i := 970) (by decide +kernel)⟩
theorem lw_p47 : lw_okq (⟨"IronStairsModel", "blanks", "()V"⟩, 21) := ⟨⟨by decide +kernel, by decide +kernel⟩, List.mem_of_getElem? (i := 849) (by decide +kernel), List.mem_of_getElem? (i := 986) (by decide +kernel), List.mem_of_getElem? (i := 987) (by decide +kernel)⟩
def lw_privs_3 : List (MethodName × Nat) := [(⟨"IronStairs", "fitsNotes", "(II)Z"⟩, 15), (⟨"IronStairs", "windowKinds", "(I)I"⟩, 15), (⟨"IronStairs", "fitsMarks", "(II)Z"⟩, 15), (⟨"IronStairs", "fillMet", "(II)V"⟩, 15), (⟨"IronStairs", "rests", "(II)Z"⟩, 15), (⟨"IronStairs", "gainOfA", "(II)I"⟩, 15), (⟨"IronStairs", "gainOfB", "(II)I"⟩, 15), (⟨"IronStairs", "howMany", "(I)I"⟩, 15), (⟨"IronStairsModel", "empties", "(I)V"⟩, 21), (⟨"IronStairsModel", "hasLadder", "(II)Z"⟩, 21), (⟨"IronStairsModel", "bad", "(I)I"⟩, 21), (⟨"IronStairsModel", "full", "()I"⟩, 21), (⟨"IronStairsModel", "addsLadder", "(II)V"⟩, 21), (⟨"IronStairsModel", "addsGoer", "(IIII)V"⟩, 21), (⟨"IronStairsModel", "addsWindow", "(III)V"⟩, 21), (⟨"IronStairsModel", "blanks", "()V"⟩, 21)]
theorem lw_r3 : ∀ q ∈ lw_privs_3, lw_okq q := List.forall_mem_cons.mpr ⟨lw_p32, List.forall_mem_cons.mpr ⟨lw_p33, List.forall_mem_cons.mpr ⟨lw_p34, List.forall_mem_cons.mpr ⟨lw_p35, List.forall_mem_cons.mpr ⟨lw_p36, List.forall_mem_cons.mpr ⟨lw_p37, List.forall_mem_cons.mpr ⟨lw_p38, List.forall_mem_cons.mpr ⟨lw_p39, List.forall_mem_cons.mpr ⟨lw_p40, List.forall_mem_cons.mpr ⟨lw_p41, List.forall_mem_cons.mpr ⟨lw_p42, List.forall_mem_cons.mpr ⟨lw_p43, List.forall_mem_cons.mpr ⟨lw_p44, List.forall_mem_cons.mpr ⟨lw_p45, List.forall_mem_cons.mpr ⟨lw_p46, List.forall_mem_cons.mpr ⟨lw_p47, fun _ h => absurd h List.not_mem_nil⟩⟩⟩⟩⟩⟩⟩⟩⟩⟩⟩⟩⟩⟩⟩⟩
theorem lw_p48 : lw_okq (⟨"IronStairsModel", "byteAt", "(I)I"⟩, 21) := ⟨⟨by decide +kernel, by decide +kernel⟩, List.mem_of_getElem? (i := 849) (by decide +kernel), List.mem_of_getElem? (i := 990) (by decide +kernel), List.mem_of_getElem? (i := 991) (by decide +kernel)⟩
theorem lw_p49 : lw_okq (⟨"IronStairsModel", "readsItem", "(Z)Z"⟩, 21) := ⟨⟨by decide +kernel, by decide +kernel⟩, List.mem_of_getElem? (i := 849) (by decide +kernel), List.mem_of_getElem? (i := 994) (by decide +kernel), List.mem_of_getElem? (i := 995) (by decide +kernel)⟩
theorem lw_p50 : lw_okq (⟨"IronStairsModel", "takesWord", "()V"⟩, 21) := ⟨⟨by decide +kernel, by decide +kernel⟩, List.mem_of_getElem? (i := 849) (by decide +kernel), List.mem_of_getElem? (i := 998) (by decide +kernel), List.mem_of_getElem? (i := 999) (by decide +kernel)⟩
theorem lw_p51 : lw_okq (⟨"IronStairsModel", "wordOf", "()I"⟩, 21) := ⟨⟨by decide +kernel, by decide +kernel⟩, List.mem_of_getElem? (i := 849) (by decide +kernel), List.mem_of_getElem? (i := 1004) (by decide +kernel), List.mem_of_getElem? (i := 1005) (by decide +kernel)⟩
theorem lw_p52 : lw_okq (⟨"IronStairsModel", "isWord", "(IIIIIII)Z"⟩, 21) := ⟨⟨by decide +kernel, by decide +kernel⟩, List.mem_of_getElem? (i := 849) (by decide +kernel), List.mem_of_getElem? (i := 1008) (by decide +kernel), List.mem_of_getElem? (i := 1009) (by decide +kernel)⟩
theorem lw_p53 : lw_okq (⟨"IronStairsModel", "isLetter", "(III)Z"⟩, 21) := ⟨⟨by decide +kernel, by decide +kernel⟩, List.mem_of_getElem? (i := 849) (by decide +kernel), List.mem_of_getElem? (i := 1012) (by decide +kernel), List.mem_of_getElem? (i := 1013) (by decide +kernel)⟩
theorem lw_p54 : lw_okq (⟨"IronStairsModel", "readsLadder", "()Z"⟩, 21) := ⟨⟨by decide +kernel, by decide +kernel⟩, List.mem_of_getElem? (i := 849) (by decide +kernel), List.mem_of_getElem? (i := 1016) (by decide +kernel), List.mem_of_getElem? (i := 1017) (by decide +kernel)⟩
theorem lw_p55 : lw_okq (⟨"IronStairsModel", "takesNumber", "(II)Z"⟩, 21) := ⟨⟨by decide +kernel, by decide +kernel⟩, List.mem_of_getElem? (i := 849) (by decide +kernel), List.mem_of_getElem? (i := 1020) (by decide +kernel), List.mem_of_getElem? (i := 1021) (by decide +kernel)⟩
theorem lw_p56 : lw_okq (⟨"IronStairsModel", "readsGoer", "()Z"⟩, 21) := ⟨⟨by decide +kernel, by decide +kernel⟩, List.mem_of_getElem? (i := 849) (by decide +kernel), List.mem_of_getElem? (i := 1027) (by decide +kernel), List.mem_of_getElem? (i := 1028) (by decide +kernel)⟩
theorem lw_p57 : lw_okq (⟨"IronStairsModel", "readsWindow", "()Z"⟩, 21) := ⟨⟨by decide +kernel, by decide +kernel⟩, List.mem_of_getElem? (i := 849) (by decide +kernel), List.mem_of_getElem? (i := 1031) (by decide +kernel), List.mem_of_getElem? (i := 1032) (by decide +kernel)⟩
theorem lw_p58 : lw_okq (⟨"IronStairsModel", "readsTurn", "()Z"⟩, 21) := ⟨⟨by decide +kernel, by decide +kernel⟩, List.mem_of_getElem? (i := 849) (by decide +kernel), List.mem_of_getElem? (i := 1035) (by decide +kernel), List.mem_of_getElem? (i := 1036) (by decide +kernel)⟩
theorem lw_p59 : lw_okq (⟨"IronStairsModel", "readsDraw", "()Z"⟩, 21) := ⟨⟨by decide +kernel, by decide +kernel⟩, List.mem_of_getElem? (i := 849) (by decide +kernel), List.mem_of_getElem? (i := 1039) (by decide +kernel), List.mem_of_getElem? (i := 1040) (by decide +kernel)⟩
theorem lw_p60 : lw_okq (⟨"IronStairsModel", "readsMinutes", "()Z"⟩, 21) := ⟨⟨by decide +kernel, by decide +kernel⟩, List.mem_of_getElem? (i := 849) (by decide +kernel), List.mem_of_getElem? (i := 1043) (by decide +kernel), List.mem_of_getElem? (i := 1044) (by decide +kernel)⟩
theorem lw_p61 : lw_okq (⟨"IronStairsModel", "passes", "(I)I"⟩, 21) := ⟨⟨by decide +kernel, by decide +kernel⟩, List.mem_of_getElem? (i := 849) (by decide +kernel), List.mem_of_getElem? (i := 1047) (by decide +kernel), List.mem_of_getElem? (i := 1048) (by decide +kernel)⟩
theorem lw_p62 : lw_okq (⟨"IronStairsModel", "nextOf", "(II)I"⟩, 21) := ⟨⟨by decide +kernel, by decide +kernel⟩, List.mem_of_getElem? (i := 849) (by decide +kernel), List.mem_of_getElem? (i := 1051) (by decide +kernel), List.mem_of_getElem? (i := 1052) (by decide +kernel)⟩
theorem lw_p63 : lw_okq (⟨"IronStairsModel", "goalOf", "(II)I"⟩, 21) := ⟨⟨by decide +kernel, by decide +kernel⟩, List.mem_of_getElem? (i := 849) (by decide +kernel), List.mem_of_getElem? (i := 1055) (by decide +kernel), List.mem_of_getElem? (i := 1056) (by decide +kernel)⟩
def lw_privs_4 : List (MethodName × Nat) := [(⟨"IronStairsModel", "byteAt", "(I)I"⟩, 21), (⟨"IronStairsModel", "readsItem", "(Z)Z"⟩, 21), (⟨"IronStairsModel", "takesWord", "()V"⟩, 21), (⟨"IronStairsModel", "wordOf", "()I"⟩, 21), (⟨"IronStairsModel", "isWord", "(IIIIIII)Z"⟩, 21), (⟨"IronStairsModel", "isLetter", "(III)Z"⟩, 21), (⟨"IronStairsModel", "readsLadder", "()Z"⟩, 21), (⟨"IronStairsModel", "takesNumber", "(II)Z"⟩, 21), (⟨"IronStairsModel", "readsGoer", "()Z"⟩, 21), (⟨"IronStairsModel", "readsWindow", "()Z"⟩, 21), (⟨"IronStairsModel", "readsTurn", "()Z"⟩, 21), (⟨"IronStairsModel", "readsDraw", "()Z"⟩, 21), (⟨"IronStairsModel", "readsMinutes", "()Z"⟩, 21), (⟨"IronStairsModel", "passes", "(I)I"⟩, 21), (⟨"IronStairsModel", "nextOf", "(II)I"⟩, 21), (⟨"IronStairsModel", "goalOf", "(II)I"⟩, 21)]
theorem lw_r4 : ∀ q ∈ lw_privs_4, lw_okq q := List.forall_mem_cons.mpr ⟨lw_p48, List.forall_mem_cons.mpr ⟨lw_p49, List.forall_mem_cons.mpr ⟨lw_p50, List.forall_mem_cons.mpr ⟨lw_p51, List.forall_mem_cons.mpr ⟨lw_p52, List.forall_mem_cons.mpr ⟨lw_p53, List.forall_mem_cons.mpr ⟨lw_p54, List.forall_mem_cons.mpr ⟨lw_p55, List.forall_mem_cons.mpr ⟨lw_p56, List.forall_mem_cons.mpr ⟨lw_p57, List.forall_mem_cons.mpr ⟨lw_p58, List.forall_mem_cons.mpr ⟨lw_p59, List.forall_mem_cons.mpr ⟨lw_p60, List.forall_mem_cons.mpr ⟨lw_p61, List.forall_mem_cons.mpr ⟨lw_p62, List.forall_mem_cons.mpr ⟨lw_p63, fun _ h => absurd h List.not_mem_nil⟩⟩⟩⟩⟩⟩⟩⟩⟩⟩⟩⟩⟩⟩⟩⟩
theorem lw_p64 : lw_okq (⟨"IronStairsModel", "laysAway", "(II)V"⟩, 21) := ⟨⟨by decide +kernel, by decide +kernel⟩, List.mem_of_getElem? (i := 849) (by decide +kernel), List.mem_of_getElem? (i := 1059) (by decide +kernel), List.mem_of_getElem? (i := 1060) (by decide +kernel)⟩
theorem lw_p65 : lw_okq (⟨"IronStairsModel", "leads", "(III)Z"⟩, 21) := ⟨⟨by decide +kernel, by decide +kernel⟩, List.mem_of_getElem? (i := 849) (by decide +kernel), List.mem_of_getElem? (i := 1064) (by decide +kernel), List.mem_of_getElem? (i := 1065) (by decide +kernel)⟩
theorem lw_p66 : lw_okq (⟨"IronStairsModel", "isLadderDown", "(II)Z"⟩, 21) := ⟨⟨by decide +kernel, by decide +kernel⟩, List.mem_of_getElem? (i := 849) (by decide +kernel), List.mem_of_getElem? (i := 1068) (by decide +kernel), List.mem_of_getElem? (i := 1069) (by decide +kernel)⟩
theorem lw_p67 : lw_okq (⟨"IronStairsModel", "takesEnd", "()Z"⟩, 21) := ⟨⟨by decide +kernel, by decide +kernel⟩, List.mem_of_getElem? (i := 849) (by decide +kernel), List.mem_of_getElem? (i := 1072) (by decide +kernel), List.mem_of_getElem? (i := 1073) (by decide +kernel)⟩
theorem lw_p68 : lw_okq (⟨"IronStairsModel", "copy", "(II)V"⟩, 21) := ⟨⟨by decide +kernel, by decide +kernel⟩, List.mem_of_getElem? (i := 849) (by decide +kernel), List.mem_of_getElem? (i := 1076) (by decide +kernel), List.mem_of_getElem? (i := 1077) (by decide +kernel)⟩
theorem lw_p69 : lw_okq (⟨"IronStairsModel", "minds", "()V"⟩, 21) := ⟨⟨by decide +kernel, by decide +kernel⟩, List.mem_of_getElem? (i := 849) (by decide +kernel), List.mem_of_getElem? (i := 1085) (by decide +kernel), List.mem_of_getElem? (i := 1086) (by decide +kernel)⟩
theorem lw_p70 : lw_okq (⟨"IronStairsModel", "isGoer", "(I)Z"⟩, 21) := ⟨⟨by decide +kernel, by decide +kernel⟩, List.mem_of_getElem? (i := 849) (by decide +kernel), List.mem_of_getElem? (i := 1093) (by decide +kernel), List.mem_of_getElem? (i := 1094) (by decide +kernel)⟩
theorem lw_p71 : lw_okq (⟨"IronStairsModel", "isLadder", "(I)Z"⟩, 21) := ⟨⟨by decide +kernel, by decide +kernel⟩, List.mem_of_getElem? (i := 849) (by decide +kernel), List.mem_of_getElem? (i := 1101) (by decide +kernel), List.mem_of_getElem? (i := 1102) (by decide +kernel)⟩
theorem lw_p72 : lw_okq (⟨"IronStairsModel", "no", "()I"⟩, 21) := ⟨⟨by decide +kernel, by decide +kernel⟩, List.mem_of_getElem? (i := 849) (by decide +kernel), List.mem_of_getElem? (i := 1109) (by decide +kernel), List.mem_of_getElem? (i := 1110) (by decide +kernel)⟩
theorem lw_p73 : lw_okq (⟨"IronStairsModel", "loudIn", "(II)I"⟩, 21) := ⟨⟨by decide +kernel, by decide +kernel⟩, List.mem_of_getElem? (i := 849) (by decide +kernel), List.mem_of_getElem? (i := 1117) (by decide +kernel), List.mem_of_getElem? (i := 1118) (by decide +kernel)⟩
theorem lw_p74 : lw_okq (⟨"IronStairsModel", "isWindow", "(I)Z"⟩, 21) := ⟨⟨by decide +kernel, by decide +kernel⟩, List.mem_of_getElem? (i := 849) (by decide +kernel), List.mem_of_getElem? (i := 1134) (by decide +kernel), List.mem_of_getElem? (i := 1135) (by decide +kernel)⟩
theorem lw_p75 : lw_okq (⟨"IronStairsModel", "heardBy", "(II)I"⟩, 21) := ⟨⟨by decide +kernel, by decide +kernel⟩, List.mem_of_getElem? (i := 849) (by decide +kernel), List.mem_of_getElem? (i := 1138) (by decide +kernel), List.mem_of_getElem? (i := 1139) (by decide +kernel)⟩
theorem lw_p76 : lw_okq (⟨"IronStairsModel", "hearsIn", "(III)Z"⟩, 21) := ⟨⟨by decide +kernel, by decide +kernel⟩, List.mem_of_getElem? (i := 849) (by decide +kernel), List.mem_of_getElem? (i := 1142) (by decide +kernel), List.mem_of_getElem? (i := 1143) (by decide +kernel)⟩
theorem lw_p77 : lw_okq (⟨"IronStairsModel", "tries", "()V"⟩, 21) := ⟨⟨by decide +kernel, by decide +kernel⟩, List.mem_of_getElem? (i := 849) (by decide +kernel), List.mem_of_getElem? (i := 1173) (by decide +kernel), List.mem_of_getElem? (i := 1174) (by decide +kernel)⟩
theorem lw_p78 : lw_okq (⟨"IronStairsModel", "laysTwo", "(II)V"⟩, 21) := ⟨⟨by decide +kernel, by decide +kernel⟩, List.mem_of_getElem? (i := 849) (by decide +kernel), List.mem_of_getElem? (i := 1181) (by decide +kernel), List.mem_of_getElem? (i := 1182) (by decide +kernel)⟩
theorem lw_p79 : lw_okq (⟨"IronStairsModel", "meetBy", "(III)I"⟩, 21) := ⟨⟨by decide +kernel, by decide +kernel⟩, List.mem_of_getElem? (i := 849) (by decide +kernel), List.mem_of_getElem? (i := 1185) (by decide +kernel), List.mem_of_getElem? (i := 1186) (by decide +kernel)⟩
def lw_privs_5 : List (MethodName × Nat) := [(⟨"IronStairsModel", "laysAway", "(II)V"⟩, 21), (⟨"IronStairsModel", "leads", "(III)Z"⟩, 21), (⟨"IronStairsModel", "isLadderDown", "(II)Z"⟩, 21), (⟨"IronStairsModel", "takesEnd", "()Z"⟩, 21), (⟨"IronStairsModel", "copy", "(II)V"⟩, 21), (⟨"IronStairsModel", "minds", "()V"⟩, 21), (⟨"IronStairsModel", "isGoer", "(I)Z"⟩, 21), (⟨"IronStairsModel", "isLadder", "(I)Z"⟩, 21), (⟨"IronStairsModel", "no", "()I"⟩, 21), (⟨"IronStairsModel", "loudIn", "(II)I"⟩, 21), (⟨"IronStairsModel", "isWindow", "(I)Z"⟩, 21), (⟨"IronStairsModel", "heardBy", "(II)I"⟩, 21), (⟨"IronStairsModel", "hearsIn", "(III)Z"⟩, 21), (⟨"IronStairsModel", "tries", "()V"⟩, 21), (⟨"IronStairsModel", "laysTwo", "(II)V"⟩, 21), (⟨"IronStairsModel", "meetBy", "(III)I"⟩, 21)]
theorem lw_r5 : ∀ q ∈ lw_privs_5, lw_okq q := List.forall_mem_cons.mpr ⟨lw_p64, List.forall_mem_cons.mpr ⟨lw_p65, List.forall_mem_cons.mpr ⟨lw_p66, List.forall_mem_cons.mpr ⟨lw_p67, List.forall_mem_cons.mpr ⟨lw_p68, List.forall_mem_cons.mpr ⟨lw_p69, List.forall_mem_cons.mpr ⟨lw_p70, List.forall_mem_cons.mpr ⟨lw_p71, List.forall_mem_cons.mpr ⟨lw_p72, List.forall_mem_cons.mpr ⟨lw_p73, List.forall_mem_cons.mpr ⟨lw_p74, List.forall_mem_cons.mpr ⟨lw_p75, List.forall_mem_cons.mpr ⟨lw_p76, List.forall_mem_cons.mpr ⟨lw_p77, List.forall_mem_cons.mpr ⟨lw_p78, List.forall_mem_cons.mpr ⟨lw_p79, fun _ h => absurd h List.not_mem_nil⟩⟩⟩⟩⟩⟩⟩⟩⟩⟩⟩⟩⟩⟩⟩⟩
theorem lw_p80 : lw_okq (⟨"IronStairsModel", "lostOnes", "(I)I"⟩, 21) := ⟨⟨by decide +kernel, by decide +kernel⟩, List.mem_of_getElem? (i := 849) (by decide +kernel), List.mem_of_getElem? (i := 1197) (by decide +kernel), List.mem_of_getElem? (i := 1198) (by decide +kernel)⟩
theorem lw_p81 : lw_okq (⟨"IronStairsModel", "bestDoors", "()I"⟩, 21) := ⟨⟨by decide +kernel, by decide +kernel⟩, List.mem_of_getElem? (i := 849) (by decide +kernel), List.mem_of_getElem? (i := 1212) (by decide +kernel), List.mem_of_getElem? (i := 1213) (by decide +kernel)⟩
theorem lw_p82 : lw_okq (⟨"IronStairsModel", "kindsOf", "(I)I"⟩, 21) := ⟨⟨by decide +kernel, by decide +kernel⟩, List.mem_of_getElem? (i := 849) (by decide +kernel), List.mem_of_getElem? (i := 1248) (by decide +kernel), List.mem_of_getElem? (i := 1249) (by decide +kernel)⟩
theorem lw_p83 : lw_okq (⟨"IronStairsModel", "greatest", "(I)I"⟩, 21) := ⟨⟨by decide +kernel, by decide +kernel⟩, List.mem_of_getElem? (i := 849) (by decide +kernel), List.mem_of_getElem? (i := 1256) (by decide +kernel), List.mem_of_getElem? (i := 1257) (by decide +kernel)⟩
theorem lw_p84 : lw_okq (⟨"IronStairsModel", "windowsOf", "(I)I"⟩, 21) := ⟨⟨by decide +kernel, by decide +kernel⟩, List.mem_of_getElem? (i := 849) (by decide +kernel), List.mem_of_getElem? (i := 1264) (by decide +kernel), List.mem_of_getElem? (i := 1265) (by decide +kernel)⟩
theorem lw_p85 : lw_okq (⟨"IronStairsModel", "rests", "(II)Z"⟩, 21) := ⟨⟨by decide +kernel, by decide +kernel⟩, List.mem_of_getElem? (i := 849) (by decide +kernel), List.mem_of_getElem? (i := 1279) (by decide +kernel), List.mem_of_getElem? (i := 1280) (by decide +kernel)⟩
theorem lw_p86 : lw_okq (⟨"IronStairsModel", "getsBy", "(IIZ)I"⟩, 21) := ⟨⟨by decide +kernel, by decide +kernel⟩, List.mem_of_getElem? (i := 849) (by decide +kernel), List.mem_of_getElem? (i := 1283) (by decide +kernel), List.mem_of_getElem? (i := 1284) (by decide +kernel)⟩
theorem lw_p87 : lw_okq (⟨"IronStairsModel", "countOf", "(I)I"⟩, 21) := ⟨⟨by decide +kernel, by decide +kernel⟩, List.mem_of_getElem? (i := 849) (by decide +kernel), List.mem_of_getElem? (i := 1323) (by decide +kernel), List.mem_of_getElem? (i := 1324) (by decide +kernel)⟩
theorem lw_p88 : lw_okq (⟨"IronStairsModel", "thereOnes", "()I"⟩, 21) := ⟨⟨by decide +kernel, by decide +kernel⟩, List.mem_of_getElem? (i := 849) (by decide +kernel), List.mem_of_getElem? (i := 1327) (by decide +kernel), List.mem_of_getElem? (i := 1328) (by decide +kernel)⟩
theorem lw_p89 : lw_okq (⟨"IronStairsModel", "mix", "(J)V"⟩, 21) := ⟨⟨by decide +kernel, by decide +kernel⟩, List.mem_of_getElem? (i := 849) (by decide +kernel), List.mem_of_getElem? (i := 1336) (by decide +kernel), List.mem_of_getElem? (i := 1337) (by decide +kernel)⟩
def lw_privs_6 : List (MethodName × Nat) := [(⟨"IronStairsModel", "lostOnes", "(I)I"⟩, 21), (⟨"IronStairsModel", "bestDoors", "()I"⟩, 21), (⟨"IronStairsModel", "kindsOf", "(I)I"⟩, 21), (⟨"IronStairsModel", "greatest", "(I)I"⟩, 21), (⟨"IronStairsModel", "windowsOf", "(I)I"⟩, 21), (⟨"IronStairsModel", "rests", "(II)Z"⟩, 21), (⟨"IronStairsModel", "getsBy", "(IIZ)I"⟩, 21), (⟨"IronStairsModel", "countOf", "(I)I"⟩, 21), (⟨"IronStairsModel", "thereOnes", "()I"⟩, 21), (⟨"IronStairsModel", "mix", "(J)V"⟩, 21)]
theorem lw_r6 : ∀ q ∈ lw_privs_6, lw_okq q := List.forall_mem_cons.mpr ⟨lw_p80, List.forall_mem_cons.mpr ⟨lw_p81, List.forall_mem_cons.mpr ⟨lw_p82, List.forall_mem_cons.mpr ⟨lw_p83, List.forall_mem_cons.mpr ⟨lw_p84, List.forall_mem_cons.mpr ⟨lw_p85, List.forall_mem_cons.mpr ⟨lw_p86, List.forall_mem_cons.mpr ⟨lw_p87, List.forall_mem_cons.mpr ⟨lw_p88, List.forall_mem_cons.mpr ⟨lw_p89, fun _ h => absurd h List.not_mem_nil⟩⟩⟩⟩⟩⟩⟩⟩⟩⟩
def lw_privs : List (MethodName × Nat) := lw_privs_1 ++ (lw_privs_2 ++ (lw_privs_3 ++ (lw_privs_4 ++ (lw_privs_5 ++ (lw_privs_6)))))
def lw_tbl : List Cond := k2_sels lw_privs ++ tables_1
theorem lw_privs_ok : ∀ q ∈ lw_privs, lw_okq q := by
  show ∀ q ∈ lw_privs_1 ++ (lw_privs_2 ++ (lw_privs_3 ++ (lw_privs_4 ++ (lw_privs_5 ++ (lw_privs_6))))), lw_okq q
  exact List.forall_mem_append.mpr ⟨lw_r1, List.forall_mem_append.mpr ⟨lw_r2, List.forall_mem_append.mpr ⟨lw_r3, List.forall_mem_append.mpr ⟨lw_r4, List.forall_mem_append.mpr ⟨lw_r5, lw_r6⟩⟩⟩⟩⟩
-- ===== end of PART A =====
def RX0 : String := "IronStairs$Back"
def TX0 : u_T := fun k => match k with
  | 0 => ("IronStairs$Back", "ladders", "LIronStairs$Rows;", true)
  | 1 => ("IronStairs$Back", "goers", "LIronStairs$Rows;", true)
  | 2 => ("IronStairs$Back", "windows", "LIronStairs$Rows;", true)
  | 3 => ("IronStairs$Back", "sounds", "LIronStairs$Rows;", true)
  | 4 => ("IronStairs$Back", "notes", "LIronStairs$Rows;", true)
  | 5 => ("IronStairs$Back", "marks", "LIronStairs$Rows;", true)
  | 6 => ("IronStairs$Back", "past", "LIronStairs$Rows;", true)
  | 7 => ("IronStairs$Back", "ways", "LIronStairs$Ways;", true)
  | _ => ("IronStairs$Back", "minute", "I", false)
def tyX0 : Nat → FieldType := fun k => match k with
  | 0 => .object "IronStairs$Rows"
  | 1 => .object "IronStairs$Rows"
  | 2 => .object "IronStairs$Rows"
  | 3 => .object "IronStairs$Rows"
  | 4 => .object "IronStairs$Rows"
  | 5 => .object "IronStairs$Rows"
  | 6 => .object "IronStairs$Rows"
  | 7 => .object "IronStairs$Ways"
  | _ => .int
theorem nmX0 : ∀ a, a < 9 → ∀ b, b < 9 → a ≠ b → (TX0 a).2.1 ≠ (TX0 b).2.1 := by decide +kernel
theorem tyX0_ok : ∀ k, k < 9 → parseFieldDescriptor (TX0 k).2.2.1 = some (tyX0 k) := by decide +kernel
abbrev cX0_init : ByteArray := prog_2_method_1_code
def yX0_init : MethodName := ⟨RX0, "<init>", "()V"⟩
abbrev cX0_reset : ByteArray := prog_2_method_2_code
def yX0_reset : MethodName := ⟨RX0, "reset", "()V"⟩
abbrev cX0_take : ByteArray := prog_2_method_3_code
def yX0_take : MethodName := ⟨RX0, "take", "(LIronStairs$Back;)V"⟩
abbrev cX0_hasLadder : ByteArray := prog_2_method_4_code
def yX0_hasLadder : MethodName := ⟨RX0, "hasLadder", "(I)Z"⟩
abbrev cX0_addLadder : ByteArray := prog_2_method_5_code
def yX0_addLadder : MethodName := ⟨RX0, "addLadder", "(I)I"⟩
abbrev cX0_addGoer : ByteArray := prog_2_method_6_code
def yX0_addGoer : MethodName := ⟨RX0, "addGoer", "(III)I"⟩
abbrev cX0_addWindow : ByteArray := prog_2_method_7_code
def yX0_addWindow : MethodName := ⟨RX0, "addWindow", "(II)I"⟩
abbrev cX0_turnGoer : ByteArray := prog_2_method_8_code
def yX0_turnGoer : MethodName := ⟨RX0, "turnGoer", "(I)I"⟩
abbrev cX0_drawLadder : ByteArray := prog_2_method_9_code
def yX0_drawLadder : MethodName := ⟨RX0, "drawLadder", "(I)I"⟩
abbrev cX0_remember : ByteArray := prog_2_method_10_code
def yX0_remember : MethodName := ⟨RX0, "remember", "()V"⟩
abbrev cX0_recall : ByteArray := prog_2_method_11_code
def yX0_recall : MethodName := ⟨RX0, "recall", "()V"⟩
abbrev cX0_pass : ByteArray := prog_2_method_12_code
def yX0_pass : MethodName := ⟨RX0, "pass", "(I)I"⟩
abbrev cX0_trace : ByteArray := prog_2_method_13_code
def yX0_trace : MethodName := ⟨RX0, "trace", "(ILIronStairs$Row;)V"⟩
abbrev cX0_arrived : ByteArray := prog_2_method_14_code
def yX0_arrived : MethodName := ⟨RX0, "arrived", "()I"⟩
abbrev cX0_nextOf : ByteArray := prog_2_method_15_code
def yX0_nextOf : MethodName := ⟨RX0, "nextOf", "(I)I"⟩
abbrev cX0_loudOf : ByteArray := prog_2_method_16_code
def yX0_loudOf : MethodName := ⟨RX0, "loudOf", "(I)I"⟩
abbrev cX0_heardAt : ByteArray := prog_2_method_17_code
def yX0_heardAt : MethodName := ⟨RX0, "heardAt", "(I)I"⟩
abbrev cX0_heardInAll : ByteArray := prog_2_method_18_code
def yX0_heardInAll : MethodName := ⟨RX0, "heardInAll", "()I"⟩
abbrev cX0_loudStep : ByteArray := prog_2_method_19_code
def yX0_loudStep : MethodName := ⟨RX0, "loudStep", "(I)I"⟩
abbrev cX0_hears : ByteArray := prog_2_method_20_code
def yX0_hears : MethodName := ⟨RX0, "hears", "(III)Z"⟩
abbrev cX0_stepsBetween : ByteArray := prog_2_method_21_code
def yX0_stepsBetween : MethodName := ⟨RX0, "stepsBetween", "(II)I"⟩
abbrev cX0_stepsToGround : ByteArray := prog_2_method_22_code
def yX0_stepsToGround : MethodName := ⟨RX0, "stepsToGround", "(I)I"⟩
abbrev cX0_laddersDownOn : ByteArray := prog_2_method_23_code
def yX0_laddersDownOn : MethodName := ⟨RX0, "laddersDownOn", "(II)I"⟩
abbrev cX0_goalOf : ByteArray := prog_2_method_24_code
def yX0_goalOf : MethodName := ⟨RX0, "goalOf", "(I)I"⟩
abbrev cX0_layWays : ByteArray := prog_2_method_25_code
def yX0_layWays : MethodName := ⟨RX0, "layWays", "()V"⟩
def RX1 : String := "IronStairs$Reader"
def TX1 : u_T := fun k => match k with
  | 0 => ("IronStairs$Reader", "bytes", "LIronStairs$Row;", true)
  | 1 => ("IronStairs$Reader", "length", "I", false)
  | 2 => ("IronStairs$Reader", "place", "I", false)
  | 3 => ("IronStairs$Reader", "start", "I", false)
  | 4 => ("IronStairs$Reader", "token", "I", false)
  | _ => ("IronStairs$Reader", "value", "I", false)
def tyX1 : Nat → FieldType := fun k => match k with
  | 0 => .object "IronStairs$Row"
  | 1 => .int
  | 2 => .int
  | 3 => .int
  | 4 => .int
  | _ => .int
theorem nmX1 : ∀ a, a < 6 → ∀ b, b < 6 → a ≠ b → (TX1 a).2.1 ≠ (TX1 b).2.1 := by decide +kernel
theorem tyX1_ok : ∀ k, k < 6 → parseFieldDescriptor (TX1 k).2.2.1 = some (tyX1 k) := by decide +kernel
abbrev cX1_init : ByteArray := prog_3_method_1_code
def yX1_init : MethodName := ⟨RX1, "<init>", "()V"⟩
abbrev cX1_length : ByteArray := prog_3_method_2_code
def yX1_length : MethodName := ⟨RX1, "length", "()I"⟩
abbrev cX1_isFull : ByteArray := prog_3_method_3_code
def yX1_isFull : MethodName := ⟨RX1, "isFull", "()Z"⟩
abbrev cX1_add : ByteArray := prog_3_method_4_code
def yX1_add : MethodName := ⟨RX1, "add", "(I)I"⟩
abbrev cX1_empty : ByteArray := prog_3_method_5_code
def yX1_empty : MethodName := ⟨RX1, "empty", "()I"⟩
abbrev cX1_readInto : ByteArray := prog_3_method_6_code
def yX1_readInto : MethodName := ⟨RX1, "readInto", "(LIronStairs$Back;)I"⟩
abbrev cX1_readItem : ByteArray := prog_3_method_7_code
def yX1_readItem : MethodName := ⟨RX1, "readItem", "(LIronStairs$Back;)Z"⟩
abbrev cX1_readLadder : ByteArray := prog_3_method_8_code
def yX1_readLadder : MethodName := ⟨RX1, "readLadder", "(LIronStairs$Back;)Z"⟩
abbrev cX1_readGoer : ByteArray := prog_3_method_9_code
def yX1_readGoer : MethodName := ⟨RX1, "readGoer", "(LIronStairs$Back;)Z"⟩
abbrev cX1_readWindow : ByteArray := prog_3_method_10_code
def yX1_readWindow : MethodName := ⟨RX1, "readWindow", "(LIronStairs$Back;)Z"⟩
abbrev cX1_readTurn : ByteArray := prog_3_method_11_code
def yX1_readTurn : MethodName := ⟨RX1, "readTurn", "(LIronStairs$Back;)Z"⟩
abbrev cX1_readDraw : ByteArray := prog_3_method_12_code
def yX1_readDraw : MethodName := ⟨RX1, "readDraw", "(LIronStairs$Back;)Z"⟩
abbrev cX1_readMinutes : ByteArray := prog_3_method_13_code
def yX1_readMinutes : MethodName := ⟨RX1, "readMinutes", "(LIronStairs$Back;)Z"⟩
abbrev cX1_nextIsStop : ByteArray := prog_3_method_14_code
def yX1_nextIsStop : MethodName := ⟨RX1, "nextIsStop", "()Z"⟩
abbrev cX1_nextIsNumber : ByteArray := prog_3_method_15_code
def yX1_nextIsNumber : MethodName := ⟨RX1, "nextIsNumber", "(II)Z"⟩
abbrev cX1_isWord : ByteArray := prog_3_method_16_code
def yX1_isWord : MethodName := ⟨RX1, "isWord", "(Ljava/lang/String;)Z"⟩
abbrev cX1_nextToken : ByteArray := prog_3_method_17_code
def yX1_nextToken : MethodName := ⟨RX1, "nextToken", "()V"⟩
abbrev cX1_tokenBegunBy : ByteArray := prog_3_method_18_code
def yX1_tokenBegunBy : MethodName := ⟨RX1, "tokenBegunBy", "(I)I"⟩
def RX2 : String := "IronStairs$Row"
def TX2 : u_T := fun k => match k with
  | _ => ("IronStairs$Row", "cells", "[I", true)
def tyX2 : Nat → FieldType := fun k => match k with
  | _ => .array .int
theorem nmX2 : ∀ a, a < 1 → ∀ b, b < 1 → a ≠ b → (TX2 a).2.1 ≠ (TX2 b).2.1 := by decide +kernel
theorem tyX2_ok : ∀ k, k < 1 → parseFieldDescriptor (TX2 k).2.2.1 = some (tyX2 k) := by decide +kernel
abbrev cX2_init : ByteArray := prog_4_method_1_code
def yX2_init : MethodName := ⟨RX2, "<init>", "(I)V"⟩
abbrev cX2_get : ByteArray := prog_4_method_2_code
def yX2_get : MethodName := ⟨RX2, "get", "(I)I"⟩
abbrev cX2_set : ByteArray := prog_4_method_3_code
def yX2_set : MethodName := ⟨RX2, "set", "(II)V"⟩
abbrev cX2_take : ByteArray := prog_4_method_4_code
def yX2_take : MethodName := ⟨RX2, "take", "(LIronStairs$Row;)V"⟩
def RX3 : String := "IronStairs$Rows"
def TX3 : u_T := fun k => match k with
  | 0 => ("IronStairs$Rows", "limit", "I", true)
  | 1 => ("IronStairs$Rows", "width", "I", true)
  | 2 => ("IronStairs$Rows", "cells", "LIronStairs$Row;", true)
  | _ => ("IronStairs$Rows", "size", "I", false)
def tyX3 : Nat → FieldType := fun k => match k with
  | 0 => .int
  | 1 => .int
  | 2 => .object "IronStairs$Row"
  | _ => .int
theorem nmX3 : ∀ a, a < 4 → ∀ b, b < 4 → a ≠ b → (TX3 a).2.1 ≠ (TX3 b).2.1 := by decide +kernel
theorem tyX3_ok : ∀ k, k < 4 → parseFieldDescriptor (TX3 k).2.2.1 = some (tyX3 k) := by decide +kernel
abbrev cX3_init : ByteArray := prog_5_method_1_code
def yX3_init : MethodName := ⟨RX3, "<init>", "(II)V"⟩
abbrev cX3_size : ByteArray := prog_5_method_2_code
def yX3_size : MethodName := ⟨RX3, "size", "()I"⟩
abbrev cX3_isFull : ByteArray := prog_5_method_3_code
def yX3_isFull : MethodName := ⟨RX3, "isFull", "()Z"⟩
abbrev cX3_has : ByteArray := prog_5_method_4_code
def yX3_has : MethodName := ⟨RX3, "has", "(I)Z"⟩
abbrev cX3_get : ByteArray := prog_5_method_5_code
def yX3_get : MethodName := ⟨RX3, "get", "(II)I"⟩
abbrev cX3_set : ByteArray := prog_5_method_6_code
def yX3_set : MethodName := ⟨RX3, "set", "(III)V"⟩
abbrev cX3_add : ByteArray := prog_5_method_7_code
def yX3_add : MethodName := ⟨RX3, "add", "(IIII)I"⟩
abbrev cX3_dropFirst : ByteArray := prog_5_method_8_code
def yX3_dropFirst : MethodName := ⟨RX3, "dropFirst", "()V"⟩
abbrev cX3_dropLast : ByteArray := prog_5_method_9_code
def yX3_dropLast : MethodName := ⟨RX3, "dropLast", "()V"⟩
abbrev cX3_empty : ByteArray := prog_5_method_10_code
def yX3_empty : MethodName := ⟨RX3, "empty", "()I"⟩
abbrev cX3_take : ByteArray := prog_5_method_11_code
def yX3_take : MethodName := ⟨RX3, "take", "(LIronStairs$Rows;)V"⟩
abbrev cX3_mixInto : ByteArray := prog_5_method_12_code
def yX3_mixInto : MethodName := ⟨RX3, "mixInto", "(J)J"⟩
def RX4 : String := "IronStairs$Ways"
def TX4 : u_T := fun k => match k with
  | 0 => ("IronStairs$Ways", "steps", "LIronStairs$Row;", true)
  | 1 => ("IronStairs$Ways", "queue", "LIronStairs$Row;", true)
  | 2 => ("IronStairs$Ways", "known", "I", false)
  | _ => ("IronStairs$Ways", "open", "I", false)
def tyX4 : Nat → FieldType := fun k => match k with
  | 0 => .object "IronStairs$Row"
  | 1 => .object "IronStairs$Row"
  | 2 => .int
  | _ => .int
theorem nmX4 : ∀ a, a < 4 → ∀ b, b < 4 → a ≠ b → (TX4 a).2.1 ≠ (TX4 b).2.1 := by decide +kernel
theorem tyX4_ok : ∀ k, k < 4 → parseFieldDescriptor (TX4 k).2.2.1 = some (tyX4 k) := by decide +kernel
abbrev cX4_init : ByteArray := prog_6_method_1_code
def yX4_init : MethodName := ⟨RX4, "<init>", "()V"⟩
abbrev cX4_lay : ByteArray := prog_6_method_2_code
def yX4_lay : MethodName := ⟨RX4, "lay", "(I)V"⟩
abbrev cX4_between : ByteArray := prog_6_method_3_code
def yX4_between : MethodName := ⟨RX4, "between", "(II)I"⟩
abbrev cX4_next : ByteArray := prog_6_method_4_code
def yX4_next : MethodName := ⟨RX4, "next", "(II)I"⟩
abbrev cX4_spread : ByteArray := prog_6_method_5_code
def yX4_spread : MethodName := ⟨RX4, "spread", "(I)V"⟩
abbrev cX4_beside : ByteArray := prog_6_method_6_code
def yX4_beside : MethodName := ⟨RX4, "beside", "(II)I"⟩
def RX5 : String := "IronStairs"
def TX5 : u_T := fun k => match k with
  | 0 => ("IronStairs", "now", "LIronStairs$Back;", true)
  | 1 => ("IronStairs", "spare", "LIronStairs$Back;", true)
  | 2 => ("IronStairs", "image0", "LIronStairs$Back;", true)
  | 3 => ("IronStairs", "image1", "LIronStairs$Back;", true)
  | 4 => ("IronStairs", "kept0", "Z", false)
  | 5 => ("IronStairs", "kept1", "Z", false)
  | 6 => ("IronStairs", "reader", "LIronStairs$Reader;", true)
  | 7 => ("IronStairs", "refused", "LIronStairs$Row;", true)
  | 8 => ("IronStairs", "above", "J", false)
  | 9 => ("IronStairs", "below", "J", false)
  | 10 => ("IronStairs", "pathA", "LIronStairs$Row;", true)
  | 11 => ("IronStairs", "pathB", "LIronStairs$Row;", true)
  | 12 => ("IronStairs", "met", "LIronStairs$Row;", true)
  | 13 => ("IronStairs", "toHomes", "LIronStairs$Row;", true)
  | _ => ("IronStairs", "least", "LIronStairs$Row;", true)
def tyX5 : Nat → FieldType := fun k => match k with
  | 0 => .object "IronStairs$Back"
  | 1 => .object "IronStairs$Back"
  | 2 => .object "IronStairs$Back"
  | 3 => .object "IronStairs$Back"
  | 4 => .boolean
  | 5 => .boolean
  | 6 => .object "IronStairs$Reader"
  | 7 => .object "IronStairs$Row"
  | 8 => .long
  | 9 => .long
  | 10 => .object "IronStairs$Row"
  | 11 => .object "IronStairs$Row"
  | 12 => .object "IronStairs$Row"
  | 13 => .object "IronStairs$Row"
  | _ => .object "IronStairs$Row"
theorem nmX5 : ∀ a, a < 15 → ∀ b, b < 15 → a ≠ b → (TX5 a).2.1 ≠ (TX5 b).2.1 := by decide +kernel
theorem tyX5_ok : ∀ k, k < 15 → parseFieldDescriptor (TX5 k).2.2.1 = some (tyX5 k) := by decide +kernel
abbrev cX5_init : ByteArray := prog_1_method_1_code
def yX5_init : MethodName := ⟨RX5, "<init>", "()V"⟩
abbrev cX5_back : ByteArray := prog_1_method_2_code
def yX5_back : MethodName := ⟨RX5, "back", "()I"⟩
abbrev cX5_ladder : ByteArray := prog_1_method_3_code
def yX5_ladder : MethodName := ⟨RX5, "ladder", "(I)I"⟩
abbrev cX5_goer : ByteArray := prog_1_method_4_code
def yX5_goer : MethodName := ⟨RX5, "goer", "(III)I"⟩
abbrev cX5_window : ByteArray := prog_1_method_5_code
def yX5_window : MethodName := ⟨RX5, "window", "(II)I"⟩
abbrev cX5_type : ByteArray := prog_1_method_6_code
def yX5_type : MethodName := ⟨RX5, "type", "(I)I"⟩
abbrev cX5_clear : ByteArray := prog_1_method_7_code
def yX5_clear : MethodName := ⟨RX5, "clear", "()I"⟩
abbrev cX5_read : ByteArray := prog_1_method_8_code
def yX5_read : MethodName := ⟨RX5, "read", "()I"⟩
abbrev cX5_minutes : ByteArray := prog_1_method_9_code
def yX5_minutes : MethodName := ⟨RX5, "minutes", "(I)I"⟩
abbrev cX5_turns : ByteArray := prog_1_method_10_code
def yX5_turns : MethodName := ⟨RX5, "turns", "(I)I"⟩
abbrev cX5_draws : ByteArray := prog_1_method_11_code
def yX5_draws : MethodName := ⟨RX5, "draws", "(I)I"⟩
abbrev cX5_undo : ByteArray := prog_1_method_12_code
def yX5_undo : MethodName := ⟨RX5, "undo", "()I"⟩
abbrev cX5_of : ByteArray := prog_1_method_13_code
def yX5_of : MethodName := ⟨RX5, "of", "(II)I"⟩
abbrev cX5_about : ByteArray := prog_1_method_14_code
def yX5_about : MethodName := ⟨RX5, "about", "(II)I"⟩
abbrev cX5_rungs : ByteArray := prog_1_method_15_code
def yX5_rungs : MethodName := ⟨RX5, "rungs", "(II)I"⟩
abbrev cX5_far : ByteArray := prog_1_method_16_code
def yX5_far : MethodName := ⟨RX5, "far", "(II)I"⟩
abbrev cX5_where : ByteArray := prog_1_method_17_code
def yX5_where : MethodName := ⟨RX5, "where", "(II)I"⟩
abbrev cX5_meet : ByteArray := prog_1_method_18_code
def yX5_meet : MethodName := ⟨RX5, "meet", "(II)I"⟩
abbrev cX5_waits : ByteArray := prog_1_method_19_code
def yX5_waits : MethodName := ⟨RX5, "waits", "(III)I"⟩
abbrev cX5_down : ByteArray := prog_1_method_20_code
def yX5_down : MethodName := ⟨RX5, "down", "(I)I"⟩
abbrev cX5_cut : ByteArray := prog_1_method_21_code
def yX5_cut : MethodName := ⟨RX5, "cut", "(I)I"⟩
abbrev cX5_doors : ByteArray := prog_1_method_22_code
def yX5_doors : MethodName := ⟨RX5, "doors", "(I)I"⟩
abbrev cX5_sound : ByteArray := prog_1_method_23_code
def yX5_sound : MethodName := ⟨RX5, "sound", "(III)I"⟩
abbrev cX5_who : ByteArray := prog_1_method_24_code
def yX5_who : MethodName := ⟨RX5, "who", "()I"⟩
abbrev cX5_note : ByteArray := prog_1_method_25_code
def yX5_note : MethodName := ⟨RX5, "note", "(IIII)I"⟩
abbrev cX5_mark : ByteArray := prog_1_method_26_code
def yX5_mark : MethodName := ⟨RX5, "mark", "(IIII)I"⟩
abbrev cX5_forget : ByteArray := prog_1_method_27_code
def yX5_forget : MethodName := ⟨RX5, "forget", "(I)I"⟩
abbrev cX5_is : ByteArray := prog_1_method_28_code
def yX5_is : MethodName := ⟨RX5, "is", "(I)I"⟩
abbrev cX5_look : ByteArray := prog_1_method_29_code
def yX5_look : MethodName := ⟨RX5, "look", "(I)I"⟩
abbrev cX5_kinds : ByteArray := prog_1_method_30_code
def yX5_kinds : MethodName := ⟨RX5, "kinds", "(I)I"⟩
abbrev cX5_ask : ByteArray := prog_1_method_31_code
def yX5_ask : MethodName := ⟨RX5, "ask", "(I)I"⟩
abbrev cX5_shy : ByteArray := prog_1_method_32_code
def yX5_shy : MethodName := ⟨RX5, "shy", "(III)I"⟩
abbrev cX5_odds : ByteArray := prog_1_method_33_code
def yX5_odds : MethodName := ⟨RX5, "odds", "(III)I"⟩
abbrev cX5_nights : ByteArray := prog_1_method_34_code
def yX5_nights : MethodName := ⟨RX5, "nights", "(II)I"⟩
abbrev cX5_part : ByteArray := prog_1_method_35_code
def yX5_part : MethodName := ⟨RX5, "part", "(I)J"⟩
abbrev cX5_image : ByteArray := prog_1_method_36_code
def yX5_image : MethodName := ⟨RX5, "image", "(I)I"⟩
abbrev cX5_from : ByteArray := prog_1_method_37_code
def yX5_from : MethodName := ⟨RX5, "from", "(I)I"⟩
abbrev cX5_status : ByteArray := prog_1_method_38_code
def yX5_status : MethodName := ⟨RX5, "status", "(I)I"⟩
abbrev cX5_count : ByteArray := prog_1_method_39_code
def yX5_count : MethodName := ⟨RX5, "count", "(I)I"⟩
abbrev cX5_digest : ByteArray := prog_1_method_40_code
def yX5_digest : MethodName := ⟨RX5, "digest", "()J"⟩
abbrev cX5_bad : ByteArray := prog_1_method_41_code
def yX5_bad : MethodName := ⟨RX5, "bad", "()I"⟩
abbrev cX5_badAs : ByteArray := prog_1_method_42_code
def yX5_badAs : MethodName := ⟨RX5, "badAs", "(I)I"⟩
abbrev cX5_no : ByteArray := prog_1_method_43_code
def yX5_no : MethodName := ⟨RX5, "no", "()I"⟩
abbrev cX5_full : ByteArray := prog_1_method_44_code
def yX5_full : MethodName := ⟨RX5, "full", "()I"⟩
abbrev cX5_within : ByteArray := prog_1_method_45_code
def yX5_within : MethodName := ⟨RX5, "within", "(III)Z"⟩
abbrev cX5_isCell : ByteArray := prog_1_method_46_code
def yX5_isCell : MethodName := ⟨RX5, "isCell", "(I)Z"⟩
abbrev cX5_areTwoGoers : ByteArray := prog_1_method_47_code
def yX5_areTwoGoers : MethodName := ⟨RX5, "areTwoGoers", "(II)Z"⟩
abbrev cX5_howMany : ByteArray := prog_1_method_48_code
def yX5_howMany : MethodName := ⟨RX5, "howMany", "(I)I"⟩
abbrev cX5_firstMeeting : ByteArray := prog_1_method_49_code
def yX5_firstMeeting : MethodName := ⟨RX5, "firstMeeting", "(III)I"⟩
abbrev cX5_goersCutOff : ByteArray := prog_1_method_50_code
def yX5_goersCutOff : MethodName := ⟨RX5, "goersCutOff", "(I)I"⟩
abbrev cX5_climbsDown : ByteArray := prog_1_method_51_code
def yX5_climbsDown : MethodName := ⟨RX5, "climbsDown", "(II)Z"⟩
abbrev cX5_fillToHomes : ByteArray := prog_1_method_52_code
def yX5_fillToHomes : MethodName := ⟨RX5, "fillToHomes", "()V"⟩
abbrev cX5_fillLeast : ByteArray := prog_1_method_53_code
def yX5_fillLeast : MethodName := ⟨RX5, "fillLeast", "()V"⟩
abbrev cX5_leastBehind : ByteArray := prog_1_method_54_code
def yX5_leastBehind : MethodName := ⟨RX5, "leastBehind", "(I)I"⟩
abbrev cX5_wayThrough : ByteArray := prog_1_method_55_code
def yX5_wayThrough : MethodName := ⟨RX5, "wayThrough", "(III)I"⟩
abbrev cX5_homeChosenBy : ByteArray := prog_1_method_56_code
def yX5_homeChosenBy : MethodName := ⟨RX5, "homeChosenBy", "(I)I"⟩
abbrev cX5_firstHome : ByteArray := prog_1_method_57_code
def yX5_firstHome : MethodName := ⟨RX5, "firstHome", "(II)I"⟩
abbrev cX5_fitsSounds : ByteArray := prog_1_method_58_code
def yX5_fitsSounds : MethodName := ⟨RX5, "fitsSounds", "(I)Z"⟩
abbrev cX5_goerKinds : ByteArray := prog_1_method_59_code
def yX5_goerKinds : MethodName := ⟨RX5, "goerKinds", "(I)I"⟩
abbrev cX5_fitsNotes : ByteArray := prog_1_method_60_code
def yX5_fitsNotes : MethodName := ⟨RX5, "fitsNotes", "(II)Z"⟩
abbrev cX5_mostAlike : ByteArray := prog_1_method_61_code
def yX5_mostAlike : MethodName := ⟨RX5, "mostAlike", "(III)I"⟩
abbrev cX5_windowKinds : ByteArray := prog_1_method_62_code
def yX5_windowKinds : MethodName := ⟨RX5, "windowKinds", "(I)I"⟩
abbrev cX5_fitsMarks : ByteArray := prog_1_method_63_code
def yX5_fitsMarks : MethodName := ⟨RX5, "fitsMarks", "(II)Z"⟩
abbrev cX5_greaterPart : ByteArray := prog_1_method_64_code
def yX5_greaterPart : MethodName := ⟨RX5, "greaterPart", "(III)I"⟩
abbrev cX5_fillMet : ByteArray := prog_1_method_65_code
def yX5_fillMet : MethodName := ⟨RX5, "fillMet", "(II)V"⟩
abbrev cX5_gainOfA : ByteArray := prog_1_method_66_code
def yX5_gainOfA : MethodName := ⟨RX5, "gainOfA", "(II)I"⟩
abbrev cX5_gainOfB : ByteArray := prog_1_method_67_code
def yX5_gainOfB : MethodName := ⟨RX5, "gainOfB", "(II)I"⟩
abbrev cX5_rests : ByteArray := prog_1_method_68_code
def yX5_rests : MethodName := ⟨RX5, "rests", "(II)Z"⟩
abbrev cX5_power : ByteArray := prog_1_method_69_code
def yX5_power : MethodName := ⟨RX5, "power", "(JI)J"⟩
abbrev cX5_commonDivisor : ByteArray := prog_1_method_70_code
def yX5_commonDivisor : MethodName := ⟨RX5, "commonDivisor", "(JJ)J"⟩
abbrev cX5_floorOf : ByteArray := prog_1_method_71_code
def yX5_floorOf : MethodName := ⟨RX5, "floorOf", "(I)I"⟩
abbrev cX5_apart : ByteArray := prog_1_method_72_code
def yX5_apart : MethodName := ⟨RX5, "apart", "(II)I"⟩
abbrev cX5_loudness : ByteArray := prog_1_method_73_code
def yX5_loudness : MethodName := ⟨RX5, "loudness", "(III)I"⟩
abbrev cX5_slipper : ByteArray := prog_1_method_74_code
def yX5_slipper : MethodName := ⟨RX5, "slipper", "(I)I"⟩
abbrev cX5_boot : ByteArray := prog_1_method_75_code
def yX5_boot : MethodName := ⟨RX5, "boot", "(I)I"⟩
abbrev cX5_hearing : ByteArray := prog_1_method_76_code
def yX5_hearing : MethodName := ⟨RX5, "hearing", "(III)I"⟩
abbrev cX5_light : ByteArray := prog_1_method_77_code
def yX5_light : MethodName := ⟨RX5, "light", "(II)I"⟩
abbrev cX5_deaf : ByteArray := prog_1_method_78_code
def yX5_deaf : MethodName := ⟨RX5, "deaf", "(II)I"⟩
def RX6 : String := "IronStairsModel"
def TX6 : u_T := fun k => match k with
  | 0 => ("IronStairsModel", "w", "[I", true)
  | 1 => ("IronStairsModel", "isKept", "[Z", true)
  | 2 => ("IronStairsModel", "text", "[I", true)
  | 3 => ("IronStairsModel", "texted", "I", false)
  | 4 => ("IronStairsModel", "above", "J", false)
  | 5 => ("IronStairsModel", "below", "J", false)
  | 6 => ("IronStairsModel", "statuses", "[I", true)
  | 7 => ("IronStairsModel", "at", "I", false)
  | 8 => ("IronStairsModel", "start", "I", false)
  | 9 => ("IronStairsModel", "number", "I", false)
  | 10 => ("IronStairsModel", "away", "[I", true)
  | 11 => ("IronStairsModel", "queue", "[I", true)
  | 12 => ("IronStairsModel", "nexts", "[I", true)
  | 13 => ("IronStairsModel", "one", "[I", true)
  | 14 => ("IronStairsModel", "two", "[I", true)
  | 15 => ("IronStairsModel", "most", "I", false)
  | 16 => ("IronStairsModel", "homes", "[I", true)
  | 17 => ("IronStairsModel", "door", "[I", true)
  | 18 => ("IronStairsModel", "bestDoor", "[I", true)
  | 19 => ("IronStairsModel", "sixOf", "[I", true)
  | _ => ("IronStairsModel", "h", "J", false)
def tyX6 : Nat → FieldType := fun k => match k with
  | 0 => .array .int
  | 1 => .array .boolean
  | 2 => .array .int
  | 3 => .int
  | 4 => .long
  | 5 => .long
  | 6 => .array .int
  | 7 => .int
  | 8 => .int
  | 9 => .int
  | 10 => .array .int
  | 11 => .array .int
  | 12 => .array .int
  | 13 => .array .int
  | 14 => .array .int
  | 15 => .int
  | 16 => .array .int
  | 17 => .array .int
  | 18 => .array .int
  | 19 => .array .int
  | _ => .long
theorem nmX6 : ∀ a, a < 21 → ∀ b, b < 21 → a ≠ b → (TX6 a).2.1 ≠ (TX6 b).2.1 := by decide +kernel
theorem tyX6_ok : ∀ k, k < 21 → parseFieldDescriptor (TX6 k).2.2.1 = some (tyX6 k) := by decide +kernel
abbrev cX6_init : ByteArray := prog_8_method_1_code
def yX6_init : MethodName := ⟨RX6, "<init>", "()V"⟩
abbrev cX6_in : ByteArray := prog_8_method_3_code
def yX6_in : MethodName := ⟨RX6, "in", "(JJJ)Z"⟩
abbrev cX6_has : ByteArray := prog_8_method_4_code
def yX6_has : MethodName := ⟨RX6, "has", "(II)Z"⟩
abbrev cX6_ones : ByteArray := prog_8_method_5_code
def yX6_ones : MethodName := ⟨RX6, "ones", "(I)I"⟩
abbrev cX6_bad : ByteArray := prog_8_method_6_code
def yX6_bad : MethodName := ⟨RX6, "bad", "(I)I"⟩
abbrev cX6_no : ByteArray := prog_8_method_7_code
def yX6_no : MethodName := ⟨RX6, "no", "()I"⟩
abbrev cX6_full : ByteArray := prog_8_method_8_code
def yX6_full : MethodName := ⟨RX6, "full", "()I"⟩
abbrev cX6_copy : ByteArray := prog_8_method_9_code
def yX6_copy : MethodName := ⟨RX6, "copy", "(II)V"⟩
abbrev cX6_empties : ByteArray := prog_8_method_10_code
def yX6_empties : MethodName := ⟨RX6, "empties", "(I)V"⟩
abbrev cX6_isGoer : ByteArray := prog_8_method_11_code
def yX6_isGoer : MethodName := ⟨RX6, "isGoer", "(I)Z"⟩
abbrev cX6_isWindow : ByteArray := prog_8_method_12_code
def yX6_isWindow : MethodName := ⟨RX6, "isWindow", "(I)Z"⟩
abbrev cX6_isLadder : ByteArray := prog_8_method_13_code
def yX6_isLadder : MethodName := ⟨RX6, "isLadder", "(I)Z"⟩
abbrev cX6_isCell : ByteArray := prog_8_method_14_code
def yX6_isCell : MethodName := ⟨RX6, "isCell", "(I)Z"⟩
abbrev cX6_slipper : ByteArray := prog_8_method_15_code
def yX6_slipper : MethodName := ⟨RX6, "slipper", "(I)I"⟩
abbrev cX6_boot : ByteArray := prog_8_method_16_code
def yX6_boot : MethodName := ⟨RX6, "boot", "(I)I"⟩
abbrev cX6_loudOf : ByteArray := prog_8_method_17_code
def yX6_loudOf : MethodName := ⟨RX6, "loudOf", "(III)I"⟩
abbrev cX6_light : ByteArray := prog_8_method_18_code
def yX6_light : MethodName := ⟨RX6, "light", "(II)I"⟩
abbrev cX6_deaf : ByteArray := prog_8_method_19_code
def yX6_deaf : MethodName := ⟨RX6, "deaf", "(II)I"⟩
abbrev cX6_heardOf : ByteArray := prog_8_method_20_code
def yX6_heardOf : MethodName := ⟨RX6, "heardOf", "(III)I"⟩
abbrev cX6_back : ByteArray := prog_8_method_21_code
def yX6_back : MethodName := ⟨RX6, "back", "()I"⟩
abbrev cX6_hasLadder : ByteArray := prog_8_method_22_code
def yX6_hasLadder : MethodName := ⟨RX6, "hasLadder", "(II)Z"⟩
abbrev cX6_addsLadder : ByteArray := prog_8_method_23_code
def yX6_addsLadder : MethodName := ⟨RX6, "addsLadder", "(II)V"⟩
abbrev cX6_ladder : ByteArray := prog_8_method_24_code
def yX6_ladder : MethodName := ⟨RX6, "ladder", "(I)I"⟩
abbrev cX6_addsGoer : ByteArray := prog_8_method_25_code
def yX6_addsGoer : MethodName := ⟨RX6, "addsGoer", "(IIII)V"⟩
abbrev cX6_goer : ByteArray := prog_8_method_26_code
def yX6_goer : MethodName := ⟨RX6, "goer", "(III)I"⟩
abbrev cX6_addsWindow : ByteArray := prog_8_method_27_code
def yX6_addsWindow : MethodName := ⟨RX6, "addsWindow", "(III)V"⟩
abbrev cX6_window : ByteArray := prog_8_method_28_code
def yX6_window : MethodName := ⟨RX6, "window", "(II)I"⟩
abbrev cX6_type : ByteArray := prog_8_method_29_code
def yX6_type : MethodName := ⟨RX6, "type", "(I)I"⟩
abbrev cX6_clear : ByteArray := prog_8_method_30_code
def yX6_clear : MethodName := ⟨RX6, "clear", "()I"⟩
abbrev cX6_byteAt : ByteArray := prog_8_method_31_code
def yX6_byteAt : MethodName := ⟨RX6, "byteAt", "(I)I"⟩
abbrev cX6_blanks : ByteArray := prog_8_method_32_code
def yX6_blanks : MethodName := ⟨RX6, "blanks", "()V"⟩
abbrev cX6_takesWord : ByteArray := prog_8_method_33_code
def yX6_takesWord : MethodName := ⟨RX6, "takesWord", "()V"⟩
abbrev cX6_isWord : ByteArray := prog_8_method_34_code
def yX6_isWord : MethodName := ⟨RX6, "isWord", "(IIIIIII)Z"⟩
abbrev cX6_isLetter : ByteArray := prog_8_method_35_code
def yX6_isLetter : MethodName := ⟨RX6, "isLetter", "(III)Z"⟩
abbrev cX6_wordOf : ByteArray := prog_8_method_36_code
def yX6_wordOf : MethodName := ⟨RX6, "wordOf", "()I"⟩
abbrev cX6_takesNumber : ByteArray := prog_8_method_37_code
def yX6_takesNumber : MethodName := ⟨RX6, "takesNumber", "(II)Z"⟩
abbrev cX6_takesEnd : ByteArray := prog_8_method_38_code
def yX6_takesEnd : MethodName := ⟨RX6, "takesEnd", "()Z"⟩
abbrev cX6_readsLadder : ByteArray := prog_8_method_39_code
def yX6_readsLadder : MethodName := ⟨RX6, "readsLadder", "()Z"⟩
abbrev cX6_readsGoer : ByteArray := prog_8_method_40_code
def yX6_readsGoer : MethodName := ⟨RX6, "readsGoer", "()Z"⟩
abbrev cX6_readsWindow : ByteArray := prog_8_method_41_code
def yX6_readsWindow : MethodName := ⟨RX6, "readsWindow", "()Z"⟩
abbrev cX6_readsTurn : ByteArray := prog_8_method_42_code
def yX6_readsTurn : MethodName := ⟨RX6, "readsTurn", "()Z"⟩
abbrev cX6_readsDraw : ByteArray := prog_8_method_43_code
def yX6_readsDraw : MethodName := ⟨RX6, "readsDraw", "()Z"⟩
abbrev cX6_readsMinutes : ByteArray := prog_8_method_44_code
def yX6_readsMinutes : MethodName := ⟨RX6, "readsMinutes", "()Z"⟩
abbrev cX6_readsItem : ByteArray := prog_8_method_45_code
def yX6_readsItem : MethodName := ⟨RX6, "readsItem", "(Z)Z"⟩
abbrev cX6_read : ByteArray := prog_8_method_46_code
def yX6_read : MethodName := ⟨RX6, "read", "()I"⟩
abbrev cX6_isLadderDown : ByteArray := prog_8_method_47_code
def yX6_isLadderDown : MethodName := ⟨RX6, "isLadderDown", "(II)Z"⟩
abbrev cX6_leads : ByteArray := prog_8_method_48_code
def yX6_leads : MethodName := ⟨RX6, "leads", "(III)Z"⟩
abbrev cX6_laysAway : ByteArray := prog_8_method_49_code
def yX6_laysAway : MethodName := ⟨RX6, "laysAway", "(II)V"⟩
abbrev cX6_goalOf : ByteArray := prog_8_method_50_code
def yX6_goalOf : MethodName := ⟨RX6, "goalOf", "(II)I"⟩
abbrev cX6_nextOf : ByteArray := prog_8_method_51_code
def yX6_nextOf : MethodName := ⟨RX6, "nextOf", "(II)I"⟩
abbrev cX6_passes : ByteArray := prog_8_method_52_code
def yX6_passes : MethodName := ⟨RX6, "passes", "(I)I"⟩
abbrev cX6_minds : ByteArray := prog_8_method_53_code
def yX6_minds : MethodName := ⟨RX6, "minds", "()V"⟩
abbrev cX6_minutes : ByteArray := prog_8_method_54_code
def yX6_minutes : MethodName := ⟨RX6, "minutes", "(I)I"⟩
abbrev cX6_turns : ByteArray := prog_8_method_55_code
def yX6_turns : MethodName := ⟨RX6, "turns", "(I)I"⟩
abbrev cX6_draws : ByteArray := prog_8_method_56_code
def yX6_draws : MethodName := ⟨RX6, "draws", "(I)I"⟩
abbrev cX6_undo : ByteArray := prog_8_method_57_code
def yX6_undo : MethodName := ⟨RX6, "undo", "()I"⟩
abbrev cX6_loudIn : ByteArray := prog_8_method_58_code
def yX6_loudIn : MethodName := ⟨RX6, "loudIn", "(II)I"⟩
abbrev cX6_of : ByteArray := prog_8_method_59_code
def yX6_of : MethodName := ⟨RX6, "of", "(II)I"⟩
abbrev cX6_size : ByteArray := prog_8_method_60_code
def yX6_size : MethodName := ⟨RX6, "size", "(I)I"⟩
abbrev cX6_apart : ByteArray := prog_8_method_61_code
def yX6_apart : MethodName := ⟨RX6, "apart", "(II)I"⟩
abbrev cX6_hearsIn : ByteArray := prog_8_method_62_code
def yX6_hearsIn : MethodName := ⟨RX6, "hearsIn", "(III)Z"⟩
abbrev cX6_heardBy : ByteArray := prog_8_method_63_code
def yX6_heardBy : MethodName := ⟨RX6, "heardBy", "(II)I"⟩
abbrev cX6_about : ByteArray := prog_8_method_64_code
def yX6_about : MethodName := ⟨RX6, "about", "(II)I"⟩
abbrev cX6_rungs : ByteArray := prog_8_method_65_code
def yX6_rungs : MethodName := ⟨RX6, "rungs", "(II)I"⟩
abbrev cX6_far : ByteArray := prog_8_method_66_code
def yX6_far : MethodName := ⟨RX6, "far", "(II)I"⟩
abbrev cX6_tries : ByteArray := prog_8_method_67_code
def yX6_tries : MethodName := ⟨RX6, "tries", "()V"⟩
abbrev cX6_where : ByteArray := prog_8_method_68_code
def yX6_where : MethodName := ⟨RX6, "where", "(II)I"⟩
abbrev cX6_laysTwo : ByteArray := prog_8_method_69_code
def yX6_laysTwo : MethodName := ⟨RX6, "laysTwo", "(II)V"⟩
abbrev cX6_meetBy : ByteArray := prog_8_method_70_code
def yX6_meetBy : MethodName := ⟨RX6, "meetBy", "(III)I"⟩
abbrev cX6_meet : ByteArray := prog_8_method_71_code
def yX6_meet : MethodName := ⟨RX6, "meet", "(II)I"⟩
abbrev cX6_waits : ByteArray := prog_8_method_72_code
def yX6_waits : MethodName := ⟨RX6, "waits", "(III)I"⟩
abbrev cX6_lostOnes : ByteArray := prog_8_method_73_code
def yX6_lostOnes : MethodName := ⟨RX6, "lostOnes", "(I)I"⟩
abbrev cX6_down : ByteArray := prog_8_method_74_code
def yX6_down : MethodName := ⟨RX6, "down", "(I)I"⟩
abbrev cX6_cut : ByteArray := prog_8_method_75_code
def yX6_cut : MethodName := ⟨RX6, "cut", "(I)I"⟩
abbrev cX6_bestDoors : ByteArray := prog_8_method_76_code
def yX6_bestDoors : MethodName := ⟨RX6, "bestDoors", "()I"⟩
abbrev cX6_doors : ByteArray := prog_8_method_77_code
def yX6_doors : MethodName := ⟨RX6, "doors", "(I)I"⟩
abbrev cX6_sound : ByteArray := prog_8_method_78_code
def yX6_sound : MethodName := ⟨RX6, "sound", "(III)I"⟩
abbrev cX6_who : ByteArray := prog_8_method_79_code
def yX6_who : MethodName := ⟨RX6, "who", "()I"⟩
abbrev cX6_note : ByteArray := prog_8_method_80_code
def yX6_note : MethodName := ⟨RX6, "note", "(IIII)I"⟩
abbrev cX6_mark : ByteArray := prog_8_method_81_code
def yX6_mark : MethodName := ⟨RX6, "mark", "(IIII)I"⟩
abbrev cX6_forget : ByteArray := prog_8_method_82_code
def yX6_forget : MethodName := ⟨RX6, "forget", "(I)I"⟩
abbrev cX6_kindsOf : ByteArray := prog_8_method_83_code
def yX6_kindsOf : MethodName := ⟨RX6, "kindsOf", "(I)I"⟩
abbrev cX6_is : ByteArray := prog_8_method_84_code
def yX6_is : MethodName := ⟨RX6, "is", "(I)I"⟩
abbrev cX6_greatest : ByteArray := prog_8_method_85_code
def yX6_greatest : MethodName := ⟨RX6, "greatest", "(I)I"⟩
abbrev cX6_look : ByteArray := prog_8_method_86_code
def yX6_look : MethodName := ⟨RX6, "look", "(I)I"⟩
abbrev cX6_isHeard : ByteArray := prog_8_method_87_code
def yX6_isHeard : MethodName := ⟨RX6, "isHeard", "(III)I"⟩
abbrev cX6_windowsOf : ByteArray := prog_8_method_88_code
def yX6_windowsOf : MethodName := ⟨RX6, "windowsOf", "(I)I"⟩
abbrev cX6_kinds : ByteArray := prog_8_method_89_code
def yX6_kinds : MethodName := ⟨RX6, "kinds", "(I)I"⟩
abbrev cX6_ask : ByteArray := prog_8_method_90_code
def yX6_ask : MethodName := ⟨RX6, "ask", "(I)I"⟩
abbrev cX6_getsBy : ByteArray := prog_8_method_91_code
def yX6_getsBy : MethodName := ⟨RX6, "getsBy", "(IIZ)I"⟩
abbrev cX6_rests : ByteArray := prog_8_method_92_code
def yX6_rests : MethodName := ⟨RX6, "rests", "(II)Z"⟩
abbrev cX6_shy : ByteArray := prog_8_method_93_code
def yX6_shy : MethodName := ⟨RX6, "shy", "(III)I"⟩
abbrev cX6_odds : ByteArray := prog_8_method_94_code
def yX6_odds : MethodName := ⟨RX6, "odds", "(III)I"⟩
abbrev cX6_nights : ByteArray := prog_8_method_95_code
def yX6_nights : MethodName := ⟨RX6, "nights", "(II)I"⟩
abbrev cX6_part : ByteArray := prog_8_method_96_code
def yX6_part : MethodName := ⟨RX6, "part", "(I)J"⟩
abbrev cX6_image : ByteArray := prog_8_method_97_code
def yX6_image : MethodName := ⟨RX6, "image", "(I)I"⟩
abbrev cX6_from : ByteArray := prog_8_method_98_code
def yX6_from : MethodName := ⟨RX6, "from", "(I)I"⟩
abbrev cX6_status : ByteArray := prog_8_method_99_code
def yX6_status : MethodName := ⟨RX6, "status", "(I)I"⟩
abbrev cX6_thereOnes : ByteArray := prog_8_method_100_code
def yX6_thereOnes : MethodName := ⟨RX6, "thereOnes", "()I"⟩
abbrev cX6_countOf : ByteArray := prog_8_method_101_code
def yX6_countOf : MethodName := ⟨RX6, "countOf", "(I)I"⟩
abbrev cX6_count : ByteArray := prog_8_method_102_code
def yX6_count : MethodName := ⟨RX6, "count", "(I)I"⟩
abbrev cX6_mix : ByteArray := prog_8_method_103_code
def yX6_mix : MethodName := ⟨RX6, "mix", "(J)V"⟩
abbrev cX6_digest : ByteArray := prog_8_method_104_code
def yX6_digest : MethodName := ⟨RX6, "digest", "()J"⟩
def RJ6 : String := "java/lang/Integer"
def TJ6 : u_T := fun k => match k with
  | _ => ("", "", "", false)
def tyJ6 : Nat → FieldType := fun k => match k with
  | _ => .int
theorem nmJ6 : ∀ a, a < 0 → ∀ b, b < 0 → a ≠ b → (TJ6 a).2.1 ≠ (TJ6 b).2.1 := by decide +kernel
theorem tyJ6_ok : ∀ k, k < 0 → parseFieldDescriptor (TJ6 k).2.2.1 = some (tyJ6 k) := by decide +kernel
abbrev cJ6_bitCount_0f7a4 : ByteArray := prog_9_method_49_code
def yJ6_bitCount_0f7a4 : MethodName := ⟨RJ6, "bitCount", "(I)I"⟩
def RJ9 : String := "java/lang/Math"
def TJ9 : u_T := fun k => match k with
  | _ => ("", "", "", false)
def tyJ9 : Nat → FieldType := fun k => match k with
  | _ => .int
theorem nmJ9 : ∀ a, a < 0 → ∀ b, b < 0 → a ≠ b → (TJ9 a).2.1 ≠ (TJ9 b).2.1 := by decide +kernel
theorem tyJ9_ok : ∀ k, k < 0 → parseFieldDescriptor (TJ9 k).2.2.1 = some (tyJ9 k) := by decide +kernel
abbrev cJ9_abs_0f7a4 : ByteArray := prog_10_method_59_code
def yJ9_abs_0f7a4 : MethodName := ⟨RJ9, "abs", "(I)I"⟩
abbrev cJ9_max_7cf53 : ByteArray := prog_10_method_65_code
def yJ9_max_7cf53 : MethodName := ⟨RJ9, "max", "(II)I"⟩
abbrev cJ9_max_f86c9 : ByteArray := prog_10_method_66_code
def yJ9_max_f86c9 : MethodName := ⟨RJ9, "max", "(JJ)J"⟩
abbrev cJ9_min_7cf53 : ByteArray := prog_10_method_69_code
def yJ9_min_7cf53 : MethodName := ⟨RJ9, "min", "(II)I"⟩
def RJ0 : String := "java/lang/String"
def TJ0 : u_T := fun k => match k with
  | _ => ("", "", "", false)
def tyJ0 : Nat → FieldType := fun k => match k with
  | _ => .int
theorem nmJ0 : ∀ a, a < 0 → ∀ b, b < 0 → a ≠ b → (TJ0 a).2.1 ≠ (TJ0 b).2.1 := by decide +kernel
theorem tyJ0_ok : ∀ k, k < 0 → parseFieldDescriptor (TJ0 k).2.2.1 = some (tyJ0 k) := by decide +kernel
abbrev cJ0_length_8abf5 : ByteArray := prog_11_method_54_code
def yJ0_length_8abf5 : MethodName := ⟨RJ0, "length", "()I"⟩
abbrev cJ0_charAt_5068e : ByteArray := prog_11_method_56_code
def yJ0_charAt_5068e : MethodName := ⟨RJ0, "charAt", "(I)C"⟩
abbrev cJ0_coder_7d493 : ByteArray := prog_11_method_152_code
def yJ0_coder_7d493 : MethodName := ⟨RJ0, "coder", "()B"⟩
abbrev cJ0_isLatin1_aae02 : ByteArray := prog_11_method_154_code
def yJ0_isLatin1_aae02 : MethodName := ⟨RJ0, "isLatin1", "()Z"⟩
abbrev cJ0_checkIndex_df160 : ByteArray := prog_11_method_155_code
def yJ0_checkIndex_df160 : MethodName := ⟨RJ0, "checkIndex", "(II)V"⟩
def RJ1 : String := "java/lang/StringLatin1"
def TJ1 : u_T := fun k => match k with
  | _ => ("", "", "", false)
def tyJ1 : Nat → FieldType := fun k => match k with
  | _ => .int
theorem nmJ1 : ∀ a, a < 0 → ∀ b, b < 0 → a ≠ b → (TJ1 a).2.1 ≠ (TJ1 b).2.1 := by decide +kernel
theorem tyJ1_ok : ∀ k, k < 0 → parseFieldDescriptor (TJ1 k).2.2.1 = some (tyJ1 k) := by decide +kernel
abbrev cJ1_charAt_3b067 : ByteArray := prog_12_method_2_code
def yJ1_charAt_3b067 : MethodName := ⟨RJ1, "charAt", "([BI)C"⟩
def RJ2 : String := "java/lang/StringUTF16"
def TJ2 : u_T := fun k => match k with
  | _ => ("", "", "", false)
def tyJ2 : Nat → FieldType := fun k => match k with
  | _ => .int
theorem nmJ2 : ∀ a, a < 0 → ∀ b, b < 0 → a ≠ b → (TJ2 a).2.1 ≠ (TJ2 b).2.1 := by decide +kernel
theorem tyJ2_ok : ∀ k, k < 0 → parseFieldDescriptor (TJ2 k).2.2.1 = some (tyJ2 k) := by decide +kernel
abbrev cJ2_getChar_3b067 : ByteArray := prog_13_method_5_code
def yJ2_getChar_3b067 : MethodName := ⟨RJ2, "getChar", "([BI)C"⟩
abbrev cJ2_length_9d52b : ByteArray := prog_13_method_6_code
def yJ2_length_9d52b : MethodName := ⟨RJ2, "length", "([B)I"⟩
abbrev cJ2_charAt_3b067 : ByteArray := prog_13_method_83_code
def yJ2_charAt_3b067 : MethodName := ⟨RJ2, "charAt", "([BI)C"⟩
abbrev cJ2_checkIndex_2214a : ByteArray := prog_13_method_91_code
def yJ2_checkIndex_2214a : MethodName := ⟨RJ2, "checkIndex", "(I[B)V"⟩
def RJ10 : String := "java/lang/System"
def TJ10 : u_T := fun k => match k with
  | _ => ("", "", "", false)
def tyJ10 : Nat → FieldType := fun k => match k with
  | _ => .int
theorem nmJ10 : ∀ a, a < 0 → ∀ b, b < 0 → a ≠ b → (TJ10 a).2.1 ≠ (TJ10 b).2.1 := by decide +kernel
theorem tyJ10_ok : ∀ k, k < 0 → parseFieldDescriptor (TJ10 k).2.2.1 = some (tyJ10 k) := by decide +kernel
def RJ3 : String := "jdk/internal/util/Preconditions"
def TJ3 : u_T := fun k => match k with
  | _ => ("", "", "", false)
def tyJ3 : Nat → FieldType := fun k => match k with
  | _ => .int
theorem nmJ3 : ∀ a, a < 0 → ∀ b, b < 0 → a ≠ b → (TJ3 a).2.1 ≠ (TJ3 b).2.1 := by decide +kernel
theorem tyJ3_ok : ∀ k, k < 0 → parseFieldDescriptor (TJ3 k).2.2.1 = some (tyJ3 k) := by decide +kernel
abbrev cJ3_checkIndex_8e157 : ByteArray := prog_15_method_11_code
def yJ3_checkIndex_8e157 : MethodName := ⟨RJ3, "checkIndex", "(IILjava/util/function/BiFunction;)I"⟩
def RL : String := "IronStairsLaw"
abbrev cL_law : ByteArray := code
def yL_law : MethodName := ⟨RL, "law", "([I)Z"⟩
abbrev clsL : List vw_C := [(RX0, TX0, 9), (RX1, TX1, 6), (RX2, TX2, 1), (RX3, TX3, 4), (RX4, TX4, 4), (RX5, TX5, 15), (RX6, TX6, 21)]
