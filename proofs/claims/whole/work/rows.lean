section
-- ===== PART A: goes FIRST, ahead of the names: the tables' words, and 'selects' of the private methods out of them =====
/-- a private method of a class that the tables say can be made, by its rows of tables_1 -/
def lw_okq (q : MethodName × Nat) : Prop := (q.1.cls ≠ "java/lang/invoke/MethodHandle" ∧ q.1.cls ≠ "java/lang/invoke/VarHandle") ∧ Cond.instantiable q.1.cls q.2 ∈ tables_1 ∧ Cond.privateMethod q.1 ∈ tables_1 ∧ Cond.instanceMethod q.1 ∈ tables_1
theorem lw_p0 : lw_okq (⟨"IronStairs", "bad", "()I"⟩, 15) := ⟨⟨by decide +kernel, by decide +kernel⟩, List.mem_of_getElem? (i := 16) (by decide +kernel), List.mem_of_getElem? (i := 238) (by decide +kernel), List.mem_of_getElem? (i := 239) (by decide +kernel)⟩
theorem lw_p1 : lw_okq (⟨"IronStairs", "badAs", "(I)I"⟩, 15) := ⟨⟨by decide +kernel, by decide +kernel⟩, List.mem_of_getElem? (i := 16) (by decide +kernel), List.mem_of_getElem? (i := 242) (by decide +kernel), List.mem_of_getElem? (i := 243) (by decide +kernel)⟩
theorem lw_p2 : lw_okq (⟨"IronStairs", "full", "()I"⟩, 15) := ⟨⟨by decide +kernel, by decide +kernel⟩, List.mem_of_getElem? (i := 16) (by decide +kernel), List.mem_of_getElem? (i := 255) (by decide +kernel), List.mem_of_getElem? (i := 256) (by decide +kernel)⟩
theorem lw_p3 : lw_okq (⟨"IronStairs$Reader", "nextToken", "()V"⟩, 6) := ⟨⟨by decide +kernel, by decide +kernel⟩, List.mem_of_getElem? (i := 123) (by decide +kernel), List.mem_of_getElem? (i := 323) (by decide +kernel), List.mem_of_getElem? (i := 324) (by decide +kernel)⟩
theorem lw_p4 : lw_okq (⟨"IronStairs$Reader", "isWord", "(Ljava/lang/String;)Z"⟩, 6) := ⟨⟨by decide +kernel, by decide +kernel⟩, List.mem_of_getElem? (i := 123) (by decide +kernel), List.mem_of_getElem? (i := 332) (by decide +kernel), List.mem_of_getElem? (i := 333) (by decide +kernel)⟩
theorem lw_p5 : lw_okq (⟨"IronStairs$Reader", "nextIsStop", "()Z"⟩, 6) := ⟨⟨by decide +kernel, by decide +kernel⟩, List.mem_of_getElem? (i := 123) (by decide +kernel), List.mem_of_getElem? (i := 384) (by decide +kernel), List.mem_of_getElem? (i := 385) (by decide +kernel)⟩
theorem lw_p6 : lw_okq (⟨"IronStairs$Reader", "readItem", "(LIronStairs$Back;)Z"⟩, 6) := ⟨⟨by decide +kernel, by decide +kernel⟩, List.mem_of_getElem? (i := 123) (by decide +kernel), List.mem_of_getElem? (i := 388) (by decide +kernel), List.mem_of_getElem? (i := 389) (by decide +kernel)⟩
theorem lw_p7 : lw_okq (⟨"IronStairs$Reader", "readLadder", "(LIronStairs$Back;)Z"⟩, 6) := ⟨⟨by decide +kernel, by decide +kernel⟩, List.mem_of_getElem? (i := 123) (by decide +kernel), List.mem_of_getElem? (i := 393) (by decide +kernel), List.mem_of_getElem? (i := 394) (by decide +kernel)⟩
theorem lw_p8 : lw_okq (⟨"IronStairs$Reader", "nextIsNumber", "(II)Z"⟩, 6) := ⟨⟨by decide +kernel, by decide +kernel⟩, List.mem_of_getElem? (i := 123) (by decide +kernel), List.mem_of_getElem? (i := 398) (by decide +kernel), List.mem_of_getElem? (i := 399) (by decide +kernel)⟩
theorem lw_p9 : lw_okq (⟨"IronStairs$Reader", "readGoer", "(LIronStairs$Back;)Z"⟩, 6) := ⟨⟨by decide +kernel, by decide +kernel⟩, List.mem_of_getElem? (i := 123) (by decide +kernel), List.mem_of_getElem? (i := 405) (by decide +kernel), List.mem_of_getElem? (i := 406) (by decide +kernel)⟩
theorem lw_p10 : lw_okq (⟨"IronStairs$Reader", "readWindow", "(LIronStairs$Back;)Z"⟩, 6) := ⟨⟨by decide +kernel, by decide +kernel⟩, List.mem_of_getElem? (i := 123) (by decide +kernel), List.mem_of_getElem? (i := 411) (by decide +kernel), List.mem_of_getElem? (i := 412) (by decide +kernel)⟩
theorem lw_p11 : lw_okq (⟨"IronStairs$Reader", "readTurn", "(LIronStairs$Back;)Z"⟩, 6) := ⟨⟨by decide +kernel, by decide +kernel⟩, List.mem_of_getElem? (i := 123) (by decide +kernel), List.mem_of_getElem? (i := 417) (by decide +kernel), List.mem_of_getElem? (i := 418) (by decide +kernel)⟩
theorem lw_p12 : lw_okq (⟨"IronStairs$Reader", "readDraw", "(LIronStairs$Back;)Z"⟩, 6) := ⟨⟨by decide +kernel, by decide +kernel⟩, List.mem_of_getElem? (i := 123) (by decide +kernel), List.mem_of_getElem? (i := 428) (by decide +kernel), List.mem_of_getElem? (i := 429) (by decide +kernel)⟩
theorem lw_p13 : lw_okq (⟨"IronStairs$Reader", "readMinutes", "(LIronStairs$Back;)Z"⟩, 6) := ⟨⟨by decide +kernel, by decide +kernel⟩, List.mem_of_getElem? (i := 123) (by decide +kernel), List.mem_of_getElem? (i := 437) (by decide +kernel), List.mem_of_getElem? (i := 438) (by decide +kernel)⟩
theorem lw_p14 : lw_okq (⟨"IronStairs$Back", "layWays", "()V"⟩, 9) := ⟨⟨by decide +kernel, by decide +kernel⟩, List.mem_of_getElem? (i := 24) (by decide +kernel), List.mem_of_getElem? (i := 445) (by decide +kernel), List.mem_of_getElem? (i := 446) (by decide +kernel)⟩
theorem lw_p15 : lw_okq (⟨"IronStairs$Back", "goalOf", "(I)I"⟩, 9) := ⟨⟨by decide +kernel, by decide +kernel⟩, List.mem_of_getElem? (i := 24) (by decide +kernel), List.mem_of_getElem? (i := 453) (by decide +kernel), List.mem_of_getElem? (i := 454) (by decide +kernel)⟩
def lw_privs_1 : List (MethodName × Nat) := [(⟨"IronStairs", "bad", "()I"⟩, 15), (⟨"IronStairs", "badAs", "(I)I"⟩, 15), (⟨"IronStairs", "full", "()I"⟩, 15), (⟨"IronStairs$Reader", "nextToken", "()V"⟩, 6), (⟨"IronStairs$Reader", "isWord", "(Ljava/lang/String;)Z"⟩, 6), (⟨"IronStairs$Reader", "nextIsStop", "()Z"⟩, 6), (⟨"IronStairs$Reader", "readItem", "(LIronStairs$Back;)Z"⟩, 6), (⟨"IronStairs$Reader", "readLadder", "(LIronStairs$Back;)Z"⟩, 6), (⟨"IronStairs$Reader", "nextIsNumber", "(II)Z"⟩, 6), (⟨"IronStairs$Reader", "readGoer", "(LIronStairs$Back;)Z"⟩, 6), (⟨"IronStairs$Reader", "readWindow", "(LIronStairs$Back;)Z"⟩, 6), (⟨"IronStairs$Reader", "readTurn", "(LIronStairs$Back;)Z"⟩, 6), (⟨"IronStairs$Reader", "readDraw", "(LIronStairs$Back;)Z"⟩, 6), (⟨"IronStairs$Reader", "readMinutes", "(LIronStairs$Back;)Z"⟩, 6), (⟨"IronStairs$Back", "layWays", "()V"⟩, 9), (⟨"IronStairs$Back", "goalOf", "(I)I"⟩, 9)]
theorem lw_r1 : ∀ q ∈ lw_privs_1, lw_okq q := List.forall_mem_cons.mpr ⟨lw_p0, List.forall_mem_cons.mpr ⟨lw_p1, List.forall_mem_cons.mpr ⟨lw_p2, List.forall_mem_cons.mpr ⟨lw_p3, List.forall_mem_cons.mpr ⟨lw_p4, List.forall_mem_cons.mpr ⟨lw_p5, List.forall_mem_cons.mpr ⟨lw_p6, List.forall_mem_cons.mpr ⟨lw_p7, List.forall_mem_cons.mpr ⟨lw_p8, List.forall_mem_cons.mpr ⟨lw_p9, List.forall_mem_cons.mpr ⟨lw_p10, List.forall_mem_cons.mpr ⟨lw_p11, List.forall_mem_cons.mpr ⟨lw_p12, List.forall_mem_cons.mpr ⟨lw_p13, List.forall_mem_cons.mpr ⟨lw_p14, List.forall_mem_cons.mpr ⟨lw_p15, fun _ h => absurd h List.not_mem_nil⟩⟩⟩⟩⟩⟩⟩⟩⟩⟩⟩⟩⟩⟩⟩⟩
theorem lw_p16 : lw_okq (⟨"IronStairs$Ways", "spread", "(I)V"⟩, 4) := ⟨⟨by decide +kernel, by decide +kernel⟩, List.mem_of_getElem? (i := 63) (by decide +kernel), List.mem_of_getElem? (i := 461) (by decide +kernel), List.mem_of_getElem? (i := 462) (by decide +kernel)⟩
theorem lw_p17 : lw_okq (⟨"IronStairs$Ways", "beside", "(II)I"⟩, 4) := ⟨⟨by decide +kernel, by decide +kernel⟩, List.mem_of_getElem? (i := 63) (by decide +kernel), List.mem_of_getElem? (i := 467) (by decide +kernel), List.mem_of_getElem? (i := 468) (by decide +kernel)⟩
theorem lw_p18 : lw_okq (⟨"IronStairs", "no", "()I"⟩, 15) := ⟨⟨by decide +kernel, by decide +kernel⟩, List.mem_of_getElem? (i := 16) (by decide +kernel), List.mem_of_getElem? (i := 525) (by decide +kernel), List.mem_of_getElem? (i := 526) (by decide +kernel)⟩
theorem lw_p19 : lw_okq (⟨"IronStairs$Back", "loudStep", "(I)I"⟩, 9) := ⟨⟨by decide +kernel, by decide +kernel⟩, List.mem_of_getElem? (i := 24) (by decide +kernel), List.mem_of_getElem? (i := 546) (by decide +kernel), List.mem_of_getElem? (i := 547) (by decide +kernel)⟩
theorem lw_p20 : lw_okq (⟨"IronStairs", "areTwoGoers", "(II)Z"⟩, 15) := ⟨⟨by decide +kernel, by decide +kernel⟩, List.mem_of_getElem? (i := 16) (by decide +kernel), List.mem_of_getElem? (i := 620) (by decide +kernel), List.mem_of_getElem? (i := 621) (by decide +kernel)⟩
theorem lw_p21 : lw_okq (⟨"IronStairs", "firstMeeting", "(III)I"⟩, 15) := ⟨⟨by decide +kernel, by decide +kernel⟩, List.mem_of_getElem? (i := 16) (by decide +kernel), List.mem_of_getElem? (i := 624) (by decide +kernel), List.mem_of_getElem? (i := 625) (by decide +kernel)⟩
theorem lw_p22 : lw_okq (⟨"IronStairs", "goersCutOff", "(I)I"⟩, 15) := ⟨⟨by decide +kernel, by decide +kernel⟩, List.mem_of_getElem? (i := 16) (by decide +kernel), List.mem_of_getElem? (i := 645) (by decide +kernel), List.mem_of_getElem? (i := 646) (by decide +kernel)⟩
theorem lw_p23 : lw_okq (⟨"IronStairs", "climbsDown", "(II)Z"⟩, 15) := ⟨⟨by decide +kernel, by decide +kernel⟩, List.mem_of_getElem? (i := 16) (by decide +kernel), List.mem_of_getElem? (i := 650) (by decide +kernel), List.mem_of_getElem? (i := 651) (by decide +kernel)⟩
theorem lw_p24 : lw_okq (⟨"IronStairs", "fillToHomes", "()V"⟩, 15) := ⟨⟨by decide +kernel, by decide +kernel⟩, List.mem_of_getElem? (i := 16) (by decide +kernel), List.mem_of_getElem? (i := 662) (by decide +kernel), List.mem_of_getElem? (i := 663) (by decide +kernel)⟩
theorem lw_p25 : lw_okq (⟨"IronStairs", "fillLeast", "()V"⟩, 15) := ⟨⟨by decide +kernel, by decide +kernel⟩, List.mem_of_getElem? (i := 16) (by decide +kernel), List.mem_of_getElem? (i := 666) (by decide +kernel), List.mem_of_getElem? (i := 667) (by decide +kernel)⟩
theorem lw_p26 : lw_okq (⟨"IronStairs", "leastBehind", "(I)I"⟩, 15) := ⟨⟨by decide +kernel, by decide +kernel⟩, List.mem_of_getElem? (i := 16) (by decide +kernel), List.mem_of_getElem? (i := 670) (by decide +kernel), List.mem_of_getElem? (i := 671) (by decide +kernel)⟩
theorem lw_p27 : lw_okq (⟨"IronStairs", "wayThrough", "(III)I"⟩, 15) := ⟨⟨by decide +kernel, by decide +kernel⟩, List.mem_of_getElem? (i := 16) (by decide +kernel), List.mem_of_getElem? (i := 680) (by decide +kernel), List.mem_of_getElem? (i := 681) (by decide +kernel)⟩
theorem lw_p28 : lw_okq (⟨"IronStairs", "homeChosenBy", "(I)I"⟩, 15) := ⟨⟨by decide +kernel, by decide +kernel⟩, List.mem_of_getElem? (i := 16) (by decide +kernel), List.mem_of_getElem? (i := 684) (by decide +kernel), List.mem_of_getElem? (i := 685) (by decide +kernel)⟩
theorem lw_p29 : lw_okq (⟨"IronStairs", "firstHome", "(II)I"⟩, 15) := ⟨⟨by decide +kernel, by decide +kernel⟩, List.mem_of_getElem? (i := 16) (by decide +kernel), List.mem_of_getElem? (i := 688) (by decide +kernel), List.mem_of_getElem? (i := 689) (by decide +kernel)⟩
theorem lw_p30 : lw_okq (⟨"IronStairs", "fitsSounds", "(I)Z"⟩, 15) := ⟨⟨by decide +kernel, by decide +kernel⟩, List.mem_of_getElem? (i := 16) (by decide +kernel), List.mem_of_getElem? (i := 701) (by decide +kernel), List.mem_of_getElem? (i := 702) (by decide +kernel)⟩
theorem lw_p31 : lw_okq (⟨"IronStairs", "goerKinds", "(I)I"⟩, 15) := ⟨⟨by decide +kernel, by decide +kernel⟩, List.mem_of_getElem? (i := 16) (by decide +kernel), List.mem_of_getElem? (i := 723) (by decide +kernel), List.mem_of_getElem? (i := 724) (by decide +kernel)⟩
def lw_privs_2 : List (MethodName × Nat) := [(⟨"IronStairs$Ways", "spread", "(I)V"⟩, 4), (⟨"IronStairs$Ways", "beside", "(II)I"⟩, 4), (⟨"IronStairs", "no", "()I"⟩, 15), (⟨"IronStairs$Back", "loudStep", "(I)I"⟩, 9), (⟨"IronStairs", "areTwoGoers", "(II)Z"⟩, 15), (⟨"IronStairs", "firstMeeting", "(III)I"⟩, 15), (⟨"IronStairs", "goersCutOff", "(I)I"⟩, 15), (⟨"IronStairs", "climbsDown", "(II)Z"⟩, 15), (⟨"IronStairs", "fillToHomes", "()V"⟩, 15), (⟨"IronStairs", "fillLeast", "()V"⟩, 15), (⟨"IronStairs", "leastBehind", "(I)I"⟩, 15), (⟨"IronStairs", "wayThrough", "(III)I"⟩, 15), (⟨"IronStairs", "homeChosenBy", "(I)I"⟩, 15), (⟨"IronStairs", "firstHome", "(II)I"⟩, 15), (⟨"IronStairs", "fitsSounds", "(I)Z"⟩, 15), (⟨"IronStairs", "goerKinds", "(I)I"⟩, 15)]
theorem lw_r2 : ∀ q ∈ lw_privs_2, lw_okq q := List.forall_mem_cons.mpr ⟨lw_p16, List.forall_mem_cons.mpr ⟨lw_p17, List.forall_mem_cons.mpr ⟨lw_p18, List.forall_mem_cons.mpr ⟨lw_p19, List.forall_mem_cons.mpr ⟨lw_p20, List.forall_mem_cons.mpr ⟨lw_p21, List.forall_mem_cons.mpr ⟨lw_p22, List.forall_mem_cons.mpr ⟨lw_p23, List.forall_mem_cons.mpr ⟨lw_p24, List.forall_mem_cons.mpr ⟨lw_p25, List.forall_mem_cons.mpr ⟨lw_p26, List.forall_mem_cons.mpr ⟨lw_p27, List.forall_mem_cons.mpr ⟨lw_p28, List.forall_mem_cons.mpr ⟨lw_p29, List.forall_mem_cons.mpr ⟨lw_p30, List.forall_mem_cons.mpr ⟨lw_p31, fun _ h => absurd h List.not_mem_nil⟩⟩⟩⟩⟩⟩⟩⟩⟩⟩⟩⟩⟩⟩⟩⟩
theorem lw_p32 : lw_okq (⟨"IronStairs", "fitsNotes", "(II)Z"⟩, 15) := ⟨⟨by decide +kernel, by decide +kernel⟩, List.mem_of_getElem? (i := 16) (by decide +kernel), List.mem_of_getElem? (i := 727) (by decide +kernel), List.mem_of_getElem? (i := 728) (by decide +kernel)⟩
theorem lw_p33 : lw_okq (⟨"IronStairs", "windowKinds", "(I)I"⟩, 15) := ⟨⟨by decide +kernel, by decide +kernel⟩, List.mem_of_getElem? (i := 16) (by decide +kernel), List.mem_of_getElem? (i := 742) (by decide +kernel), List.mem_of_getElem? (i := 743) (by decide +kernel)⟩
theorem lw_p34 : lw_okq (⟨"IronStairs", "fitsMarks", "(II)Z"⟩, 15) := ⟨⟨by decide +kernel, by decide +kernel⟩, List.mem_of_getElem? (i := 16) (by decide +kernel), List.mem_of_getElem? (i := 746) (by decide +kernel), List.mem_of_getElem? (i := 747) (by decide +kernel)⟩
theorem lw_p35 : lw_okq (⟨"IronStairs", "fillMet", "(II)V"⟩, 15) := ⟨⟨by decide +kernel, by decide +kernel⟩, List.mem_of_getElem? (i := 16) (by decide +kernel), List.mem_of_getElem? (i := 762) (by decide +kernel), List.mem_of_getElem? (i := 763) (by decide +kernel)⟩
theorem lw_p36 : lw_okq (⟨"IronStairs", "rests", "(II)Z"⟩, 15) := ⟨⟨by decide +kernel, by decide +kernel⟩, List.mem_of_getElem? (i := 16) (by decide +kernel), List.mem_of_getElem? (i := 766) (by decide +kernel), List.mem_of_getElem? (i := 767) (by decide +kernel)⟩
theorem lw_p37 : lw_okq (⟨"IronStairs", "gainOfA", "(II)I"⟩, 15) := ⟨⟨by decide +kernel, by decide +kernel⟩, List.mem_of_getElem? (i := 16) (by decide +kernel), List.mem_of_getElem? (i := 770) (by decide +kernel), List.mem_of_getElem? (i := 771) (by decide +kernel)⟩
theorem lw_p38 : lw_okq (⟨"IronStairs", "gainOfB", "(II)I"⟩, 15) := ⟨⟨by decide +kernel, by decide +kernel⟩, List.mem_of_getElem? (i := 16) (by decide +kernel), List.mem_of_getElem? (i := 774) (by decide +kernel), List.mem_of_getElem? (i := 775) (by decide +kernel)⟩
theorem lw_p39 : lw_okq (⟨"IronStairs", "howMany", "(I)I"⟩, 15) := ⟨⟨by decide +kernel, by decide +kernel⟩, List.mem_of_getElem? (i := 16) (by decide +kernel), List.mem_of_getElem? (i := 826) (by decide +kernel), List.mem_of_getElem? (i := 827) (by decide +kernel)⟩
theorem lw_p40 : lw_okq (⟨"IronStairsModel", "empties", "(I)V"⟩, 21) := ⟨⟨by decide +kernel, by decide +kernel⟩, List.mem_of_getElem? (i := 849) (by decide +kernel), List.mem_of_getElem? (i := 924) (by decide +kernel), List.mem_of_getElem? (i := 925) (by decide +kernel)⟩
theorem lw_p41 : lw_okq (⟨"IronStairsModel", "hasLadder", "(II)Z"⟩, 21) := ⟨⟨by decide +kernel, by decide +kernel⟩, List.mem_of_getElem? (i := 849) (by decide +kernel), List.mem_of_getElem? (i := 936) (by decide +kernel), List.mem_of_getElem? (i := 937) (by decide +kernel)⟩
theorem lw_p42 : lw_okq (⟨"IronStairsModel", "bad", "(I)I"⟩, 21) := ⟨⟨by decide +kernel, by decide +kernel⟩, List.mem_of_getElem? (i := 849) (by decide +kernel), List.mem_of_getElem? (i := 940) (by decide +kernel), List.mem_of_getElem? (i := 941) (by decide +kernel)⟩
theorem lw_p43 : lw_okq (⟨"IronStairsModel", "full", "()I"⟩, 21) := ⟨⟨by decide +kernel, by decide +kernel⟩, List.mem_of_getElem? (i := 849) (by decide +kernel), List.mem_of_getElem? (i := 944) (by decide +kernel), List.mem_of_getElem? (i := 945) (by decide +kernel)⟩
theorem lw_p44 : lw_okq (⟨"IronStairsModel", "addsLadder", "(II)V"⟩, 21) := ⟨⟨by decide +kernel, by decide +kernel⟩, List.mem_of_getElem? (i := 849) (by decide +kernel), List.mem_of_getElem? (i := 948) (by decide +kernel), List.mem_of_getElem? (i := 949) (by decide +kernel)⟩
theorem lw_p45 : lw_okq (⟨"IronStairsModel", "addsGoer", "(IIII)V"⟩, 21) := ⟨⟨by decide +kernel, by decide +kernel⟩, List.mem_of_getElem? (i := 849) (by decide +kernel), List.mem_of_getElem? (i := 961) (by decide +kernel), List.mem_of_getElem? (i := 962) (by decide +kernel)⟩
theorem lw_p46 : lw_okq (⟨"IronStairsModel", "addsWindow", "(III)V"⟩, 21) := ⟨⟨by decide +kernel, by decide +kernel⟩, List.mem_of_getElem? (i := 849) (by decide +kernel), List.mem_of_getElem? (i := 969) (by decide +kernel), List.mem_of_getElem? (i := 970) (by decide +kernel)⟩
theorem lw_p47 : lw_okq (⟨"IronStairsModel", "blanks", "()V"⟩, 21) := ⟨⟨by decide +kernel, by decide +kernel⟩, List.mem_of_getElem? (i := 849) (by decide +kernel), List.mem_of_getElem? (i := 986) (by decide +kernel), List.mem_of_getElem? (i := 987) (by decide +kernel)⟩
def lw_privs_3 : List (MethodName × Nat) := [(⟨"IronStairs", "fitsNotes", "(II)Z"⟩, 15), (⟨"IronStairs", "windowKinds", "(I)I"⟩, 15), (⟨"IronStairs", "fitsMarks", "(II)Z"⟩, 15), (⟨"IronStairs", "fillMet", "(II)V"⟩, 15), (⟨"IronStairs", "rests", "(II)Z"⟩, 15), (⟨"IronStairs", "gainOfA", "(II)I"⟩, 15), (⟨"IronStairs", "gainOfB", "(II)I"⟩, 15), (⟨"IronStairs", "howMany", "(I)I"⟩, 15), (⟨"IronStairsModel", "empties", "(I)V"⟩, 21), (⟨"IronStairsModel", "hasLadder", "(II)Z"⟩, 21), (⟨"IronStairsModel", "bad", "(I)I"⟩, 21), (⟨"IronStairsModel", "full", "()I"⟩, 21), (⟨"IronStairsModel", "addsLadder", "(II)V"⟩, 21), (⟨"IronStairsModel", "addsGoer", "(IIII)V"⟩, 21), (⟨"IronStairsModel", "addsWindow", "(III)V"⟩, 21), (⟨"IronStairsModel", "blanks", "()V"⟩, 21)]
theorem lw_r3 : ∀ q ∈ lw_privs_3, lw_okq q := List.forall_mem_cons.mpr ⟨lw_p32, List.forall_mem_cons.mpr ⟨lw_p33, List.forall_mem_cons.mpr ⟨lw_p34, List.forall_mem_cons.mpr ⟨lw_p35, List.forall_mem_cons.mpr ⟨lw_p36, List.forall_mem_cons.mpr ⟨lw_p37, List.forall_mem_cons.mpr ⟨lw_p38, List.forall_mem_cons.mpr ⟨lw_p39, List.forall_mem_cons.mpr ⟨lw_p40, List.forall_mem_cons.mpr ⟨lw_p41, List.forall_mem_cons.mpr ⟨lw_p42, List.forall_mem_cons.mpr ⟨lw_p43, List.forall_mem_cons.mpr ⟨lw_p44, List.forall_mem_cons.mpr ⟨lw_p45, List.forall_mem_cons.mpr ⟨lw_p46, List.forall_mem_cons.mpr ⟨lw_p47, fun _ h => absurd h List.not_mem_nil⟩⟩⟩⟩⟩⟩⟩⟩⟩⟩⟩⟩⟩⟩⟩⟩
theorem lw_p48 : lw_okq (⟨"IronStairsModel", "byteAt", "(I)I"⟩, 21) := ⟨⟨by decide +kernel, by decide +kernel⟩, List.mem_of_getElem? (i := 849) (by decide +kernel), List.mem_of_getElem? (i := 990) (by decide +kernel), List.mem_of_getElem? (i := 991) (by decide +kernel)⟩
theorem lw_p49 : lw_okq (⟨"IronStairsModel", "readsItem", "(Z)Z"⟩, 21) := ⟨⟨by decide +kernel, by decide +kernel⟩, List.mem_of_getElem? (i := 849) (by decide +kernel), List.mem_of_getElem? (i := 994) (by decide +kernel), List.mem_of_getElem? (i := 995) (by decide +kernel)⟩
theorem lw_p50 : lw_okq (⟨"IronStairsModel", "takesWord", "()V"⟩, 21) := ⟨⟨by decide +kernel, by decide +kernel⟩, List.mem_of_getElem? (i := 849) (by decide +kernel), List.mem_of_getElem? (i := 998) (by decide +kernel), List.mem_of_getElem? (i := 999) (by decide +kernel)⟩
theorem lw_p51 : lw_okq (⟨"IronStairsModel", "wordOf", "()I"⟩, 21) := ⟨⟨by decide +kernel, by decide +kernel⟩, List.mem_of_getElem? (i := 849) (by decide +kernel), List.mem_of_getElem? (i := 1004) (by decide +kernel), List.mem_of_getElem? (i := 1005) (by decide +kernel)⟩
theorem lw_p52 : lw_okq (⟨"IronStairsModel", "isWord", "(IIIIIII)Z"⟩, 21) := ⟨⟨by decide +kernel, by decide +kernel⟩, List.mem_of_getElem? (i := 849) (by decide +kernel), List.mem_of_getElem? (i := 1008) (by decide +kernel), List.mem_of_getElem? (i := 1009) (by decide +kernel)⟩
theorem lw_p53 : lw_okq (⟨"IronStairsModel", "isLetter", "(III)Z"⟩, 21) := ⟨⟨by decide +kernel, by decide +kernel⟩, List.mem_of_getElem? (i := 849) (by decide +kernel), List.mem_of_getElem? (i := 1012) (by decide +kernel), List.mem_of_getElem? (i := 1013) (by decide +kernel)⟩
theorem lw_p54 : lw_okq (⟨"IronStairsModel", "readsLadder", "()Z"⟩, 21) := ⟨⟨by decide +kernel, by decide +kernel⟩, List.mem_of_getElem? (i := 849) (by decide +kernel), List.mem_of_getElem? (i := 1016) (by decide +kernel), List.mem_of_getElem? (i := 1017) (by decide +kernel)⟩
theorem lw_p55 : lw_okq (⟨"IronStairsModel", "takesNumber", "(II)Z"⟩, 21) := ⟨⟨by decide +kernel, by decide +kernel⟩, List.mem_of_getElem? (i := 849) (by decide +kernel), List.mem_of_getElem? (i := 1020) (by decide +kernel), List.mem_of_getElem? (i := 1021) (by decide +kernel)⟩
theorem lw_p56 : lw_okq (⟨"IronStairsModel", "readsGoer", "()Z"⟩, 21) := ⟨⟨by decide +kernel, by decide +kernel⟩, List.mem_of_getElem? (i := 849) (by decide +kernel), List.mem_of_getElem? (i := 1027) (by decide +kernel), List.mem_of_getElem? (i := 1028) (by decide +kernel)⟩
theorem lw_p57 : lw_okq (⟨"IronStairsModel", "readsWindow", "()Z"⟩, 21) := ⟨⟨by decide +kernel, by decide +kernel⟩, List.mem_of_getElem? (i := 849) (by decide +kernel), List.mem_of_getElem? (i := 1031) (by decide +kernel), List.mem_of_getElem? (i := 1032) (by decide +kernel)⟩
theorem lw_p58 : lw_okq (⟨"IronStairsModel", "readsTurn", "()Z"⟩, 21) := ⟨⟨by decide +kernel, by decide +kernel⟩, List.mem_of_getElem? (i := 849) (by decide +kernel), List.mem_of_getElem? (i := 1035) (by decide +kernel), List.mem_of_getElem? (i := 1036) (by decide +kernel)⟩
theorem lw_p59 : lw_okq (⟨"IronStairsModel", "readsDraw", "()Z"⟩, 21) := ⟨⟨by decide +kernel, by decide +kernel⟩, List.mem_of_getElem? (i := 849) (by decide +kernel), List.mem_of_getElem? (i := 1039) (by decide +kernel), List.mem_of_getElem? (i := 1040) (by decide +kernel)⟩
theorem lw_p60 : lw_okq (⟨"IronStairsModel", "readsMinutes", "()Z"⟩, 21) := ⟨⟨by decide +kernel, by decide +kernel⟩, List.mem_of_getElem? (i := 849) (by decide +kernel), List.mem_of_getElem? (i := 1043) (by decide +kernel), List.mem_of_getElem? (i := 1044) (by decide +kernel)⟩
theorem lw_p61 : lw_okq (⟨"IronStairsModel", "passes", "(I)I"⟩, 21) := ⟨⟨by decide +kernel, by decide +kernel⟩, List.mem_of_getElem? (i := 849) (by decide +kernel), List.mem_of_getElem? (i := 1047) (by decide +kernel), List.mem_of_getElem? (i := 1048) (by decide +kernel)⟩
theorem lw_p62 : lw_okq (⟨"IronStairsModel", "nextOf", "(II)I"⟩, 21) := ⟨⟨by decide +kernel, by decide +kernel⟩, List.mem_of_getElem? (i := 849) (by decide +kernel), List.mem_of_getElem? (i := 1051) (by decide +kernel), List.mem_of_getElem? (i := 1052) (by decide +kernel)⟩
theorem lw_p63 : lw_okq (⟨"IronStairsModel", "goalOf", "(II)I"⟩, 21) := ⟨⟨by decide +kernel, by decide +kernel⟩, List.mem_of_getElem? (i := 849) (by decide +kernel), List.mem_of_getElem? (i := 1055) (by decide +kernel), List.mem_of_getElem? (i := 1056) (by decide +kernel)⟩
def lw_privs_4 : List (MethodName × Nat) := [(⟨"IronStairsModel", "byteAt", "(I)I"⟩, 21), (⟨"IronStairsModel", "readsItem", "(Z)Z"⟩, 21), (⟨"IronStairsModel", "takesWord", "()V"⟩, 21), (⟨"IronStairsModel", "wordOf", "()I"⟩, 21), (⟨"IronStairsModel", "isWord", "(IIIIIII)Z"⟩, 21), (⟨"IronStairsModel", "isLetter", "(III)Z"⟩, 21), (⟨"IronStairsModel", "readsLadder", "()Z"⟩, 21), (⟨"IronStairsModel", "takesNumber", "(II)Z"⟩, 21), (⟨"IronStairsModel", "readsGoer", "()Z"⟩, 21), (⟨"IronStairsModel", "readsWindow", "()Z"⟩, 21), (⟨"IronStairsModel", "readsTurn", "()Z"⟩, 21), (⟨"IronStairsModel", "readsDraw", "()Z"⟩, 21), (⟨"IronStairsModel", "readsMinutes", "()Z"⟩, 21), (⟨"IronStairsModel", "passes", "(I)I"⟩, 21), (⟨"IronStairsModel", "nextOf", "(II)I"⟩, 21), (⟨"IronStairsModel", "goalOf", "(II)I"⟩, 21)]
theorem lw_r4 : ∀ q ∈ lw_privs_4, lw_okq q := List.forall_mem_cons.mpr ⟨lw_p48, List.forall_mem_cons.mpr ⟨lw_p49, List.forall_mem_cons.mpr ⟨lw_p50, List.forall_mem_cons.mpr ⟨lw_p51, List.forall_mem_cons.mpr ⟨lw_p52, List.forall_mem_cons.mpr ⟨lw_p53, List.forall_mem_cons.mpr ⟨lw_p54, List.forall_mem_cons.mpr ⟨lw_p55, List.forall_mem_cons.mpr ⟨lw_p56, List.forall_mem_cons.mpr ⟨lw_p57, List.forall_mem_cons.mpr ⟨lw_p58, List.forall_mem_cons.mpr ⟨lw_p59, List.forall_mem_cons.mpr ⟨lw_p60, List.forall_mem_cons.mpr ⟨lw_p61, List.forall_mem_cons.mpr ⟨lw_p62, List.forall_mem_cons.mpr ⟨lw_p63, fun _ h => absurd h List.not_mem_nil⟩⟩⟩⟩⟩⟩⟩⟩⟩⟩⟩⟩⟩⟩⟩⟩
theorem lw_p64 : lw_okq (⟨"IronStairsModel", "laysAway", "(II)V"⟩, 21) := ⟨⟨by decide +kernel, by decide +kernel⟩, List.mem_of_getElem? (i := 849) (by decide +kernel), List.mem_of_getElem? (i := 1059) (by decide +kernel), List.mem_of_getElem? (i := 1060) (by decide +kernel)⟩
theorem lw_p65 : lw_okq (⟨"IronStairsModel", "leads", "(III)Z"⟩, 21) := ⟨⟨by decide +kernel, by decide +kernel⟩, List.mem_of_getElem? (i := 849) (by decide +kernel), List.mem_of_getElem? (i := 1064) (by decide +kernel), List.mem_of_getElem? (i := 1065) (by decide +kernel)⟩
theorem lw_p66 : lw_okq (⟨"IronStairsModel", "isLadderDown", "(II)Z"⟩, 21) := ⟨⟨by decide +kernel, by decide +kernel⟩, List.mem_of_getElem? (i := 849) (by decide +kernel), List.mem_of_getElem? (i := 1068) (by decide +kernel), List.mem_of_getElem? (i := 1069) (by decide +kernel)⟩
theorem lw_p67 : lw_okq (⟨"IronStairsModel", "takesEnd", "()Z"⟩, 21) := ⟨⟨by decide +kernel, by decide +kernel⟩, List.mem_of_getElem? (i := 849) (by decide +kernel), List.mem_of_getElem? (i := 1072) (by decide +kernel), List.mem_of_getElem? (i := 1073) (by decide +kernel)⟩
theorem lw_p68 : lw_okq (⟨"IronStairsModel", "copy", "(II)V"⟩, 21) := ⟨⟨by decide +kernel, by decide +kernel⟩, List.mem_of_getElem? (i := 849) (by decide +kernel), List.mem_of_getElem? (i := 1076) (by decide +kernel), List.mem_of_getElem? (i := 1077) (by decide +kernel)⟩
theorem lw_p69 : lw_okq (⟨"IronStairsModel", "minds", "()V"⟩, 21) := ⟨⟨by decide +kernel, by decide +kernel⟩, List.mem_of_getElem? (i := 849) (by decide +kernel), List.mem_of_getElem? (i := 1085) (by decide +kernel), List.mem_of_getElem? (i := 1086) (by decide +kernel)⟩
theorem lw_p70 : lw_okq (⟨"IronStairsModel", "isGoer", "(I)Z"⟩, 21) := ⟨⟨by decide +kernel, by decide +kernel⟩, List.mem_of_getElem? (i := 849) (by decide +kernel), List.mem_of_getElem? (i := 1093) (by decide +kernel), List.mem_of_getElem? (i := 1094) (by decide +kernel)⟩
theorem lw_p71 : lw_okq (⟨"IronStairsModel", "isLadder", "(I)Z"⟩, 21) := ⟨⟨by decide +kernel, by decide +kernel⟩, List.mem_of_getElem? (i := 849) (by decide +kernel), List.mem_of_getElem? (i := 1101) (by decide +kernel), List.mem_of_getElem? (i := 1102) (by decide +kernel)⟩
theorem lw_p72 : lw_okq (⟨"IronStairsModel", "no", "()I"⟩, 21) := ⟨⟨by decide +kernel, by decide +kernel⟩, List.mem_of_getElem? (i := 849) (by decide +kernel), List.mem_of_getElem? (i := 1109) (by decide +kernel), List.mem_of_getElem? (i := 1110) (by decide +kernel)⟩
theorem lw_p73 : lw_okq (⟨"IronStairsModel", "loudIn", "(II)I"⟩, 21) := ⟨⟨by decide +kernel, by decide +kernel⟩, List.mem_of_getElem? (i := 849) (by decide +kernel), List.mem_of_getElem? (i := 1117) (by decide +kernel), List.mem_of_getElem? (i := 1118) (by decide +kernel)⟩
theorem lw_p74 : lw_okq (⟨"IronStairsModel", "isWindow", "(I)Z"⟩, 21) := ⟨⟨by decide +kernel, by decide +kernel⟩, List.mem_of_getElem? (i := 849) (by decide +kernel), List.mem_of_getElem? (i := 1134) (by decide +kernel), List.mem_of_getElem? (i := 1135) (by decide +kernel)⟩
theorem lw_p75 : lw_okq (⟨"IronStairsModel", "heardBy", "(II)I"⟩, 21) := ⟨⟨by decide +kernel, by decide +kernel⟩, List.mem_of_getElem? (i := 849) (by decide +kernel), List.mem_of_getElem? (i := 1138) (by decide +kernel), List.mem_of_getElem? (i := 1139) (by decide +kernel)⟩
theorem lw_p76 : lw_okq (⟨"IronStairsModel", "hearsIn", "(III)Z"⟩, 21) := ⟨⟨by decide +kernel, by decide +kernel⟩, List.mem_of_getElem? (i := 849) (by decide +kernel), List.mem_of_getElem? (i := 1142) (by decide +kernel), List.mem_of_getElem? (i := 1143) (by decide +kernel)⟩
theorem lw_p77 : lw_okq (⟨"IronStairsModel", "tries", "()V"⟩, 21) := ⟨⟨by decide +kernel, by decide +kernel⟩, List.mem_of_getElem? (i := 849) (by decide +kernel), List.mem_of_getElem? (i := 1173) (by decide +kernel), List.mem_of_getElem? (i := 1174) (by decide +kernel)⟩
theorem lw_p78 : lw_okq (⟨"IronStairsModel", "laysTwo", "(II)V"⟩, 21) := ⟨⟨by decide +kernel, by decide +kernel⟩, List.mem_of_getElem? (i := 849) (by decide +kernel), List.mem_of_getElem? (i := 1181) (by decide +kernel), List.mem_of_getElem? (i := 1182) (by decide +kernel)⟩
theorem lw_p79 : lw_okq (⟨"IronStairsModel", "meetBy", "(III)I"⟩, 21) := ⟨⟨by decide +kernel, by decide +kernel⟩, List.mem_of_getElem? (i := 849) (by decide +kernel), List.mem_of_getElem? (i := 1185) (by decide +kernel), List.mem_of_getElem? (i := 1186) (by decide +kernel)⟩
def lw_privs_5 : List (MethodName × Nat) := [(⟨"IronStairsModel", "laysAway", "(II)V"⟩, 21), (⟨"IronStairsModel", "leads", "(III)Z"⟩, 21), (⟨"IronStairsModel", "isLadderDown", "(II)Z"⟩, 21), (⟨"IronStairsModel", "takesEnd", "()Z"⟩, 21), (⟨"IronStairsModel", "copy", "(II)V"⟩, 21), (⟨"IronStairsModel", "minds", "()V"⟩, 21), (⟨"IronStairsModel", "isGoer", "(I)Z"⟩, 21), (⟨"IronStairsModel", "isLadder", "(I)Z"⟩, 21), (⟨"IronStairsModel", "no", "()I"⟩, 21), (⟨"IronStairsModel", "loudIn", "(II)I"⟩, 21), (⟨"IronStairsModel", "isWindow", "(I)Z"⟩, 21), (⟨"IronStairsModel", "heardBy", "(II)I"⟩, 21), (⟨"IronStairsModel", "hearsIn", "(III)Z"⟩, 21), (⟨"IronStairsModel", "tries", "()V"⟩, 21), (⟨"IronStairsModel", "laysTwo", "(II)V"⟩, 21), (⟨"IronStairsModel", "meetBy", "(III)I"⟩, 21)]
theorem lw_r5 : ∀ q ∈ lw_privs_5, lw_okq q := List.forall_mem_cons.mpr ⟨lw_p64, List.forall_mem_cons.mpr ⟨lw_p65, List.forall_mem_cons.mpr ⟨lw_p66, List.forall_mem_cons.mpr ⟨lw_p67, List.forall_mem_cons.mpr ⟨lw_p68, List.forall_mem_cons.mpr ⟨lw_p69, List.forall_mem_cons.mpr ⟨lw_p70, List.forall_mem_cons.mpr ⟨lw_p71, List.forall_mem_cons.mpr ⟨lw_p72, List.forall_mem_cons.mpr ⟨lw_p73, List.forall_mem_cons.mpr ⟨lw_p74, List.forall_mem_cons.mpr ⟨lw_p75, List.forall_mem_cons.mpr ⟨lw_p76, List.forall_mem_cons.mpr ⟨lw_p77, List.forall_mem_cons.mpr ⟨lw_p78, List.forall_mem_cons.mpr ⟨lw_p79, fun _ h => absurd h List.not_mem_nil⟩⟩⟩⟩⟩⟩⟩⟩⟩⟩⟩⟩⟩⟩⟩⟩
theorem lw_p80 : lw_okq (⟨"IronStairsModel", "lostOnes", "(I)I"⟩, 21) := ⟨⟨by decide +kernel, by decide +kernel⟩, List.mem_of_getElem? (i := 849) (by decide +kernel), List.mem_of_getElem? (i := 1197) (by decide +kernel), List.mem_of_getElem? (i := 1198) (by decide +kernel)⟩
theorem lw_p81 : lw_okq (⟨"IronStairsModel", "bestDoors", "()I"⟩, 21) := ⟨⟨by decide +kernel, by decide +kernel⟩, List.mem_of_getElem? (i := 849) (by decide +kernel), List.mem_of_getElem? (i := 1212) (by decide +kernel), List.mem_of_getElem? (i := 1213) (by decide +kernel)⟩
theorem lw_p82 : lw_okq (⟨"IronStairsModel", "kindsOf", "(I)I"⟩, 21) := ⟨⟨by decide +kernel, by decide +kernel⟩, List.mem_of_getElem? (i := 849) (by decide +kernel), List.mem_of_getElem? (i := 1248) (by decide +kernel), List.mem_of_getElem? (i := 1249) (by decide +kernel)⟩
theorem lw_p83 : lw_okq (⟨"IronStairsModel", "greatest", "(I)I"⟩, 21) := ⟨⟨by decide +kernel, by decide +kernel⟩, List.mem_of_getElem? (i := 849) (by decide +kernel), List.mem_of_getElem? (i := 1256) (by decide +kernel), List.mem_of_getElem? (i := 1257) (by decide +kernel)⟩
theorem lw_p84 : lw_okq (⟨"IronStairsModel", "windowsOf", "(I)I"⟩, 21) := ⟨⟨by decide +kernel, by decide +kernel⟩, List.mem_of_getElem? (i := 849) (by decide +kernel), List.mem_of_getElem? (i := 1264) (by decide +kernel), List.mem_of_getElem? (i := 1265) (by decide +kernel)⟩
theorem lw_p85 : lw_okq (⟨"IronStairsModel", "rests", "(II)Z"⟩, 21) := ⟨⟨by decide +kernel, by decide +kernel⟩, List.mem_of_getElem? (i := 849) (by decide +kernel), List.mem_of_getElem? (i := 1279) (by decide +kernel), List.mem_of_getElem? (i := 1280) (by decide +kernel)⟩
theorem lw_p86 : lw_okq (⟨"IronStairsModel", "getsBy", "(IIZ)I"⟩, 21) := ⟨⟨by decide +kernel, by decide +kernel⟩, List.mem_of_getElem? (i := 849) (by decide +kernel), List.mem_of_getElem? (i := 1283) (by decide +kernel), List.mem_of_getElem? (i := 1284) (by decide +kernel)⟩
theorem lw_p87 : lw_okq (⟨"IronStairsModel", "countOf", "(I)I"⟩, 21) := ⟨⟨by decide +kernel, by decide +kernel⟩, List.mem_of_getElem? (i := 849) (by decide +kernel), List.mem_of_getElem? (i := 1323) (by decide +kernel), List.mem_of_getElem? (i := 1324) (by decide +kernel)⟩
theorem lw_p88 : lw_okq (⟨"IronStairsModel", "thereOnes", "()I"⟩, 21) := ⟨⟨by decide +kernel, by decide +kernel⟩, List.mem_of_getElem? (i := 849) (by decide +kernel), List.mem_of_getElem? (i := 1327) (by decide +kernel), List.mem_of_getElem? (i := 1328) (by decide +kernel)⟩
theorem lw_p89 : lw_okq (⟨"IronStairsModel", "mix", "(J)V"⟩, 21) := ⟨⟨by decide +kernel, by decide +kernel⟩, List.mem_of_getElem? (i := 849) (by decide +kernel), List.mem_of_getElem? (i := 1336) (by decide +kernel), List.mem_of_getElem? (i := 1337) (by decide +kernel)⟩
def lw_privs_6 : List (MethodName × Nat) := [(⟨"IronStairsModel", "lostOnes", "(I)I"⟩, 21), (⟨"IronStairsModel", "bestDoors", "()I"⟩, 21), (⟨"IronStairsModel", "kindsOf", "(I)I"⟩, 21), (⟨"IronStairsModel", "greatest", "(I)I"⟩, 21), (⟨"IronStairsModel", "windowsOf", "(I)I"⟩, 21), (⟨"IronStairsModel", "rests", "(II)Z"⟩, 21), (⟨"IronStairsModel", "getsBy", "(IIZ)I"⟩, 21), (⟨"IronStairsModel", "countOf", "(I)I"⟩, 21), (⟨"IronStairsModel", "thereOnes", "()I"⟩, 21), (⟨"IronStairsModel", "mix", "(J)V"⟩, 21)]
theorem lw_r6 : ∀ q ∈ lw_privs_6, lw_okq q := List.forall_mem_cons.mpr ⟨lw_p80, List.forall_mem_cons.mpr ⟨lw_p81, List.forall_mem_cons.mpr ⟨lw_p82, List.forall_mem_cons.mpr ⟨lw_p83, List.forall_mem_cons.mpr ⟨lw_p84, List.forall_mem_cons.mpr ⟨lw_p85, List.forall_mem_cons.mpr ⟨lw_p86, List.forall_mem_cons.mpr ⟨lw_p87, List.forall_mem_cons.mpr ⟨lw_p88, List.forall_mem_cons.mpr ⟨lw_p89, fun _ h => absurd h List.not_mem_nil⟩⟩⟩⟩⟩⟩⟩⟩⟩⟩
def lw_privs : List (MethodName × Nat) := lw_privs_1 ++ (lw_privs_2 ++ (lw_privs_3 ++ (lw_privs_4 ++ (lw_privs_5 ++ (lw_privs_6)))))
def lw_tbl : List Cond := k2_sels lw_privs ++ tables_1
theorem lw_privs_ok : ∀ q ∈ lw_privs, lw_okq q := by
  show ∀ q ∈ lw_privs_1 ++ (lw_privs_2 ++ (lw_privs_3 ++ (lw_privs_4 ++ (lw_privs_5 ++ (lw_privs_6))))), lw_okq q
  exact List.forall_mem_append.mpr ⟨lw_r1, List.forall_mem_append.mpr ⟨lw_r2, List.forall_mem_append.mpr ⟨lw_r3, List.forall_mem_append.mpr ⟨lw_r4, List.forall_mem_append.mpr ⟨lw_r5, lw_r6⟩⟩⟩⟩⟩
-- ===== end of PART A =====
def RX0 : String := "IronStairs$Back"
def TX0 : u_T := fun k => match k with
  | 0 => ("IronStairs$Back", "ladders", "LIronStairs$Rows;", true)
  | 1 => ("IronStairs$Back", "goers", "LIronStairs$Rows;", true)
  | 2 => ("IronStairs$Back", "windows", "LIronStairs$Rows;", true)
  | 3 => ("IronStairs$Back", "sounds", "LIronStairs$Rows;", true)
  | 4 => ("IronStairs$Back", "notes", "LIronStairs$Rows;", true)
  | 5 => ("IronStairs$Back", "marks", "LIronStairs$Rows;", true)
  | 6 => ("IronStairs$Back", "past", "LIronStairs$Rows;", true)
  | 7 => ("IronStairs$Back", "ways", "LIronStairs$Ways;", true)
  | _ => ("IronStairs$Back", "minute", "I", false)
def tyX0 : Nat → FieldType := fun k => match k with
  | 0 => .object "IronStairs$Rows"
  | 1 => .object "IronStairs$Rows"
  | 2 => .object "IronStairs$Rows"
  | 3 => .object "IronStairs$Rows"
  | 4 => .object "IronStairs$Rows"
  | 5 => .object "IronStairs$Rows"
  | 6 => .object "IronStairs$Rows"
  | 7 => .object "IronStairs$Ways"
  | _ => .int
theorem nmX0 : ∀ a, a < 9 → ∀ b, b < 9 → a ≠ b → (TX0 a).2.1 ≠ (TX0 b).2.1 := by decide +kernel
theorem tyX0_ok : ∀ k, k < 9 → parseFieldDescriptor (TX0 k).2.2.1 = some (tyX0 k) := by decide +kernel
abbrev cX0_init : ByteArray := prog_2_method_1_code
def yX0_init : MethodName := ⟨RX0, "<init>", "()V"⟩
abbrev cX0_reset : ByteArray := prog_2_method_2_code
def yX0_reset : MethodName := ⟨RX0, "reset", "()V"⟩
abbrev cX0_take : ByteArray := prog_2_method_3_code
def yX0_take : MethodName := ⟨RX0, "take", "(LIronStairs$Back;)V"⟩
abbrev cX0_hasLadder : ByteArray := prog_2_method_4_code
def yX0_hasLadder : MethodName := ⟨RX0, "hasLadder", "(I)Z"⟩
abbrev cX0_addLadder : ByteArray := prog_2_method_5_code
def yX0_addLadder : MethodName := ⟨RX0, "addLadder", "(I)I"⟩
abbrev cX0_addGoer : ByteArray := prog_2_method_6_code
def yX0_addGoer : MethodName := ⟨RX0, "addGoer", "(III)I"⟩
abbrev cX0_addWindow : ByteArray := prog_2_method_7_code
def yX0_addWindow : MethodName := ⟨RX0, "addWindow", "(II)I"⟩
abbrev cX0_turnGoer : ByteArray := prog_2_method_8_code
def yX0_turnGoer : MethodName := ⟨RX0, "turnGoer", "(I)I"⟩
abbrev cX0_drawLadder : ByteArray := prog_2_method_9_code
def yX0_drawLadder : MethodName := ⟨RX0, "drawLadder", "(I)I"⟩
abbrev cX0_remember : ByteArray := prog_2_method_10_code
def yX0_remember : MethodName := ⟨RX0, "remember", "()V"⟩
abbrev cX0_recall : ByteArray := prog_2_method_11_code
def yX0_recall : MethodName := ⟨RX0, "recall", "()V"⟩
abbrev cX0_pass : ByteArray := prog_2_method_12_code
def yX0_pass : MethodName := ⟨RX0, "pass", "(I)I"⟩
abbrev cX0_trace : ByteArray := prog_2_method_13_code
def yX0_trace : MethodName := ⟨RX0, "trace", "(ILIronStairs$Row;)V"⟩
abbrev cX0_arrived : ByteArray := prog_2_method_14_code
def yX0_arrived : MethodName := ⟨RX0, "arrived", "()I"⟩
abbrev cX0_nextOf : ByteArray := prog_2_method_15_code
def yX0_nextOf : MethodName := ⟨RX0, "nextOf", "(I)I"⟩
abbrev cX0_loudOf : ByteArray := prog_2_method_16_code
def yX0_loudOf : MethodName := ⟨RX0, "loudOf", "(I)I"⟩
abbrev cX0_heardAt : ByteArray := prog_2_method_17_code
def yX0_heardAt : MethodName := ⟨RX0, "heardAt", "(I)I"⟩
abbrev cX0_heardInAll : ByteArray := prog_2_method_18_code
def yX0_heardInAll : MethodName := ⟨RX0, "heardInAll", "()I"⟩
abbrev cX0_loudStep : ByteArray := prog_2_method_19_code
def yX0_loudStep : MethodName := ⟨RX0, "loudStep", "(I)I"⟩
abbrev cX0_hears : ByteArray := prog_2_method_20_code
def yX0_hears : MethodName := ⟨RX0, "hears", "(III)Z"⟩
abbrev cX0_stepsBetween : ByteArray := prog_2_method_21_code
def yX0_stepsBetween : MethodName := ⟨RX0, "stepsBetween", "(II)I"⟩
abbrev cX0_stepsToGround : ByteArray := prog_2_method_22_code
def yX0_stepsToGround : MethodName := ⟨RX0, "stepsToGround", "(I)I"⟩
abbrev cX0_laddersDownOn : ByteArray := prog_2_method_23_code
def yX0_laddersDownOn : MethodName := ⟨RX0, "laddersDownOn", "(II)I"⟩
abbrev cX0_goalOf : ByteArray := prog_2_method_24_code
def yX0_goalOf : MethodName := ⟨RX0, "goalOf", "(I)I"⟩
abbrev cX0_layWays : ByteArray := prog_2_method_25_code
def yX0_layWays : MethodName := ⟨RX0, "layWays", "()V"⟩
def RX1 : String := "IronStairs$Reader"
def TX1 : u_T := fun k => match k with
  | 0 => ("IronStairs$Reader", "bytes", "LIronStairs$Row;", true)
  | 1 => ("IronStairs$Reader", "length", "I", false)
  | 2 => ("IronStairs$Reader", "place", "I", false)
  | 3 => ("IronStairs$Reader", "start", "I", false)
  | 4 => ("IronStairs$Reader", "token", "I", false)
  | _ => ("IronStairs$Reader", "value", "I", false)
def tyX1 : Nat → FieldType := fun k => match k with
  | 0 => .object "IronStairs$Row"
  | 1 => .int
  | 2 => .int
  | 3 => .int
  | 4 => .int
  | _ => .int
theorem nmX1 : ∀ a, a < 6 → ∀ b, b < 6 → a ≠ b → (TX1 a).2.1 ≠ (TX1 b).2.1 := by decide +kernel
theorem tyX1_ok : ∀ k, k < 6 → parseFieldDescriptor (TX1 k).2.2.1 = some (tyX1 k) := by decide +kernel
abbrev cX1_init : ByteArray := prog_3_method_1_code
def yX1_init : MethodName := ⟨RX1, "<init>", "()V"⟩
abbrev cX1_length : ByteArray := prog_3_method_2_code
def yX1_length : MethodName := ⟨RX1, "length", "()I"⟩
abbrev cX1_isFull : ByteArray := prog_3_method_3_code
def yX1_isFull : MethodName := ⟨RX1, "isFull", "()Z"⟩
abbrev cX1_add : ByteArray := prog_3_method_4_code
def yX1_add : MethodName := ⟨RX1, "add", "(I)I"⟩
abbrev cX1_empty : ByteArray := prog_3_method_5_code
def yX1_empty : MethodName := ⟨RX1, "empty", "()I"⟩
abbrev cX1_readInto : ByteArray := prog_3_method_6_code
def yX1_readInto : MethodName := ⟨RX1, "readInto", "(LIronStairs$Back;)I"⟩
abbrev cX1_readItem : ByteArray := prog_3_method_7_code
def yX1_readItem : MethodName := ⟨RX1, "readItem", "(LIronStairs$Back;)Z"⟩
abbrev cX1_readLadder : ByteArray := prog_3_method_8_code
def yX1_readLadder : MethodName := ⟨RX1, "readLadder", "(LIronStairs$Back;)Z"⟩
abbrev cX1_readGoer : ByteArray := prog_3_method_9_code
def yX1_readGoer : MethodName := ⟨RX1, "readGoer", "(LIronStairs$Back;)Z"⟩
abbrev cX1_readWindow : ByteArray := prog_3_method_10_code
def yX1_readWindow : MethodName := ⟨RX1, "readWindow", "(LIronStairs$Back;)Z"⟩
abbrev cX1_readTurn : ByteArray := prog_3_method_11_code
def yX1_readTurn : MethodName := ⟨RX1, "readTurn", "(LIronStairs$Back;)Z"⟩
abbrev cX1_readDraw : ByteArray := prog_3_method_12_code
def yX1_readDraw : MethodName := ⟨RX1, "readDraw", "(LIronStairs$Back;)Z"⟩
abbrev cX1_readMinutes : ByteArray := prog_3_method_13_code
def yX1_readMinutes : MethodName := ⟨RX1, "readMinutes", "(LIronStairs$Back;)Z"⟩
abbrev cX1_nextIsStop : ByteArray := prog_3_method_14_code
def yX1_nextIsStop : MethodName := ⟨RX1, "nextIsStop", "()Z"⟩
abbrev cX1_nextIsNumber : ByteArray := prog_3_method_15_code
def yX1_nextIsNumber : MethodName := ⟨RX1, "nextIsNumber", "(II)Z"⟩
abbrev cX1_isWord : ByteArray := prog_3_method_16_code
def yX1_isWord : MethodName := ⟨RX1, "isWord", "(Ljava/lang/String;)Z"⟩
abbrev cX1_nextToken : ByteArray := prog_3_method_17_code
def yX1_nextToken : MethodName := ⟨RX1, "nextToken", "()V"⟩
abbrev cX1_tokenBegunBy : ByteArray := prog_3_method_18_code
def yX1_tokenBegunBy : MethodName := ⟨RX1, "tokenBegunBy", "(I)I"⟩
def RX2 : String := "IronStairs$Row"
def TX2 : u_T := fun k => match k with
  | _ => ("IronStairs$Row", "cells", "[I", true)
def tyX2 : Nat → FieldType := fun k => match k with
  | _ => .array .int
theorem nmX2 : ∀ a, a < 1 → ∀ b, b < 1 → a ≠ b → (TX2 a).2.1 ≠ (TX2 b).2.1 := by decide +kernel
theorem tyX2_ok : ∀ k, k < 1 → parseFieldDescriptor (TX2 k).2.2.1 = some (tyX2 k) := by decide +kernel
abbrev cX2_init : ByteArray := prog_4_method_1_code
def yX2_init : MethodName := ⟨RX2, "<init>", "(I)V"⟩
abbrev cX2_get : ByteArray := prog_4_method_2_code
def yX2_get : MethodName := ⟨RX2, "get", "(I)I"⟩
abbrev cX2_set : ByteArray := prog_4_method_3_code
def yX2_set : MethodName := ⟨RX2, "set", "(II)V"⟩
abbrev cX2_take : ByteArray := prog_4_method_4_code
def yX2_take : MethodName := ⟨RX2, "take", "(LIronStairs$Row;)V"⟩
def RX3 : String := "IronStairs$Rows"
def TX3 : u_T := fun k => match k with
  | 0 => ("IronStairs$Rows", "limit", "I", true)
  | 1 => ("IronStairs$Rows", "width", "I", true)
  | 2 => ("IronStairs$Rows", "cells", "LIronStairs$Row;", true)
  | _ => ("IronStairs$Rows", "size", "I", false)
def tyX3 : Nat → FieldType := fun k => match k with
  | 0 => .int
  | 1 => .int
  | 2 => .object "IronStairs$Row"
  | _ => .int
theorem nmX3 : ∀ a, a < 4 → ∀ b, b < 4 → a ≠ b → (TX3 a).2.1 ≠ (TX3 b).2.1 := by decide +kernel
theorem tyX3_ok : ∀ k, k < 4 → parseFieldDescriptor (TX3 k).2.2.1 = some (tyX3 k) := by decide +kernel
abbrev cX3_init : ByteArray := prog_5_method_1_code
def yX3_init : MethodName := ⟨RX3, "<init>", "(II)V"⟩
abbrev cX3_size : ByteArray := prog_5_method_2_code
def yX3_size : MethodName := ⟨RX3, "size", "()I"⟩
abbrev cX3_isFull : ByteArray := prog_5_method_3_code
def yX3_isFull : MethodName := ⟨RX3, "isFull", "()Z"⟩
abbrev cX3_has : ByteArray := prog_5_method_4_code
def yX3_has : MethodName := ⟨RX3, "has", "(I)Z"⟩
abbrev cX3_get : ByteArray := prog_5_method_5_code
def yX3_get : MethodName := ⟨RX3, "get", "(II)I"⟩
abbrev cX3_set : ByteArray := prog_5_method_6_code
def yX3_set : MethodName := ⟨RX3, "set", "(III)V"⟩
abbrev cX3_add : ByteArray := prog_5_method_7_code
def yX3_add : MethodName := ⟨RX3, "add", "(IIII)I"⟩
abbrev cX3_dropFirst : ByteArray := prog_5_method_8_code
def yX3_dropFirst : MethodName := ⟨RX3, "dropFirst", "()V"⟩
abbrev cX3_dropLast : ByteArray := prog_5_method_9_code
def yX3_dropLast : MethodName := ⟨RX3, "dropLast", "()V"⟩
abbrev cX3_empty : ByteArray := prog_5_method_10_code
def yX3_empty : MethodName := ⟨RX3, "empty", "()I"⟩
abbrev cX3_take : ByteArray := prog_5_method_11_code
def yX3_take : MethodName := ⟨RX3, "take", "(LIronStairs$Rows;)V"⟩
abbrev cX3_mixInto : ByteArray := prog_5_method_12_code
def yX3_mixInto : MethodName := ⟨RX3, "mixInto", "(J)J"⟩
def RX4 : String := "IronStairs$Ways"
def TX4 : u_T := fun k => match k with
  | 0 => ("IronStairs$Ways", "steps", "LIronStairs$Row;", true)
  | 1 => ("IronStairs$Ways", "queue", "LIronStairs$Row;", true)
  | 2 => ("IronStairs$Ways", "known", "I", false)
  | _ => ("IronStairs$Ways", "open", "I", false)
def tyX4 : Nat → FieldType := fun k => match k with
  | 0 => .object "IronStairs$Row"
  | 1 => .object "IronStairs$Row"
  | 2 => .int
  | _ => .int
theorem nmX4 : ∀ a, a < 4 → ∀ b, b < 4 → a ≠ b → (TX4 a).2.1 ≠ (TX4 b).2.1 := by decide +kernel
theorem tyX4_ok : ∀ k, k < 4 → parseFieldDescriptor (TX4 k).2.2.1 = some (tyX4 k) := by decide +kernel
abbrev cX4_init : ByteArray := prog_6_method_1_code
def yX4_init : MethodName := ⟨RX4, "<init>", "()V"⟩
abbrev cX4_lay : ByteArray := prog_6_method_2_code
def yX4_lay : MethodName := ⟨RX4, "lay", "(I)V"⟩
abbrev cX4_between : ByteArray := prog_6_method_3_code
def yX4_between : MethodName := ⟨RX4, "between", "(II)I"⟩
abbrev cX4_next : ByteArray := prog_6_method_4_code
def yX4_next : MethodName := ⟨RX4, "next", "(II)I"⟩
abbrev cX4_spread : ByteArray := prog_6_method_5_code
def yX4_spread : MethodName := ⟨RX4, "spread", "(I)V"⟩
abbrev cX4_beside : ByteArray := prog_6_method_6_code
def yX4_beside : MethodName := ⟨RX4, "beside", "(II)I"⟩
def RX5 : String := "IronStairs"
def TX5 : u_T := fun k => match k with
  | 0 => ("IronStairs", "now", "LIronStairs$Back;", true)
  | 1 => ("IronStairs", "spare", "LIronStairs$Back;", true)
  | 2 => ("IronStairs", "image0", "LIronStairs$Back;", true)
  | 3 => ("IronStairs", "image1", "LIronStairs$Back;", true)
  | 4 => ("IronStairs", "kept0", "Z", false)
  | 5 => ("IronStairs", "kept1", "Z", false)
  | 6 => ("IronStairs", "reader", "LIronStairs$Reader;", true)
  | 7 => ("IronStairs", "refused", "LIronStairs$Row;", true)
  | 8 => ("IronStairs", "above", "J", false)
  | 9 => ("IronStairs", "below", "J", false)
  | 10 => ("IronStairs", "pathA", "LIronStairs$Row;", true)
  | 11 => ("IronStairs", "pathB", "LIronStairs$Row;", true)
  | 12 => ("IronStairs", "met", "LIronStairs$Row;", true)
  | 13 => ("IronStairs", "toHomes", "LIronStairs$Row;", true)
  | _ => ("IronStairs", "least", "LIronStairs$Row;", true)
def tyX5 : Nat → FieldType := fun k => match k with
  | 0 => .object "IronStairs$Back"
  | 1 => .object "IronStairs$Back"
  | 2 => .object "IronStairs$Back"
  | 3 => .object "IronStairs$Back"
  | 4 => .boolean
  | 5 => .boolean
  | 6 => .object "IronStairs$Reader"
  | 7 => .object "IronStairs$Row"
  | 8 => .long
  | 9 => .long
  | 10 => .object "IronStairs$Row"
  | 11 => .object "IronStairs$Row"
  | 12 => .object "IronStairs$Row"
  | 13 => .object "IronStairs$Row"
  | _ => .object "IronStairs$Row"
theorem nmX5 : ∀ a, a < 15 → ∀ b, b < 15 → a ≠ b → (TX5 a).2.1 ≠ (TX5 b).2.1 := by decide +kernel
theorem tyX5_ok : ∀ k, k < 15 → parseFieldDescriptor (TX5 k).2.2.1 = some (tyX5 k) := by decide +kernel
abbrev cX5_init : ByteArray := prog_1_method_1_code
def yX5_init : MethodName := ⟨RX5, "<init>", "()V"⟩
abbrev cX5_back : ByteArray := prog_1_method_2_code
def yX5_back : MethodName := ⟨RX5, "back", "()I"⟩
abbrev cX5_ladder : ByteArray := prog_1_method_3_code
def yX5_ladder : MethodName := ⟨RX5, "ladder", "(I)I"⟩
abbrev cX5_goer : ByteArray := prog_1_method_4_code
def yX5_goer : MethodName := ⟨RX5, "goer", "(III)I"⟩
abbrev cX5_window : ByteArray := prog_1_method_5_code
def yX5_window : MethodName := ⟨RX5, "window", "(II)I"⟩
abbrev cX5_type : ByteArray := prog_1_method_6_code
def yX5_type : MethodName := ⟨RX5, "type", "(I)I"⟩
abbrev cX5_clear : ByteArray := prog_1_method_7_code
def yX5_clear : MethodName := ⟨RX5, "clear", "()I"⟩
abbrev cX5_read : ByteArray := prog_1_method_8_code
def yX5_read : MethodName := ⟨RX5, "read", "()I"⟩
abbrev cX5_minutes : ByteArray := prog_1_method_9_code
def yX5_minutes : MethodName := ⟨RX5, "minutes", "(I)I"⟩
abbrev cX5_turns : ByteArray := prog_1_method_10_code
def yX5_turns : MethodName := ⟨RX5, "turns", "(I)I"⟩
abbrev cX5_draws : ByteArray := prog_1_method_11_code
def yX5_draws : MethodName := ⟨RX5, "draws", "(I)I"⟩
abbrev cX5_undo : ByteArray := prog_1_method_12_code
def yX5_undo : MethodName := ⟨RX5, "undo", "()I"⟩
abbrev cX5_of : ByteArray := prog_1_method_13_code
def yX5_of : MethodName := ⟨RX5, "of", "(II)I"⟩
abbrev cX5_about : ByteArray := prog_1_method_14_code
def yX5_about : MethodName := ⟨RX5, "about", "(II)I"⟩
abbrev cX5_rungs : ByteArray := prog_1_method_15_code
def yX5_rungs : MethodName := ⟨RX5, "rungs", "(II)I"⟩
abbrev cX5_far : ByteArray := prog_1_method_16_code
def yX5_far : MethodName := ⟨RX5, "far", "(II)I"⟩
abbrev cX5_where : ByteArray := prog_1_method_17_code
def yX5_where : MethodName := ⟨RX5, "where", "(II)I"⟩
abbrev cX5_meet : ByteArray := prog_1_method_18_code
def yX5_meet : MethodName := ⟨RX5, "meet", "(II)I"⟩
abbrev cX5_waits : ByteArray := prog_1_method_19_code
def yX5_waits : MethodName := ⟨RX5, "waits", "(III)I"⟩
abbrev cX5_down : ByteArray := prog_1_method_20_code
def yX5_down : MethodName := ⟨RX5, "down", "(I)I"⟩
abbrev cX5_cut : ByteArray := prog_1_method_21_code
def yX5_cut : MethodName := ⟨RX5, "cut", "(I)I"⟩
abbrev cX5_doors : ByteArray := prog_1_method_22_code
def yX5_doors : MethodName := ⟨RX5, "doors", "(I)I"⟩
abbrev cX5_sound : ByteArray := prog_1_method_23_code
def yX5_sound : MethodName := ⟨RX5, "sound", "(III)I"⟩
abbrev cX5_who : ByteArray := prog_1_method_24_code
def yX5_who : MethodName := ⟨RX5, "who", "()I"⟩
abbrev cX5_note : ByteArray := prog_1_method_25_code
def yX5_note : MethodName := ⟨RX5, "note", "(IIII)I"⟩
abbrev cX5_mark : ByteArray := prog_1_method_26_code
def yX5_mark : MethodName := ⟨RX5, "mark", "(IIII)I"⟩
abbrev cX5_forget : ByteArray := prog_1_method_27_code
def yX5_forget : MethodName := ⟨RX5, "forget", "(I)I"⟩
abbrev cX5_is : ByteArray := prog_1_method_28_code
def yX5_is : MethodName := ⟨RX5, "is", "(I)I"⟩
abbrev cX5_look : ByteArray := prog_1_method_29_code
def yX5_look : MethodName := ⟨RX5, "look", "(I)I"⟩
abbrev cX5_kinds : ByteArray := prog_1_method_30_code
def yX5_kinds : MethodName := ⟨RX5, "kinds", "(I)I"⟩
abbrev cX5_ask : ByteArray := prog_1_method_31_code
def yX5_ask : MethodName := ⟨RX5, "ask", "(I)I"⟩
abbrev cX5_shy : ByteArray := prog_1_method_32_code
def yX5_shy : MethodName := ⟨RX5, "shy", "(III)I"⟩
abbrev cX5_odds : ByteArray := prog_1_method_33_code
def yX5_odds : MethodName := ⟨RX5, "odds", "(III)I"⟩
abbrev cX5_nights : ByteArray := prog_1_method_34_code
def yX5_nights : MethodName := ⟨RX5, "nights", "(II)I"⟩
abbrev cX5_part : ByteArray := prog_1_method_35_code
def yX5_part : MethodName := ⟨RX5, "part", "(I)J"⟩
abbrev cX5_image : ByteArray := prog_1_method_36_code
def yX5_image : MethodName := ⟨RX5, "image", "(I)I"⟩
abbrev cX5_from : ByteArray := prog_1_method_37_code
def yX5_from : MethodName := ⟨RX5, "from", "(I)I"⟩
abbrev cX5_status : ByteArray := prog_1_method_38_code
def yX5_status : MethodName := ⟨RX5, "status", "(I)I"⟩
abbrev cX5_count : ByteArray := prog_1_method_39_code
def yX5_count : MethodName := ⟨RX5, "count", "(I)I"⟩
abbrev cX5_digest : ByteArray := prog_1_method_40_code
def yX5_digest : MethodName := ⟨RX5, "digest", "()J"⟩
abbrev cX5_bad : ByteArray := prog_1_method_41_code
def yX5_bad : MethodName := ⟨RX5, "bad", "()I"⟩
abbrev cX5_badAs : ByteArray := prog_1_method_42_code
def yX5_badAs : MethodName := ⟨RX5, "badAs", "(I)I"⟩
abbrev cX5_no : ByteArray := prog_1_method_43_code
def yX5_no : MethodName := ⟨RX5, "no", "()I"⟩
abbrev cX5_full : ByteArray := prog_1_method_44_code
def yX5_full : MethodName := ⟨RX5, "full", "()I"⟩
abbrev cX5_within : ByteArray := prog_1_method_45_code
def yX5_within : MethodName := ⟨RX5, "within", "(III)Z"⟩
abbrev cX5_isCell : ByteArray := prog_1_method_46_code
def yX5_isCell : MethodName := ⟨RX5, "isCell", "(I)Z"⟩
abbrev cX5_areTwoGoers : ByteArray := prog_1_method_47_code
def yX5_areTwoGoers : MethodName := ⟨RX5, "areTwoGoers", "(II)Z"⟩
abbrev cX5_howMany : ByteArray := prog_1_method_48_code
def yX5_howMany : MethodName := ⟨RX5, "howMany", "(I)I"⟩
abbrev cX5_firstMeeting : ByteArray := prog_1_method_49_code
def yX5_firstMeeting : MethodName := ⟨RX5, "firstMeeting", "(III)I"⟩
abbrev cX5_goersCutOff : ByteArray := prog_1_method_50_code
def yX5_goersCutOff : MethodName := ⟨RX5, "goersCutOff", "(I)I"⟩
abbrev cX5_climbsDown : ByteArray := prog_1_method_51_code
def yX5_climbsDown : MethodName := ⟨RX5, "climbsDown", "(II)Z"⟩
abbrev cX5_fillToHomes : ByteArray := prog_1_method_52_code
def yX5_fillToHomes : MethodName := ⟨RX5, "fillToHomes", "()V"⟩
abbrev cX5_fillLeast : ByteArray := prog_1_method_53_code
def yX5_fillLeast : MethodName := ⟨RX5, "fillLeast", "()V"⟩
abbrev cX5_leastBehind : ByteArray := prog_1_method_54_code
def yX5_leastBehind : MethodName := ⟨RX5, "leastBehind", "(I)I"⟩
abbrev cX5_wayThrough : ByteArray := prog_1_method_55_code
def yX5_wayThrough : MethodName := ⟨RX5, "wayThrough", "(III)I"⟩
abbrev cX5_homeChosenBy : ByteArray := prog_1_method_56_code
def yX5_homeChosenBy : MethodName := ⟨RX5, "homeChosenBy", "(I)I"⟩
abbrev cX5_firstHome : ByteArray := prog_1_method_57_code
def yX5_firstHome : MethodName := ⟨RX5, "firstHome", "(II)I"⟩
abbrev cX5_fitsSounds : ByteArray := prog_1_method_58_code
def yX5_fitsSounds : MethodName := ⟨RX5, "fitsSounds", "(I)Z"⟩
abbrev cX5_goerKinds : ByteArray := prog_1_method_59_code
def yX5_goerKinds : MethodName := ⟨RX5, "goerKinds", "(I)I"⟩
abbrev cX5_fitsNotes : ByteArray := prog_1_method_60_code
def yX5_fitsNotes : MethodName := ⟨RX5, "fitsNotes", "(II)Z"⟩
abbrev cX5_mostAlike : ByteArray := prog_1_method_61_code
def yX5_mostAlike : MethodName := ⟨RX5, "mostAlike", "(III)I"⟩
abbrev cX5_windowKinds : ByteArray := prog_1_method_62_code
def yX5_windowKinds : MethodName := ⟨RX5, "windowKinds", "(I)I"⟩
abbrev cX5_fitsMarks : ByteArray := prog_1_method_63_code
def yX5_fitsMarks : MethodName := ⟨RX5, "fitsMarks", "(II)Z"⟩
abbrev cX5_greaterPart : ByteArray := prog_1_method_64_code
def yX5_greaterPart : MethodName := ⟨RX5, "greaterPart", "(III)I"⟩
abbrev cX5_fillMet : ByteArray := prog_1_method_65_code
def yX5_fillMet : MethodName := ⟨RX5, "fillMet", "(II)V"⟩
abbrev cX5_gainOfA : ByteArray := prog_1_method_66_code
def yX5_gainOfA : MethodName := ⟨RX5, "gainOfA", "(II)I"⟩
abbrev cX5_gainOfB : ByteArray := prog_1_method_67_code
def yX5_gainOfB : MethodName := ⟨RX5, "gainOfB", "(II)I"⟩
abbrev cX5_rests : ByteArray := prog_1_method_68_code
def yX5_rests : MethodName := ⟨RX5, "rests", "(II)Z"⟩
abbrev cX5_power : ByteArray := prog_1_method_69_code
def yX5_power : MethodName := ⟨RX5, "power", "(JI)J"⟩
abbrev cX5_commonDivisor : ByteArray := prog_1_method_70_code
def yX5_commonDivisor : MethodName := ⟨RX5, "commonDivisor", "(JJ)J"⟩
abbrev cX5_floorOf : ByteArray := prog_1_method_71_code
def yX5_floorOf : MethodName := ⟨RX5, "floorOf", "(I)I"⟩
abbrev cX5_apart : ByteArray := prog_1_method_72_code
def yX5_apart : MethodName := ⟨RX5, "apart", "(II)I"⟩
abbrev cX5_loudness : ByteArray := prog_1_method_73_code
def yX5_loudness : MethodName := ⟨RX5, "loudness", "(III)I"⟩
abbrev cX5_slipper : ByteArray := prog_1_method_74_code
def yX5_slipper : MethodName := ⟨RX5, "slipper", "(I)I"⟩
abbrev cX5_boot : ByteArray := prog_1_method_75_code
def yX5_boot : MethodName := ⟨RX5, "boot", "(I)I"⟩
abbrev cX5_hearing : ByteArray := prog_1_method_76_code
def yX5_hearing : MethodName := ⟨RX5, "hearing", "(III)I"⟩
abbrev cX5_light : ByteArray := prog_1_method_77_code
def yX5_light : MethodName := ⟨RX5, "light", "(II)I"⟩
abbrev cX5_deaf : ByteArray := prog_1_method_78_code
def yX5_deaf : MethodName := ⟨RX5, "deaf", "(II)I"⟩
def RX6 : String := "IronStairsModel"
def TX6 : u_T := fun k => match k with
  | 0 => ("IronStairsModel", "w", "[I", true)
  | 1 => ("IronStairsModel", "isKept", "[Z", true)
  | 2 => ("IronStairsModel", "text", "[I", true)
  | 3 => ("IronStairsModel", "texted", "I", false)
  | 4 => ("IronStairsModel", "above", "J", false)
  | 5 => ("IronStairsModel", "below", "J", false)
  | 6 => ("IronStairsModel", "statuses", "[I", true)
  | 7 => ("IronStairsModel", "at", "I", false)
  | 8 => ("IronStairsModel", "start", "I", false)
  | 9 => ("IronStairsModel", "number", "I", false)
  | 10 => ("IronStairsModel", "away", "[I", true)
  | 11 => ("IronStairsModel", "queue", "[I", true)
  | 12 => ("IronStairsModel", "nexts", "[I", true)
  | 13 => ("IronStairsModel", "one", "[I", true)
  | 14 => ("IronStairsModel", "two", "[I", true)
  | 15 => ("IronStairsModel", "most", "I", false)
  | 16 => ("IronStairsModel", "homes", "[I", true)
  | 17 => ("IronStairsModel", "door", "[I", true)
  | 18 => ("IronStairsModel", "bestDoor", "[I", true)
  | 19 => ("IronStairsModel", "sixOf", "[I", true)
  | _ => ("IronStairsModel", "h", "J", false)
def tyX6 : Nat → FieldType := fun k => match k with
  | 0 => .array .int
  | 1 => .array .boolean
  | 2 => .array .int
  | 3 => .int
  | 4 => .long
  | 5 => .long
  | 6 => .array .int
  | 7 => .int
  | 8 => .int
  | 9 => .int
  | 10 => .array .int
  | 11 => .array .int
  | 12 => .array .int
  | 13 => .array .int
  | 14 => .array .int
  | 15 => .int
  | 16 => .array .int
  | 17 => .array .int
  | 18 => .array .int
  | 19 => .array .int
  | _ => .long
theorem nmX6 : ∀ a, a < 21 → ∀ b, b < 21 → a ≠ b → (TX6 a).2.1 ≠ (TX6 b).2.1 := by decide +kernel
theorem tyX6_ok : ∀ k, k < 21 → parseFieldDescriptor (TX6 k).2.2.1 = some (tyX6 k) := by decide +kernel
abbrev cX6_init : ByteArray := prog_8_method_1_code
def yX6_init : MethodName := ⟨RX6, "<init>", "()V"⟩
abbrev cX6_in : ByteArray := prog_8_method_3_code
def yX6_in : MethodName := ⟨RX6, "in", "(JJJ)Z"⟩
abbrev cX6_has : ByteArray := prog_8_method_4_code
def yX6_has : MethodName := ⟨RX6, "has", "(II)Z"⟩
abbrev cX6_ones : ByteArray := prog_8_method_5_code
def yX6_ones : MethodName := ⟨RX6, "ones", "(I)I"⟩
abbrev cX6_bad : ByteArray := prog_8_method_6_code
def yX6_bad : MethodName := ⟨RX6, "bad", "(I)I"⟩
abbrev cX6_no : ByteArray := prog_8_method_7_code
def yX6_no : MethodName := ⟨RX6, "no", "()I"⟩
abbrev cX6_full : ByteArray := prog_8_method_8_code
def yX6_full : MethodName := ⟨RX6, "full", "()I"⟩
abbrev cX6_copy : ByteArray := prog_8_method_9_code
def yX6_copy : MethodName := ⟨RX6, "copy", "(II)V"⟩
abbrev cX6_empties : ByteArray := prog_8_method_10_code
def yX6_empties : MethodName := ⟨RX6, "empties", "(I)V"⟩
abbrev cX6_isGoer : ByteArray := prog_8_method_11_code
def yX6_isGoer : MethodName := ⟨RX6, "isGoer", "(I)Z"⟩
abbrev cX6_isWindow : ByteArray := prog_8_method_12_code
def yX6_isWindow : MethodName := ⟨RX6, "isWindow", "(I)Z"⟩
abbrev cX6_isLadder : ByteArray := prog_8_method_13_code
def yX6_isLadder : MethodName := ⟨RX6, "isLadder", "(I)Z"⟩
abbrev cX6_isCell : ByteArray := prog_8_method_14_code
def yX6_isCell : MethodName := ⟨RX6, "isCell", "(I)Z"⟩
abbrev cX6_slipper : ByteArray := prog_8_method_15_code
def yX6_slipper : MethodName := ⟨RX6, "slipper", "(I)I"⟩
abbrev cX6_boot : ByteArray := prog_8_method_16_code
def yX6_boot : MethodName := ⟨RX6, "boot", "(I)I"⟩
abbrev cX6_loudOf : ByteArray := prog_8_method_17_code
def yX6_loudOf : MethodName := ⟨RX6, "loudOf", "(III)I"⟩
abbrev cX6_light : ByteArray := prog_8_method_18_code
def yX6_light : MethodName := ⟨RX6, "light", "(II)I"⟩
abbrev cX6_deaf : ByteArray := prog_8_method_19_code
def yX6_deaf : MethodName := ⟨RX6, "deaf", "(II)I"⟩
abbrev cX6_heardOf : ByteArray := prog_8_method_20_code
def yX6_heardOf : MethodName := ⟨RX6, "heardOf", "(III)I"⟩
abbrev cX6_back : ByteArray := prog_8_method_21_code
def yX6_back : MethodName := ⟨RX6, "back", "()I"⟩
abbrev cX6_hasLadder : ByteArray := prog_8_method_22_code
def yX6_hasLadder : MethodName := ⟨RX6, "hasLadder", "(II)Z"⟩
abbrev cX6_addsLadder : ByteArray := prog_8_method_23_code
def yX6_addsLadder : MethodName := ⟨RX6, "addsLadder", "(II)V"⟩
abbrev cX6_ladder : ByteArray := prog_8_method_24_code
def yX6_ladder : MethodName := ⟨RX6, "ladder", "(I)I"⟩
abbrev cX6_addsGoer : ByteArray := prog_8_method_25_code
def yX6_addsGoer : MethodName := ⟨RX6, "addsGoer", "(IIII)V"⟩
abbrev cX6_goer : ByteArray := prog_8_method_26_code
def yX6_goer : MethodName := ⟨RX6, "goer", "(III)I"⟩
abbrev cX6_addsWindow : ByteArray := prog_8_method_27_code
def yX6_addsWindow : MethodName := ⟨RX6, "addsWindow", "(III)V"⟩
abbrev cX6_window : ByteArray := prog_8_method_28_code
def yX6_window : MethodName := ⟨RX6, "window", "(II)I"⟩
abbrev cX6_type : ByteArray := prog_8_method_29_code
def yX6_type : MethodName := ⟨RX6, "type", "(I)I"⟩
abbrev cX6_clear : ByteArray := prog_8_method_30_code
def yX6_clear : MethodName := ⟨RX6, "clear", "()I"⟩
abbrev cX6_byteAt : ByteArray := prog_8_method_31_code
def yX6_byteAt : MethodName := ⟨RX6, "byteAt", "(I)I"⟩
abbrev cX6_blanks : ByteArray := prog_8_method_32_code
def yX6_blanks : MethodName := ⟨RX6, "blanks", "()V"⟩
abbrev cX6_takesWord : ByteArray := prog_8_method_33_code
def yX6_takesWord : MethodName := ⟨RX6, "takesWord", "()V"⟩
abbrev cX6_isWord : ByteArray := prog_8_method_34_code
def yX6_isWord : MethodName := ⟨RX6, "isWord", "(IIIIIII)Z"⟩
abbrev cX6_isLetter : ByteArray := prog_8_method_35_code
def yX6_isLetter : MethodName := ⟨RX6, "isLetter", "(III)Z"⟩
abbrev cX6_wordOf : ByteArray := prog_8_method_36_code
def yX6_wordOf : MethodName := ⟨RX6, "wordOf", "()I"⟩
abbrev cX6_takesNumber : ByteArray := prog_8_method_37_code
def yX6_takesNumber : MethodName := ⟨RX6, "takesNumber", "(II)Z"⟩
abbrev cX6_takesEnd : ByteArray := prog_8_method_38_code
def yX6_takesEnd : MethodName := ⟨RX6, "takesEnd", "()Z"⟩
abbrev cX6_readsLadder : ByteArray := prog_8_method_39_code
def yX6_readsLadder : MethodName := ⟨RX6, "readsLadder", "()Z"⟩
abbrev cX6_readsGoer : ByteArray := prog_8_method_40_code
def yX6_readsGoer : MethodName := ⟨RX6, "readsGoer", "()Z"⟩
abbrev cX6_readsWindow : ByteArray := prog_8_method_41_code
def yX6_readsWindow : MethodName := ⟨RX6, "readsWindow", "()Z"⟩
abbrev cX6_readsTurn : ByteArray := prog_8_method_42_code
def yX6_readsTurn : MethodName := ⟨RX6, "readsTurn", "()Z"⟩
abbrev cX6_readsDraw : ByteArray := prog_8_method_43_code
def yX6_readsDraw : MethodName := ⟨RX6, "readsDraw", "()Z"⟩
abbrev cX6_readsMinutes : ByteArray := prog_8_method_44_code
def yX6_readsMinutes : MethodName := ⟨RX6, "readsMinutes", "()Z"⟩
abbrev cX6_readsItem : ByteArray := prog_8_method_45_code
def yX6_readsItem : MethodName := ⟨RX6, "readsItem", "(Z)Z"⟩
abbrev cX6_read : ByteArray := prog_8_method_46_code
def yX6_read : MethodName := ⟨RX6, "read", "()I"⟩
abbrev cX6_isLadderDown : ByteArray := prog_8_method_47_code
def yX6_isLadderDown : MethodName := ⟨RX6, "isLadderDown", "(II)Z"⟩
abbrev cX6_leads : ByteArray := prog_8_method_48_code
def yX6_leads : MethodName := ⟨RX6, "leads", "(III)Z"⟩
abbrev cX6_laysAway : ByteArray := prog_8_method_49_code
def yX6_laysAway : MethodName := ⟨RX6, "laysAway", "(II)V"⟩
abbrev cX6_goalOf : ByteArray := prog_8_method_50_code
def yX6_goalOf : MethodName := ⟨RX6, "goalOf", "(II)I"⟩
abbrev cX6_nextOf : ByteArray := prog_8_method_51_code
def yX6_nextOf : MethodName := ⟨RX6, "nextOf", "(II)I"⟩
abbrev cX6_passes : ByteArray := prog_8_method_52_code
def yX6_passes : MethodName := ⟨RX6, "passes", "(I)I"⟩
abbrev cX6_minds : ByteArray := prog_8_method_53_code
def yX6_minds : MethodName := ⟨RX6, "minds", "()V"⟩
abbrev cX6_minutes : ByteArray := prog_8_method_54_code
def yX6_minutes : MethodName := ⟨RX6, "minutes", "(I)I"⟩
abbrev cX6_turns : ByteArray := prog_8_method_55_code
def yX6_turns : MethodName := ⟨RX6, "turns", "(I)I"⟩
abbrev cX6_draws : ByteArray := prog_8_method_56_code
def yX6_draws : MethodName := ⟨RX6, "draws", "(I)I"⟩
abbrev cX6_undo : ByteArray := prog_8_method_57_code
def yX6_undo : MethodName := ⟨RX6, "undo", "()I"⟩
abbrev cX6_loudIn : ByteArray := prog_8_method_58_code
def yX6_loudIn : MethodName := ⟨RX6, "loudIn", "(II)I"⟩
abbrev cX6_of : ByteArray := prog_8_method_59_code
def yX6_of : MethodName := ⟨RX6, "of", "(II)I"⟩
abbrev cX6_size : ByteArray := prog_8_method_60_code
def yX6_size : MethodName := ⟨RX6, "size", "(I)I"⟩
abbrev cX6_apart : ByteArray := prog_8_method_61_code
def yX6_apart : MethodName := ⟨RX6, "apart", "(II)I"⟩
abbrev cX6_hearsIn : ByteArray := prog_8_method_62_code
def yX6_hearsIn : MethodName := ⟨RX6, "hearsIn", "(III)Z"⟩
abbrev cX6_heardBy : ByteArray := prog_8_method_63_code
def yX6_heardBy : MethodName := ⟨RX6, "heardBy", "(II)I"⟩
abbrev cX6_about : ByteArray := prog_8_method_64_code
def yX6_about : MethodName := ⟨RX6, "about", "(II)I"⟩
abbrev cX6_rungs : ByteArray := prog_8_method_65_code
def yX6_rungs : MethodName := ⟨RX6, "rungs", "(II)I"⟩
abbrev cX6_far : ByteArray := prog_8_method_66_code
def yX6_far : MethodName := ⟨RX6, "far", "(II)I"⟩
abbrev cX6_tries : ByteArray := prog_8_method_67_code
def yX6_tries : MethodName := ⟨RX6, "tries", "()V"⟩
abbrev cX6_where : ByteArray := prog_8_method_68_code
def yX6_where : MethodName := ⟨RX6, "where", "(II)I"⟩
abbrev cX6_laysTwo : ByteArray := prog_8_method_69_code
def yX6_laysTwo : MethodName := ⟨RX6, "laysTwo", "(II)V"⟩
abbrev cX6_meetBy : ByteArray := prog_8_method_70_code
def yX6_meetBy : MethodName := ⟨RX6, "meetBy", "(III)I"⟩
abbrev cX6_meet : ByteArray := prog_8_method_71_code
def yX6_meet : MethodName := ⟨RX6, "meet", "(II)I"⟩
abbrev cX6_waits : ByteArray := prog_8_method_72_code
def yX6_waits : MethodName := ⟨RX6, "waits", "(III)I"⟩
abbrev cX6_lostOnes : ByteArray := prog_8_method_73_code
def yX6_lostOnes : MethodName := ⟨RX6, "lostOnes", "(I)I"⟩
abbrev cX6_down : ByteArray := prog_8_method_74_code
def yX6_down : MethodName := ⟨RX6, "down", "(I)I"⟩
abbrev cX6_cut : ByteArray := prog_8_method_75_code
def yX6_cut : MethodName := ⟨RX6, "cut", "(I)I"⟩
abbrev cX6_bestDoors : ByteArray := prog_8_method_76_code
def yX6_bestDoors : MethodName := ⟨RX6, "bestDoors", "()I"⟩
abbrev cX6_doors : ByteArray := prog_8_method_77_code
def yX6_doors : MethodName := ⟨RX6, "doors", "(I)I"⟩
abbrev cX6_sound : ByteArray := prog_8_method_78_code
def yX6_sound : MethodName := ⟨RX6, "sound", "(III)I"⟩
abbrev cX6_who : ByteArray := prog_8_method_79_code
def yX6_who : MethodName := ⟨RX6, "who", "()I"⟩
abbrev cX6_note : ByteArray := prog_8_method_80_code
def yX6_note : MethodName := ⟨RX6, "note", "(IIII)I"⟩
abbrev cX6_mark : ByteArray := prog_8_method_81_code
def yX6_mark : MethodName := ⟨RX6, "mark", "(IIII)I"⟩
abbrev cX6_forget : ByteArray := prog_8_method_82_code
def yX6_forget : MethodName := ⟨RX6, "forget", "(I)I"⟩
abbrev cX6_kindsOf : ByteArray := prog_8_method_83_code
def yX6_kindsOf : MethodName := ⟨RX6, "kindsOf", "(I)I"⟩
abbrev cX6_is : ByteArray := prog_8_method_84_code
def yX6_is : MethodName := ⟨RX6, "is", "(I)I"⟩
abbrev cX6_greatest : ByteArray := prog_8_method_85_code
def yX6_greatest : MethodName := ⟨RX6, "greatest", "(I)I"⟩
abbrev cX6_look : ByteArray := prog_8_method_86_code
def yX6_look : MethodName := ⟨RX6, "look", "(I)I"⟩
abbrev cX6_isHeard : ByteArray := prog_8_method_87_code
def yX6_isHeard : MethodName := ⟨RX6, "isHeard", "(III)I"⟩
abbrev cX6_windowsOf : ByteArray := prog_8_method_88_code
def yX6_windowsOf : MethodName := ⟨RX6, "windowsOf", "(I)I"⟩
abbrev cX6_kinds : ByteArray := prog_8_method_89_code
def yX6_kinds : MethodName := ⟨RX6, "kinds", "(I)I"⟩
abbrev cX6_ask : ByteArray := prog_8_method_90_code
def yX6_ask : MethodName := ⟨RX6, "ask", "(I)I"⟩
abbrev cX6_getsBy : ByteArray := prog_8_method_91_code
def yX6_getsBy : MethodName := ⟨RX6, "getsBy", "(IIZ)I"⟩
abbrev cX6_rests : ByteArray := prog_8_method_92_code
def yX6_rests : MethodName := ⟨RX6, "rests", "(II)Z"⟩
abbrev cX6_shy : ByteArray := prog_8_method_93_code
def yX6_shy : MethodName := ⟨RX6, "shy", "(III)I"⟩
abbrev cX6_odds : ByteArray := prog_8_method_94_code
def yX6_odds : MethodName := ⟨RX6, "odds", "(III)I"⟩
abbrev cX6_nights : ByteArray := prog_8_method_95_code
def yX6_nights : MethodName := ⟨RX6, "nights", "(II)I"⟩
abbrev cX6_part : ByteArray := prog_8_method_96_code
def yX6_part : MethodName := ⟨RX6, "part", "(I)J"⟩
abbrev cX6_image : ByteArray := prog_8_method_97_code
def yX6_image : MethodName := ⟨RX6, "image", "(I)I"⟩
abbrev cX6_from : ByteArray := prog_8_method_98_code
def yX6_from : MethodName := ⟨RX6, "from", "(I)I"⟩
abbrev cX6_status : ByteArray := prog_8_method_99_code
def yX6_status : MethodName := ⟨RX6, "status", "(I)I"⟩
abbrev cX6_thereOnes : ByteArray := prog_8_method_100_code
def yX6_thereOnes : MethodName := ⟨RX6, "thereOnes", "()I"⟩
abbrev cX6_countOf : ByteArray := prog_8_method_101_code
def yX6_countOf : MethodName := ⟨RX6, "countOf", "(I)I"⟩
abbrev cX6_count : ByteArray := prog_8_method_102_code
def yX6_count : MethodName := ⟨RX6, "count", "(I)I"⟩
abbrev cX6_mix : ByteArray := prog_8_method_103_code
def yX6_mix : MethodName := ⟨RX6, "mix", "(J)V"⟩
abbrev cX6_digest : ByteArray := prog_8_method_104_code
def yX6_digest : MethodName := ⟨RX6, "digest", "()J"⟩
def RJ6 : String := "java/lang/Integer"
def TJ6 : u_T := fun k => match k with
  | _ => ("", "", "", false)
def tyJ6 : Nat → FieldType := fun k => match k with
  | _ => .int
theorem nmJ6 : ∀ a, a < 0 → ∀ b, b < 0 → a ≠ b → (TJ6 a).2.1 ≠ (TJ6 b).2.1 := by decide +kernel
theorem tyJ6_ok : ∀ k, k < 0 → parseFieldDescriptor (TJ6 k).2.2.1 = some (tyJ6 k) := by decide +kernel
abbrev cJ6_bitCount_0f7a4 : ByteArray := prog_9_method_49_code
def yJ6_bitCount_0f7a4 : MethodName := ⟨RJ6, "bitCount", "(I)I"⟩
def RJ9 : String := "java/lang/Math"
def TJ9 : u_T := fun k => match k with
  | _ => ("", "", "", false)
def tyJ9 : Nat → FieldType := fun k => match k with
  | _ => .int
theorem nmJ9 : ∀ a, a < 0 → ∀ b, b < 0 → a ≠ b → (TJ9 a).2.1 ≠ (TJ9 b).2.1 := by decide +kernel
theorem tyJ9_ok : ∀ k, k < 0 → parseFieldDescriptor (TJ9 k).2.2.1 = some (tyJ9 k) := by decide +kernel
abbrev cJ9_abs_0f7a4 : ByteArray := prog_10_method_59_code
def yJ9_abs_0f7a4 : MethodName := ⟨RJ9, "abs", "(I)I"⟩
abbrev cJ9_max_7cf53 : ByteArray := prog_10_method_65_code
def yJ9_max_7cf53 : MethodName := ⟨RJ9, "max", "(II)I"⟩
abbrev cJ9_max_f86c9 : ByteArray := prog_10_method_66_code
def yJ9_max_f86c9 : MethodName := ⟨RJ9, "max", "(JJ)J"⟩
abbrev cJ9_min_7cf53 : ByteArray := prog_10_method_69_code
def yJ9_min_7cf53 : MethodName := ⟨RJ9, "min", "(II)I"⟩
def RJ0 : String := "java/lang/String"
def TJ0 : u_T := fun k => match k with
  | _ => ("", "", "", false)
def tyJ0 : Nat → FieldType := fun k => match k with
  | _ => .int
theorem nmJ0 : ∀ a, a < 0 → ∀ b, b < 0 → a ≠ b → (TJ0 a).2.1 ≠ (TJ0 b).2.1 := by decide +kernel
theorem tyJ0_ok : ∀ k, k < 0 → parseFieldDescriptor (TJ0 k).2.2.1 = some (tyJ0 k) := by decide +kernel
abbrev cJ0_length_8abf5 : ByteArray := prog_11_method_54_code
def yJ0_length_8abf5 : MethodName := ⟨RJ0, "length", "()I"⟩
abbrev cJ0_charAt_5068e : ByteArray := prog_11_method_56_code
def yJ0_charAt_5068e : MethodName := ⟨RJ0, "charAt", "(I)C"⟩
abbrev cJ0_coder_7d493 : ByteArray := prog_11_method_152_code
def yJ0_coder_7d493 : MethodName := ⟨RJ0, "coder", "()B"⟩
abbrev cJ0_isLatin1_aae02 : ByteArray := prog_11_method_154_code
def yJ0_isLatin1_aae02 : MethodName := ⟨RJ0, "isLatin1", "()Z"⟩
abbrev cJ0_checkIndex_df160 : ByteArray := prog_11_method_155_code
def yJ0_checkIndex_df160 : MethodName := ⟨RJ0, "checkIndex", "(II)V"⟩
def RJ1 : String := "java/lang/StringLatin1"
def TJ1 : u_T := fun k => match k with
  | _ => ("", "", "", false)
def tyJ1 : Nat → FieldType := fun k => match k with
  | _ => .int
theorem nmJ1 : ∀ a, a < 0 → ∀ b, b < 0 → a ≠ b → (TJ1 a).2.1 ≠ (TJ1 b).2.1 := by decide +kernel
theorem tyJ1_ok : ∀ k, k < 0 → parseFieldDescriptor (TJ1 k).2.2.1 = some (tyJ1 k) := by decide +kernel
abbrev cJ1_charAt_3b067 : ByteArray := prog_12_method_2_code
def yJ1_charAt_3b067 : MethodName := ⟨RJ1, "charAt", "([BI)C"⟩
def RJ2 : String := "java/lang/StringUTF16"
def TJ2 : u_T := fun k => match k with
  | _ => ("", "", "", false)
def tyJ2 : Nat → FieldType := fun k => match k with
  | _ => .int
theorem nmJ2 : ∀ a, a < 0 → ∀ b, b < 0 → a ≠ b → (TJ2 a).2.1 ≠ (TJ2 b).2.1 := by decide +kernel
theorem tyJ2_ok : ∀ k, k < 0 → parseFieldDescriptor (TJ2 k).2.2.1 = some (tyJ2 k) := by decide +kernel
abbrev cJ2_getChar_3b067 : ByteArray := prog_13_method_5_code
def yJ2_getChar_3b067 : MethodName := ⟨RJ2, "getChar", "([BI)C"⟩
abbrev cJ2_length_9d52b : ByteArray := prog_13_method_6_code
def yJ2_length_9d52b : MethodName := ⟨RJ2, "length", "([B)I"⟩
abbrev cJ2_charAt_3b067 : ByteArray := prog_13_method_83_code
def yJ2_charAt_3b067 : MethodName := ⟨RJ2, "charAt", "([BI)C"⟩
abbrev cJ2_checkIndex_2214a : ByteArray := prog_13_method_91_code
def yJ2_checkIndex_2214a : MethodName := ⟨RJ2, "checkIndex", "(I[B)V"⟩
def RJ10 : String := "java/lang/System"
def TJ10 : u_T := fun k => match k with
  | _ => ("", "", "", false)
def tyJ10 : Nat → FieldType := fun k => match k with
  | _ => .int
theorem nmJ10 : ∀ a, a < 0 → ∀ b, b < 0 → a ≠ b → (TJ10 a).2.1 ≠ (TJ10 b).2.1 := by decide +kernel
theorem tyJ10_ok : ∀ k, k < 0 → parseFieldDescriptor (TJ10 k).2.2.1 = some (tyJ10 k) := by decide +kernel
def RJ3 : String := "jdk/internal/util/Preconditions"
def TJ3 : u_T := fun k => match k with
  | _ => ("", "", "", false)
def tyJ3 : Nat → FieldType := fun k => match k with
  | _ => .int
theorem nmJ3 : ∀ a, a < 0 → ∀ b, b < 0 → a ≠ b → (TJ3 a).2.1 ≠ (TJ3 b).2.1 := by decide +kernel
theorem tyJ3_ok : ∀ k, k < 0 → parseFieldDescriptor (TJ3 k).2.2.1 = some (tyJ3 k) := by decide +kernel
abbrev cJ3_checkIndex_8e157 : ByteArray := prog_15_method_11_code
def yJ3_checkIndex_8e157 : MethodName := ⟨RJ3, "checkIndex", "(IILjava/util/function/BiFunction;)I"⟩
def RL : String := "IronStairsLaw"
abbrev cL_law : ByteArray := code
def yL_law : MethodName := ⟨RL, "law", "([I)Z"⟩
abbrev clsL : List vw_C := [(RX0, TX0, 9), (RX1, TX1, 6), (RX2, TX2, 1), (RX3, TX3, 4), (RX4, TX4, 4), (RX5, TX5, 15), (RX6, TX6, 21)]
end
section
/-! ===== 02: the calculus: abstract values, memories, a judgement on frames, a row an instruction ===== -/
abbrev AV : Type := Int ⊕ (Int ⊕ (Nat ⊕ (Nat ⊕ Nat)))
/-- int, long, the k-th object, the k-th text, and: 0 unset, 1 second half, 2 the script, 3 null, 4+k the bytes of text k -/
def zi (x : Int) : AV := .inl x
def zl (x : Int) : AV := .inr (.inl x)
def zr (k : Nat) : AV := .inr (.inr (.inl k))
def zs (k : Nat) : AV := .inr (.inr (.inr (.inl k)))
def zm (k : Nat) : AV := .inr (.inr (.inr (.inr k)))
/-- a field's kind: a reference to the t-th object; 0 int, 1 boolean, 2 long, 3 null -/
abbrev Kd : Type := Nat ⊕ Nat
/-- an object's shape: class and kinds of fields; or an array (of booleans?) and its length -/
abbrev Sh : Type := (Nat × List Kd) ⊕ (Bool × Nat)
/-- how many objects, slots; their shapes -/
abbrev Gm : Type := Nat × Nat × (Nat → Sh)
abbrev Mem : Type := Nat → Int → Int
abbrev WP : Type := List AV → List AV → Gm → Mem → Prop
/-- a method: name, bytes, locals, what it returns, frames and locals' room that it needs -/
abbrev MI : Type := MethodName × ByteArray × Nat × Option FieldType × Nat × Nat
abbrev mY (M : MI) : MethodName := M.1
abbrev mC (M : MI) : ByteArray := M.2.1
abbrev mN (M : MI) : Nat := M.2.2.1
abbrev mR (M : MI) : Option FieldType := M.2.2.2.1
abbrev mF (M : MI) : Nat := M.2.2.2.2.1
abbrev mL (M : MI) : Nat := M.2.2.2.2.2
/-- a run's bounds of objects and slots; its script; what holds at its end -/
abbrev En : Type := (Nat × Nat) × (Nat × (Nat → Int)) × (Int → Gm → Mem → Prop)
/-- where the machine has it all: classes and slots, two array classes, the first new address, texts and their bytes -/
abbrev Xe : Type := va_G × ClassId × ClassId × Nat × (Nat → Nat) × (Nat → Nat)
def zsl : List Nat := [4, 6, 4, 6, 4, 4, 7]
def zsb : List (List Int32) := [[98, 97, 99, 107], [108, 97, 100, 100, 101, 114], [103, 111, 101, 114], [119, 105, 110, 100, 111, 119], [116, 117, 114, 110], [100, 114, 97, 119], [109, 105, 110, 117, 116, 101, 115]]
def zsx (k : Nat) : Nat := [39, 59, 64, 69, 74, 79, 84].getD k 0
def zst (k : Nat) : String := ["back", "ladder", "goer", "window", "turn", "draw", "minutes"].getD k ""
def zR (x : Int) : Prop := -2147483648 ≤ x ∧ x ≤ 2147483647
def zR6 (x : Int) : Prop := -9223372036854775808 ≤ x ∧ x ≤ 9223372036854775807
def z_ok : AV → Prop
  | .inl x => zR x
  | .inr (.inl x) => zR6 x
  | .inr (.inr (.inr (.inl k))) => k < 7
  | _ => True
def z_oks (l : List AV) : Prop := ∀ v ∈ l, z_ok v
theorem z_oks_c {v : AV} {l : List AV} (h : z_ok v) (hl : z_oks l) : z_oks (v :: l) := fun w hw => (List.mem_cons.mp hw).elim (fun e => e ▸ h) (hl w)
theorem z_oks_t {v : AV} {l : List AV} (h : z_oks (v :: l)) : z_oks l := fun w hw => h w (List.mem_cons_of_mem _ hw)
theorem z_oks_h {v : AV} {l : List AV} (h : z_oks (v :: l)) : z_ok v := h v List.mem_cons_self
def z_conc (X : Xe) (b : Nat) : AV → Value
  | .inl x => .int (Int32.ofInt x)
  | .inr (.inl x) => .long (Int64.ofInt x)
  | .inr (.inr (.inl k)) => .ref (X.2.2.2.1 + k)
  | .inr (.inr (.inr (.inl k))) => .ref (X.2.2.2.2.1 k)
  | .inr (.inr (.inr (.inr k))) => if k = 2 then .ref b else if 4 ≤ k then .ref (X.2.2.2.2.2 (k - 4)) else .null
def z_fv (X : Xe) (f : Int → Int) (j : Nat) : Kd → Value
  | .inl t => .ref (X.2.2.2.1 + t)
  | .inr k => if k = 2 then .long (Int64.ofInt (f j)) else if k = 3 then .null else .int (Int32.ofInt (f j))
def z_ent (X : Xe) (sh : Sh) (f : Int → Int) : va_E := match sh with
  | .inl (ci, ks) => .inr (ci, ks.mapIdx (fun j kd => z_fv X f j kd))
  | .inr (bz, n) => .inl ((if bz = true then X.2.2.1 else X.2.1), n, .inl (fun j => Int32.ofInt (f j)))
def z_ws (X : Xe) (g : Gm) (D : Mem) : va_W := (List.range g.1).map fun k => (X.2.2.2.1 + k, z_ent X (g.2.2 k) (D k))
/-- numbers in their ranges -/
def z_in (g : Gm) (D : Mem) : Prop := ∀ k, k < g.1 → match g.2.2 k with
  | .inl (_, ks) => ∀ (j : Nat), (ks[j]? = some (.inr 0) → zR (D k j)) ∧ (ks[j]? = some (.inr 1) → D k j = 0 ∨ D k j = 1) ∧ (ks[j]? = some (.inr 2) → zR6 (D k j))
  | .inr (bz, n) => ∀ j : Nat, j < n → zR (D k j) ∧ (bz = true → D k j = 0 ∨ D k j = 1)
abbrev z_A (X : Xe) : Nat → Prop := fun q => X.2.2.2.1 ≤ q
/-- links between nest mates -/
def z_nst : List (String × Nat × MethodName × String) := [(RX5, 9, yX0_init, RX5), (RX0, 40, yX4_init, RX5), (RX5, 27, yX1_init, RX5), (RX0, 108, yX5_floorOf, RX5), (RX0, 111, yX5_loudness, RX5), (RX0, 115, yX5_apart, RX5), (RX0, 118, yX5_hearing, RX5)]
/-- what a state's tables and the texts are -/
def z_St (X : Xe) (s : State) : Prop := va_K X.1 clsL [(X.2.1, .int), (X.2.2.1, .boolean)] s ∧ vk_S 7 zsl zsb X.2.2.2.2.1 X.2.2.2.2.2 (z_A X) s s.heap ∧ (∀ k, k < 7 → vk_R RX1 (zsx k) (zst k) (X.2.2.2.2.1 k) s) ∧
  va_Z "java/lang/String" "COMPACT_STRINGS" "Z" (.int 1) (z_A X) s s.heap ∧ va_Z "jdk/internal/util/Preconditions" "SIOOBE_FORMATTER" "Ljava/util/function/BiFunction;" (.ref (X.2.2.2.2.2 7)) (z_A X) s s.heap ∧ ∀ q ∈ z_nst, va_Nw (.methodLinkNest q.1 q.2.1 q.2.2.1 q.2.2.2) s
def z_Rel (X : Xe) (g : Gm) (D : Mem) (s : State) (H : Heap) (locs : List Loc) : Prop := va_P X.1 clsL (z_ws X g D) H ∧ va_S (z_A X) s.heap H locs ∧ z_in g D
def z_real (v : AV) : Bool := match v with
  | .inr (.inr (.inr (.inr k))) => decide (2 ≤ k)
  | _ => true
def z_lv (X : Xe) (b : Nat) (arr : Array Slot) (nL : Nat) (ls : List AV) : Prop := arr.size = nL ∧ lv_wf arr ∧ ls.length = nL ∧ ∀ (k : Nat) (v : AV), ls[k]? = some v → z_real v = true → arr[k]? = some (.val (z_conc X b v))
def z_ri : Option FieldType → Instr
  | none => .return_
  | some .long => .lreturn
  | some _ => .ireturn
def z_rs : Option FieldType → Int → List Value
  | none, _ => []
  | some .long, x => [.long (Int64.ofInt x)]
  | some _, x => [.int (Int32.ofInt x)]
def z_rok : Option FieldType → Int → Prop
  | none, x => x = 0
  | some .long, x => zR6 x
  | some ty, x => zR x ∧ narrow ty (.int (Int32.ofInt x)) = .int (Int32.ofInt x)
def z_Cn (E : En) (n0 s0 : Nat) (g : Gm) (cells slots : Nat) : Prop := cells + n0 = g.1 ∧ slots + s0 = g.2.1 ∧ g.1 ≤ E.1.1 ∧ g.2.1 ≤ E.1.2
def z_Run (M : MI) (E : En) (X : Xe) (p : Program) (l : Launch) (e : Env) (R : Room) (s : State) (m : MethodId) (args : Array Value) (below : List Frame) (meth : Method) (c : Code) (Z : State → Prop) (b n0 s0 : Nat) : Prop :=
  p.tables.exec = Jvm.exec ∧ c.code = mC M ∧ c.maxLocals = mN M ∧ s.vm.findClass (mY M).cls = some m.cls ∧ (∀ w ∈ lw_tbl.filter goodWord, w.before args s = true) ∧ z_St X s ∧ (s.heap.size = X.2.2.2.1 + n0 ∧ E.1.1 ≤ n0 + R.cells ∧ E.1.2 ≤ s0 + R.slots) ∧ (mF M ≤ R.frames ∧ mL M ≤ R.locals) ∧ meth.name = (mY M).name ∧
  (E.2.1.1 = 0 ∨ (va_X b (E.2.1.1 - 1) (fun j => Int32.ofInt (E.2.1.2 j)) s s.heap ∧ b < s.heap.size ∧ b < X.2.2.2.1 ∧ E.2.1.1 < 2147483648 ∧ ∀ j, zR (E.2.1.2 j))) ∧
  ∀ (H : Heap) (locs : List Loc) (g : Gm) (D : Mem) (x : Int) (pc cells slots : Nat) (arr : Array Slot), z_Rel X g D s H locs → E.2.2 x g D → g.1 = E.1.1 → g.2.1 = E.1.2 → z_Cn E n0 s0 g cells slots → z_rok (mR M) x → decode (mC M) pc = .ok (z_ri (mR M), 1) → W p l e R s m args below meth c H locs cells slots Z (F0 m pc arr (z_rs (mR M) x))
def z_WF (M : MI) (E : En) (pc : Nat) (ls st : List AV) (g : Gm) (D : Mem) : Prop :=
  ∀ {X : Xe} {p : Program} {l : Launch} {e : Env} {R : Room} {s : State} {m : MethodId} {args : Array Value} {below : List Frame} {meth : Method} {c : Code} {Z : State → Prop} {b : Nat} {H : Heap} {locs : List Loc} {cells slots : Nat} {arr : Array Slot} {n0 s0 : Nat},
    z_Run M E X p l e R s m args below meth c Z b n0 s0 → z_Cn E n0 s0 g cells slots → z_Rel X g D s H locs → z_lv X b arr (mN M) ls → z_oks ls → z_oks st → W p l e R s m args below meth c H locs cells slots Z (F0 m pc arr (st.map (z_conc X b)))
def z_Snd (M : MI) (E : En) (pc : Nat) (K : WP) : Prop := ∀ (ls st : List AV) (g : Gm) (D : Mem), K ls st g D → z_WF M E pc ls st g D
-- locals and stacks
def gL : List AV → Nat → AV
  | [], _ => zm 0
  | a :: _, 0 => a
  | _ :: t, n + 1 => gL t n
def z_kl : AV → AV
  | .inr (.inl _) => zm 0
  | v => v
def sL : List AV → Nat → AV → List AV
  | [], _, _ => []
  | _ :: t, 0, v => v :: t
  | a :: t, 1, v => z_kl a :: sL t 0 v
  | a :: t, n + 2, v => a :: sL t (n + 1) v
theorem kl_i (x : Int) : z_kl (zi x) = zi x := rfl
theorem kl_l (x : Int) : z_kl (zl x) = zm 0 := rfl
theorem kl_r (x : Nat) : z_kl (zr x) = zr x := rfl
theorem kl_s (x : Nat) : z_kl (zs x) = zs x := rfl
theorem kl_m (x : Nat) : z_kl (zm x) = zm x := rfl
def qI (v : AV) (f : Int → Prop) : Prop := match v with
  | .inl x => f x
  | _ => False
def qJ (v : AV) (f : Int → Prop) : Prop := match v with
  | .inr (.inl x) => f x
  | _ => False
def qA (v : AV) : Prop := match v with
  | .inl _ => False
  | .inr (.inl _) => False
  | .inr (.inr (.inr (.inr k))) => 2 ≤ k ∧ k ≠ 3
  | _ => True
def pI (st : List AV) (f : Int → List AV → Prop) : Prop := match st with
  | (.inl x) :: t => f x t
  | _ => False
def pJ (st : List AV) (f : Int → List AV → Prop) : Prop := match st with
  | (.inr (.inl x)) :: t => f x t
  | _ => False
def pA (st : List AV) (f : Nat → List AV → Prop) : Prop := match st with
  | (.inr (.inr (.inl x))) :: t => f x t
  | _ => False
def pS (st : List AV) (f : Nat → List AV → Prop) : Prop := match st with
  | (.inr (.inr (.inr (.inl x)))) :: t => f x t
  | _ => False
def pM (st : List AV) (f : Nat → List AV → Prop) : Prop := match st with
  | (.inr (.inr (.inr (.inr x)))) :: t => f x t
  | _ => False
def pV (st : List AV) (f : AV → List AV → Prop) : Prop := match st with
  | v :: t => f v t
  | _ => False
def z_c1 (v : AV) : Prop := match v with
  | .inr (.inl _) => False
  | _ => True
def cS : List AV → Nat
  | [] => 0
  | .inr (.inl _) :: t => cS t + 2
  | _ :: t => cS t + 1
theorem qI_i (x : Int) (f : Int → Prop) : qI (zi x) f = f x := rfl
theorem qJ_l (x : Int) (f : Int → Prop) : qJ (zl x) f = f x := rfl
theorem qA_r (k : Nat) : qA (zr k) = True := rfl
theorem qA_s (k : Nat) : qA (zs k) = True := rfl
theorem pI_i (x : Int) (t : List AV) (f : Int → List AV → Prop) : pI (zi x :: t) f = f x t := rfl
theorem pJ_l (x : Int) (t : List AV) (f : Int → List AV → Prop) : pJ (zl x :: t) f = f x t := rfl
theorem pA_r (x : Nat) (t : List AV) (f : Nat → List AV → Prop) : pA (zr x :: t) f = f x t := rfl
theorem pS_s (x : Nat) (t : List AV) (f : Nat → List AV → Prop) : pS (zs x :: t) f = f x t := rfl
theorem pM_m (x : Nat) (t : List AV) (f : Nat → List AV → Prop) : pM (zm x :: t) f = f x t := rfl
theorem pV_v (v : AV) (t : List AV) (f : AV → List AV → Prop) : pV (v :: t) f = f v t := rfl
theorem c1_i (x : Int) : z_c1 (zi x) = True := rfl
theorem c1_r (x : Nat) : z_c1 (zr x) = True := rfl
theorem c1_s (x : Nat) : z_c1 (zs x) = True := rfl
theorem c1_m (x : Nat) : z_c1 (zm x) = True := rfl
theorem cS_0 : cS [] = 0 := rfl
theorem cS_i (x : Int) (t : List AV) : cS (zi x :: t) = cS t + 1 := rfl
theorem cS_l (x : Int) (t : List AV) : cS (zl x :: t) = cS t + 2 := rfl
theorem cS_r (x : Nat) (t : List AV) : cS (zr x :: t) = cS t + 1 := rfl
theorem cS_s (x : Nat) (t : List AV) : cS (zs x :: t) = cS t + 1 := rfl
theorem cS_m (x : Nat) (t : List AV) : cS (zm x :: t) = cS t + 1 := rfl
theorem pI_e {st : List AV} {f : Int → List AV → Prop} (h : pI st f) : ∃ x t, st = zi x :: t ∧ f x t := by
  unfold pI at h; split at h
  · exact ⟨_, _, rfl, h⟩
  · exact h.elim
theorem pJ_e {st : List AV} {f : Int → List AV → Prop} (h : pJ st f) : ∃ x t, st = zl x :: t ∧ f x t := by
  unfold pJ at h; split at h
  · exact ⟨_, _, rfl, h⟩
  · exact h.elim
theorem pA_e {st : List AV} {f : Nat → List AV → Prop} (h : pA st f) : ∃ x t, st = zr x :: t ∧ f x t := by
  unfold pA at h; split at h
  · exact ⟨_, _, rfl, h⟩
  · exact h.elim
theorem pS_e {st : List AV} {f : Nat → List AV → Prop} (h : pS st f) : ∃ x t, st = zs x :: t ∧ f x t := by
  unfold pS at h; split at h
  · exact ⟨_, _, rfl, h⟩
  · exact h.elim
theorem pM_e {st : List AV} {f : Nat → List AV → Prop} (h : pM st f) : ∃ x t, st = zm x :: t ∧ f x t := by
  unfold pM at h; split at h
  · exact ⟨_, _, rfl, h⟩
  · exact h.elim
theorem pV_e {st : List AV} {f : AV → List AV → Prop} (h : pV st f) : ∃ x t, st = x :: t ∧ f x t := by
  unfold pV at h; split at h
  · exact ⟨_, _, rfl, h⟩
  · exact h.elim
theorem qI_e {v : AV} {f : Int → Prop} (h : qI v f) : ∃ x, v = zi x ∧ f x := by
  unfold qI at h; split at h
  · exact ⟨_, rfl, h⟩
  · exact h.elim
theorem qJ_e {v : AV} {f : Int → Prop} (h : qJ v f) : ∃ x, v = zl x ∧ f x := by
  unfold qJ at h; split at h
  · exact ⟨_, rfl, h⟩
  · exact h.elim
theorem c1_e {X : Xe} {b : Nat} {v : AV} (h : z_c1 v) : (z_conc X b v).category = 1 := by
  unfold z_c1 at h
  split at h
  · exact h.elim
  · rename_i hv
    rcases v with x | x | x | x | x
    · rfl
    · exact (hv x rfl).elim
    · rfl
    · rfl
    · unfold z_conc
      dsimp only
      split
      · rfl
      · split <;> rfl
theorem cS_e {X : Xe} {b : Nat} : ∀ (st : List AV), ((st.map (z_conc X b)).map fun v => v.category).sum = cS st
  | [] => rfl
  | v :: t => by
    have ih := cS_e (X := X) (b := b) t
    rw [List.map_cons, List.map_cons, List.sum_cons, ih]
    rcases v with x | x | x | x | x
    · show 1 + cS t = cS t + 1
      omega
    · show 2 + cS t = cS t + 2
      omega
    · show 1 + cS t = cS t + 1
      omega
    · show 1 + cS t = cS t + 1
      omega
    · have h1 : (z_conc X b (.inr (.inr (.inr (.inr x))))).category = 1 := c1_e (v := .inr (.inr (.inr (.inr x)))) trivial
      rw [h1]
      show 1 + cS t = cS t + 1
      omega
theorem gL_s : ∀ {ls : List AV} {i : Nat} {v : AV}, gL ls i = v → v ≠ zm 0 → ls[i]? = some v
  | [], _, v, h, hn => (hn h.symm).elim
  | a :: t, 0, v, h, _ => by rw [← h]; rfl
  | a :: t, n + 1, v, h, hn => by
    rw [List.getElem?_cons_succ]
    exact gL_s (ls := t) h hn
theorem gL_ok {ls : List AV} {i : Nat} {v : AV} (h : gL ls i = v) (hn : v ≠ zm 0) (ho : z_oks ls) : z_ok v := ho v (List.mem_of_getElem? (gL_s h hn))
theorem sL_len : ∀ (ls : List AV) (i : Nat) (v : AV), (sL ls i v).length = ls.length
  | [], _, _ => by simp [sL]
  | _ :: t, 0, v => by simp [sL]
  | a :: t, 1, v => by simp [sL, sL_len t 0 v]
  | a :: t, n + 2, v => by simp [sL, sL_len t (n + 1) v]
theorem sL_get : ∀ (ls : List AV) (i : Nat) (v : AV) (k : Nat), (sL ls i v)[k]? = if k = i then (if k < ls.length then some v else none) else if k + 1 = i then (ls[k]?).map z_kl else ls[k]?
  | [], i, v, k => by
    simp [sL]
  | _ :: t, 0, v, k => by
    cases k with
    | zero => simp [sL]
    | succ k => simp [sL]
  | a :: t, 1, v, k => by
    cases k with
    | zero => simp [sL]
    | succ k =>
      have := sL_get t 0 v k
      simp only [sL, List.getElem?_cons_succ, this, List.length_cons]
      by_cases h : k = 0
      · subst h; simp
      · simp [h]
  | a :: t, n + 2, v, k => by
    cases k with
    | zero => simp [sL]
    | succ k =>
      have := sL_get t (n + 1) v k
      simp only [sL, List.getElem?_cons_succ, this, List.length_cons]
      simp only [Nat.add_right_cancel_iff, Nat.add_lt_add_iff_right]
theorem kl_ok {v : AV} (h : z_ok v) : z_ok (z_kl v) := by
  rcases v with x | x | x | x | x
  · exact h
  · trivial
  · exact h
  · exact h
  · exact h
theorem sL_ok {ls : List AV} {i : Nat} {v : AV} (h : z_oks ls) (hv : z_ok v) : z_oks (sL ls i v) := by
  intro w hw
  obtain ⟨k, hk⟩ := List.getElem?_of_mem hw
  rw [sL_get] at hk
  split at hk
  · split at hk
    · cases hk; exact hv
    · cases hk
  · split at hk
    · cases hq : ls[k]? with
      | none => rw [hq] at hk; cases hk
      | some u => rw [hq] at hk; cases hk; exact kl_ok (h u (List.mem_of_getElem? hq))
    · exact h w (List.mem_of_getElem? hk)
/-- the locals that are real, as the kit's rows want them -/
def z_prs (X : Xe) (b : Nat) (ls : List AV) : List (Nat × Value) := (ls.zipIdx.filter (fun q => z_real q.1)).map (fun q => (q.2, z_conc X b q.1))
theorem z_prs_mem {X : Xe} {b : Nat} {ls : List AV} {q : Nat × Value} : q ∈ z_prs X b ls ↔ ∃ v, ls[q.1]? = some v ∧ z_real v = true ∧ q.2 = z_conc X b v := by
  unfold z_prs
  rw [List.mem_map]
  constructor
  · rintro ⟨⟨v, k⟩, hm, rfl⟩
    rw [List.mem_filter] at hm
    exact ⟨v, List.mem_zipIdx_iff_getElem?.mp hm.1, hm.2, rfl⟩
  · rintro ⟨v, h1, h2, h3⟩
    refine ⟨(v, q.1), List.mem_filter.mpr ⟨List.mem_zipIdx_iff_getElem?.mpr h1, h2⟩, ?_⟩
    rw [← h3]
theorem z_lv_has {X : Xe} {b : Nat} {arr : Array Slot} {nL : Nat} {ls : List AV} (h : z_lv X b arr nL ls) : lv_has arr nL (z_prs X b ls) := by
  refine ⟨h.1, h.2.1, fun q hq => ?_⟩
  obtain ⟨v, h1, h2, h3⟩ := z_prs_mem.mp hq
  rw [h3]
  exact h.2.2.2 q.1 v h1 h2
theorem kl_c {v : AV} (h : z_real (z_kl v) = true) : z_kl v = v ∧ z_real v = true ∧ z_c1 v := by
  rcases v with x | x | x | x | x
  · exact ⟨rfl, rfl, trivial⟩
  · exact absurd (show false = true from h) (by decide)
  · exact ⟨rfl, rfl, trivial⟩
  · exact ⟨rfl, rfl, trivial⟩
  · exact ⟨rfl, h, trivial⟩
theorem z_lv_st1 {X : Xe} {b : Nat} {arr arr2 : Array Slot} {nL i : Nat} {ls : List AV} {v : AV} (h : z_lv X b arr nL ls) (hc : z_c1 v)
    (h2 : lv_has arr2 nL ((i, z_conc X b v) :: (z_prs X b ls).filter (fun q => !(q.1 == i) && !(q.1 + 1 == i && q.2.category == 2)))) : z_lv X b arr2 nL (sL ls i v) := by
  refine ⟨h2.1, h2.2.1, by rw [sL_len]; exact h.2.2.1, fun k w hk hr => ?_⟩
  rw [sL_get] at hk
  split at hk
  · rename_i e
    subst e
    split at hk
    · cases hk
      exact h2.2.2 (k, z_conc X b v) List.mem_cons_self
    · cases hk
  · rename_i e
    refine h2.2.2 (k, z_conc X b w) (List.mem_cons_of_mem _ (List.mem_filter.mpr ?_))
    split at hk
    · rename_i e1
      cases hq : ls[k]? with
      | none => rw [hq] at hk; cases hk
      | some u =>
        rw [hq] at hk
        cases hk
        obtain ⟨k1, k2, k3⟩ := kl_c hr
        refine ⟨z_prs_mem.mpr ⟨u, hq, k2, by rw [k1]⟩, ?_⟩
        rw [k1, c1_e k3]
        simp [e]
    · rename_i e1
      exact ⟨z_prs_mem.mpr ⟨w, hk, hr, rfl⟩, by simp [e, e1]⟩
theorem z_lv_st2 {X : Xe} {b : Nat} {arr arr2 : Array Slot} {nL i : Nat} {ls : List AV} {x : Int} (h : z_lv X b arr nL ls)
    (h2 : lv_has arr2 nL ((i, z_conc X b (zl x)) :: (z_prs X b ls).filter (fun q => !(q.1 == i) && (!(q.1 == i + 1) && !(q.1 + 1 == i && q.2.category == 2))))) : z_lv X b arr2 nL (sL (sL ls (i + 1) (zm 1)) i (zl x)) := by
  refine ⟨h2.1, h2.2.1, by rw [sL_len, sL_len]; exact h.2.2.1, fun k w hk hr => ?_⟩
  rw [sL_get, sL_len] at hk
  split at hk
  · rename_i e
    subst e
    split at hk
    · cases hk
      exact h2.2.2 (k, z_conc X b (zl x)) List.mem_cons_self
    · cases hk
  · rename_i e
    refine h2.2.2 (k, z_conc X b w) (List.mem_cons_of_mem _ (List.mem_filter.mpr ?_))
    split at hk
    · rename_i e1
      rw [sL_get, if_neg (by omega), if_neg (by omega)] at hk
      cases hq : ls[k]? with
      | none => rw [hq] at hk; cases hk
      | some u =>
        rw [hq] at hk
        cases hk
        obtain ⟨k1, k2, k3⟩ := kl_c hr
        refine ⟨z_prs_mem.mpr ⟨u, hq, k2, by rw [k1]⟩, ?_⟩
        rw [k1, c1_e k3]
        have e3 : ¬ k = i + 1 := by omega
        simp [e, e3]
    · rename_i e1
      rw [sL_get] at hk
      split at hk
      · rename_i e2
        split at hk
        · cases hk
          exact absurd hr (by decide)
        · cases hk
      · rename_i e2
        rw [if_neg (by omega)] at hk
        exact ⟨z_prs_mem.mpr ⟨w, hk, hr, rfl⟩, by simp [e, e1, e2]⟩
end
section
/-! ===== 03: worlds, contracts, calls ===== -/
def zU (D : Mem) (o : Nat) (k x : Int) : Mem := fun o' k' => if o' = o ∧ k' = k then x else D o' k'
/-- a field of a kind; an array; a reference field and where it leads -/
def z_f (g : Gm) (o ci k kd : Nat) : Prop := o < g.1 ∧ ∃ ks : List Kd, g.2.2 o = .inl (ci, ks) ∧ ks[k]? = some (.inr kd)
def z_fr (g : Gm) (o ci k t : Nat) : Prop := o < g.1 ∧ ∃ ks : List Kd, g.2.2 o = .inl (ci, ks) ∧ ks[k]? = some (.inl t)
def zf (g : Gm) (o k : Nat) : Nat := match g.2.2 o with
  | .inl (_, ks) => (match ks[k]? with
    | some (.inl t) => t
    | _ => 0)
  | _ => 0
def z_a (g : Gm) (a : Nat) (bz : Bool) : Prop := a < g.1 ∧ ∃ n : Nat, n < 2147483648 ∧ g.2.2 a = .inr (bz, n)
def zn (g : Gm) (a : Nat) : Int := match g.2.2 a with
  | .inr (_, n) => (n : Int)
  | _ => 0
def z_o (g : Gm) (o ci : Nat) : Prop := o < g.1 ∧ ∃ ks : List Kd, g.2.2 o = .inl (ci, ks)
theorem z_f_o {g : Gm} {o ci k kd : Nat} (h : z_f g o ci k kd) : z_o g o ci := ⟨h.1, h.2.imp fun _ q => q.1⟩
theorem z_ws_get {X : Xe} {g : Gm} {D : Mem} {o : Nat} (h : o < g.1) : (z_ws X g D)[o]? = some (X.2.2.2.1 + o, z_ent X (g.2.2 o) (D o)) := by
  simp [z_ws, h]
theorem z_ws_obj {X : Xe} {g : Gm} {D : Mem} {o ci : Nat} {ks : List Kd} (h : o < g.1) (hs : g.2.2 o = .inl (ci, ks)) : (z_ws X g D)[o]? = some (X.2.2.2.1 + o, .inr (ci, ks.mapIdx (fun j kd => z_fv X (D o) j kd))) := by
  rw [z_ws_get h, hs]; rfl
theorem z_ws_arr {X : Xe} {g : Gm} {D : Mem} {o n : Nat} {bz : Bool} (h : o < g.1) (hs : g.2.2 o = .inr (bz, n)) : (z_ws X g D)[o]? = some (X.2.2.2.1 + o, .inl ((if bz = true then X.2.2.1 else X.2.1), n, .inl (fun j => Int32.ofInt (D o j)))) := by
  rw [z_ws_get h, hs]; rfl
theorem z_D {X : Xe} {g : Gm} {D : Mem} : va_D (z_A X) (z_ws X g D) := by
  have key : ∀ (k : Nat) (q : Nat × va_E), (z_ws X g D)[k]? = some q → q.1 = X.2.2.2.1 + k := by
    intro k q hk
    unfold z_ws at hk
    rw [List.getElem?_map] at hk
    cases hr : (List.range g.1)[k]? with
    | none => rw [hr] at hk; cases hk
    | some i =>
      rw [hr] at hk
      cases hk
      have := (List.getElem?_eq_some_iff.mp hr).2
      rw [List.getElem_range] at this
      rw [this]
  refine ⟨fun i j p q hi hj h => ?_, fun k q hk => ?_⟩
  · have h1 := key i p hi
    have h2 := key j q hj
    omega
  · have h1 := key k q hk
    show X.2.2.2.1 ≤ q.1
    omega
theorem zU_ne {D : Mem} {o o' : Nat} {k x : Int} (h : o' ≠ o) : zU D o k x o' = D o' := by
  funext k'
  simp [zU, h]
theorem z_ws_up {X : Xe} {g : Gm} {D : Mem} {o : Nat} {k x : Int} : (z_ws X g D).set o (X.2.2.2.1 + o, z_ent X (g.2.2 o) (zU D o k x o)) = z_ws X g (zU D o k x) := by
  apply List.ext_getElem?
  intro i
  rw [List.getElem?_set]
  by_cases hi : i < g.1
  · by_cases ho : o = i
    · subst ho
      rw [if_pos rfl, z_ws_get hi, if_pos (by simpa [z_ws] using hi)]
    · rw [if_neg ho, z_ws_get hi, z_ws_get hi, zU_ne (Ne.symm ho)]
  · have e1 : (z_ws X g D)[i]? = none := by simp [z_ws]; omega
    have e2 : (z_ws X g (zU D o k x))[i]? = none := by simp [z_ws]; omega
    rw [e1, e2]
    split
    · rename_i ho
      subst ho
      rw [if_neg (by simpa [z_ws] using hi)]
    · rfl
theorem z_ent_up {X : Xe} {D : Mem} {o ci k kd : Nat} {ks : List Kd} {x : Int} (hk : ks[k]? = some (.inr kd)) : z_ent X (.inl (ci, ks)) (zU D o (k : Int) x o) = .inr (ci, (ks.mapIdx (fun j kd => z_fv X (D o) j kd)).set k (z_fv X (fun _ => x) k (.inr kd))) := by
  show Sum.inr (ci, _) = _
  congr 2
  apply List.ext_getElem?
  intro j
  rw [List.getElem?_set]
  have hl : k < ks.length := (List.getElem?_eq_some_iff.mp hk).1
  by_cases hj : k = j
  · subst hj
    rw [if_pos rfl, if_pos (by simpa using hl), List.getElem?_mapIdx, hk]
    simp [z_fv, zU]
  · rw [if_neg hj, List.getElem?_mapIdx, List.getElem?_mapIdx]
    cases ks[j]? with
    | none => rfl
    | some q =>
      have hne : ¬ ((j : Int) = (k : Int)) := by omega
      rcases q with q | q
      · rfl
      · simp [z_fv, zU, hne]
theorem z_ent_ua {X : Xe} {D : Mem} {o n : Nat} {bz : Bool} {i x : Int} (hi : 0 ≤ i) : z_ent X (.inr (bz, n)) (zU D o i x o) = .inl ((if bz = true then X.2.2.1 else X.2.1), n, .inl (upd (fun j => Int32.ofInt (D o j)) i.toNat (Int32.ofInt x))) := by
  have e0 : (fun j : Nat => Int32.ofInt (zU D o i x o (j : Int))) = upd (fun j => Int32.ofInt (D o j)) i.toNat (Int32.ofInt x) := by
    funext j
    by_cases h : j = i.toNat
    · subst h
      have e : ((i.toNat : Nat) : Int) = i := Int.toNat_of_nonneg hi
      simp [zU, upd, e]
    · have e : ¬ ((j : Int) = i) := by omega
      simp [zU, upd, h, e]
  show Sum.inl (_, n, Sum.inl _) = _
  rw [e0]
theorem z_in_up {g : Gm} {D : Mem} {o ci k kd : Nat} {ks : List Kd} {x : Int} (hin : z_in g D) (hs : g.2.2 o = .inl (ci, ks)) (hk : ks[k]? = some (.inr kd)) (h0 : kd = 0 → zR x) (h1 : kd = 1 → x = 0 ∨ x = 1) (h2 : kd = 2 → zR6 x) : z_in g (zU D o k x) := by
  intro q hq
  have hD := hin q hq
  by_cases e : q = o
  · subst e
    rw [hs] at hD ⊢
    intro j
    by_cases ej : j = k
    · subst ej
      rw [hk]
      refine ⟨fun e => ?_, fun e => ?_, fun e => ?_⟩ <;> (cases e; simp only [zU, and_self, if_true])
      · exact h0 rfl
      · exact h1 rfl
      · exact h2 rfl
    · have hne : ¬ ((j : Int) = (k : Int)) := by omega
      simp only [zU, hne, and_false, if_false]
      exact hD j
  · rw [zU_ne e]
    exact hD
theorem z_in_ua {g : Gm} {D : Mem} {o n : Nat} {bz : Bool} {i x : Int} (hin : z_in g D) (hs : g.2.2 o = .inr (bz, n)) (h0 : zR x) (h1 : bz = true → x = 0 ∨ x = 1) : z_in g (zU D o i x) := by
  intro q hq
  have hD := hin q hq
  by_cases e : q = o
  · subst e
    rw [hs] at hD ⊢
    intro j hj
    by_cases ej : (j : Int) = i
    · simp only [zU, ej, and_self, if_true]
      exact ⟨h0, h1⟩
    · simp only [zU, ej, and_false, if_false]
      exact hD j hj
  · rw [zU_ne e]
    exact hD
theorem z_St_to {X : Xe} {s U : State} {H : Heap} (h : z_St X s) (hk : ∀ q : Nat, q < s.heap.size → ¬ z_A X q → H[q]? = s.heap[q]?) (hU : U.heap = H) (hW : s.WarmedH U.vm) : z_St X U := by
  subst hU
  obtain ⟨h1, h2, h3, h4, h5, h6⟩ := h
  exact ⟨va_K.moved hW.alike h1, vk_S.moved hW.alike (vk_S.kept h2 hk), fun k hk => vk_R.warm hW (h3 k hk), va_Z.moved hW.alike (va_Z.kept h4 hk), va_Z.moved hW.alike (va_Z.kept h5 hk), fun q hq => va_Nw.warmM hW (h6 q hq)⟩
theorem z_St_calling {X : Xe} {U : State} {g : JFrame} {mk : MethodId} {a : Array Value} (h : z_St X U) : z_St X (U.calling g mk a) := by
  obtain ⟨h1, h2, h3, h4, h5, h6⟩ := h
  exact ⟨va_K.moved (u := U) (U := U.calling g mk a) (Vm.Alike.refl U.vm) h1, vk_S.moved (u := U) (U := U.calling g mk a) (Vm.Alike.refl U.vm) h2, fun k hk => vk_R.same (u := U) (U := U.calling g mk a) rfl (h3 k hk), va_Z.moved (u := U) (U := U.calling g mk a) (Vm.Alike.refl U.vm) h4, va_Z.moved (u := U) (U := U.calling g mk a) (Vm.Alike.refl U.vm) h5, fun q hq => va_Nw.same (u := U) (U := U.calling g mk a) rfl rfl (h6 q hq)⟩
-- contracts
def z_Pc (X : Xe) (b : Nat) (av : List AV) (g : Gm) (D : Mem) : Array Value → State → Prop := va_Pc (av.map (z_conc X b)) (fun U => U.heap.size = X.2.2.2.1 + g.1 ∧ va_P X.1 clsL (z_ws X g D) U.heap ∧ z_St X U)
def z_rv : Option FieldType → Int → Option Value
  | none, _ => none
  | some .long, x => some (.long (Int64.ofInt x))
  | some _, x => some (.int (Int32.ofInt x))
def z_Qc (M : MI) (X : Xe) (g : Gm) (mc ms : Nat) (Q : Int → Gm → Mem → Prop) : Array Value → State → Outcome → State → Prop := fun _ st oc t =>
  (∃ (x : Int) (g' : Gm) (D' : Mem), oc = .returned (z_rv (mR M) x) ∧ z_rok (mR M) x ∧ Q x g' D' ∧ g'.1 = g.1 + mc ∧ g'.2.1 = g.2.1 + ms ∧ t.heap.size = X.2.2.2.1 + g'.1 ∧ va_P X.1 clsL (z_ws X g' D') t.heap ∧ z_in g' D') ∧ va_F (z_A X) st t
def z_tb : List Cond := lw_tbl.filter goodWord
def z_wds (M : MI) : List Cond := Cond.code (mY M) (mC M) (mN M) (mR M) :: z_tb
def z_Ct (M : MI) (mc ms : Nat) (av : List AV) (g : Gm) (D : Mem) (Q : Int → Gm → Mem → Prop) : Prop := z_oks av → z_in g D → ∀ (l : Launch) (X : Xe) (b : Nat), Met l (mY M) (z_wds M) ({ frames := mF M, cells := mc, slots := ms, locals := mL M }) (z_Pc X b av g D) (z_Qc M X g mc ms Q) mc ms (z_A X)
/-- what a program decides of a method -/
def z_MI (M : MI) : Prop := plainName (mY M).cls = true ∧ Cond.code (mY M) (mC M) (mN M) (mR M) ∈ z_tb ∧ Cond.initialized (mY M).cls ∈ z_tb ∧ (mY M).cls ≠ "java/lang/invoke/MethodHandle" ∧ (mY M).cls ≠ "java/lang/invoke/VarHandle"
theorem z_blind {X : Xe} {b : Nat} {av : List AV} {g : Gm} {D : Mem} : FrameBlind (z_Pc X b av g D) := fun _ _ _ _ q => ⟨q.1, q.2.1, q.2.2.1, z_St_calling q.2.2.2⟩
theorem z_good : ∀ w ∈ z_tb, goodWord w = true := fun w h => (List.mem_filter.mp h).2
theorem z_wd {w : Cond} (i : Nat) (h : lw_tbl[i]? = some w) (hg : goodWord w = true) : w ∈ z_tb := List.mem_filter.mpr ⟨List.mem_of_getElem? h, hg⟩
theorem z_goodIn {M : MI} (h : z_MI M) {ws : List Cond} (hw : ∀ w ∈ ws, w ∈ z_tb) : GoodIn z_tb (ws ++ z_wds M) := by
  have key : ∀ w ∈ ws ++ z_wds M, w ∈ z_tb := by
    intro w hm
    rcases List.mem_append.mp hm with q | q
    · exact hw w q
    · rcases List.mem_cons.mp q with q | q
      · rw [q]; exact h.2.1
      · exact q
  exact fun w hm => ⟨key w hm, good_of_word (z_good w (key w hm))⟩
-- entry
def zal : List AV → List AV
  | [] => []
  | .inr (.inl x) :: t => zl x :: zm 1 :: zal t
  | v :: t => v :: zal t
def zent (av : List AV) (n : Nat) : List AV := zal av ++ List.replicate (n - (zal av).length) (zm 0)
theorem lg_sl_c (v : Value) (l : List Value) : lg_sl (v :: l) = (if v.category = 2 then [Slot.val v, .second] else [.val v]) ++ lg_sl l := by simp [lg_sl]
theorem zal_len {X : Xe} {b : Nat} : ∀ (av : List AV), (lg_sl (av.map (z_conc X b))).length = (zal av).length
  | [] => rfl
  | v :: t => by
    have ih := zal_len (X := X) (b := b) t
    have hc1 : ∀ w : AV, z_c1 w → (lg_sl ((w :: t).map (z_conc X b))).length = (zal t).length + 1 := by
      intro w hw
      have := c1_e (X := X) (b := b) hw
      rw [List.map_cons, lg_sl_c, this, List.length_append, ih]
      show 1 + (zal t).length = _
      omega
    rcases v with x | x | x | x | x
    · exact hc1 _ trivial
    · rw [List.map_cons]
      rw [lg_sl_c, List.length_append, ih]
      show 2 + (zal t).length = (zal t).length + 2
      omega
    · exact hc1 _ trivial
    · exact hc1 _ trivial
    · exact hc1 _ trivial
theorem zal_args {X : Xe} {b : Nat} : ∀ (av : List AV) (off k : Nat) (v : AV), (zal av)[k]? = some v → z_real v = true → (off + k, z_conc X b v) ∈ lv_args off (av.map (z_conc X b))
  | [], off, k, v, h, _ => by simp [zal] at h
  | w :: t, off, k, v, h, hr => by
    have ih := zal_args (X := X) (b := b) t
    have hc1 : ∀ u : AV, z_c1 u → (u :: zal t)[k]? = some v → (off + k, z_conc X b v) ∈ lv_args off ((u :: t).map (z_conc X b)) := by
      intro u hu h
      have hcat := c1_e (X := X) (b := b) hu
      rw [List.map_cons]
      unfold lv_args
      rw [hcat]
      cases k with
      | zero =>
        cases h
        exact List.mem_cons_self
      | succ k =>
        refine List.mem_cons_of_mem _ ?_
        have := ih (off + 1) k v h hr
        rw [show off + 1 + k = off + (k + 1) by omega] at this
        exact this
    rcases w with x | x | x | x | x
    · exact hc1 _ trivial h
    · rw [List.map_cons]
      show (off + k, z_conc X b v) ∈ (off, Value.long (Int64.ofInt x)) :: lv_args (off + 2) (t.map (z_conc X b))
      match k, h with
      | 0, h => cases h; exact List.mem_cons_self
      | 1, h => cases h; exact absurd hr (by decide)
      | k + 2, h =>
        refine List.mem_cons_of_mem _ ?_
        have := ih (off + 2) k v h hr
        rw [show off + 2 + k = off + (k + 2) by omega] at this
        exact this
    · exact hc1 _ trivial h
    · exact hc1 _ trivial h
    · exact hc1 _ trivial h
theorem zal_ok : ∀ {av : List AV}, z_oks av → z_oks (zal av)
  | [], _ => fun _ h => by cases h
  | v :: t, h => by
    have ih := zal_ok (z_oks_t h)
    have h0 := z_oks_h h
    rcases v with x | x | x | x | x
    · exact z_oks_c h0 ih
    · exact z_oks_c h0 (z_oks_c trivial ih)
    · exact z_oks_c h0 ih
    · exact z_oks_c h0 ih
    · exact z_oks_c h0 ih
theorem z_size {X : Xe} {g : Gm} {D : Mem} {p : Program} {l : Launch} {e : Env} {R : Room} {s : State} {m : MethodId} {args : Array Value} {below : List Frame} {meth : Method} {c : Code} {T : State} {H : Heap} {locs : List Loc} {cells slots n0 s0 : Nat} (Xs : Stand p l e R s m args below meth c T locs cells slots) (hT : T.heap = H) (hN : s.heap.size = X.2.2.2.1 + n0) {E : En} (hc : z_Cn E n0 s0 g cells slots) (hrel : z_Rel X g D s H locs) : H.size = X.2.2.2.1 + g.1 := by
  have h1 : T.heap.size ≤ s.heap.size + cells := Xs.same.2.2.1
  rw [hT] at h1
  have h2 := hc.1
  have h3 := hrel.2.1.1
  by_cases h0 : g.1 = 0
  · omega
  · have h4 : X.2.2.2.1 + (g.1 - 1) < H.size := (hrel.1 (g.1 - 1) _ (z_ws_get (by omega))).lt
    omega
theorem z_ret {M : MI} {X : Xe} {g : Gm} {mc ms : Nat} {Q : Int → Gm → Mem → Prop} {p : Program} {l : Launch} {e : Env} {R : Room} {s : State} {m : MethodId} {args : Array Value} {below : List Frame} {meth : Method} {c : Code} (hx : p.tables.exec = Jvm.exec) (hb : c.code = mC M) (hr : meth.sig.returnType = mR M) (hlocks : meth.locks = false) {H : Heap} {locs : List Loc} {g' : Gm} {D' : Mem} {x : Int} {pc cells slots : Nat} {arr : Array Slot} (hN : s.heap.size = X.2.2.2.1 + g.1)
    (hrel : z_Rel X g' D' s H locs) (hQ : Q x g' D') (h1 : g'.1 = g.1 + mc) (h2 : g'.2.1 = g.2.1 + ms) {E : En} (hc : z_Cn E g.1 g.2.1 g' cells slots) (hok : z_rok (mR M) x) (hd : decode (mC M) pc = .ok (z_ri (mR M), 1)) :
    W p l e R s m args below meth c H locs cells slots (MQ below (z_Qc M X g mc ms Q) args s mc ms (z_A X)) (F0 m pc arr (z_rs (mR M) x)) := by
  intro T hT Xs
  have hsz := z_size Xs hT hN hc hrel
  have e1 : cells = mc := by have := hc.1; omega
  have e2 : slots = ms := by have := hc.2.1; omega
  subst e1
  subst e2
  have key : ∀ t : State, t.heap = H → s.WarmedH t.vm → z_Qc M X g cells slots Q args s (.returned (z_rv (mR M) x)) t := by
    intro t ht _
    exact ⟨⟨x, g', D', rfl, hok, hQ, h1, h2, by rw [ht]; exact hsz, by rw [ht]; exact hrel.1, hrel.2.2⟩, hrel.2.1.F ht⟩
  refine (?_ : W p l e R s m args below meth c H locs cells slots (MQ below (z_Qc M X g cells slots Q) args s cells slots (z_A X)) (F0 m pc arr (z_rs (mR M) x))) T hT Xs
  generalize hty : mR M = rt at hr hok hd key ⊢
  rcases rt with _ | ty
  · exact W.vret hx hb hr key hrel.2.1.2.2 hd
  · cases ty with
    | long => exact W.lret hx hb hr key hrel.2.1.2.2 hd
    | _ => exact W.zret hx hb hr hok.2 key hrel.2.1.2.2 hd
theorem z_Ct.of {M : MI} {mc ms : Nat} {av ls : List AV} {g : Gm} {D : Mem} {Q : Int → Gm → Mem → Prop} {K : WP} (hM : z_MI M) (hl : zent av (mN M) = ls) (hn : (zal av).length ≤ mN M) (hs : z_Snd M ((g.1 + mc, g.2.1 + ms), (0, fun _ => 0), Q) 0 K) (h : K ls [] g D) : z_Ct M mc ms av g D Q := by
  intro hok hin l X b
  refine Met.ofW (cc := mC M) (maxL := mN M) (ret := mR M) hM.1 rfl ?_
  intro p e s m args below meth c s₁ B hml hv
  obtain ⟨rfl, hsz, hP, hSt⟩ := hv
  have hts := atoms_spec (ws := z_wds M) B.pre
  have hlv := lv_entry (av.map (z_conc X b)) (n := mN M) (by rw [zal_len]; exact hn)
  rw [lg_entry_eq]
  generalize (lg_sl (av.map (z_conc X b)) ++ List.replicate (mN M - (lg_sl (av.map (z_conc X b))).length) Slot.unset).toArray = arr at hlv ⊢
  subst hl
  have hlv2 : z_lv X b arr (mN M) (zent av (mN M)) := by
    refine ⟨hlv.1, hlv.2.1, by simp [zent]; omega, fun k v hk hr => ?_⟩
    unfold zent at hk
    by_cases hlt : k < (zal av).length
    · rw [List.getElem?_append_left hlt] at hk
      have := zal_args (X := X) (b := b) av 0 k v hk hr
      rw [Nat.zero_add] at this
      exact hlv.2.2 _ this
    · rw [List.getElem?_append_right (by omega)] at hk
      have := List.eq_of_mem_replicate (List.mem_of_getElem? hk)
      rw [this] at hr
      exact absurd hr (by decide)
  have hok2 : z_oks (zent av (mN M)) := by
    intro v hv
    rcases List.mem_append.mp hv with q | q
    · exact zal_ok hok v q
    · rw [List.eq_of_mem_replicate q]; trivial
  refine hs _ _ _ _ h (X := X) (b := b) (cells := 0) (slots := 0) (locs := []) (n0 := g.1) (s0 := g.2.1) ⟨B.exec, B.bytes, hml, findClass_of_methodNamed B.named, fun w hw => hts w (List.mem_cons_of_mem _ hw), hSt, ⟨hsz, Nat.le_refl _, Nat.le_refl _⟩, ⟨Nat.le_refl _, Nat.le_refl _⟩, (name_of_methodNamed B.named B.method).1, Or.inl rfl, ?_⟩ ⟨Nat.zero_add _, Nat.zero_add _, Nat.le_add_right _ _, Nat.le_add_right _ _⟩ ⟨hP, va_S.rf, hin⟩ hlv2 hok2 (fun _ h => by cases h)
  intro H locs g' D' x pc cells slots arr hrel hQ h1 h2 hcn hrok hd
  exact z_ret B.exec B.bytes B.returns B.notSynchronized hsz hrel hQ h1 h2 hcn hrok hd
end
section
/-! ===== 04: a row an instruction ===== -/
theorem z_toR (x : Int32) : zR x.toInt := by
  have h1 := Int32.le_toInt x
  have h2 := Int32.toInt_lt x
  exact ⟨by omega, by omega⟩
theorem zR_toInt {x : Int} (h : zR x) : (Int32.ofInt x).toInt = x := Int32.toInt_ofInt_of_le (by have := h.1; omega) (by have := h.2; omega)
theorem zR6_toInt {x : Int} (h : zR6 x) : (Int64.ofInt x).toInt = x := Int64.toInt_ofInt_of_le (by have := h.1; omega) (by have := h.2; omega)
theorem zR_lt {x y : Int} (hx : zR x) (hy : zR y) : Int32.ofInt x < Int32.ofInt y ↔ x < y := by
  rw [Int32.lt_iff_toInt_lt, zR_toInt hx, zR_toInt hy]
theorem zR_le {x y : Int} (hx : zR x) (hy : zR y) : Int32.ofInt x ≤ Int32.ofInt y ↔ x ≤ y := by
  rw [Int32.le_iff_toInt_le, zR_toInt hx, zR_toInt hy]
theorem zR_eq {x y : Int} (hx : zR x) (hy : zR y) : Int32.ofInt x = Int32.ofInt y ↔ x = y := by
  rw [← Int32.toInt_inj, zR_toInt hx, zR_toInt hy]
theorem zR_0 : zR 0 := by unfold zR; omega
theorem zR_1 : zR 1 := by unfold zR; omega
def z64 (x : Int) : Int := (Int64.ofInt x).toInt
theorem z64_R (x : Int) : zR6 (z64 x) := by
  have h1 := Int64.le_toInt (Int64.ofInt x)
  have h2 := Int64.toInt_lt (Int64.ofInt x)
  exact ⟨by unfold z64; omega, by unfold z64; omega⟩
theorem z64_id {x : Int} (h : zR6 x) : z64 x = x := zR6_toInt h
theorem z64_of (x : Int) : Int64.ofInt (z64 x) = Int64.ofInt x := Int64.ofInt_toInt _
def bA (x y : Int) : Int := (Int32.ofInt x &&& Int32.ofInt y).toInt
def bO (x y : Int) : Int := (Int32.ofInt x ||| Int32.ofInt y).toInt
def bX (x y : Int) : Int := (Int32.ofInt x ^^^ Int32.ofInt y).toInt
def bL (x y : Int) : Int := (Int32.ofInt x <<< (Int32.ofInt y &&& 31)).toInt
def bR (x y : Int) : Int := (Int32.ofInt x >>> (Int32.ofInt y &&& 31)).toInt
def bU (x y : Int) : Int := (((Int32.ofInt x).toUInt32 >>> ((Int32.ofInt y).toUInt32 &&& Int32.toUInt32 31)).toInt32).toInt
theorem z_div {x y : Int} (hx : zR x) (hy : zR y) (h0 : 0 ≤ x) (h1 : 0 < y) : Int32.ofInt x / Int32.ofInt y = Int32.ofInt (x / y) ∧ zR (x / y) := by
  have hb : x / y ≤ x := Int.ediv_le_self y h0
  have hc : 0 ≤ x / y := Int.ediv_nonneg h0 (by omega)
  have hz : zR (x / y) := ⟨by omega, by have := hx.2; omega⟩
  refine ⟨?_, hz⟩
  rw [← Int32.toInt_inj, Int32.toInt_div_of_ne_right _ _ ?_, zR_toInt hx, zR_toInt hy, zR_toInt hz, Int.tdiv_eq_ediv_of_nonneg h0]
  intro e
  have := congrArg Int32.toInt e
  rw [zR_toInt hy] at this
  have e1 : (-1 : Int32).toInt = -1 := by decide
  rw [e1] at this
  omega
theorem z_mod {x y : Int} (hx : zR x) (hy : zR y) (h0 : 0 ≤ x) (h1 : 0 < y) : Int32.ofInt x - Int32.ofInt x / Int32.ofInt y * Int32.ofInt y = Int32.ofInt (x % y) ∧ zR (x % y) := by
  have hb : x % y < y := Int.emod_lt_of_pos x h1
  have hc : 0 ≤ x % y := Int.emod_nonneg x (by omega)
  have hz : zR (x % y) := ⟨by omega, by have := hy.2; omega⟩
  refine ⟨?_, hz⟩
  rw [(z_div hx hy h0 h1).1, ← Int32.ofInt_mul, ← Int32.ofInt_sub, Int.emod_def, Int.mul_comm]
theorem z_div6 {x y : Int} (hx : zR6 x) (hy : zR6 y) (h0 : 0 ≤ x) (h1 : 0 < y) : Int64.ofInt x / Int64.ofInt y = Int64.ofInt (x / y) ∧ zR6 (x / y) := by
  have hb : x / y ≤ x := Int.ediv_le_self y h0
  have hc : 0 ≤ x / y := Int.ediv_nonneg h0 (by omega)
  have hz : zR6 (x / y) := ⟨by omega, by have := hx.2; omega⟩
  refine ⟨?_, hz⟩
  rw [← Int64.toInt_inj, Int64.toInt_div_of_ne_right _ _ ?_, zR6_toInt hx, zR6_toInt hy, zR6_toInt hz, Int.tdiv_eq_ediv_of_nonneg h0]
  intro e
  have := congrArg Int64.toInt e
  rw [zR6_toInt hy] at this
  have e1 : (-1 : Int64).toInt = -1 := by decide
  rw [e1] at this
  omega
theorem z_mod6 {x y : Int} (hx : zR6 x) (hy : zR6 y) (h0 : 0 ≤ x) (h1 : 0 < y) : Int64.ofInt x - Int64.ofInt x / Int64.ofInt y * Int64.ofInt y = Int64.ofInt (x % y) ∧ zR6 (x % y) := by
  have hb : x % y < y := Int.emod_lt_of_pos x h1
  have hc : 0 ≤ x % y := Int.emod_nonneg x (by omega)
  have hz : zR6 (x % y) := ⟨by omega, by have := hy.2; omega⟩
  refine ⟨?_, hz⟩
  rw [(z_div6 hx hy h0 h1).1, ← Int64.ofInt_mul, ← Int64.ofInt_sub, Int.emod_def, Int.mul_comm]
theorem zR_ne0 {y : Int} (hy : zR y) (h : 0 < y) : ¬ Int32.ofInt y = 0 := by
  intro e
  have h2 := (zR_eq hy zR_0).mp e
  omega
theorem zR6_ne0 {y : Int} (hy : zR6 y) (h : 0 < y) : ¬ Int64.ofInt y = 0 := by
  intro e
  have := congrArg Int64.toInt e
  rw [zR6_toInt hy] at this
  have e1 : (0 : Int64).toInt = 0 := by decide
  rw [e1] at this
  omega
theorem z_i2l {x : Int} (hx : zR x) : (Int32.ofInt x).toInt64 = Int64.ofInt x ∧ zR6 x := by
  have hz : zR6 x := ⟨by have := hx.1; omega, by have := hx.2; omega⟩
  refine ⟨?_, hz⟩
  rw [← Int64.toInt_inj, Int32.toInt_toInt64, zR_toInt hx, zR6_toInt hz]
section Rows
variable {M : MI} {E : En} {pc : Nat} {K K1 K2 : WP}
-- constants
def w_ic (x : Int) (K : WP) : WP := fun ls st g D => K ls (zi x :: st) g D
def w_lc (x : Int) (K : WP) : WP := fun ls st g D => K ls (zl x :: st) g D
theorem S_iconst {x : Int} (hd : decode (mC M) pc = .ok (.iconst x, 1)) (hx : zR x) (k : z_Snd M E (pc + 1) K) : z_Snd M E pc (w_ic x K) := by
  intro ls st g D hw X p l e R s m args below meth c Z b H locs cells slots arr n0 s0 hr hc hrel hlv hol hos
  refine lv_iconst hr.1 hr.2.1 (v := Int32.ofInt x) hd rfl ?_
  exact k _ _ _ _ hw hr hc hrel hlv hol (z_oks_c hx hos)
theorem S_bipush {x : Int} (hd : decode (mC M) pc = .ok (.bipush x, 2)) (hv : (Int8.ofInt x).toInt32 = Int32.ofInt x) (hx : zR x) (k : z_Snd M E (pc + 2) K) : z_Snd M E pc (w_ic x K) := by
  intro ls st g D hw X p l e R s m args below meth c Z b H locs cells slots arr n0 s0 hr hc hrel hlv hol hos
  refine lv_bipush hr.1 hr.2.1 (v := Int32.ofInt x) hd hv ?_
  exact k _ _ _ _ hw hr hc hrel hlv hol (z_oks_c hx hos)
theorem S_sipush {x : Int} (hd : decode (mC M) pc = .ok (.sipush x, 3)) (hv : (Int16.ofInt x).toInt32 = Int32.ofInt x) (hx : zR x) (k : z_Snd M E (pc + 3) K) : z_Snd M E pc (w_ic x K) := by
  intro ls st g D hw X p l e R s m args below meth c Z b H locs cells slots arr n0 s0 hr hc hrel hlv hol hos
  refine lv_sipush hr.1 hr.2.1 (v := Int32.ofInt x) hd hv ?_
  exact k _ _ _ _ hw hr hc hrel hlv hol (z_oks_c hx hos)
theorem S_ldc {x : Int} {v : Int32} {i : Nat} (hd : decode (mC M) pc = .ok (.ldc i, 2)) (hcw : Cond.constant (mY M).cls i v ∈ z_tb) (hv : v = Int32.ofInt x) (hx : zR x) (k : z_Snd M E (pc + 2) K) : z_Snd M E pc (w_ic x K) := by
  intro ls st g D hw X p l e R s m args below meth c Z b H locs cells slots arr n0 s0 hr hc hrel hlv hol hos
  subst hv
  refine lv_ldc hr.1 hr.2.1 (v := Int32.ofInt x) hr.2.2.2.1 (hr.2.2.2.2.1 _ hcw) hd ?_
  exact k _ _ _ _ hw hr hc hrel hlv hol (z_oks_c hx hos)
theorem S_ldcw {x : Int} {v : Int32} {i : Nat} (hd : decode (mC M) pc = .ok (.ldc_w i, 3)) (hcw : Cond.constant (mY M).cls i v ∈ z_tb) (hv : v = Int32.ofInt x) (hx : zR x) (k : z_Snd M E (pc + 3) K) : z_Snd M E pc (w_ic x K) := by
  intro ls st g D hw X p l e R s m args below meth c Z b H locs cells slots arr n0 s0 hr hc hrel hlv hol hos
  subst hv
  refine lv_ldcw hr.1 hr.2.1 (v := Int32.ofInt x) hr.2.2.2.1 (hr.2.2.2.2.1 _ hcw) hd ?_
  exact k _ _ _ _ hw hr hc hrel hlv hol (z_oks_c hx hos)
theorem S_lconst {x : Int} {n : Fin 2} (hd : decode (mC M) pc = .ok (.lconst n, 1)) (hv : Int64.ofNat (n : Nat) = Int64.ofInt x) (hx : zR6 x) (k : z_Snd M E (pc + 1) K) : z_Snd M E pc (w_lc x K) := by
  intro ls st g D hw X p l e R s m args below meth c Z b H locs cells slots arr n0 s0 hr hc hrel hlv hol hos
  refine lv_lconst hr.1 hr.2.1 (v := Int64.ofInt x) hd hv ?_
  exact k _ _ _ _ hw hr hc hrel hlv hol (z_oks_c hx hos)
theorem S_ldc2 {x : Int} {v : Int64} {i : Nat} (hd : decode (mC M) pc = .ok (.ldc2_w i, 3)) (hcw : Cond.constantLong (mY M).cls i v ∈ z_tb) (hv : v = Int64.ofInt x) (hx : zR6 x) (k : z_Snd M E (pc + 3) K) : z_Snd M E pc (w_lc x K) := by
  intro ls st g D hw X p l e R s m args below meth c Z b H locs cells slots arr n0 s0 hr hc hrel hlv hol hos
  subst hv
  refine lv_ldc2 hr.1 hr.2.1 (v := Int64.ofInt x) hr.2.2.2.1 (hr.2.2.2.2.1 _ hcw) hd ?_
  exact k _ _ _ _ hw hr hc hrel hlv hol (z_oks_c hx hos)
def w_lds (i : Nat) (K : WP) : WP := fun ls st g D => K ls (zs i :: st) g D
theorem S_lds {i idx : Nat} (hd : decode (mC M) pc = .ok (.ldc idx, 2)) (hi : i < 7) (hM : (mY M).cls = RX1) (he : zsx i = idx) (k : z_Snd M E (pc + 2) K) : z_Snd M E pc (w_lds i K) := by
  intro ls st g D hw X p l e R s m args below meth c Z b H locs cells slots arr n0 s0 hr hc hrel hlv hol hos
  subst he
  have hown := hr.2.2.2.1
  rw [hM] at hown
  refine va_ldcS hr.1 hr.2.1 hown (hr.2.2.2.2.2.1.2.2.1 i hi) hd ?_
  exact k _ _ _ _ hw hr hc hrel hlv hol (z_oks_c hi hos)
-- locals
def w_ild (i : Nat) (K : WP) : WP := fun ls st g D => qI (gL ls i) fun x => K ls (zi x :: st) g D
def w_lld (i : Nat) (K : WP) : WP := fun ls st g D => qJ (gL ls i) fun x => K ls (zl x :: st) g D
def w_ald (i : Nat) (K : WP) : WP := fun ls st g D => qA (gL ls i) ∧ K ls (gL ls i :: st) g D
theorem z_lvi {X : Xe} {b i : Nat} {arr : Array Slot} {nL : Nat} {ls : List AV} {v : AV} (h : z_lv X b arr nL ls) (hg : gL ls i = v) (hn : v ≠ zm 0) (hr : z_real v = true) : arr[i]? = some (.val (z_conc X b v)) := h.2.2.2 i v (gL_s hg hn) hr
theorem zi_ne (x : Int) : zi x ≠ zm 0 := fun h => by cases h
theorem zl_ne (x : Int) : zl x ≠ zm 0 := fun h => by cases h
theorem qA_ne {v : AV} (h : qA v) : v ≠ zm 0 ∧ z_real v = true ∧ (∀ X b, ∃ a, z_conc X b v = .ref a) := by
  rcases v with x | x | x | x | x
  · exact h.elim
  · exact h.elim
  · exact ⟨fun e => (by cases e), rfl, fun X b => ⟨_, rfl⟩⟩
  · exact ⟨fun e => (by cases e), rfl, fun X b => ⟨_, rfl⟩⟩
  · have h1 : 2 ≤ x ∧ x ≠ 3 := h
    refine ⟨fun e => ?_, ?_, fun X b => ?_⟩
    · have : x = 0 := by cases e; rfl
      omega
    · show decide (2 ≤ x) = true
      simpa using h1.1
    · show ∃ a, (if x = 2 then Value.ref b else if 4 ≤ x then Value.ref (X.2.2.2.2.2 (x - 4)) else .null) = .ref a
      by_cases h2 : x = 2
      · exact ⟨b, by rw [if_pos h2]⟩
      · exact ⟨X.2.2.2.2.2 (x - 4), by rw [if_neg h2, if_pos (by omega)]⟩
theorem S_ildn {i : Nat} {f : Fin 4} (hd : decode (mC M) pc = .ok (.iload_n f, 1)) (hf : (f : Nat) = i) (k : z_Snd M E (pc + 1) K) : z_Snd M E pc (w_ild i K) := by
  intro ls st g D hw X p l e R s m args below meth c Z b H locs cells slots arr n0 s0 hr hc hrel hlv hol hos
  obtain ⟨x, hx, hA⟩ := qI_e hw
  refine lv_iload_n hr.1 hr.2.1 hd hf (z_lvi hlv hx (zi_ne x) rfl) ?_
  exact k _ _ _ _ hA hr hc hrel hlv hol (z_oks_c (gL_ok hx (zi_ne x) hol) hos)
theorem S_lldn {i : Nat} {f : Fin 4} (hd : decode (mC M) pc = .ok (.lload_n f, 1)) (hf : (f : Nat) = i) (k : z_Snd M E (pc + 1) K) : z_Snd M E pc (w_lld i K) := by
  intro ls st g D hw X p l e R s m args below meth c Z b H locs cells slots arr n0 s0 hr hc hrel hlv hol hos
  obtain ⟨x, hx, hA⟩ := qJ_e hw
  refine lv_lload_n hr.1 hr.2.1 hd hf (z_lvi hlv hx (zl_ne x) rfl) ?_
  exact k _ _ _ _ hA hr hc hrel hlv hol (z_oks_c (gL_ok hx (zl_ne x) hol) hos)
theorem S_aldn {i : Nat} {f : Fin 4} (hd : decode (mC M) pc = .ok (.aload_n f, 1)) (hf : (f : Nat) = i) (k : z_Snd M E (pc + 1) K) : z_Snd M E pc (w_ald i K) := by
  intro ls st g D hw X p l e R s m args below meth c Z b H locs cells slots arr n0 s0 hr hc hrel hlv hol hos
  obtain ⟨hq, hA⟩ := hw
  obtain ⟨h1, h2, h3⟩ := qA_ne hq
  obtain ⟨a, ha⟩ := h3 X b
  have hs := z_lvi hlv rfl h1 h2
  rw [ha] at hs
  refine lv_aload_n hr.1 hr.2.1 hd hf hs ?_
  have := k _ _ _ _ hA hr hc hrel hlv hol (z_oks_c (gL_ok rfl h1 hol) hos)
  rw [List.map_cons, ha] at this
  exact this
theorem S_ild {i : Nat} (hd : decode (mC M) pc = .ok (.iload i, 2)) (k : z_Snd M E (pc + 2) K) : z_Snd M E pc (w_ild i K) := by
  intro ls st g D hw X p l e R s m args below meth c Z b H locs cells slots arr n0 s0 hr hc hrel hlv hol hos
  obtain ⟨x, hx, hA⟩ := qI_e hw
  refine lv_iload hr.1 hr.2.1 hd (z_lvi hlv hx (zi_ne x) rfl) ?_
  exact k _ _ _ _ hA hr hc hrel hlv hol (z_oks_c (gL_ok hx (zi_ne x) hol) hos)
theorem S_lld {i : Nat} (hd : decode (mC M) pc = .ok (.lload i, 2)) (k : z_Snd M E (pc + 2) K) : z_Snd M E pc (w_lld i K) := by
  intro ls st g D hw X p l e R s m args below meth c Z b H locs cells slots arr n0 s0 hr hc hrel hlv hol hos
  obtain ⟨x, hx, hA⟩ := qJ_e hw
  refine lv_lload hr.1 hr.2.1 hd (z_lvi hlv hx (zl_ne x) rfl) ?_
  exact k _ _ _ _ hA hr hc hrel hlv hol (z_oks_c (gL_ok hx (zl_ne x) hol) hos)
theorem S_ald {i : Nat} (hd : decode (mC M) pc = .ok (.aload i, 2)) (k : z_Snd M E (pc + 2) K) : z_Snd M E pc (w_ald i K) := by
  intro ls st g D hw X p l e R s m args below meth c Z b H locs cells slots arr n0 s0 hr hc hrel hlv hol hos
  obtain ⟨hq, hA⟩ := hw
  obtain ⟨h1, h2, h3⟩ := qA_ne hq
  obtain ⟨a, ha⟩ := h3 X b
  have hs := z_lvi hlv rfl h1 h2
  rw [ha] at hs
  refine lv_aload hr.1 hr.2.1 hd hs ?_
  have := k _ _ _ _ hA hr hc hrel hlv hol (z_oks_c (gL_ok rfl h1 hol) hos)
  rw [List.map_cons, ha] at this
  exact this
def w_ist (i : Nat) (K : WP) : WP := fun ls st g D => pI st fun x t => K (sL ls i (zi x)) t g D
def w_lst (i : Nat) (K : WP) : WP := fun ls st g D => pJ st fun x t => K (sL (sL ls (i + 1) (zm 1)) i (zl x)) t g D
def w_ast (i : Nat) (K : WP) : WP := fun ls st g D => pA st fun x t => K (sL ls i (zr x)) t g D
def w_iinc (i : Nat) (n : Int) (K : WP) : WP := fun ls st g D => qI (gL ls i) fun x => zR (x + n) ∧ K (sL ls i (zi (x + n))) st g D
theorem S_istn {i : Nat} {f : Fin 4} (hd : decode (mC M) pc = .ok (.istore_n f, 1)) (hf : (f : Nat) = i) (hi : i < mN M) (k : z_Snd M E (pc + 1) K) : z_Snd M E pc (w_ist i K) := by
  intro ls st g D hw X p l e R s m args below meth c Z b H locs cells slots arr n0 s0 hr hc hrel hlv hol hos
  obtain ⟨x, t, rfl, hA⟩ := pI_e hw
  refine lv_istore_n hr.1 hr.2.1 hd hf (z_lv_has hlv) hi rfl (fun arr2 h2 => ?_)
  exact k _ _ _ _ hA hr hc hrel (z_lv_st1 (v := zi x) hlv trivial h2) (sL_ok hol (z_oks_h hos)) (z_oks_t hos)
theorem S_lstn {i : Nat} {f : Fin 4} (hd : decode (mC M) pc = .ok (.lstore_n f, 1)) (hf : (f : Nat) = i) (hi : i + 1 < mN M) (k : z_Snd M E (pc + 1) K) : z_Snd M E pc (w_lst i K) := by
  intro ls st g D hw X p l e R s m args below meth c Z b H locs cells slots arr n0 s0 hr hc hrel hlv hol hos
  obtain ⟨x, t, rfl, hA⟩ := pJ_e hw
  refine lv_lstore_n hr.1 hr.2.1 hd hf (z_lv_has hlv) hi rfl (fun arr2 h2 => ?_)
  exact k _ _ _ _ hA hr hc hrel (z_lv_st2 hlv h2) (sL_ok (sL_ok hol trivial) (z_oks_h hos)) (z_oks_t hos)
theorem S_astn {i : Nat} {f : Fin 4} (hd : decode (mC M) pc = .ok (.astore_n f, 1)) (hf : (f : Nat) = i) (hi : i < mN M) (k : z_Snd M E (pc + 1) K) : z_Snd M E pc (w_ast i K) := by
  intro ls st g D hw X p l e R s m args below meth c Z b H locs cells slots arr n0 s0 hr hc hrel hlv hol hos
  obtain ⟨x, t, rfl, hA⟩ := pA_e hw
  refine lv_astore_n hr.1 hr.2.1 hd hf (z_lv_has hlv) hi rfl (fun arr2 h2 => ?_)
  exact k _ _ _ _ hA hr hc hrel (z_lv_st1 (v := zr x) hlv trivial h2) (sL_ok hol (z_oks_h hos)) (z_oks_t hos)
theorem S_ist {i : Nat} (hd : decode (mC M) pc = .ok (.istore i, 2)) (hi : i < mN M) (k : z_Snd M E (pc + 2) K) : z_Snd M E pc (w_ist i K) := by
  intro ls st g D hw X p l e R s m args below meth c Z b H locs cells slots arr n0 s0 hr hc hrel hlv hol hos
  obtain ⟨x, t, rfl, hA⟩ := pI_e hw
  refine lv_istore hr.1 hr.2.1 hd (z_lv_has hlv) hi rfl (fun arr2 h2 => ?_)
  exact k _ _ _ _ hA hr hc hrel (z_lv_st1 (v := zi x) hlv trivial h2) (sL_ok hol (z_oks_h hos)) (z_oks_t hos)
theorem S_lst {i : Nat} (hd : decode (mC M) pc = .ok (.lstore i, 2)) (hi : i + 1 < mN M) (k : z_Snd M E (pc + 2) K) : z_Snd M E pc (w_lst i K) := by
  intro ls st g D hw X p l e R s m args below meth c Z b H locs cells slots arr n0 s0 hr hc hrel hlv hol hos
  obtain ⟨x, t, rfl, hA⟩ := pJ_e hw
  refine lv_lstore hr.1 hr.2.1 hd (z_lv_has hlv) hi rfl (fun arr2 h2 => ?_)
  exact k _ _ _ _ hA hr hc hrel (z_lv_st2 hlv h2) (sL_ok (sL_ok hol trivial) (z_oks_h hos)) (z_oks_t hos)
theorem S_ast {i : Nat} (hd : decode (mC M) pc = .ok (.astore i, 2)) (hi : i < mN M) (k : z_Snd M E (pc + 2) K) : z_Snd M E pc (w_ast i K) := by
  intro ls st g D hw X p l e R s m args below meth c Z b H locs cells slots arr n0 s0 hr hc hrel hlv hol hos
  obtain ⟨x, t, rfl, hA⟩ := pA_e hw
  refine lv_astore hr.1 hr.2.1 hd (z_lv_has hlv) hi rfl (fun arr2 h2 => ?_)
  exact k _ _ _ _ hA hr hc hrel (z_lv_st1 (v := zr x) hlv trivial h2) (sL_ok hol (z_oks_h hos)) (z_oks_t hos)
theorem S_iinc {i : Nat} {n : Int} (hd : decode (mC M) pc = .ok (.iinc i n, 3)) (hi : i < mN M) (k : z_Snd M E (pc + 3) K) : z_Snd M E pc (w_iinc i n K) := by
  intro ls st g D hw X p l e R s m args below meth c Z b H locs cells slots arr n0 s0 hr hc hrel hlv hol hos
  obtain ⟨x, hx, h0, hA⟩ := qI_e hw
  have hlv0 := z_lv_has hlv
  have hm : (i, z_conc X b (zi x)) ∈ z_prs X b ls := z_prs_mem.mpr ⟨zi x, gL_s hx (zi_ne x), rfl, rfl⟩
  obtain ⟨q, hq⟩ := List.getElem?_of_mem hm
  refine lv_iinc (v := Int32.ofInt (x + n)) hr.1 hr.2.1 hd hlv0 hq (Int32.ofInt_add x n).symm hi rfl (fun arr2 h2 => ?_)
  exact k _ _ _ _ hA hr hc hrel (z_lv_st1 (v := zi (x + n)) hlv trivial h2) (sL_ok hol h0) hos
-- numbers
def w_iadd (K : WP) : WP := fun ls st g D => pI st fun y t => pI t fun x t2 => zR (x + y) ∧ K ls (zi (x + y) :: t2) g D
theorem S_iadd (hd : decode (mC M) pc = .ok (.iadd, 1)) (k : z_Snd M E (pc + 1) K) : z_Snd M E pc (w_iadd K) := by
  intro ls st g D hw X p l e R s m args below meth c Z b H locs cells slots arr n0 s0 hr hc hrel hlv hol hos
  obtain ⟨y, t, rfl, hA⟩ := pI_e hw
  obtain ⟨x, t2, rfl, hB⟩ := pI_e hA
  have hy := z_oks_h hos
  have hx := z_oks_h (z_oks_t hos)
  obtain ⟨h0, hC⟩ := hB
  refine lv_iadd hr.1 hr.2.1 hd ?_
  rw [← Int32.ofInt_add]
  have h9 := k _ _ _ _ hC hr hc hrel hlv hol (z_oks_c (h0) (z_oks_t (z_oks_t hos)))
  exact h9
def w_isub (K : WP) : WP := fun ls st g D => pI st fun y t => pI t fun x t2 => zR (x - y) ∧ K ls (zi (x - y) :: t2) g D
theorem S_isub (hd : decode (mC M) pc = .ok (.isub, 1)) (k : z_Snd M E (pc + 1) K) : z_Snd M E pc (w_isub K) := by
  intro ls st g D hw X p l e R s m args below meth c Z b H locs cells slots arr n0 s0 hr hc hrel hlv hol hos
  obtain ⟨y, t, rfl, hA⟩ := pI_e hw
  obtain ⟨x, t2, rfl, hB⟩ := pI_e hA
  have hy := z_oks_h hos
  have hx := z_oks_h (z_oks_t hos)
  obtain ⟨h0, hC⟩ := hB
  refine lv_isub hr.1 hr.2.1 hd ?_
  rw [← Int32.ofInt_sub]
  have h9 := k _ _ _ _ hC hr hc hrel hlv hol (z_oks_c (h0) (z_oks_t (z_oks_t hos)))
  exact h9
def w_imul (K : WP) : WP := fun ls st g D => pI st fun y t => pI t fun x t2 => zR (x * y) ∧ K ls (zi (x * y) :: t2) g D
theorem S_imul (hd : decode (mC M) pc = .ok (.imul, 1)) (k : z_Snd M E (pc + 1) K) : z_Snd M E pc (w_imul K) := by
  intro ls st g D hw X p l e R s m args below meth c Z b H locs cells slots arr n0 s0 hr hc hrel hlv hol hos
  obtain ⟨y, t, rfl, hA⟩ := pI_e hw
  obtain ⟨x, t2, rfl, hB⟩ := pI_e hA
  have hy := z_oks_h hos
  have hx := z_oks_h (z_oks_t hos)
  obtain ⟨h0, hC⟩ := hB
  refine lv_imul hr.1 hr.2.1 hd ?_
  rw [← Int32.ofInt_mul]
  have h9 := k _ _ _ _ hC hr hc hrel hlv hol (z_oks_c (h0) (z_oks_t (z_oks_t hos)))
  exact h9
def w_idiv (K : WP) : WP := fun ls st g D => pI st fun y t => pI t fun x t2 => (0 ≤ x ∧ 0 < y) ∧ K ls (zi (x / y) :: t2) g D
theorem S_idiv (hd : decode (mC M) pc = .ok (.idiv, 1)) (k : z_Snd M E (pc + 1) K) : z_Snd M E pc (w_idiv K) := by
  intro ls st g D hw X p l e R s m args below meth c Z b H locs cells slots arr n0 s0 hr hc hrel hlv hol hos
  obtain ⟨y, t, rfl, hA⟩ := pI_e hw
  obtain ⟨x, t2, rfl, hB⟩ := pI_e hA
  have hy := z_oks_h hos
  have hx := z_oks_h (z_oks_t hos)
  obtain ⟨h0, hC⟩ := hB
  have e := z_div hx hy h0.1 h0.2
  refine lv_idiv hr.1 hr.2.1 hd (zR_ne0 hy h0.2) ?_
  rw [e.1]
  have h9 := k _ _ _ _ hC hr hc hrel hlv hol (z_oks_c (e.2) (z_oks_t (z_oks_t hos)))
  exact h9
def w_irem (K : WP) : WP := fun ls st g D => pI st fun y t => pI t fun x t2 => (0 ≤ x ∧ 0 < y) ∧ K ls (zi (x % y) :: t2) g D
theorem S_irem (hd : decode (mC M) pc = .ok (.irem, 1)) (k : z_Snd M E (pc + 1) K) : z_Snd M E pc (w_irem K) := by
  intro ls st g D hw X p l e R s m args below meth c Z b H locs cells slots arr n0 s0 hr hc hrel hlv hol hos
  obtain ⟨y, t, rfl, hA⟩ := pI_e hw
  obtain ⟨x, t2, rfl, hB⟩ := pI_e hA
  have hy := z_oks_h hos
  have hx := z_oks_h (z_oks_t hos)
  obtain ⟨h0, hC⟩ := hB
  have e := z_mod hx hy h0.1 h0.2
  refine lv_irem hr.1 hr.2.1 hd (zR_ne0 hy h0.2) ?_
  rw [e.1]
  have h9 := k _ _ _ _ hC hr hc hrel hlv hol (z_oks_c (e.2) (z_oks_t (z_oks_t hos)))
  exact h9
def w_iand (K : WP) : WP := fun ls st g D => pI st fun y t => pI t fun x t2 => K ls (zi (bA x y) :: t2) g D
theorem S_iand (hd : decode (mC M) pc = .ok (.iand, 1)) (k : z_Snd M E (pc + 1) K) : z_Snd M E pc (w_iand K) := by
  intro ls st g D hw X p l e R s m args below meth c Z b H locs cells slots arr n0 s0 hr hc hrel hlv hol hos
  obtain ⟨y, t, rfl, hA⟩ := pI_e hw
  obtain ⟨x, t2, rfl, hB⟩ := pI_e hA
  have hy := z_oks_h hos
  have hx := z_oks_h (z_oks_t hos)
  refine lv_iand hr.1 hr.2.1 hd ?_
  rw [← Int32.ofInt_toInt (Int32.ofInt x &&& Int32.ofInt y)]
  have h9 := k _ _ _ _ hB hr hc hrel hlv hol (z_oks_c (z_toR _) (z_oks_t (z_oks_t hos)))
  exact h9
def w_ior (K : WP) : WP := fun ls st g D => pI st fun y t => pI t fun x t2 => K ls (zi (bO x y) :: t2) g D
theorem S_ior (hd : decode (mC M) pc = .ok (.ior, 1)) (k : z_Snd M E (pc + 1) K) : z_Snd M E pc (w_ior K) := by
  intro ls st g D hw X p l e R s m args below meth c Z b H locs cells slots arr n0 s0 hr hc hrel hlv hol hos
  obtain ⟨y, t, rfl, hA⟩ := pI_e hw
  obtain ⟨x, t2, rfl, hB⟩ := pI_e hA
  have hy := z_oks_h hos
  have hx := z_oks_h (z_oks_t hos)
  refine lv_ior hr.1 hr.2.1 hd ?_
  rw [← Int32.ofInt_toInt (Int32.ofInt x ||| Int32.ofInt y)]
  have h9 := k _ _ _ _ hB hr hc hrel hlv hol (z_oks_c (z_toR _) (z_oks_t (z_oks_t hos)))
  exact h9
def w_ixor (K : WP) : WP := fun ls st g D => pI st fun y t => pI t fun x t2 => K ls (zi (bX x y) :: t2) g D
theorem S_ixor (hd : decode (mC M) pc = .ok (.ixor, 1)) (k : z_Snd M E (pc + 1) K) : z_Snd M E pc (w_ixor K) := by
  intro ls st g D hw X p l e R s m args below meth c Z b H locs cells slots arr n0 s0 hr hc hrel hlv hol hos
  obtain ⟨y, t, rfl, hA⟩ := pI_e hw
  obtain ⟨x, t2, rfl, hB⟩ := pI_e hA
  have hy := z_oks_h hos
  have hx := z_oks_h (z_oks_t hos)
  refine lv_ixor hr.1 hr.2.1 hd ?_
  rw [← Int32.ofInt_toInt (Int32.ofInt x ^^^ Int32.ofInt y)]
  have h9 := k _ _ _ _ hB hr hc hrel hlv hol (z_oks_c (z_toR _) (z_oks_t (z_oks_t hos)))
  exact h9
def w_ishl (K : WP) : WP := fun ls st g D => pI st fun y t => pI t fun x t2 => K ls (zi (bL x y) :: t2) g D
theorem S_ishl (hd : decode (mC M) pc = .ok (.ishl, 1)) (k : z_Snd M E (pc + 1) K) : z_Snd M E pc (w_ishl K) := by
  intro ls st g D hw X p l e R s m args below meth c Z b H locs cells slots arr n0 s0 hr hc hrel hlv hol hos
  obtain ⟨y, t, rfl, hA⟩ := pI_e hw
  obtain ⟨x, t2, rfl, hB⟩ := pI_e hA
  have hy := z_oks_h hos
  have hx := z_oks_h (z_oks_t hos)
  refine lv_ishl hr.1 hr.2.1 hd ?_
  rw [← Int32.ofInt_toInt (Int32.ofInt x <<< (Int32.ofInt y &&& 31))]
  have h9 := k _ _ _ _ hB hr hc hrel hlv hol (z_oks_c (z_toR _) (z_oks_t (z_oks_t hos)))
  exact h9
def w_ishr (K : WP) : WP := fun ls st g D => pI st fun y t => pI t fun x t2 => K ls (zi (bR x y) :: t2) g D
theorem S_ishr (hd : decode (mC M) pc = .ok (.ishr, 1)) (k : z_Snd M E (pc + 1) K) : z_Snd M E pc (w_ishr K) := by
  intro ls st g D hw X p l e R s m args below meth c Z b H locs cells slots arr n0 s0 hr hc hrel hlv hol hos
  obtain ⟨y, t, rfl, hA⟩ := pI_e hw
  obtain ⟨x, t2, rfl, hB⟩ := pI_e hA
  have hy := z_oks_h hos
  have hx := z_oks_h (z_oks_t hos)
  refine lv_ishr hr.1 hr.2.1 hd ?_
  rw [← Int32.ofInt_toInt (Int32.ofInt x >>> (Int32.ofInt y &&& 31))]
  have h9 := k _ _ _ _ hB hr hc hrel hlv hol (z_oks_c (z_toR _) (z_oks_t (z_oks_t hos)))
  exact h9
def w_iushr (K : WP) : WP := fun ls st g D => pI st fun y t => pI t fun x t2 => K ls (zi (bU x y) :: t2) g D
theorem S_iushr (hd : decode (mC M) pc = .ok (.iushr, 1)) (k : z_Snd M E (pc + 1) K) : z_Snd M E pc (w_iushr K) := by
  intro ls st g D hw X p l e R s m args below meth c Z b H locs cells slots arr n0 s0 hr hc hrel hlv hol hos
  obtain ⟨y, t, rfl, hA⟩ := pI_e hw
  obtain ⟨x, t2, rfl, hB⟩ := pI_e hA
  have hy := z_oks_h hos
  have hx := z_oks_h (z_oks_t hos)
  refine lv_iushr hr.1 hr.2.1 (v := Int32.ofInt (bU x y)) hd (by unfold bU; rw [Int32.ofInt_toInt]) ?_
  have h9 := k _ _ _ _ hB hr hc hrel hlv hol (z_oks_c (z_toR _) (z_oks_t (z_oks_t hos)))
  exact h9
def w_ineg (K : WP) : WP := fun ls st g D => pI st fun x t => zR (-x) ∧ K ls (zi (-x) :: t) g D
theorem S_ineg (hd : decode (mC M) pc = .ok (.ineg, 1)) (k : z_Snd M E (pc + 1) K) : z_Snd M E pc (w_ineg K) := by
  intro ls st g D hw X p l e R s m args below meth c Z b H locs cells slots arr n0 s0 hr hc hrel hlv hol hos
  obtain ⟨x, t, rfl, h0, hA⟩ := pI_e hw
  refine lv_ineg hr.1 hr.2.1 hd ?_
  have h9 := k _ _ _ _ hA hr hc hrel hlv hol (z_oks_c h0 (z_oks_t hos))
  rw [List.map_cons] at h9
  first
    | (rw [← Int32.ofInt_neg]; exact h9)
    | (rw [show (0 : Int32) - Int32.ofInt x = Int32.ofInt (-x) by rw [Int32.ofInt_neg]; simp]; exact h9)
def w_ladd (K : WP) : WP := fun ls st g D => pJ st fun y t => pJ t fun x t2 => K ls (zl (z64 (x + y)) :: t2) g D
theorem S_ladd (hd : decode (mC M) pc = .ok (.ladd, 1)) (k : z_Snd M E (pc + 1) K) : z_Snd M E pc (w_ladd K) := by
  intro ls st g D hw X p l e R s m args below meth c Z b H locs cells slots arr n0 s0 hr hc hrel hlv hol hos
  obtain ⟨y, t, rfl, hA⟩ := pJ_e hw
  obtain ⟨x, t2, rfl, hB⟩ := pJ_e hA
  have hy := z_oks_h hos
  have hx := z_oks_h (z_oks_t hos)
  refine lv_ladd hr.1 hr.2.1 hd ?_
  rw [← Int64.ofInt_add, ← z64_of]
  have h9 := k _ _ _ _ hB hr hc hrel hlv hol (z_oks_c (z64_R _) (z_oks_t (z_oks_t hos)))
  exact h9
def w_lsub (K : WP) : WP := fun ls st g D => pJ st fun y t => pJ t fun x t2 => K ls (zl (z64 (x - y)) :: t2) g D
theorem S_lsub (hd : decode (mC M) pc = .ok (.lsub, 1)) (k : z_Snd M E (pc + 1) K) : z_Snd M E pc (w_lsub K) := by
  intro ls st g D hw X p l e R s m args below meth c Z b H locs cells slots arr n0 s0 hr hc hrel hlv hol hos
  obtain ⟨y, t, rfl, hA⟩ := pJ_e hw
  obtain ⟨x, t2, rfl, hB⟩ := pJ_e hA
  have hy := z_oks_h hos
  have hx := z_oks_h (z_oks_t hos)
  refine lv_lsub hr.1 hr.2.1 hd ?_
  rw [← Int64.ofInt_sub, ← z64_of]
  have h9 := k _ _ _ _ hB hr hc hrel hlv hol (z_oks_c (z64_R _) (z_oks_t (z_oks_t hos)))
  exact h9
def w_lmul (K : WP) : WP := fun ls st g D => pJ st fun y t => pJ t fun x t2 => K ls (zl (z64 (x * y)) :: t2) g D
theorem S_lmul (hd : decode (mC M) pc = .ok (.lmul, 1)) (k : z_Snd M E (pc + 1) K) : z_Snd M E pc (w_lmul K) := by
  intro ls st g D hw X p l e R s m args below meth c Z b H locs cells slots arr n0 s0 hr hc hrel hlv hol hos
  obtain ⟨y, t, rfl, hA⟩ := pJ_e hw
  obtain ⟨x, t2, rfl, hB⟩ := pJ_e hA
  have hy := z_oks_h hos
  have hx := z_oks_h (z_oks_t hos)
  refine lv_lmul hr.1 hr.2.1 hd ?_
  rw [← Int64.ofInt_mul, ← z64_of]
  have h9 := k _ _ _ _ hB hr hc hrel hlv hol (z_oks_c (z64_R _) (z_oks_t (z_oks_t hos)))
  exact h9
def w_ldiv (K : WP) : WP := fun ls st g D => pJ st fun y t => pJ t fun x t2 => (0 ≤ x ∧ 0 < y) ∧ K ls (zl (x / y) :: t2) g D
theorem S_ldiv (hd : decode (mC M) pc = .ok (.ldiv, 1)) (k : z_Snd M E (pc + 1) K) : z_Snd M E pc (w_ldiv K) := by
  intro ls st g D hw X p l e R s m args below meth c Z b H locs cells slots arr n0 s0 hr hc hrel hlv hol hos
  obtain ⟨y, t, rfl, hA⟩ := pJ_e hw
  obtain ⟨x, t2, rfl, hB⟩ := pJ_e hA
  have hy := z_oks_h hos
  have hx := z_oks_h (z_oks_t hos)
  obtain ⟨h0, hC⟩ := hB
  have e := z_div6 hx hy h0.1 h0.2
  refine lv_ldiv hr.1 hr.2.1 hd (zR6_ne0 hy h0.2) ?_
  rw [e.1]
  have h9 := k _ _ _ _ hC hr hc hrel hlv hol (z_oks_c (e.2) (z_oks_t (z_oks_t hos)))
  exact h9
def w_lrem (K : WP) : WP := fun ls st g D => pJ st fun y t => pJ t fun x t2 => (0 ≤ x ∧ 0 < y) ∧ K ls (zl (x % y) :: t2) g D
theorem S_lrem (hd : decode (mC M) pc = .ok (.lrem, 1)) (k : z_Snd M E (pc + 1) K) : z_Snd M E pc (w_lrem K) := by
  intro ls st g D hw X p l e R s m args below meth c Z b H locs cells slots arr n0 s0 hr hc hrel hlv hol hos
  obtain ⟨y, t, rfl, hA⟩ := pJ_e hw
  obtain ⟨x, t2, rfl, hB⟩ := pJ_e hA
  have hy := z_oks_h hos
  have hx := z_oks_h (z_oks_t hos)
  obtain ⟨h0, hC⟩ := hB
  have e := z_mod6 hx hy h0.1 h0.2
  refine lv_lrem hr.1 hr.2.1 hd (zR6_ne0 hy h0.2) ?_
  rw [e.1]
  have h9 := k _ _ _ _ hC hr hc hrel hlv hol (z_oks_c (e.2) (z_oks_t (z_oks_t hos)))
  exact h9
def zcmp (x y : Int) : Int := if y < x then 1 else if x = y then 0 else -1
theorem zcmp_lg {x y : Int} (hx : zR6 x) (hy : zR6 y) : lg_cmp (Int64.ofInt x) (Int64.ofInt y) = Int32.ofInt (zcmp x y) := by
  have e1 : (Int64.ofInt x > Int64.ofInt y) ↔ y < x := by
    show Int64.ofInt y < Int64.ofInt x ↔ _
    rw [Int64.lt_iff_toInt_lt, zR6_toInt hx, zR6_toInt hy]
  have e2 : (Int64.ofInt x = Int64.ofInt y) ↔ x = y := by
    rw [← Int64.toInt_inj, zR6_toInt hx, zR6_toInt hy]
  unfold lg_cmp zcmp
  by_cases h1 : y < x
  · rw [if_pos (e1.mpr h1), if_pos h1]; rfl
  · rw [if_neg (fun q => h1 (e1.mp q)), if_neg h1]
    by_cases h2 : x = y
    · rw [if_pos (e2.mpr h2), if_pos h2]; rfl
    · rw [if_neg (fun q => h2 (e2.mp q)), if_neg h2]; rfl
theorem zcmp_R (x y : Int) : zR (zcmp x y) := by
  unfold zcmp zR
  split
  · omega
  · split <;> omega
def w_lcmp (K : WP) : WP := fun ls st g D => pJ st fun y t => pJ t fun x t2 => K ls (zi (zcmp x y) :: t2) g D
def w_i2l (K : WP) : WP := fun ls st g D => pI st fun x t => K ls (zl x :: t) g D
def w_l2i (K : WP) : WP := fun ls st g D => pJ st fun x t => zR x ∧ K ls (zi x :: t) g D
theorem S_lcmp (hd : decode (mC M) pc = .ok (.lcmp, 1)) (k : z_Snd M E (pc + 1) K) : z_Snd M E pc (w_lcmp K) := by
  intro ls st g D hw X p l e R s m args below meth c Z b H locs cells slots arr n0 s0 hr hc hrel hlv hol hos
  obtain ⟨y, t, rfl, hA⟩ := pJ_e hw
  obtain ⟨x, t2, rfl, hB⟩ := pJ_e hA
  refine W.lcmp hr.1 hr.2.1 hd ?_
  rw [zcmp_lg (z_oks_h (z_oks_t hos)) (z_oks_h hos)]
  exact k _ _ _ _ hB hr hc hrel hlv hol (z_oks_c (zcmp_R _ _) (z_oks_t (z_oks_t hos)))
theorem S_i2l (hd : decode (mC M) pc = .ok (.i2l, 1)) (k : z_Snd M E (pc + 1) K) : z_Snd M E pc (w_i2l K) := by
  intro ls st g D hw X p l e R s m args below meth c Z b H locs cells slots arr n0 s0 hr hc hrel hlv hol hos
  obtain ⟨x, t, rfl, hA⟩ := pI_e hw
  have e := z_i2l (z_oks_h hos)
  refine lv_i2l hr.1 hr.2.1 hd e.1 ?_
  exact k _ _ _ _ hA hr hc hrel hlv hol (z_oks_c e.2 (z_oks_t hos))
theorem S_l2i (hd : decode (mC M) pc = .ok (.l2i, 1)) (k : z_Snd M E (pc + 1) K) : z_Snd M E pc (w_l2i K) := by
  intro ls st g D hw X p l e R s m args below meth c Z b H locs cells slots arr n0 s0 hr hc hrel hlv hol hos
  obtain ⟨x, t, rfl, h0, hA⟩ := pJ_e hw
  refine lv_l2i hr.1 hr.2.1 (v := Int32.ofInt x) hd Int64.toInt32_ofInt ?_
  exact k _ _ _ _ hA hr hc hrel hlv hol (z_oks_c h0 (z_oks_t hos))
-- the stack
def w_dup (K : WP) : WP := fun ls st g D => pV st fun v t => z_c1 v ∧ K ls (v :: v :: t) g D
def w_pop (K : WP) : WP := fun ls st g D => pV st fun v t => z_c1 v ∧ K ls t g D
def w_dup2 (K : WP) : WP := fun ls st g D => pV st fun v t => pV t fun u t2 => z_c1 v ∧ z_c1 u ∧ K ls (v :: u :: v :: u :: t2) g D
theorem S_dup (hd : decode (mC M) pc = .ok (.dup, 1)) (k : z_Snd M E (pc + 1) K) : z_Snd M E pc (w_dup K) := by
  intro ls st g D hw X p l e R s m args below meth c Z b H locs cells slots arr n0 s0 hr hc hrel hlv hol hos
  obtain ⟨v, t, rfl, h0, hA⟩ := pV_e hw
  refine lv_dup hr.1 hr.2.1 hd (c1_e h0) ?_
  exact k _ _ _ _ hA hr hc hrel hlv hol (z_oks_c (z_oks_h hos) hos)
theorem S_pop (hd : decode (mC M) pc = .ok (.pop, 1)) (k : z_Snd M E (pc + 1) K) : z_Snd M E pc (w_pop K) := by
  intro ls st g D hw X p l e R s m args below meth c Z b H locs cells slots arr n0 s0 hr hc hrel hlv hol hos
  obtain ⟨v, t, rfl, h0, hA⟩ := pV_e hw
  refine lv_pop hr.1 hr.2.1 hd (c1_e h0) ?_
  exact k _ _ _ _ hA hr hc hrel hlv hol (z_oks_t hos)
theorem S_dup2 (hd : decode (mC M) pc = .ok (.dup2, 1)) (k : z_Snd M E (pc + 1) K) : z_Snd M E pc (w_dup2 K) := by
  intro ls st g D hw X p l e R s m args below meth c Z b H locs cells slots arr n0 s0 hr hc hrel hlv hol hos
  obtain ⟨v, t, rfl, hA⟩ := pV_e hw
  obtain ⟨u, t2, rfl, h0, h1, hB⟩ := pV_e hA
  refine lv_dup2_11 hr.1 hr.2.1 hd (c1_e h0) (c1_e h1) ?_
  exact k _ _ _ _ hB hr hc hrel hlv hol (z_oks_c (z_oks_h hos) (z_oks_c (z_oks_h (z_oks_t hos)) hos))
-- branches
def w_ieq (K1 K2 : WP) : WP := fun ls st g D => pI st fun y t => pI t fun x t2 => (x = y → K1 ls t2 g D) ∧ (¬ (x = y) → K2 ls t2 g D)
def w_zeq (K1 K2 : WP) : WP := fun ls st g D => pI st fun x t => (x = 0 → K1 ls t g D) ∧ (¬ (x = 0) → K2 ls t g D)
theorem S_ieq {off : Int} {tgt : Nat} (hd : decode (mC M) pc = .ok (.if_icmp .eq off, 3)) (ht : (pc : Int) + off = (tgt : Int)) (k1 : z_Snd M E tgt K1) (k2 : z_Snd M E (pc + 3) K2) : z_Snd M E pc (w_ieq K1 K2) := by
  intro ls st g D hw X p l e R s m args below meth c Z b H locs cells slots arr n0 s0 hr hc hrel hlv hol hos
  obtain ⟨y, t, rfl, hA⟩ := pI_e hw
  obtain ⟨x, t2, rfl, h1, h2⟩ := pI_e hA
  have hy := z_oks_h hos
  have hx := z_oks_h (z_oks_t hos)
  refine lv_icmp_eq hr.1 hr.2.1 hd ht (fun q => ?_) (fun q => ?_)
  · exact k1 _ _ _ _ (h1 ((zR_eq hx hy).mp q)) hr hc hrel hlv hol (z_oks_t (z_oks_t hos))
  · exact k2 _ _ _ _ (h2 (fun w => q ((zR_eq hx hy).mpr w))) hr hc hrel hlv hol (z_oks_t (z_oks_t hos))
theorem S_zeq {off : Int} {tgt : Nat} (hd : decode (mC M) pc = .ok (.ifCond .eq off, 3)) (ht : (pc : Int) + off = (tgt : Int)) (k1 : z_Snd M E tgt K1) (k2 : z_Snd M E (pc + 3) K2) : z_Snd M E pc (w_zeq K1 K2) := by
  intro ls st g D hw X p l e R s m args below meth c Z b H locs cells slots arr n0 s0 hr hc hrel hlv hol hos
  obtain ⟨x, t2, rfl, h1, h2⟩ := pI_e hw
  have hx := z_oks_h hos
  refine lv_if_eq hr.1 hr.2.1 hd ht (fun q => ?_) (fun q => ?_)
  · exact k1 _ _ _ _ (h1 ((zR_eq hx zR_0).mp q)) hr hc hrel hlv hol (z_oks_t hos)
  · exact k2 _ _ _ _ (h2 (fun w => q ((zR_eq hx zR_0).mpr w))) hr hc hrel hlv hol (z_oks_t hos)
def w_ine (K1 K2 : WP) : WP := fun ls st g D => pI st fun y t => pI t fun x t2 => (¬ x = y → K1 ls t2 g D) ∧ (¬ (¬ x = y) → K2 ls t2 g D)
def w_zne (K1 K2 : WP) : WP := fun ls st g D => pI st fun x t => (¬ x = 0 → K1 ls t g D) ∧ (¬ (¬ x = 0) → K2 ls t g D)
theorem S_ine {off : Int} {tgt : Nat} (hd : decode (mC M) pc = .ok (.if_icmp .ne off, 3)) (ht : (pc : Int) + off = (tgt : Int)) (k1 : z_Snd M E tgt K1) (k2 : z_Snd M E (pc + 3) K2) : z_Snd M E pc (w_ine K1 K2) := by
  intro ls st g D hw X p l e R s m args below meth c Z b H locs cells slots arr n0 s0 hr hc hrel hlv hol hos
  obtain ⟨y, t, rfl, hA⟩ := pI_e hw
  obtain ⟨x, t2, rfl, h1, h2⟩ := pI_e hA
  have hy := z_oks_h hos
  have hx := z_oks_h (z_oks_t hos)
  refine lv_icmp_ne hr.1 hr.2.1 hd ht (fun q => ?_) (fun q => ?_)
  · exact k1 _ _ _ _ (h1 (fun w => q ((zR_eq hx hy).mpr w))) hr hc hrel hlv hol (z_oks_t (z_oks_t hos))
  · exact k2 _ _ _ _ (h2 (fun w => w ((zR_eq hx hy).mp q))) hr hc hrel hlv hol (z_oks_t (z_oks_t hos))
theorem S_zne {off : Int} {tgt : Nat} (hd : decode (mC M) pc = .ok (.ifCond .ne off, 3)) (ht : (pc : Int) + off = (tgt : Int)) (k1 : z_Snd M E tgt K1) (k2 : z_Snd M E (pc + 3) K2) : z_Snd M E pc (w_zne K1 K2) := by
  intro ls st g D hw X p l e R s m args below meth c Z b H locs cells slots arr n0 s0 hr hc hrel hlv hol hos
  obtain ⟨x, t2, rfl, h1, h2⟩ := pI_e hw
  have hx := z_oks_h hos
  refine lv_if_ne hr.1 hr.2.1 hd ht (fun q => ?_) (fun q => ?_)
  · exact k1 _ _ _ _ (h1 (fun w => q ((zR_eq hx zR_0).mpr w))) hr hc hrel hlv hol (z_oks_t hos)
  · exact k2 _ _ _ _ (h2 (fun w => w ((zR_eq hx zR_0).mp q))) hr hc hrel hlv hol (z_oks_t hos)
def w_ilt (K1 K2 : WP) : WP := fun ls st g D => pI st fun y t => pI t fun x t2 => (x < y → K1 ls t2 g D) ∧ (¬ (x < y) → K2 ls t2 g D)
def w_zlt (K1 K2 : WP) : WP := fun ls st g D => pI st fun x t => (x < 0 → K1 ls t g D) ∧ (¬ (x < 0) → K2 ls t g D)
theorem S_ilt {off : Int} {tgt : Nat} (hd : decode (mC M) pc = .ok (.if_icmp .lt off, 3)) (ht : (pc : Int) + off = (tgt : Int)) (k1 : z_Snd M E tgt K1) (k2 : z_Snd M E (pc + 3) K2) : z_Snd M E pc (w_ilt K1 K2) := by
  intro ls st g D hw X p l e R s m args below meth c Z b H locs cells slots arr n0 s0 hr hc hrel hlv hol hos
  obtain ⟨y, t, rfl, hA⟩ := pI_e hw
  obtain ⟨x, t2, rfl, h1, h2⟩ := pI_e hA
  have hy := z_oks_h hos
  have hx := z_oks_h (z_oks_t hos)
  refine lv_icmp_lt hr.1 hr.2.1 hd ht (fun q => ?_) (fun q => ?_)
  · exact k1 _ _ _ _ (h1 ((zR_lt hx hy).mp q)) hr hc hrel hlv hol (z_oks_t (z_oks_t hos))
  · exact k2 _ _ _ _ (h2 (fun w => q ((zR_lt hx hy).mpr w))) hr hc hrel hlv hol (z_oks_t (z_oks_t hos))
theorem S_zlt {off : Int} {tgt : Nat} (hd : decode (mC M) pc = .ok (.ifCond .lt off, 3)) (ht : (pc : Int) + off = (tgt : Int)) (k1 : z_Snd M E tgt K1) (k2 : z_Snd M E (pc + 3) K2) : z_Snd M E pc (w_zlt K1 K2) := by
  intro ls st g D hw X p l e R s m args below meth c Z b H locs cells slots arr n0 s0 hr hc hrel hlv hol hos
  obtain ⟨x, t2, rfl, h1, h2⟩ := pI_e hw
  have hx := z_oks_h hos
  refine lv_if_lt hr.1 hr.2.1 hd ht (fun q => ?_) (fun q => ?_)
  · exact k1 _ _ _ _ (h1 ((zR_lt hx zR_0).mp q)) hr hc hrel hlv hol (z_oks_t hos)
  · exact k2 _ _ _ _ (h2 (fun w => q ((zR_lt hx zR_0).mpr w))) hr hc hrel hlv hol (z_oks_t hos)
def w_ige (K1 K2 : WP) : WP := fun ls st g D => pI st fun y t => pI t fun x t2 => (y ≤ x → K1 ls t2 g D) ∧ (¬ (y ≤ x) → K2 ls t2 g D)
def w_zge (K1 K2 : WP) : WP := fun ls st g D => pI st fun x t => (0 ≤ x → K1 ls t g D) ∧ (¬ (0 ≤ x) → K2 ls t g D)
theorem S_ige {off : Int} {tgt : Nat} (hd : decode (mC M) pc = .ok (.if_icmp .ge off, 3)) (ht : (pc : Int) + off = (tgt : Int)) (k1 : z_Snd M E tgt K1) (k2 : z_Snd M E (pc + 3) K2) : z_Snd M E pc (w_ige K1 K2) := by
  intro ls st g D hw X p l e R s m args below meth c Z b H locs cells slots arr n0 s0 hr hc hrel hlv hol hos
  obtain ⟨y, t, rfl, hA⟩ := pI_e hw
  obtain ⟨x, t2, rfl, h1, h2⟩ := pI_e hA
  have hy := z_oks_h hos
  have hx := z_oks_h (z_oks_t hos)
  refine lv_icmp_ge hr.1 hr.2.1 hd ht (fun q => ?_) (fun q => ?_)
  · exact k1 _ _ _ _ (h1 ((zR_le hy hx).mp q)) hr hc hrel hlv hol (z_oks_t (z_oks_t hos))
  · exact k2 _ _ _ _ (h2 (fun w => q ((zR_le hy hx).mpr w))) hr hc hrel hlv hol (z_oks_t (z_oks_t hos))
theorem S_zge {off : Int} {tgt : Nat} (hd : decode (mC M) pc = .ok (.ifCond .ge off, 3)) (ht : (pc : Int) + off = (tgt : Int)) (k1 : z_Snd M E tgt K1) (k2 : z_Snd M E (pc + 3) K2) : z_Snd M E pc (w_zge K1 K2) := by
  intro ls st g D hw X p l e R s m args below meth c Z b H locs cells slots arr n0 s0 hr hc hrel hlv hol hos
  obtain ⟨x, t2, rfl, h1, h2⟩ := pI_e hw
  have hx := z_oks_h hos
  refine lv_if_ge hr.1 hr.2.1 hd ht (fun q => ?_) (fun q => ?_)
  · exact k1 _ _ _ _ (h1 ((zR_le zR_0 hx).mp q)) hr hc hrel hlv hol (z_oks_t hos)
  · exact k2 _ _ _ _ (h2 (fun w => q ((zR_le zR_0 hx).mpr w))) hr hc hrel hlv hol (z_oks_t hos)
def w_igt (K1 K2 : WP) : WP := fun ls st g D => pI st fun y t => pI t fun x t2 => (y < x → K1 ls t2 g D) ∧ (¬ (y < x) → K2 ls t2 g D)
def w_zgt (K1 K2 : WP) : WP := fun ls st g D => pI st fun x t => (0 < x → K1 ls t g D) ∧ (¬ (0 < x) → K2 ls t g D)
theorem S_igt {off : Int} {tgt : Nat} (hd : decode (mC M) pc = .ok (.if_icmp .gt off, 3)) (ht : (pc : Int) + off = (tgt : Int)) (k1 : z_Snd M E tgt K1) (k2 : z_Snd M E (pc + 3) K2) : z_Snd M E pc (w_igt K1 K2) := by
  intro ls st g D hw X p l e R s m args below meth c Z b H locs cells slots arr n0 s0 hr hc hrel hlv hol hos
  obtain ⟨y, t, rfl, hA⟩ := pI_e hw
  obtain ⟨x, t2, rfl, h1, h2⟩ := pI_e hA
  have hy := z_oks_h hos
  have hx := z_oks_h (z_oks_t hos)
  refine lv_icmp_gt hr.1 hr.2.1 hd ht (fun q => ?_) (fun q => ?_)
  · exact k1 _ _ _ _ (h1 ((zR_lt hy hx).mp q)) hr hc hrel hlv hol (z_oks_t (z_oks_t hos))
  · exact k2 _ _ _ _ (h2 (fun w => q ((zR_lt hy hx).mpr w))) hr hc hrel hlv hol (z_oks_t (z_oks_t hos))
theorem S_zgt {off : Int} {tgt : Nat} (hd : decode (mC M) pc = .ok (.ifCond .gt off, 3)) (ht : (pc : Int) + off = (tgt : Int)) (k1 : z_Snd M E tgt K1) (k2 : z_Snd M E (pc + 3) K2) : z_Snd M E pc (w_zgt K1 K2) := by
  intro ls st g D hw X p l e R s m args below meth c Z b H locs cells slots arr n0 s0 hr hc hrel hlv hol hos
  obtain ⟨x, t2, rfl, h1, h2⟩ := pI_e hw
  have hx := z_oks_h hos
  refine lv_if_gt hr.1 hr.2.1 hd ht (fun q => ?_) (fun q => ?_)
  · exact k1 _ _ _ _ (h1 ((zR_lt zR_0 hx).mp q)) hr hc hrel hlv hol (z_oks_t hos)
  · exact k2 _ _ _ _ (h2 (fun w => q ((zR_lt zR_0 hx).mpr w))) hr hc hrel hlv hol (z_oks_t hos)
def w_ile (K1 K2 : WP) : WP := fun ls st g D => pI st fun y t => pI t fun x t2 => (x ≤ y → K1 ls t2 g D) ∧ (¬ (x ≤ y) → K2 ls t2 g D)
def w_zle (K1 K2 : WP) : WP := fun ls st g D => pI st fun x t => (x ≤ 0 → K1 ls t g D) ∧ (¬ (x ≤ 0) → K2 ls t g D)
theorem S_ile {off : Int} {tgt : Nat} (hd : decode (mC M) pc = .ok (.if_icmp .le off, 3)) (ht : (pc : Int) + off = (tgt : Int)) (k1 : z_Snd M E tgt K1) (k2 : z_Snd M E (pc + 3) K2) : z_Snd M E pc (w_ile K1 K2) := by
  intro ls st g D hw X p l e R s m args below meth c Z b H locs cells slots arr n0 s0 hr hc hrel hlv hol hos
  obtain ⟨y, t, rfl, hA⟩ := pI_e hw
  obtain ⟨x, t2, rfl, h1, h2⟩ := pI_e hA
  have hy := z_oks_h hos
  have hx := z_oks_h (z_oks_t hos)
  refine lv_icmp_le hr.1 hr.2.1 hd ht (fun q => ?_) (fun q => ?_)
  · exact k1 _ _ _ _ (h1 ((zR_le hx hy).mp q)) hr hc hrel hlv hol (z_oks_t (z_oks_t hos))
  · exact k2 _ _ _ _ (h2 (fun w => q ((zR_le hx hy).mpr w))) hr hc hrel hlv hol (z_oks_t (z_oks_t hos))
theorem S_zle {off : Int} {tgt : Nat} (hd : decode (mC M) pc = .ok (.ifCond .le off, 3)) (ht : (pc : Int) + off = (tgt : Int)) (k1 : z_Snd M E tgt K1) (k2 : z_Snd M E (pc + 3) K2) : z_Snd M E pc (w_zle K1 K2) := by
  intro ls st g D hw X p l e R s m args below meth c Z b H locs cells slots arr n0 s0 hr hc hrel hlv hol hos
  obtain ⟨x, t2, rfl, h1, h2⟩ := pI_e hw
  have hx := z_oks_h hos
  refine lv_if_le hr.1 hr.2.1 hd ht (fun q => ?_) (fun q => ?_)
  · exact k1 _ _ _ _ (h1 ((zR_le hx zR_0).mp q)) hr hc hrel hlv hol (z_oks_t hos)
  · exact k2 _ _ _ _ (h2 (fun w => q ((zR_le hx zR_0).mpr w))) hr hc hrel hlv hol (z_oks_t hos)
theorem S_goto {off : Int} {tgt : Nat} (hd : decode (mC M) pc = .ok (.goto off, 3)) (ht : (pc : Int) + off = (tgt : Int)) (k : z_Snd M E tgt K) : z_Snd M E pc K := by
  intro ls st g D hw X p l e R s m args below meth c Z b H locs cells slots arr n0 s0 hr hc hrel hlv hol hos
  refine lv_goto hr.1 hr.2.1 hd ht ?_
  exact k _ _ _ _ hw hr hc hrel hlv hol hos
def w_cut (M : MI) (E : En) (pc : Nat) : WP := fun ls st g D => z_WF M E pc ls st g D
theorem S_cut : z_Snd M E pc (w_cut M E pc) := fun _ _ _ _ h => h
def zsw : List Nat → Int → Int → (Nat → Prop) → Prop
  | [], _, _, _ => True
  | t :: r, lo, x, f => (x = lo → f t) ∧ zsw r (lo + 1) x f
theorem zsw_e : ∀ {ts : List Nat} {lo x : Int} {f : Nat → Prop}, zsw ts lo x f → ∀ (j t : Nat), ts[j]? = some t → x = lo + j → f t
  | [], _, _, _, _, j, t, h, _ => by simp at h
  | a :: r, lo, x, f, hz, 0, t, h, e => by
    cases h
    exact hz.1 (by omega)
  | a :: r, lo, x, f, hz, j + 1, t, h, e => by
    exact zsw_e hz.2 j t h (by omega)
/-- a switch: each way leads to a place of its own -/
def w_tsw (M : MI) (E : En) (lo : Int) (ts : List Nat) (d : Nat) : WP := fun ls st g D => pI st fun x t => zsw ts lo x (fun q => z_WF M E q ls t g D) ∧ ((x < lo ∨ lo + (ts.length : Int) ≤ x) → z_WF M E d ls t g D)
theorem S_tsw {lo hi dflt : Int} {offs : Array Int} {len d : Nat} {ts : List Nat} (hd : decode (mC M) pc = .ok (.tableswitch dflt lo hi offs, len)) (hh : hi + 1 = lo + (ts.length : Int)) (h0 : (pc : Int) + dflt = (d : Int)) (ho : offs.toList.map (fun off => (pc : Int) + off) = (ts.map fun t : Nat => (t : Int))) : z_Snd M E pc (w_tsw M E lo ts d) := by
  intro ls st g D hw X p l e R s m args below meth c Z b H locs cells slots arr n0 s0 hr hc hrel hlv hol hos
  obtain ⟨x, t, rfl, h1, h2⟩ := pI_e hw
  have hx : zR x := z_oks_h hos
  by_cases hq : x < lo ∨ hi < x
  · refine lv_tableOut hr.1 hr.2.1 hd (tgt := d) (by rw [zR_toInt hx]; exact hq) h0 ?_
    exact h2 (by omega) hr hc hrel hlv hol (z_oks_t hos)
  · have hj : (x - lo).toNat < ts.length := by omega
    have hlen : offs.size = ts.length := by
      have := congrArg List.length ho
      simpa using this
    have hjo : (x - lo).toNat < offs.size := by omega
    have e1 : (pc : Int) + offs[(x - lo).toNat] = (ts[(x - lo).toNat] : Int) := by
      have e2 := congrArg (fun l => l[(x - lo).toNat]?) ho
      simp only [List.getElem?_map, Array.getElem?_toList] at e2
      rw [Array.getElem?_eq_getElem hjo, List.getElem?_eq_getElem hj] at e2
      simpa using e2
    refine lv_tableIn hr.1 hr.2.1 hd (off := offs[(x - lo).toNat]) (tgt := ts[(x - lo).toNat]) (by rw [zR_toInt hx]; omega) (by rw [zR_toInt hx]; omega) (by rw [zR_toInt hx]; exact Array.getElem?_eq_getElem hjo) e1 ?_
    exact zsw_e h1 (x - lo).toNat _ (List.getElem?_eq_getElem hj) (by omega) hr hc hrel hlv hol (z_oks_t hos)
-- ends
def w_iret (E : En) : WP := fun _ st g D => pI st fun x t => t = [] ∧ g.1 = E.1.1 ∧ g.2.1 = E.1.2 ∧ E.2.2 x g D
def w_zret (E : En) : WP := fun _ st g D => pI st fun x t => t = [] ∧ g.1 = E.1.1 ∧ g.2.1 = E.1.2 ∧ (x = 0 ∨ x = 1) ∧ E.2.2 x g D
def w_lret (E : En) : WP := fun _ st g D => pJ st fun x t => t = [] ∧ g.1 = E.1.1 ∧ g.2.1 = E.1.2 ∧ E.2.2 x g D
def w_vret (E : En) : WP := fun _ st g D => st = [] ∧ g.1 = E.1.1 ∧ g.2.1 = E.1.2 ∧ E.2.2 0 g D
theorem z_fin {M : MI} {E : En} {X : Xe} {p : Program} {l : Launch} {e : Env} {R : Room} {s : State} {m : MethodId} {args : Array Value} {below : List Frame} {meth : Method} {c : Code} {Z : State → Prop} {b n0 s0 : Nat} {H : Heap} {locs : List Loc} {cells slots : Nat} {arr : Array Slot} {g : Gm} {D : Mem} {x : Int} {pc : Nat} (hr : z_Run M E X p l e R s m args below meth c Z b n0 s0) (hc : z_Cn E n0 s0 g cells slots) (hrel : z_Rel X g D s H locs) (h1 : g.1 = E.1.1) (h2 : g.2.1 = E.1.2) (hok : z_rok (mR M) x) (hQ : E.2.2 x g D) (hd : decode (mC M) pc = .ok (z_ri (mR M), 1)) : W p l e R s m args below meth c H locs cells slots Z (F0 m pc arr (z_rs (mR M) x)) :=
  hr.2.2.2.2.2.2.2.2.2.2 H locs g D x pc cells slots arr hrel hQ h1 h2 hc hok hd
theorem S_iret (hd : decode (mC M) pc = .ok (.ireturn, 1)) (ht : mR M = some .int) : z_Snd M E pc (w_iret E) := by
  intro ls st g D hw X p l e R s m args below meth c Z b H locs cells slots arr n0 s0 hr hc hrel hlv hol hos
  obtain ⟨x, t, rfl, rfl, h1, h2, h⟩ := pI_e hw
  have h9 := z_fin (x := x) (pc := pc) (arr := arr) hr hc hrel h1 h2 (by rw [ht]; exact ⟨z_oks_h hos, rfl⟩) h (by rw [ht]; exact hd)
  rw [ht] at h9
  exact h9
theorem S_zret (hd : decode (mC M) pc = .ok (.ireturn, 1)) (ht : mR M = some .boolean) : z_Snd M E pc (w_zret E) := by
  intro ls st g D hw X p l e R s m args below meth c Z b H locs cells slots arr n0 s0 hr hc hrel hlv hol hos
  obtain ⟨x, t, rfl, rfl, h1, h2, h0, h⟩ := pI_e hw
  have h9 := z_fin (x := x) (pc := pc) (arr := arr) hr hc hrel h1 h2 (by rw [ht]; exact ⟨z_oks_h hos, by rcases h0 with rfl | rfl <;> rfl⟩) h (by rw [ht]; exact hd)
  rw [ht] at h9
  exact h9
theorem S_lret (hd : decode (mC M) pc = .ok (.lreturn, 1)) (ht : mR M = some .long) : z_Snd M E pc (w_lret E) := by
  intro ls st g D hw X p l e R s m args below meth c Z b H locs cells slots arr n0 s0 hr hc hrel hlv hol hos
  obtain ⟨x, t, rfl, rfl, h1, h2, h⟩ := pJ_e hw
  have h9 := z_fin (x := x) (pc := pc) (arr := arr) hr hc hrel h1 h2 (by rw [ht]; exact z_oks_h hos) h (by rw [ht]; exact hd)
  rw [ht] at h9
  exact h9
theorem S_vret (hd : decode (mC M) pc = .ok (.return_, 1)) (ht : mR M = none) : z_Snd M E pc (w_vret E) := by
  intro ls st g D hw X p l e R s m args below meth c Z b H locs cells slots arr n0 s0 hr hc hrel hlv hol hos
  obtain ⟨rfl, h1, h2, h⟩ := hw
  have h9 := z_fin (x := 0) (pc := pc) (arr := arr) hr hc hrel h1 h2 (by rw [ht]; rfl) h (by rw [ht]; exact hd)
  rw [ht] at h9
  exact h9
end Rows
end
section
/-! ===== 05: fields, arrays, new objects, calls ===== -/
/-- a field's link, decided by program -/
def z_FD (own : String) (idx ci k : Nat) : Prop := ∃ (C : String) (T : u_T) (N : Nat), clsL[ci]? = some (C, T, N) ∧ k < N ∧ (∀ w ∈ u_ws C T N, w ∈ z_tb) ∧ Cond.fieldLink own idx (T k).1 (T k).2.1 (T k).2.2.1 ∈ z_tb
def z_FP (own : String) (idx ci k : Nat) (fin : Bool) (ty : FieldType) : Prop := ∃ (C : String) (T : u_T) (N : Nat) (ty0 : Nat → FieldType), clsL[ci]? = some (C, T, N) ∧ k < N ∧ (∀ w ∈ u_ws C T N, w ∈ z_tb) ∧ Cond.fieldLink own idx (T k).1 (T k).2.1 (T k).2.2.1 ∈ z_tb ∧ (∀ k, k < N → parseFieldDescriptor (T k).2.2.1 = some (ty0 k)) ∧ (∀ a, a < N → ∀ b, b < N → a ≠ b → (T a).2.1 ≠ (T b).2.1) ∧ (T k).2.2.2 = fin ∧ ty0 k = ty ∧ (T k).1 = own
/-- a new object's link -/
def z_NW (own : String) (idx ci : Nat) (ks : List Kd) : Prop := ∃ (C : String) (T : u_T) (N : Nat) (ty : Nat → FieldType), clsL[ci]? = some (C, T, N) ∧ (∀ w ∈ u_ws C T N, w ∈ z_tb) ∧ (∀ k, k < N → parseFieldDescriptor (T k).2.2.1 = some (ty k)) ∧ Cond.classLink own idx C ∈ z_tb ∧ Cond.instantiable C N ∈ z_tb ∧ Cond.initialized C ∈ z_tb ∧ ks.length = N ∧ ∀ X : Xe, ∀ j, j < N → defaultValue (ty j) = vp_V (ks.mapIdx (fun j kd => z_fv X (fun _ => 0) j kd)) j
/-- behind new: one object more, its fields 0 -/
def zNew (g : Gm) (sh : Sh) (sl : Nat) : Gm := (g.1 + 1, g.2.1 + sl, fun o => if o = g.1 then sh else g.2.2 o)
def zZ (D : Mem) (o : Nat) : Mem := fun o' k => if o' = o then 0 else D o' k
def zSR (g : Gm) (o k t : Nat) : Gm := (g.1, g.2.1, fun o' => if o' = o then (match g.2.2 o with
  | .inl (ci, ks) => .inl (ci, ks.set k (.inl t))
  | x => x) else g.2.2 o')
/-- what comes behind arraycopy -/
def zCp (D : Mem) (src : Nat) (sp : Int) (dst : Nat) (dp n : Int) : Mem := fun o j => if o = dst ∧ dp ≤ j ∧ j < dp + n then D src (sp + (j - dp)) else D o j
section Heap
variable {M : MI} {E : En} {pc : Nat} {K : WP}
def w_getI (ci k : Nat) (j : Int) (kd : Nat) (K : WP) : WP := fun ls st g D => pA st fun o t => z_f g o ci k kd ∧ K ls (zi (D o j) :: t) g D
def w_getJ (ci k : Nat) (j : Int) (K : WP) : WP := fun ls st g D => pA st fun o t => z_f g o ci k 2 ∧ K ls (zl (D o j) :: t) g D
def w_getR (ci k : Nat) (K : WP) : WP := fun ls st g D => pA st fun o t => z_fr g o ci k (zf g o k) ∧ K ls (zr (zf g o k) :: t) g D
def w_putI (ci k : Nat) (j : Int) (K : WP) : WP := fun ls st g D => pI st fun x t => pA t fun o t2 => z_f g o ci k 0 ∧ K ls t2 g (zU D o j x)
def w_putZ (ci k : Nat) (j : Int) (K : WP) : WP := fun ls st g D => pI st fun x t => pA t fun o t2 => z_f g o ci k 1 ∧ (x = 0 ∨ x = 1) ∧ K ls t2 g (zU D o j x)
def w_putJ (ci k : Nat) (j : Int) (K : WP) : WP := fun ls st g D => pJ st fun x t => pA t fun o t2 => z_f g o ci k 2 ∧ K ls t2 g (zU D o j x)
def w_putR (ci k : Nat) (K : WP) : WP := fun ls st g D => pA st fun x t => pA t fun o t2 => z_f g o ci k 3 ∧ K ls t2 (zSR g o k x) D
theorem z_ls_len {X : Xe} {f : Int → Int} {ks : List Kd} : (ks.mapIdx (fun j kd => z_fv X f j kd)).length = ks.length := by simp
theorem z_fv_get {X : Xe} {f : Int → Int} {ks : List Kd} {k : Nat} {kd : Kd} (h : ks[k]? = some kd) : (ks.mapIdx (fun j kd => z_fv X f j kd))[k]? = some (z_fv X f k kd) := by
  rw [List.getElem?_mapIdx, h]; rfl
theorem S_getI {ci kf idx kd : Nat} {j : Int} (hd : decode (mC M) pc = .ok (.getfield idx, 3)) (hf : z_FD (mY M).cls idx ci kf) (hj : (kf : Int) = j) (hkd : kd ≤ 1) (k : z_Snd M E (pc + 3) K) : z_Snd M E pc (w_getI ci kf j kd K) := by
  intro ls st g D hw X p l e R s m args below meth c Z b H locs cells slots arr n0 s0 hr hc hrel hlv hol hos
  obtain ⟨o, t, rfl, ⟨ho, ks, hsh, hkk⟩, hA⟩ := pA_e hw
  obtain ⟨C, T, N, hcl, hk, hin, hlk⟩ := hf
  subst hj
  have hD := hrel.2.2 o ho
  rw [hsh] at hD
  have hv : z_ok (zi (D o (kf : Int))) := by
    have h7 := hD kf
    by_cases e0 : kd = 0
    · subst e0; exact h7.1 hkk
    · have e1 : kd = 1 := by omega
      subst e1
      rcases h7.2.1 hkk with q | q
      · rw [q]; exact zR_0
      · rw [q]; exact zR_1
  have hval : z_fv X (D o) kf (.inr kd) = .int (Int32.ofInt (D o (kf : Int))) := by
    have e2 : ¬ kd = 2 := by omega
    have e3 : ¬ kd = 3 := by omega
    simp [z_fv, e2, e3]
  refine va_get (D := X.1) (cl := clsL) (ws := z_ws X g D) hr.1 hr.2.1 hr.2.2.2.2.1 hin hr.2.2.2.1 hr.2.2.2.2.2.1.1 hrel.1 o (z_ws_obj ho hsh) hcl kf hk (hr.2.2.2.2.1 _ hlk) (fun _ q => q) (v := .int (Int32.ofInt (D o (kf : Int)))) (by rw [z_fv_get hkk, hval]) hd ?_
  exact k _ _ _ _ hA hr hc hrel hlv hol (z_oks_c hv (z_oks_t hos))
theorem S_getJ {ci kf idx : Nat} {j : Int} (hd : decode (mC M) pc = .ok (.getfield idx, 3)) (hf : z_FD (mY M).cls idx ci kf) (hj : (kf : Int) = j) (k : z_Snd M E (pc + 3) K) : z_Snd M E pc (w_getJ ci kf j K) := by
  intro ls st g D hw X p l e R s m args below meth c Z b H locs cells slots arr n0 s0 hr hc hrel hlv hol hos
  obtain ⟨o, t, rfl, ⟨ho, ks, hsh, hkk⟩, hA⟩ := pA_e hw
  obtain ⟨C, T, N, hcl, hk, hin, hlk⟩ := hf
  subst hj
  have hD := hrel.2.2 o ho
  rw [hsh] at hD
  have hv : z_ok (zl (D o (kf : Int))) := (hD kf).2.2 hkk
  refine va_get (D := X.1) (cl := clsL) (ws := z_ws X g D) hr.1 hr.2.1 hr.2.2.2.2.1 hin hr.2.2.2.1 hr.2.2.2.2.2.1.1 hrel.1 o (z_ws_obj ho hsh) hcl kf hk (hr.2.2.2.2.1 _ hlk) (fun _ q => q) (v := .long (Int64.ofInt (D o (kf : Int)))) (by rw [z_fv_get hkk]; rfl) hd ?_
  exact k _ _ _ _ hA hr hc hrel hlv hol (z_oks_c hv (z_oks_t hos))
theorem S_getR {ci kf idx : Nat} (hd : decode (mC M) pc = .ok (.getfield idx, 3)) (hf : z_FD (mY M).cls idx ci kf) (k : z_Snd M E (pc + 3) K) : z_Snd M E pc (w_getR ci kf K) := by
  intro ls st g D hw X p l e R s m args below meth c Z b H locs cells slots arr n0 s0 hr hc hrel hlv hol hos
  obtain ⟨o, t, rfl, ⟨ho, ks, hsh, hkk⟩, hA⟩ := pA_e hw
  obtain ⟨C, T, N, hcl, hk, hin, hlk⟩ := hf
  refine va_get (D := X.1) (cl := clsL) (ws := z_ws X g D) hr.1 hr.2.1 hr.2.2.2.2.1 hin hr.2.2.2.1 hr.2.2.2.2.2.1.1 hrel.1 o (z_ws_obj ho hsh) hcl kf hk (hr.2.2.2.2.1 _ hlk) (fun _ q => q) (v := .ref (X.2.2.2.1 + zf g o kf)) (by rw [z_fv_get hkk]; rfl) hd ?_
  exact k _ _ _ _ hA hr hc hrel hlv hol (z_oks_c trivial (z_oks_t hos))
theorem S_putI {ci kf idx : Nat} {j : Int} (hd : decode (mC M) pc = .ok (.putfield idx, 3)) (hf : z_FP (mY M).cls idx ci kf false .int) (hj : (kf : Int) = j) (k : z_Snd M E (pc + 3) K) : z_Snd M E pc (w_putI ci kf j K) := by
  intro ls st g D hw X p l e R s m args below meth c Z b H locs cells slots arr n0 s0 hr hc hrel hlv hol hos
  obtain ⟨x, t, rfl, hA⟩ := pI_e hw
  obtain ⟨o, t2, rfl, ⟨ho, ks, hsh, hkk⟩, hB⟩ := pA_e hA
  obtain ⟨C, T, N, ty0, hcl, hk, hin, hlk, hty, hnm, hfin, hety, hdc⟩ := hf
  subst hj
  have hx := z_oks_h hos
  refine va_put (D := X.1) (cl := clsL) (ws := z_ws X g D) hr.1 hr.2.1 hr.2.2.2.2.1 hin ty0 hty hnm hr.2.2.2.1 hr.2.2.2.2.2.1.1 hrel.1 z_D hrel.2.1 o (z_ws_obj ho hsh) hcl kf hk (hr.2.2.2.2.1 _ hlk) (fun _ q => q) hfin (ty := .int) (v := .int (Int32.ofInt x)) (by rw [hty kf hk, hety]) rfl rfl (by rw [z_ls_len]; exact (List.getElem?_eq_some_iff.mp hkk).1) hd (fun H1 locs1 hP1 hD1 hS1 => ?_)
  have e : (z_ws X g D).set o (X.2.2.2.1 + o, .inr (ci, (ks.mapIdx (fun j kd => z_fv X (D o) j kd)).set kf (.int (Int32.ofInt x)))) = z_ws X g (zU D o (kf : Int) x) := by
    rw [← z_ws_up, hsh, z_ent_up hkk]
    rfl
  rw [e] at hP1
  exact k _ _ _ _ hB hr hc ⟨hP1, hS1, z_in_up hrel.2.2 hsh hkk (fun q => hx) (fun q => absurd q (by decide)) (fun q => absurd q (by decide))⟩ hlv hol (z_oks_t (z_oks_t hos))
theorem S_putFI {ci kf idx : Nat} {j : Int} (hd : decode (mC M) pc = .ok (.putfield idx, 3)) (hf : z_FP (mY M).cls idx ci kf true .int) (hj : (kf : Int) = j) (hini : (mY M).name = "<init>") (k : z_Snd M E (pc + 3) K) : z_Snd M E pc (w_putI ci kf j K) := by
  intro ls st g D hw X p l e R s m args below meth c Z b H locs cells slots arr n0 s0 hr hc hrel hlv hol hos
  obtain ⟨x, t, rfl, hA⟩ := pI_e hw
  obtain ⟨o, t2, rfl, ⟨ho, ks, hsh, hkk⟩, hB⟩ := pA_e hA
  obtain ⟨C, T, N, ty0, hcl, hk, hin, hlk, hty, hnm, hfin, hety, hdc⟩ := hf
  subst hj
  have hx := z_oks_h hos
  have hname : meth.name = "<init>" := hr.2.2.2.2.2.2.2.2.1.trans hini
  refine va_putF (D := X.1) (cl := clsL) (ws := z_ws X g D) hr.1 hr.2.1 hr.2.2.2.2.1 hin ty0 hty hnm hr.2.2.2.1 hr.2.2.2.2.2.1.1 hrel.1 z_D hrel.2.1 o (z_ws_obj ho hsh) hcl kf hk (hr.2.2.2.2.1 _ hlk) (fun _ q => q) hfin hname hdc (ty := .int) (v := .int (Int32.ofInt x)) (by rw [hty kf hk, hety]) rfl rfl (by rw [z_ls_len]; exact (List.getElem?_eq_some_iff.mp hkk).1) hd (fun H1 locs1 hP1 hD1 hS1 => ?_)
  have e : (z_ws X g D).set o (X.2.2.2.1 + o, .inr (ci, (ks.mapIdx (fun j kd => z_fv X (D o) j kd)).set kf (.int (Int32.ofInt x)))) = z_ws X g (zU D o (kf : Int) x) := by
    rw [← z_ws_up, hsh, z_ent_up hkk]
    rfl
  rw [e] at hP1
  exact k _ _ _ _ hB hr hc ⟨hP1, hS1, z_in_up hrel.2.2 hsh hkk (fun q => hx) (fun q => absurd q (by decide)) (fun q => absurd q (by decide))⟩ hlv hol (z_oks_t (z_oks_t hos))
theorem S_putZ {ci kf idx : Nat} {j : Int} (hd : decode (mC M) pc = .ok (.putfield idx, 3)) (hf : z_FP (mY M).cls idx ci kf false .boolean) (hj : (kf : Int) = j) (k : z_Snd M E (pc + 3) K) : z_Snd M E pc (w_putZ ci kf j K) := by
  intro ls st g D hw X p l e R s m args below meth c Z b H locs cells slots arr n0 s0 hr hc hrel hlv hol hos
  obtain ⟨x, t, rfl, hA⟩ := pI_e hw
  obtain ⟨o, t2, rfl, ⟨ho, ks, hsh, hkk⟩, hz, hB⟩ := pA_e hA
  obtain ⟨C, T, N, ty0, hcl, hk, hin, hlk, hty, hnm, hfin, hety, hdc⟩ := hf
  subst hj
  have hx := z_oks_h hos
  refine va_put (D := X.1) (cl := clsL) (ws := z_ws X g D) hr.1 hr.2.1 hr.2.2.2.2.1 hin ty0 hty hnm hr.2.2.2.1 hr.2.2.2.2.2.1.1 hrel.1 z_D hrel.2.1 o (z_ws_obj ho hsh) hcl kf hk (hr.2.2.2.2.1 _ hlk) (fun _ q => q) hfin (ty := .boolean) (v := .int (Int32.ofInt x)) (by rw [hty kf hk, hety]) (by rcases hz with rfl | rfl <;> rfl) (by rcases hz with rfl | rfl <;> rfl) (by rw [z_ls_len]; exact (List.getElem?_eq_some_iff.mp hkk).1) hd (fun H1 locs1 hP1 hD1 hS1 => ?_)
  have e : (z_ws X g D).set o (X.2.2.2.1 + o, .inr (ci, (ks.mapIdx (fun j kd => z_fv X (D o) j kd)).set kf (.int (Int32.ofInt x)))) = z_ws X g (zU D o (kf : Int) x) := by
    rw [← z_ws_up, hsh, z_ent_up hkk]
    rfl
  rw [e] at hP1
  exact k _ _ _ _ hB hr hc ⟨hP1, hS1, z_in_up hrel.2.2 hsh hkk (fun q => absurd q (by decide)) (fun q => hz) (fun q => absurd q (by decide))⟩ hlv hol (z_oks_t (z_oks_t hos))
theorem S_putJ {ci kf idx : Nat} {j : Int} (hd : decode (mC M) pc = .ok (.putfield idx, 3)) (hf : z_FP (mY M).cls idx ci kf false .long) (hj : (kf : Int) = j) (k : z_Snd M E (pc + 3) K) : z_Snd M E pc (w_putJ ci kf j K) := by
  intro ls st g D hw X p l e R s m args below meth c Z b H locs cells slots arr n0 s0 hr hc hrel hlv hol hos
  obtain ⟨x, t, rfl, hA⟩ := pJ_e hw
  obtain ⟨o, t2, rfl, ⟨ho, ks, hsh, hkk⟩, hB⟩ := pA_e hA
  obtain ⟨C, T, N, ty0, hcl, hk, hin, hlk, hty, hnm, hfin, hety, hdc⟩ := hf
  subst hj
  have hx := z_oks_h hos
  refine va_put (D := X.1) (cl := clsL) (ws := z_ws X g D) hr.1 hr.2.1 hr.2.2.2.2.1 hin ty0 hty hnm hr.2.2.2.1 hr.2.2.2.2.2.1.1 hrel.1 z_D hrel.2.1 o (z_ws_obj ho hsh) hcl kf hk (hr.2.2.2.2.1 _ hlk) (fun _ q => q) hfin (ty := .long) (v := .long (Int64.ofInt x)) (by rw [hty kf hk, hety]) rfl rfl (by rw [z_ls_len]; exact (List.getElem?_eq_some_iff.mp hkk).1) hd (fun H1 locs1 hP1 hD1 hS1 => ?_)
  have e : (z_ws X g D).set o (X.2.2.2.1 + o, .inr (ci, (ks.mapIdx (fun j kd => z_fv X (D o) j kd)).set kf (.long (Int64.ofInt x)))) = z_ws X g (zU D o (kf : Int) x) := by
    rw [← z_ws_up, hsh, z_ent_up hkk]
    rfl
  rw [e] at hP1
  exact k _ _ _ _ hB hr hc ⟨hP1, hS1, z_in_up hrel.2.2 hsh hkk (fun q => absurd q (by decide)) (fun q => absurd q (by decide)) (fun q => hx)⟩ hlv hol (z_oks_t (z_oks_t hos))
def z_rty (ty : FieldType) : Prop := ∀ a : Nat, narrow ty (.ref a) = .ref a ∧ fits ty (.ref a) = true
theorem z_ws_sr {X : Xe} {g : Gm} {D : Mem} {o ci k t : Nat} {ks : List Kd} (ho : o < g.1) (hs : g.2.2 o = .inl (ci, ks)) (hk : k < ks.length) : (z_ws X g D).set o (X.2.2.2.1 + o, .inr (ci, (ks.mapIdx (fun j kd => z_fv X (D o) j kd)).set k (.ref (X.2.2.2.1 + t)))) = z_ws X (zSR g o k t) D := by
  have e1 : (zSR g o k t).2.2 o = .inl (ci, ks.set k (.inl t)) := by
    show (if o = o then _ else _) = _
    rw [if_pos rfl, hs]
  apply List.ext_getElem?
  intro i
  rw [List.getElem?_set]
  by_cases hi : i < g.1
  · by_cases hq : o = i
    · subst hq
      rw [if_pos rfl, if_pos (by simpa [z_ws] using hi), z_ws_get (g := zSR g o k t) hi, e1]
      congr 2
      show Sum.inr (ci, _) = Sum.inr (ci, _)
      congr 2
      apply List.ext_getElem?
      intro j
      rw [List.getElem?_set, List.getElem?_mapIdx, List.getElem?_mapIdx, List.getElem?_set, z_ls_len]
      by_cases hj : k = j
      · subst hj
        rw [if_pos rfl, if_pos rfl, if_pos hk, if_pos hk]
        rfl
      · rw [if_neg hj, if_neg hj]
    · rw [if_neg hq, z_ws_get hi, z_ws_get (g := zSR g o k t) hi]
      have : (zSR g o k t).2.2 i = g.2.2 i := by
        show (if i = o then _ else _) = _
        rw [if_neg (Ne.symm hq)]
      rw [this]
  · have e1 : (z_ws X g D)[i]? = none := by simp [z_ws]; omega
    have e2 : (z_ws X (zSR g o k t) D)[i]? = none := by simp [z_ws, zSR]; omega
    rw [e1, e2, if_neg (by omega)]
theorem z_in_sr {g : Gm} {D : Mem} {o k t ci : Nat} {ks : List Kd} (hin : z_in g D) (hs : g.2.2 o = .inl (ci, ks)) : z_in (zSR g o k t) D := by
  intro q hq
  have hD := hin q hq
  by_cases e : q = o
  · subst e
    have e1 : (zSR g q k t).2.2 q = .inl (ci, ks.set k (.inl t)) := by
      show (if q = q then _ else _) = _
      rw [if_pos rfl, hs]
    rw [e1]
    rw [hs] at hD
    intro j
    have h7 := hD j
    rw [List.getElem?_set]
    by_cases hj : k = j
    · rw [if_pos hj]
      split
      · exact ⟨fun e => (by cases e), fun e => (by cases e), fun e => (by cases e)⟩
      · exact ⟨fun e => (by cases e), fun e => (by cases e), fun e => (by cases e)⟩
    · rw [if_neg hj]
      exact h7
  · have e1 : (zSR g o k t).2.2 q = g.2.2 q := by
      show (if q = o then _ else _) = _
      rw [if_neg e]
    rw [e1]
    exact hD
theorem S_putR {ci kf idx : Nat} {ty : FieldType} (hd : decode (mC M) pc = .ok (.putfield idx, 3)) (hf : z_FP (mY M).cls idx ci kf true ty) (hty0 : z_rty ty) (hini : (mY M).name = "<init>") (k : z_Snd M E (pc + 3) K) : z_Snd M E pc (w_putR ci kf K) := by
  intro ls st g D hw X p l e R s m args below meth c Z b H locs cells slots arr n0 s0 hr hc hrel hlv hol hos
  obtain ⟨x, t, rfl, hA⟩ := pA_e hw
  obtain ⟨o, t2, rfl, ⟨ho, ks, hsh, hkk⟩, hB⟩ := pA_e hA
  obtain ⟨C, T, N, ty0, hcl, hk, hin, hlk, hty, hnm, hfin, hety, hdc⟩ := hf
  have hname : meth.name = "<init>" := hr.2.2.2.2.2.2.2.2.1.trans hini
  have hkl := (List.getElem?_eq_some_iff.mp hkk).1
  refine va_putF (D := X.1) (cl := clsL) (ws := z_ws X g D) hr.1 hr.2.1 hr.2.2.2.2.1 hin ty0 hty hnm hr.2.2.2.1 hr.2.2.2.2.2.1.1 hrel.1 z_D hrel.2.1 o (z_ws_obj ho hsh) hcl kf hk (hr.2.2.2.2.1 _ hlk) (fun _ q => q) hfin hname hdc (ty := ty) (v := .ref (X.2.2.2.1 + x)) (by rw [hty kf hk, hety]) (hty0 _).1 (hty0 _).2 (by rw [z_ls_len]; exact hkl) hd (fun H1 locs1 hP1 hD1 hS1 => ?_)
  rw [z_ws_sr ho hsh hkl] at hP1
  exact k _ _ _ _ hB hr hc ⟨hP1, hS1, z_in_sr hrel.2.2 hsh⟩ hlv hol (z_oks_t (z_oks_t hos))
-- arrays
def w_iald (K : WP) : WP := fun ls st g D => pI st fun i t => pA t fun a t2 => z_a g a false ∧ 0 ≤ i ∧ i < zn g a ∧ K ls (zi (D a i) :: t2) g D
def w_zald (K : WP) : WP := fun ls st g D => pI st fun i t => pA t fun a t2 => z_a g a true ∧ 0 ≤ i ∧ i < zn g a ∧ K ls (zi (D a i) :: t2) g D
def w_iast (K : WP) : WP := fun ls st g D => pI st fun x t => pI t fun i t2 => pA t2 fun a t3 => z_a g a false ∧ 0 ≤ i ∧ i < zn g a ∧ K ls t3 g (zU D a i x)
def w_zast (K : WP) : WP := fun ls st g D => pI st fun x t => pI t fun i t2 => pA t2 fun a t3 => z_a g a true ∧ 0 ≤ i ∧ i < zn g a ∧ (x = 0 ∨ x = 1) ∧ K ls t3 g (zU D a i x)
def w_alen (K : WP) : WP := fun ls st g D => pA st fun a t => z_a g a false ∧ K ls (zi (zn g a) :: t) g D
theorem zn_of {g : Gm} {a n : Nat} {bz : Bool} (h : g.2.2 a = .inr (bz, n)) : zn g a = n := by
  unfold zn
  rw [h]
theorem z_clamp {i : Int} (h : zR i) (h0 : 0 ≤ i) : (Int32.ofInt i).toNatClampNeg = i.toNat := Int32.toNatClampNeg_ofInt_of_le (by have := h.1; omega) (by have := h.2; omega)
theorem z_vpin {i : Int} {n : Nat} (h : zR i) (h0 : 0 ≤ i) (h1 : i < n) : vp_in (Int32.ofInt i) n := by
  unfold vp_in
  rw [z_clamp h h0]
  rintro (q | q)
  · have := (zR_lt h zR_0).mp q
    omega
  · omega
theorem z_arr_ok {g : Gm} {D : Mem} {a n : Nat} {bz : Bool} {i : Int} (hin : z_in g D) (ha : a < g.1) (hs : g.2.2 a = .inr (bz, n)) (h0 : 0 ≤ i) (h1 : i < n) : zR (D a i) := by
  have := hin a ha
  rw [hs] at this
  have h2 := (this i.toNat (by omega)).1
  rw [Int.toNat_of_nonneg h0] at h2
  exact h2
theorem S_iald (hd : decode (mC M) pc = .ok (.iaload, 1)) (k : z_Snd M E (pc + 1) K) : z_Snd M E pc (w_iald K) := by
  intro ls st g D hw X p l e R s m args below meth c Z b H locs cells slots arr n0 s0 hr hc hrel hlv hol hos
  obtain ⟨i, t, rfl, hA⟩ := pI_e hw
  obtain ⟨a, t2, rfl, ⟨ha, n, hn, hs⟩, h0, h1, hB⟩ := pA_e hA
  rw [zn_of hs] at h1
  have hi := z_oks_h hos
  refine va_iald (D := X.1) (cl := clsL) (ws := z_ws X g D) hr.1 hr.2.1 hr.2.2.2.2.2.1.1 hrel.1 a 0 (z_ws_arr ha hs) rfl (z_vpin hi h0 h1) hd ?_
  rw [z_clamp hi h0]
  show W p l e R s m args below meth c H locs cells slots Z (F0 m (pc + 1) arr (.int (Int32.ofInt (D a ((i.toNat : Nat) : Int))) :: _))
  rw [Int.toNat_of_nonneg h0]
  exact k _ _ _ _ hB hr hc hrel hlv hol (z_oks_c (z_arr_ok hrel.2.2 ha hs h0 h1) (z_oks_t (z_oks_t hos)))
theorem S_zald (hd : decode (mC M) pc = .ok (.baload, 1)) (k : z_Snd M E (pc + 1) K) : z_Snd M E pc (w_zald K) := by
  intro ls st g D hw X p l e R s m args below meth c Z b H locs cells slots arr n0 s0 hr hc hrel hlv hol hos
  obtain ⟨i, t, rfl, hA⟩ := pI_e hw
  obtain ⟨a, t2, rfl, ⟨ha, n, hn, hs⟩, h0, h1, hB⟩ := pA_e hA
  rw [zn_of hs] at h1
  have hi := z_oks_h hos
  refine va_zald (D := X.1) (cl := clsL) (ws := z_ws X g D) hr.1 hr.2.1 hr.2.2.2.2.2.1.1 hrel.1 a 1 (z_ws_arr ha hs) rfl (z_vpin hi h0 h1) hd ?_
  rw [z_clamp hi h0]
  show W p l e R s m args below meth c H locs cells slots Z (F0 m (pc + 1) arr (.int (Int32.ofInt (D a ((i.toNat : Nat) : Int))) :: _))
  rw [Int.toNat_of_nonneg h0]
  exact k _ _ _ _ hB hr hc hrel hlv hol (z_oks_c (z_arr_ok hrel.2.2 ha hs h0 h1) (z_oks_t (z_oks_t hos)))
theorem S_iast (hd : decode (mC M) pc = .ok (.iastore, 1)) (k : z_Snd M E (pc + 1) K) : z_Snd M E pc (w_iast K) := by
  intro ls st g D hw X p l e R s m args below meth c Z b H locs cells slots arr n0 s0 hr hc hrel hlv hol hos
  obtain ⟨x, t, rfl, hA⟩ := pI_e hw
  obtain ⟨i, t2, rfl, hB⟩ := pI_e hA
  obtain ⟨a, t3, rfl, ⟨ha, n, hn, hs⟩, h0, h1, hC⟩ := pA_e hB
  rw [zn_of hs] at h1
  have hx := z_oks_h hos
  have hi := z_oks_h (z_oks_t hos)
  refine va_iast (D := X.1) (cl := clsL) (ws := z_ws X g D) hr.1 hr.2.1 hr.2.2.2.2.2.1.1 hrel.1 z_D hrel.2.1 a 0 (z_ws_arr ha hs) rfl (z_vpin hi h0 h1) hd (fun H1 locs1 hP1 hD1 hS1 => ?_)
  rw [z_clamp hi h0] at hP1
  have e : (z_ws X g D).set a (X.2.2.2.1 + a, .inl ((if false = true then X.2.2.1 else X.2.1), n, .inl (upd (fun j => Int32.ofInt (D a j)) i.toNat (Int32.ofInt x)))) = z_ws X g (zU D a i x) := by
    rw [← z_ws_up, hs, z_ent_ua h0]
  rw [e] at hP1
  exact k _ _ _ _ hC hr hc ⟨hP1, hS1, z_in_ua hrel.2.2 hs hx (fun q => absurd q (by decide))⟩ hlv hol (z_oks_t (z_oks_t (z_oks_t hos)))
theorem S_zast (hd : decode (mC M) pc = .ok (.bastore, 1)) (k : z_Snd M E (pc + 1) K) : z_Snd M E pc (w_zast K) := by
  intro ls st g D hw X p l e R s m args below meth c Z b H locs cells slots arr n0 s0 hr hc hrel hlv hol hos
  obtain ⟨x, t, rfl, hA⟩ := pI_e hw
  obtain ⟨i, t2, rfl, hB⟩ := pI_e hA
  obtain ⟨a, t3, rfl, ⟨ha, n, hn, hs⟩, h0, h1, hz, hC⟩ := pA_e hB
  rw [zn_of hs] at h1
  have hx := z_oks_h hos
  have hi := z_oks_h (z_oks_t hos)
  refine va_zast (D := X.1) (cl := clsL) (ws := z_ws X g D) hr.1 hr.2.1 hr.2.2.2.2.2.1.1 hrel.1 z_D hrel.2.1 a 1 (z_ws_arr ha hs) rfl (z_vpin hi h0 h1) hd (fun H1 locs1 hP1 hD1 hS1 => ?_)
  rw [z_clamp hi h0] at hP1
  have e9 : vp_nar .boolean (Int32.ofInt x) = Int32.ofInt x := by rcases hz with rfl | rfl <;> rfl
  rw [e9] at hP1
  have e : (z_ws X g D).set a (X.2.2.2.1 + a, .inl ((if true = true then X.2.2.1 else X.2.1), n, .inl (upd (fun j => Int32.ofInt (D a j)) i.toNat (Int32.ofInt x)))) = z_ws X g (zU D a i x) := by
    rw [← z_ws_up, hs, z_ent_ua h0]
  rw [e] at hP1
  exact k _ _ _ _ hC hr hc ⟨hP1, hS1, z_in_ua hrel.2.2 hs hx (fun q => hz)⟩ hlv hol (z_oks_t (z_oks_t (z_oks_t hos)))
theorem S_alen (hd : decode (mC M) pc = .ok (.arraylength, 1)) (k : z_Snd M E (pc + 1) K) : z_Snd M E pc (w_alen K) := by
  intro ls st g D hw X p l e R s m args below meth c Z b H locs cells slots arr n0 s0 hr hc hrel hlv hol hos
  obtain ⟨a, t, rfl, ⟨ha, n, hn, hs⟩, hA⟩ := pA_e hw
  rw [zn_of hs] at hA
  refine va_alen (D := X.1) (cl := clsL) (ws := z_ws X g D) hr.1 hr.2.1 hr.2.2.2.2.2.1.1 hrel.1 a 0 (z_ws_arr ha hs) (ty := .int) rfl (v := Int32.ofInt (n : Int)) Int32.ofInt_eq_ofNat.symm hd ?_
  exact k _ _ _ _ hA hr hc hrel hlv hol (z_oks_c (show zR (n : Int) from ⟨by omega, by omega⟩) (z_oks_t hos))
-- new objects
def w_new (ci : Nat) (ks : List Kd) (K : WP) : WP := fun ls st g D => g.1 + 1 ≤ E.1.1 ∧ g.2.1 + ks.length ≤ E.1.2 ∧ K ls (zr g.1 :: st) (zNew g (.inl (ci, ks)) ks.length) (zZ D g.1)
def w_newa (bz : Bool) (K : WP) : WP := fun ls st g D => pI st fun n t => 0 ≤ n ∧ n ≤ 100000 ∧ g.1 + 1 ≤ E.1.1 ∧ g.2.1 + n.toNat ≤ E.1.2 ∧ K ls (zr g.1 :: t) (zNew g (.inr (bz, n.toNat)) n.toNat) (zZ D g.1)
theorem z_ws_new {X : Xe} {g : Gm} {D : Mem} {sh : Sh} {sl : Nat} : z_ws X (zNew g sh sl) (zZ D g.1) = z_ws X g D ++ [(X.2.2.2.1 + g.1, z_ent X sh (fun _ => 0))] := by
  unfold z_ws
  show (List.range (g.1 + 1)).map _ = _
  rw [List.range_succ, List.map_append]
  congr 1
  · apply List.map_congr_left
    intro k hk
    have hk' : k ≠ g.1 := by have := List.mem_range.mp hk; omega
    have e1 : (zNew g sh sl).2.2 k = g.2.2 k := by
      show (if k = g.1 then _ else _) = _
      rw [if_neg hk']
    have e2 : zZ D g.1 k = D k := by
      funext j
      show (if k = g.1 then _ else _) = _
      rw [if_neg hk']
    rw [e1, e2]
  · have e1 : (zNew g sh sl).2.2 g.1 = sh := by
      show (if g.1 = g.1 then _ else _) = _
      rw [if_pos rfl]
    have e2 : zZ D g.1 g.1 = fun _ => 0 := by
      funext j
      show (if g.1 = g.1 then _ else _) = _
      rw [if_pos rfl]
    show [(_, z_ent X ((zNew g sh sl).2.2 g.1) (zZ D g.1 g.1))] = _
    rw [e1, e2]
theorem z_in_new {g : Gm} {D : Mem} {sh : Sh} {sl : Nat} (hin : z_in g D) : z_in (zNew g sh sl) (zZ D g.1) := by
  intro k hk
  by_cases e : k = g.1
  · subst e
    have e2 : ∀ j, zZ D g.1 g.1 j = 0 := by
      intro j
      show (if g.1 = g.1 then _ else _) = _
      rw [if_pos rfl]
    split
    · intro j
      rw [e2]
      exact ⟨fun _ => zR_0, fun _ => Or.inl rfl, fun _ => ⟨by decide, by decide⟩⟩
    · intro j _
      rw [e2]
      exact ⟨zR_0, fun _ => Or.inl rfl⟩
  · have hk2 : k < g.1 := by
      have : k < g.1 + 1 := hk
      omega
    have e1 : (zNew g sh sl).2.2 k = g.2.2 k := by
      show (if k = g.1 then _ else _) = _
      rw [if_neg e]
    have e2 : zZ D g.1 k = D k := by
      funext j
      show (if k = g.1 then _ else _) = _
      rw [if_neg e]
    rw [e1, e2]
    exact hin k hk2
theorem z_new_at {X : Xe} {g : Gm} {D : Mem} {p : Program} {l : Launch} {e : Env} {R : Room} {s : State} {m : MethodId} {args : Array Value} {below : List Frame} {meth : Method} {c : Code} {T : State} {H1 : Heap} {locs : List Loc} {cells slots n0 q : Nat} {en : va_E} {cl : List vw_C} {G : va_G} (Xs : Stand p l e R s m args below meth c T locs cells slots) (hT : T.heap = H1) (hN : s.heap.size = X.2.2.2.1 + n0) (hc : cells + n0 = g.1 + 1) (hP : va_P G cl (z_ws X g D ++ [(q, en)]) H1) (hD : va_D (z_A X) (z_ws X g D ++ [(q, en)])) : q = X.2.2.2.1 + g.1 := by
  have h1 : T.heap.size ≤ s.heap.size + cells := Xs.same.2.2.1
  rw [hT] at h1
  have hl : (z_ws X g D).length = g.1 := by simp [z_ws]
  have hlast : (z_ws X g D ++ [(q, en)])[g.1]? = some (q, en) := by
    rw [List.getElem?_append_right (by omega), hl, Nat.sub_self]
    rfl
  have h2 : q < H1.size := (hP g.1 _ hlast).lt
  have h3 : X.2.2.2.1 ≤ q := hD.2 g.1 _ hlast
  by_cases h4 : q = X.2.2.2.1 + g.1
  · exact h4
  · have hi : q - X.2.2.2.1 < g.1 := by omega
    have h5 : (z_ws X g D ++ [(q, en)])[q - X.2.2.2.1]? = some (X.2.2.2.1 + (q - X.2.2.2.1), z_ent X (g.2.2 (q - X.2.2.2.1)) (D (q - X.2.2.2.1))) := by
      rw [List.getElem?_append_left (by omega)]
      exact z_ws_get hi
    have h6 := hD.1 _ _ _ _ h5 hlast (by show X.2.2.2.1 + (q - X.2.2.2.1) = q; omega)
    omega
theorem S_new {ci idx : Nat} {ks : List Kd} (hd : decode (mC M) pc = .ok (.new idx, 3)) (hf : z_NW (mY M).cls idx ci ks) (k : z_Snd M E (pc + 3) K) : z_Snd M E pc (w_new (E := E) ci ks K) := by
  intro ls st g D hw X p l e R s m args below meth c Z b H locs cells slots arr n0 s0 hr hc hrel hlv hol hos
  obtain ⟨h1, h2, h⟩ := hw
  obtain ⟨C, T, N, ty, hcl, hin, hty, hcl2, hins, hini, hlen, hdef⟩ := hf
  have hn := hr.2.2.2.2.2.2.1
  have hc1 := hc.1
  have hc2 := hc.2.1
  refine va_new (D := X.1) (cl := clsL) (ws := z_ws X g D) (A := z_A X) (H0 := s.heap) (c0 := c) hr.1 hr.2.1 hr.2.2.2.2.1 hin ty hty hr.2.2.2.1 (hr.2.2.2.2.1 _ hcl2) (hr.2.2.2.2.1 _ hins) (hr.2.2.2.2.1 _ hini) hr.2.2.2.2.2.1.1 hrel.1 z_D hrel.2.1 (fun q hq => by show X.2.2.2.1 ≤ q; omega) hcl (hdef X) (by omega) (by omega) hd (fun q H1 hP1 hD1 hS1 => ?_)
  intro Ts hT Xs
  have hq := z_new_at (X := X) (g := g) (D := D) Xs hT hn.1 (by omega) hP1 hD1
  subst hq
  have e : z_ws X g D ++ [(X.2.2.2.1 + g.1, .inr (ci, ks.mapIdx (fun j kd => z_fv X (fun _ => 0) j kd)))] = z_ws X (zNew g (.inl (ci, ks)) ks.length) (zZ D g.1) := (z_ws_new (X := X) (g := g) (D := D) (sh := .inl (ci, ks)) (sl := ks.length)).symm
  rw [e] at hP1
  refine k _ _ _ _ h hr ⟨?_, ?_, h1, h2⟩ ⟨hP1, hS1, z_in_new hrel.2.2⟩ hlv hol (z_oks_c trivial hos) Ts hT Xs
  · show cells + 1 + n0 = g.1 + 1
    omega
  · show slots + N + s0 = g.2.1 + ks.length
    omega
theorem S_newaI (hd : decode (mC M) pc = .ok (.newarray .int, 2)) (hwd : Cond.arrayClass .int ∈ z_tb) (k : z_Snd M E (pc + 2) K) : z_Snd M E pc (w_newa (E := E) false K) := by
  intro ls st g D hw X p l e R s m args below meth c Z b H locs cells slots arr n0 s0 hr hc hrel hlv hol hos
  obtain ⟨n, t, rfl, h0, hmax, h1, h2, h⟩ := pI_e hw
  have hn := hr.2.2.2.2.2.2.1
  have hc1 := hc.1
  have hc2 := hc.2.1
  have hnR := z_oks_h hos
  have hb9 : n.toNat * componentBytes .int ≤ 536870912 := by
    have h8 : componentBytes .int ≤ 8 := by decide
    have h9 := Nat.mul_le_mul_left n.toNat h8
    omega
  refine va_newa (D := X.1) (cl := clsL) (ws := z_ws X g D) (A := z_A X) (H0 := s.heap) (atype := .int) (ty := .int) (a0 := (n.toNat, .inl (fun j => Int32.ofInt 0))) hr.1 hr.2.1 (hr.2.2.2.2.1 _ hwd) rfl hr.2.2.2.2.2.1.1 hrel.1 z_D hrel.2.1 (fun q hq => by show X.2.2.2.1 ≤ q; omega) (fun _ => rfl) (fun q => by have := (zR_lt hnR zR_0).mp q; omega) (z_clamp hnR h0) hb9 (by omega) (by omega) hd (fun q cA H1 hK1 hP1 hD1 hS1 => ?_)
  have hA : cA = X.2.1 := by
    have e1 := (hK1.2 2 (cA, .int) rfl).2
    have e2 := (hr.2.2.2.2.2.1.1.2 0 (X.2.1, .int) rfl).2
    exact Option.some.inj (e1.symm.trans e2)
  subst hA
  intro Ts hT Xs
  have hq := z_new_at (X := X) (g := g) (D := D) Xs hT hn.1 (by omega) hP1 hD1
  subst hq
  have e : z_ws X g D ++ [(X.2.2.2.1 + g.1, .inl (X.2.1, n.toNat, .inl (fun j => Int32.ofInt 0)))] = z_ws X (zNew g (.inr (false, n.toNat)) n.toNat) (zZ D g.1) := (z_ws_new (X := X) (g := g) (D := D) (sh := .inr (false, n.toNat)) (sl := n.toNat)).symm
  rw [e] at hP1
  refine k _ _ _ _ h hr ⟨?_, ?_, h1, h2⟩ ⟨hP1, hS1, z_in_new hrel.2.2⟩ hlv hol (z_oks_c trivial (z_oks_t hos)) Ts hT Xs
  · show cells + 1 + n0 = g.1 + 1
    omega
  · show slots + n.toNat + s0 = g.2.1 + n.toNat
    omega
theorem S_newaZ (hd : decode (mC M) pc = .ok (.newarray .boolean, 2)) (hwd : Cond.arrayClass .boolean ∈ z_tb) (k : z_Snd M E (pc + 2) K) : z_Snd M E pc (w_newa (E := E) true K) := by
  intro ls st g D hw X p l e R s m args below meth c Z b H locs cells slots arr n0 s0 hr hc hrel hlv hol hos
  obtain ⟨n, t, rfl, h0, hmax, h1, h2, h⟩ := pI_e hw
  have hn := hr.2.2.2.2.2.2.1
  have hc1 := hc.1
  have hc2 := hc.2.1
  have hnR := z_oks_h hos
  have hb9 : n.toNat * componentBytes .boolean ≤ 536870912 := by
    have h8 : componentBytes .boolean ≤ 8 := by decide
    have h9 := Nat.mul_le_mul_left n.toNat h8
    omega
  refine va_newa (D := X.1) (cl := clsL) (ws := z_ws X g D) (A := z_A X) (H0 := s.heap) (atype := .boolean) (ty := .boolean) (a0 := (n.toNat, .inl (fun j => Int32.ofInt 0))) hr.1 hr.2.1 (hr.2.2.2.2.1 _ hwd) rfl hr.2.2.2.2.2.1.1 hrel.1 z_D hrel.2.1 (fun q hq => by show X.2.2.2.1 ≤ q; omega) (fun _ => rfl) (fun q => by have := (zR_lt hnR zR_0).mp q; omega) (z_clamp hnR h0) hb9 (by omega) (by omega) hd (fun q cA H1 hK1 hP1 hD1 hS1 => ?_)
  have hA : cA = X.2.2.1 := by
    have e1 := (hK1.2 2 (cA, .boolean) rfl).2
    have e2 := (hr.2.2.2.2.2.1.1.2 1 (X.2.2.1, .boolean) rfl).2
    exact Option.some.inj (e1.symm.trans e2)
  subst hA
  intro Ts hT Xs
  have hq := z_new_at (X := X) (g := g) (D := D) Xs hT hn.1 (by omega) hP1 hD1
  subst hq
  have e : z_ws X g D ++ [(X.2.2.2.1 + g.1, .inl (X.2.2.1, n.toNat, .inl (fun j => Int32.ofInt 0)))] = z_ws X (zNew g (.inr (true, n.toNat)) n.toNat) (zZ D g.1) := (z_ws_new (X := X) (g := g) (D := D) (sh := .inr (true, n.toNat)) (sl := n.toNat)).symm
  rw [e] at hP1
  refine k _ _ _ _ h hr ⟨?_, ?_, h1, h2⟩ ⟨hP1, hS1, z_in_new hrel.2.2⟩ hlv hol (z_oks_c trivial (z_oks_t hos)) Ts hT Xs
  · show cells + 1 + n0 = g.1 + 1
    omega
  · show slots + n.toNat + s0 = g.2.1 + n.toNat
    omega
def w_oinit (K : WP) : WP := fun ls st g D => pA st fun _ t => cS t ≤ 8 ∧ K ls t g D
theorem S_oinit {idx : Nat} (hd : decode (mC M) pc = .ok (.invokespecial idx, 3)) (h1 : Cond.methodLink (mY M).cls idx Lib.objectInit ∈ z_tb) (h2 : Cond.instanceMethod Lib.objectInit ∈ z_tb) (h3 : Cond.code Lib.objectInit ⟨#[0xb1]⟩ 1 none ∈ z_tb) (hF : 1 ≤ mF M) (hL : 20 ≤ mL M) (k : z_Snd M E (pc + 3) K) : z_Snd M E pc (w_oinit K) := by
  intro ls st g D hw X p l e R s m args below meth c Z b H locs cells slots arr n0 s0 hr hc hrel hlv hol hos
  obtain ⟨a, t, rfl, h0, hA⟩ := pA_e hw
  refine W.objInit hr.1 hr.2.1 hr.2.2.2.1 (hr.2.2.2.2.1 _ h1) (hr.2.2.2.2.1 _ h2) (hr.2.2.2.2.1 _ h3) (g := F0 m pc arr (z_conc X b (zr a) :: t.map (z_conc X b))) rfl (by rw [hr.2.2.1]; exact hlv.1) (a := X.2.2.2.1 + a) rfl hd (by have := hr.2.2.2.2.2.2.2.1.1; omega) (by
    have h8 := hr.2.2.2.2.2.2.2.1.2
    have h9 := cS_e (X := X) (b := b) t
    show 2 * 0 + _ + 12 ≤ _
    omega) ?_
  exact k _ _ _ _ hA hr hc hrel hlv hol (z_oks_t hos)
end Heap
end
section
/-! ===== 06: calls, the JDK's few, the script ===== -/
def z_rc (g : Gm) (ci : Nat) (as : List AV) : Prop := match as with
  | (.inr (.inr (.inl o))) :: _ => z_o g o ci
  | _ => False
theorem z_rc_r (g : Gm) (ci o : Nat) (t : List AV) : z_rc g ci (zr o :: t) = z_o g o ci := rfl
def pN : Nat → List AV → List AV → (List AV → List AV → Prop) → Prop
  | 0, acc, st, f => f acc st
  | _ + 1, _, [], _ => False
  | n + 1, acc, v :: t, f => pN n (v :: acc) t f
theorem pN_e : ∀ {n : Nat} {acc st : List AV} {f : List AV → List AV → Prop}, pN n acc st f → ∃ as t, st = as.reverse ++ t ∧ as.length = n ∧ f (as ++ acc) t
  | 0, acc, st, f, h => ⟨[], st, rfl, rfl, h⟩
  | _ + 1, _, [], _, h => h.elim
  | n + 1, acc, v :: t, f, h => by
    obtain ⟨as, t2, e1, e2, h2⟩ := pN_e (n := n) (acc := v :: acc) h
    refine ⟨as ++ [v], t2, ?_, ?_, ?_⟩
    · rw [List.reverse_append, e1]; rfl
    · rw [List.length_append, e2]; rfl
    · rw [List.append_assoc]; exact h2
def z_Cu (M : MI) (as : List AV) (g : Gm) (D : Mem) (P : Int → Mem → Prop) : Prop := z_Ct M 0 0 as g D (fun x g' D' => g' = g ∧ P x D')
theorem z_Ct.mono {M : MI} {mc ms : Nat} {as : List AV} {g : Gm} {D : Mem} {P Q : Int → Gm → Mem → Prop} (h : z_Ct M mc ms as g D P) (hPQ : ∀ x g' D', P x g' D' → Q x g' D') : z_Ct M mc ms as g D Q := by
  intro h1 h2 l X b
  have hM := h h1 h2 l X b
  intro p e ha hc hk s m args below hf
  intro r1 r2 r3
  obtain ⟨k, oc, q1, q2, q3, ⟨⟨⟨x, g', D', w1, w2, w3, w4⟩, w5⟩, hL⟩⟩ := hM p e ha hc hk s m args below hf r1 r2 r3
  exact ⟨k, oc, q1, q2, q3, ⟨⟨⟨x, g', D', w1, w2, hPQ _ _ _ w3, w4⟩, w5⟩, hL⟩⟩
theorem z_Cu.mono {M : MI} {as : List AV} {g : Gm} {D : Mem} {P Q : Int → Mem → Prop} (h : z_Cu M as g D P) (hPQ : ∀ x D', P x D' → Q x D') : z_Cu M as g D Q := z_Ct.mono h fun x _ D' q => ⟨q.1, hPQ x D' q.2⟩
/-- room for a call -/
def z_rm (M My : MI) : Prop := mF My + 1 ≤ mF M ∧ 8 + (mN My + 11) + mL My ≤ mL M
def z_np (My : MI) (n : Nat) : Prop := (parseMethodDescriptor (mY My).desc).map (fun d => d.parameters.length) = some n
section Calls
variable {M My : MI} {E : En} {pc : Nat} {K : WP}
theorem z_callW {X : Xe} {p : Program} {l : Launch} {e : Env} {R : Room} {s : State} {m : MethodId} {args : Array Value} {below : List Frame} {meth : Method} {c : Code} {Z : State → Prop} {H : Heap} {locs : List Loc} {cells slots mc ms n0 s0 : Nat} {arr : Array Slot} {st0 rest : List Value} {g : Gm} {D : Mem} {Q' : Int → Gm → Mem → Prop} {a : Array Value}
    (hrun : va_Run p l e R s m args below meth c H locs cells slots mc ms (F0 m pc arr st0) rest (z_Qc My X g mc ms Q' a) (z_A X)) (hrel : z_Rel X g D s H locs) (hc : z_Cn E n0 s0 g cells slots) (hb1 : g.1 + mc ≤ E.1.1) (hb2 : g.2.1 + ms ≤ E.1.2)
    (kk : ∀ (x : Int) (g' : Gm) (D' : Mem) (H1 : Heap) (locs1 : List Loc), z_Rel X g' D' s H1 locs1 → Q' x g' D' → z_rok (mR My) x → z_Cn E n0 s0 g' (cells + mc) (slots + ms) → W p l e R s m args below meth c H1 locs1 (cells + mc) (slots + ms) Z (F0 m (pc + 3) arr ((z_rv (mR My) x).toList ++ rest))) : W p l e R s m args below meth c H locs cells slots Z (F0 m pc arr st0) := by
  intro T hT Xs
  obtain ⟨v, st₀, t, T', L, h0, X', hL, e1, e2, ⟨⟨x, g', D', hv, hok, hQ, h1, h2, hsz, hP, hin⟩, hz, hk⟩, st⟩ := hrun T hT Xs
  cases hv
  rw [h0] at hz hk
  have hS : va_S (z_A X) s.heap T'.heap (locs ++ L) := by
    refine ⟨Nat.le_trans hrel.2.1.1 (by rw [e1]; exact hz), fun q h3 h4 => ?_, fun q hq => ?_⟩
    · rw [e1, hk q (Nat.lt_of_lt_of_le h3 hrel.2.1.1) h4]
      exact hrel.2.1.2.1 q h3 h4
    · rcases List.mem_append.mp hq with h | h
      · exact hrel.2.1.2.2 q h
      · exact hL q h
  have hc1 := hc.1
  have hc2 := hc.2.1
  obtain ⟨t2, a1, b1⟩ := kk x g' D' T'.heap (locs ++ L) ⟨by rw [e1]; exact hP, hS, hin⟩ hQ hok ⟨by omega, by omega, by omega, by omega⟩ T' rfl X'
  exact ⟨t2, st t2 a1, b1⟩
theorem z_CB {R : Room} {s : State} {args : Array Value} {idx mc ms n : Nat} (hts : ∀ w ∈ z_tb, w.before args s = true) (hM : z_MI My) (hl : Cond.methodLink (mY M).cls idx (mY My) ∈ z_tb) (hn : z_np My n) (hrm : z_rm M My) (hroom : mF M ≤ R.frames ∧ mL M ≤ R.locals) : CallB R s args (mY M).cls idx (mY My) (mC My) (mN My) (mR My) (z_wds My) ({ frames := mF My, cells := mc, slots := ms, locals := mL My }) mc ms n :=
  callB_of n hts (z_goodIn hM (ws := []) (fun _ h => by cases h)) rfl rfl rfl (hts _ hM.2.2.1) (hts _ hl) ⟨hM.2.2.2.1, hM.2.2.2.2, hn⟩ ⟨by have := hrm.1; show mF My + 1 ≤ _; omega, by have := hrm.2; show 8 + (mN My + 11) + mL My ≤ _; omega⟩
theorem z_CBN {R : Room} {s : State} {args : Array Value} {idx mc ms n : Nat} {host : String} (hts : ∀ w ∈ z_tb, w.before args s = true) (hM : z_MI My) (hl : va_Nw (.methodLinkNest (mY M).cls idx (mY My) host) s) (hn : z_np My n) (hrm : z_rm M My) (hroom : mF M ≤ R.frames ∧ mL M ≤ R.locals) : va_CN R s args (mY M).cls idx (mY My) host (mC My) (mN My) (mR My) (z_wds My) ({ frames := mF My, cells := mc, slots := ms, locals := mL My }) mc ms n :=
  va_cnB n hts (z_goodIn hM (ws := []) (fun _ h => by cases h)) rfl rfl rfl hl (hts _ hM.2.2.1) ⟨hM.2.2.2.1, hM.2.2.2.2, hn⟩ ⟨by have := hrm.1; show mF My + 1 ≤ _; omega, by have := hrm.2; show 8 + (mN My + 11) + mL My ≤ _; omega⟩
theorem z_pc {X : Xe} {b : Nat} {as : List AV} {g : Gm} {D : Mem} {s U : State} {H : Heap} {locs : List Loc} (hSt : z_St X s) (hsz : H.size = X.2.2.2.1 + g.1) (hrel : z_Rel X g D s H locs) (hU : U.heap = H) (hW : s.WarmedH U.vm) : z_Pc X b as g D (as.map (z_conc X b)).toArray U :=
  ⟨rfl, by rw [hU]; exact hsz, by rw [hU]; exact hrel.1, z_St_to hSt hrel.2.1.2.1 hU hW⟩
theorem z_oks_r {as t : List AV} (h : z_oks (as.reverse ++ t)) : z_oks as ∧ z_oks t := ⟨fun v hv => h v (List.mem_append_left _ (List.mem_reverse.mpr hv)), fun v hv => h v (List.mem_append_right _ hv)⟩
def w_sI (My : MI) (n : Nat) (K : WP) : WP := fun ls st g D => pN n [] st fun as t => cS t ≤ 8 ∧ z_Cu My as g D (fun x D' => K ls (zi x :: t) g D')
theorem S_sI {idx n : Nat} (hd : decode (mC M) pc = .ok (.invokestatic idx, 3)) (hM : z_MI My) (hl : Cond.methodLink (mY M).cls idx (mY My) ∈ z_tb) (hst : Cond.static (mY My) ∈ z_tb) (hn : z_np My n) (hrm : z_rm M My) (hret : ∀ x, z_rv (mR My) x = some (.int (Int32.ofInt x))) (hok : ∀ x, z_rok (mR My) x → zR x) (k : z_Snd M E (pc + 3) K) : z_Snd M E pc (w_sI My n K) := by
  intro ls st g D hw X p l e R s m args below meth c Z b H locs cells slots arr n0 s0 hr hc hrel hlv hol hos
  obtain ⟨as, t, rfl, hlen, hw⟩ := pN_e hw
  rw [List.append_nil] at hw
  obtain ⟨hcs, hct⟩ := hw
  obtain ⟨hoa, hot⟩ := z_oks_r hos
  have hcs2 : 2 * (F0 m pc arr ((as.reverse ++ t).map (z_conc X b))).monitorRoom + ((t.map (z_conc X b)).map fun v => v.category).sum ≤ 8 := by
    rw [cS_e]
    show 2 * 0 + _ ≤ _
    omega
  intro T hT Xs
  have hsz := z_size Xs hT hr.2.2.2.2.2.2.1.1 hc hrel
  refine (?_ : W p l e R s m args below meth c H locs cells slots Z (F0 m pc arr ((as.reverse ++ t).map (z_conc X b)))) T hT Xs
  have hN := hr.2.2.2.2.2.2.1
  have hc1 := hc.1
  have hc2 := hc.2.1
  have hc3 := hc.2.2.1
  have hc4 := hc.2.2.2
  have hrun : va_Run p l e R s m args below meth c H locs cells slots 0 0 (F0 m pc arr ((as.reverse ++ t).map (z_conc X b))) (t.map (z_conc X b)) (z_Qc My X g 0 0 _ _) (z_A X) := va_runS (H := H) (locs := locs) (As := as.map (z_conc X b)) (rest := t.map (z_conc X b)) (g := F0 m pc arr ((as.reverse ++ t).map (z_conc X b))) ⟨hr.1, hr.2.1, hr.2.2.1, hr.2.2.2.1, hr.2.2.2.2.1⟩ (hct hoa hrel.2.2 l X b) (⟨z_CB (M := M) (My := My) (n := n) hr.2.2.2.2.1 hM hl hn hrm hr.2.2.2.2.2.2.2.1, hr.2.2.2.2.1 _ hst⟩) ⟨z_blind, fun U hU hW => z_pc hr.2.2.2.2.2.1 hsz hrel hU hW⟩ rfl (by rw [List.length_map]; exact hlen) hlv.1 (by show (as.reverse ++ t).map (z_conc X b) = _; rw [List.map_append, List.map_reverse]) hcs2 hd ⟨by omega, by omega⟩
  refine z_callW (My := My) (E := E) hrun hrel hc (by omega) (by omega) (fun x g' D' H1 locs1 hrel1 hQ1 hro hcn => ?_)
  obtain ⟨rfl, hP1⟩ := hQ1
  rw [hret x]
  exact k _ _ _ _ hP1 hr hcn hrel1 hlv hol (z_oks_c (hok x hro) hot)
def w_sJ (My : MI) (n : Nat) (K : WP) : WP := fun ls st g D => pN n [] st fun as t => cS t ≤ 8 ∧ z_Cu My as g D (fun x D' => K ls (zl x :: t) g D')
theorem S_sJ {idx n : Nat} (hd : decode (mC M) pc = .ok (.invokestatic idx, 3)) (hM : z_MI My) (hl : Cond.methodLink (mY M).cls idx (mY My) ∈ z_tb) (hst : Cond.static (mY My) ∈ z_tb) (hn : z_np My n) (hrm : z_rm M My) (hret : ∀ x, z_rv (mR My) x = some (.long (Int64.ofInt x))) (hok : ∀ x, z_rok (mR My) x → zR6 x) (k : z_Snd M E (pc + 3) K) : z_Snd M E pc (w_sJ My n K) := by
  intro ls st g D hw X p l e R s m args below meth c Z b H locs cells slots arr n0 s0 hr hc hrel hlv hol hos
  obtain ⟨as, t, rfl, hlen, hw⟩ := pN_e hw
  rw [List.append_nil] at hw
  obtain ⟨hcs, hct⟩ := hw
  obtain ⟨hoa, hot⟩ := z_oks_r hos
  have hcs2 : 2 * (F0 m pc arr ((as.reverse ++ t).map (z_conc X b))).monitorRoom + ((t.map (z_conc X b)).map fun v => v.category).sum ≤ 8 := by
    rw [cS_e]
    show 2 * 0 + _ ≤ _
    omega
  intro T hT Xs
  have hsz := z_size Xs hT hr.2.2.2.2.2.2.1.1 hc hrel
  refine (?_ : W p l e R s m args below meth c H locs cells slots Z (F0 m pc arr ((as.reverse ++ t).map (z_conc X b)))) T hT Xs
  have hN := hr.2.2.2.2.2.2.1
  have hc1 := hc.1
  have hc2 := hc.2.1
  have hc3 := hc.2.2.1
  have hc4 := hc.2.2.2
  have hrun : va_Run p l e R s m args below meth c H locs cells slots 0 0 (F0 m pc arr ((as.reverse ++ t).map (z_conc X b))) (t.map (z_conc X b)) (z_Qc My X g 0 0 _ _) (z_A X) := va_runS (H := H) (locs := locs) (As := as.map (z_conc X b)) (rest := t.map (z_conc X b)) (g := F0 m pc arr ((as.reverse ++ t).map (z_conc X b))) ⟨hr.1, hr.2.1, hr.2.2.1, hr.2.2.2.1, hr.2.2.2.2.1⟩ (hct hoa hrel.2.2 l X b) (⟨z_CB (M := M) (My := My) (n := n) hr.2.2.2.2.1 hM hl hn hrm hr.2.2.2.2.2.2.2.1, hr.2.2.2.2.1 _ hst⟩) ⟨z_blind, fun U hU hW => z_pc hr.2.2.2.2.2.1 hsz hrel hU hW⟩ rfl (by rw [List.length_map]; exact hlen) hlv.1 (by show (as.reverse ++ t).map (z_conc X b) = _; rw [List.map_append, List.map_reverse]) hcs2 hd ⟨by omega, by omega⟩
  refine z_callW (My := My) (E := E) hrun hrel hc (by omega) (by omega) (fun x g' D' H1 locs1 hrel1 hQ1 hro hcn => ?_)
  obtain ⟨rfl, hP1⟩ := hQ1
  rw [hret x]
  exact k _ _ _ _ hP1 hr hcn hrel1 hlv hol (z_oks_c (hok x hro) hot)
def w_sV (My : MI) (n : Nat) (K : WP) : WP := fun ls st g D => pN n [] st fun as t => cS t ≤ 8 ∧ z_Cu My as g D (fun _ D' => K ls (t) g D')
theorem S_sV {idx n : Nat} (hd : decode (mC M) pc = .ok (.invokestatic idx, 3)) (hM : z_MI My) (hl : Cond.methodLink (mY M).cls idx (mY My) ∈ z_tb) (hst : Cond.static (mY My) ∈ z_tb) (hn : z_np My n) (hrm : z_rm M My) (hret : ∀ x, z_rv (mR My) x = none) (k : z_Snd M E (pc + 3) K) : z_Snd M E pc (w_sV My n K) := by
  intro ls st g D hw X p l e R s m args below meth c Z b H locs cells slots arr n0 s0 hr hc hrel hlv hol hos
  obtain ⟨as, t, rfl, hlen, hw⟩ := pN_e hw
  rw [List.append_nil] at hw
  obtain ⟨hcs, hct⟩ := hw
  obtain ⟨hoa, hot⟩ := z_oks_r hos
  have hcs2 : 2 * (F0 m pc arr ((as.reverse ++ t).map (z_conc X b))).monitorRoom + ((t.map (z_conc X b)).map fun v => v.category).sum ≤ 8 := by
    rw [cS_e]
    show 2 * 0 + _ ≤ _
    omega
  intro T hT Xs
  have hsz := z_size Xs hT hr.2.2.2.2.2.2.1.1 hc hrel
  refine (?_ : W p l e R s m args below meth c H locs cells slots Z (F0 m pc arr ((as.reverse ++ t).map (z_conc X b)))) T hT Xs
  have hN := hr.2.2.2.2.2.2.1
  have hc1 := hc.1
  have hc2 := hc.2.1
  have hc3 := hc.2.2.1
  have hc4 := hc.2.2.2
  have hrun : va_Run p l e R s m args below meth c H locs cells slots 0 0 (F0 m pc arr ((as.reverse ++ t).map (z_conc X b))) (t.map (z_conc X b)) (z_Qc My X g 0 0 _ _) (z_A X) := va_runS (H := H) (locs := locs) (As := as.map (z_conc X b)) (rest := t.map (z_conc X b)) (g := F0 m pc arr ((as.reverse ++ t).map (z_conc X b))) ⟨hr.1, hr.2.1, hr.2.2.1, hr.2.2.2.1, hr.2.2.2.2.1⟩ (hct hoa hrel.2.2 l X b) (⟨z_CB (M := M) (My := My) (n := n) hr.2.2.2.2.1 hM hl hn hrm hr.2.2.2.2.2.2.2.1, hr.2.2.2.2.1 _ hst⟩) ⟨z_blind, fun U hU hW => z_pc hr.2.2.2.2.2.1 hsz hrel hU hW⟩ rfl (by rw [List.length_map]; exact hlen) hlv.1 (by show (as.reverse ++ t).map (z_conc X b) = _; rw [List.map_append, List.map_reverse]) hcs2 hd ⟨by omega, by omega⟩
  refine z_callW (My := My) (E := E) hrun hrel hc (by omega) (by omega) (fun x g' D' H1 locs1 hrel1 hQ1 hro hcn => ?_)
  obtain ⟨rfl, hP1⟩ := hQ1
  rw [hret x]
  exact k _ _ _ _ hP1 hr hcn hrel1 hlv hol (hot)
def w_vI (My : MI) (ci n : Nat) (K : WP) : WP := fun ls st g D => pN (n + 1) [] st fun as t => z_rc g ci as ∧ cS t ≤ 8 ∧ z_Cu My as g D (fun x D' => K ls (zi x :: t) g D')
theorem S_vI {ci idx n : Nat} (hd : decode (mC M) pc = .ok (.invokevirtual idx, 3)) (hM : z_MI My) (hl : Cond.methodLink (mY M).cls idx (mY My) ∈ z_tb) (him : Cond.instanceMethod (mY My) ∈ z_tb) (hse : Cond.selects (mY My).cls (mY My) (mY My) ∈ z_tb) (hcl : ∃ (T : u_T) (N : Nat), clsL[ci]? = some ((mY My).cls, T, N)) (hn : z_np My n) (hrm : z_rm M My) (hret : ∀ x, z_rv (mR My) x = some (.int (Int32.ofInt x))) (hok : ∀ x, z_rok (mR My) x → zR x) (k : z_Snd M E (pc + 3) K) : z_Snd M E pc (w_vI My ci n K) := by
  intro ls st g D hw X p l e R s m args below meth c Z b H locs cells slots arr n0 s0 hr hc hrel hlv hol hos
  obtain ⟨as, t, rfl, hlen, hw⟩ := pN_e hw
  rw [List.append_nil] at hw
  obtain ⟨hrc, hcs, hct⟩ := hw
  obtain ⟨hoa, hot⟩ := z_oks_r hos
  have hcs2 : 2 * (F0 m pc arr ((as.reverse ++ t).map (z_conc X b))).monitorRoom + ((t.map (z_conc X b)).map fun v => v.category).sum ≤ 8 := by
    rw [cS_e]
    show 2 * 0 + _ ≤ _
    omega
  intro T hT Xs
  have hsz := z_size Xs hT hr.2.2.2.2.2.2.1.1 hc hrel
  refine (?_ : W p l e R s m args below meth c H locs cells slots Z (F0 m pc arr ((as.reverse ++ t).map (z_conc X b)))) T hT Xs
  have hN := hr.2.2.2.2.2.2.1
  have hc1 := hc.1
  have hc2 := hc.2.1
  have hc3 := hc.2.2.1
  have hc4 := hc.2.2.2
  obtain ⟨o, as2, rfl⟩ : ∃ o as2, as = zr o :: as2 := by
    unfold z_rc at hrc
    split at hrc
    · exact ⟨_, _, rfl⟩
    · exact hrc.elim
  obtain ⟨ho, ks, hks⟩ := hrc
  obtain ⟨T0, N0, hcl⟩ := hcl
  have hrun : va_Run p l e R s m args below meth c H locs cells slots 0 0 (F0 m pc arr (((zr o :: as2).reverse ++ t).map (z_conc X b))) (t.map (z_conc X b)) (z_Qc My X g 0 0 _ _) (z_A X) := va_runV (H := H) (locs := locs) (As := as2.map (z_conc X b)) (b := X.2.2.2.1 + o) (rest := t.map (z_conc X b)) (g := F0 m pc arr (((zr o :: as2).reverse ++ t).map (z_conc X b))) ⟨hr.1, hr.2.1, hr.2.2.1, hr.2.2.2.1, hr.2.2.2.2.1⟩ (hct hoa hrel.2.2 l X b) (⟨z_CB (M := M) (My := My) (n := n) hr.2.2.2.2.1 hM hl hn hrm hr.2.2.2.2.2.2.2.1, hr.2.2.2.2.1 _ him, hr.2.2.2.2.1 _ hse⟩) ⟨z_blind, va_recv hr.2.2.2.2.2.1.1 hrel.1 hcl (z_ws_obj ho hks), fun U hU hW => z_pc (as := zr o :: as2) hr.2.2.2.2.2.1 hsz hrel hU hW⟩ rfl (by rw [List.length_map]; have := hlen; simp at this; exact this) hlv.1 (by show ((zr o :: as2).reverse ++ t).map (z_conc X b) = _; rw [List.map_append, List.reverse_cons, List.map_append, List.map_reverse, List.append_assoc]; rfl) hcs2 hd ⟨by omega, by omega⟩
  refine z_callW (My := My) (E := E) hrun hrel hc (by omega) (by omega) (fun x g' D' H1 locs1 hrel1 hQ1 hro hcn => ?_)
  obtain ⟨rfl, hP1⟩ := hQ1
  rw [hret x]
  exact k _ _ _ _ hP1 hr hcn hrel1 hlv hol (z_oks_c (hok x hro) hot)
def w_vJ (My : MI) (ci n : Nat) (K : WP) : WP := fun ls st g D => pN (n + 1) [] st fun as t => z_rc g ci as ∧ cS t ≤ 8 ∧ z_Cu My as g D (fun x D' => K ls (zl x :: t) g D')
theorem S_vJ {ci idx n : Nat} (hd : decode (mC M) pc = .ok (.invokevirtual idx, 3)) (hM : z_MI My) (hl : Cond.methodLink (mY M).cls idx (mY My) ∈ z_tb) (him : Cond.instanceMethod (mY My) ∈ z_tb) (hse : Cond.selects (mY My).cls (mY My) (mY My) ∈ z_tb) (hcl : ∃ (T : u_T) (N : Nat), clsL[ci]? = some ((mY My).cls, T, N)) (hn : z_np My n) (hrm : z_rm M My) (hret : ∀ x, z_rv (mR My) x = some (.long (Int64.ofInt x))) (hok : ∀ x, z_rok (mR My) x → zR6 x) (k : z_Snd M E (pc + 3) K) : z_Snd M E pc (w_vJ My ci n K) := by
  intro ls st g D hw X p l e R s m args below meth c Z b H locs cells slots arr n0 s0 hr hc hrel hlv hol hos
  obtain ⟨as, t, rfl, hlen, hw⟩ := pN_e hw
  rw [List.append_nil] at hw
  obtain ⟨hrc, hcs, hct⟩ := hw
  obtain ⟨hoa, hot⟩ := z_oks_r hos
  have hcs2 : 2 * (F0 m pc arr ((as.reverse ++ t).map (z_conc X b))).monitorRoom + ((t.map (z_conc X b)).map fun v => v.category).sum ≤ 8 := by
    rw [cS_e]
    show 2 * 0 + _ ≤ _
    omega
  intro T hT Xs
  have hsz := z_size Xs hT hr.2.2.2.2.2.2.1.1 hc hrel
  refine (?_ : W p l e R s m args below meth c H locs cells slots Z (F0 m pc arr ((as.reverse ++ t).map (z_conc X b)))) T hT Xs
  have hN := hr.2.2.2.2.2.2.1
  have hc1 := hc.1
  have hc2 := hc.2.1
  have hc3 := hc.2.2.1
  have hc4 := hc.2.2.2
  obtain ⟨o, as2, rfl⟩ : ∃ o as2, as = zr o :: as2 := by
    unfold z_rc at hrc
    split at hrc
    · exact ⟨_, _, rfl⟩
    · exact hrc.elim
  obtain ⟨ho, ks, hks⟩ := hrc
  obtain ⟨T0, N0, hcl⟩ := hcl
  have hrun : va_Run p l e R s m args below meth c H locs cells slots 0 0 (F0 m pc arr (((zr o :: as2).reverse ++ t).map (z_conc X b))) (t.map (z_conc X b)) (z_Qc My X g 0 0 _ _) (z_A X) := va_runV (H := H) (locs := locs) (As := as2.map (z_conc X b)) (b := X.2.2.2.1 + o) (rest := t.map (z_conc X b)) (g := F0 m pc arr (((zr o :: as2).reverse ++ t).map (z_conc X b))) ⟨hr.1, hr.2.1, hr.2.2.1, hr.2.2.2.1, hr.2.2.2.2.1⟩ (hct hoa hrel.2.2 l X b) (⟨z_CB (M := M) (My := My) (n := n) hr.2.2.2.2.1 hM hl hn hrm hr.2.2.2.2.2.2.2.1, hr.2.2.2.2.1 _ him, hr.2.2.2.2.1 _ hse⟩) ⟨z_blind, va_recv hr.2.2.2.2.2.1.1 hrel.1 hcl (z_ws_obj ho hks), fun U hU hW => z_pc (as := zr o :: as2) hr.2.2.2.2.2.1 hsz hrel hU hW⟩ rfl (by rw [List.length_map]; have := hlen; simp at this; exact this) hlv.1 (by show ((zr o :: as2).reverse ++ t).map (z_conc X b) = _; rw [List.map_append, List.reverse_cons, List.map_append, List.map_reverse, List.append_assoc]; rfl) hcs2 hd ⟨by omega, by omega⟩
  refine z_callW (My := My) (E := E) hrun hrel hc (by omega) (by omega) (fun x g' D' H1 locs1 hrel1 hQ1 hro hcn => ?_)
  obtain ⟨rfl, hP1⟩ := hQ1
  rw [hret x]
  exact k _ _ _ _ hP1 hr hcn hrel1 hlv hol (z_oks_c (hok x hro) hot)
def w_vV (My : MI) (ci n : Nat) (K : WP) : WP := fun ls st g D => pN (n + 1) [] st fun as t => z_rc g ci as ∧ cS t ≤ 8 ∧ z_Cu My as g D (fun _ D' => K ls (t) g D')
theorem S_vV {ci idx n : Nat} (hd : decode (mC M) pc = .ok (.invokevirtual idx, 3)) (hM : z_MI My) (hl : Cond.methodLink (mY M).cls idx (mY My) ∈ z_tb) (him : Cond.instanceMethod (mY My) ∈ z_tb) (hse : Cond.selects (mY My).cls (mY My) (mY My) ∈ z_tb) (hcl : ∃ (T : u_T) (N : Nat), clsL[ci]? = some ((mY My).cls, T, N)) (hn : z_np My n) (hrm : z_rm M My) (hret : ∀ x, z_rv (mR My) x = none) (k : z_Snd M E (pc + 3) K) : z_Snd M E pc (w_vV My ci n K) := by
  intro ls st g D hw X p l e R s m args below meth c Z b H locs cells slots arr n0 s0 hr hc hrel hlv hol hos
  obtain ⟨as, t, rfl, hlen, hw⟩ := pN_e hw
  rw [List.append_nil] at hw
  obtain ⟨hrc, hcs, hct⟩ := hw
  obtain ⟨hoa, hot⟩ := z_oks_r hos
  have hcs2 : 2 * (F0 m pc arr ((as.reverse ++ t).map (z_conc X b))).monitorRoom + ((t.map (z_conc X b)).map fun v => v.category).sum ≤ 8 := by
    rw [cS_e]
    show 2 * 0 + _ ≤ _
    omega
  intro T hT Xs
  have hsz := z_size Xs hT hr.2.2.2.2.2.2.1.1 hc hrel
  refine (?_ : W p l e R s m args below meth c H locs cells slots Z (F0 m pc arr ((as.reverse ++ t).map (z_conc X b)))) T hT Xs
  have hN := hr.2.2.2.2.2.2.1
  have hc1 := hc.1
  have hc2 := hc.2.1
  have hc3 := hc.2.2.1
  have hc4 := hc.2.2.2
  obtain ⟨o, as2, rfl⟩ : ∃ o as2, as = zr o :: as2 := by
    unfold z_rc at hrc
    split at hrc
    · exact ⟨_, _, rfl⟩
    · exact hrc.elim
  obtain ⟨ho, ks, hks⟩ := hrc
  obtain ⟨T0, N0, hcl⟩ := hcl
  have hrun : va_Run p l e R s m args below meth c H locs cells slots 0 0 (F0 m pc arr (((zr o :: as2).reverse ++ t).map (z_conc X b))) (t.map (z_conc X b)) (z_Qc My X g 0 0 _ _) (z_A X) := va_runV (H := H) (locs := locs) (As := as2.map (z_conc X b)) (b := X.2.2.2.1 + o) (rest := t.map (z_conc X b)) (g := F0 m pc arr (((zr o :: as2).reverse ++ t).map (z_conc X b))) ⟨hr.1, hr.2.1, hr.2.2.1, hr.2.2.2.1, hr.2.2.2.2.1⟩ (hct hoa hrel.2.2 l X b) (⟨z_CB (M := M) (My := My) (n := n) hr.2.2.2.2.1 hM hl hn hrm hr.2.2.2.2.2.2.2.1, hr.2.2.2.2.1 _ him, hr.2.2.2.2.1 _ hse⟩) ⟨z_blind, va_recv hr.2.2.2.2.2.1.1 hrel.1 hcl (z_ws_obj ho hks), fun U hU hW => z_pc (as := zr o :: as2) hr.2.2.2.2.2.1 hsz hrel hU hW⟩ rfl (by rw [List.length_map]; have := hlen; simp at this; exact this) hlv.1 (by show ((zr o :: as2).reverse ++ t).map (z_conc X b) = _; rw [List.map_append, List.reverse_cons, List.map_append, List.map_reverse, List.append_assoc]; rfl) hcs2 hd ⟨by omega, by omega⟩
  refine z_callW (My := My) (E := E) hrun hrel hc (by omega) (by omega) (fun x g' D' H1 locs1 hrel1 hQ1 hro hcn => ?_)
  obtain ⟨rfl, hP1⟩ := hQ1
  rw [hret x]
  exact k _ _ _ _ hP1 hr hcn hrel1 hlv hol (hot)
theorem S_nI {idx n : Nat} {host : String} (hd : decode (mC M) pc = .ok (.invokestatic idx, 3)) (hM : z_MI My) (hl : ((mY M).cls, idx, mY My, host) ∈ z_nst) (hst : Cond.static (mY My) ∈ z_tb) (hn : z_np My n) (hrm : z_rm M My) (hret : ∀ x, z_rv (mR My) x = some (.int (Int32.ofInt x))) (hok : ∀ x, z_rok (mR My) x → zR x) (k : z_Snd M E (pc + 3) K) : z_Snd M E pc (w_sI My n K) := by
  intro ls st g D hw X p l e R s m args below meth c Z b H locs cells slots arr n0 s0 hr hc hrel hlv hol hos
  obtain ⟨as, t, rfl, hlen, hw⟩ := pN_e hw
  rw [List.append_nil] at hw
  obtain ⟨hcs, hct⟩ := hw
  obtain ⟨hoa, hot⟩ := z_oks_r hos
  have hcs2 : 2 * (F0 m pc arr ((as.reverse ++ t).map (z_conc X b))).monitorRoom + ((t.map (z_conc X b)).map fun v => v.category).sum ≤ 8 := by
    rw [cS_e]
    show 2 * 0 + _ ≤ _
    omega
  intro T hT Xs
  have hsz := z_size Xs hT hr.2.2.2.2.2.2.1.1 hc hrel
  refine (?_ : W p l e R s m args below meth c H locs cells slots Z (F0 m pc arr ((as.reverse ++ t).map (z_conc X b)))) T hT Xs
  have hN := hr.2.2.2.2.2.2.1
  have hc1 := hc.1
  have hc2 := hc.2.1
  have hc3 := hc.2.2.1
  have hc4 := hc.2.2.2
  have hrun : va_Run p l e R s m args below meth c H locs cells slots 0 0 (F0 m pc arr ((as.reverse ++ t).map (z_conc X b))) (t.map (z_conc X b)) (z_Qc My X g 0 0 _ _) (z_A X) := va_runSN (H := H) (locs := locs) (As := as.map (z_conc X b)) (rest := t.map (z_conc X b)) (g := F0 m pc arr ((as.reverse ++ t).map (z_conc X b))) ⟨hr.1, hr.2.1, hr.2.2.1, hr.2.2.2.1, hr.2.2.2.2.1⟩ (hct hoa hrel.2.2 l X b) (⟨z_CBN (M := M) (My := My) (n := n) (host := host) hr.2.2.2.2.1 hM (hr.2.2.2.2.2.1.2.2.2.2.2 _ hl) hn hrm hr.2.2.2.2.2.2.2.1, hr.2.2.2.2.1 _ hst, trivial⟩) ⟨z_blind, fun U hU hW => z_pc hr.2.2.2.2.2.1 hsz hrel hU hW⟩ rfl (by rw [List.length_map]; exact hlen) hlv.1 (by show (as.reverse ++ t).map (z_conc X b) = _; rw [List.map_append, List.map_reverse]) hcs2 hd ⟨by omega, by omega⟩
  refine z_callW (My := My) (E := E) hrun hrel hc (by omega) (by omega) (fun x g' D' H1 locs1 hrel1 hQ1 hro hcn => ?_)
  obtain ⟨rfl, hP1⟩ := hQ1
  rw [hret x]
  exact k _ _ _ _ hP1 hr hcn hrel1 hlv hol (z_oks_c (hok x hro) hot)
def w_tI (My : MI) (n : Nat) (K : WP) : WP := fun ls st g D => pN (n + 1) [] st fun as t => (∃ i as2, as = zs i :: as2) ∧ cS t ≤ 8 ∧ z_Cu My as g D (fun x D' => K ls (zi x :: t) g D')
theorem S_tI {idx n : Nat} (hd : decode (mC M) pc = .ok (.invokevirtual idx, 3)) (hM : z_MI My) (hl : Cond.methodLink (mY M).cls idx (mY My) ∈ z_tb) (him : Cond.instanceMethod (mY My) ∈ z_tb) (hse : Cond.selects "java/lang/String" (mY My) (mY My) ∈ z_tb) (hn : z_np My n) (hrm : z_rm M My) (hret : ∀ x, z_rv (mR My) x = some (.int (Int32.ofInt x))) (hok : ∀ x, z_rok (mR My) x → zR x) (k : z_Snd M E (pc + 3) K) : z_Snd M E pc (w_tI My n K) := by
  intro ls st g D hw X p l e R s m args below meth c Z b H locs cells slots arr n0 s0 hr hc hrel hlv hol hos
  obtain ⟨as, t, rfl, hlen, hw⟩ := pN_e hw
  rw [List.append_nil] at hw
  obtain ⟨hrc, hcs, hct⟩ := hw
  obtain ⟨hoa, hot⟩ := z_oks_r hos
  have hcs2 : 2 * (F0 m pc arr ((as.reverse ++ t).map (z_conc X b))).monitorRoom + ((t.map (z_conc X b)).map fun v => v.category).sum ≤ 8 := by
    rw [cS_e]
    show 2 * 0 + _ ≤ _
    omega
  intro T hT Xs
  have hsz := z_size Xs hT hr.2.2.2.2.2.2.1.1 hc hrel
  refine (?_ : W p l e R s m args below meth c H locs cells slots Z (F0 m pc arr ((as.reverse ++ t).map (z_conc X b)))) T hT Xs
  have hN := hr.2.2.2.2.2.2.1
  have hc1 := hc.1
  have hc2 := hc.2.1
  have hc3 := hc.2.2.1
  have hc4 := hc.2.2.2
  obtain ⟨i, as2, rfl⟩ := hrc
  have hi : i < 7 := hoa (zs i) List.mem_cons_self
  have hrun : va_Run p l e R s m args below meth c H locs cells slots 0 0 (F0 m pc arr (((zs i :: as2).reverse ++ t).map (z_conc X b))) (t.map (z_conc X b)) (z_Qc My X g 0 0 _ _) (z_A X) := va_runV (C := "java/lang/String") (H := H) (locs := locs) (As := as2.map (z_conc X b)) (b := X.2.2.2.2.1 i) (rest := t.map (z_conc X b)) (g := F0 m pc arr (((zs i :: as2).reverse ++ t).map (z_conc X b))) ⟨hr.1, hr.2.1, hr.2.2.1, hr.2.2.2.1, hr.2.2.2.2.1⟩ (hct hoa hrel.2.2 l X b) (⟨z_CB (M := M) (My := My) (n := n) hr.2.2.2.2.1 hM hl hn hrm hr.2.2.2.2.2.2.2.1, hr.2.2.2.2.1 _ him, hr.2.2.2.2.1 _ hse⟩) ⟨z_blind, vk_recv hr.2.2.2.2.2.1.2.1 hi hrel.2.1, fun U hU hW => z_pc (as := zs i :: as2) hr.2.2.2.2.2.1 hsz hrel hU hW⟩ rfl (by rw [List.length_map]; have := hlen; simp at this; exact this) hlv.1 (by show ((zs i :: as2).reverse ++ t).map (z_conc X b) = _; rw [List.map_append, List.reverse_cons, List.map_append, List.map_reverse, List.append_assoc]; rfl) hcs2 hd ⟨by omega, by omega⟩
  refine z_callW (My := My) (E := E) hrun hrel hc (by omega) (by omega) (fun x g' D' H1 locs1 hrel1 hQ1 hro hcn => ?_)
  obtain ⟨rfl, hP1⟩ := hQ1
  rw [hret x]
  exact k _ _ _ _ hP1 hr hcn hrel1 hlv hol (z_oks_c (hok x hro) hot)
def w_init (E : En) (My : MI) (n : Nat) (K : WP) : WP := fun ls st g D => pN (n + 1) [] st fun as t => (∃ o as2, as = zr o :: as2) ∧ cS t ≤ 8 ∧ ∃ mc ms : Nat, g.1 + mc ≤ E.1.1 ∧ g.2.1 + ms ≤ E.1.2 ∧ z_Ct My mc ms as g D (fun _ g' D' => K ls t g' D')
theorem S_init {idx n : Nat} (hd : decode (mC M) pc = .ok (.invokespecial idx, 3)) (hM : z_MI My) (hl : Cond.methodLink (mY M).cls idx (mY My) ∈ z_tb) (him : Cond.instanceMethod (mY My) ∈ z_tb) (hini : (mY My).name = "<init>") (hn : z_np My n) (hrm : z_rm M My) (hret0 : mR My = none) (k : z_Snd M E (pc + 3) K) : z_Snd M E pc (w_init E My n K) := by
  intro ls st g D hw X p l e R s m args below meth c Z b H locs cells slots arr n0 s0 hr hc hrel hlv hol hos
  obtain ⟨as, t, rfl, hlen, hw⟩ := pN_e hw
  rw [List.append_nil] at hw
  obtain ⟨hrc, hcs, mc, ms, hg1, hg2, hct⟩ := hw
  obtain ⟨hoa, hot⟩ := z_oks_r hos
  have hcs2 : 2 * (F0 m pc arr ((as.reverse ++ t).map (z_conc X b))).monitorRoom + ((t.map (z_conc X b)).map fun v => v.category).sum ≤ 8 := by
    rw [cS_e]
    show 2 * 0 + _ ≤ _
    omega
  intro T hT Xs
  have hsz := z_size Xs hT hr.2.2.2.2.2.2.1.1 hc hrel
  refine (?_ : W p l e R s m args below meth c H locs cells slots Z (F0 m pc arr ((as.reverse ++ t).map (z_conc X b)))) T hT Xs
  have hN := hr.2.2.2.2.2.2.1
  have hc1 := hc.1
  have hc2 := hc.2.1
  have hc3 := hc.2.2.1
  have hc4 := hc.2.2.2
  obtain ⟨o, as2, rfl⟩ := hrc
  have hcb := z_CB (M := M) (My := My) (n := n) hr.2.2.2.2.1 hM hl hn hrm hr.2.2.2.2.2.2.2.1 (mc := mc) (ms := ms) (args := args)
  rw [hret0] at hcb
  have hrun : va_Run p l e R s m args below meth c H locs cells slots mc ms (F0 m pc arr (((zr o :: as2).reverse ++ t).map (z_conc X b))) (t.map (z_conc X b)) (z_Qc My X g mc ms _ _) (z_A X) := va_runI (H := H) (locs := locs) (As := as2.map (z_conc X b)) (b := X.2.2.2.1 + o) (rest := t.map (z_conc X b)) (g := F0 m pc arr (((zr o :: as2).reverse ++ t).map (z_conc X b))) ⟨hr.1, hr.2.1, hr.2.2.1, hr.2.2.2.1, hr.2.2.2.2.1⟩ (hct hoa hrel.2.2 l X b) (⟨hcb, hini, hr.2.2.2.2.1 _ him⟩) ⟨z_blind, fun U hU hW => z_pc (as := zr o :: as2) hr.2.2.2.2.2.1 hsz hrel hU hW⟩ rfl (by rw [List.length_map]; have := hlen; simp at this; exact this) hlv.1 (by show ((zr o :: as2).reverse ++ t).map (z_conc X b) = _; rw [List.map_append, List.reverse_cons, List.map_append, List.map_reverse, List.append_assoc]; rfl) hcs2 hd ⟨by omega, by omega⟩
  refine z_callW (My := My) (E := E) hrun hrel hc (by omega) (by omega) (fun x g' D' H1 locs1 hrel1 hQ1 hro hcn => ?_)
  rw [hret0]
  exact k _ _ _ _ hQ1 hr hcn hrel1 hlv hol hot
theorem S_initN {idx n : Nat} (hd : decode (mC M) pc = .ok (.invokespecial idx, 3)) (hM : z_MI My) {host : String} (hl : ((mY M).cls, idx, mY My, host) ∈ z_nst) (him : Cond.instanceMethod (mY My) ∈ z_tb) (hini : (mY My).name = "<init>") (hn : z_np My n) (hrm : z_rm M My) (hret0 : mR My = none) (k : z_Snd M E (pc + 3) K) : z_Snd M E pc (w_init E My n K) := by
  intro ls st g D hw X p l e R s m args below meth c Z b H locs cells slots arr n0 s0 hr hc hrel hlv hol hos
  obtain ⟨as, t, rfl, hlen, hw⟩ := pN_e hw
  rw [List.append_nil] at hw
  obtain ⟨hrc, hcs, mc, ms, hg1, hg2, hct⟩ := hw
  obtain ⟨hoa, hot⟩ := z_oks_r hos
  have hcs2 : 2 * (F0 m pc arr ((as.reverse ++ t).map (z_conc X b))).monitorRoom + ((t.map (z_conc X b)).map fun v => v.category).sum ≤ 8 := by
    rw [cS_e]
    show 2 * 0 + _ ≤ _
    omega
  intro T hT Xs
  have hsz := z_size Xs hT hr.2.2.2.2.2.2.1.1 hc hrel
  refine (?_ : W p l e R s m args below meth c H locs cells slots Z (F0 m pc arr ((as.reverse ++ t).map (z_conc X b)))) T hT Xs
  have hN := hr.2.2.2.2.2.2.1
  have hc1 := hc.1
  have hc2 := hc.2.1
  have hc3 := hc.2.2.1
  have hc4 := hc.2.2.2
  obtain ⟨o, as2, rfl⟩ := hrc
  have hcb := z_CBN (M := M) (My := My) (n := n) (host := host) hr.2.2.2.2.1 hM (hr.2.2.2.2.2.1.2.2.2.2.2 _ hl) hn hrm hr.2.2.2.2.2.2.2.1 (mc := mc) (ms := ms) (args := args)
  rw [hret0] at hcb
  have hrun : va_Run p l e R s m args below meth c H locs cells slots mc ms (F0 m pc arr (((zr o :: as2).reverse ++ t).map (z_conc X b))) (t.map (z_conc X b)) (z_Qc My X g mc ms _ _) (z_A X) := va_runIN (H := H) (locs := locs) (As := as2.map (z_conc X b)) (b := X.2.2.2.1 + o) (rest := t.map (z_conc X b)) (g := F0 m pc arr (((zr o :: as2).reverse ++ t).map (z_conc X b))) ⟨hr.1, hr.2.1, hr.2.2.1, hr.2.2.2.1, hr.2.2.2.2.1⟩ (hct hoa hrel.2.2 l X b) (⟨hcb, hini, hr.2.2.2.2.1 _ him⟩) ⟨z_blind, fun U hU hW => z_pc (as := zr o :: as2) hr.2.2.2.2.2.1 hsz hrel hU hW⟩ rfl (by rw [List.length_map]; have := hlen; simp at this; exact this) hlv.1 (by show ((zr o :: as2).reverse ++ t).map (z_conc X b) = _; rw [List.map_append, List.reverse_cons, List.map_append, List.map_reverse, List.append_assoc]; rfl) hcs2 hd ⟨by omega, by omega⟩
  refine z_callW (My := My) (E := E) hrun hrel hc (by omega) (by omega) (fun x g' D' H1 locs1 hrel1 hQ1 hro hcn => ?_)
  rw [hret0]
  exact k _ _ _ _ hQ1 hr hcn hrel1 hlv hol hot
-- Math, arraycopy
def w_mmax (K : WP) : WP := fun ls st g D => pI st fun y t => pI t fun x t2 => cS t2 ≤ 8 ∧ K ls (zi (max x y) :: t2) g D
def w_mmin (K : WP) : WP := fun ls st g D => pI st fun y t => pI t fun x t2 => cS t2 ≤ 8 ∧ K ls (zi (min x y) :: t2) g D
def w_mabs (K : WP) : WP := fun ls st g D => pI st fun x t2 => cS t2 ≤ 8 ∧ zR (-x) ∧ K ls (zi (max x (-x)) :: t2) g D
def w_lmax (K : WP) : WP := fun ls st g D => pJ st fun y t => pJ t fun x t2 => cS t2 ≤ 8 ∧ K ls (zl (max x y) :: t2) g D
theorem z_le_rc {X : Xe} {b n0 s0 : Nat} {p : Program} {l : Launch} {e : Env} {R : Room} {s : State} {m : MethodId} {args : Array Value} {below : List Frame} {meth : Method} {c : Code} {Z : State → Prop} {g : Gm} {cells slots : Nat} (hr : z_Run M E X p l e R s m args below meth c Z b n0 s0) (hc : z_Cn E n0 s0 g cells slots) : cells ≤ R.cells ∧ slots ≤ R.slots := by
  have h1 := hr.2.2.2.2.2.2.1
  have h2 := hc.1
  have h3 := hc.2.1
  have h4 := hc.2.2.1
  have h5 := hc.2.2.2
  exact ⟨by omega, by omega⟩
theorem S_mmax {idx : Nat} (hd : decode (mC M) pc = .ok (.invokestatic idx, 3)) (hl : Cond.methodLink (mY M).cls idx Lib.Math.max.name ∈ z_tb) (hs : Cond.static Lib.Math.max.name ∈ z_tb) (hi : Cond.initialized "java/lang/Math" ∈ z_tb) (hcd : Cond.code Lib.Math.max.name Lib.Math.max.code 2 (some .int) ∈ z_tb) (hF : 1 ≤ mF M) (hL : 23 ≤ mL M) (k : z_Snd M E (pc + 3) K) : z_Snd M E pc (w_mmax K) := by
  intro ls st g D hw X p l e R s m args below meth c Z b H locs cells slots arr n0 s0 hr hc hrel hlv hol hos
  obtain ⟨y, t, rfl, hA⟩ := pI_e hw
  obtain ⟨x, t2, rfl, hcs, hB⟩ := pI_e hA
  have hy := z_oks_h hos
  have hx := z_oks_h (z_oks_t hos)
  have hot := z_oks_t (z_oks_t hos)
  have e1 : (if Int32.ofInt x < Int32.ofInt y then Int32.ofInt y else Int32.ofInt x) = Int32.ofInt (max x y) := by
    by_cases q : x < y
    · rw [if_pos ((zR_lt hx hy).mpr q)]; congr 1; omega
    · rw [if_neg (fun w => q ((zR_lt hx hy).mp w))]; congr 1; omega
  have hroom := hr.2.2.2.2.2.2.2.1
  refine va_mmax hr.1 hr.2.1 (by rw [hr.2.2.1]; exact hlv.1.symm) hr.2.2.2.1 (hr.2.2.2.2.1 _ hl) (hr.2.2.2.2.1 _ hs) (hr.2.2.2.2.1 _ hi) (hr.2.2.2.2.1 _ hcd) (by omega) (by rw [cS_e]; omega) (z_le_rc hr hc).1 (z_le_rc hr hc).2 hd ?_
  rw [e1]
  exact k _ _ _ _ hB hr hc hrel hlv hol (z_oks_c (show zR (max x y) by unfold zR; have := hx.1; have := hx.2; have := hy.1; have := hy.2; omega) hot)
theorem S_mmin {idx : Nat} (hd : decode (mC M) pc = .ok (.invokestatic idx, 3)) (hl : Cond.methodLink (mY M).cls idx Lib.Math.min.name ∈ z_tb) (hs : Cond.static Lib.Math.min.name ∈ z_tb) (hi : Cond.initialized "java/lang/Math" ∈ z_tb) (hcd : Cond.code Lib.Math.min.name Lib.Math.min.code 2 (some .int) ∈ z_tb) (hF : 1 ≤ mF M) (hL : 23 ≤ mL M) (k : z_Snd M E (pc + 3) K) : z_Snd M E pc (w_mmin K) := by
  intro ls st g D hw X p l e R s m args below meth c Z b H locs cells slots arr n0 s0 hr hc hrel hlv hol hos
  obtain ⟨y, t, rfl, hA⟩ := pI_e hw
  obtain ⟨x, t2, rfl, hcs, hB⟩ := pI_e hA
  have hy := z_oks_h hos
  have hx := z_oks_h (z_oks_t hos)
  have hot := z_oks_t (z_oks_t hos)
  have e1 : (if Int32.ofInt y < Int32.ofInt x then Int32.ofInt y else Int32.ofInt x) = Int32.ofInt (min x y) := by
    by_cases q : y < x
    · rw [if_pos ((zR_lt hy hx).mpr q)]; congr 1; omega
    · rw [if_neg (fun w => q ((zR_lt hy hx).mp w))]; congr 1; omega
  have hroom := hr.2.2.2.2.2.2.2.1
  refine va_mmin hr.1 hr.2.1 (by rw [hr.2.2.1]; exact hlv.1.symm) hr.2.2.2.1 (hr.2.2.2.2.1 _ hl) (hr.2.2.2.2.1 _ hs) (hr.2.2.2.2.1 _ hi) (hr.2.2.2.2.1 _ hcd) (by omega) (by rw [cS_e]; omega) (z_le_rc hr hc).1 (z_le_rc hr hc).2 hd ?_
  rw [e1]
  exact k _ _ _ _ hB hr hc hrel hlv hol (z_oks_c (show zR (min x y) by unfold zR; have := hx.1; have := hx.2; have := hy.1; have := hy.2; omega) hot)
theorem S_mabs {idx : Nat} (hd : decode (mC M) pc = .ok (.invokestatic idx, 3)) (hl : Cond.methodLink (mY M).cls idx Lib.Math.abs.name ∈ z_tb) (hs : Cond.static Lib.Math.abs.name ∈ z_tb) (hi : Cond.initialized "java/lang/Math" ∈ z_tb) (hcd : Cond.code Lib.Math.abs.name Lib.Math.abs.code 1 (some .int) ∈ z_tb) (hF : 1 ≤ mF M) (hL : 23 ≤ mL M) (k : z_Snd M E (pc + 3) K) : z_Snd M E pc (w_mabs K) := by
  intro ls st g D hw X p l e R s m args below meth c Z b H locs cells slots arr n0 s0 hr hc hrel hlv hol hos
  obtain ⟨x, t2, rfl, hcs, hng, hA⟩ := pI_e hw
  have hx := z_oks_h hos
  have hot := z_oks_t hos
  have e1 : (if 0 ≤ Int32.ofInt x then Int32.ofInt x else 0 - Int32.ofInt x) = Int32.ofInt (max x (-x)) := by
    have e0 : (0 : Int32) ≤ Int32.ofInt x ↔ 0 ≤ x := zR_le zR_0 hx
    by_cases q : 0 ≤ x
    · rw [if_pos (e0.mpr q)]; congr 1; omega
    · rw [if_neg (fun w => q (e0.mp w)), show max x (-x) = 0 - x by omega, Int32.ofInt_sub]; rfl
  have hroom := hr.2.2.2.2.2.2.2.1
  refine va_mabs hr.1 hr.2.1 (by rw [hr.2.2.1]; exact hlv.1.symm) hr.2.2.2.1 (hr.2.2.2.2.1 _ hl) (hr.2.2.2.2.1 _ hs) (hr.2.2.2.2.1 _ hi) (hr.2.2.2.2.1 _ hcd) (by omega) (by rw [cS_e]; omega) (z_le_rc hr hc).1 (z_le_rc hr hc).2 hd ?_
  rw [e1]
  exact k _ _ _ _ hA hr hc hrel hlv hol (z_oks_c (show zR (max x (-x)) by unfold zR; have := hx.1; have := hx.2; have := hng.1; have := hng.2; omega) hot)
theorem S_lmax {idx : Nat} (hd : decode (mC M) pc = .ok (.invokestatic idx, 3)) (hl : Cond.methodLink (mY M).cls idx Lib.MathLoose.max_long.x ∈ z_tb) (hs : Cond.static Lib.MathLoose.max_long.x ∈ z_tb) (hi : Cond.initialized "java/lang/Math" ∈ z_tb) (hcd : Cond.code Lib.MathLoose.max_long.x Lib.MathLoose.max_long.code 4 (some .long) ∈ z_tb) (hF : 1 ≤ mF M) (hL : 23 ≤ mL M) (k : z_Snd M E (pc + 3) K) : z_Snd M E pc (w_lmax K) := by
  intro ls st g D hw X p l e R s m args below meth c Z b H locs cells slots arr n0 s0 hr hc hrel hlv hol hos
  obtain ⟨y, t, rfl, hA⟩ := pJ_e hw
  obtain ⟨x, t2, rfl, hcs, hB⟩ := pJ_e hA
  have hy := z_oks_h hos
  have hx := z_oks_h (z_oks_t hos)
  have hot := z_oks_t (z_oks_t hos)
  have e1 : (if Int64.ofInt y < Int64.ofInt x then Int64.ofInt x else Int64.ofInt y) = Int64.ofInt (max x y) := by
    have e2 : Int64.ofInt y < Int64.ofInt x ↔ y < x := by rw [Int64.lt_iff_toInt_lt, zR6_toInt hx, zR6_toInt hy]
    by_cases q : y < x
    · rw [if_pos (e2.mpr q)]; congr 1; omega
    · rw [if_neg (fun w => q (e2.mp w))]; congr 1; omega
  have hroom := hr.2.2.2.2.2.2.2.1
  refine va_mmax_long hr.1 hr.2.1 (by rw [hr.2.2.1]; exact hlv.1.symm) hr.2.2.2.1 (hr.2.2.2.2.1 _ hl) (hr.2.2.2.2.1 _ hs) (hr.2.2.2.2.1 _ hi) (hr.2.2.2.2.1 _ hcd) (by omega) (by rw [cS_e]; omega) (z_le_rc hr hc).1 (z_le_rc hr hc).2 hd ?_
  rw [e1]
  exact k _ _ _ _ hB hr hc hrel hlv hol (z_oks_c (show zR6 (max x y) by unfold zR6; have := hx.1; have := hx.2; have := hy.1; have := hy.2; omega) hot)
def w_acopy (K : WP) : WP := fun ls st g D => pI st fun n t => pI t fun dp t2 => pA t2 fun dst t3 => pI t3 fun sp t4 => pA t4 fun src t5 => cS t5 ≤ 8 ∧ z_a g src false ∧ z_a g dst false ∧ 0 ≤ n ∧ 0 ≤ sp ∧ 0 ≤ dp ∧ sp + n ≤ zn g src ∧ dp + n ≤ zn g dst ∧ K ls t5 g (zCp D src sp dst dp n)
theorem z_ws_cp {X : Xe} {g : Gm} {D : Mem} {src dst n1 : Nat} {bz : Bool} {sp dp n : Int} (hs : g.2.2 dst = .inr (bz, n1)) (hd : dst < g.1) (h0 : 0 ≤ sp) (h1 : 0 ≤ dp) (h2 : 0 ≤ n) : (z_ws X g D).set dst (X.2.2.2.1 + dst, .inl ((if bz = true then X.2.2.1 else X.2.1), n1, .inl (va_cpy (fun j => Int32.ofInt (D src j)) (fun j => Int32.ofInt (D dst j)) sp.toNat dp.toNat n.toNat))) = z_ws X g (zCp D src sp dst dp n) := by
  apply List.ext_getElem?
  intro i
  rw [List.getElem?_set]
  by_cases hi : i < g.1
  · by_cases ho : dst = i
    · subst ho
      rw [if_pos rfl, z_ws_get hi, if_pos (by simpa [z_ws] using hi), hs]
      congr 2
      show Sum.inl (_, n1, Sum.inl _) = Sum.inl (_, n1, Sum.inl _)
      congr 3
      congr 1
      funext j
      unfold va_cpy zCp
      by_cases hj : dp.toNat ≤ j ∧ j < dp.toNat + n.toNat
      · have e : ((sp.toNat + (j - dp.toNat) : Nat) : Int) = sp + ((j : Int) - dp) := by omega
        rw [if_pos hj, if_pos ⟨rfl, by omega, by omega⟩]
        show Int32.ofInt (D src ((sp.toNat + (j - dp.toNat) : Nat) : Int)) = _
        rw [e]
      · rw [if_neg hj, if_neg (fun w => hj ⟨by omega, by omega⟩)]
    · rw [if_neg ho, z_ws_get hi, z_ws_get hi]
      have : zCp D src sp dst dp n i = D i := by
        funext j
        unfold zCp
        rw [if_neg (fun w => ho w.1.symm)]
      rw [this]
  · have e1 : (z_ws X g D)[i]? = none := by simp [z_ws]; omega
    have e2 : (z_ws X g (zCp D src sp dst dp n))[i]? = none := by simp [z_ws]; omega
    rw [e1, e2]
    split
    · rename_i ho
      subst ho
      rw [if_neg (by simpa [z_ws] using hi)]
    · rfl
theorem z_in_cp {g : Gm} {D : Mem} {src dst n0 n1 : Nat} {sp dp n : Int} (hin : z_in g D) (hs : src < g.1) (hd : dst < g.1) (h1 : g.2.2 src = .inr (false, n0)) (h2 : g.2.2 dst = .inr (false, n1)) (h3 : 0 ≤ sp) (h4 : sp + n ≤ n0) : z_in g (zCp D src sp dst dp n) := by
  intro q hq
  have hD := hin q hq
  by_cases e : q = dst
  · subst e
    rw [h2] at hD ⊢
    intro j hj
    refine ⟨?_, fun w => by cases w⟩
    unfold zCp
    split
    · rename_i hc
      exact z_arr_ok hin hs h1 (by omega) (by omega)
    · exact (hD j hj).1
  · have : zCp D src sp dst dp n q = D q := by
      funext j
      unfold zCp
      rw [if_neg (fun w => e w.1)]
    rw [this]
    exact hD
theorem S_acopy {idx : Nat} (hd : decode (mC M) pc = .ok (.invokestatic idx, 3)) (hl : Cond.methodLink (mY M).cls idx arraycopyName ∈ z_tb) (hnat : Cond.native arraycopyName ∈ z_tb) (hs : Cond.static arraycopyName ∈ z_tb) (hi : Cond.initialized "java/lang/System" ∈ z_tb) (hF : 1 ≤ mF M) (hL : 8 + (nativeFrameWords "java/lang/System" "arraycopy" 5 + 11) ≤ mL M) (k : z_Snd M E (pc + 3) K) : z_Snd M E pc (w_acopy K) := by
  intro ls st g D hw X p l e R s m args below meth c Z b H locs cells slots arr n0 s0 hr hc hrel hlv hol hos
  obtain ⟨n, t, rfl, hA⟩ := pI_e hw
  obtain ⟨dp, t2, rfl, hB⟩ := pI_e hA
  obtain ⟨dst, t3, rfl, hC⟩ := pA_e hB
  obtain ⟨sp, t4, rfl, h5⟩ := pI_e hC
  obtain ⟨src, t5, rfl, hcs, ⟨ha0, m0, hm0, hs0⟩, ⟨ha1, m1, hm1, hs1⟩, hn, hsp, hdp, hb0, hb1, hfin⟩ := pA_e h5
  rw [zn_of hs0] at hb0
  rw [zn_of hs1] at hb1
  have on := z_oks_h hos
  have odp := z_oks_h (z_oks_t hos)
  have osp := z_oks_h (z_oks_t (z_oks_t (z_oks_t hos)))
  have hot := z_oks_t (z_oks_t (z_oks_t (z_oks_t (z_oks_t hos))))
  have hroom := hr.2.2.2.2.2.2.2.1
  have e0 := z_clamp on hn
  have e1 := z_clamp osp hsp
  have e2 := z_clamp odp hdp
  have ng : ∀ {x : Int}, zR x → 0 ≤ x → ¬ Int32.ofInt x < 0 := fun hx h0 q => by
    have := (zR_lt hx zR_0).mp q
    omega
  refine va_copyi (D := X.1) (cl := clsL) (ws := z_ws X g D) (ty := .int) hr.1 hr.2.1 (by rw [hr.2.2.1]; exact hlv.1.symm) hr.2.2.2.1 (hr.2.2.2.2.1 _ hl) (hr.2.2.2.2.1 _ hnat) (hr.2.2.2.2.1 _ hs) (hr.2.2.2.2.1 _ hi) hr.2.2.2.2.2.1.1 hrel.1 z_D hrel.2.1 src dst 0 0 (z_ws_arr ha0 hs0) (z_ws_arr ha1 hs1) rfl rfl rfl (ng osp hsp) (ng odp hdp) (ng on hn) (by rw [e0, e1]; omega) (by rw [e0, e2]; omega) (fun _ _ => rfl) (by omega) (by rw [cS_e]; omega) hd (fun H1 locs1 hP1 hD1 hS1 => ?_)
  rw [e0, e1, e2] at hP1
  have e : (z_ws X g D).set dst (X.2.2.2.1 + dst, .inl ((if false = true then X.2.2.1 else X.2.1), m1, .inl (va_cpy (fun j => Int32.ofInt (D src j)) (fun j => Int32.ofInt (D dst j)) sp.toNat dp.toNat n.toNat))) = z_ws X g (zCp D src sp dst dp n) := z_ws_cp hs1 ha1 hsp hdp hn
  rw [e] at hP1
  exact k _ _ _ _ hfin hr hc ⟨hP1, hS1, z_in_cp hrel.2.2 ha0 ha1 hs0 hs1 hsp hb0⟩ hlv hol hot
-- the script
def w_sld (E : En) (K : WP) : WP := fun ls st g D => pI st fun i t => pM t fun k t2 => k = 2 ∧ 0 ≤ i ∧ i + 1 < E.2.1.1 ∧ K ls (zi (E.2.1.2 i.toNat) :: t2) g D
def w_slen (E : En) (K : WP) : WP := fun ls st g D => pM st fun k t2 => k = 2 ∧ 0 < E.2.1.1 ∧ K ls (zi ((E.2.1.1 - 1 : Nat) : Int) :: t2) g D
theorem S_sld (hd : decode (mC M) pc = .ok (.iaload, 1)) (k : z_Snd M E (pc + 1) K) : z_Snd M E pc (w_sld E K) := by
  intro ls st g D hw X p l e R s m args below meth c Z b H locs cells slots arr n0 s0 hr hc hrel hlv hol hos
  obtain ⟨i, t, rfl, hw⟩ := pI_e hw
  obtain ⟨kk, t2, rfl, rfl, h0, h1, hw⟩ := pM_e hw
  have hi := z_oks_h hos
  rcases hr.2.2.2.2.2.2.2.2.2.1 with q | ⟨hX, hbl, hbN, hsm, hxs⟩
  · omega
  · refine va_sld hr.1 hr.2.1 hX hbl (A := z_A X) (fun q => by have q' : X.2.2.2.1 ≤ b := q; omega) hrel.2.1 (i := Int32.ofInt i) (z_vpin hi h0 (by omega)) hd ?_
    rw [z_clamp hi h0]
    exact k _ _ _ _ hw hr hc hrel hlv hol (z_oks_c (hxs _) (z_oks_t (z_oks_t hos)))
theorem S_slen (hd : decode (mC M) pc = .ok (.arraylength, 1)) (k : z_Snd M E (pc + 1) K) : z_Snd M E pc (w_slen E K) := by
  intro ls st g D hw X p l e R s m args below meth c Z b H locs cells slots arr n0 s0 hr hc hrel hlv hol hos
  obtain ⟨kk, t2, rfl, rfl, h0, hw⟩ := pM_e hw
  rcases hr.2.2.2.2.2.2.2.2.2.1 with q | ⟨hX, hbl, hbN, hsm, hxs⟩
  · omega
  · refine va_slen hr.1 hr.2.1 hX hbl (A := z_A X) (fun q => by have q' : X.2.2.2.1 ≤ b := q; omega) hrel.2.1 hd ?_
    have := k _ _ _ _ hw hr hc hrel hlv hol (z_oks_c (show zR ((E.2.1.1 - 1 : Nat) : Int) from ⟨by omega, by omega⟩) (z_oks_t hos))
    rw [List.map_cons] at this
    have e : z_conc X b (zi ((E.2.1.1 - 1 : Nat) : Int)) = .int (Int32.ofNat (E.2.1.1 - 1)) := by
      show Value.int (Int32.ofInt _) = _
      rw [Int32.ofInt_eq_ofNat]
    rw [e] at this
    first
      | exact this
      | (rw [show nI (E.2.1.1 - 1) = Int32.ofNat (E.2.1.1 - 1) from rfl]; exact this)
-- texts
def w_sval (K : WP) : WP := fun ls st g D => pS st fun i t => K ls (zm (4 + i) :: t) g D
def w_scod (K : WP) : WP := fun ls st g D => pS st fun _ t => K ls (zi 0 :: t) g D
def w_blen (K : WP) : WP := fun ls st g D => pM st fun k t => 4 ≤ k ∧ k < 11 ∧ K ls (zi ((zsl.getD (k - 4) 0 : Nat) : Int) :: t) g D
def w_bld (K : WP) : WP := fun ls st g D => pI st fun j t => pM t fun k t2 => 4 ≤ k ∧ k < 11 ∧ 0 ≤ j ∧ j < ((zsl.getD (k - 4) 0 : Nat) : Int) ∧ K ls (zi ((zsb.getD (k - 4) []).getD j.toNat 0).toInt :: t2) g D
def w_gs1 (K : WP) : WP := fun ls st g D => K ls (zi 1 :: st) g D
def w_gsf (K : WP) : WP := fun ls st g D => K ls (zm 11 :: st) g D
def w_i2c (K : WP) : WP := fun ls st g D => pI st fun x t => 0 ≤ x ∧ x < 256 ∧ K ls (zi x :: t) g D
def w_nret (ty : FieldType) (E : En) : WP := fun _ st g D => pI st fun x t => t = [] ∧ g.1 = E.1.1 ∧ g.2.1 = E.1.2 ∧ narrow ty (.int (Int32.ofInt x)) = .int (Int32.ofInt x) ∧ E.2.2 x g D
def w_no : WP := fun _ _ _ _ => False
theorem S_no : z_Snd M E pc w_no := fun _ _ _ _ h => h.elim
theorem z_c4 {X : Xe} {b i : Nat} : z_conc X b (zm (4 + i)) = .ref (X.2.2.2.2.2 i) := by
  show (if 4 + i = 2 then Value.ref b else if 4 ≤ 4 + i then .ref (X.2.2.2.2.2 (4 + i - 4)) else .null) = _
  rw [if_neg (by omega), if_pos (by omega), Nat.add_sub_cancel_left]
theorem S_sval {idx : Nat} (hd : decode (mC M) pc = .ok (.getfield idx, 3)) (hl : Cond.fieldLink (mY M).cls idx "java/lang/String" "value" "[B" ∈ z_tb) (k : z_Snd M E (pc + 3) K) : z_Snd M E pc (w_sval K) := by
  intro ls st g D hw X p l e R s m args below meth c Z b H locs cells slots arr n0 s0 hr hc hrel hlv hol hos
  obtain ⟨i, t, rfl, hw⟩ := pS_e hw
  have hi : i < 7 := z_oks_h hos
  refine vk_getf hr.1 hr.2.1 (hr.2.2.2.2.2.1.2.1.1 i hi).2.2.1 hrel.2.1 hr.2.2.2.1 (hr.2.2.2.2.1 _ hl) (fun _ q => q) hd ?_
  have h9 := k _ _ _ _ hw hr hc hrel hlv hol (z_oks_c trivial (z_oks_t hos))
  rw [List.map_cons, z_c4] at h9
  exact h9
theorem S_scod {idx : Nat} (hd : decode (mC M) pc = .ok (.getfield idx, 3)) (hl : Cond.fieldLink (mY M).cls idx "java/lang/String" "coder" "B" ∈ z_tb) (k : z_Snd M E (pc + 3) K) : z_Snd M E pc (w_scod K) := by
  intro ls st g D hw X p l e R s m args below meth c Z b H locs cells slots arr n0 s0 hr hc hrel hlv hol hos
  obtain ⟨i, t, rfl, hw⟩ := pS_e hw
  have hi : i < 7 := z_oks_h hos
  refine vk_getf hr.1 hr.2.1 (hr.2.2.2.2.2.1.2.1.1 i hi).2.1 hrel.2.1 hr.2.2.2.1 (hr.2.2.2.2.1 _ hl) (fun _ q => q) hd ?_
  exact k _ _ _ _ hw hr hc hrel hlv hol (z_oks_c zR_0 (z_oks_t hos))
theorem S_blen (hd : decode (mC M) pc = .ok (.arraylength, 1)) (k : z_Snd M E (pc + 1) K) : z_Snd M E pc (w_blen K) := by
  intro ls st g D hw X p l e R s m args below meth c Z b H locs cells slots arr n0 s0 hr hc hrel hlv hol hos
  obtain ⟨q, t, rfl, h0, h1, hw⟩ := pM_e hw
  obtain ⟨i, rfl⟩ : ∃ i, q = 4 + i := ⟨q - 4, by omega⟩
  have hi : i < 7 := by omega
  rw [Nat.add_sub_cancel_left] at hw
  rw [List.map_cons, z_c4]
  have hz : zsl.getD i 0 < 100 := (by decide : ∀ i, i < 7 → zsl.getD i 0 < 100) i hi
  refine va_tlen hr.1 hr.2.1 (hr.2.2.2.2.2.1.2.1.1 i hi).2.2.2 hrel.2.1 (v := Int32.ofInt ((zsl.getD i 0 : Nat) : Int)) Int32.ofInt_eq_ofNat.symm hd ?_
  exact k _ _ _ _ hw hr hc hrel hlv hol (z_oks_c (show zR ((zsl.getD i 0 : Nat) : Int) from ⟨by omega, by omega⟩) (z_oks_t hos))
theorem S_bld (hd : decode (mC M) pc = .ok (.baload, 1)) (k : z_Snd M E (pc + 1) K) : z_Snd M E pc (w_bld K) := by
  intro ls st g D hw X p l e R s m args below meth c Z b H locs cells slots arr n0 s0 hr hc hrel hlv hol hos
  obtain ⟨j, t, rfl, hw⟩ := pI_e hw
  obtain ⟨q, t2, rfl, h0, h1, h2, h3, hw⟩ := pM_e hw
  obtain ⟨i, rfl⟩ : ∃ i, q = 4 + i := ⟨q - 4, by omega⟩
  have hi : i < 7 := by omega
  rw [Nat.add_sub_cancel_left] at hw h3
  have hj := z_oks_h hos
  rw [List.map_cons, List.map_cons, z_c4]
  refine va_tb hr.1 hr.2.1 (hr.2.2.2.2.2.1.2.1.1 i hi).2.2.2 hrel.2.1 (i := Int32.ofInt j) (z_vpin hj h2 h3) (v := .int ((zsb.getD i []).getD j.toNat 0)) (by rw [z_clamp hj h2]) hd ?_
  have h9 := k _ _ _ _ hw hr hc hrel hlv hol (z_oks_c (z_toR _) (z_oks_t (z_oks_t hos)))
  rw [List.map_cons] at h9
  have e : z_conc X b (zi ((zsb.getD i []).getD j.toNat 0).toInt) = .int ((zsb.getD i []).getD j.toNat 0) := by
    show Value.int (Int32.ofInt _) = _
    rw [Int32.ofInt_toInt]
  rw [e] at h9
  exact h9
theorem S_gs1 {idx : Nat} (hd : decode (mC M) pc = .ok (.getstatic idx, 3)) (hl : Cond.fieldLink (mY M).cls idx "java/lang/String" "COMPACT_STRINGS" "Z" ∈ z_tb) (k : z_Snd M E (pc + 3) K) : z_Snd M E pc (w_gs1 K) := by
  intro ls st g D hw X p l e R s m args below meth c Z b H locs cells slots arr n0 s0 hr hc hrel hlv hol hos
  refine va_gets hr.1 hr.2.1 hr.2.2.2.2.2.1.2.2.2.1 hrel.2.1 hr.2.2.2.1 (hr.2.2.2.2.1 _ hl) (fun _ q => q) hd ?_
  exact k _ _ _ _ hw hr hc hrel hlv hol (z_oks_c zR_1 hos)
theorem S_gsf {idx : Nat} (hd : decode (mC M) pc = .ok (.getstatic idx, 3)) (hl : Cond.fieldLink (mY M).cls idx "jdk/internal/util/Preconditions" "SIOOBE_FORMATTER" "Ljava/util/function/BiFunction;" ∈ z_tb) (k : z_Snd M E (pc + 3) K) : z_Snd M E pc (w_gsf K) := by
  intro ls st g D hw X p l e R s m args below meth c Z b H locs cells slots arr n0 s0 hr hc hrel hlv hol hos
  refine va_gets hr.1 hr.2.1 hr.2.2.2.2.2.1.2.2.2.2.1 hrel.2.1 hr.2.2.2.1 (hr.2.2.2.2.1 _ hl) (fun _ q => q) hd ?_
  exact k _ _ _ _ hw hr hc hrel hlv hol (z_oks_c trivial hos)
theorem z_i2c : ∀ n : Nat, n < 256 → ((Int32.ofInt (n : Int)).toUInt32 % 65536).toInt32 = Int32.ofInt (n : Int) := by decide +kernel
theorem S_i2c (hd : decode (mC M) pc = .ok (.i2c, 1)) (k : z_Snd M E (pc + 1) K) : z_Snd M E pc (w_i2c K) := by
  intro ls st g D hw X p l e R s m args below meth c Z b H locs cells slots arr n0 s0 hr hc hrel hlv hol hos
  obtain ⟨x, t, rfl, h0, h1, hw⟩ := pI_e hw
  have e := z_i2c x.toNat (by omega)
  rw [Int.toNat_of_nonneg h0] at e
  refine lv_i2c hr.1 hr.2.1 hd e ?_
  exact k _ _ _ _ hw hr hc hrel hlv hol hos
theorem S_nret {ty : FieldType} (hd : decode (mC M) pc = .ok (.ireturn, 1)) (ht : mR M = some ty) (hty : ty = .byte ∨ ty = .char) : z_Snd M E pc (w_nret ty E) := by
  intro ls st g D hw X p l e R s m args below meth c Z b H locs cells slots arr n0 s0 hr hc hrel hlv hol hos
  obtain ⟨x, t, rfl, rfl, h1, h2, h0, hw⟩ := pI_e hw
  have h9 := z_fin (x := x) (pc := pc) (arr := arr) hr hc hrel h1 h2 (by rw [ht]; rcases hty with rfl | rfl <;> exact ⟨z_oks_h hos, h0⟩) hw (by rw [ht]; rcases hty with rfl | rfl <;> exact hd)
  rw [ht] at h9
  rcases hty with rfl | rfl <;> exact h9
end Calls
end
section
/-! ===== 07: what a program decides of classes, methods and links (laid by program) ===== -/
theorem z_w1 {w : Cond} (i : Nat) (h : tables_1_1[i]? = some w) (hg : goodWord w = true) : w ∈ z_tb := List.mem_filter.mpr ⟨List.mem_append_right _ ((List.mem_append_left _ (List.mem_of_getElem? h))), hg⟩
theorem z_w2 {w : Cond} (i : Nat) (h : tables_1_2[i]? = some w) (hg : goodWord w = true) : w ∈ z_tb := List.mem_filter.mpr ⟨List.mem_append_right _ (List.mem_append_right _ <| (List.mem_append_left _ (List.mem_of_getElem? h))), hg⟩
theorem z_w3 {w : Cond} (i : Nat) (h : tables_1_3[i]? = some w) (hg : goodWord w = true) : w ∈ z_tb := List.mem_filter.mpr ⟨List.mem_append_right _ (List.mem_append_right _ <| List.mem_append_right _ <| (List.mem_append_left _ (List.mem_of_getElem? h))), hg⟩
theorem z_w4 {w : Cond} (i : Nat) (h : tables_1_4[i]? = some w) (hg : goodWord w = true) : w ∈ z_tb := List.mem_filter.mpr ⟨List.mem_append_right _ (List.mem_append_right _ <| List.mem_append_right _ <| List.mem_append_right _ <| (List.mem_append_left _ (List.mem_of_getElem? h))), hg⟩
theorem z_w5 {w : Cond} (i : Nat) (h : tables_1_5[i]? = some w) (hg : goodWord w = true) : w ∈ z_tb := List.mem_filter.mpr ⟨List.mem_append_right _ (List.mem_append_right _ <| List.mem_append_right _ <| List.mem_append_right _ <| List.mem_append_right _ <| (List.mem_append_left _ (List.mem_of_getElem? h))), hg⟩
theorem z_w6 {w : Cond} (i : Nat) (h : tables_1_6[i]? = some w) (hg : goodWord w = true) : w ∈ z_tb := List.mem_filter.mpr ⟨List.mem_append_right _ (List.mem_append_right _ <| List.mem_append_right _ <| List.mem_append_right _ <| List.mem_append_right _ <| List.mem_append_right _ <| (List.mem_of_getElem? h)), hg⟩
theorem z_wp1 {q : MethodName × Nat} (i : Nat) (h0 : lw_privs_1[i]? = some q) : Cond.selects q.1.cls q.1 q.1 ∈ z_tb := List.mem_filter.mpr ⟨List.mem_append_left _ (List.mem_map.mpr ⟨q, (List.mem_append_left _ (List.mem_of_getElem? h0)), rfl⟩), rfl⟩
theorem z_wp2 {q : MethodName × Nat} (i : Nat) (h0 : lw_privs_2[i]? = some q) : Cond.selects q.1.cls q.1 q.1 ∈ z_tb := List.mem_filter.mpr ⟨List.mem_append_left _ (List.mem_map.mpr ⟨q, List.mem_append_right _ <| (List.mem_append_left _ (List.mem_of_getElem? h0)), rfl⟩), rfl⟩
theorem z_wp3 {q : MethodName × Nat} (i : Nat) (h0 : lw_privs_3[i]? = some q) : Cond.selects q.1.cls q.1 q.1 ∈ z_tb := List.mem_filter.mpr ⟨List.mem_append_left _ (List.mem_map.mpr ⟨q, List.mem_append_right _ <| List.mem_append_right _ <| (List.mem_append_left _ (List.mem_of_getElem? h0)), rfl⟩), rfl⟩
theorem z_wp4 {q : MethodName × Nat} (i : Nat) (h0 : lw_privs_4[i]? = some q) : Cond.selects q.1.cls q.1 q.1 ∈ z_tb := List.mem_filter.mpr ⟨List.mem_append_left _ (List.mem_map.mpr ⟨q, List.mem_append_right _ <| List.mem_append_right _ <| List.mem_append_right _ <| (List.mem_append_left _ (List.mem_of_getElem? h0)), rfl⟩), rfl⟩
theorem z_wp5 {q : MethodName × Nat} (i : Nat) (h0 : lw_privs_5[i]? = some q) : Cond.selects q.1.cls q.1 q.1 ∈ z_tb := List.mem_filter.mpr ⟨List.mem_append_left _ (List.mem_map.mpr ⟨q, List.mem_append_right _ <| List.mem_append_right _ <| List.mem_append_right _ <| List.mem_append_right _ <| (List.mem_append_left _ (List.mem_of_getElem? h0)), rfl⟩), rfl⟩
theorem z_wp6 {q : MethodName × Nat} (i : Nat) (h0 : lw_privs_6[i]? = some q) : Cond.selects q.1.cls q.1 q.1 ∈ z_tb := List.mem_filter.mpr ⟨List.mem_append_left _ (List.mem_map.mpr ⟨q, List.mem_append_right _ <| List.mem_append_right _ <| List.mem_append_right _ <| List.mem_append_right _ <| List.mem_append_right _ <| (List.mem_of_getElem? h0), rfl⟩), rfl⟩
theorem z_wp_eq {a b : Cond} (h : a ∈ z_tb) (e : a = b) : b ∈ z_tb := e ▸ h
theorem z_nwl {ks : List Kd} {ty : Nat → FieldType} {N : Nat} (h : (List.range N).all (fun j => match ks[j]? with | some (.inr q) => decide (defaultValue (ty j) = (if q = 2 then Value.long 0 else if q = 3 then .null else .int 0)) | _ => false) = true) : ∀ X : Xe, ∀ j, j < N → defaultValue (ty j) = vp_V (ks.mapIdx (fun j kd => z_fv X (fun _ => 0) j kd)) j := by
  intro X j hj
  have h1 := List.all_eq_true.mp h j (List.mem_range.mpr hj)
  cases hk : ks[j]? with
  | none => rw [hk] at h1; cases h1
  | some kd =>
    rw [hk] at h1
    rcases kd with t | q
    · cases h1
    · have h2 := of_decide_eq_true h1
      rw [h2]
      unfold vp_V
      rw [List.getD_eq_getElem?_getD, List.getElem?_mapIdx, hk]
      rfl
theorem cw_X0 : ∀ w ∈ u_ws RX0 TX0 9, w ∈ z_tb := by
  intro w hw
  obtain ⟨j, hj, rfl⟩ := List.mem_map.mp hw
  have hj := List.mem_range.mp hj
  match j, hj with
  | 0, _ => exact z_w1 103 (by decide +kernel) (by decide +kernel)
  | 1, _ => exact z_w1 105 (by decide +kernel) (by decide +kernel)
  | 2, _ => exact z_w1 107 (by decide +kernel) (by decide +kernel)
  | 3, _ => exact z_w1 109 (by decide +kernel) (by decide +kernel)
  | 4, _ => exact z_w1 111 (by decide +kernel) (by decide +kernel)
  | 5, _ => exact z_w1 113 (by decide +kernel) (by decide +kernel)
  | 6, _ => exact z_w1 115 (by decide +kernel) (by decide +kernel)
  | 7, _ => exact z_w1 117 (by decide +kernel) (by decide +kernel)
  | 8, _ => exact z_w1 119 (by decide +kernel) (by decide +kernel)
  | n + 9, h => exact absurd h (by omega)
theorem cw_X1 : ∀ w ∈ u_ws RX1 TX1 6, w ∈ z_tb := by
  intro w hw
  obtain ⟨j, hj, rfl⟩ := List.mem_map.mp hw
  have hj := List.mem_range.mp hj
  match j, hj with
  | 0, _ => exact z_w1 136 (by decide +kernel) (by decide +kernel)
  | 1, _ => exact z_w1 138 (by decide +kernel) (by decide +kernel)
  | 2, _ => exact z_w1 140 (by decide +kernel) (by decide +kernel)
  | 3, _ => exact z_w1 142 (by decide +kernel) (by decide +kernel)
  | 4, _ => exact z_w1 144 (by decide +kernel) (by decide +kernel)
  | 5, _ => exact z_w1 146 (by decide +kernel) (by decide +kernel)
  | n + 6, h => exact absurd h (by omega)
theorem cw_X2 : ∀ w ∈ u_ws RX2 TX2 1, w ∈ z_tb := by
  intro w hw
  obtain ⟨j, hj, rfl⟩ := List.mem_map.mp hw
  have hj := List.mem_range.mp hj
  match j, hj with
  | 0, _ => exact z_w1 45 (by decide +kernel) (by decide +kernel)
  | n + 1, h => exact absurd h (by omega)
theorem cw_X3 : ∀ w ∈ u_ws RX3 TX3 4, w ∈ z_tb := by
  intro w hw
  obtain ⟨j, hj, rfl⟩ := List.mem_map.mp hw
  have hj := List.mem_range.mp hj
  match j, hj with
  | 0, _ => exact z_w1 53 (by decide +kernel) (by decide +kernel)
  | 1, _ => exact z_w1 55 (by decide +kernel) (by decide +kernel)
  | 2, _ => exact z_w1 57 (by decide +kernel) (by decide +kernel)
  | 3, _ => exact z_w1 59 (by decide +kernel) (by decide +kernel)
  | n + 4, h => exact absurd h (by omega)
theorem cw_X4 : ∀ w ∈ u_ws RX4 TX4 4, w ∈ z_tb := by
  intro w hw
  obtain ⟨j, hj, rfl⟩ := List.mem_map.mp hw
  have hj := List.mem_range.mp hj
  match j, hj with
  | 0, _ => exact z_w1 74 (by decide +kernel) (by decide +kernel)
  | 1, _ => exact z_w1 76 (by decide +kernel) (by decide +kernel)
  | 2, _ => exact z_w1 78 (by decide +kernel) (by decide +kernel)
  | 3, _ => exact z_w1 80 (by decide +kernel) (by decide +kernel)
  | n + 4, h => exact absurd h (by omega)
theorem cw_X5 : ∀ w ∈ u_ws RX5 TX5 15, w ∈ z_tb := by
  intro w hw
  obtain ⟨j, hj, rfl⟩ := List.mem_map.mp hw
  have hj := List.mem_range.mp hj
  match j, hj with
  | 0, _ => exact z_w1 166 (by decide +kernel) (by decide +kernel)
  | 1, _ => exact z_w1 168 (by decide +kernel) (by decide +kernel)
  | 2, _ => exact z_w1 170 (by decide +kernel) (by decide +kernel)
  | 3, _ => exact z_w1 172 (by decide +kernel) (by decide +kernel)
  | 4, _ => exact z_w1 174 (by decide +kernel) (by decide +kernel)
  | 5, _ => exact z_w1 176 (by decide +kernel) (by decide +kernel)
  | 6, _ => exact z_w1 178 (by decide +kernel) (by decide +kernel)
  | 7, _ => exact z_w1 180 (by decide +kernel) (by decide +kernel)
  | 8, _ => exact z_w1 182 (by decide +kernel) (by decide +kernel)
  | 9, _ => exact z_w1 184 (by decide +kernel) (by decide +kernel)
  | 10, _ => exact z_w1 186 (by decide +kernel) (by decide +kernel)
  | 11, _ => exact z_w1 188 (by decide +kernel) (by decide +kernel)
  | 12, _ => exact z_w1 190 (by decide +kernel) (by decide +kernel)
  | 13, _ => exact z_w1 192 (by decide +kernel) (by decide +kernel)
  | 14, _ => exact z_w1 194 (by decide +kernel) (by decide +kernel)
  | n + 15, h => exact absurd h (by omega)
theorem cw_X6 : ∀ w ∈ u_ws RX6 TX6 21, w ∈ z_tb := by
  intro w hw
  obtain ⟨j, hj, rfl⟩ := List.mem_map.mp hw
  have hj := List.mem_range.mp hj
  match j, hj with
  | 0, _ => exact z_w4 155 (by decide +kernel) (by decide +kernel)
  | 1, _ => exact z_w4 157 (by decide +kernel) (by decide +kernel)
  | 2, _ => exact z_w4 159 (by decide +kernel) (by decide +kernel)
  | 3, _ => exact z_w4 161 (by decide +kernel) (by decide +kernel)
  | 4, _ => exact z_w4 163 (by decide +kernel) (by decide +kernel)
  | 5, _ => exact z_w4 165 (by decide +kernel) (by decide +kernel)
  | 6, _ => exact z_w4 167 (by decide +kernel) (by decide +kernel)
  | 7, _ => exact z_w4 169 (by decide +kernel) (by decide +kernel)
  | 8, _ => exact z_w4 171 (by decide +kernel) (by decide +kernel)
  | 9, _ => exact z_w4 173 (by decide +kernel) (by decide +kernel)
  | 10, _ => exact z_w4 175 (by decide +kernel) (by decide +kernel)
  | 11, _ => exact z_w4 177 (by decide +kernel) (by decide +kernel)
  | 12, _ => exact z_w4 179 (by decide +kernel) (by decide +kernel)
  | 13, _ => exact z_w4 181 (by decide +kernel) (by decide +kernel)
  | 14, _ => exact z_w4 183 (by decide +kernel) (by decide +kernel)
  | 15, _ => exact z_w4 185 (by decide +kernel) (by decide +kernel)
  | 16, _ => exact z_w4 187 (by decide +kernel) (by decide +kernel)
  | 17, _ => exact z_w4 189 (by decide +kernel) (by decide +kernel)
  | 18, _ => exact z_w4 191 (by decide +kernel) (by decide +kernel)
  | 19, _ => exact z_w4 193 (by decide +kernel) (by decide +kernel)
  | 20, _ => exact z_w4 195 (by decide +kernel) (by decide +kernel)
  | n + 21, h => exact absurd h (by omega)
def kd0_of : List (List Kd) := []
def kd0_X0 : List Kd := [.inr 3, .inr 3, .inr 3, .inr 3, .inr 3, .inr 3, .inr 3, .inr 3, .inr 0]
def kd0_X1 : List Kd := [.inr 3, .inr 0, .inr 0, .inr 0, .inr 0, .inr 0]
def kd0_X2 : List Kd := [.inr 3]
def kd0_X3 : List Kd := [.inr 0, .inr 0, .inr 3, .inr 0]
def kd0_X4 : List Kd := [.inr 3, .inr 3, .inr 0, .inr 0]
def kd0_X5 : List Kd := [.inr 3, .inr 3, .inr 3, .inr 3, .inr 1, .inr 1, .inr 3, .inr 3, .inr 2, .inr 2, .inr 3, .inr 3, .inr 3, .inr 3, .inr 3]
def kd0_X6 : List Kd := [.inr 3, .inr 3, .inr 3, .inr 0, .inr 2, .inr 2, .inr 3, .inr 0, .inr 0, .inr 0, .inr 3, .inr 3, .inr 3, .inr 3, .inr 3, .inr 0, .inr 3, .inr 3, .inr 3, .inr 3, .inr 2]
theorem ac_int : Cond.arrayClass .int ∈ z_tb := z_w1 48 (by decide +kernel) (by decide +kernel)
theorem ac_bool : Cond.arrayClass .boolean ∈ z_tb := z_w4 198 (by decide +kernel) (by decide +kernel)
def miX5_init : MI := (yX5_init, cX5_init, 1, none, 4, 86)
theorem mk_X5_init : z_MI miX5_init := ⟨by decide +kernel, z_w1 19 (by decide +kernel) (by decide +kernel), z_w1 1 (by decide +kernel) (by decide +kernel), by decide +kernel, by decide +kernel⟩
theorem np_X5_init : z_np miX5_init 0 := by unfold z_np; decide +kernel
theorem im_X5_init : Cond.instanceMethod (mY miX5_init) ∈ z_tb := z_w1 18 (by decide +kernel) (by decide +kernel)
def miX5_back : MI := (yX5_back, cX5_back, 2, some .int, 2, 41)
theorem mk_X5_back : z_MI miX5_back := ⟨by decide +kernel, z_w1 200 (by decide +kernel) (by decide +kernel), z_w1 1 (by decide +kernel) (by decide +kernel), by decide +kernel, by decide +kernel⟩
theorem np_X5_back : z_np miX5_back 0 := by unfold z_np; decide +kernel
theorem im_X5_back : Cond.instanceMethod (mY miX5_back) ∈ z_tb := z_w1 198 (by decide +kernel) (by decide +kernel)
theorem se_X5_back : Cond.selects (mY miX5_back).cls (mY miX5_back) (mY miX5_back) ∈ z_tb := z_w1 199 (by decide +kernel) (by decide +kernel)
def miX5_ladder : MI := (yX5_ladder, cX5_ladder, 2, some .int, 4, 92)
theorem mk_X5_ladder : z_MI miX5_ladder := ⟨by decide +kernel, z_w1 216 (by decide +kernel) (by decide +kernel), z_w1 1 (by decide +kernel) (by decide +kernel), by decide +kernel, by decide +kernel⟩
theorem np_X5_ladder : z_np miX5_ladder 1 := by unfold z_np; decide +kernel
theorem im_X5_ladder : Cond.instanceMethod (mY miX5_ladder) ∈ z_tb := z_w1 214 (by decide +kernel) (by decide +kernel)
theorem se_X5_ladder : Cond.selects (mY miX5_ladder).cls (mY miX5_ladder) (mY miX5_ladder) ∈ z_tb := z_w1 215 (by decide +kernel) (by decide +kernel)
def miX5_goer : MI := (yX5_goer, cX5_goer, 4, some .int, 4, 94)
theorem mk_X5_goer : z_MI miX5_goer := ⟨by decide +kernel, z_w2 36 (by decide +kernel) (by decide +kernel), z_w1 1 (by decide +kernel) (by decide +kernel), by decide +kernel, by decide +kernel⟩
theorem np_X5_goer : z_np miX5_goer 3 := by unfold z_np; decide +kernel
theorem im_X5_goer : Cond.instanceMethod (mY miX5_goer) ∈ z_tb := z_w2 34 (by decide +kernel) (by decide +kernel)
theorem se_X5_goer : Cond.selects (mY miX5_goer).cls (mY miX5_goer) (mY miX5_goer) ∈ z_tb := z_w2 35 (by decide +kernel) (by decide +kernel)
def miX5_window : MI := (yX5_window, cX5_window, 3, some .int, 4, 93)
theorem mk_X5_window : z_MI miX5_window := ⟨by decide +kernel, z_w2 47 (by decide +kernel) (by decide +kernel), z_w1 1 (by decide +kernel) (by decide +kernel), by decide +kernel, by decide +kernel⟩
theorem np_X5_window : z_np miX5_window 2 := by unfold z_np; decide +kernel
theorem im_X5_window : Cond.instanceMethod (mY miX5_window) ∈ z_tb := z_w2 45 (by decide +kernel) (by decide +kernel)
theorem se_X5_window : Cond.selects (mY miX5_window).cls (mY miX5_window) (mY miX5_window) ∈ z_tb := z_w2 46 (by decide +kernel) (by decide +kernel)
def miX5_type : MI := (yX5_type, cX5_type, 2, some .int, 3, 63)
theorem mk_X5_type : z_MI miX5_type := ⟨by decide +kernel, z_w2 55 (by decide +kernel) (by decide +kernel), z_w1 1 (by decide +kernel) (by decide +kernel), by decide +kernel, by decide +kernel⟩
theorem np_X5_type : z_np miX5_type 1 := by unfold z_np; decide +kernel
theorem im_X5_type : Cond.instanceMethod (mY miX5_type) ∈ z_tb := z_w2 53 (by decide +kernel) (by decide +kernel)
theorem se_X5_type : Cond.selects (mY miX5_type).cls (mY miX5_type) (mY miX5_type) ∈ z_tb := z_w2 54 (by decide +kernel) (by decide +kernel)
def miX5_clear : MI := (yX5_clear, cX5_clear, 1, some .int, 1, 21)
theorem mk_X5_clear : z_MI miX5_clear := ⟨by decide +kernel, z_w2 68 (by decide +kernel) (by decide +kernel), z_w1 1 (by decide +kernel) (by decide +kernel), by decide +kernel, by decide +kernel⟩
theorem np_X5_clear : z_np miX5_clear 0 := by unfold z_np; decide +kernel
theorem im_X5_clear : Cond.instanceMethod (mY miX5_clear) ∈ z_tb := z_w2 66 (by decide +kernel) (by decide +kernel)
theorem se_X5_clear : Cond.selects (mY miX5_clear).cls (mY miX5_clear) (mY miX5_clear) ∈ z_tb := z_w2 67 (by decide +kernel) (by decide +kernel)
def miX5_read : MI := (yX5_read, cX5_read, 2, some .int, 7, 165)
theorem mk_X5_read : z_MI miX5_read := ⟨by decide +kernel, z_w2 76 (by decide +kernel) (by decide +kernel), z_w1 1 (by decide +kernel) (by decide +kernel), by decide +kernel, by decide +kernel⟩
theorem np_X5_read : z_np miX5_read 0 := by unfold z_np; decide +kernel
theorem im_X5_read : Cond.instanceMethod (mY miX5_read) ∈ z_tb := z_w2 74 (by decide +kernel) (by decide +kernel)
theorem se_X5_read : Cond.selects (mY miX5_read).cls (mY miX5_read) (mY miX5_read) ∈ z_tb := z_w2 75 (by decide +kernel) (by decide +kernel)
def miX5_minutes : MI := (yX5_minutes, cX5_minutes, 2, some .int, 4, 100)
theorem mk_X5_minutes : z_MI miX5_minutes := ⟨by decide +kernel, z_w3 12 (by decide +kernel) (by decide +kernel), z_w1 1 (by decide +kernel) (by decide +kernel), by decide +kernel, by decide +kernel⟩
theorem np_X5_minutes : z_np miX5_minutes 1 := by unfold z_np; decide +kernel
theorem im_X5_minutes : Cond.instanceMethod (mY miX5_minutes) ∈ z_tb := z_w3 10 (by decide +kernel) (by decide +kernel)
theorem se_X5_minutes : Cond.selects (mY miX5_minutes).cls (mY miX5_minutes) (mY miX5_minutes) ∈ z_tb := z_w3 11 (by decide +kernel) (by decide +kernel)
def miX5_turns : MI := (yX5_turns, cX5_turns, 2, some .int, 4, 93)
theorem mk_X5_turns : z_MI miX5_turns := ⟨by decide +kernel, z_w3 32 (by decide +kernel) (by decide +kernel), z_w1 1 (by decide +kernel) (by decide +kernel), by decide +kernel, by decide +kernel⟩
theorem np_X5_turns : z_np miX5_turns 1 := by unfold z_np; decide +kernel
theorem im_X5_turns : Cond.instanceMethod (mY miX5_turns) ∈ z_tb := z_w3 30 (by decide +kernel) (by decide +kernel)
theorem se_X5_turns : Cond.selects (mY miX5_turns).cls (mY miX5_turns) (mY miX5_turns) ∈ z_tb := z_w3 31 (by decide +kernel) (by decide +kernel)
def miX5_draws : MI := (yX5_draws, cX5_draws, 2, some .int, 4, 93)
theorem mk_X5_draws : z_MI miX5_draws := ⟨by decide +kernel, z_w3 38 (by decide +kernel) (by decide +kernel), z_w1 1 (by decide +kernel) (by decide +kernel), by decide +kernel, by decide +kernel⟩
theorem np_X5_draws : z_np miX5_draws 1 := by unfold z_np; decide +kernel
theorem im_X5_draws : Cond.instanceMethod (mY miX5_draws) ∈ z_tb := z_w3 36 (by decide +kernel) (by decide +kernel)
theorem se_X5_draws : Cond.selects (mY miX5_draws).cls (mY miX5_draws) (mY miX5_draws) ∈ z_tb := z_w3 37 (by decide +kernel) (by decide +kernel)
def miX5_undo : MI := (yX5_undo, cX5_undo, 1, some .int, 3, 67)
theorem mk_X5_undo : z_MI miX5_undo := ⟨by decide +kernel, z_w3 43 (by decide +kernel) (by decide +kernel), z_w1 1 (by decide +kernel) (by decide +kernel), by decide +kernel, by decide +kernel⟩
theorem np_X5_undo : z_np miX5_undo 0 := by unfold z_np; decide +kernel
theorem im_X5_undo : Cond.instanceMethod (mY miX5_undo) ∈ z_tb := z_w3 41 (by decide +kernel) (by decide +kernel)
theorem se_X5_undo : Cond.selects (mY miX5_undo).cls (mY miX5_undo) (mY miX5_undo) ∈ z_tb := z_w3 42 (by decide +kernel) (by decide +kernel)
def miX5_of : MI := (yX5_of, cX5_of, 3, some .int, 5, 117)
theorem mk_X5_of : z_MI miX5_of := ⟨by decide +kernel, z_w3 56 (by decide +kernel) (by decide +kernel), z_w1 1 (by decide +kernel) (by decide +kernel), by decide +kernel, by decide +kernel⟩
theorem np_X5_of : z_np miX5_of 2 := by unfold z_np; decide +kernel
theorem im_X5_of : Cond.instanceMethod (mY miX5_of) ∈ z_tb := z_w3 54 (by decide +kernel) (by decide +kernel)
theorem se_X5_of : Cond.selects (mY miX5_of).cls (mY miX5_of) (mY miX5_of) ∈ z_tb := z_w3 55 (by decide +kernel) (by decide +kernel)
def miX5_about : MI := (yX5_about, cX5_about, 3, some .int, 5, 120)
theorem mk_X5_about : z_MI miX5_about := ⟨by decide +kernel, z_w3 86 (by decide +kernel) (by decide +kernel), z_w1 1 (by decide +kernel) (by decide +kernel), by decide +kernel, by decide +kernel⟩
theorem np_X5_about : z_np miX5_about 2 := by unfold z_np; decide +kernel
theorem im_X5_about : Cond.instanceMethod (mY miX5_about) ∈ z_tb := z_w3 84 (by decide +kernel) (by decide +kernel)
theorem se_X5_about : Cond.selects (mY miX5_about).cls (mY miX5_about) (mY miX5_about) ∈ z_tb := z_w3 85 (by decide +kernel) (by decide +kernel)
def miX5_rungs : MI := (yX5_rungs, cX5_rungs, 3, some .int, 3, 63)
theorem mk_X5_rungs : z_MI miX5_rungs := ⟨by decide +kernel, z_w3 113 (by decide +kernel) (by decide +kernel), z_w1 1 (by decide +kernel) (by decide +kernel), by decide +kernel, by decide +kernel⟩
theorem np_X5_rungs : z_np miX5_rungs 2 := by unfold z_np; decide +kernel
theorem im_X5_rungs : Cond.instanceMethod (mY miX5_rungs) ∈ z_tb := z_w3 111 (by decide +kernel) (by decide +kernel)
theorem se_X5_rungs : Cond.selects (mY miX5_rungs).cls (mY miX5_rungs) (mY miX5_rungs) ∈ z_tb := z_w3 112 (by decide +kernel) (by decide +kernel)
def miX5_far : MI := (yX5_far, cX5_far, 3, some .int, 4, 93)
theorem mk_X5_far : z_MI miX5_far := ⟨by decide +kernel, z_w3 117 (by decide +kernel) (by decide +kernel), z_w1 1 (by decide +kernel) (by decide +kernel), by decide +kernel, by decide +kernel⟩
theorem np_X5_far : z_np miX5_far 2 := by unfold z_np; decide +kernel
theorem im_X5_far : Cond.instanceMethod (mY miX5_far) ∈ z_tb := z_w3 115 (by decide +kernel) (by decide +kernel)
theorem se_X5_far : Cond.selects (mY miX5_far).cls (mY miX5_far) (mY miX5_far) ∈ z_tb := z_w3 116 (by decide +kernel) (by decide +kernel)
def miX5_where : MI := (yX5_where, cX5_where, 3, some .int, 4, 99)
theorem mk_X5_where : z_MI miX5_where := ⟨by decide +kernel, z_w3 129 (by decide +kernel) (by decide +kernel), z_w1 1 (by decide +kernel) (by decide +kernel), by decide +kernel, by decide +kernel⟩
theorem np_X5_where : z_np miX5_where 2 := by unfold z_np; decide +kernel
theorem im_X5_where : Cond.instanceMethod (mY miX5_where) ∈ z_tb := z_w3 127 (by decide +kernel) (by decide +kernel)
theorem se_X5_where : Cond.selects (mY miX5_where).cls (mY miX5_where) (mY miX5_where) ∈ z_tb := z_w3 128 (by decide +kernel) (by decide +kernel)
def miX5_meet : MI := (yX5_meet, cX5_meet, 3, some .int, 4, 99)
theorem mk_X5_meet : z_MI miX5_meet := ⟨by decide +kernel, z_w3 138 (by decide +kernel) (by decide +kernel), z_w1 1 (by decide +kernel) (by decide +kernel), by decide +kernel, by decide +kernel⟩
theorem np_X5_meet : z_np miX5_meet 2 := by unfold z_np; decide +kernel
theorem im_X5_meet : Cond.instanceMethod (mY miX5_meet) ∈ z_tb := z_w3 136 (by decide +kernel) (by decide +kernel)
theorem se_X5_meet : Cond.selects (mY miX5_meet).cls (mY miX5_meet) (mY miX5_meet) ∈ z_tb := z_w3 137 (by decide +kernel) (by decide +kernel)
def miX5_waits : MI := (yX5_waits, cX5_waits, 6, some .int, 4, 99)
theorem mk_X5_waits : z_MI miX5_waits := ⟨by decide +kernel, z_w3 151 (by decide +kernel) (by decide +kernel), z_w1 1 (by decide +kernel) (by decide +kernel), by decide +kernel, by decide +kernel⟩
theorem np_X5_waits : z_np miX5_waits 3 := by unfold z_np; decide +kernel
theorem im_X5_waits : Cond.instanceMethod (mY miX5_waits) ∈ z_tb := z_w3 149 (by decide +kernel) (by decide +kernel)
theorem se_X5_waits : Cond.selects (mY miX5_waits).cls (mY miX5_waits) (mY miX5_waits) ∈ z_tb := z_w3 150 (by decide +kernel) (by decide +kernel)
def miX5_down : MI := (yX5_down, cX5_down, 6, some .int, 4, 95)
theorem mk_X5_down : z_MI miX5_down := ⟨by decide +kernel, z_w3 155 (by decide +kernel) (by decide +kernel), z_w1 1 (by decide +kernel) (by decide +kernel), by decide +kernel, by decide +kernel⟩
theorem np_X5_down : z_np miX5_down 1 := by unfold z_np; decide +kernel
theorem im_X5_down : Cond.instanceMethod (mY miX5_down) ∈ z_tb := z_w3 153 (by decide +kernel) (by decide +kernel)
theorem se_X5_down : Cond.selects (mY miX5_down).cls (mY miX5_down) (mY miX5_down) ∈ z_tb := z_w3 154 (by decide +kernel) (by decide +kernel)
def miX5_cut : MI := (yX5_cut, cX5_cut, 6, some .int, 5, 113)
theorem mk_X5_cut : z_MI miX5_cut := ⟨by decide +kernel, z_w3 163 (by decide +kernel) (by decide +kernel), z_w1 1 (by decide +kernel) (by decide +kernel), by decide +kernel, by decide +kernel⟩
theorem np_X5_cut : z_np miX5_cut 1 := by unfold z_np; decide +kernel
theorem im_X5_cut : Cond.instanceMethod (mY miX5_cut) ∈ z_tb := z_w3 161 (by decide +kernel) (by decide +kernel)
theorem se_X5_cut : Cond.selects (mY miX5_cut).cls (mY miX5_cut) (mY miX5_cut) ∈ z_tb := z_w3 162 (by decide +kernel) (by decide +kernel)
def miX5_doors : MI := (yX5_doors, cX5_doors, 2, some .int, 5, 116)
theorem mk_X5_doors : z_MI miX5_doors := ⟨by decide +kernel, z_w3 180 (by decide +kernel) (by decide +kernel), z_w1 1 (by decide +kernel) (by decide +kernel), by decide +kernel, by decide +kernel⟩
theorem np_X5_doors : z_np miX5_doors 1 := by unfold z_np; decide +kernel
theorem im_X5_doors : Cond.instanceMethod (mY miX5_doors) ∈ z_tb := z_w3 178 (by decide +kernel) (by decide +kernel)
theorem se_X5_doors : Cond.selects (mY miX5_doors).cls (mY miX5_doors) (mY miX5_doors) ∈ z_tb := z_w3 179 (by decide +kernel) (by decide +kernel)
def miX5_sound : MI := (yX5_sound, cX5_sound, 4, some .int, 3, 71)
theorem mk_X5_sound : z_MI miX5_sound := ⟨by decide +kernel, z_w3 214 (by decide +kernel) (by decide +kernel), z_w1 1 (by decide +kernel) (by decide +kernel), by decide +kernel, by decide +kernel⟩
theorem np_X5_sound : z_np miX5_sound 3 := by unfold z_np; decide +kernel
theorem im_X5_sound : Cond.instanceMethod (mY miX5_sound) ∈ z_tb := z_w3 212 (by decide +kernel) (by decide +kernel)
theorem se_X5_sound : Cond.selects (mY miX5_sound).cls (mY miX5_sound) (mY miX5_sound) ∈ z_tb := z_w3 213 (by decide +kernel) (by decide +kernel)
def miX5_who : MI := (yX5_who, cX5_who, 3, some .int, 4, 99)
theorem mk_X5_who : z_MI miX5_who := ⟨by decide +kernel, z_w3 219 (by decide +kernel) (by decide +kernel), z_w1 1 (by decide +kernel) (by decide +kernel), by decide +kernel, by decide +kernel⟩
theorem np_X5_who : z_np miX5_who 0 := by unfold z_np; decide +kernel
theorem im_X5_who : Cond.instanceMethod (mY miX5_who) ∈ z_tb := z_w3 217 (by decide +kernel) (by decide +kernel)
theorem se_X5_who : Cond.selects (mY miX5_who).cls (mY miX5_who) (mY miX5_who) ∈ z_tb := z_w3 218 (by decide +kernel) (by decide +kernel)
def miX5_note : MI := (yX5_note, cX5_note, 5, some .int, 3, 71)
theorem mk_X5_note : z_MI miX5_note := ⟨by decide +kernel, z_w3 229 (by decide +kernel) (by decide +kernel), z_w1 1 (by decide +kernel) (by decide +kernel), by decide +kernel, by decide +kernel⟩
theorem np_X5_note : z_np miX5_note 4 := by unfold z_np; decide +kernel
theorem im_X5_note : Cond.instanceMethod (mY miX5_note) ∈ z_tb := z_w3 227 (by decide +kernel) (by decide +kernel)
theorem se_X5_note : Cond.selects (mY miX5_note).cls (mY miX5_note) (mY miX5_note) ∈ z_tb := z_w3 228 (by decide +kernel) (by decide +kernel)
def miX5_mark : MI := (yX5_mark, cX5_mark, 5, some .int, 3, 71)
theorem mk_X5_mark : z_MI miX5_mark := ⟨by decide +kernel, z_w3 233 (by decide +kernel) (by decide +kernel), z_w1 1 (by decide +kernel) (by decide +kernel), by decide +kernel, by decide +kernel⟩
theorem np_X5_mark : z_np miX5_mark 4 := by unfold z_np; decide +kernel
theorem im_X5_mark : Cond.instanceMethod (mY miX5_mark) ∈ z_tb := z_w3 231 (by decide +kernel) (by decide +kernel)
theorem se_X5_mark : Cond.selects (mY miX5_mark).cls (mY miX5_mark) (mY miX5_mark) ∈ z_tb := z_w3 232 (by decide +kernel) (by decide +kernel)
def miX5_forget : MI := (yX5_forget, cX5_forget, 2, some .int, 3, 63)
theorem mk_X5_forget : z_MI miX5_forget := ⟨by decide +kernel, z_w3 237 (by decide +kernel) (by decide +kernel), z_w1 1 (by decide +kernel) (by decide +kernel), by decide +kernel, by decide +kernel⟩
theorem np_X5_forget : z_np miX5_forget 1 := by unfold z_np; decide +kernel
theorem im_X5_forget : Cond.instanceMethod (mY miX5_forget) ∈ z_tb := z_w3 235 (by decide +kernel) (by decide +kernel)
theorem se_X5_forget : Cond.selects (mY miX5_forget).cls (mY miX5_forget) (mY miX5_forget) ∈ z_tb := z_w3 236 (by decide +kernel) (by decide +kernel)
def miX5_is : MI := (yX5_is, cX5_is, 2, some .int, 5, 109)
theorem mk_X5_is : z_MI miX5_is := ⟨by decide +kernel, z_w4 1 (by decide +kernel) (by decide +kernel), z_w1 1 (by decide +kernel) (by decide +kernel), by decide +kernel, by decide +kernel⟩
theorem np_X5_is : z_np miX5_is 1 := by unfold z_np; decide +kernel
theorem im_X5_is : Cond.instanceMethod (mY miX5_is) ∈ z_tb := z_w3 239 (by decide +kernel) (by decide +kernel)
theorem se_X5_is : Cond.selects (mY miX5_is).cls (mY miX5_is) (mY miX5_is) ∈ z_tb := z_w4 0 (by decide +kernel) (by decide +kernel)
def miX5_look : MI := (yX5_look, cX5_look, 8, some .int, 5, 109)
theorem mk_X5_look : z_MI miX5_look := ⟨by decide +kernel, z_w4 13 (by decide +kernel) (by decide +kernel), z_w1 1 (by decide +kernel) (by decide +kernel), by decide +kernel, by decide +kernel⟩
theorem np_X5_look : z_np miX5_look 1 := by unfold z_np; decide +kernel
theorem im_X5_look : Cond.instanceMethod (mY miX5_look) ∈ z_tb := z_w4 11 (by decide +kernel) (by decide +kernel)
theorem se_X5_look : Cond.selects (mY miX5_look).cls (mY miX5_look) (mY miX5_look) ∈ z_tb := z_w4 12 (by decide +kernel) (by decide +kernel)
def miX5_kinds : MI := (yX5_kinds, cX5_kinds, 2, some .int, 4, 92)
theorem mk_X5_kinds : z_MI miX5_kinds := ⟨by decide +kernel, z_w4 20 (by decide +kernel) (by decide +kernel), z_w1 1 (by decide +kernel) (by decide +kernel), by decide +kernel, by decide +kernel⟩
theorem np_X5_kinds : z_np miX5_kinds 1 := by unfold z_np; decide +kernel
theorem im_X5_kinds : Cond.instanceMethod (mY miX5_kinds) ∈ z_tb := z_w4 18 (by decide +kernel) (by decide +kernel)
theorem se_X5_kinds : Cond.selects (mY miX5_kinds).cls (mY miX5_kinds) (mY miX5_kinds) ∈ z_tb := z_w4 19 (by decide +kernel) (by decide +kernel)
def miX5_ask : MI := (yX5_ask, cX5_ask, 8, some .int, 4, 92)
theorem mk_X5_ask : z_MI miX5_ask := ⟨by decide +kernel, z_w4 33 (by decide +kernel) (by decide +kernel), z_w1 1 (by decide +kernel) (by decide +kernel), by decide +kernel, by decide +kernel⟩
theorem np_X5_ask : z_np miX5_ask 1 := by unfold z_np; decide +kernel
theorem im_X5_ask : Cond.instanceMethod (mY miX5_ask) ∈ z_tb := z_w4 31 (by decide +kernel) (by decide +kernel)
theorem se_X5_ask : Cond.selects (mY miX5_ask).cls (mY miX5_ask) (mY miX5_ask) ∈ z_tb := z_w4 32 (by decide +kernel) (by decide +kernel)
def miX5_shy : MI := (yX5_shy, cX5_shy, 6, some .int, 5, 123)
theorem mk_X5_shy : z_MI miX5_shy := ⟨by decide +kernel, z_w4 40 (by decide +kernel) (by decide +kernel), z_w1 1 (by decide +kernel) (by decide +kernel), by decide +kernel, by decide +kernel⟩
theorem np_X5_shy : z_np miX5_shy 3 := by unfold z_np; decide +kernel
theorem im_X5_shy : Cond.instanceMethod (mY miX5_shy) ∈ z_tb := z_w4 38 (by decide +kernel) (by decide +kernel)
theorem se_X5_shy : Cond.selects (mY miX5_shy).cls (mY miX5_shy) (mY miX5_shy) ∈ z_tb := z_w4 39 (by decide +kernel) (by decide +kernel)
def miX5_odds : MI := (yX5_odds, cX5_odds, 10, some .int, 3, 67)
theorem mk_X5_odds : z_MI miX5_odds := ⟨by decide +kernel, z_w4 60 (by decide +kernel) (by decide +kernel), z_w1 1 (by decide +kernel) (by decide +kernel), by decide +kernel, by decide +kernel⟩
theorem np_X5_odds : z_np miX5_odds 3 := by unfold z_np; decide +kernel
theorem im_X5_odds : Cond.instanceMethod (mY miX5_odds) ∈ z_tb := z_w4 58 (by decide +kernel) (by decide +kernel)
theorem se_X5_odds : Cond.selects (mY miX5_odds).cls (mY miX5_odds) (mY miX5_odds) ∈ z_tb := z_w4 59 (by decide +kernel) (by decide +kernel)
def miX5_nights : MI := (yX5_nights, cX5_nights, 8, some .int, 5, 120)
theorem mk_X5_nights : z_MI miX5_nights := ⟨by decide +kernel, z_w4 74 (by decide +kernel) (by decide +kernel), z_w1 1 (by decide +kernel) (by decide +kernel), by decide +kernel, by decide +kernel⟩
theorem np_X5_nights : z_np miX5_nights 2 := by unfold z_np; decide +kernel
theorem im_X5_nights : Cond.instanceMethod (mY miX5_nights) ∈ z_tb := z_w4 72 (by decide +kernel) (by decide +kernel)
theorem se_X5_nights : Cond.selects (mY miX5_nights).cls (mY miX5_nights) (mY miX5_nights) ∈ z_tb := z_w4 73 (by decide +kernel) (by decide +kernel)
def miX5_part : MI := (yX5_part, cX5_part, 2, some .long, 3, 63)
theorem mk_X5_part : z_MI miX5_part := ⟨by decide +kernel, z_w4 88 (by decide +kernel) (by decide +kernel), z_w1 1 (by decide +kernel) (by decide +kernel), by decide +kernel, by decide +kernel⟩
theorem np_X5_part : z_np miX5_part 1 := by unfold z_np; decide +kernel
theorem im_X5_part : Cond.instanceMethod (mY miX5_part) ∈ z_tb := z_w4 86 (by decide +kernel) (by decide +kernel)
theorem se_X5_part : Cond.selects (mY miX5_part).cls (mY miX5_part) (mY miX5_part) ∈ z_tb := z_w4 87 (by decide +kernel) (by decide +kernel)
def miX5_image : MI := (yX5_image, cX5_image, 2, some .int, 4, 103)
theorem mk_X5_image : z_MI miX5_image := ⟨by decide +kernel, z_w4 92 (by decide +kernel) (by decide +kernel), z_w1 1 (by decide +kernel) (by decide +kernel), by decide +kernel, by decide +kernel⟩
theorem np_X5_image : z_np miX5_image 1 := by unfold z_np; decide +kernel
theorem im_X5_image : Cond.instanceMethod (mY miX5_image) ∈ z_tb := z_w4 90 (by decide +kernel) (by decide +kernel)
theorem se_X5_image : Cond.selects (mY miX5_image).cls (mY miX5_image) (mY miX5_image) ∈ z_tb := z_w4 91 (by decide +kernel) (by decide +kernel)
def miX5_from : MI := (yX5_from, cX5_from, 3, some .int, 4, 103)
theorem mk_X5_from : z_MI miX5_from := ⟨by decide +kernel, z_w4 96 (by decide +kernel) (by decide +kernel), z_w1 1 (by decide +kernel) (by decide +kernel), by decide +kernel, by decide +kernel⟩
theorem np_X5_from : z_np miX5_from 1 := by unfold z_np; decide +kernel
theorem im_X5_from : Cond.instanceMethod (mY miX5_from) ∈ z_tb := z_w4 94 (by decide +kernel) (by decide +kernel)
theorem se_X5_from : Cond.selects (mY miX5_from).cls (mY miX5_from) (mY miX5_from) ∈ z_tb := z_w4 95 (by decide +kernel) (by decide +kernel)
def miX5_status : MI := (yX5_status, cX5_status, 2, some .int, 2, 43)
theorem mk_X5_status : z_MI miX5_status := ⟨by decide +kernel, z_w4 100 (by decide +kernel) (by decide +kernel), z_w1 1 (by decide +kernel) (by decide +kernel), by decide +kernel, by decide +kernel⟩
theorem np_X5_status : z_np miX5_status 1 := by unfold z_np; decide +kernel
theorem im_X5_status : Cond.instanceMethod (mY miX5_status) ∈ z_tb := z_w4 98 (by decide +kernel) (by decide +kernel)
theorem se_X5_status : Cond.selects (mY miX5_status).cls (mY miX5_status) (mY miX5_status) ∈ z_tb := z_w4 99 (by decide +kernel) (by decide +kernel)
def miX5_count : MI := (yX5_count, cX5_count, 2, some .int, 5, 107)
theorem mk_X5_count : z_MI miX5_count := ⟨by decide +kernel, z_w4 104 (by decide +kernel) (by decide +kernel), z_w1 1 (by decide +kernel) (by decide +kernel), by decide +kernel, by decide +kernel⟩
theorem np_X5_count : z_np miX5_count 1 := by unfold z_np; decide +kernel
theorem im_X5_count : Cond.instanceMethod (mY miX5_count) ∈ z_tb := z_w4 102 (by decide +kernel) (by decide +kernel)
theorem se_X5_count : Cond.selects (mY miX5_count).cls (mY miX5_count) (mY miX5_count) ∈ z_tb := z_w4 103 (by decide +kernel) (by decide +kernel)
def miX5_digest : MI := (yX5_digest, cX5_digest, 4, some .long, 5, 107)
theorem mk_X5_digest : z_MI miX5_digest := ⟨by decide +kernel, z_w4 120 (by decide +kernel) (by decide +kernel), z_w1 1 (by decide +kernel) (by decide +kernel), by decide +kernel, by decide +kernel⟩
theorem np_X5_digest : z_np miX5_digest 0 := by unfold z_np; decide +kernel
theorem im_X5_digest : Cond.instanceMethod (mY miX5_digest) ∈ z_tb := z_w4 118 (by decide +kernel) (by decide +kernel)
theorem se_X5_digest : Cond.selects (mY miX5_digest).cls (mY miX5_digest) (mY miX5_digest) ∈ z_tb := z_w4 119 (by decide +kernel) (by decide +kernel)
def miX5_bad : MI := (yX5_bad, cX5_bad, 1, some .int, 2, 43)
theorem mk_X5_bad : z_MI miX5_bad := ⟨by decide +kernel, z_w2 0 (by decide +kernel) (by decide +kernel), z_w1 1 (by decide +kernel) (by decide +kernel), by decide +kernel, by decide +kernel⟩
theorem np_X5_bad : z_np miX5_bad 0 := by unfold z_np; decide +kernel
theorem im_X5_bad : Cond.instanceMethod (mY miX5_bad) ∈ z_tb := z_w1 239 (by decide +kernel) (by decide +kernel)
theorem se_X5_bad : Cond.selects (mY miX5_bad).cls (mY miX5_bad) (mY miX5_bad) ∈ z_tb := z_wp_eq (z_wp1 0 rfl) rfl
def miX5_badAs : MI := (yX5_badAs, cX5_badAs, 2, some .int, 1, 22)
theorem mk_X5_badAs : z_MI miX5_badAs := ⟨by decide +kernel, z_w2 4 (by decide +kernel) (by decide +kernel), z_w1 1 (by decide +kernel) (by decide +kernel), by decide +kernel, by decide +kernel⟩
theorem np_X5_badAs : z_np miX5_badAs 1 := by unfold z_np; decide +kernel
theorem im_X5_badAs : Cond.instanceMethod (mY miX5_badAs) ∈ z_tb := z_w2 3 (by decide +kernel) (by decide +kernel)
theorem se_X5_badAs : Cond.selects (mY miX5_badAs).cls (mY miX5_badAs) (mY miX5_badAs) ∈ z_tb := z_wp_eq (z_wp1 1 rfl) rfl
def miX5_no : MI := (yX5_no, cX5_no, 1, some .int, 1, 22)
theorem mk_X5_no : z_MI miX5_no := ⟨by decide +kernel, z_w3 47 (by decide +kernel) (by decide +kernel), z_w1 1 (by decide +kernel) (by decide +kernel), by decide +kernel, by decide +kernel⟩
theorem np_X5_no : z_np miX5_no 0 := by unfold z_np; decide +kernel
theorem im_X5_no : Cond.instanceMethod (mY miX5_no) ∈ z_tb := z_w3 46 (by decide +kernel) (by decide +kernel)
theorem se_X5_no : Cond.selects (mY miX5_no).cls (mY miX5_no) (mY miX5_no) ∈ z_tb := z_wp_eq (z_wp2 2 rfl) rfl
def miX5_full : MI := (yX5_full, cX5_full, 1, some .int, 1, 22)
theorem mk_X5_full : z_MI miX5_full := ⟨by decide +kernel, z_w2 17 (by decide +kernel) (by decide +kernel), z_w1 1 (by decide +kernel) (by decide +kernel), by decide +kernel, by decide +kernel⟩
theorem np_X5_full : z_np miX5_full 0 := by unfold z_np; decide +kernel
theorem im_X5_full : Cond.instanceMethod (mY miX5_full) ∈ z_tb := z_w2 16 (by decide +kernel) (by decide +kernel)
theorem se_X5_full : Cond.selects (mY miX5_full).cls (mY miX5_full) (mY miX5_full) ∈ z_tb := z_wp_eq (z_wp1 2 rfl) rfl
def miX5_within : MI := (yX5_within, cX5_within, 3, some .boolean, 0, 0)
theorem mk_X5_within : z_MI miX5_within := ⟨by decide +kernel, z_w1 219 (by decide +kernel) (by decide +kernel), z_w1 1 (by decide +kernel) (by decide +kernel), by decide +kernel, by decide +kernel⟩
theorem np_X5_within : z_np miX5_within 3 := by unfold z_np; decide +kernel
theorem st_X5_within : Cond.static (mY miX5_within) ∈ z_tb := z_w1 218 (by decide +kernel) (by decide +kernel)
def miX5_isCell : MI := (yX5_isCell, cX5_isCell, 1, some .boolean, 1, 22)
theorem mk_X5_isCell : z_MI miX5_isCell := ⟨by decide +kernel, z_w2 39 (by decide +kernel) (by decide +kernel), z_w1 1 (by decide +kernel) (by decide +kernel), by decide +kernel, by decide +kernel⟩
theorem np_X5_isCell : z_np miX5_isCell 1 := by unfold z_np; decide +kernel
theorem st_X5_isCell : Cond.static (mY miX5_isCell) ∈ z_tb := z_w2 38 (by decide +kernel) (by decide +kernel)
def miX5_areTwoGoers : MI := (yX5_areTwoGoers, cX5_areTwoGoers, 3, some .boolean, 1, 21)
theorem mk_X5_areTwoGoers : z_MI miX5_areTwoGoers := ⟨by decide +kernel, z_w3 142 (by decide +kernel) (by decide +kernel), z_w1 1 (by decide +kernel) (by decide +kernel), by decide +kernel, by decide +kernel⟩
theorem np_X5_areTwoGoers : z_np miX5_areTwoGoers 2 := by unfold z_np; decide +kernel
theorem im_X5_areTwoGoers : Cond.instanceMethod (mY miX5_areTwoGoers) ∈ z_tb := z_w3 141 (by decide +kernel) (by decide +kernel)
theorem se_X5_areTwoGoers : Cond.selects (mY miX5_areTwoGoers).cls (mY miX5_areTwoGoers) (mY miX5_areTwoGoers) ∈ z_tb := z_wp_eq (z_wp2 4 rfl) rfl
def miX5_howMany : MI := (yX5_howMany, cX5_howMany, 2, some .int, 4, 86)
theorem mk_X5_howMany : z_MI miX5_howMany := ⟨by decide +kernel, z_w4 108 (by decide +kernel) (by decide +kernel), z_w1 1 (by decide +kernel) (by decide +kernel), by decide +kernel, by decide +kernel⟩
theorem np_X5_howMany : z_np miX5_howMany 1 := by unfold z_np; decide +kernel
theorem im_X5_howMany : Cond.instanceMethod (mY miX5_howMany) ∈ z_tb := z_w4 107 (by decide +kernel) (by decide +kernel)
theorem se_X5_howMany : Cond.selects (mY miX5_howMany).cls (mY miX5_howMany) (mY miX5_howMany) ∈ z_tb := z_wp_eq (z_wp3 7 rfl) rfl
def miX5_firstMeeting : MI := (yX5_firstMeeting, cX5_firstMeeting, 7, some .int, 1, 23)
theorem mk_X5_firstMeeting : z_MI miX5_firstMeeting := ⟨by decide +kernel, z_w3 146 (by decide +kernel) (by decide +kernel), z_w1 1 (by decide +kernel) (by decide +kernel), by decide +kernel, by decide +kernel⟩
theorem np_X5_firstMeeting : z_np miX5_firstMeeting 3 := by unfold z_np; decide +kernel
theorem im_X5_firstMeeting : Cond.instanceMethod (mY miX5_firstMeeting) ∈ z_tb := z_w3 145 (by decide +kernel) (by decide +kernel)
theorem se_X5_firstMeeting : Cond.selects (mY miX5_firstMeeting).cls (mY miX5_firstMeeting) (mY miX5_firstMeeting) ∈ z_tb := z_wp_eq (z_wp2 5 rfl) rfl
def miX5_goersCutOff : MI := (yX5_goersCutOff, cX5_goersCutOff, 4, some .int, 4, 90)
theorem mk_X5_goersCutOff : z_MI miX5_goersCutOff := ⟨by decide +kernel, z_w3 167 (by decide +kernel) (by decide +kernel), z_w1 1 (by decide +kernel) (by decide +kernel), by decide +kernel, by decide +kernel⟩
theorem np_X5_goersCutOff : z_np miX5_goersCutOff 1 := by unfold z_np; decide +kernel
theorem im_X5_goersCutOff : Cond.instanceMethod (mY miX5_goersCutOff) ∈ z_tb := z_w3 166 (by decide +kernel) (by decide +kernel)
theorem se_X5_goersCutOff : Cond.selects (mY miX5_goersCutOff).cls (mY miX5_goersCutOff) (mY miX5_goersCutOff) ∈ z_tb := z_wp_eq (z_wp2 6 rfl) rfl
def miX5_climbsDown : MI := (yX5_climbsDown, cX5_climbsDown, 4, some .boolean, 3, 67)
theorem mk_X5_climbsDown : z_MI miX5_climbsDown := ⟨by decide +kernel, z_w3 172 (by decide +kernel) (by decide +kernel), z_w1 1 (by decide +kernel) (by decide +kernel), by decide +kernel, by decide +kernel⟩
theorem np_X5_climbsDown : z_np miX5_climbsDown 2 := by unfold z_np; decide +kernel
theorem im_X5_climbsDown : Cond.instanceMethod (mY miX5_climbsDown) ∈ z_tb := z_w3 171 (by decide +kernel) (by decide +kernel)
theorem se_X5_climbsDown : Cond.selects (mY miX5_climbsDown).cls (mY miX5_climbsDown) (mY miX5_climbsDown) ∈ z_tb := z_wp_eq (z_wp2 7 rfl) rfl
def miX5_fillToHomes : MI := (yX5_fillToHomes, cX5_fillToHomes, 4, none, 4, 93)
theorem mk_X5_fillToHomes : z_MI miX5_fillToHomes := ⟨by decide +kernel, z_w3 184 (by decide +kernel) (by decide +kernel), z_w1 1 (by decide +kernel) (by decide +kernel), by decide +kernel, by decide +kernel⟩
theorem np_X5_fillToHomes : z_np miX5_fillToHomes 0 := by unfold z_np; decide +kernel
theorem im_X5_fillToHomes : Cond.instanceMethod (mY miX5_fillToHomes) ∈ z_tb := z_w3 183 (by decide +kernel) (by decide +kernel)
theorem se_X5_fillToHomes : Cond.selects (mY miX5_fillToHomes).cls (mY miX5_fillToHomes) (mY miX5_fillToHomes) ∈ z_tb := z_wp_eq (z_wp2 8 rfl) rfl
def miX5_fillLeast : MI := (yX5_fillLeast, cX5_fillLeast, 3, none, 3, 71)
theorem mk_X5_fillLeast : z_MI miX5_fillLeast := ⟨by decide +kernel, z_w3 188 (by decide +kernel) (by decide +kernel), z_w1 1 (by decide +kernel) (by decide +kernel), by decide +kernel, by decide +kernel⟩
theorem np_X5_fillLeast : z_np miX5_fillLeast 0 := by unfold z_np; decide +kernel
theorem im_X5_fillLeast : Cond.instanceMethod (mY miX5_fillLeast) ∈ z_tb := z_w3 187 (by decide +kernel) (by decide +kernel)
theorem se_X5_fillLeast : Cond.selects (mY miX5_fillLeast).cls (mY miX5_fillLeast) (mY miX5_fillLeast) ∈ z_tb := z_wp_eq (z_wp2 9 rfl) rfl
def miX5_leastBehind : MI := (yX5_leastBehind, cX5_leastBehind, 6, some .int, 2, 46)
theorem mk_X5_leastBehind : z_MI miX5_leastBehind := ⟨by decide +kernel, z_w3 192 (by decide +kernel) (by decide +kernel), z_w1 1 (by decide +kernel) (by decide +kernel), by decide +kernel, by decide +kernel⟩
theorem np_X5_leastBehind : z_np miX5_leastBehind 1 := by unfold z_np; decide +kernel
theorem im_X5_leastBehind : Cond.instanceMethod (mY miX5_leastBehind) ∈ z_tb := z_w3 191 (by decide +kernel) (by decide +kernel)
theorem se_X5_leastBehind : Cond.selects (mY miX5_leastBehind).cls (mY miX5_leastBehind) (mY miX5_leastBehind) ∈ z_tb := z_wp_eq (z_wp2 10 rfl) rfl
def miX5_wayThrough : MI := (yX5_wayThrough, cX5_wayThrough, 6, some .int, 1, 21)
theorem mk_X5_wayThrough : z_MI miX5_wayThrough := ⟨by decide +kernel, z_w3 202 (by decide +kernel) (by decide +kernel), z_w1 1 (by decide +kernel) (by decide +kernel), by decide +kernel, by decide +kernel⟩
theorem np_X5_wayThrough : z_np miX5_wayThrough 3 := by unfold z_np; decide +kernel
theorem im_X5_wayThrough : Cond.instanceMethod (mY miX5_wayThrough) ∈ z_tb := z_w3 201 (by decide +kernel) (by decide +kernel)
theorem se_X5_wayThrough : Cond.selects (mY miX5_wayThrough).cls (mY miX5_wayThrough) (mY miX5_wayThrough) ∈ z_tb := z_wp_eq (z_wp2 11 rfl) rfl
def miX5_homeChosenBy : MI := (yX5_homeChosenBy, cX5_homeChosenBy, 5, some .int, 3, 69)
theorem mk_X5_homeChosenBy : z_MI miX5_homeChosenBy := ⟨by decide +kernel, z_w3 206 (by decide +kernel) (by decide +kernel), z_w1 1 (by decide +kernel) (by decide +kernel), by decide +kernel, by decide +kernel⟩
theorem np_X5_homeChosenBy : z_np miX5_homeChosenBy 1 := by unfold z_np; decide +kernel
theorem im_X5_homeChosenBy : Cond.instanceMethod (mY miX5_homeChosenBy) ∈ z_tb := z_w3 205 (by decide +kernel) (by decide +kernel)
theorem se_X5_homeChosenBy : Cond.selects (mY miX5_homeChosenBy).cls (mY miX5_homeChosenBy) (mY miX5_homeChosenBy) ∈ z_tb := z_wp_eq (z_wp2 12 rfl) rfl
def miX5_firstHome : MI := (yX5_firstHome, cX5_firstHome, 4, some .int, 2, 46)
theorem mk_X5_firstHome : z_MI miX5_firstHome := ⟨by decide +kernel, z_w3 210 (by decide +kernel) (by decide +kernel), z_w1 1 (by decide +kernel) (by decide +kernel), by decide +kernel, by decide +kernel⟩
theorem np_X5_firstHome : z_np miX5_firstHome 2 := by unfold z_np; decide +kernel
theorem im_X5_firstHome : Cond.instanceMethod (mY miX5_firstHome) ∈ z_tb := z_w3 209 (by decide +kernel) (by decide +kernel)
theorem se_X5_firstHome : Cond.selects (mY miX5_firstHome).cls (mY miX5_firstHome) (mY miX5_firstHome) ∈ z_tb := z_wp_eq (z_wp2 13 rfl) rfl
def miX5_fitsSounds : MI := (yX5_fitsSounds, cX5_fitsSounds, 6, some .boolean, 3, 68)
theorem mk_X5_fitsSounds : z_MI miX5_fitsSounds := ⟨by decide +kernel, z_w3 223 (by decide +kernel) (by decide +kernel), z_w1 1 (by decide +kernel) (by decide +kernel), by decide +kernel, by decide +kernel⟩
theorem np_X5_fitsSounds : z_np miX5_fitsSounds 1 := by unfold z_np; decide +kernel
theorem im_X5_fitsSounds : Cond.instanceMethod (mY miX5_fitsSounds) ∈ z_tb := z_w3 222 (by decide +kernel) (by decide +kernel)
theorem se_X5_fitsSounds : Cond.selects (mY miX5_fitsSounds).cls (mY miX5_fitsSounds) (mY miX5_fitsSounds) ∈ z_tb := z_wp_eq (z_wp2 14 rfl) rfl
def miX5_goerKinds : MI := (yX5_goerKinds, cX5_goerKinds, 4, some .int, 4, 86)
theorem mk_X5_goerKinds : z_MI miX5_goerKinds := ⟨by decide +kernel, z_w4 5 (by decide +kernel) (by decide +kernel), z_w1 1 (by decide +kernel) (by decide +kernel), by decide +kernel, by decide +kernel⟩
theorem np_X5_goerKinds : z_np miX5_goerKinds 1 := by unfold z_np; decide +kernel
theorem im_X5_goerKinds : Cond.instanceMethod (mY miX5_goerKinds) ∈ z_tb := z_w4 4 (by decide +kernel) (by decide +kernel)
theorem se_X5_goerKinds : Cond.selects (mY miX5_goerKinds).cls (mY miX5_goerKinds) (mY miX5_goerKinds) ∈ z_tb := z_wp_eq (z_wp2 15 rfl) rfl
def miX5_fitsNotes : MI := (yX5_fitsNotes, cX5_fitsNotes, 4, some .boolean, 3, 63)
theorem mk_X5_fitsNotes : z_MI miX5_fitsNotes := ⟨by decide +kernel, z_w4 9 (by decide +kernel) (by decide +kernel), z_w1 1 (by decide +kernel) (by decide +kernel), by decide +kernel, by decide +kernel⟩
theorem np_X5_fitsNotes : z_np miX5_fitsNotes 2 := by unfold z_np; decide +kernel
theorem im_X5_fitsNotes : Cond.instanceMethod (mY miX5_fitsNotes) ∈ z_tb := z_w4 8 (by decide +kernel) (by decide +kernel)
theorem se_X5_fitsNotes : Cond.selects (mY miX5_fitsNotes).cls (mY miX5_fitsNotes) (mY miX5_fitsNotes) ∈ z_tb := z_wp_eq (z_wp3 0 rfl) rfl
def miX5_mostAlike : MI := (yX5_mostAlike, cX5_mostAlike, 7, some .int, 3, 63)
theorem mk_X5_mostAlike : z_MI miX5_mostAlike := ⟨by decide +kernel, z_w4 16 (by decide +kernel) (by decide +kernel), z_w1 1 (by decide +kernel) (by decide +kernel), by decide +kernel, by decide +kernel⟩
theorem np_X5_mostAlike : z_np miX5_mostAlike 3 := by unfold z_np; decide +kernel
theorem st_X5_mostAlike : Cond.static (mY miX5_mostAlike) ∈ z_tb := z_w4 15 (by decide +kernel) (by decide +kernel)
def miX5_windowKinds : MI := (yX5_windowKinds, cX5_windowKinds, 4, some .int, 3, 69)
theorem mk_X5_windowKinds : z_MI miX5_windowKinds := ⟨by decide +kernel, z_w4 24 (by decide +kernel) (by decide +kernel), z_w1 1 (by decide +kernel) (by decide +kernel), by decide +kernel, by decide +kernel⟩
theorem np_X5_windowKinds : z_np miX5_windowKinds 1 := by unfold z_np; decide +kernel
theorem im_X5_windowKinds : Cond.instanceMethod (mY miX5_windowKinds) ∈ z_tb := z_w4 23 (by decide +kernel) (by decide +kernel)
theorem se_X5_windowKinds : Cond.selects (mY miX5_windowKinds).cls (mY miX5_windowKinds) (mY miX5_windowKinds) ∈ z_tb := z_wp_eq (z_wp3 1 rfl) rfl
def miX5_fitsMarks : MI := (yX5_fitsMarks, cX5_fitsMarks, 5, some .boolean, 2, 45)
theorem mk_X5_fitsMarks : z_MI miX5_fitsMarks := ⟨by decide +kernel, z_w4 28 (by decide +kernel) (by decide +kernel), z_w1 1 (by decide +kernel) (by decide +kernel), by decide +kernel, by decide +kernel⟩
theorem np_X5_fitsMarks : z_np miX5_fitsMarks 2 := by unfold z_np; decide +kernel
theorem im_X5_fitsMarks : Cond.instanceMethod (mY miX5_fitsMarks) ∈ z_tb := z_w4 27 (by decide +kernel) (by decide +kernel)
theorem se_X5_fitsMarks : Cond.selects (mY miX5_fitsMarks).cls (mY miX5_fitsMarks) (mY miX5_fitsMarks) ∈ z_tb := z_wp_eq (z_wp3 2 rfl) rfl
def miX5_greaterPart : MI := (yX5_greaterPart, cX5_greaterPart, 5, some .int, 2, 45)
theorem mk_X5_greaterPart : z_MI miX5_greaterPart := ⟨by decide +kernel, z_w4 36 (by decide +kernel) (by decide +kernel), z_w1 1 (by decide +kernel) (by decide +kernel), by decide +kernel, by decide +kernel⟩
theorem np_X5_greaterPart : z_np miX5_greaterPart 3 := by unfold z_np; decide +kernel
theorem st_X5_greaterPart : Cond.static (mY miX5_greaterPart) ∈ z_tb := z_w4 35 (by decide +kernel) (by decide +kernel)
def miX5_fillMet : MI := (yX5_fillMet, cX5_fillMet, 5, none, 4, 99)
theorem mk_X5_fillMet : z_MI miX5_fillMet := ⟨by decide +kernel, z_w4 44 (by decide +kernel) (by decide +kernel), z_w1 1 (by decide +kernel) (by decide +kernel), by decide +kernel, by decide +kernel⟩
theorem np_X5_fillMet : z_np miX5_fillMet 2 := by unfold z_np; decide +kernel
theorem im_X5_fillMet : Cond.instanceMethod (mY miX5_fillMet) ∈ z_tb := z_w4 43 (by decide +kernel) (by decide +kernel)
theorem se_X5_fillMet : Cond.selects (mY miX5_fillMet).cls (mY miX5_fillMet) (mY miX5_fillMet) ∈ z_tb := z_wp_eq (z_wp3 3 rfl) rfl
def miX5_gainOfA : MI := (yX5_gainOfA, cX5_gainOfA, 3, some .int, 1, 21)
theorem mk_X5_gainOfA : z_MI miX5_gainOfA := ⟨by decide +kernel, z_w4 52 (by decide +kernel) (by decide +kernel), z_w1 1 (by decide +kernel) (by decide +kernel), by decide +kernel, by decide +kernel⟩
theorem np_X5_gainOfA : z_np miX5_gainOfA 2 := by unfold z_np; decide +kernel
theorem im_X5_gainOfA : Cond.instanceMethod (mY miX5_gainOfA) ∈ z_tb := z_w4 51 (by decide +kernel) (by decide +kernel)
theorem se_X5_gainOfA : Cond.selects (mY miX5_gainOfA).cls (mY miX5_gainOfA) (mY miX5_gainOfA) ∈ z_tb := z_wp_eq (z_wp3 5 rfl) rfl
def miX5_gainOfB : MI := (yX5_gainOfB, cX5_gainOfB, 3, some .int, 1, 21)
theorem mk_X5_gainOfB : z_MI miX5_gainOfB := ⟨by decide +kernel, z_w4 56 (by decide +kernel) (by decide +kernel), z_w1 1 (by decide +kernel) (by decide +kernel), by decide +kernel, by decide +kernel⟩
theorem np_X5_gainOfB : z_np miX5_gainOfB 2 := by unfold z_np; decide +kernel
theorem im_X5_gainOfB : Cond.instanceMethod (mY miX5_gainOfB) ∈ z_tb := z_w4 55 (by decide +kernel) (by decide +kernel)
theorem se_X5_gainOfB : Cond.selects (mY miX5_gainOfB).cls (mY miX5_gainOfB) (mY miX5_gainOfB) ∈ z_tb := z_wp_eq (z_wp3 6 rfl) rfl
def miX5_rests : MI := (yX5_rests, cX5_rests, 6, some .boolean, 2, 43)
theorem mk_X5_rests : z_MI miX5_rests := ⟨by decide +kernel, z_w4 48 (by decide +kernel) (by decide +kernel), z_w1 1 (by decide +kernel) (by decide +kernel), by decide +kernel, by decide +kernel⟩
theorem np_X5_rests : z_np miX5_rests 2 := by unfold z_np; decide +kernel
theorem im_X5_rests : Cond.instanceMethod (mY miX5_rests) ∈ z_tb := z_w4 47 (by decide +kernel) (by decide +kernel)
theorem se_X5_rests : Cond.selects (mY miX5_rests).cls (mY miX5_rests) (mY miX5_rests) ∈ z_tb := z_wp_eq (z_wp3 4 rfl) rfl
def miX5_power : MI := (yX5_power, cX5_power, 6, some .long, 0, 0)
theorem mk_X5_power : z_MI miX5_power := ⟨by decide +kernel, z_w4 64 (by decide +kernel) (by decide +kernel), z_w1 1 (by decide +kernel) (by decide +kernel), by decide +kernel, by decide +kernel⟩
theorem np_X5_power : z_np miX5_power 2 := by unfold z_np; decide +kernel
theorem st_X5_power : Cond.static (mY miX5_power) ∈ z_tb := z_w4 63 (by decide +kernel) (by decide +kernel)
def miX5_commonDivisor : MI := (yX5_commonDivisor, cX5_commonDivisor, 11, some .long, 0, 0)
theorem mk_X5_commonDivisor : z_MI miX5_commonDivisor := ⟨by decide +kernel, z_w4 67 (by decide +kernel) (by decide +kernel), z_w1 1 (by decide +kernel) (by decide +kernel), by decide +kernel, by decide +kernel⟩
theorem np_X5_commonDivisor : z_np miX5_commonDivisor 2 := by unfold z_np; decide +kernel
theorem st_X5_commonDivisor : Cond.static (mY miX5_commonDivisor) ∈ z_tb := z_w4 66 (by decide +kernel) (by decide +kernel)
def miX5_floorOf : MI := (yX5_floorOf, cX5_floorOf, 1, some .int, 0, 0)
theorem mk_X5_floorOf : z_MI miX5_floorOf := ⟨by decide +kernel, z_w3 71 (by decide +kernel) (by decide +kernel), z_w1 1 (by decide +kernel) (by decide +kernel), by decide +kernel, by decide +kernel⟩
theorem np_X5_floorOf : z_np miX5_floorOf 1 := by unfold z_np; decide +kernel
theorem st_X5_floorOf : Cond.static (mY miX5_floorOf) ∈ z_tb := z_w3 70 (by decide +kernel) (by decide +kernel)
def miX5_apart : MI := (yX5_apart, cX5_apart, 2, some .int, 1, 23)
theorem mk_X5_apart : z_MI miX5_apart := ⟨by decide +kernel, z_w3 97 (by decide +kernel) (by decide +kernel), z_w1 1 (by decide +kernel) (by decide +kernel), by decide +kernel, by decide +kernel⟩
theorem np_X5_apart : z_np miX5_apart 2 := by unfold z_np; decide +kernel
theorem st_X5_apart : Cond.static (mY miX5_apart) ∈ z_tb := z_w3 96 (by decide +kernel) (by decide +kernel)
def miX5_loudness : MI := (yX5_loudness, cX5_loudness, 4, some .int, 2, 40)
theorem mk_X5_loudness : z_MI miX5_loudness := ⟨by decide +kernel, z_w3 74 (by decide +kernel) (by decide +kernel), z_w1 1 (by decide +kernel) (by decide +kernel), by decide +kernel, by decide +kernel⟩
theorem np_X5_loudness : z_np miX5_loudness 3 := by unfold z_np; decide +kernel
theorem st_X5_loudness : Cond.static (mY miX5_loudness) ∈ z_tb := z_w3 73 (by decide +kernel) (by decide +kernel)
def miX5_slipper : MI := (yX5_slipper, cX5_slipper, 1, some .int, 0, 0)
theorem mk_X5_slipper : z_MI miX5_slipper := ⟨by decide +kernel, z_w3 77 (by decide +kernel) (by decide +kernel), z_w1 1 (by decide +kernel) (by decide +kernel), by decide +kernel, by decide +kernel⟩
theorem np_X5_slipper : z_np miX5_slipper 1 := by unfold z_np; decide +kernel
theorem st_X5_slipper : Cond.static (mY miX5_slipper) ∈ z_tb := z_w3 76 (by decide +kernel) (by decide +kernel)
def miX5_boot : MI := (yX5_boot, cX5_boot, 1, some .int, 1, 20)
theorem mk_X5_boot : z_MI miX5_boot := ⟨by decide +kernel, z_w3 80 (by decide +kernel) (by decide +kernel), z_w1 1 (by decide +kernel) (by decide +kernel), by decide +kernel, by decide +kernel⟩
theorem np_X5_boot : z_np miX5_boot 1 := by unfold z_np; decide +kernel
theorem st_X5_boot : Cond.static (mY miX5_boot) ∈ z_tb := z_w3 79 (by decide +kernel) (by decide +kernel)
def miX5_hearing : MI := (yX5_hearing, cX5_hearing, 3, some .int, 1, 23)
theorem mk_X5_hearing : z_MI miX5_hearing := ⟨by decide +kernel, z_w3 103 (by decide +kernel) (by decide +kernel), z_w1 1 (by decide +kernel) (by decide +kernel), by decide +kernel, by decide +kernel⟩
theorem np_X5_hearing : z_np miX5_hearing 3 := by unfold z_np; decide +kernel
theorem st_X5_hearing : Cond.static (mY miX5_hearing) ∈ z_tb := z_w3 102 (by decide +kernel) (by decide +kernel)
def miX5_light : MI := (yX5_light, cX5_light, 2, some .int, 0, 0)
theorem mk_X5_light : z_MI miX5_light := ⟨by decide +kernel, z_w3 106 (by decide +kernel) (by decide +kernel), z_w1 1 (by decide +kernel) (by decide +kernel), by decide +kernel, by decide +kernel⟩
theorem np_X5_light : z_np miX5_light 2 := by unfold z_np; decide +kernel
theorem st_X5_light : Cond.static (mY miX5_light) ∈ z_tb := z_w3 105 (by decide +kernel) (by decide +kernel)
def miX5_deaf : MI := (yX5_deaf, cX5_deaf, 2, some .int, 0, 0)
theorem mk_X5_deaf : z_MI miX5_deaf := ⟨by decide +kernel, z_w3 109 (by decide +kernel) (by decide +kernel), z_w1 1 (by decide +kernel) (by decide +kernel), by decide +kernel, by decide +kernel⟩
theorem np_X5_deaf : z_np miX5_deaf 2 := by unfold z_np; decide +kernel
theorem st_X5_deaf : Cond.static (mY miX5_deaf) ∈ z_tb := z_w3 108 (by decide +kernel) (by decide +kernel)
def miX6_init : MI := (yX6_init, cX6_init, 1, none, 1, 20)
theorem mk_X6_init : z_MI miX6_init := ⟨by decide +kernel, z_w4 132 (by decide +kernel) (by decide +kernel), z_w1 8 (by decide +kernel) (by decide +kernel), by decide +kernel, by decide +kernel⟩
theorem np_X6_init : z_np miX6_init 0 := by unfold z_np; decide +kernel
theorem im_X6_init : Cond.instanceMethod (mY miX6_init) ∈ z_tb := z_w4 131 (by decide +kernel) (by decide +kernel)
def miX6_in : MI := (yX6_in, cX6_in, 6, some .boolean, 0, 0)
theorem mk_X6_in : z_MI miX6_in := ⟨by decide +kernel, z_w4 214 (by decide +kernel) (by decide +kernel), z_w1 8 (by decide +kernel) (by decide +kernel), by decide +kernel, by decide +kernel⟩
theorem np_X6_in : z_np miX6_in 3 := by unfold z_np; decide +kernel
theorem st_X6_in : Cond.static (mY miX6_in) ∈ z_tb := z_w4 213 (by decide +kernel) (by decide +kernel)
def miX6_has : MI := (yX6_has, cX6_has, 2, some .boolean, 0, 0)
theorem mk_X6_has : z_MI miX6_has := ⟨by decide +kernel, z_w6 17 (by decide +kernel) (by decide +kernel), z_w1 8 (by decide +kernel) (by decide +kernel), by decide +kernel, by decide +kernel⟩
theorem np_X6_has : z_np miX6_has 2 := by unfold z_np; decide +kernel
theorem st_X6_has : Cond.static (mY miX6_has) ∈ z_tb := z_w6 16 (by decide +kernel) (by decide +kernel)
def miX6_ones : MI := (yX6_ones, cX6_ones, 3, some .int, 0, 0)
theorem mk_X6_ones : z_MI miX6_ones := ⟨by decide +kernel, z_w6 6 (by decide +kernel) (by decide +kernel), z_w1 8 (by decide +kernel) (by decide +kernel), by decide +kernel, by decide +kernel⟩
theorem np_X6_ones : z_np miX6_ones 1 := by unfold z_np; decide +kernel
theorem st_X6_ones : Cond.static (mY miX6_ones) ∈ z_tb := z_w6 5 (by decide +kernel) (by decide +kernel)
def miX6_bad : MI := (yX6_bad, cX6_bad, 2, some .int, 0, 0)
theorem mk_X6_bad : z_MI miX6_bad := ⟨by decide +kernel, z_w4 222 (by decide +kernel) (by decide +kernel), z_w1 8 (by decide +kernel) (by decide +kernel), by decide +kernel, by decide +kernel⟩
theorem np_X6_bad : z_np miX6_bad 1 := by unfold z_np; decide +kernel
theorem im_X6_bad : Cond.instanceMethod (mY miX6_bad) ∈ z_tb := z_w4 221 (by decide +kernel) (by decide +kernel)
theorem se_X6_bad : Cond.selects (mY miX6_bad).cls (mY miX6_bad) (mY miX6_bad) ∈ z_tb := z_wp_eq (z_wp3 10 rfl) rfl
def miX6_no : MI := (yX6_no, cX6_no, 1, some .int, 0, 0)
theorem mk_X6_no : z_MI miX6_no := ⟨by decide +kernel, z_w5 151 (by decide +kernel) (by decide +kernel), z_w1 8 (by decide +kernel) (by decide +kernel), by decide +kernel, by decide +kernel⟩
theorem np_X6_no : z_np miX6_no 0 := by unfold z_np; decide +kernel
theorem im_X6_no : Cond.instanceMethod (mY miX6_no) ∈ z_tb := z_w5 150 (by decide +kernel) (by decide +kernel)
theorem se_X6_no : Cond.selects (mY miX6_no).cls (mY miX6_no) (mY miX6_no) ∈ z_tb := z_wp_eq (z_wp5 8 rfl) rfl
def miX6_full : MI := (yX6_full, cX6_full, 1, some .int, 0, 0)
theorem mk_X6_full : z_MI miX6_full := ⟨by decide +kernel, z_w4 226 (by decide +kernel) (by decide +kernel), z_w1 8 (by decide +kernel) (by decide +kernel), by decide +kernel, by decide +kernel⟩
theorem np_X6_full : z_np miX6_full 0 := by unfold z_np; decide +kernel
theorem im_X6_full : Cond.instanceMethod (mY miX6_full) ∈ z_tb := z_w4 225 (by decide +kernel) (by decide +kernel)
theorem se_X6_full : Cond.selects (mY miX6_full).cls (mY miX6_full) (mY miX6_full) ∈ z_tb := z_wp_eq (z_wp3 11 rfl) rfl
def miX6_copy : MI := (yX6_copy, cX6_copy, 4, none, 0, 0)
theorem mk_X6_copy : z_MI miX6_copy := ⟨by decide +kernel, z_w5 118 (by decide +kernel) (by decide +kernel), z_w1 8 (by decide +kernel) (by decide +kernel), by decide +kernel, by decide +kernel⟩
theorem np_X6_copy : z_np miX6_copy 2 := by unfold z_np; decide +kernel
theorem im_X6_copy : Cond.instanceMethod (mY miX6_copy) ∈ z_tb := z_w5 117 (by decide +kernel) (by decide +kernel)
theorem se_X6_copy : Cond.selects (mY miX6_copy).cls (mY miX6_copy) (mY miX6_copy) ∈ z_tb := z_wp_eq (z_wp5 4 rfl) rfl
def miX6_empties : MI := (yX6_empties, cX6_empties, 3, none, 0, 0)
theorem mk_X6_empties : z_MI miX6_empties := ⟨by decide +kernel, z_w4 206 (by decide +kernel) (by decide +kernel), z_w1 8 (by decide +kernel) (by decide +kernel), by decide +kernel, by decide +kernel⟩
theorem np_X6_empties : z_np miX6_empties 1 := by unfold z_np; decide +kernel
theorem im_X6_empties : Cond.instanceMethod (mY miX6_empties) ∈ z_tb := z_w4 205 (by decide +kernel) (by decide +kernel)
theorem se_X6_empties : Cond.selects (mY miX6_empties).cls (mY miX6_empties) (mY miX6_empties) ∈ z_tb := z_wp_eq (z_wp3 8 rfl) rfl
def miX6_isGoer : MI := (yX6_isGoer, cX6_isGoer, 2, some .boolean, 1, 25)
theorem mk_X6_isGoer : z_MI miX6_isGoer := ⟨by decide +kernel, z_w5 135 (by decide +kernel) (by decide +kernel), z_w1 8 (by decide +kernel) (by decide +kernel), by decide +kernel, by decide +kernel⟩
theorem np_X6_isGoer : z_np miX6_isGoer 1 := by unfold z_np; decide +kernel
theorem im_X6_isGoer : Cond.instanceMethod (mY miX6_isGoer) ∈ z_tb := z_w5 134 (by decide +kernel) (by decide +kernel)
theorem se_X6_isGoer : Cond.selects (mY miX6_isGoer).cls (mY miX6_isGoer) (mY miX6_isGoer) ∈ z_tb := z_wp_eq (z_wp5 6 rfl) rfl
def miX6_isWindow : MI := (yX6_isWindow, cX6_isWindow, 2, some .boolean, 1, 25)
theorem mk_X6_isWindow : z_MI miX6_isWindow := ⟨by decide +kernel, z_w5 176 (by decide +kernel) (by decide +kernel), z_w1 8 (by decide +kernel) (by decide +kernel), by decide +kernel, by decide +kernel⟩
theorem np_X6_isWindow : z_np miX6_isWindow 1 := by unfold z_np; decide +kernel
theorem im_X6_isWindow : Cond.instanceMethod (mY miX6_isWindow) ∈ z_tb := z_w5 175 (by decide +kernel) (by decide +kernel)
theorem se_X6_isWindow : Cond.selects (mY miX6_isWindow).cls (mY miX6_isWindow) (mY miX6_isWindow) ∈ z_tb := z_wp_eq (z_wp5 10 rfl) rfl
def miX6_isLadder : MI := (yX6_isLadder, cX6_isLadder, 2, some .boolean, 1, 25)
theorem mk_X6_isLadder : z_MI miX6_isLadder := ⟨by decide +kernel, z_w5 143 (by decide +kernel) (by decide +kernel), z_w1 8 (by decide +kernel) (by decide +kernel), by decide +kernel, by decide +kernel⟩
theorem np_X6_isLadder : z_np miX6_isLadder 1 := by unfold z_np; decide +kernel
theorem im_X6_isLadder : Cond.instanceMethod (mY miX6_isLadder) ∈ z_tb := z_w5 142 (by decide +kernel) (by decide +kernel)
theorem se_X6_isLadder : Cond.selects (mY miX6_isLadder).cls (mY miX6_isLadder) (mY miX6_isLadder) ∈ z_tb := z_wp_eq (z_wp5 7 rfl) rfl
def miX6_isCell : MI := (yX6_isCell, cX6_isCell, 1, some .boolean, 1, 25)
theorem mk_X6_isCell : z_MI miX6_isCell := ⟨by decide +kernel, z_w4 238 (by decide +kernel) (by decide +kernel), z_w1 8 (by decide +kernel) (by decide +kernel), by decide +kernel, by decide +kernel⟩
theorem np_X6_isCell : z_np miX6_isCell 1 := by unfold z_np; decide +kernel
theorem st_X6_isCell : Cond.static (mY miX6_isCell) ∈ z_tb := z_w4 237 (by decide +kernel) (by decide +kernel)
def miX6_slipper : MI := (yX6_slipper, cX6_slipper, 1, some .int, 0, 0)
theorem mk_X6_slipper : z_MI miX6_slipper := ⟨by decide +kernel, z_w5 168 (by decide +kernel) (by decide +kernel), z_w1 8 (by decide +kernel) (by decide +kernel), by decide +kernel, by decide +kernel⟩
theorem np_X6_slipper : z_np miX6_slipper 1 := by unfold z_np; decide +kernel
theorem st_X6_slipper : Cond.static (mY miX6_slipper) ∈ z_tb := z_w5 167 (by decide +kernel) (by decide +kernel)
def miX6_boot : MI := (yX6_boot, cX6_boot, 1, some .int, 1, 20)
theorem mk_X6_boot : z_MI miX6_boot := ⟨by decide +kernel, z_w5 165 (by decide +kernel) (by decide +kernel), z_w1 8 (by decide +kernel) (by decide +kernel), by decide +kernel, by decide +kernel⟩
theorem np_X6_boot : z_np miX6_boot 1 := by unfold z_np; decide +kernel
theorem st_X6_boot : Cond.static (mY miX6_boot) ∈ z_tb := z_w5 164 (by decide +kernel) (by decide +kernel)
def miX6_loudOf : MI := (yX6_loudOf, cX6_loudOf, 3, some .int, 2, 40)
theorem mk_X6_loudOf : z_MI miX6_loudOf := ⟨by decide +kernel, z_w5 162 (by decide +kernel) (by decide +kernel), z_w1 8 (by decide +kernel) (by decide +kernel), by decide +kernel, by decide +kernel⟩
theorem np_X6_loudOf : z_np miX6_loudOf 3 := by unfold z_np; decide +kernel
theorem st_X6_loudOf : Cond.static (mY miX6_loudOf) ∈ z_tb := z_w5 161 (by decide +kernel) (by decide +kernel)
def miX6_light : MI := (yX6_light, cX6_light, 2, some .int, 0, 0)
theorem mk_X6_light : z_MI miX6_light := ⟨by decide +kernel, z_w5 196 (by decide +kernel) (by decide +kernel), z_w1 8 (by decide +kernel) (by decide +kernel), by decide +kernel, by decide +kernel⟩
theorem np_X6_light : z_np miX6_light 2 := by unfold z_np; decide +kernel
theorem st_X6_light : Cond.static (mY miX6_light) ∈ z_tb := z_w5 195 (by decide +kernel) (by decide +kernel)
def miX6_deaf : MI := (yX6_deaf, cX6_deaf, 2, some .int, 0, 0)
theorem mk_X6_deaf : z_MI miX6_deaf := ⟨by decide +kernel, z_w5 199 (by decide +kernel) (by decide +kernel), z_w1 8 (by decide +kernel) (by decide +kernel), by decide +kernel, by decide +kernel⟩
theorem np_X6_deaf : z_np miX6_deaf 2 := by unfold z_np; decide +kernel
theorem st_X6_deaf : Cond.static (mY miX6_deaf) ∈ z_tb := z_w5 198 (by decide +kernel) (by decide +kernel)
def miX6_heardOf : MI := (yX6_heardOf, cX6_heardOf, 3, some .int, 1, 21)
theorem mk_X6_heardOf : z_MI miX6_heardOf := ⟨by decide +kernel, z_w5 193 (by decide +kernel) (by decide +kernel), z_w1 8 (by decide +kernel) (by decide +kernel), by decide +kernel, by decide +kernel⟩
theorem np_X6_heardOf : z_np miX6_heardOf 3 := by unfold z_np; decide +kernel
theorem st_X6_heardOf : Cond.static (mY miX6_heardOf) ∈ z_tb := z_w5 192 (by decide +kernel) (by decide +kernel)
def miX6_back : MI := (yX6_back, cX6_back, 2, some .int, 1, 22)
theorem mk_X6_back : z_MI miX6_back := ⟨by decide +kernel, z_w4 202 (by decide +kernel) (by decide +kernel), z_w1 8 (by decide +kernel) (by decide +kernel), by decide +kernel, by decide +kernel⟩
theorem np_X6_back : z_np miX6_back 0 := by unfold z_np; decide +kernel
theorem im_X6_back : Cond.instanceMethod (mY miX6_back) ∈ z_tb := z_w4 200 (by decide +kernel) (by decide +kernel)
theorem se_X6_back : Cond.selects (mY miX6_back).cls (mY miX6_back) (mY miX6_back) ∈ z_tb := z_w4 201 (by decide +kernel) (by decide +kernel)
def miX6_hasLadder : MI := (yX6_hasLadder, cX6_hasLadder, 5, some .boolean, 0, 0)
theorem mk_X6_hasLadder : z_MI miX6_hasLadder := ⟨by decide +kernel, z_w4 218 (by decide +kernel) (by decide +kernel), z_w1 8 (by decide +kernel) (by decide +kernel), by decide +kernel, by decide +kernel⟩
theorem np_X6_hasLadder : z_np miX6_hasLadder 2 := by unfold z_np; decide +kernel
theorem im_X6_hasLadder : Cond.instanceMethod (mY miX6_hasLadder) ∈ z_tb := z_w4 217 (by decide +kernel) (by decide +kernel)
theorem se_X6_hasLadder : Cond.selects (mY miX6_hasLadder).cls (mY miX6_hasLadder) (mY miX6_hasLadder) ∈ z_tb := z_wp_eq (z_wp3 9 rfl) rfl
def miX6_addsLadder : MI := (yX6_addsLadder, cX6_addsLadder, 3, none, 0, 0)
theorem mk_X6_addsLadder : z_MI miX6_addsLadder := ⟨by decide +kernel, z_w4 230 (by decide +kernel) (by decide +kernel), z_w1 8 (by decide +kernel) (by decide +kernel), by decide +kernel, by decide +kernel⟩
theorem np_X6_addsLadder : z_np miX6_addsLadder 2 := by unfold z_np; decide +kernel
theorem im_X6_addsLadder : Cond.instanceMethod (mY miX6_addsLadder) ∈ z_tb := z_w4 229 (by decide +kernel) (by decide +kernel)
theorem se_X6_addsLadder : Cond.selects (mY miX6_addsLadder).cls (mY miX6_addsLadder) (mY miX6_addsLadder) ∈ z_tb := z_wp_eq (z_wp3 12 rfl) rfl
def miX6_ladder : MI := (yX6_ladder, cX6_ladder, 2, some .int, 1, 25)
theorem mk_X6_ladder : z_MI miX6_ladder := ⟨by decide +kernel, z_w4 210 (by decide +kernel) (by decide +kernel), z_w1 8 (by decide +kernel) (by decide +kernel), by decide +kernel, by decide +kernel⟩
theorem np_X6_ladder : z_np miX6_ladder 1 := by unfold z_np; decide +kernel
theorem im_X6_ladder : Cond.instanceMethod (mY miX6_ladder) ∈ z_tb := z_w4 208 (by decide +kernel) (by decide +kernel)
theorem se_X6_ladder : Cond.selects (mY miX6_ladder).cls (mY miX6_ladder) (mY miX6_ladder) ∈ z_tb := z_w4 209 (by decide +kernel) (by decide +kernel)
def miX6_addsGoer : MI := (yX6_addsGoer, cX6_addsGoer, 6, none, 0, 0)
theorem mk_X6_addsGoer : z_MI miX6_addsGoer := ⟨by decide +kernel, z_w5 3 (by decide +kernel) (by decide +kernel), z_w1 8 (by decide +kernel) (by decide +kernel), by decide +kernel, by decide +kernel⟩
theorem np_X6_addsGoer : z_np miX6_addsGoer 4 := by unfold z_np; decide +kernel
theorem im_X6_addsGoer : Cond.instanceMethod (mY miX6_addsGoer) ∈ z_tb := z_w5 2 (by decide +kernel) (by decide +kernel)
theorem se_X6_addsGoer : Cond.selects (mY miX6_addsGoer).cls (mY miX6_addsGoer) (mY miX6_addsGoer) ∈ z_tb := z_wp_eq (z_wp3 13 rfl) rfl
def miX6_goer : MI := (yX6_goer, cX6_goer, 4, some .int, 2, 45)
theorem mk_X6_goer : z_MI miX6_goer := ⟨by decide +kernel, z_w4 234 (by decide +kernel) (by decide +kernel), z_w1 8 (by decide +kernel) (by decide +kernel), by decide +kernel, by decide +kernel⟩
theorem np_X6_goer : z_np miX6_goer 3 := by unfold z_np; decide +kernel
theorem im_X6_goer : Cond.instanceMethod (mY miX6_goer) ∈ z_tb := z_w4 232 (by decide +kernel) (by decide +kernel)
theorem se_X6_goer : Cond.selects (mY miX6_goer).cls (mY miX6_goer) (mY miX6_goer) ∈ z_tb := z_w4 233 (by decide +kernel) (by decide +kernel)
def miX6_addsWindow : MI := (yX6_addsWindow, cX6_addsWindow, 4, none, 0, 0)
theorem mk_X6_addsWindow : z_MI miX6_addsWindow := ⟨by decide +kernel, z_w5 11 (by decide +kernel) (by decide +kernel), z_w1 8 (by decide +kernel) (by decide +kernel), by decide +kernel, by decide +kernel⟩
theorem np_X6_addsWindow : z_np miX6_addsWindow 3 := by unfold z_np; decide +kernel
theorem im_X6_addsWindow : Cond.instanceMethod (mY miX6_addsWindow) ∈ z_tb := z_w5 10 (by decide +kernel) (by decide +kernel)
theorem se_X6_addsWindow : Cond.selects (mY miX6_addsWindow).cls (mY miX6_addsWindow) (mY miX6_addsWindow) ∈ z_tb := z_wp_eq (z_wp3 14 rfl) rfl
def miX6_window : MI := (yX6_window, cX6_window, 3, some .int, 2, 45)
theorem mk_X6_window : z_MI miX6_window := ⟨by decide +kernel, z_w5 7 (by decide +kernel) (by decide +kernel), z_w1 8 (by decide +kernel) (by decide +kernel), by decide +kernel, by decide +kernel⟩
theorem np_X6_window : z_np miX6_window 2 := by unfold z_np; decide +kernel
theorem im_X6_window : Cond.instanceMethod (mY miX6_window) ∈ z_tb := z_w5 5 (by decide +kernel) (by decide +kernel)
theorem se_X6_window : Cond.selects (mY miX6_window).cls (mY miX6_window) (mY miX6_window) ∈ z_tb := z_w5 6 (by decide +kernel) (by decide +kernel)
def miX6_type : MI := (yX6_type, cX6_type, 2, some .int, 1, 25)
theorem mk_X6_type : z_MI miX6_type := ⟨by decide +kernel, z_w5 15 (by decide +kernel) (by decide +kernel), z_w1 8 (by decide +kernel) (by decide +kernel), by decide +kernel, by decide +kernel⟩
theorem np_X6_type : z_np miX6_type 1 := by unfold z_np; decide +kernel
theorem im_X6_type : Cond.instanceMethod (mY miX6_type) ∈ z_tb := z_w5 13 (by decide +kernel) (by decide +kernel)
theorem se_X6_type : Cond.selects (mY miX6_type).cls (mY miX6_type) (mY miX6_type) ∈ z_tb := z_w5 14 (by decide +kernel) (by decide +kernel)
def miX6_clear : MI := (yX6_clear, cX6_clear, 2, some .int, 0, 0)
theorem mk_X6_clear : z_MI miX6_clear := ⟨by decide +kernel, z_w5 20 (by decide +kernel) (by decide +kernel), z_w1 8 (by decide +kernel) (by decide +kernel), by decide +kernel, by decide +kernel⟩
theorem np_X6_clear : z_np miX6_clear 0 := by unfold z_np; decide +kernel
theorem im_X6_clear : Cond.instanceMethod (mY miX6_clear) ∈ z_tb := z_w5 18 (by decide +kernel) (by decide +kernel)
theorem se_X6_clear : Cond.selects (mY miX6_clear).cls (mY miX6_clear) (mY miX6_clear) ∈ z_tb := z_w5 19 (by decide +kernel) (by decide +kernel)
def miX6_byteAt : MI := (yX6_byteAt, cX6_byteAt, 2, some .int, 0, 0)
theorem mk_X6_byteAt : z_MI miX6_byteAt := ⟨by decide +kernel, z_w5 32 (by decide +kernel) (by decide +kernel), z_w1 8 (by decide +kernel) (by decide +kernel), by decide +kernel, by decide +kernel⟩
theorem np_X6_byteAt : z_np miX6_byteAt 1 := by unfold z_np; decide +kernel
theorem im_X6_byteAt : Cond.instanceMethod (mY miX6_byteAt) ∈ z_tb := z_w5 31 (by decide +kernel) (by decide +kernel)
theorem se_X6_byteAt : Cond.selects (mY miX6_byteAt).cls (mY miX6_byteAt) (mY miX6_byteAt) ∈ z_tb := z_wp_eq (z_wp4 0 rfl) rfl
def miX6_blanks : MI := (yX6_blanks, cX6_blanks, 1, none, 1, 21)
theorem mk_X6_blanks : z_MI miX6_blanks := ⟨by decide +kernel, z_w5 28 (by decide +kernel) (by decide +kernel), z_w1 8 (by decide +kernel) (by decide +kernel), by decide +kernel, by decide +kernel⟩
theorem np_X6_blanks : z_np miX6_blanks 0 := by unfold z_np; decide +kernel
theorem im_X6_blanks : Cond.instanceMethod (mY miX6_blanks) ∈ z_tb := z_w5 27 (by decide +kernel) (by decide +kernel)
theorem se_X6_blanks : Cond.selects (mY miX6_blanks).cls (mY miX6_blanks) (mY miX6_blanks) ∈ z_tb := z_wp_eq (z_wp3 15 rfl) rfl
def miX6_takesWord : MI := (yX6_takesWord, cX6_takesWord, 1, none, 2, 41)
theorem mk_X6_takesWord : z_MI miX6_takesWord := ⟨by decide +kernel, z_w5 40 (by decide +kernel) (by decide +kernel), z_w1 8 (by decide +kernel) (by decide +kernel), by decide +kernel, by decide +kernel⟩
theorem np_X6_takesWord : z_np miX6_takesWord 0 := by unfold z_np; decide +kernel
theorem im_X6_takesWord : Cond.instanceMethod (mY miX6_takesWord) ∈ z_tb := z_w5 39 (by decide +kernel) (by decide +kernel)
theorem se_X6_takesWord : Cond.selects (mY miX6_takesWord).cls (mY miX6_takesWord) (mY miX6_takesWord) ∈ z_tb := z_wp_eq (z_wp4 2 rfl) rfl
def miX6_isWord : MI := (yX6_isWord, cX6_isWord, 9, some .boolean, 1, 23)
theorem mk_X6_isWord : z_MI miX6_isWord := ⟨by decide +kernel, z_w5 50 (by decide +kernel) (by decide +kernel), z_w1 8 (by decide +kernel) (by decide +kernel), by decide +kernel, by decide +kernel⟩
theorem np_X6_isWord : z_np miX6_isWord 7 := by unfold z_np; decide +kernel
theorem im_X6_isWord : Cond.instanceMethod (mY miX6_isWord) ∈ z_tb := z_w5 49 (by decide +kernel) (by decide +kernel)
theorem se_X6_isWord : Cond.selects (mY miX6_isWord).cls (mY miX6_isWord) (mY miX6_isWord) ∈ z_tb := z_wp_eq (z_wp4 4 rfl) rfl
def miX6_isLetter : MI := (yX6_isLetter, cX6_isLetter, 4, some .boolean, 0, 0)
theorem mk_X6_isLetter : z_MI miX6_isLetter := ⟨by decide +kernel, z_w5 54 (by decide +kernel) (by decide +kernel), z_w1 8 (by decide +kernel) (by decide +kernel), by decide +kernel, by decide +kernel⟩
theorem np_X6_isLetter : z_np miX6_isLetter 3 := by unfold z_np; decide +kernel
theorem im_X6_isLetter : Cond.instanceMethod (mY miX6_isLetter) ∈ z_tb := z_w5 53 (by decide +kernel) (by decide +kernel)
theorem se_X6_isLetter : Cond.selects (mY miX6_isLetter).cls (mY miX6_isLetter) (mY miX6_isLetter) ∈ z_tb := z_wp_eq (z_wp4 5 rfl) rfl
def miX6_wordOf : MI := (yX6_wordOf, cX6_wordOf, 1, some .int, 2, 51)
theorem mk_X6_wordOf : z_MI miX6_wordOf := ⟨by decide +kernel, z_w5 46 (by decide +kernel) (by decide +kernel), z_w1 8 (by decide +kernel) (by decide +kernel), by decide +kernel, by decide +kernel⟩
theorem np_X6_wordOf : z_np miX6_wordOf 0 := by unfold z_np; decide +kernel
theorem im_X6_wordOf : Cond.instanceMethod (mY miX6_wordOf) ∈ z_tb := z_w5 45 (by decide +kernel) (by decide +kernel)
theorem se_X6_wordOf : Cond.selects (mY miX6_wordOf).cls (mY miX6_wordOf) (mY miX6_wordOf) ∈ z_tb := z_wp_eq (z_wp4 3 rfl) rfl
def miX6_takesNumber : MI := (yX6_takesNumber, cX6_takesNumber, 3, some .boolean, 2, 41)
theorem mk_X6_takesNumber : z_MI miX6_takesNumber := ⟨by decide +kernel, z_w5 62 (by decide +kernel) (by decide +kernel), z_w1 8 (by decide +kernel) (by decide +kernel), by decide +kernel, by decide +kernel⟩
theorem np_X6_takesNumber : z_np miX6_takesNumber 2 := by unfold z_np; decide +kernel
theorem im_X6_takesNumber : Cond.instanceMethod (mY miX6_takesNumber) ∈ z_tb := z_w5 61 (by decide +kernel) (by decide +kernel)
theorem se_X6_takesNumber : Cond.selects (mY miX6_takesNumber).cls (mY miX6_takesNumber) (mY miX6_takesNumber) ∈ z_tb := z_wp_eq (z_wp4 7 rfl) rfl
def miX6_takesEnd : MI := (yX6_takesEnd, cX6_takesEnd, 1, some .boolean, 2, 41)
theorem mk_X6_takesEnd : z_MI miX6_takesEnd := ⟨by decide +kernel, z_w5 114 (by decide +kernel) (by decide +kernel), z_w1 8 (by decide +kernel) (by decide +kernel), by decide +kernel, by decide +kernel⟩
theorem np_X6_takesEnd : z_np miX6_takesEnd 0 := by unfold z_np; decide +kernel
theorem im_X6_takesEnd : Cond.instanceMethod (mY miX6_takesEnd) ∈ z_tb := z_w5 113 (by decide +kernel) (by decide +kernel)
theorem se_X6_takesEnd : Cond.selects (mY miX6_takesEnd).cls (mY miX6_takesEnd) (mY miX6_takesEnd) ∈ z_tb := z_wp_eq (z_wp5 3 rfl) rfl
def miX6_readsLadder : MI := (yX6_readsLadder, cX6_readsLadder, 1, some .boolean, 3, 63)
theorem mk_X6_readsLadder : z_MI miX6_readsLadder := ⟨by decide +kernel, z_w5 58 (by decide +kernel) (by decide +kernel), z_w1 8 (by decide +kernel) (by decide +kernel), by decide +kernel, by decide +kernel⟩
theorem np_X6_readsLadder : z_np miX6_readsLadder 0 := by unfold z_np; decide +kernel
theorem im_X6_readsLadder : Cond.instanceMethod (mY miX6_readsLadder) ∈ z_tb := z_w5 57 (by decide +kernel) (by decide +kernel)
theorem se_X6_readsLadder : Cond.selects (mY miX6_readsLadder).cls (mY miX6_readsLadder) (mY miX6_readsLadder) ∈ z_tb := z_wp_eq (z_wp4 6 rfl) rfl
def miX6_readsGoer : MI := (yX6_readsGoer, cX6_readsGoer, 3, some .boolean, 3, 63)
theorem mk_X6_readsGoer : z_MI miX6_readsGoer := ⟨by decide +kernel, z_w5 69 (by decide +kernel) (by decide +kernel), z_w1 8 (by decide +kernel) (by decide +kernel), by decide +kernel, by decide +kernel⟩
theorem np_X6_readsGoer : z_np miX6_readsGoer 0 := by unfold z_np; decide +kernel
theorem im_X6_readsGoer : Cond.instanceMethod (mY miX6_readsGoer) ∈ z_tb := z_w5 68 (by decide +kernel) (by decide +kernel)
theorem se_X6_readsGoer : Cond.selects (mY miX6_readsGoer).cls (mY miX6_readsGoer) (mY miX6_readsGoer) ∈ z_tb := z_wp_eq (z_wp4 8 rfl) rfl
def miX6_readsWindow : MI := (yX6_readsWindow, cX6_readsWindow, 2, some .boolean, 3, 63)
theorem mk_X6_readsWindow : z_MI miX6_readsWindow := ⟨by decide +kernel, z_w5 73 (by decide +kernel) (by decide +kernel), z_w1 8 (by decide +kernel) (by decide +kernel), by decide +kernel, by decide +kernel⟩
theorem np_X6_readsWindow : z_np miX6_readsWindow 0 := by unfold z_np; decide +kernel
theorem im_X6_readsWindow : Cond.instanceMethod (mY miX6_readsWindow) ∈ z_tb := z_w5 72 (by decide +kernel) (by decide +kernel)
theorem se_X6_readsWindow : Cond.selects (mY miX6_readsWindow).cls (mY miX6_readsWindow) (mY miX6_readsWindow) ∈ z_tb := z_wp_eq (z_wp4 9 rfl) rfl
def miX6_readsTurn : MI := (yX6_readsTurn, cX6_readsTurn, 1, some .boolean, 3, 63)
theorem mk_X6_readsTurn : z_MI miX6_readsTurn := ⟨by decide +kernel, z_w5 77 (by decide +kernel) (by decide +kernel), z_w1 8 (by decide +kernel) (by decide +kernel), by decide +kernel, by decide +kernel⟩
theorem np_X6_readsTurn : z_np miX6_readsTurn 0 := by unfold z_np; decide +kernel
theorem im_X6_readsTurn : Cond.instanceMethod (mY miX6_readsTurn) ∈ z_tb := z_w5 76 (by decide +kernel) (by decide +kernel)
theorem se_X6_readsTurn : Cond.selects (mY miX6_readsTurn).cls (mY miX6_readsTurn) (mY miX6_readsTurn) ∈ z_tb := z_wp_eq (z_wp4 10 rfl) rfl
def miX6_readsDraw : MI := (yX6_readsDraw, cX6_readsDraw, 1, some .boolean, 3, 63)
theorem mk_X6_readsDraw : z_MI miX6_readsDraw := ⟨by decide +kernel, z_w5 81 (by decide +kernel) (by decide +kernel), z_w1 8 (by decide +kernel) (by decide +kernel), by decide +kernel, by decide +kernel⟩
theorem np_X6_readsDraw : z_np miX6_readsDraw 0 := by unfold z_np; decide +kernel
theorem im_X6_readsDraw : Cond.instanceMethod (mY miX6_readsDraw) ∈ z_tb := z_w5 80 (by decide +kernel) (by decide +kernel)
theorem se_X6_readsDraw : Cond.selects (mY miX6_readsDraw).cls (mY miX6_readsDraw) (mY miX6_readsDraw) ∈ z_tb := z_wp_eq (z_wp4 11 rfl) rfl
def miX6_readsMinutes : MI := (yX6_readsMinutes, cX6_readsMinutes, 2, some .boolean, 5, 123)
theorem mk_X6_readsMinutes : z_MI miX6_readsMinutes := ⟨by decide +kernel, z_w5 85 (by decide +kernel) (by decide +kernel), z_w1 8 (by decide +kernel) (by decide +kernel), by decide +kernel, by decide +kernel⟩
theorem np_X6_readsMinutes : z_np miX6_readsMinutes 0 := by unfold z_np; decide +kernel
theorem im_X6_readsMinutes : Cond.instanceMethod (mY miX6_readsMinutes) ∈ z_tb := z_w5 84 (by decide +kernel) (by decide +kernel)
theorem se_X6_readsMinutes : Cond.selects (mY miX6_readsMinutes).cls (mY miX6_readsMinutes) (mY miX6_readsMinutes) ∈ z_tb := z_wp_eq (z_wp4 12 rfl) rfl
def miX6_readsItem : MI := (yX6_readsItem, cX6_readsItem, 4, some .boolean, 6, 144)
theorem mk_X6_readsItem : z_MI miX6_readsItem := ⟨by decide +kernel, z_w5 36 (by decide +kernel) (by decide +kernel), z_w1 8 (by decide +kernel) (by decide +kernel), by decide +kernel, by decide +kernel⟩
theorem np_X6_readsItem : z_np miX6_readsItem 1 := by unfold z_np; decide +kernel
theorem im_X6_readsItem : Cond.instanceMethod (mY miX6_readsItem) ∈ z_tb := z_w5 35 (by decide +kernel) (by decide +kernel)
theorem se_X6_readsItem : Cond.selects (mY miX6_readsItem).cls (mY miX6_readsItem) (mY miX6_readsItem) ∈ z_tb := z_wp_eq (z_wp4 1 rfl) rfl
def miX6_read : MI := (yX6_read, cX6_read, 3, some .int, 7, 167)
theorem mk_X6_read : z_MI miX6_read := ⟨by decide +kernel, z_w5 24 (by decide +kernel) (by decide +kernel), z_w1 8 (by decide +kernel) (by decide +kernel), by decide +kernel, by decide +kernel⟩
theorem np_X6_read : z_np miX6_read 0 := by unfold z_np; decide +kernel
theorem im_X6_read : Cond.instanceMethod (mY miX6_read) ∈ z_tb := z_w5 22 (by decide +kernel) (by decide +kernel)
theorem se_X6_read : Cond.selects (mY miX6_read).cls (mY miX6_read) (mY miX6_read) ∈ z_tb := z_w5 23 (by decide +kernel) (by decide +kernel)
def miX6_isLadderDown : MI := (yX6_isLadderDown, cX6_isLadderDown, 5, some .boolean, 0, 0)
theorem mk_X6_isLadderDown : z_MI miX6_isLadderDown := ⟨by decide +kernel, z_w5 110 (by decide +kernel) (by decide +kernel), z_w1 8 (by decide +kernel) (by decide +kernel), by decide +kernel, by decide +kernel⟩
theorem np_X6_isLadderDown : z_np miX6_isLadderDown 2 := by unfold z_np; decide +kernel
theorem im_X6_isLadderDown : Cond.instanceMethod (mY miX6_isLadderDown) ∈ z_tb := z_w5 109 (by decide +kernel) (by decide +kernel)
theorem se_X6_isLadderDown : Cond.selects (mY miX6_isLadderDown).cls (mY miX6_isLadderDown) (mY miX6_isLadderDown) ∈ z_tb := z_wp_eq (z_wp5 2 rfl) rfl
def miX6_leads : MI := (yX6_leads, cX6_leads, 6, some .boolean, 1, 24)
theorem mk_X6_leads : z_MI miX6_leads := ⟨by decide +kernel, z_w5 106 (by decide +kernel) (by decide +kernel), z_w1 8 (by decide +kernel) (by decide +kernel), by decide +kernel, by decide +kernel⟩
theorem np_X6_leads : z_np miX6_leads 3 := by unfold z_np; decide +kernel
theorem im_X6_leads : Cond.instanceMethod (mY miX6_leads) ∈ z_tb := z_w5 105 (by decide +kernel) (by decide +kernel)
theorem se_X6_leads : Cond.selects (mY miX6_leads).cls (mY miX6_leads) (mY miX6_leads) ∈ z_tb := z_wp_eq (z_wp5 1 rfl) rfl
def miX6_laysAway : MI := (yX6_laysAway, cX6_laysAway, 7, none, 2, 49)
theorem mk_X6_laysAway : z_MI miX6_laysAway := ⟨by decide +kernel, z_w5 101 (by decide +kernel) (by decide +kernel), z_w1 8 (by decide +kernel) (by decide +kernel), by decide +kernel, by decide +kernel⟩
theorem np_X6_laysAway : z_np miX6_laysAway 2 := by unfold z_np; decide +kernel
theorem im_X6_laysAway : Cond.instanceMethod (mY miX6_laysAway) ∈ z_tb := z_w5 100 (by decide +kernel) (by decide +kernel)
theorem se_X6_laysAway : Cond.selects (mY miX6_laysAway).cls (mY miX6_laysAway) (mY miX6_laysAway) ∈ z_tb := z_wp_eq (z_wp5 0 rfl) rfl
def miX6_goalOf : MI := (yX6_goalOf, cX6_goalOf, 3, some .int, 0, 0)
theorem mk_X6_goalOf : z_MI miX6_goalOf := ⟨by decide +kernel, z_w5 97 (by decide +kernel) (by decide +kernel), z_w1 8 (by decide +kernel) (by decide +kernel), by decide +kernel, by decide +kernel⟩
theorem np_X6_goalOf : z_np miX6_goalOf 2 := by unfold z_np; decide +kernel
theorem im_X6_goalOf : Cond.instanceMethod (mY miX6_goalOf) ∈ z_tb := z_w5 96 (by decide +kernel) (by decide +kernel)
theorem se_X6_goalOf : Cond.selects (mY miX6_goalOf).cls (mY miX6_goalOf) (mY miX6_goalOf) ∈ z_tb := z_wp_eq (z_wp4 15 rfl) rfl
def miX6_nextOf : MI := (yX6_nextOf, cX6_nextOf, 6, some .int, 3, 75)
theorem mk_X6_nextOf : z_MI miX6_nextOf := ⟨by decide +kernel, z_w5 93 (by decide +kernel) (by decide +kernel), z_w1 8 (by decide +kernel) (by decide +kernel), by decide +kernel, by decide +kernel⟩
theorem np_X6_nextOf : z_np miX6_nextOf 2 := by unfold z_np; decide +kernel
theorem im_X6_nextOf : Cond.instanceMethod (mY miX6_nextOf) ∈ z_tb := z_w5 92 (by decide +kernel) (by decide +kernel)
theorem se_X6_nextOf : Cond.selects (mY miX6_nextOf).cls (mY miX6_nextOf) (mY miX6_nextOf) ∈ z_tb := z_wp_eq (z_wp4 14 rfl) rfl
def miX6_passes : MI := (yX6_passes, cX6_passes, 4, some .int, 4, 100)
theorem mk_X6_passes : z_MI miX6_passes := ⟨by decide +kernel, z_w5 89 (by decide +kernel) (by decide +kernel), z_w1 8 (by decide +kernel) (by decide +kernel), by decide +kernel, by decide +kernel⟩
theorem np_X6_passes : z_np miX6_passes 1 := by unfold z_np; decide +kernel
theorem im_X6_passes : Cond.instanceMethod (mY miX6_passes) ∈ z_tb := z_w5 88 (by decide +kernel) (by decide +kernel)
theorem se_X6_passes : Cond.selects (mY miX6_passes).cls (mY miX6_passes) (mY miX6_passes) ∈ z_tb := z_wp_eq (z_wp4 13 rfl) rfl
def miX6_minds : MI := (yX6_minds, cX6_minds, 3, none, 0, 0)
theorem mk_X6_minds : z_MI miX6_minds := ⟨by decide +kernel, z_w5 127 (by decide +kernel) (by decide +kernel), z_w1 8 (by decide +kernel) (by decide +kernel), by decide +kernel, by decide +kernel⟩
theorem np_X6_minds : z_np miX6_minds 0 := by unfold z_np; decide +kernel
theorem im_X6_minds : Cond.instanceMethod (mY miX6_minds) ∈ z_tb := z_w5 126 (by decide +kernel) (by decide +kernel)
theorem se_X6_minds : Cond.selects (mY miX6_minds).cls (mY miX6_minds) (mY miX6_minds) ∈ z_tb := z_wp_eq (z_wp5 5 rfl) rfl
def miX6_minutes : MI := (yX6_minutes, cX6_minutes, 4, some .int, 5, 123)
theorem mk_X6_minutes : z_MI miX6_minutes := ⟨by decide +kernel, z_w5 122 (by decide +kernel) (by decide +kernel), z_w1 8 (by decide +kernel) (by decide +kernel), by decide +kernel, by decide +kernel⟩
theorem np_X6_minutes : z_np miX6_minutes 1 := by unfold z_np; decide +kernel
theorem im_X6_minutes : Cond.instanceMethod (mY miX6_minutes) ∈ z_tb := z_w5 120 (by decide +kernel) (by decide +kernel)
theorem se_X6_minutes : Cond.selects (mY miX6_minutes).cls (mY miX6_minutes) (mY miX6_minutes) ∈ z_tb := z_w5 121 (by decide +kernel) (by decide +kernel)
def miX6_turns : MI := (yX6_turns, cX6_turns, 2, some .int, 2, 46)
theorem mk_X6_turns : z_MI miX6_turns := ⟨by decide +kernel, z_w5 131 (by decide +kernel) (by decide +kernel), z_w1 8 (by decide +kernel) (by decide +kernel), by decide +kernel, by decide +kernel⟩
theorem np_X6_turns : z_np miX6_turns 1 := by unfold z_np; decide +kernel
theorem im_X6_turns : Cond.instanceMethod (mY miX6_turns) ∈ z_tb := z_w5 129 (by decide +kernel) (by decide +kernel)
theorem se_X6_turns : Cond.selects (mY miX6_turns).cls (mY miX6_turns) (mY miX6_turns) ∈ z_tb := z_w5 130 (by decide +kernel) (by decide +kernel)
def miX6_draws : MI := (yX6_draws, cX6_draws, 2, some .int, 2, 46)
theorem mk_X6_draws : z_MI miX6_draws := ⟨by decide +kernel, z_w5 139 (by decide +kernel) (by decide +kernel), z_w1 8 (by decide +kernel) (by decide +kernel), by decide +kernel, by decide +kernel⟩
theorem np_X6_draws : z_np miX6_draws 1 := by unfold z_np; decide +kernel
theorem im_X6_draws : Cond.instanceMethod (mY miX6_draws) ∈ z_tb := z_w5 137 (by decide +kernel) (by decide +kernel)
theorem se_X6_draws : Cond.selects (mY miX6_draws).cls (mY miX6_draws) (mY miX6_draws) ∈ z_tb := z_w5 138 (by decide +kernel) (by decide +kernel)
def miX6_undo : MI := (yX6_undo, cX6_undo, 3, some .int, 1, 20)
theorem mk_X6_undo : z_MI miX6_undo := ⟨by decide +kernel, z_w5 147 (by decide +kernel) (by decide +kernel), z_w1 8 (by decide +kernel) (by decide +kernel), by decide +kernel, by decide +kernel⟩
theorem np_X6_undo : z_np miX6_undo 0 := by unfold z_np; decide +kernel
theorem im_X6_undo : Cond.instanceMethod (mY miX6_undo) ∈ z_tb := z_w5 145 (by decide +kernel) (by decide +kernel)
theorem se_X6_undo : Cond.selects (mY miX6_undo).cls (mY miX6_undo) (mY miX6_undo) ∈ z_tb := z_w5 146 (by decide +kernel) (by decide +kernel)
def miX6_loudIn : MI := (yX6_loudIn, cX6_loudIn, 3, some .int, 4, 100)
theorem mk_X6_loudIn : z_MI miX6_loudIn := ⟨by decide +kernel, z_w5 159 (by decide +kernel) (by decide +kernel), z_w1 8 (by decide +kernel) (by decide +kernel), by decide +kernel, by decide +kernel⟩
theorem np_X6_loudIn : z_np miX6_loudIn 2 := by unfold z_np; decide +kernel
theorem im_X6_loudIn : Cond.instanceMethod (mY miX6_loudIn) ∈ z_tb := z_w5 158 (by decide +kernel) (by decide +kernel)
theorem se_X6_loudIn : Cond.selects (mY miX6_loudIn).cls (mY miX6_loudIn) (mY miX6_loudIn) ∈ z_tb := z_wp_eq (z_wp5 9 rfl) rfl
def miX6_of : MI := (yX6_of, cX6_of, 3, some .int, 5, 122)
theorem mk_X6_of : z_MI miX6_of := ⟨by decide +kernel, z_w5 155 (by decide +kernel) (by decide +kernel), z_w1 8 (by decide +kernel) (by decide +kernel), by decide +kernel, by decide +kernel⟩
theorem np_X6_of : z_np miX6_of 2 := by unfold z_np; decide +kernel
theorem im_X6_of : Cond.instanceMethod (mY miX6_of) ∈ z_tb := z_w5 153 (by decide +kernel) (by decide +kernel)
theorem se_X6_of : Cond.selects (mY miX6_of).cls (mY miX6_of) (mY miX6_of) ∈ z_tb := z_w5 154 (by decide +kernel) (by decide +kernel)
def miX6_size : MI := (yX6_size, cX6_size, 1, some .int, 0, 0)
theorem mk_X6_size : z_MI miX6_size := ⟨by decide +kernel, z_w5 190 (by decide +kernel) (by decide +kernel), z_w1 8 (by decide +kernel) (by decide +kernel), by decide +kernel, by decide +kernel⟩
theorem np_X6_size : z_np miX6_size 1 := by unfold z_np; decide +kernel
theorem st_X6_size : Cond.static (mY miX6_size) ∈ z_tb := z_w5 189 (by decide +kernel) (by decide +kernel)
def miX6_apart : MI := (yX6_apart, cX6_apart, 2, some .int, 1, 20)
theorem mk_X6_apart : z_MI miX6_apart := ⟨by decide +kernel, z_w5 187 (by decide +kernel) (by decide +kernel), z_w1 8 (by decide +kernel) (by decide +kernel), by decide +kernel, by decide +kernel⟩
theorem np_X6_apart : z_np miX6_apart 2 := by unfold z_np; decide +kernel
theorem st_X6_apart : Cond.static (mY miX6_apart) ∈ z_tb := z_w5 186 (by decide +kernel) (by decide +kernel)
def miX6_hearsIn : MI := (yX6_hearsIn, cX6_hearsIn, 5, some .boolean, 5, 122)
theorem mk_X6_hearsIn : z_MI miX6_hearsIn := ⟨by decide +kernel, z_w5 184 (by decide +kernel) (by decide +kernel), z_w1 8 (by decide +kernel) (by decide +kernel), by decide +kernel, by decide +kernel⟩
theorem np_X6_hearsIn : z_np miX6_hearsIn 3 := by unfold z_np; decide +kernel
theorem im_X6_hearsIn : Cond.instanceMethod (mY miX6_hearsIn) ∈ z_tb := z_w5 183 (by decide +kernel) (by decide +kernel)
theorem se_X6_hearsIn : Cond.selects (mY miX6_hearsIn).cls (mY miX6_hearsIn) (mY miX6_hearsIn) ∈ z_tb := z_wp_eq (z_wp5 12 rfl) rfl
def miX6_heardBy : MI := (yX6_heardBy, cX6_heardBy, 5, some .int, 6, 146)
theorem mk_X6_heardBy : z_MI miX6_heardBy := ⟨by decide +kernel, z_w5 180 (by decide +kernel) (by decide +kernel), z_w1 8 (by decide +kernel) (by decide +kernel), by decide +kernel, by decide +kernel⟩
theorem np_X6_heardBy : z_np miX6_heardBy 2 := by unfold z_np; decide +kernel
theorem im_X6_heardBy : Cond.instanceMethod (mY miX6_heardBy) ∈ z_tb := z_w5 179 (by decide +kernel) (by decide +kernel)
theorem se_X6_heardBy : Cond.selects (mY miX6_heardBy).cls (mY miX6_heardBy) (mY miX6_heardBy) ∈ z_tb := z_wp_eq (z_wp5 11 rfl) rfl
def miX6_about : MI := (yX6_about, cX6_about, 3, some .int, 7, 170)
theorem mk_X6_about : z_MI miX6_about := ⟨by decide +kernel, z_w5 172 (by decide +kernel) (by decide +kernel), z_w1 8 (by decide +kernel) (by decide +kernel), by decide +kernel, by decide +kernel⟩
theorem np_X6_about : z_np miX6_about 2 := by unfold z_np; decide +kernel
theorem im_X6_about : Cond.instanceMethod (mY miX6_about) ∈ z_tb := z_w5 170 (by decide +kernel) (by decide +kernel)
theorem se_X6_about : Cond.selects (mY miX6_about).cls (mY miX6_about) (mY miX6_about) ∈ z_tb := z_w5 171 (by decide +kernel) (by decide +kernel)
def miX6_rungs : MI := (yX6_rungs, cX6_rungs, 3, some .int, 2, 46)
theorem mk_X6_rungs : z_MI miX6_rungs := ⟨by decide +kernel, z_w5 203 (by decide +kernel) (by decide +kernel), z_w1 8 (by decide +kernel) (by decide +kernel), by decide +kernel, by decide +kernel⟩
theorem np_X6_rungs : z_np miX6_rungs 2 := by unfold z_np; decide +kernel
theorem im_X6_rungs : Cond.instanceMethod (mY miX6_rungs) ∈ z_tb := z_w5 201 (by decide +kernel) (by decide +kernel)
theorem se_X6_rungs : Cond.selects (mY miX6_rungs).cls (mY miX6_rungs) (mY miX6_rungs) ∈ z_tb := z_w5 202 (by decide +kernel) (by decide +kernel)
def miX6_far : MI := (yX6_far, cX6_far, 3, some .int, 3, 75)
theorem mk_X6_far : z_MI miX6_far := ⟨by decide +kernel, z_w5 207 (by decide +kernel) (by decide +kernel), z_w1 8 (by decide +kernel) (by decide +kernel), by decide +kernel, by decide +kernel⟩
theorem np_X6_far : z_np miX6_far 2 := by unfold z_np; decide +kernel
theorem im_X6_far : Cond.instanceMethod (mY miX6_far) ∈ z_tb := z_w5 205 (by decide +kernel) (by decide +kernel)
theorem se_X6_far : Cond.selects (mY miX6_far).cls (mY miX6_far) (mY miX6_far) ∈ z_tb := z_w5 206 (by decide +kernel) (by decide +kernel)
def miX6_tries : MI := (yX6_tries, cX6_tries, 2, none, 0, 0)
theorem mk_X6_tries : z_MI miX6_tries := ⟨by decide +kernel, z_w5 215 (by decide +kernel) (by decide +kernel), z_w1 8 (by decide +kernel) (by decide +kernel), by decide +kernel, by decide +kernel⟩
theorem np_X6_tries : z_np miX6_tries 0 := by unfold z_np; decide +kernel
theorem im_X6_tries : Cond.instanceMethod (mY miX6_tries) ∈ z_tb := z_w5 214 (by decide +kernel) (by decide +kernel)
theorem se_X6_tries : Cond.selects (mY miX6_tries).cls (mY miX6_tries) (mY miX6_tries) ∈ z_tb := z_wp_eq (z_wp5 13 rfl) rfl
def miX6_where : MI := (yX6_where, cX6_where, 4, some .int, 5, 123)
theorem mk_X6_where : z_MI miX6_where := ⟨by decide +kernel, z_w5 211 (by decide +kernel) (by decide +kernel), z_w1 8 (by decide +kernel) (by decide +kernel), by decide +kernel, by decide +kernel⟩
theorem np_X6_where : z_np miX6_where 2 := by unfold z_np; decide +kernel
theorem im_X6_where : Cond.instanceMethod (mY miX6_where) ∈ z_tb := z_w5 209 (by decide +kernel) (by decide +kernel)
theorem se_X6_where : Cond.selects (mY miX6_where).cls (mY miX6_where) (mY miX6_where) ∈ z_tb := z_w5 210 (by decide +kernel) (by decide +kernel)
def miX6_laysTwo : MI := (yX6_laysTwo, cX6_laysTwo, 4, none, 5, 123)
theorem mk_X6_laysTwo : z_MI miX6_laysTwo := ⟨by decide +kernel, z_w5 223 (by decide +kernel) (by decide +kernel), z_w1 8 (by decide +kernel) (by decide +kernel), by decide +kernel, by decide +kernel⟩
theorem np_X6_laysTwo : z_np miX6_laysTwo 2 := by unfold z_np; decide +kernel
theorem im_X6_laysTwo : Cond.instanceMethod (mY miX6_laysTwo) ∈ z_tb := z_w5 222 (by decide +kernel) (by decide +kernel)
theorem se_X6_laysTwo : Cond.selects (mY miX6_laysTwo).cls (mY miX6_laysTwo) (mY miX6_laysTwo) ∈ z_tb := z_wp_eq (z_wp5 14 rfl) rfl
def miX6_meetBy : MI := (yX6_meetBy, cX6_meetBy, 5, some .int, 0, 0)
theorem mk_X6_meetBy : z_MI miX6_meetBy := ⟨by decide +kernel, z_w5 227 (by decide +kernel) (by decide +kernel), z_w1 8 (by decide +kernel) (by decide +kernel), by decide +kernel, by decide +kernel⟩
theorem np_X6_meetBy : z_np miX6_meetBy 3 := by unfold z_np; decide +kernel
theorem im_X6_meetBy : Cond.instanceMethod (mY miX6_meetBy) ∈ z_tb := z_w5 226 (by decide +kernel) (by decide +kernel)
theorem se_X6_meetBy : Cond.selects (mY miX6_meetBy).cls (mY miX6_meetBy) (mY miX6_meetBy) ∈ z_tb := z_wp_eq (z_wp5 15 rfl) rfl
def miX6_meet : MI := (yX6_meet, cX6_meet, 4, some .int, 6, 146)
theorem mk_X6_meet : z_MI miX6_meet := ⟨by decide +kernel, z_w5 219 (by decide +kernel) (by decide +kernel), z_w1 8 (by decide +kernel) (by decide +kernel), by decide +kernel, by decide +kernel⟩
theorem np_X6_meet : z_np miX6_meet 2 := by unfold z_np; decide +kernel
theorem im_X6_meet : Cond.instanceMethod (mY miX6_meet) ∈ z_tb := z_w5 217 (by decide +kernel) (by decide +kernel)
theorem se_X6_meet : Cond.selects (mY miX6_meet).cls (mY miX6_meet) (mY miX6_meet) ∈ z_tb := z_w5 218 (by decide +kernel) (by decide +kernel)
def miX6_waits : MI := (yX6_waits, cX6_waits, 5, some .int, 6, 146)
theorem mk_X6_waits : z_MI miX6_waits := ⟨by decide +kernel, z_w5 231 (by decide +kernel) (by decide +kernel), z_w1 8 (by decide +kernel) (by decide +kernel), by decide +kernel, by decide +kernel⟩
theorem np_X6_waits : z_np miX6_waits 3 := by unfold z_np; decide +kernel
theorem im_X6_waits : Cond.instanceMethod (mY miX6_waits) ∈ z_tb := z_w5 229 (by decide +kernel) (by decide +kernel)
theorem se_X6_waits : Cond.selects (mY miX6_waits).cls (mY miX6_waits) (mY miX6_waits) ∈ z_tb := z_w5 230 (by decide +kernel) (by decide +kernel)
def miX6_lostOnes : MI := (yX6_lostOnes, cX6_lostOnes, 5, some .int, 3, 75)
theorem mk_X6_lostOnes : z_MI miX6_lostOnes := ⟨by decide +kernel, z_w5 239 (by decide +kernel) (by decide +kernel), z_w1 8 (by decide +kernel) (by decide +kernel), by decide +kernel, by decide +kernel⟩
theorem np_X6_lostOnes : z_np miX6_lostOnes 1 := by unfold z_np; decide +kernel
theorem im_X6_lostOnes : Cond.instanceMethod (mY miX6_lostOnes) ∈ z_tb := z_w5 238 (by decide +kernel) (by decide +kernel)
theorem se_X6_lostOnes : Cond.selects (mY miX6_lostOnes).cls (mY miX6_lostOnes) (mY miX6_lostOnes) ∈ z_tb := z_wp_eq (z_wp6 0 rfl) rfl
def miX6_down : MI := (yX6_down, cX6_down, 3, some .int, 4, 99)
theorem mk_X6_down : z_MI miX6_down := ⟨by decide +kernel, z_w5 235 (by decide +kernel) (by decide +kernel), z_w1 8 (by decide +kernel) (by decide +kernel), by decide +kernel, by decide +kernel⟩
theorem np_X6_down : z_np miX6_down 1 := by unfold z_np; decide +kernel
theorem im_X6_down : Cond.instanceMethod (mY miX6_down) ∈ z_tb := z_w5 233 (by decide +kernel) (by decide +kernel)
theorem se_X6_down : Cond.selects (mY miX6_down).cls (mY miX6_down) (mY miX6_down) ∈ z_tb := z_w5 234 (by decide +kernel) (by decide +kernel)
def miX6_cut : MI := (yX6_cut, cX6_cut, 6, some .int, 4, 99)
theorem mk_X6_cut : z_MI miX6_cut := ⟨by decide +kernel, z_w6 3 (by decide +kernel) (by decide +kernel), z_w1 8 (by decide +kernel) (by decide +kernel), by decide +kernel, by decide +kernel⟩
theorem np_X6_cut : z_np miX6_cut 1 := by unfold z_np; decide +kernel
theorem im_X6_cut : Cond.instanceMethod (mY miX6_cut) ∈ z_tb := z_w6 1 (by decide +kernel) (by decide +kernel)
theorem se_X6_cut : Cond.selects (mY miX6_cut).cls (mY miX6_cut) (mY miX6_cut) ∈ z_tb := z_w6 2 (by decide +kernel) (by decide +kernel)
def miX6_bestDoors : MI := (yX6_bestDoors, cX6_bestDoors, 7, some .int, 3, 75)
theorem mk_X6_bestDoors : z_MI miX6_bestDoors := ⟨by decide +kernel, z_w6 14 (by decide +kernel) (by decide +kernel), z_w1 8 (by decide +kernel) (by decide +kernel), by decide +kernel, by decide +kernel⟩
theorem np_X6_bestDoors : z_np miX6_bestDoors 0 := by unfold z_np; decide +kernel
theorem im_X6_bestDoors : Cond.instanceMethod (mY miX6_bestDoors) ∈ z_tb := z_w6 13 (by decide +kernel) (by decide +kernel)
theorem se_X6_bestDoors : Cond.selects (mY miX6_bestDoors).cls (mY miX6_bestDoors) (mY miX6_bestDoors) ∈ z_tb := z_wp_eq (z_wp6 1 rfl) rfl
def miX6_doors : MI := (yX6_doors, cX6_doors, 3, some .int, 4, 101)
theorem mk_X6_doors : z_MI miX6_doors := ⟨by decide +kernel, z_w6 10 (by decide +kernel) (by decide +kernel), z_w1 8 (by decide +kernel) (by decide +kernel), by decide +kernel, by decide +kernel⟩
theorem np_X6_doors : z_np miX6_doors 1 := by unfold z_np; decide +kernel
theorem im_X6_doors : Cond.instanceMethod (mY miX6_doors) ∈ z_tb := z_w6 8 (by decide +kernel) (by decide +kernel)
theorem se_X6_doors : Cond.selects (mY miX6_doors).cls (mY miX6_doors) (mY miX6_doors) ∈ z_tb := z_w6 9 (by decide +kernel) (by decide +kernel)
def miX6_sound : MI := (yX6_sound, cX6_sound, 5, some .int, 2, 46)
theorem mk_X6_sound : z_MI miX6_sound := ⟨by decide +kernel, z_w6 21 (by decide +kernel) (by decide +kernel), z_w1 8 (by decide +kernel) (by decide +kernel), by decide +kernel, by decide +kernel⟩
theorem np_X6_sound : z_np miX6_sound 3 := by unfold z_np; decide +kernel
theorem im_X6_sound : Cond.instanceMethod (mY miX6_sound) ∈ z_tb := z_w6 19 (by decide +kernel) (by decide +kernel)
theorem se_X6_sound : Cond.selects (mY miX6_sound).cls (mY miX6_sound) (mY miX6_sound) ∈ z_tb := z_w6 20 (by decide +kernel) (by decide +kernel)
def miX6_who : MI := (yX6_who, cX6_who, 7, some .int, 6, 146)
theorem mk_X6_who : z_MI miX6_who := ⟨by decide +kernel, z_w6 27 (by decide +kernel) (by decide +kernel), z_w1 8 (by decide +kernel) (by decide +kernel), by decide +kernel, by decide +kernel⟩
theorem np_X6_who : z_np miX6_who 0 := by unfold z_np; decide +kernel
theorem im_X6_who : Cond.instanceMethod (mY miX6_who) ∈ z_tb := z_w6 25 (by decide +kernel) (by decide +kernel)
theorem se_X6_who : Cond.selects (mY miX6_who).cls (mY miX6_who) (mY miX6_who) ∈ z_tb := z_w6 26 (by decide +kernel) (by decide +kernel)
def miX6_note : MI := (yX6_note, cX6_note, 6, some .int, 2, 46)
theorem mk_X6_note : z_MI miX6_note := ⟨by decide +kernel, z_w6 31 (by decide +kernel) (by decide +kernel), z_w1 8 (by decide +kernel) (by decide +kernel), by decide +kernel, by decide +kernel⟩
theorem np_X6_note : z_np miX6_note 4 := by unfold z_np; decide +kernel
theorem im_X6_note : Cond.instanceMethod (mY miX6_note) ∈ z_tb := z_w6 29 (by decide +kernel) (by decide +kernel)
theorem se_X6_note : Cond.selects (mY miX6_note).cls (mY miX6_note) (mY miX6_note) ∈ z_tb := z_w6 30 (by decide +kernel) (by decide +kernel)
def miX6_mark : MI := (yX6_mark, cX6_mark, 6, some .int, 2, 46)
theorem mk_X6_mark : z_MI miX6_mark := ⟨by decide +kernel, z_w6 37 (by decide +kernel) (by decide +kernel), z_w1 8 (by decide +kernel) (by decide +kernel), by decide +kernel, by decide +kernel⟩
theorem np_X6_mark : z_np miX6_mark 4 := by unfold z_np; decide +kernel
theorem im_X6_mark : Cond.instanceMethod (mY miX6_mark) ∈ z_tb := z_w6 35 (by decide +kernel) (by decide +kernel)
theorem se_X6_mark : Cond.selects (mY miX6_mark).cls (mY miX6_mark) (mY miX6_mark) ∈ z_tb := z_w6 36 (by decide +kernel) (by decide +kernel)
def miX6_forget : MI := (yX6_forget, cX6_forget, 4, some .int, 1, 25)
theorem mk_X6_forget : z_MI miX6_forget := ⟨by decide +kernel, z_w6 42 (by decide +kernel) (by decide +kernel), z_w1 8 (by decide +kernel) (by decide +kernel), by decide +kernel, by decide +kernel⟩
theorem np_X6_forget : z_np miX6_forget 1 := by unfold z_np; decide +kernel
theorem im_X6_forget : Cond.instanceMethod (mY miX6_forget) ∈ z_tb := z_w6 40 (by decide +kernel) (by decide +kernel)
theorem se_X6_forget : Cond.selects (mY miX6_forget).cls (mY miX6_forget) (mY miX6_forget) ∈ z_tb := z_w6 41 (by decide +kernel) (by decide +kernel)
def miX6_kindsOf : MI := (yX6_kindsOf, cX6_kindsOf, 7, some .int, 3, 62)
theorem mk_X6_kindsOf : z_MI miX6_kindsOf := ⟨by decide +kernel, z_w6 50 (by decide +kernel) (by decide +kernel), z_w1 8 (by decide +kernel) (by decide +kernel), by decide +kernel, by decide +kernel⟩
theorem np_X6_kindsOf : z_np miX6_kindsOf 1 := by unfold z_np; decide +kernel
theorem im_X6_kindsOf : Cond.instanceMethod (mY miX6_kindsOf) ∈ z_tb := z_w6 49 (by decide +kernel) (by decide +kernel)
theorem se_X6_kindsOf : Cond.selects (mY miX6_kindsOf).cls (mY miX6_kindsOf) (mY miX6_kindsOf) ∈ z_tb := z_wp_eq (z_wp6 2 rfl) rfl
def miX6_is : MI := (yX6_is, cX6_is, 2, some .int, 4, 88)
theorem mk_X6_is : z_MI miX6_is := ⟨by decide +kernel, z_w6 46 (by decide +kernel) (by decide +kernel), z_w1 8 (by decide +kernel) (by decide +kernel), by decide +kernel, by decide +kernel⟩
theorem np_X6_is : z_np miX6_is 1 := by unfold z_np; decide +kernel
theorem im_X6_is : Cond.instanceMethod (mY miX6_is) ∈ z_tb := z_w6 44 (by decide +kernel) (by decide +kernel)
theorem se_X6_is : Cond.selects (mY miX6_is).cls (mY miX6_is) (mY miX6_is) ∈ z_tb := z_w6 45 (by decide +kernel) (by decide +kernel)
def miX6_greatest : MI := (yX6_greatest, cX6_greatest, 6, some .int, 1, 21)
theorem mk_X6_greatest : z_MI miX6_greatest := ⟨by decide +kernel, z_w6 58 (by decide +kernel) (by decide +kernel), z_w1 8 (by decide +kernel) (by decide +kernel), by decide +kernel, by decide +kernel⟩
theorem np_X6_greatest : z_np miX6_greatest 1 := by unfold z_np; decide +kernel
theorem im_X6_greatest : Cond.instanceMethod (mY miX6_greatest) ∈ z_tb := z_w6 57 (by decide +kernel) (by decide +kernel)
theorem se_X6_greatest : Cond.selects (mY miX6_greatest).cls (mY miX6_greatest) (mY miX6_greatest) ∈ z_tb := z_wp_eq (z_wp6 3 rfl) rfl
def miX6_look : MI := (yX6_look, cX6_look, 7, some .int, 4, 88)
theorem mk_X6_look : z_MI miX6_look := ⟨by decide +kernel, z_w6 54 (by decide +kernel) (by decide +kernel), z_w1 8 (by decide +kernel) (by decide +kernel), by decide +kernel, by decide +kernel⟩
theorem np_X6_look : z_np miX6_look 1 := by unfold z_np; decide +kernel
theorem im_X6_look : Cond.instanceMethod (mY miX6_look) ∈ z_tb := z_w6 52 (by decide +kernel) (by decide +kernel)
theorem se_X6_look : Cond.selects (mY miX6_look).cls (mY miX6_look) (mY miX6_look) ∈ z_tb := z_w6 53 (by decide +kernel) (by decide +kernel)
def miX6_isHeard : MI := (yX6_isHeard, cX6_isHeard, 3, some .int, 2, 43)
theorem mk_X6_isHeard : z_MI miX6_isHeard := ⟨by decide +kernel, z_w6 69 (by decide +kernel) (by decide +kernel), z_w1 8 (by decide +kernel) (by decide +kernel), by decide +kernel, by decide +kernel⟩
theorem np_X6_isHeard : z_np miX6_isHeard 3 := by unfold z_np; decide +kernel
theorem st_X6_isHeard : Cond.static (mY miX6_isHeard) ∈ z_tb := z_w6 68 (by decide +kernel) (by decide +kernel)
def miX6_windowsOf : MI := (yX6_windowsOf, cX6_windowsOf, 7, some .int, 3, 65)
theorem mk_X6_windowsOf : z_MI miX6_windowsOf := ⟨by decide +kernel, z_w6 66 (by decide +kernel) (by decide +kernel), z_w1 8 (by decide +kernel) (by decide +kernel), by decide +kernel, by decide +kernel⟩
theorem np_X6_windowsOf : z_np miX6_windowsOf 1 := by unfold z_np; decide +kernel
theorem im_X6_windowsOf : Cond.instanceMethod (mY miX6_windowsOf) ∈ z_tb := z_w6 65 (by decide +kernel) (by decide +kernel)
theorem se_X6_windowsOf : Cond.selects (mY miX6_windowsOf).cls (mY miX6_windowsOf) (mY miX6_windowsOf) ∈ z_tb := z_wp_eq (z_wp6 4 rfl) rfl
def miX6_kinds : MI := (yX6_kinds, cX6_kinds, 2, some .int, 4, 91)
theorem mk_X6_kinds : z_MI miX6_kinds := ⟨by decide +kernel, z_w6 62 (by decide +kernel) (by decide +kernel), z_w1 8 (by decide +kernel) (by decide +kernel), by decide +kernel, by decide +kernel⟩
theorem np_X6_kinds : z_np miX6_kinds 1 := by unfold z_np; decide +kernel
theorem im_X6_kinds : Cond.instanceMethod (mY miX6_kinds) ∈ z_tb := z_w6 60 (by decide +kernel) (by decide +kernel)
theorem se_X6_kinds : Cond.selects (mY miX6_kinds).cls (mY miX6_kinds) (mY miX6_kinds) ∈ z_tb := z_w6 61 (by decide +kernel) (by decide +kernel)
def miX6_ask : MI := (yX6_ask, cX6_ask, 7, some .int, 4, 91)
theorem mk_X6_ask : z_MI miX6_ask := ⟨by decide +kernel, z_w6 73 (by decide +kernel) (by decide +kernel), z_w1 8 (by decide +kernel) (by decide +kernel), by decide +kernel, by decide +kernel⟩
theorem np_X6_ask : z_np miX6_ask 1 := by unfold z_np; decide +kernel
theorem im_X6_ask : Cond.instanceMethod (mY miX6_ask) ∈ z_tb := z_w6 71 (by decide +kernel) (by decide +kernel)
theorem se_X6_ask : Cond.selects (mY miX6_ask).cls (mY miX6_ask) (mY miX6_ask) ∈ z_tb := z_w6 72 (by decide +kernel) (by decide +kernel)
def miX6_getsBy : MI := (yX6_getsBy, cX6_getsBy, 5, some .int, 1, 24)
theorem mk_X6_getsBy : z_MI miX6_getsBy := ⟨by decide +kernel, z_w6 85 (by decide +kernel) (by decide +kernel), z_w1 8 (by decide +kernel) (by decide +kernel), by decide +kernel, by decide +kernel⟩
theorem np_X6_getsBy : z_np miX6_getsBy 3 := by unfold z_np; decide +kernel
theorem im_X6_getsBy : Cond.instanceMethod (mY miX6_getsBy) ∈ z_tb := z_w6 84 (by decide +kernel) (by decide +kernel)
theorem se_X6_getsBy : Cond.selects (mY miX6_getsBy).cls (mY miX6_getsBy) (mY miX6_getsBy) ∈ z_tb := z_wp_eq (z_wp6 6 rfl) rfl
def miX6_rests : MI := (yX6_rests, cX6_rests, 5, some .boolean, 2, 48)
theorem mk_X6_rests : z_MI miX6_rests := ⟨by decide +kernel, z_w6 81 (by decide +kernel) (by decide +kernel), z_w1 8 (by decide +kernel) (by decide +kernel), by decide +kernel, by decide +kernel⟩
theorem np_X6_rests : z_np miX6_rests 2 := by unfold z_np; decide +kernel
theorem im_X6_rests : Cond.instanceMethod (mY miX6_rests) ∈ z_tb := z_w6 80 (by decide +kernel) (by decide +kernel)
theorem se_X6_rests : Cond.selects (mY miX6_rests).cls (mY miX6_rests) (mY miX6_rests) ∈ z_tb := z_wp_eq (z_wp6 5 rfl) rfl
def miX6_shy : MI := (yX6_shy, cX6_shy, 6, some .int, 6, 146)
theorem mk_X6_shy : z_MI miX6_shy := ⟨by decide +kernel, z_w6 77 (by decide +kernel) (by decide +kernel), z_w1 8 (by decide +kernel) (by decide +kernel), by decide +kernel, by decide +kernel⟩
theorem np_X6_shy : z_np miX6_shy 3 := by unfold z_np; decide +kernel
theorem im_X6_shy : Cond.instanceMethod (mY miX6_shy) ∈ z_tb := z_w6 75 (by decide +kernel) (by decide +kernel)
theorem se_X6_shy : Cond.selects (mY miX6_shy).cls (mY miX6_shy) (mY miX6_shy) ∈ z_tb := z_w6 76 (by decide +kernel) (by decide +kernel)
def miX6_odds : MI := (yX6_odds, cX6_odds, 14, some .int, 3, 75)
theorem mk_X6_odds : z_MI miX6_odds := ⟨by decide +kernel, z_w6 89 (by decide +kernel) (by decide +kernel), z_w1 8 (by decide +kernel) (by decide +kernel), by decide +kernel, by decide +kernel⟩
theorem np_X6_odds : z_np miX6_odds 3 := by unfold z_np; decide +kernel
theorem im_X6_odds : Cond.instanceMethod (mY miX6_odds) ∈ z_tb := z_w6 87 (by decide +kernel) (by decide +kernel)
theorem se_X6_odds : Cond.selects (mY miX6_odds).cls (mY miX6_odds) (mY miX6_odds) ∈ z_tb := z_w6 88 (by decide +kernel) (by decide +kernel)
def miX6_nights : MI := (yX6_nights, cX6_nights, 9, some .int, 7, 170)
theorem mk_X6_nights : z_MI miX6_nights := ⟨by decide +kernel, z_w6 94 (by decide +kernel) (by decide +kernel), z_w1 8 (by decide +kernel) (by decide +kernel), by decide +kernel, by decide +kernel⟩
theorem np_X6_nights : z_np miX6_nights 2 := by unfold z_np; decide +kernel
theorem im_X6_nights : Cond.instanceMethod (mY miX6_nights) ∈ z_tb := z_w6 92 (by decide +kernel) (by decide +kernel)
theorem se_X6_nights : Cond.selects (mY miX6_nights).cls (mY miX6_nights) (mY miX6_nights) ∈ z_tb := z_w6 93 (by decide +kernel) (by decide +kernel)
def miX6_part : MI := (yX6_part, cX6_part, 2, some .long, 1, 21)
theorem mk_X6_part : z_MI miX6_part := ⟨by decide +kernel, z_w6 104 (by decide +kernel) (by decide +kernel), z_w1 8 (by decide +kernel) (by decide +kernel), by decide +kernel, by decide +kernel⟩
theorem np_X6_part : z_np miX6_part 1 := by unfold z_np; decide +kernel
theorem im_X6_part : Cond.instanceMethod (mY miX6_part) ∈ z_tb := z_w6 102 (by decide +kernel) (by decide +kernel)
theorem se_X6_part : Cond.selects (mY miX6_part).cls (mY miX6_part) (mY miX6_part) ∈ z_tb := z_w6 103 (by decide +kernel) (by decide +kernel)
def miX6_image : MI := (yX6_image, cX6_image, 2, some .int, 1, 25)
theorem mk_X6_image : z_MI miX6_image := ⟨by decide +kernel, z_w6 108 (by decide +kernel) (by decide +kernel), z_w1 8 (by decide +kernel) (by decide +kernel), by decide +kernel, by decide +kernel⟩
theorem np_X6_image : z_np miX6_image 1 := by unfold z_np; decide +kernel
theorem im_X6_image : Cond.instanceMethod (mY miX6_image) ∈ z_tb := z_w6 106 (by decide +kernel) (by decide +kernel)
theorem se_X6_image : Cond.selects (mY miX6_image).cls (mY miX6_image) (mY miX6_image) ∈ z_tb := z_w6 107 (by decide +kernel) (by decide +kernel)
def miX6_from : MI := (yX6_from, cX6_from, 2, some .int, 1, 25)
theorem mk_X6_from : z_MI miX6_from := ⟨by decide +kernel, z_w6 112 (by decide +kernel) (by decide +kernel), z_w1 8 (by decide +kernel) (by decide +kernel), by decide +kernel, by decide +kernel⟩
theorem np_X6_from : z_np miX6_from 1 := by unfold z_np; decide +kernel
theorem im_X6_from : Cond.instanceMethod (mY miX6_from) ∈ z_tb := z_w6 110 (by decide +kernel) (by decide +kernel)
theorem se_X6_from : Cond.selects (mY miX6_from).cls (mY miX6_from) (mY miX6_from) ∈ z_tb := z_w6 111 (by decide +kernel) (by decide +kernel)
def miX6_status : MI := (yX6_status, cX6_status, 2, some .int, 1, 25)
theorem mk_X6_status : z_MI miX6_status := ⟨by decide +kernel, z_w6 116 (by decide +kernel) (by decide +kernel), z_w1 8 (by decide +kernel) (by decide +kernel), by decide +kernel, by decide +kernel⟩
theorem np_X6_status : z_np miX6_status 1 := by unfold z_np; decide +kernel
theorem im_X6_status : Cond.instanceMethod (mY miX6_status) ∈ z_tb := z_w6 114 (by decide +kernel) (by decide +kernel)
theorem se_X6_status : Cond.selects (mY miX6_status).cls (mY miX6_status) (mY miX6_status) ∈ z_tb := z_w6 115 (by decide +kernel) (by decide +kernel)
def miX6_thereOnes : MI := (yX6_thereOnes, cX6_thereOnes, 3, some .int, 1, 22)
theorem mk_X6_thereOnes : z_MI miX6_thereOnes := ⟨by decide +kernel, z_w6 129 (by decide +kernel) (by decide +kernel), z_w1 8 (by decide +kernel) (by decide +kernel), by decide +kernel, by decide +kernel⟩
theorem np_X6_thereOnes : z_np miX6_thereOnes 0 := by unfold z_np; decide +kernel
theorem im_X6_thereOnes : Cond.instanceMethod (mY miX6_thereOnes) ∈ z_tb := z_w6 128 (by decide +kernel) (by decide +kernel)
theorem se_X6_thereOnes : Cond.selects (mY miX6_thereOnes).cls (mY miX6_thereOnes) (mY miX6_thereOnes) ∈ z_tb := z_wp_eq (z_wp6 8 rfl) rfl
def miX6_countOf : MI := (yX6_countOf, cX6_countOf, 2, some .int, 2, 44)
theorem mk_X6_countOf : z_MI miX6_countOf := ⟨by decide +kernel, z_w6 125 (by decide +kernel) (by decide +kernel), z_w1 8 (by decide +kernel) (by decide +kernel), by decide +kernel, by decide +kernel⟩
theorem np_X6_countOf : z_np miX6_countOf 1 := by unfold z_np; decide +kernel
theorem im_X6_countOf : Cond.instanceMethod (mY miX6_countOf) ∈ z_tb := z_w6 124 (by decide +kernel) (by decide +kernel)
theorem se_X6_countOf : Cond.selects (mY miX6_countOf).cls (mY miX6_countOf) (mY miX6_countOf) ∈ z_tb := z_wp_eq (z_wp6 7 rfl) rfl
def miX6_count : MI := (yX6_count, cX6_count, 2, some .int, 3, 65)
theorem mk_X6_count : z_MI miX6_count := ⟨by decide +kernel, z_w6 120 (by decide +kernel) (by decide +kernel), z_w1 8 (by decide +kernel) (by decide +kernel), by decide +kernel, by decide +kernel⟩
theorem np_X6_count : z_np miX6_count 1 := by unfold z_np; decide +kernel
theorem im_X6_count : Cond.instanceMethod (mY miX6_count) ∈ z_tb := z_w6 118 (by decide +kernel) (by decide +kernel)
theorem se_X6_count : Cond.selects (mY miX6_count).cls (mY miX6_count) (mY miX6_count) ∈ z_tb := z_w6 119 (by decide +kernel) (by decide +kernel)
def miX6_mix : MI := (yX6_mix, cX6_mix, 3, none, 0, 0)
theorem mk_X6_mix : z_MI miX6_mix := ⟨by decide +kernel, z_w6 138 (by decide +kernel) (by decide +kernel), z_w1 8 (by decide +kernel) (by decide +kernel), by decide +kernel, by decide +kernel⟩
theorem np_X6_mix : z_np miX6_mix 1 := by unfold z_np; decide +kernel
theorem im_X6_mix : Cond.instanceMethod (mY miX6_mix) ∈ z_tb := z_w6 137 (by decide +kernel) (by decide +kernel)
theorem se_X6_mix : Cond.selects (mY miX6_mix).cls (mY miX6_mix) (mY miX6_mix) ∈ z_tb := z_wp_eq (z_wp6 9 rfl) rfl
def miX6_digest : MI := (yX6_digest, cX6_digest, 3, some .long, 3, 65)
theorem mk_X6_digest : z_MI miX6_digest := ⟨by decide +kernel, z_w6 133 (by decide +kernel) (by decide +kernel), z_w1 8 (by decide +kernel) (by decide +kernel), by decide +kernel, by decide +kernel⟩
theorem np_X6_digest : z_np miX6_digest 0 := by unfold z_np; decide +kernel
theorem im_X6_digest : Cond.instanceMethod (mY miX6_digest) ∈ z_tb := z_w6 131 (by decide +kernel) (by decide +kernel)
theorem se_X6_digest : Cond.selects (mY miX6_digest).cls (mY miX6_digest) (mY miX6_digest) ∈ z_tb := z_w6 132 (by decide +kernel) (by decide +kernel)
def miX0_init : MI := (yX0_init, cX0_init, 1, none, 3, 66)
theorem mk_X0_init : z_MI miX0_init := ⟨by decide +kernel, z_w1 27 (by decide +kernel) (by decide +kernel), z_w1 2 (by decide +kernel) (by decide +kernel), by decide +kernel, by decide +kernel⟩
theorem np_X0_init : z_np miX0_init 0 := by unfold z_np; decide +kernel
theorem im_X0_init : Cond.instanceMethod (mY miX0_init) ∈ z_tb := z_w1 26 (by decide +kernel) (by decide +kernel)
def miX0_reset : MI := (yX0_reset, cX0_reset, 1, none, 1, 21)
theorem mk_X0_reset : z_MI miX0_reset := ⟨by decide +kernel, z_w1 208 (by decide +kernel) (by decide +kernel), z_w1 2 (by decide +kernel) (by decide +kernel), by decide +kernel, by decide +kernel⟩
theorem np_X0_reset : z_np miX0_reset 0 := by unfold z_np; decide +kernel
theorem im_X0_reset : Cond.instanceMethod (mY miX0_reset) ∈ z_tb := z_w1 206 (by decide +kernel) (by decide +kernel)
theorem se_X0_reset : Cond.selects (mY miX0_reset).cls (mY miX0_reset) (mY miX0_reset) ∈ z_tb := z_w1 207 (by decide +kernel) (by decide +kernel)
def miX0_take : MI := (yX0_take, cX0_take, 2, none, 3, 82)
theorem mk_X0_take : z_MI miX0_take := ⟨by decide +kernel, z_w2 233 (by decide +kernel) (by decide +kernel), z_w1 2 (by decide +kernel) (by decide +kernel), by decide +kernel, by decide +kernel⟩
theorem np_X0_take : z_np miX0_take 1 := by unfold z_np; decide +kernel
theorem im_X0_take : Cond.instanceMethod (mY miX0_take) ∈ z_tb := z_w2 231 (by decide +kernel) (by decide +kernel)
theorem se_X0_take : Cond.selects (mY miX0_take).cls (mY miX0_take) (mY miX0_take) ∈ z_tb := z_w2 232 (by decide +kernel) (by decide +kernel)
def miX0_hasLadder : MI := (yX0_hasLadder, cX0_hasLadder, 3, some .boolean, 2, 43)
theorem mk_X0_hasLadder : z_MI miX0_hasLadder := ⟨by decide +kernel, z_w1 223 (by decide +kernel) (by decide +kernel), z_w1 2 (by decide +kernel) (by decide +kernel), by decide +kernel, by decide +kernel⟩
theorem np_X0_hasLadder : z_np miX0_hasLadder 1 := by unfold z_np; decide +kernel
theorem im_X0_hasLadder : Cond.instanceMethod (mY miX0_hasLadder) ∈ z_tb := z_w1 221 (by decide +kernel) (by decide +kernel)
theorem se_X0_hasLadder : Cond.selects (mY miX0_hasLadder).cls (mY miX0_hasLadder) (mY miX0_hasLadder) ∈ z_tb := z_w1 222 (by decide +kernel) (by decide +kernel)
def miX0_addLadder : MI := (yX0_addLadder, cX0_addLadder, 2, some .int, 3, 71)
theorem mk_X0_addLadder : z_MI miX0_addLadder := ⟨by decide +kernel, z_w2 22 (by decide +kernel) (by decide +kernel), z_w1 2 (by decide +kernel) (by decide +kernel), by decide +kernel, by decide +kernel⟩
theorem np_X0_addLadder : z_np miX0_addLadder 1 := by unfold z_np; decide +kernel
theorem im_X0_addLadder : Cond.instanceMethod (mY miX0_addLadder) ∈ z_tb := z_w2 20 (by decide +kernel) (by decide +kernel)
theorem se_X0_addLadder : Cond.selects (mY miX0_addLadder).cls (mY miX0_addLadder) (mY miX0_addLadder) ∈ z_tb := z_w2 21 (by decide +kernel) (by decide +kernel)
def miX0_addGoer : MI := (yX0_addGoer, cX0_addGoer, 4, some .int, 3, 71)
theorem mk_X0_addGoer : z_MI miX0_addGoer := ⟨by decide +kernel, z_w2 43 (by decide +kernel) (by decide +kernel), z_w1 2 (by decide +kernel) (by decide +kernel), by decide +kernel, by decide +kernel⟩
theorem np_X0_addGoer : z_np miX0_addGoer 3 := by unfold z_np; decide +kernel
theorem im_X0_addGoer : Cond.instanceMethod (mY miX0_addGoer) ∈ z_tb := z_w2 41 (by decide +kernel) (by decide +kernel)
theorem se_X0_addGoer : Cond.selects (mY miX0_addGoer).cls (mY miX0_addGoer) (mY miX0_addGoer) ∈ z_tb := z_w2 42 (by decide +kernel) (by decide +kernel)
def miX0_addWindow : MI := (yX0_addWindow, cX0_addWindow, 3, some .int, 3, 71)
theorem mk_X0_addWindow : z_MI miX0_addWindow := ⟨by decide +kernel, z_w2 51 (by decide +kernel) (by decide +kernel), z_w1 2 (by decide +kernel) (by decide +kernel), by decide +kernel, by decide +kernel⟩
theorem np_X0_addWindow : z_np miX0_addWindow 2 := by unfold z_np; decide +kernel
theorem im_X0_addWindow : Cond.instanceMethod (mY miX0_addWindow) ∈ z_tb := z_w2 49 (by decide +kernel) (by decide +kernel)
theorem se_X0_addWindow : Cond.selects (mY miX0_addWindow).cls (mY miX0_addWindow) (mY miX0_addWindow) ∈ z_tb := z_w2 50 (by decide +kernel) (by decide +kernel)
def miX0_turnGoer : MI := (yX0_turnGoer, cX0_turnGoer, 2, some .int, 2, 45)
theorem mk_X0_turnGoer : z_MI miX0_turnGoer := ⟨by decide +kernel, z_w2 184 (by decide +kernel) (by decide +kernel), z_w1 2 (by decide +kernel) (by decide +kernel), by decide +kernel, by decide +kernel⟩
theorem np_X0_turnGoer : z_np miX0_turnGoer 1 := by unfold z_np; decide +kernel
theorem im_X0_turnGoer : Cond.instanceMethod (mY miX0_turnGoer) ∈ z_tb := z_w2 182 (by decide +kernel) (by decide +kernel)
theorem se_X0_turnGoer : Cond.selects (mY miX0_turnGoer).cls (mY miX0_turnGoer) (mY miX0_turnGoer) ∈ z_tb := z_w2 183 (by decide +kernel) (by decide +kernel)
def miX0_drawLadder : MI := (yX0_drawLadder, cX0_drawLadder, 2, some .int, 2, 45)
theorem mk_X0_drawLadder : z_MI miX0_drawLadder := ⟨by decide +kernel, z_w2 194 (by decide +kernel) (by decide +kernel), z_w1 2 (by decide +kernel) (by decide +kernel), by decide +kernel, by decide +kernel⟩
theorem np_X0_drawLadder : z_np miX0_drawLadder 1 := by unfold z_np; decide +kernel
theorem im_X0_drawLadder : Cond.instanceMethod (mY miX0_drawLadder) ∈ z_tb := z_w2 192 (by decide +kernel) (by decide +kernel)
theorem se_X0_drawLadder : Cond.selects (mY miX0_drawLadder).cls (mY miX0_drawLadder) (mY miX0_drawLadder) ∈ z_tb := z_w2 193 (by decide +kernel) (by decide +kernel)
def miX0_remember : MI := (yX0_remember, cX0_remember, 3, none, 3, 71)
theorem mk_X0_remember : z_MI miX0_remember := ⟨by decide +kernel, z_w3 16 (by decide +kernel) (by decide +kernel), z_w1 2 (by decide +kernel) (by decide +kernel), by decide +kernel, by decide +kernel⟩
theorem np_X0_remember : z_np miX0_remember 0 := by unfold z_np; decide +kernel
theorem im_X0_remember : Cond.instanceMethod (mY miX0_remember) ∈ z_tb := z_w3 14 (by decide +kernel) (by decide +kernel)
theorem se_X0_remember : Cond.selects (mY miX0_remember).cls (mY miX0_remember) (mY miX0_remember) ∈ z_tb := z_w3 15 (by decide +kernel) (by decide +kernel)
def miX0_recall : MI := (yX0_recall, cX0_recall, 3, none, 2, 45)
theorem mk_X0_recall : z_MI miX0_recall := ⟨by decide +kernel, z_w3 51 (by decide +kernel) (by decide +kernel), z_w1 2 (by decide +kernel) (by decide +kernel), by decide +kernel, by decide +kernel⟩
theorem np_X0_recall : z_np miX0_recall 0 := by unfold z_np; decide +kernel
theorem im_X0_recall : Cond.instanceMethod (mY miX0_recall) ∈ z_tb := z_w3 49 (by decide +kernel) (by decide +kernel)
theorem se_X0_recall : Cond.selects (mY miX0_recall).cls (mY miX0_recall) (mY miX0_recall) ∈ z_tb := z_w3 50 (by decide +kernel) (by decide +kernel)
def miX0_pass : MI := (yX0_pass, cX0_pass, 7, some .int, 3, 74)
theorem mk_X0_pass : z_MI miX0_pass := ⟨by decide +kernel, z_w2 203 (by decide +kernel) (by decide +kernel), z_w1 2 (by decide +kernel) (by decide +kernel), by decide +kernel, by decide +kernel⟩
theorem np_X0_pass : z_np miX0_pass 1 := by unfold z_np; decide +kernel
theorem im_X0_pass : Cond.instanceMethod (mY miX0_pass) ∈ z_tb := z_w2 201 (by decide +kernel) (by decide +kernel)
theorem se_X0_pass : Cond.selects (mY miX0_pass).cls (mY miX0_pass) (mY miX0_pass) ∈ z_tb := z_w2 202 (by decide +kernel) (by decide +kernel)
def miX0_trace : MI := (yX0_trace, cX0_trace, 6, none, 3, 74)
theorem mk_X0_trace : z_MI miX0_trace := ⟨by decide +kernel, z_w3 133 (by decide +kernel) (by decide +kernel), z_w1 2 (by decide +kernel) (by decide +kernel), by decide +kernel, by decide +kernel⟩
theorem np_X0_trace : z_np miX0_trace 2 := by unfold z_np; decide +kernel
theorem im_X0_trace : Cond.instanceMethod (mY miX0_trace) ∈ z_tb := z_w3 131 (by decide +kernel) (by decide +kernel)
theorem se_X0_trace : Cond.selects (mY miX0_trace).cls (mY miX0_trace) (mY miX0_trace) ∈ z_tb := z_w3 132 (by decide +kernel) (by decide +kernel)
def miX0_arrived : MI := (yX0_arrived, cX0_arrived, 3, some .int, 3, 64)
theorem mk_X0_arrived : z_MI miX0_arrived := ⟨by decide +kernel, z_w4 112 (by decide +kernel) (by decide +kernel), z_w1 2 (by decide +kernel) (by decide +kernel), by decide +kernel, by decide +kernel⟩
theorem np_X0_arrived : z_np miX0_arrived 0 := by unfold z_np; decide +kernel
theorem im_X0_arrived : Cond.instanceMethod (mY miX0_arrived) ∈ z_tb := z_w4 110 (by decide +kernel) (by decide +kernel)
theorem se_X0_arrived : Cond.selects (mY miX0_arrived).cls (mY miX0_arrived) (mY miX0_arrived) ∈ z_tb := z_w4 111 (by decide +kernel) (by decide +kernel)
def miX0_nextOf : MI := (yX0_nextOf, cX0_nextOf, 2, some .int, 3, 74)
theorem mk_X0_nextOf : z_MI miX0_nextOf := ⟨by decide +kernel, z_w3 60 (by decide +kernel) (by decide +kernel), z_w1 2 (by decide +kernel) (by decide +kernel), by decide +kernel, by decide +kernel⟩
theorem np_X0_nextOf : z_np miX0_nextOf 1 := by unfold z_np; decide +kernel
theorem im_X0_nextOf : Cond.instanceMethod (mY miX0_nextOf) ∈ z_tb := z_w3 58 (by decide +kernel) (by decide +kernel)
theorem se_X0_nextOf : Cond.selects (mY miX0_nextOf).cls (mY miX0_nextOf) (mY miX0_nextOf) ∈ z_tb := z_w3 59 (by decide +kernel) (by decide +kernel)
def miX0_loudOf : MI := (yX0_loudOf, cX0_loudOf, 2, some .int, 4, 96)
theorem mk_X0_loudOf : z_MI miX0_loudOf := ⟨by decide +kernel, z_w3 64 (by decide +kernel) (by decide +kernel), z_w1 2 (by decide +kernel) (by decide +kernel), by decide +kernel, by decide +kernel⟩
theorem np_X0_loudOf : z_np miX0_loudOf 1 := by unfold z_np; decide +kernel
theorem im_X0_loudOf : Cond.instanceMethod (mY miX0_loudOf) ∈ z_tb := z_w3 62 (by decide +kernel) (by decide +kernel)
theorem se_X0_loudOf : Cond.selects (mY miX0_loudOf).cls (mY miX0_loudOf) (mY miX0_loudOf) ∈ z_tb := z_w3 63 (by decide +kernel) (by decide +kernel)
def miX0_heardAt : MI := (yX0_heardAt, cX0_heardAt, 5, some .int, 4, 96)
theorem mk_X0_heardAt : z_MI miX0_heardAt := ⟨by decide +kernel, z_w3 90 (by decide +kernel) (by decide +kernel), z_w1 2 (by decide +kernel) (by decide +kernel), by decide +kernel, by decide +kernel⟩
theorem np_X0_heardAt : z_np miX0_heardAt 1 := by unfold z_np; decide +kernel
theorem im_X0_heardAt : Cond.instanceMethod (mY miX0_heardAt) ∈ z_tb := z_w3 88 (by decide +kernel) (by decide +kernel)
theorem se_X0_heardAt : Cond.selects (mY miX0_heardAt).cls (mY miX0_heardAt) (mY miX0_heardAt) ∈ z_tb := z_w3 89 (by decide +kernel) (by decide +kernel)
def miX0_heardInAll : MI := (yX0_heardInAll, cX0_heardInAll, 5, some .int, 4, 96)
theorem mk_X0_heardInAll : z_MI miX0_heardInAll := ⟨by decide +kernel, z_w4 84 (by decide +kernel) (by decide +kernel), z_w1 2 (by decide +kernel) (by decide +kernel), by decide +kernel, by decide +kernel⟩
theorem np_X0_heardInAll : z_np miX0_heardInAll 0 := by unfold z_np; decide +kernel
theorem im_X0_heardInAll : Cond.instanceMethod (mY miX0_heardInAll) ∈ z_tb := z_w4 82 (by decide +kernel) (by decide +kernel)
theorem se_X0_heardInAll : Cond.selects (mY miX0_heardInAll).cls (mY miX0_heardInAll) (mY miX0_heardInAll) ∈ z_tb := z_w4 83 (by decide +kernel) (by decide +kernel)
def miX0_loudStep : MI := (yX0_loudStep, cX0_loudStep, 3, some .int, 3, 74)
theorem mk_X0_loudStep : z_MI miX0_loudStep := ⟨by decide +kernel, z_w3 68 (by decide +kernel) (by decide +kernel), z_w1 2 (by decide +kernel) (by decide +kernel), by decide +kernel, by decide +kernel⟩
theorem np_X0_loudStep : z_np miX0_loudStep 1 := by unfold z_np; decide +kernel
theorem im_X0_loudStep : Cond.instanceMethod (mY miX0_loudStep) ∈ z_tb := z_w3 67 (by decide +kernel) (by decide +kernel)
theorem se_X0_loudStep : Cond.selects (mY miX0_loudStep).cls (mY miX0_loudStep) (mY miX0_loudStep) ∈ z_tb := z_wp_eq (z_wp2 3 rfl) rfl
def miX0_hears : MI := (yX0_hears, cX0_hears, 4, some .boolean, 2, 45)
theorem mk_X0_hears : z_MI miX0_hears := ⟨by decide +kernel, z_w3 94 (by decide +kernel) (by decide +kernel), z_w1 2 (by decide +kernel) (by decide +kernel), by decide +kernel, by decide +kernel⟩
theorem np_X0_hears : z_np miX0_hears 3 := by unfold z_np; decide +kernel
theorem im_X0_hears : Cond.instanceMethod (mY miX0_hears) ∈ z_tb := z_w3 92 (by decide +kernel) (by decide +kernel)
theorem se_X0_hears : Cond.selects (mY miX0_hears).cls (mY miX0_hears) (mY miX0_hears) ∈ z_tb := z_w3 93 (by decide +kernel) (by decide +kernel)
def miX0_stepsBetween : MI := (yX0_stepsBetween, cX0_stepsBetween, 3, some .int, 3, 71)
theorem mk_X0_stepsBetween : z_MI miX0_stepsBetween := ⟨by decide +kernel, z_w3 121 (by decide +kernel) (by decide +kernel), z_w1 2 (by decide +kernel) (by decide +kernel), by decide +kernel, by decide +kernel⟩
theorem np_X0_stepsBetween : z_np miX0_stepsBetween 2 := by unfold z_np; decide +kernel
theorem im_X0_stepsBetween : Cond.instanceMethod (mY miX0_stepsBetween) ∈ z_tb := z_w3 119 (by decide +kernel) (by decide +kernel)
theorem se_X0_stepsBetween : Cond.selects (mY miX0_stepsBetween).cls (mY miX0_stepsBetween) (mY miX0_stepsBetween) ∈ z_tb := z_w3 120 (by decide +kernel) (by decide +kernel)
def miX0_stepsToGround : MI := (yX0_stepsToGround, cX0_stepsToGround, 5, some .int, 3, 71)
theorem mk_X0_stepsToGround : z_MI miX0_stepsToGround := ⟨by decide +kernel, z_w3 159 (by decide +kernel) (by decide +kernel), z_w1 2 (by decide +kernel) (by decide +kernel), by decide +kernel, by decide +kernel⟩
theorem np_X0_stepsToGround : z_np miX0_stepsToGround 1 := by unfold z_np; decide +kernel
theorem im_X0_stepsToGround : Cond.instanceMethod (mY miX0_stepsToGround) ∈ z_tb := z_w3 157 (by decide +kernel) (by decide +kernel)
theorem se_X0_stepsToGround : Cond.selects (mY miX0_stepsToGround).cls (mY miX0_stepsToGround) (mY miX0_stepsToGround) ∈ z_tb := z_w3 158 (by decide +kernel) (by decide +kernel)
def miX0_laddersDownOn : MI := (yX0_laddersDownOn, cX0_laddersDownOn, 5, some .int, 2, 43)
theorem mk_X0_laddersDownOn : z_MI miX0_laddersDownOn := ⟨by decide +kernel, z_w3 176 (by decide +kernel) (by decide +kernel), z_w1 2 (by decide +kernel) (by decide +kernel), by decide +kernel, by decide +kernel⟩
theorem np_X0_laddersDownOn : z_np miX0_laddersDownOn 2 := by unfold z_np; decide +kernel
theorem im_X0_laddersDownOn : Cond.instanceMethod (mY miX0_laddersDownOn) ∈ z_tb := z_w3 174 (by decide +kernel) (by decide +kernel)
theorem se_X0_laddersDownOn : Cond.selects (mY miX0_laddersDownOn).cls (mY miX0_laddersDownOn) (mY miX0_laddersDownOn) ∈ z_tb := z_w3 175 (by decide +kernel) (by decide +kernel)
def miX0_goalOf : MI := (yX0_goalOf, cX0_goalOf, 2, some .int, 2, 43)
theorem mk_X0_goalOf : z_MI miX0_goalOf := ⟨by decide +kernel, z_w2 215 (by decide +kernel) (by decide +kernel), z_w1 2 (by decide +kernel) (by decide +kernel), by decide +kernel, by decide +kernel⟩
theorem np_X0_goalOf : z_np miX0_goalOf 1 := by unfold z_np; decide +kernel
theorem im_X0_goalOf : Cond.instanceMethod (mY miX0_goalOf) ∈ z_tb := z_w2 214 (by decide +kernel) (by decide +kernel)
theorem se_X0_goalOf : Cond.selects (mY miX0_goalOf).cls (mY miX0_goalOf) (mY miX0_goalOf) ∈ z_tb := z_wp_eq (z_wp1 15 rfl) rfl
def miX0_layWays : MI := (yX0_layWays, cX0_layWays, 3, none, 2, 43)
theorem mk_X0_layWays : z_MI miX0_layWays := ⟨by decide +kernel, z_w2 207 (by decide +kernel) (by decide +kernel), z_w1 2 (by decide +kernel) (by decide +kernel), by decide +kernel, by decide +kernel⟩
theorem np_X0_layWays : z_np miX0_layWays 0 := by unfold z_np; decide +kernel
theorem im_X0_layWays : Cond.instanceMethod (mY miX0_layWays) ∈ z_tb := z_w2 206 (by decide +kernel) (by decide +kernel)
theorem se_X0_layWays : Cond.selects (mY miX0_layWays).cls (mY miX0_layWays) (mY miX0_layWays) ∈ z_tb := z_wp_eq (z_wp1 14 rfl) rfl
def miX1_init : MI := (yX1_init, cX1_init, 1, none, 2, 44)
theorem mk_X1_init : z_MI miX1_init := ⟨by decide +kernel, z_w1 126 (by decide +kernel) (by decide +kernel), z_w1 7 (by decide +kernel) (by decide +kernel), by decide +kernel, by decide +kernel⟩
theorem np_X1_init : z_np miX1_init 0 := by unfold z_np; decide +kernel
theorem im_X1_init : Cond.instanceMethod (mY miX1_init) ∈ z_tb := z_w1 125 (by decide +kernel) (by decide +kernel)
def miX1_length : MI := (yX1_length, cX1_length, 1, some .int, 0, 0)
theorem mk_X1_length : z_MI miX1_length := ⟨by decide +kernel, z_w4 116 (by decide +kernel) (by decide +kernel), z_w1 7 (by decide +kernel) (by decide +kernel), by decide +kernel, by decide +kernel⟩
theorem np_X1_length : z_np miX1_length 0 := by unfold z_np; decide +kernel
theorem im_X1_length : Cond.instanceMethod (mY miX1_length) ∈ z_tb := z_w4 114 (by decide +kernel) (by decide +kernel)
theorem se_X1_length : Cond.selects (mY miX1_length).cls (mY miX1_length) (mY miX1_length) ∈ z_tb := z_w4 115 (by decide +kernel) (by decide +kernel)
def miX1_isFull : MI := (yX1_isFull, cX1_isFull, 1, some .boolean, 0, 0)
theorem mk_X1_isFull : z_MI miX1_isFull := ⟨by decide +kernel, z_w2 59 (by decide +kernel) (by decide +kernel), z_w1 7 (by decide +kernel) (by decide +kernel), by decide +kernel, by decide +kernel⟩
theorem np_X1_isFull : z_np miX1_isFull 0 := by unfold z_np; decide +kernel
theorem im_X1_isFull : Cond.instanceMethod (mY miX1_isFull) ∈ z_tb := z_w2 57 (by decide +kernel) (by decide +kernel)
theorem se_X1_isFull : Cond.selects (mY miX1_isFull).cls (mY miX1_isFull) (mY miX1_isFull) ∈ z_tb := z_w2 58 (by decide +kernel) (by decide +kernel)
def miX1_add : MI := (yX1_add, cX1_add, 2, some .int, 1, 22)
theorem mk_X1_add : z_MI miX1_add := ⟨by decide +kernel, z_w2 63 (by decide +kernel) (by decide +kernel), z_w1 7 (by decide +kernel) (by decide +kernel), by decide +kernel, by decide +kernel⟩
theorem np_X1_add : z_np miX1_add 1 := by unfold z_np; decide +kernel
theorem im_X1_add : Cond.instanceMethod (mY miX1_add) ∈ z_tb := z_w2 61 (by decide +kernel) (by decide +kernel)
theorem se_X1_add : Cond.selects (mY miX1_add).cls (mY miX1_add) (mY miX1_add) ∈ z_tb := z_w2 62 (by decide +kernel) (by decide +kernel)
def miX1_empty : MI := (yX1_empty, cX1_empty, 2, some .int, 0, 0)
theorem mk_X1_empty : z_MI miX1_empty := ⟨by decide +kernel, z_w2 72 (by decide +kernel) (by decide +kernel), z_w1 7 (by decide +kernel) (by decide +kernel), by decide +kernel, by decide +kernel⟩
theorem np_X1_empty : z_np miX1_empty 0 := by unfold z_np; decide +kernel
theorem im_X1_empty : Cond.instanceMethod (mY miX1_empty) ∈ z_tb := z_w2 70 (by decide +kernel) (by decide +kernel)
theorem se_X1_empty : Cond.selects (mY miX1_empty).cls (mY miX1_empty) (mY miX1_empty) ∈ z_tb := z_w2 71 (by decide +kernel) (by decide +kernel)
def miX1_readInto : MI := (yX1_readInto, cX1_readInto, 4, some .int, 6, 142)
theorem mk_X1_readInto : z_MI miX1_readInto := ⟨by decide +kernel, z_w2 80 (by decide +kernel) (by decide +kernel), z_w1 7 (by decide +kernel) (by decide +kernel), by decide +kernel, by decide +kernel⟩
theorem np_X1_readInto : z_np miX1_readInto 1 := by unfold z_np; decide +kernel
theorem im_X1_readInto : Cond.instanceMethod (mY miX1_readInto) ∈ z_tb := z_w2 78 (by decide +kernel) (by decide +kernel)
theorem se_X1_readInto : Cond.selects (mY miX1_readInto).cls (mY miX1_readInto) (mY miX1_readInto) ∈ z_tb := z_w2 79 (by decide +kernel) (by decide +kernel)
def miX1_readItem : MI := (yX1_readItem, cX1_readItem, 2, some .boolean, 5, 121)
theorem mk_X1_readItem : z_MI miX1_readItem := ⟨by decide +kernel, z_w2 150 (by decide +kernel) (by decide +kernel), z_w1 7 (by decide +kernel) (by decide +kernel), by decide +kernel, by decide +kernel⟩
theorem np_X1_readItem : z_np miX1_readItem 1 := by unfold z_np; decide +kernel
theorem im_X1_readItem : Cond.instanceMethod (mY miX1_readItem) ∈ z_tb := z_w2 149 (by decide +kernel) (by decide +kernel)
theorem se_X1_readItem : Cond.selects (mY miX1_readItem).cls (mY miX1_readItem) (mY miX1_readItem) ∈ z_tb := z_wp_eq (z_wp1 6 rfl) rfl
def miX1_readLadder : MI := (yX1_readLadder, cX1_readLadder, 2, some .boolean, 4, 92)
theorem mk_X1_readLadder : z_MI miX1_readLadder := ⟨by decide +kernel, z_w2 155 (by decide +kernel) (by decide +kernel), z_w1 7 (by decide +kernel) (by decide +kernel), by decide +kernel, by decide +kernel⟩
theorem np_X1_readLadder : z_np miX1_readLadder 1 := by unfold z_np; decide +kernel
theorem im_X1_readLadder : Cond.instanceMethod (mY miX1_readLadder) ∈ z_tb := z_w2 154 (by decide +kernel) (by decide +kernel)
theorem se_X1_readLadder : Cond.selects (mY miX1_readLadder).cls (mY miX1_readLadder) (mY miX1_readLadder) ∈ z_tb := z_wp_eq (z_wp1 7 rfl) rfl
def miX1_readGoer : MI := (yX1_readGoer, cX1_readGoer, 4, some .boolean, 4, 94)
theorem mk_X1_readGoer : z_MI miX1_readGoer := ⟨by decide +kernel, z_w2 167 (by decide +kernel) (by decide +kernel), z_w1 7 (by decide +kernel) (by decide +kernel), by decide +kernel, by decide +kernel⟩
theorem np_X1_readGoer : z_np miX1_readGoer 1 := by unfold z_np; decide +kernel
theorem im_X1_readGoer : Cond.instanceMethod (mY miX1_readGoer) ∈ z_tb := z_w2 166 (by decide +kernel) (by decide +kernel)
theorem se_X1_readGoer : Cond.selects (mY miX1_readGoer).cls (mY miX1_readGoer) (mY miX1_readGoer) ∈ z_tb := z_wp_eq (z_wp1 9 rfl) rfl
def miX1_readWindow : MI := (yX1_readWindow, cX1_readWindow, 3, some .boolean, 4, 93)
theorem mk_X1_readWindow : z_MI miX1_readWindow := ⟨by decide +kernel, z_w2 173 (by decide +kernel) (by decide +kernel), z_w1 7 (by decide +kernel) (by decide +kernel), by decide +kernel, by decide +kernel⟩
theorem np_X1_readWindow : z_np miX1_readWindow 1 := by unfold z_np; decide +kernel
theorem im_X1_readWindow : Cond.instanceMethod (mY miX1_readWindow) ∈ z_tb := z_w2 172 (by decide +kernel) (by decide +kernel)
theorem se_X1_readWindow : Cond.selects (mY miX1_readWindow).cls (mY miX1_readWindow) (mY miX1_readWindow) ∈ z_tb := z_wp_eq (z_wp1 10 rfl) rfl
def miX1_readTurn : MI := (yX1_readTurn, cX1_readTurn, 2, some .boolean, 3, 66)
theorem mk_X1_readTurn : z_MI miX1_readTurn := ⟨by decide +kernel, z_w2 179 (by decide +kernel) (by decide +kernel), z_w1 7 (by decide +kernel) (by decide +kernel), by decide +kernel, by decide +kernel⟩
theorem np_X1_readTurn : z_np miX1_readTurn 1 := by unfold z_np; decide +kernel
theorem im_X1_readTurn : Cond.instanceMethod (mY miX1_readTurn) ∈ z_tb := z_w2 178 (by decide +kernel) (by decide +kernel)
theorem se_X1_readTurn : Cond.selects (mY miX1_readTurn).cls (mY miX1_readTurn) (mY miX1_readTurn) ∈ z_tb := z_wp_eq (z_wp1 11 rfl) rfl
def miX1_readDraw : MI := (yX1_readDraw, cX1_readDraw, 2, some .boolean, 3, 66)
theorem mk_X1_readDraw : z_MI miX1_readDraw := ⟨by decide +kernel, z_w2 190 (by decide +kernel) (by decide +kernel), z_w1 7 (by decide +kernel) (by decide +kernel), by decide +kernel, by decide +kernel⟩
theorem np_X1_readDraw : z_np miX1_readDraw 1 := by unfold z_np; decide +kernel
theorem im_X1_readDraw : Cond.instanceMethod (mY miX1_readDraw) ∈ z_tb := z_w2 189 (by decide +kernel) (by decide +kernel)
theorem se_X1_readDraw : Cond.selects (mY miX1_readDraw).cls (mY miX1_readDraw) (mY miX1_readDraw) ∈ z_tb := z_wp_eq (z_wp1 12 rfl) rfl
def miX1_readMinutes : MI := (yX1_readMinutes, cX1_readMinutes, 2, some .boolean, 4, 100)
theorem mk_X1_readMinutes : z_MI miX1_readMinutes := ⟨by decide +kernel, z_w2 199 (by decide +kernel) (by decide +kernel), z_w1 7 (by decide +kernel) (by decide +kernel), by decide +kernel, by decide +kernel⟩
theorem np_X1_readMinutes : z_np miX1_readMinutes 1 := by unfold z_np; decide +kernel
theorem im_X1_readMinutes : Cond.instanceMethod (mY miX1_readMinutes) ∈ z_tb := z_w2 198 (by decide +kernel) (by decide +kernel)
theorem se_X1_readMinutes : Cond.selects (mY miX1_readMinutes).cls (mY miX1_readMinutes) (mY miX1_readMinutes) ∈ z_tb := z_wp_eq (z_wp1 13 rfl) rfl
def miX1_nextIsStop : MI := (yX1_nextIsStop, cX1_nextIsStop, 1, some .boolean, 2, 41)
theorem mk_X1_nextIsStop : z_MI miX1_nextIsStop := ⟨by decide +kernel, z_w2 146 (by decide +kernel) (by decide +kernel), z_w1 7 (by decide +kernel) (by decide +kernel), by decide +kernel, by decide +kernel⟩
theorem np_X1_nextIsStop : z_np miX1_nextIsStop 0 := by unfold z_np; decide +kernel
theorem im_X1_nextIsStop : Cond.instanceMethod (mY miX1_nextIsStop) ∈ z_tb := z_w2 145 (by decide +kernel) (by decide +kernel)
theorem se_X1_nextIsStop : Cond.selects (mY miX1_nextIsStop).cls (mY miX1_nextIsStop) (mY miX1_nextIsStop) ∈ z_tb := z_wp_eq (z_wp1 5 rfl) rfl
def miX1_nextIsNumber : MI := (yX1_nextIsNumber, cX1_nextIsNumber, 3, some .boolean, 2, 41)
theorem mk_X1_nextIsNumber : z_MI miX1_nextIsNumber := ⟨by decide +kernel, z_w2 160 (by decide +kernel) (by decide +kernel), z_w1 7 (by decide +kernel) (by decide +kernel), by decide +kernel, by decide +kernel⟩
theorem np_X1_nextIsNumber : z_np miX1_nextIsNumber 2 := by unfold z_np; decide +kernel
theorem im_X1_nextIsNumber : Cond.instanceMethod (mY miX1_nextIsNumber) ∈ z_tb := z_w2 159 (by decide +kernel) (by decide +kernel)
theorem se_X1_nextIsNumber : Cond.selects (mY miX1_nextIsNumber).cls (mY miX1_nextIsNumber) (mY miX1_nextIsNumber) ∈ z_tb := z_wp_eq (z_wp1 8 rfl) rfl
def miX1_isWord : MI := (yX1_isWord, cX1_isWord, 3, some .boolean, 4, 85)
theorem mk_X1_isWord : z_MI miX1_isWord := ⟨by decide +kernel, z_w2 94 (by decide +kernel) (by decide +kernel), z_w1 7 (by decide +kernel) (by decide +kernel), by decide +kernel, by decide +kernel⟩
theorem np_X1_isWord : z_np miX1_isWord 1 := by unfold z_np; decide +kernel
theorem im_X1_isWord : Cond.instanceMethod (mY miX1_isWord) ∈ z_tb := z_w2 93 (by decide +kernel) (by decide +kernel)
theorem se_X1_isWord : Cond.selects (mY miX1_isWord).cls (mY miX1_isWord) (mY miX1_isWord) ∈ z_tb := z_wp_eq (z_wp1 4 rfl) rfl
def miX1_nextToken : MI := (yX1_nextToken, cX1_nextToken, 1, none, 1, 21)
theorem mk_X1_nextToken : z_MI miX1_nextToken := ⟨by decide +kernel, z_w2 85 (by decide +kernel) (by decide +kernel), z_w1 7 (by decide +kernel) (by decide +kernel), by decide +kernel, by decide +kernel⟩
theorem np_X1_nextToken : z_np miX1_nextToken 0 := by unfold z_np; decide +kernel
theorem im_X1_nextToken : Cond.instanceMethod (mY miX1_nextToken) ∈ z_tb := z_w2 84 (by decide +kernel) (by decide +kernel)
theorem se_X1_nextToken : Cond.selects (mY miX1_nextToken).cls (mY miX1_nextToken) (mY miX1_nextToken) ∈ z_tb := z_wp_eq (z_wp1 3 rfl) rfl
def miX1_tokenBegunBy : MI := (yX1_tokenBegunBy, cX1_tokenBegunBy, 1, some .int, 0, 0)
theorem mk_X1_tokenBegunBy : z_MI miX1_tokenBegunBy := ⟨by decide +kernel, z_w2 89 (by decide +kernel) (by decide +kernel), z_w1 7 (by decide +kernel) (by decide +kernel), by decide +kernel, by decide +kernel⟩
theorem np_X1_tokenBegunBy : z_np miX1_tokenBegunBy 1 := by unfold z_np; decide +kernel
theorem st_X1_tokenBegunBy : Cond.static (mY miX1_tokenBegunBy) ∈ z_tb := z_w2 88 (by decide +kernel) (by decide +kernel)
def miX2_init : MI := (yX2_init, cX2_init, 2, none, 1, 23)
theorem mk_X2_init : z_MI miX2_init := ⟨by decide +kernel, z_w1 39 (by decide +kernel) (by decide +kernel), z_w1 4 (by decide +kernel) (by decide +kernel), by decide +kernel, by decide +kernel⟩
theorem np_X2_init : z_np miX2_init 1 := by unfold z_np; decide +kernel
theorem im_X2_init : Cond.instanceMethod (mY miX2_init) ∈ z_tb := z_w1 38 (by decide +kernel) (by decide +kernel)
def miX2_get : MI := (yX2_get, cX2_get, 2, some .int, 0, 0)
theorem mk_X2_get : z_MI miX2_get := ⟨by decide +kernel, z_w1 236 (by decide +kernel) (by decide +kernel), z_w1 4 (by decide +kernel) (by decide +kernel), by decide +kernel, by decide +kernel⟩
theorem np_X2_get : z_np miX2_get 1 := by unfold z_np; decide +kernel
theorem im_X2_get : Cond.instanceMethod (mY miX2_get) ∈ z_tb := z_w1 234 (by decide +kernel) (by decide +kernel)
theorem se_X2_get : Cond.selects (mY miX2_get).cls (mY miX2_get) (mY miX2_get) ∈ z_tb := z_w1 235 (by decide +kernel) (by decide +kernel)
def miX2_set : MI := (yX2_set, cX2_set, 3, none, 0, 0)
theorem mk_X2_set : z_MI miX2_set := ⟨by decide +kernel, z_w2 9 (by decide +kernel) (by decide +kernel), z_w1 4 (by decide +kernel) (by decide +kernel), by decide +kernel, by decide +kernel⟩
theorem np_X2_set : z_np miX2_set 2 := by unfold z_np; decide +kernel
theorem im_X2_set : Cond.instanceMethod (mY miX2_set) ∈ z_tb := z_w2 7 (by decide +kernel) (by decide +kernel)
theorem se_X2_set : Cond.selects (mY miX2_set).cls (mY miX2_set) (mY miX2_set) ∈ z_tb := z_w2 8 (by decide +kernel) (by decide +kernel)
def miX2_take : MI := (yX2_take, cX2_take, 2, none, 1, 40)
theorem mk_X2_take : z_MI miX2_take := ⟨by decide +kernel, z_w3 1 (by decide +kernel) (by decide +kernel), z_w1 4 (by decide +kernel) (by decide +kernel), by decide +kernel, by decide +kernel⟩
theorem np_X2_take : z_np miX2_take 1 := by unfold z_np; decide +kernel
theorem im_X2_take : Cond.instanceMethod (mY miX2_take) ∈ z_tb := z_w2 239 (by decide +kernel) (by decide +kernel)
theorem se_X2_take : Cond.selects (mY miX2_take).cls (mY miX2_take) (mY miX2_take) ∈ z_tb := z_w3 0 (by decide +kernel) (by decide +kernel)
def miX3_init : MI := (yX3_init, cX3_init, 3, none, 2, 44)
theorem mk_X3_init : z_MI miX3_init := ⟨by decide +kernel, z_w1 33 (by decide +kernel) (by decide +kernel), z_w1 3 (by decide +kernel) (by decide +kernel), by decide +kernel, by decide +kernel⟩
theorem np_X3_init : z_np miX3_init 2 := by unfold z_np; decide +kernel
theorem im_X3_init : Cond.instanceMethod (mY miX3_init) ∈ z_tb := z_w1 32 (by decide +kernel) (by decide +kernel)
def miX3_size : MI := (yX3_size, cX3_size, 1, some .int, 0, 0)
theorem mk_X3_size : z_MI miX3_size := ⟨by decide +kernel, z_w1 204 (by decide +kernel) (by decide +kernel), z_w1 3 (by decide +kernel) (by decide +kernel), by decide +kernel, by decide +kernel⟩
theorem np_X3_size : z_np miX3_size 0 := by unfold z_np; decide +kernel
theorem im_X3_size : Cond.instanceMethod (mY miX3_size) ∈ z_tb := z_w1 202 (by decide +kernel) (by decide +kernel)
theorem se_X3_size : Cond.selects (mY miX3_size).cls (mY miX3_size) (mY miX3_size) ∈ z_tb := z_w1 203 (by decide +kernel) (by decide +kernel)
def miX3_isFull : MI := (yX3_isFull, cX3_isFull, 1, some .boolean, 0, 0)
theorem mk_X3_isFull : z_MI miX3_isFull := ⟨by decide +kernel, z_w2 13 (by decide +kernel) (by decide +kernel), z_w1 3 (by decide +kernel) (by decide +kernel), by decide +kernel, by decide +kernel⟩
theorem np_X3_isFull : z_np miX3_isFull 0 := by unfold z_np; decide +kernel
theorem im_X3_isFull : Cond.instanceMethod (mY miX3_isFull) ∈ z_tb := z_w2 11 (by decide +kernel) (by decide +kernel)
theorem se_X3_isFull : Cond.selects (mY miX3_isFull).cls (mY miX3_isFull) (mY miX3_isFull) ∈ z_tb := z_w2 12 (by decide +kernel) (by decide +kernel)
def miX3_has : MI := (yX3_has, cX3_has, 2, some .boolean, 0, 0)
theorem mk_X3_has : z_MI miX3_has := ⟨by decide +kernel, z_w1 232 (by decide +kernel) (by decide +kernel), z_w1 3 (by decide +kernel) (by decide +kernel), by decide +kernel, by decide +kernel⟩
theorem np_X3_has : z_np miX3_has 1 := by unfold z_np; decide +kernel
theorem im_X3_has : Cond.instanceMethod (mY miX3_has) ∈ z_tb := z_w1 230 (by decide +kernel) (by decide +kernel)
theorem se_X3_has : Cond.selects (mY miX3_has).cls (mY miX3_has) (mY miX3_has) ∈ z_tb := z_w1 231 (by decide +kernel) (by decide +kernel)
def miX3_get : MI := (yX3_get, cX3_get, 3, some .int, 1, 21)
theorem mk_X3_get : z_MI miX3_get := ⟨by decide +kernel, z_w1 228 (by decide +kernel) (by decide +kernel), z_w1 3 (by decide +kernel) (by decide +kernel), by decide +kernel, by decide +kernel⟩
theorem np_X3_get : z_np miX3_get 2 := by unfold z_np; decide +kernel
theorem im_X3_get : Cond.instanceMethod (mY miX3_get) ∈ z_tb := z_w1 226 (by decide +kernel) (by decide +kernel)
theorem se_X3_get : Cond.selects (mY miX3_get).cls (mY miX3_get) (mY miX3_get) ∈ z_tb := z_w1 227 (by decide +kernel) (by decide +kernel)
def miX3_set : MI := (yX3_set, cX3_set, 4, none, 1, 22)
theorem mk_X3_set : z_MI miX3_set := ⟨by decide +kernel, z_w2 31 (by decide +kernel) (by decide +kernel), z_w1 3 (by decide +kernel) (by decide +kernel), by decide +kernel, by decide +kernel⟩
theorem np_X3_set : z_np miX3_set 3 := by unfold z_np; decide +kernel
theorem im_X3_set : Cond.instanceMethod (mY miX3_set) ∈ z_tb := z_w2 29 (by decide +kernel) (by decide +kernel)
theorem se_X3_set : Cond.selects (mY miX3_set).cls (mY miX3_set) (mY miX3_set) ∈ z_tb := z_w2 30 (by decide +kernel) (by decide +kernel)
def miX3_add : MI := (yX3_add, cX3_add, 7, some .int, 2, 45)
theorem mk_X3_add : z_MI miX3_add := ⟨by decide +kernel, z_w2 26 (by decide +kernel) (by decide +kernel), z_w1 3 (by decide +kernel) (by decide +kernel), by decide +kernel, by decide +kernel⟩
theorem np_X3_add : z_np miX3_add 4 := by unfold z_np; decide +kernel
theorem im_X3_add : Cond.instanceMethod (mY miX3_add) ∈ z_tb := z_w2 24 (by decide +kernel) (by decide +kernel)
theorem se_X3_add : Cond.selects (mY miX3_add).cls (mY miX3_add) (mY miX3_add) ∈ z_tb := z_w2 25 (by decide +kernel) (by decide +kernel)
def miX3_dropFirst : MI := (yX3_dropFirst, cX3_dropFirst, 2, none, 2, 43)
theorem mk_X3_dropFirst : z_MI miX3_dropFirst := ⟨by decide +kernel, z_w3 21 (by decide +kernel) (by decide +kernel), z_w1 3 (by decide +kernel) (by decide +kernel), by decide +kernel, by decide +kernel⟩
theorem np_X3_dropFirst : z_np miX3_dropFirst 0 := by unfold z_np; decide +kernel
theorem im_X3_dropFirst : Cond.instanceMethod (mY miX3_dropFirst) ∈ z_tb := z_w3 19 (by decide +kernel) (by decide +kernel)
theorem se_X3_dropFirst : Cond.selects (mY miX3_dropFirst).cls (mY miX3_dropFirst) (mY miX3_dropFirst) ∈ z_tb := z_w3 20 (by decide +kernel) (by decide +kernel)
def miX3_dropLast : MI := (yX3_dropLast, cX3_dropLast, 1, none, 1, 23)
theorem mk_X3_dropLast : z_MI miX3_dropLast := ⟨by decide +kernel, z_w3 25 (by decide +kernel) (by decide +kernel), z_w1 3 (by decide +kernel) (by decide +kernel), by decide +kernel, by decide +kernel⟩
theorem np_X3_dropLast : z_np miX3_dropLast 0 := by unfold z_np; decide +kernel
theorem im_X3_dropLast : Cond.instanceMethod (mY miX3_dropLast) ∈ z_tb := z_w3 23 (by decide +kernel) (by decide +kernel)
theorem se_X3_dropLast : Cond.selects (mY miX3_dropLast).cls (mY miX3_dropLast) (mY miX3_dropLast) ∈ z_tb := z_w3 24 (by decide +kernel) (by decide +kernel)
def miX3_empty : MI := (yX3_empty, cX3_empty, 2, some .int, 0, 0)
theorem mk_X3_empty : z_MI miX3_empty := ⟨by decide +kernel, z_w1 212 (by decide +kernel) (by decide +kernel), z_w1 3 (by decide +kernel) (by decide +kernel), by decide +kernel, by decide +kernel⟩
theorem np_X3_empty : z_np miX3_empty 0 := by unfold z_np; decide +kernel
theorem im_X3_empty : Cond.instanceMethod (mY miX3_empty) ∈ z_tb := z_w1 210 (by decide +kernel) (by decide +kernel)
theorem se_X3_empty : Cond.selects (mY miX3_empty).cls (mY miX3_empty) (mY miX3_empty) ∈ z_tb := z_w1 211 (by decide +kernel) (by decide +kernel)
def miX3_take : MI := (yX3_take, cX3_take, 2, none, 2, 61)
theorem mk_X3_take : z_MI miX3_take := ⟨by decide +kernel, z_w2 237 (by decide +kernel) (by decide +kernel), z_w1 3 (by decide +kernel) (by decide +kernel), by decide +kernel, by decide +kernel⟩
theorem np_X3_take : z_np miX3_take 1 := by unfold z_np; decide +kernel
theorem im_X3_take : Cond.instanceMethod (mY miX3_take) ∈ z_tb := z_w2 235 (by decide +kernel) (by decide +kernel)
theorem se_X3_take : Cond.selects (mY miX3_take).cls (mY miX3_take) (mY miX3_take) ∈ z_tb := z_w2 236 (by decide +kernel) (by decide +kernel)
def miX3_mixInto : MI := (yX3_mixInto, cX3_mixInto, 6, some .long, 1, 21)
theorem mk_X3_mixInto : z_MI miX3_mixInto := ⟨by decide +kernel, z_w4 126 (by decide +kernel) (by decide +kernel), z_w1 3 (by decide +kernel) (by decide +kernel), by decide +kernel, by decide +kernel⟩
theorem np_X3_mixInto : z_np miX3_mixInto 1 := by unfold z_np; decide +kernel
theorem im_X3_mixInto : Cond.instanceMethod (mY miX3_mixInto) ∈ z_tb := z_w4 124 (by decide +kernel) (by decide +kernel)
theorem se_X3_mixInto : Cond.selects (mY miX3_mixInto).cls (mY miX3_mixInto) (mY miX3_mixInto) ∈ z_tb := z_w4 125 (by decide +kernel) (by decide +kernel)
def miX4_init : MI := (yX4_init, cX4_init, 1, none, 2, 44)
theorem mk_X4_init : z_MI miX4_init := ⟨by decide +kernel, z_w1 66 (by decide +kernel) (by decide +kernel), z_w1 6 (by decide +kernel) (by decide +kernel), by decide +kernel, by decide +kernel⟩
theorem np_X4_init : z_np miX4_init 0 := by unfold z_np; decide +kernel
theorem im_X4_init : Cond.instanceMethod (mY miX4_init) ∈ z_tb := z_w1 65 (by decide +kernel) (by decide +kernel)
def miX4_lay : MI := (yX4_lay, cX4_lay, 2, none, 0, 0)
theorem mk_X4_lay : z_MI miX4_lay := ⟨by decide +kernel, z_w2 211 (by decide +kernel) (by decide +kernel), z_w1 6 (by decide +kernel) (by decide +kernel), by decide +kernel, by decide +kernel⟩
theorem np_X4_lay : z_np miX4_lay 1 := by unfold z_np; decide +kernel
theorem im_X4_lay : Cond.instanceMethod (mY miX4_lay) ∈ z_tb := z_w2 209 (by decide +kernel) (by decide +kernel)
theorem se_X4_lay : Cond.selects (mY miX4_lay).cls (mY miX4_lay) (mY miX4_lay) ∈ z_tb := z_w2 210 (by decide +kernel) (by decide +kernel)
def miX4_between : MI := (yX4_between, cX4_between, 3, some .int, 2, 49)
theorem mk_X4_between : z_MI miX4_between := ⟨by decide +kernel, z_w3 125 (by decide +kernel) (by decide +kernel), z_w1 6 (by decide +kernel) (by decide +kernel), by decide +kernel, by decide +kernel⟩
theorem np_X4_between : z_np miX4_between 2 := by unfold z_np; decide +kernel
theorem im_X4_between : Cond.instanceMethod (mY miX4_between) ∈ z_tb := z_w3 123 (by decide +kernel) (by decide +kernel)
theorem se_X4_between : Cond.selects (mY miX4_between).cls (mY miX4_between) (mY miX4_between) ∈ z_tb := z_w3 124 (by decide +kernel) (by decide +kernel)
def miX4_next : MI := (yX4_next, cX4_next, 6, some .int, 2, 49)
theorem mk_X4_next : z_MI miX4_next := ⟨by decide +kernel, z_w2 219 (by decide +kernel) (by decide +kernel), z_w1 6 (by decide +kernel) (by decide +kernel), by decide +kernel, by decide +kernel⟩
theorem np_X4_next : z_np miX4_next 2 := by unfold z_np; decide +kernel
theorem im_X4_next : Cond.instanceMethod (mY miX4_next) ∈ z_tb := z_w2 217 (by decide +kernel) (by decide +kernel)
theorem se_X4_next : Cond.selects (mY miX4_next).cls (mY miX4_next) (mY miX4_next) ∈ z_tb := z_w2 218 (by decide +kernel) (by decide +kernel)
def miX4_spread : MI := (yX4_spread, cX4_spread, 8, none, 1, 22)
theorem mk_X4_spread : z_MI miX4_spread := ⟨by decide +kernel, z_w2 223 (by decide +kernel) (by decide +kernel), z_w1 6 (by decide +kernel) (by decide +kernel), by decide +kernel, by decide +kernel⟩
theorem np_X4_spread : z_np miX4_spread 1 := by unfold z_np; decide +kernel
theorem im_X4_spread : Cond.instanceMethod (mY miX4_spread) ∈ z_tb := z_w2 222 (by decide +kernel) (by decide +kernel)
theorem se_X4_spread : Cond.selects (mY miX4_spread).cls (mY miX4_spread) (mY miX4_spread) ∈ z_tb := z_wp_eq (z_wp2 0 rfl) rfl
def miX4_beside : MI := (yX4_beside, cX4_beside, 3, some .int, 0, 0)
theorem mk_X4_beside : z_MI miX4_beside := ⟨by decide +kernel, z_w2 229 (by decide +kernel) (by decide +kernel), z_w1 6 (by decide +kernel) (by decide +kernel), by decide +kernel, by decide +kernel⟩
theorem np_X4_beside : z_np miX4_beside 2 := by unfold z_np; decide +kernel
theorem im_X4_beside : Cond.instanceMethod (mY miX4_beside) ∈ z_tb := z_w2 228 (by decide +kernel) (by decide +kernel)
theorem se_X4_beside : Cond.selects (mY miX4_beside).cls (mY miX4_beside) (mY miX4_beside) ∈ z_tb := z_wp_eq (z_wp2 1 rfl) rfl
def miJ6_bitCount_0f7a4 : MI := (yJ6_bitCount_0f7a4, cJ6_bitCount_0f7a4, 1, some .int, 0, 0)
theorem mk_J6_bitCount_0f7a4 : z_MI miJ6_bitCount_0f7a4 := ⟨by decide +kernel, z_w3 195 (by decide +kernel) (by decide +kernel), z_w1 14 (by decide +kernel) (by decide +kernel), by decide +kernel, by decide +kernel⟩
theorem np_J6_bitCount_0f7a4 : z_np miJ6_bitCount_0f7a4 1 := by unfold z_np; decide +kernel
theorem st_J6_bitCount_0f7a4 : Cond.static (mY miJ6_bitCount_0f7a4) ∈ z_tb := z_w3 194 (by decide +kernel) (by decide +kernel)
def miJ0_length_8abf5 : MI := (yJ0_length_8abf5, cJ0_length_8abf5, 1, some .int, 1, 20)
theorem mk_J0_length_8abf5 : z_MI miJ0_length_8abf5 := ⟨by decide +kernel, z_w2 98 (by decide +kernel) (by decide +kernel), z_w1 9 (by decide +kernel) (by decide +kernel), by decide +kernel, by decide +kernel⟩
theorem np_J0_length_8abf5 : z_np miJ0_length_8abf5 0 := by unfold z_np; decide +kernel
theorem im_J0_length_8abf5 : Cond.instanceMethod (mY miJ0_length_8abf5) ∈ z_tb := z_w2 96 (by decide +kernel) (by decide +kernel)
theorem se_J0_length_8abf5 : Cond.selects (mY miJ0_length_8abf5).cls (mY miJ0_length_8abf5) (mY miJ0_length_8abf5) ∈ z_tb := z_w2 97 (by decide +kernel) (by decide +kernel)
def miJ0_charAt_5068e : MI := (yJ0_charAt_5068e, cJ0_charAt_5068e, 2, some .char, 3, 64)
theorem mk_J0_charAt_5068e : z_MI miJ0_charAt_5068e := ⟨by decide +kernel, z_w2 108 (by decide +kernel) (by decide +kernel), z_w1 9 (by decide +kernel) (by decide +kernel), by decide +kernel, by decide +kernel⟩
theorem np_J0_charAt_5068e : z_np miJ0_charAt_5068e 1 := by unfold z_np; decide +kernel
theorem im_J0_charAt_5068e : Cond.instanceMethod (mY miJ0_charAt_5068e) ∈ z_tb := z_w2 106 (by decide +kernel) (by decide +kernel)
theorem se_J0_charAt_5068e : Cond.selects (mY miJ0_charAt_5068e).cls (mY miJ0_charAt_5068e) (mY miJ0_charAt_5068e) ∈ z_tb := z_w2 107 (by decide +kernel) (by decide +kernel)
def miJ0_coder_7d493 : MI := (yJ0_coder_7d493, cJ0_coder_7d493, 1, some .byte, 0, 0)
theorem mk_J0_coder_7d493 : z_MI miJ0_coder_7d493 := ⟨by decide +kernel, z_w2 102 (by decide +kernel) (by decide +kernel), z_w1 9 (by decide +kernel) (by decide +kernel), by decide +kernel, by decide +kernel⟩
theorem np_J0_coder_7d493 : z_np miJ0_coder_7d493 0 := by unfold z_np; decide +kernel
theorem im_J0_coder_7d493 : Cond.instanceMethod (mY miJ0_coder_7d493) ∈ z_tb := z_w2 100 (by decide +kernel) (by decide +kernel)
theorem se_J0_coder_7d493 : Cond.selects (mY miJ0_coder_7d493).cls (mY miJ0_coder_7d493) (mY miJ0_coder_7d493) ∈ z_tb := z_w2 101 (by decide +kernel) (by decide +kernel)
def miJ0_isLatin1_aae02 : MI := (yJ0_isLatin1_aae02, cJ0_isLatin1_aae02, 1, some .boolean, 0, 0)
theorem mk_J0_isLatin1_aae02 : z_MI miJ0_isLatin1_aae02 := ⟨by decide +kernel, z_w2 112 (by decide +kernel) (by decide +kernel), z_w1 9 (by decide +kernel) (by decide +kernel), by decide +kernel, by decide +kernel⟩
theorem np_J0_isLatin1_aae02 : z_np miJ0_isLatin1_aae02 0 := by unfold z_np; decide +kernel
theorem im_J0_isLatin1_aae02 : Cond.instanceMethod (mY miJ0_isLatin1_aae02) ∈ z_tb := z_w2 110 (by decide +kernel) (by decide +kernel)
theorem se_J0_isLatin1_aae02 : Cond.selects (mY miJ0_isLatin1_aae02).cls (mY miJ0_isLatin1_aae02) (mY miJ0_isLatin1_aae02) ∈ z_tb := z_w2 111 (by decide +kernel) (by decide +kernel)
def miJ0_checkIndex_df160 : MI := (yJ0_checkIndex_df160, cJ0_checkIndex_df160, 2, none, 1, 22)
theorem mk_J0_checkIndex_df160 : z_MI miJ0_checkIndex_df160 := ⟨by decide +kernel, z_w2 118 (by decide +kernel) (by decide +kernel), z_w1 9 (by decide +kernel) (by decide +kernel), by decide +kernel, by decide +kernel⟩
theorem np_J0_checkIndex_df160 : z_np miJ0_checkIndex_df160 2 := by unfold z_np; decide +kernel
theorem st_J0_checkIndex_df160 : Cond.static (mY miJ0_checkIndex_df160) ∈ z_tb := z_w2 117 (by decide +kernel) (by decide +kernel)
def miJ1_charAt_3b067 : MI := (yJ1_charAt_3b067, cJ1_charAt_3b067, 2, some .char, 2, 43)
theorem mk_J1_charAt_3b067 : z_MI miJ1_charAt_3b067 := ⟨by decide +kernel, z_w2 115 (by decide +kernel) (by decide +kernel), z_w1 10 (by decide +kernel) (by decide +kernel), by decide +kernel, by decide +kernel⟩
theorem np_J1_charAt_3b067 : z_np miJ1_charAt_3b067 2 := by unfold z_np; decide +kernel
theorem st_J1_charAt_3b067 : Cond.static (mY miJ1_charAt_3b067) ∈ z_tb := z_w2 114 (by decide +kernel) (by decide +kernel)
def miJ3_checkIndex_8e157 : MI := (yJ3_checkIndex_8e157, cJ3_checkIndex_8e157, 3, some .int, 0, 0)
theorem mk_J3_checkIndex_8e157 : z_MI miJ3_checkIndex_8e157 := ⟨by decide +kernel, z_w2 123 (by decide +kernel) (by decide +kernel), z_w1 11 (by decide +kernel) (by decide +kernel), by decide +kernel, by decide +kernel⟩
theorem np_J3_checkIndex_8e157 : z_np miJ3_checkIndex_8e157 3 := by unfold z_np; decide +kernel
theorem st_J3_checkIndex_8e157 : Cond.static (mY miJ3_checkIndex_8e157) ∈ z_tb := z_w2 122 (by decide +kernel) (by decide +kernel)
def miL_law : MI := (yL_law, code, 4, some .boolean, 8, 198)
theorem lk_RX5_1 : Cond.methodLink RX5 1 Lib.objectInit ∈ z_tb := z_w1 20 (by decide +kernel) (by decide +kernel)
theorem lk_RX5_34 : Cond.methodLink RX5 34 (mY miX2_init) ∈ z_tb := z_w1 150 (by decide +kernel) (by decide +kernel)
theorem lk_RX5_67 : Cond.methodLink RX5 67 (mY miX3_size) ∈ z_tb := z_w1 201 (by decide +kernel) (by decide +kernel)
theorem lk_RX5_73 : Cond.methodLink RX5 73 (mY miX0_reset) ∈ z_tb := z_w1 205 (by decide +kernel) (by decide +kernel)
theorem lk_RX5_76 : Cond.methodLink RX5 76 (mY miX5_within) ∈ z_tb := z_w1 217 (by decide +kernel) (by decide +kernel)
theorem lk_RX5_80 : Cond.methodLink RX5 80 (mY miX0_hasLadder) ∈ z_tb := z_w1 220 (by decide +kernel) (by decide +kernel)
theorem lk_RX5_84 : Cond.methodLink RX5 84 (mY miX5_bad) ∈ z_tb := z_w1 237 (by decide +kernel) (by decide +kernel)
theorem lk_RX5_90 : Cond.methodLink RX5 90 (mY miX3_isFull) ∈ z_tb := z_w2 10 (by decide +kernel) (by decide +kernel)
theorem lk_RX5_94 : Cond.methodLink RX5 94 (mY miX5_full) ∈ z_tb := z_w2 14 (by decide +kernel) (by decide +kernel)
theorem lk_RX5_100 : Cond.methodLink RX5 100 (mY miX3_empty) ∈ z_tb := z_w2 18 (by decide +kernel) (by decide +kernel)
theorem lk_RX5_103 : Cond.methodLink RX5 103 (mY miX0_addLadder) ∈ z_tb := z_w2 19 (by decide +kernel) (by decide +kernel)
theorem lk_RX5_107 : Cond.methodLink RX5 107 (mY miX5_isCell) ∈ z_tb := z_w2 37 (by decide +kernel) (by decide +kernel)
theorem lk_RX5_110 : Cond.methodLink RX5 110 (mY miX0_addGoer) ∈ z_tb := z_w2 40 (by decide +kernel) (by decide +kernel)
theorem lk_RX5_117 : Cond.methodLink RX5 117 (mY miX0_addWindow) ∈ z_tb := z_w2 48 (by decide +kernel) (by decide +kernel)
theorem lk_RX5_121 : Cond.methodLink RX5 121 (mY miX1_isFull) ∈ z_tb := z_w2 56 (by decide +kernel) (by decide +kernel)
theorem lk_RX5_122 : Cond.methodLink RX5 122 (mY miX1_add) ∈ z_tb := z_w2 60 (by decide +kernel) (by decide +kernel)
theorem lk_RX5_125 : Cond.methodLink RX5 125 (mY miX1_empty) ∈ z_tb := z_w2 69 (by decide +kernel) (by decide +kernel)
theorem lk_RX5_126 : Cond.methodLink RX5 126 (mY miX1_readInto) ∈ z_tb := z_w2 77 (by decide +kernel) (by decide +kernel)
theorem lk_RX5_130 : Cond.methodLink RX5 130 (mY miX0_take) ∈ z_tb := z_w2 230 (by decide +kernel) (by decide +kernel)
theorem lk_RX5_134 : Cond.methodLink RX5 134 (mY miX0_remember) ∈ z_tb := z_w3 13 (by decide +kernel) (by decide +kernel)
theorem lk_RX5_141 : Cond.methodLink RX5 141 Lib.Math.min.name ∈ z_tb := z_w3 27 (by decide +kernel) (by decide +kernel)
theorem lk_RX5_146 : Cond.methodLink RX5 146 (mY miX0_pass) ∈ z_tb := z_w3 28 (by decide +kernel) (by decide +kernel)
theorem lk_RX5_149 : Cond.methodLink RX5 149 (mY miX3_has) ∈ z_tb := z_w3 33 (by decide +kernel) (by decide +kernel)
theorem lk_RX5_152 : Cond.methodLink RX5 152 (mY miX0_turnGoer) ∈ z_tb := z_w3 34 (by decide +kernel) (by decide +kernel)
theorem lk_RX5_155 : Cond.methodLink RX5 155 (mY miX0_drawLadder) ∈ z_tb := z_w3 39 (by decide +kernel) (by decide +kernel)
theorem lk_RX5_158 : Cond.methodLink RX5 158 (mY miX5_no) ∈ z_tb := z_w3 44 (by decide +kernel) (by decide +kernel)
theorem lk_RX5_161 : Cond.methodLink RX5 161 (mY miX0_recall) ∈ z_tb := z_w3 48 (by decide +kernel) (by decide +kernel)
theorem lk_RX5_164 : Cond.methodLink RX5 164 (mY miX0_nextOf) ∈ z_tb := z_w3 57 (by decide +kernel) (by decide +kernel)
theorem lk_RX5_167 : Cond.methodLink RX5 167 (mY miX0_loudOf) ∈ z_tb := z_w3 61 (by decide +kernel) (by decide +kernel)
theorem lk_RX5_170 : Cond.methodLink RX5 170 (mY miX3_get) ∈ z_tb := z_w3 82 (by decide +kernel) (by decide +kernel)
theorem lk_RX5_173 : Cond.methodLink RX5 173 (mY miX0_heardAt) ∈ z_tb := z_w3 87 (by decide +kernel) (by decide +kernel)
theorem lk_RX5_176 : Cond.methodLink RX5 176 (mY miX0_stepsBetween) ∈ z_tb := z_w3 118 (by decide +kernel) (by decide +kernel)
theorem lk_RX5_179 : Cond.methodLink RX5 179 (mY miX0_trace) ∈ z_tb := z_w3 130 (by decide +kernel) (by decide +kernel)
theorem lk_RX5_183 : Cond.methodLink RX5 183 (mY miX2_get) ∈ z_tb := z_w2 5 (by decide +kernel) (by decide +kernel)
theorem lk_RX5_185 : Cond.methodLink RX5 185 (mY miX5_areTwoGoers) ∈ z_tb := z_w3 139 (by decide +kernel) (by decide +kernel)
theorem lk_RX5_189 : Cond.methodLink RX5 189 (mY miX5_firstMeeting) ∈ z_tb := z_w3 143 (by decide +kernel) (by decide +kernel)
theorem lk_RX5_192 : Cond.methodLink RX5 192 (mY miX0_stepsToGround) ∈ z_tb := z_w3 156 (by decide +kernel) (by decide +kernel)
theorem lk_RX5_195 : Cond.methodLink RX5 195 Lib.Math.max.name ∈ z_tb := z_w3 147 (by decide +kernel) (by decide +kernel)
theorem lk_RX5_198 : Cond.methodLink RX5 198 (mY miX5_goersCutOff) ∈ z_tb := z_w3 164 (by decide +kernel) (by decide +kernel)
theorem lk_RX5_201 : Cond.methodLink RX5 201 (mY miX5_badAs) ∈ z_tb := z_w2 1 (by decide +kernel) (by decide +kernel)
theorem lk_RX5_204 : Cond.methodLink RX5 204 (mY miX5_fillToHomes) ∈ z_tb := z_w3 181 (by decide +kernel) (by decide +kernel)
theorem lk_RX5_207 : Cond.methodLink RX5 207 (mY miX5_fillLeast) ∈ z_tb := z_w3 185 (by decide +kernel) (by decide +kernel)
theorem lk_RX5_210 : Cond.methodLink RX5 210 (mY miX5_homeChosenBy) ∈ z_tb := z_w3 203 (by decide +kernel) (by decide +kernel)
theorem lk_RX5_216 : Cond.methodLink RX5 216 (mY miX3_add) ∈ z_tb := z_w3 215 (by decide +kernel) (by decide +kernel)
theorem lk_RX5_219 : Cond.methodLink RX5 219 (mY miX5_fitsSounds) ∈ z_tb := z_w3 220 (by decide +kernel) (by decide +kernel)
theorem lk_RX5_228 : Cond.methodLink RX5 228 (mY miX5_goerKinds) ∈ z_tb := z_w4 2 (by decide +kernel) (by decide +kernel)
theorem lk_RX5_231 : Cond.methodLink RX5 231 (mY miX5_mostAlike) ∈ z_tb := z_w4 14 (by decide +kernel) (by decide +kernel)
theorem lk_RX5_234 : Cond.methodLink RX5 234 (mY miX5_windowKinds) ∈ z_tb := z_w4 21 (by decide +kernel) (by decide +kernel)
theorem lk_RX5_237 : Cond.methodLink RX5 237 (mY miX5_greaterPart) ∈ z_tb := z_w4 34 (by decide +kernel) (by decide +kernel)
theorem lk_RX5_240 : Cond.methodLink RX5 240 (mY miX5_fillMet) ∈ z_tb := z_w4 41 (by decide +kernel) (by decide +kernel)
theorem lk_RX5_244 : Cond.methodLink RX5 244 (mY miX5_rests) ∈ z_tb := z_w4 45 (by decide +kernel) (by decide +kernel)
theorem lk_RX5_247 : Cond.methodLink RX5 247 (mY miX5_floorOf) ∈ z_tb := z_w3 168 (by decide +kernel) (by decide +kernel)
theorem lk_RX5_250 : Cond.methodLink RX5 250 (mY miX0_laddersDownOn) ∈ z_tb := z_w3 173 (by decide +kernel) (by decide +kernel)
theorem lk_RX5_255 : Cond.methodLink RX5 255 (mY miX5_power) ∈ z_tb := z_w4 62 (by decide +kernel) (by decide +kernel)
theorem lk_RX5_259 : Cond.methodLink RX5 259 (mY miX5_commonDivisor) ∈ z_tb := z_w4 65 (by decide +kernel) (by decide +kernel)
theorem lk_RX5_263 : Cond.methodLink RX5 263 Lib.MathLoose.max_long.x ∈ z_tb := z_w4 68 (by decide +kernel) (by decide +kernel)
theorem lk_RX5_276 : Cond.methodLink RX5 276 (mY miX0_heardInAll) ∈ z_tb := z_w4 81 (by decide +kernel) (by decide +kernel)
theorem lk_RX5_286 : Cond.methodLink RX5 286 (mY miX5_howMany) ∈ z_tb := z_w4 105 (by decide +kernel) (by decide +kernel)
theorem lk_RX5_293 : Cond.methodLink RX5 293 (mY miX3_mixInto) ∈ z_tb := z_w4 123 (by decide +kernel) (by decide +kernel)
theorem lk_RX5_297 : Cond.methodLink RX5 297 (mY miX2_set) ∈ z_tb := z_w2 6 (by decide +kernel) (by decide +kernel)
theorem lk_RX5_300 : Cond.methodLink RX5 300 (mY miX0_arrived) ∈ z_tb := z_w4 109 (by decide +kernel) (by decide +kernel)
theorem lk_RX5_303 : Cond.methodLink RX5 303 (mY miX1_length) ∈ z_tb := z_w4 113 (by decide +kernel) (by decide +kernel)
theorem lk_RX5_306 : Cond.methodLink RX5 306 (mY miX5_climbsDown) ∈ z_tb := z_w3 169 (by decide +kernel) (by decide +kernel)
theorem lk_RX5_309 : Cond.methodLink RX5 309 (mY miX5_leastBehind) ∈ z_tb := z_w3 189 (by decide +kernel) (by decide +kernel)
theorem lk_RX5_312 : Cond.methodLink RX5 312 (mY miJ6_bitCount_0f7a4) ∈ z_tb := z_w3 193 (by decide +kernel) (by decide +kernel)
theorem lk_RX5_317 : Cond.methodLink RX5 317 (mY miX5_wayThrough) ∈ z_tb := z_w3 199 (by decide +kernel) (by decide +kernel)
theorem lk_RX5_320 : Cond.methodLink RX5 320 (mY miX5_firstHome) ∈ z_tb := z_w3 207 (by decide +kernel) (by decide +kernel)
theorem lk_RX5_323 : Cond.methodLink RX5 323 (mY miX5_loudness) ∈ z_tb := z_w3 224 (by decide +kernel) (by decide +kernel)
theorem lk_RX5_326 : Cond.methodLink RX5 326 (mY miX0_hears) ∈ z_tb := z_w3 225 (by decide +kernel) (by decide +kernel)
theorem lk_RX5_329 : Cond.methodLink RX5 329 (mY miX5_fitsNotes) ∈ z_tb := z_w4 6 (by decide +kernel) (by decide +kernel)
theorem lk_RX5_332 : Cond.methodLink RX5 332 (mY miX5_fitsMarks) ∈ z_tb := z_w4 25 (by decide +kernel) (by decide +kernel)
theorem lk_RX5_335 : Cond.methodLink RX5 335 (mY miX5_hearing) ∈ z_tb := z_w4 29 (by decide +kernel) (by decide +kernel)
theorem lk_RX5_338 : Cond.methodLink RX5 338 (mY miX5_gainOfA) ∈ z_tb := z_w4 49 (by decide +kernel) (by decide +kernel)
theorem lk_RX5_341 : Cond.methodLink RX5 341 (mY miX5_gainOfB) ∈ z_tb := z_w4 53 (by decide +kernel) (by decide +kernel)
theorem lk_RX5_344 : Cond.methodLink RX5 344 Lib.Math.abs.name ∈ z_tb := z_w3 98 (by decide +kernel) (by decide +kernel)
theorem lk_RX5_347 : Cond.methodLink RX5 347 (mY miX5_slipper) ∈ z_tb := z_w3 75 (by decide +kernel) (by decide +kernel)
theorem lk_RX5_350 : Cond.methodLink RX5 350 (mY miX5_boot) ∈ z_tb := z_w3 78 (by decide +kernel) (by decide +kernel)
theorem lk_RX5_353 : Cond.methodLink RX5 353 (mY miX5_light) ∈ z_tb := z_w3 104 (by decide +kernel) (by decide +kernel)
theorem lk_RX5_356 : Cond.methodLink RX5 356 (mY miX5_deaf) ∈ z_tb := z_w3 107 (by decide +kernel) (by decide +kernel)
theorem lk_RX0_3 : Cond.methodLink RX0 3 Lib.objectInit ∈ z_tb := z_w1 28 (by decide +kernel) (by decide +kernel)
theorem lk_RX0_11 : Cond.methodLink RX0 11 (mY miX3_init) ∈ z_tb := z_w1 31 (by decide +kernel) (by decide +kernel)
theorem lk_RX0_45 : Cond.methodLink RX0 45 (mY miX3_empty) ∈ z_tb := z_w1 209 (by decide +kernel) (by decide +kernel)
theorem lk_RX0_53 : Cond.methodLink RX0 53 (mY miX3_take) ∈ z_tb := z_w2 234 (by decide +kernel) (by decide +kernel)
theorem lk_RX0_57 : Cond.methodLink RX0 57 (mY miX3_size) ∈ z_tb := z_w1 224 (by decide +kernel) (by decide +kernel)
theorem lk_RX0_60 : Cond.methodLink RX0 60 (mY miX3_get) ∈ z_tb := z_w1 225 (by decide +kernel) (by decide +kernel)
theorem lk_RX0_64 : Cond.methodLink RX0 64 (mY miX3_add) ∈ z_tb := z_w2 23 (by decide +kernel) (by decide +kernel)
theorem lk_RX0_68 : Cond.methodLink RX0 68 (mY miX3_set) ∈ z_tb := z_w2 185 (by decide +kernel) (by decide +kernel)
theorem lk_RX0_72 : Cond.methodLink RX0 72 (mY miX3_isFull) ∈ z_tb := z_w3 17 (by decide +kernel) (by decide +kernel)
theorem lk_RX0_76 : Cond.methodLink RX0 76 (mY miX3_dropFirst) ∈ z_tb := z_w3 18 (by decide +kernel) (by decide +kernel)
theorem lk_RX0_79 : Cond.methodLink RX0 79 (mY miX3_dropLast) ∈ z_tb := z_w3 52 (by decide +kernel) (by decide +kernel)
theorem lk_RX0_82 : Cond.methodLink RX0 82 (mY miX0_layWays) ∈ z_tb := z_w2 204 (by decide +kernel) (by decide +kernel)
theorem lk_RX0_85 : Cond.methodLink RX0 85 (mY miX0_goalOf) ∈ z_tb := z_w2 212 (by decide +kernel) (by decide +kernel)
theorem lk_RX0_89 : Cond.methodLink RX0 89 (mY miX4_next) ∈ z_tb := z_w2 216 (by decide +kernel) (by decide +kernel)
theorem lk_RX0_92 : Cond.methodLink RX0 92 (mY miX2_set) ∈ z_tb := z_w3 134 (by decide +kernel) (by decide +kernel)
theorem lk_RX0_96 : Cond.methodLink RX0 96 (mY miX0_loudStep) ∈ z_tb := z_w3 65 (by decide +kernel) (by decide +kernel)
theorem lk_RX0_99 : Cond.methodLink RX0 99 Lib.Math.max.name ∈ z_tb := z_w3 81 (by decide +kernel) (by decide +kernel)
theorem lk_RX0_104 : Cond.methodLink RX0 104 (mY miX0_hears) ∈ z_tb := z_w3 91 (by decide +kernel) (by decide +kernel)
theorem lk_RX0_121 : Cond.methodLink RX0 121 (mY miX4_between) ∈ z_tb := z_w3 122 (by decide +kernel) (by decide +kernel)
theorem lk_RX0_124 : Cond.methodLink RX0 124 (mY miX4_lay) ∈ z_tb := z_w2 208 (by decide +kernel) (by decide +kernel)
theorem lk_RX1_3 : Cond.methodLink RX1 3 Lib.objectInit ∈ z_tb := z_w1 127 (by decide +kernel) (by decide +kernel)
theorem lk_RX1_13 : Cond.methodLink RX1 13 (mY miX2_init) ∈ z_tb := z_w1 129 (by decide +kernel) (by decide +kernel)
theorem lk_RX1_24 : Cond.methodLink RX1 24 (mY miX2_set) ∈ z_tb := z_w2 64 (by decide +kernel) (by decide +kernel)
theorem lk_RX1_28 : Cond.methodLink RX1 28 (mY miX0_reset) ∈ z_tb := z_w2 81 (by decide +kernel) (by decide +kernel)
theorem lk_RX1_36 : Cond.methodLink RX1 36 (mY miX1_nextToken) ∈ z_tb := z_w2 82 (by decide +kernel) (by decide +kernel)
theorem lk_RX1_41 : Cond.methodLink RX1 41 (mY miX1_isWord) ∈ z_tb := z_w2 91 (by decide +kernel) (by decide +kernel)
theorem lk_RX1_45 : Cond.methodLink RX1 45 (mY miX1_nextIsStop) ∈ z_tb := z_w2 143 (by decide +kernel) (by decide +kernel)
theorem lk_RX1_55 : Cond.methodLink RX1 55 (mY miX1_readItem) ∈ z_tb := z_w2 147 (by decide +kernel) (by decide +kernel)
theorem lk_RX1_61 : Cond.methodLink RX1 61 (mY miX1_readLadder) ∈ z_tb := z_w2 152 (by decide +kernel) (by decide +kernel)
theorem lk_RX1_66 : Cond.methodLink RX1 66 (mY miX1_readGoer) ∈ z_tb := z_w2 164 (by decide +kernel) (by decide +kernel)
theorem lk_RX1_71 : Cond.methodLink RX1 71 (mY miX1_readWindow) ∈ z_tb := z_w2 170 (by decide +kernel) (by decide +kernel)
theorem lk_RX1_76 : Cond.methodLink RX1 76 (mY miX1_readTurn) ∈ z_tb := z_w2 176 (by decide +kernel) (by decide +kernel)
theorem lk_RX1_81 : Cond.methodLink RX1 81 (mY miX1_readDraw) ∈ z_tb := z_w2 187 (by decide +kernel) (by decide +kernel)
theorem lk_RX1_86 : Cond.methodLink RX1 86 (mY miX1_readMinutes) ∈ z_tb := z_w2 196 (by decide +kernel) (by decide +kernel)
theorem lk_RX1_93 : Cond.methodLink RX1 93 (mY miX3_isFull) ∈ z_tb := z_w2 156 (by decide +kernel) (by decide +kernel)
theorem lk_RX1_98 : Cond.methodLink RX1 98 (mY miX1_nextIsNumber) ∈ z_tb := z_w2 157 (by decide +kernel) (by decide +kernel)
theorem lk_RX1_105 : Cond.methodLink RX1 105 (mY miX0_hasLadder) ∈ z_tb := z_w2 161 (by decide +kernel) (by decide +kernel)
theorem lk_RX1_109 : Cond.methodLink RX1 109 (mY miX0_addLadder) ∈ z_tb := z_w2 162 (by decide +kernel) (by decide +kernel)
theorem lk_RX1_116 : Cond.methodLink RX1 116 (mY miX0_addGoer) ∈ z_tb := z_w2 168 (by decide +kernel) (by decide +kernel)
theorem lk_RX1_123 : Cond.methodLink RX1 123 (mY miX0_addWindow) ∈ z_tb := z_w2 174 (by decide +kernel) (by decide +kernel)
theorem lk_RX1_127 : Cond.methodLink RX1 127 (mY miX3_size) ∈ z_tb := z_w2 180 (by decide +kernel) (by decide +kernel)
theorem lk_RX1_131 : Cond.methodLink RX1 131 (mY miX0_turnGoer) ∈ z_tb := z_w2 181 (by decide +kernel) (by decide +kernel)
theorem lk_RX1_134 : Cond.methodLink RX1 134 (mY miX0_drawLadder) ∈ z_tb := z_w2 191 (by decide +kernel) (by decide +kernel)
theorem lk_RX1_137 : Cond.methodLink RX1 137 (mY miX0_pass) ∈ z_tb := z_w2 200 (by decide +kernel) (by decide +kernel)
theorem lk_RX1_140 : Cond.methodLink RX1 140 (mY miX2_get) ∈ z_tb := z_w2 86 (by decide +kernel) (by decide +kernel)
theorem lk_RX1_143 : Cond.methodLink RX1 143 (mY miJ0_length_8abf5) ∈ z_tb := z_w2 95 (by decide +kernel) (by decide +kernel)
theorem lk_RX1_147 : Cond.methodLink RX1 147 (mY miJ0_charAt_5068e) ∈ z_tb := z_w2 105 (by decide +kernel) (by decide +kernel)
theorem lk_RX1_151 : Cond.methodLink RX1 151 (mY miX1_tokenBegunBy) ∈ z_tb := z_w2 87 (by decide +kernel) (by decide +kernel)
theorem lk_RX2_1 : Cond.methodLink RX2 1 Lib.objectInit ∈ z_tb := z_w1 40 (by decide +kernel) (by decide +kernel)
theorem lk_RX2_7 : Cond.methodLink RX2 7 Lib.Math.max.name ∈ z_tb := z_w1 41 (by decide +kernel) (by decide +kernel)
theorem lk_RX2_19 : Cond.methodLink RX2 19 Lib.Math.min.name ∈ z_tb := z_w3 2 (by decide +kernel) (by decide +kernel)
theorem lk_RX2_22 : Cond.methodLink RX2 22 arraycopyName ∈ z_tb := z_w3 5 (by decide +kernel) (by decide +kernel)
theorem lk_RX3_3 : Cond.methodLink RX3 3 Lib.objectInit ∈ z_tb := z_w1 34 (by decide +kernel) (by decide +kernel)
theorem lk_RX3_20 : Cond.methodLink RX3 20 (mY miX2_init) ∈ z_tb := z_w1 37 (by decide +kernel) (by decide +kernel)
theorem lk_RX3_30 : Cond.methodLink RX3 30 (mY miX3_has) ∈ z_tb := z_w1 229 (by decide +kernel) (by decide +kernel)
theorem lk_RX3_34 : Cond.methodLink RX3 34 (mY miX2_get) ∈ z_tb := z_w1 233 (by decide +kernel) (by decide +kernel)
theorem lk_RX3_38 : Cond.methodLink RX3 38 (mY miX2_set) ∈ z_tb := z_w2 32 (by decide +kernel) (by decide +kernel)
theorem lk_RX3_42 : Cond.methodLink RX3 42 (mY miX3_isFull) ∈ z_tb := z_w2 27 (by decide +kernel) (by decide +kernel)
theorem lk_RX3_46 : Cond.methodLink RX3 46 (mY miX3_set) ∈ z_tb := z_w2 28 (by decide +kernel) (by decide +kernel)
theorem lk_RX3_49 : Cond.methodLink RX3 49 (mY miX3_dropLast) ∈ z_tb := z_w3 22 (by decide +kernel) (by decide +kernel)
theorem lk_RX3_52 : Cond.methodLink RX3 52 Lib.Math.max.name ∈ z_tb := z_w3 26 (by decide +kernel) (by decide +kernel)
theorem lk_RX3_58 : Cond.methodLink RX3 58 (mY miX2_take) ∈ z_tb := z_w2 238 (by decide +kernel) (by decide +kernel)
theorem lk_RX4_3 : Cond.methodLink RX4 3 Lib.objectInit ∈ z_tb := z_w1 67 (by decide +kernel) (by decide +kernel)
theorem lk_RX4_11 : Cond.methodLink RX4 11 (mY miX2_init) ∈ z_tb := z_w1 69 (by decide +kernel) (by decide +kernel)
theorem lk_RX4_30 : Cond.methodLink RX4 30 (mY miX4_spread) ∈ z_tb := z_w2 220 (by decide +kernel) (by decide +kernel)
theorem lk_RX4_33 : Cond.methodLink RX4 33 (mY miX2_get) ∈ z_tb := z_w2 225 (by decide +kernel) (by decide +kernel)
theorem lk_RX4_37 : Cond.methodLink RX4 37 (mY miX4_beside) ∈ z_tb := z_w2 226 (by decide +kernel) (by decide +kernel)
theorem lk_RX4_41 : Cond.methodLink RX4 41 (mY miX2_set) ∈ z_tb := z_w2 224 (by decide +kernel) (by decide +kernel)
theorem lk_RL_9 : Cond.methodLink RL 9 (mY miX5_init) ∈ z_tb := z_w1 17 (by decide +kernel) (by decide +kernel)
theorem lk_RL_12 : Cond.methodLink RL 12 (mY miX6_init) ∈ z_tb := z_w4 130 (by decide +kernel) (by decide +kernel)
theorem lk_RL_13 : Cond.methodLink RL 13 (mY miX5_back) ∈ z_tb := z_w1 197 (by decide +kernel) (by decide +kernel)
theorem lk_RL_17 : Cond.methodLink RL 17 (mY miX6_back) ∈ z_tb := z_w4 199 (by decide +kernel) (by decide +kernel)
theorem lk_RL_18 : Cond.methodLink RL 18 (mY miX5_ladder) ∈ z_tb := z_w1 213 (by decide +kernel) (by decide +kernel)
theorem lk_RL_22 : Cond.methodLink RL 22 (mY miX6_ladder) ∈ z_tb := z_w4 207 (by decide +kernel) (by decide +kernel)
theorem lk_RL_23 : Cond.methodLink RL 23 (mY miX5_goer) ∈ z_tb := z_w2 33 (by decide +kernel) (by decide +kernel)
theorem lk_RL_27 : Cond.methodLink RL 27 (mY miX6_goer) ∈ z_tb := z_w4 231 (by decide +kernel) (by decide +kernel)
theorem lk_RL_28 : Cond.methodLink RL 28 (mY miX5_window) ∈ z_tb := z_w2 44 (by decide +kernel) (by decide +kernel)
theorem lk_RL_32 : Cond.methodLink RL 32 (mY miX6_window) ∈ z_tb := z_w5 4 (by decide +kernel) (by decide +kernel)
theorem lk_RL_33 : Cond.methodLink RL 33 (mY miX5_type) ∈ z_tb := z_w2 52 (by decide +kernel) (by decide +kernel)
theorem lk_RL_36 : Cond.methodLink RL 36 (mY miX6_type) ∈ z_tb := z_w5 12 (by decide +kernel) (by decide +kernel)
theorem lk_RL_37 : Cond.methodLink RL 37 (mY miX5_clear) ∈ z_tb := z_w2 65 (by decide +kernel) (by decide +kernel)
theorem lk_RL_40 : Cond.methodLink RL 40 (mY miX6_clear) ∈ z_tb := z_w5 17 (by decide +kernel) (by decide +kernel)
theorem lk_RL_41 : Cond.methodLink RL 41 (mY miX5_read) ∈ z_tb := z_w2 73 (by decide +kernel) (by decide +kernel)
theorem lk_RL_44 : Cond.methodLink RL 44 (mY miX6_read) ∈ z_tb := z_w5 21 (by decide +kernel) (by decide +kernel)
theorem lk_RL_45 : Cond.methodLink RL 45 (mY miX5_minutes) ∈ z_tb := z_w3 9 (by decide +kernel) (by decide +kernel)
theorem lk_RL_48 : Cond.methodLink RL 48 (mY miX6_minutes) ∈ z_tb := z_w5 119 (by decide +kernel) (by decide +kernel)
theorem lk_RL_49 : Cond.methodLink RL 49 (mY miX5_turns) ∈ z_tb := z_w3 29 (by decide +kernel) (by decide +kernel)
theorem lk_RL_52 : Cond.methodLink RL 52 (mY miX6_turns) ∈ z_tb := z_w5 128 (by decide +kernel) (by decide +kernel)
theorem lk_RL_53 : Cond.methodLink RL 53 (mY miX5_draws) ∈ z_tb := z_w3 35 (by decide +kernel) (by decide +kernel)
theorem lk_RL_56 : Cond.methodLink RL 56 (mY miX6_draws) ∈ z_tb := z_w5 136 (by decide +kernel) (by decide +kernel)
theorem lk_RL_57 : Cond.methodLink RL 57 (mY miX5_undo) ∈ z_tb := z_w3 40 (by decide +kernel) (by decide +kernel)
theorem lk_RL_60 : Cond.methodLink RL 60 (mY miX6_undo) ∈ z_tb := z_w5 144 (by decide +kernel) (by decide +kernel)
theorem lk_RL_61 : Cond.methodLink RL 61 (mY miX5_of) ∈ z_tb := z_w3 53 (by decide +kernel) (by decide +kernel)
theorem lk_RL_64 : Cond.methodLink RL 64 (mY miX6_of) ∈ z_tb := z_w5 152 (by decide +kernel) (by decide +kernel)
theorem lk_RL_65 : Cond.methodLink RL 65 (mY miX5_about) ∈ z_tb := z_w3 83 (by decide +kernel) (by decide +kernel)
theorem lk_RL_68 : Cond.methodLink RL 68 (mY miX6_about) ∈ z_tb := z_w5 169 (by decide +kernel) (by decide +kernel)
theorem lk_RL_69 : Cond.methodLink RL 69 (mY miX5_rungs) ∈ z_tb := z_w3 110 (by decide +kernel) (by decide +kernel)
theorem lk_RL_72 : Cond.methodLink RL 72 (mY miX6_rungs) ∈ z_tb := z_w5 200 (by decide +kernel) (by decide +kernel)
theorem lk_RL_73 : Cond.methodLink RL 73 (mY miX5_far) ∈ z_tb := z_w3 114 (by decide +kernel) (by decide +kernel)
theorem lk_RL_76 : Cond.methodLink RL 76 (mY miX6_far) ∈ z_tb := z_w5 204 (by decide +kernel) (by decide +kernel)
theorem lk_RL_77 : Cond.methodLink RL 77 (mY miX5_where) ∈ z_tb := z_w3 126 (by decide +kernel) (by decide +kernel)
theorem lk_RL_80 : Cond.methodLink RL 80 (mY miX6_where) ∈ z_tb := z_w5 208 (by decide +kernel) (by decide +kernel)
theorem lk_RL_81 : Cond.methodLink RL 81 (mY miX5_meet) ∈ z_tb := z_w3 135 (by decide +kernel) (by decide +kernel)
theorem lk_RL_84 : Cond.methodLink RL 84 (mY miX6_meet) ∈ z_tb := z_w5 216 (by decide +kernel) (by decide +kernel)
theorem lk_RL_85 : Cond.methodLink RL 85 (mY miX5_waits) ∈ z_tb := z_w3 148 (by decide +kernel) (by decide +kernel)
theorem lk_RL_88 : Cond.methodLink RL 88 (mY miX6_waits) ∈ z_tb := z_w5 228 (by decide +kernel) (by decide +kernel)
theorem lk_RL_89 : Cond.methodLink RL 89 (mY miX5_down) ∈ z_tb := z_w3 152 (by decide +kernel) (by decide +kernel)
theorem lk_RL_92 : Cond.methodLink RL 92 (mY miX6_down) ∈ z_tb := z_w5 232 (by decide +kernel) (by decide +kernel)
theorem lk_RL_93 : Cond.methodLink RL 93 (mY miX5_cut) ∈ z_tb := z_w3 160 (by decide +kernel) (by decide +kernel)
theorem lk_RL_96 : Cond.methodLink RL 96 (mY miX6_cut) ∈ z_tb := z_w6 0 (by decide +kernel) (by decide +kernel)
theorem lk_RL_97 : Cond.methodLink RL 97 (mY miX5_doors) ∈ z_tb := z_w3 177 (by decide +kernel) (by decide +kernel)
theorem lk_RL_100 : Cond.methodLink RL 100 (mY miX6_doors) ∈ z_tb := z_w6 7 (by decide +kernel) (by decide +kernel)
theorem lk_RL_101 : Cond.methodLink RL 101 (mY miX5_sound) ∈ z_tb := z_w3 211 (by decide +kernel) (by decide +kernel)
theorem lk_RL_104 : Cond.methodLink RL 104 (mY miX6_sound) ∈ z_tb := z_w6 18 (by decide +kernel) (by decide +kernel)
theorem lk_RL_105 : Cond.methodLink RL 105 (mY miX5_who) ∈ z_tb := z_w3 216 (by decide +kernel) (by decide +kernel)
theorem lk_RL_108 : Cond.methodLink RL 108 (mY miX6_who) ∈ z_tb := z_w6 24 (by decide +kernel) (by decide +kernel)
theorem lk_RL_109 : Cond.methodLink RL 109 (mY miX5_note) ∈ z_tb := z_w3 226 (by decide +kernel) (by decide +kernel)
theorem lk_RL_113 : Cond.methodLink RL 113 (mY miX6_note) ∈ z_tb := z_w6 28 (by decide +kernel) (by decide +kernel)
theorem lk_RL_114 : Cond.methodLink RL 114 (mY miX5_mark) ∈ z_tb := z_w3 230 (by decide +kernel) (by decide +kernel)
theorem lk_RL_117 : Cond.methodLink RL 117 (mY miX6_mark) ∈ z_tb := z_w6 34 (by decide +kernel) (by decide +kernel)
theorem lk_RL_118 : Cond.methodLink RL 118 (mY miX5_forget) ∈ z_tb := z_w3 234 (by decide +kernel) (by decide +kernel)
theorem lk_RL_121 : Cond.methodLink RL 121 (mY miX6_forget) ∈ z_tb := z_w6 39 (by decide +kernel) (by decide +kernel)
theorem lk_RL_122 : Cond.methodLink RL 122 (mY miX5_is) ∈ z_tb := z_w3 238 (by decide +kernel) (by decide +kernel)
theorem lk_RL_125 : Cond.methodLink RL 125 (mY miX6_is) ∈ z_tb := z_w6 43 (by decide +kernel) (by decide +kernel)
theorem lk_RL_126 : Cond.methodLink RL 126 (mY miX5_look) ∈ z_tb := z_w4 10 (by decide +kernel) (by decide +kernel)
theorem lk_RL_129 : Cond.methodLink RL 129 (mY miX6_look) ∈ z_tb := z_w6 51 (by decide +kernel) (by decide +kernel)
theorem lk_RL_130 : Cond.methodLink RL 130 (mY miX5_kinds) ∈ z_tb := z_w4 17 (by decide +kernel) (by decide +kernel)
theorem lk_RL_133 : Cond.methodLink RL 133 (mY miX6_kinds) ∈ z_tb := z_w6 59 (by decide +kernel) (by decide +kernel)
theorem lk_RL_134 : Cond.methodLink RL 134 (mY miX5_ask) ∈ z_tb := z_w4 30 (by decide +kernel) (by decide +kernel)
theorem lk_RL_137 : Cond.methodLink RL 137 (mY miX6_ask) ∈ z_tb := z_w6 70 (by decide +kernel) (by decide +kernel)
theorem lk_RL_138 : Cond.methodLink RL 138 (mY miX5_shy) ∈ z_tb := z_w4 37 (by decide +kernel) (by decide +kernel)
theorem lk_RL_141 : Cond.methodLink RL 141 (mY miX6_shy) ∈ z_tb := z_w6 74 (by decide +kernel) (by decide +kernel)
theorem lk_RL_142 : Cond.methodLink RL 142 (mY miX5_odds) ∈ z_tb := z_w4 57 (by decide +kernel) (by decide +kernel)
theorem lk_RL_145 : Cond.methodLink RL 145 (mY miX6_odds) ∈ z_tb := z_w6 86 (by decide +kernel) (by decide +kernel)
theorem lk_RL_146 : Cond.methodLink RL 146 (mY miX5_nights) ∈ z_tb := z_w4 71 (by decide +kernel) (by decide +kernel)
theorem lk_RL_149 : Cond.methodLink RL 149 (mY miX6_nights) ∈ z_tb := z_w6 91 (by decide +kernel) (by decide +kernel)
theorem lk_RL_150 : Cond.methodLink RL 150 (mY miX5_part) ∈ z_tb := z_w4 85 (by decide +kernel) (by decide +kernel)
theorem lk_RL_154 : Cond.methodLink RL 154 (mY miX6_part) ∈ z_tb := z_w6 101 (by decide +kernel) (by decide +kernel)
theorem lk_RL_155 : Cond.methodLink RL 155 (mY miX5_image) ∈ z_tb := z_w4 89 (by decide +kernel) (by decide +kernel)
theorem lk_RL_158 : Cond.methodLink RL 158 (mY miX6_image) ∈ z_tb := z_w6 105 (by decide +kernel) (by decide +kernel)
theorem lk_RL_159 : Cond.methodLink RL 159 (mY miX5_from) ∈ z_tb := z_w4 93 (by decide +kernel) (by decide +kernel)
theorem lk_RL_162 : Cond.methodLink RL 162 (mY miX6_from) ∈ z_tb := z_w6 109 (by decide +kernel) (by decide +kernel)
theorem lk_RL_163 : Cond.methodLink RL 163 (mY miX5_status) ∈ z_tb := z_w4 97 (by decide +kernel) (by decide +kernel)
theorem lk_RL_166 : Cond.methodLink RL 166 (mY miX6_status) ∈ z_tb := z_w6 113 (by decide +kernel) (by decide +kernel)
theorem lk_RL_167 : Cond.methodLink RL 167 (mY miX5_count) ∈ z_tb := z_w4 101 (by decide +kernel) (by decide +kernel)
theorem lk_RL_170 : Cond.methodLink RL 170 (mY miX6_count) ∈ z_tb := z_w6 117 (by decide +kernel) (by decide +kernel)
theorem lk_RL_171 : Cond.methodLink RL 171 (mY miX5_digest) ∈ z_tb := z_w4 117 (by decide +kernel) (by decide +kernel)
theorem lk_RL_175 : Cond.methodLink RL 175 (mY miX6_digest) ∈ z_tb := z_w6 130 (by decide +kernel) (by decide +kernel)
theorem lk_RX6_1 : Cond.methodLink RX6 1 Lib.objectInit ∈ z_tb := z_w4 133 (by decide +kernel) (by decide +kernel)
theorem lk_RX6_61 : Cond.methodLink RX6 61 (mY miX6_in) ∈ z_tb := z_w4 212 (by decide +kernel) (by decide +kernel)
theorem lk_RX6_67 : Cond.methodLink RX6 67 (mY miX6_slipper) ∈ z_tb := z_w5 166 (by decide +kernel) (by decide +kernel)
theorem lk_RX6_71 : Cond.methodLink RX6 71 (mY miX6_boot) ∈ z_tb := z_w5 163 (by decide +kernel) (by decide +kernel)
theorem lk_RX6_74 : Cond.methodLink RX6 74 (mY miX6_light) ∈ z_tb := z_w5 194 (by decide +kernel) (by decide +kernel)
theorem lk_RX6_78 : Cond.methodLink RX6 78 (mY miX6_deaf) ∈ z_tb := z_w5 197 (by decide +kernel) (by decide +kernel)
theorem lk_RX6_81 : Cond.methodLink RX6 81 (mY miX6_empties) ∈ z_tb := z_w4 203 (by decide +kernel) (by decide +kernel)
theorem lk_RX6_87 : Cond.methodLink RX6 87 (mY miX6_hasLadder) ∈ z_tb := z_w4 215 (by decide +kernel) (by decide +kernel)
theorem lk_RX6_91 : Cond.methodLink RX6 91 (mY miX6_bad) ∈ z_tb := z_w4 219 (by decide +kernel) (by decide +kernel)
theorem lk_RX6_94 : Cond.methodLink RX6 94 (mY miX6_full) ∈ z_tb := z_w4 223 (by decide +kernel) (by decide +kernel)
theorem lk_RX6_98 : Cond.methodLink RX6 98 (mY miX6_addsLadder) ∈ z_tb := z_w4 227 (by decide +kernel) (by decide +kernel)
theorem lk_RX6_104 : Cond.methodLink RX6 104 (mY miX6_isCell) ∈ z_tb := z_w4 236 (by decide +kernel) (by decide +kernel)
theorem lk_RX6_108 : Cond.methodLink RX6 108 (mY miX6_addsGoer) ∈ z_tb := z_w5 0 (by decide +kernel) (by decide +kernel)
theorem lk_RX6_112 : Cond.methodLink RX6 112 (mY miX6_addsWindow) ∈ z_tb := z_w5 8 (by decide +kernel) (by decide +kernel)
theorem lk_RX6_121 : Cond.methodLink RX6 121 (mY miX6_byteAt) ∈ z_tb := z_w5 29 (by decide +kernel) (by decide +kernel)
theorem lk_RX6_127 : Cond.methodLink RX6 127 (mY miX6_blanks) ∈ z_tb := z_w5 25 (by decide +kernel) (by decide +kernel)
theorem lk_RX6_134 : Cond.methodLink RX6 134 (mY miX6_isLetter) ∈ z_tb := z_w5 51 (by decide +kernel) (by decide +kernel)
theorem lk_RX6_138 : Cond.methodLink RX6 138 (mY miX6_isWord) ∈ z_tb := z_w5 47 (by decide +kernel) (by decide +kernel)
theorem lk_RX6_151 : Cond.methodLink RX6 151 (mY miX6_takesNumber) ∈ z_tb := z_w5 59 (by decide +kernel) (by decide +kernel)
theorem lk_RX6_154 : Cond.methodLink RX6 154 (mY miX6_passes) ∈ z_tb := z_w5 86 (by decide +kernel) (by decide +kernel)
theorem lk_RX6_157 : Cond.methodLink RX6 157 (mY miX6_takesWord) ∈ z_tb := z_w5 37 (by decide +kernel) (by decide +kernel)
theorem lk_RX6_160 : Cond.methodLink RX6 160 (mY miX6_wordOf) ∈ z_tb := z_w5 43 (by decide +kernel) (by decide +kernel)
theorem lk_RX6_163 : Cond.methodLink RX6 163 (mY miX6_readsLadder) ∈ z_tb := z_w5 55 (by decide +kernel) (by decide +kernel)
theorem lk_RX6_167 : Cond.methodLink RX6 167 (mY miX6_readsGoer) ∈ z_tb := z_w5 66 (by decide +kernel) (by decide +kernel)
theorem lk_RX6_170 : Cond.methodLink RX6 170 (mY miX6_readsWindow) ∈ z_tb := z_w5 70 (by decide +kernel) (by decide +kernel)
theorem lk_RX6_173 : Cond.methodLink RX6 173 (mY miX6_readsTurn) ∈ z_tb := z_w5 74 (by decide +kernel) (by decide +kernel)
theorem lk_RX6_176 : Cond.methodLink RX6 176 (mY miX6_readsDraw) ∈ z_tb := z_w5 78 (by decide +kernel) (by decide +kernel)
theorem lk_RX6_179 : Cond.methodLink RX6 179 (mY miX6_readsMinutes) ∈ z_tb := z_w5 82 (by decide +kernel) (by decide +kernel)
theorem lk_RX6_182 : Cond.methodLink RX6 182 (mY miX6_takesEnd) ∈ z_tb := z_w5 111 (by decide +kernel) (by decide +kernel)
theorem lk_RX6_185 : Cond.methodLink RX6 185 (mY miX6_readsItem) ∈ z_tb := z_w5 33 (by decide +kernel) (by decide +kernel)
theorem lk_RX6_189 : Cond.methodLink RX6 189 (mY miX6_copy) ∈ z_tb := z_w5 115 (by decide +kernel) (by decide +kernel)
theorem lk_RX6_192 : Cond.methodLink RX6 192 (mY miX6_isLadderDown) ∈ z_tb := z_w5 107 (by decide +kernel) (by decide +kernel)
theorem lk_RX6_196 : Cond.methodLink RX6 196 (mY miX6_leads) ∈ z_tb := z_w5 103 (by decide +kernel) (by decide +kernel)
theorem lk_RX6_199 : Cond.methodLink RX6 199 (mY miX6_goalOf) ∈ z_tb := z_w5 94 (by decide +kernel) (by decide +kernel)
theorem lk_RX6_202 : Cond.methodLink RX6 202 (mY miX6_laysAway) ∈ z_tb := z_w5 98 (by decide +kernel) (by decide +kernel)
theorem lk_RX6_205 : Cond.methodLink RX6 205 (mY miX6_nextOf) ∈ z_tb := z_w5 90 (by decide +kernel) (by decide +kernel)
theorem lk_RX6_210 : Cond.methodLink RX6 210 (mY miX6_minds) ∈ z_tb := z_w5 124 (by decide +kernel) (by decide +kernel)
theorem lk_RX6_213 : Cond.methodLink RX6 213 (mY miX6_isGoer) ∈ z_tb := z_w5 132 (by decide +kernel) (by decide +kernel)
theorem lk_RX6_216 : Cond.methodLink RX6 216 (mY miX6_isLadder) ∈ z_tb := z_w5 140 (by decide +kernel) (by decide +kernel)
theorem lk_RX6_219 : Cond.methodLink RX6 219 (mY miX6_no) ∈ z_tb := z_w5 148 (by decide +kernel) (by decide +kernel)
theorem lk_RX6_222 : Cond.methodLink RX6 222 (mY miX6_loudOf) ∈ z_tb := z_w5 160 (by decide +kernel) (by decide +kernel)
theorem lk_RX6_226 : Cond.methodLink RX6 226 (mY miX6_loudIn) ∈ z_tb := z_w5 156 (by decide +kernel) (by decide +kernel)
theorem lk_RX6_229 : Cond.methodLink RX6 229 (mY miX6_size) ∈ z_tb := z_w5 188 (by decide +kernel) (by decide +kernel)
theorem lk_RX6_232 : Cond.methodLink RX6 232 (mY miX6_apart) ∈ z_tb := z_w5 185 (by decide +kernel) (by decide +kernel)
theorem lk_RX6_235 : Cond.methodLink RX6 235 (mY miX6_heardOf) ∈ z_tb := z_w5 191 (by decide +kernel) (by decide +kernel)
theorem lk_RX6_238 : Cond.methodLink RX6 238 (mY miX6_hearsIn) ∈ z_tb := z_w5 181 (by decide +kernel) (by decide +kernel)
theorem lk_RX6_241 : Cond.methodLink RX6 241 (mY miX6_isWindow) ∈ z_tb := z_w5 173 (by decide +kernel) (by decide +kernel)
theorem lk_RX6_244 : Cond.methodLink RX6 244 (mY miX6_heardBy) ∈ z_tb := z_w5 177 (by decide +kernel) (by decide +kernel)
theorem lk_RX6_247 : Cond.methodLink RX6 247 (mY miX6_tries) ∈ z_tb := z_w5 212 (by decide +kernel) (by decide +kernel)
theorem lk_RX6_250 : Cond.methodLink RX6 250 (mY miX6_laysTwo) ∈ z_tb := z_w5 220 (by decide +kernel) (by decide +kernel)
theorem lk_RX6_253 : Cond.methodLink RX6 253 (mY miX6_meetBy) ∈ z_tb := z_w5 224 (by decide +kernel) (by decide +kernel)
theorem lk_RX6_259 : Cond.methodLink RX6 259 (mY miX6_lostOnes) ∈ z_tb := z_w5 236 (by decide +kernel) (by decide +kernel)
theorem lk_RX6_262 : Cond.methodLink RX6 262 (mY miX6_ones) ∈ z_tb := z_w6 4 (by decide +kernel) (by decide +kernel)
theorem lk_RX6_265 : Cond.methodLink RX6 265 (mY miX6_has) ∈ z_tb := z_w6 15 (by decide +kernel) (by decide +kernel)
theorem lk_RX6_268 : Cond.methodLink RX6 268 (mY miX6_bestDoors) ∈ z_tb := z_w6 11 (by decide +kernel) (by decide +kernel)
theorem lk_RX6_281 : Cond.methodLink RX6 281 (mY miX6_kindsOf) ∈ z_tb := z_w6 47 (by decide +kernel) (by decide +kernel)
theorem lk_RX6_284 : Cond.methodLink RX6 284 (mY miX6_greatest) ∈ z_tb := z_w6 55 (by decide +kernel) (by decide +kernel)
theorem lk_RX6_287 : Cond.methodLink RX6 287 (mY miX6_isHeard) ∈ z_tb := z_w6 67 (by decide +kernel) (by decide +kernel)
theorem lk_RX6_290 : Cond.methodLink RX6 290 (mY miX6_windowsOf) ∈ z_tb := z_w6 63 (by decide +kernel) (by decide +kernel)
theorem lk_RX6_293 : Cond.methodLink RX6 293 (mY miX6_getsBy) ∈ z_tb := z_w6 82 (by decide +kernel) (by decide +kernel)
theorem lk_RX6_297 : Cond.methodLink RX6 297 (mY miX6_rests) ∈ z_tb := z_w6 78 (by decide +kernel) (by decide +kernel)
theorem lk_RX6_314 : Cond.methodLink RX6 314 (mY miX6_thereOnes) ∈ z_tb := z_w6 126 (by decide +kernel) (by decide +kernel)
theorem lk_RX6_319 : Cond.methodLink RX6 319 (mY miX6_countOf) ∈ z_tb := z_w6 122 (by decide +kernel) (by decide +kernel)
theorem lk_RX6_329 : Cond.methodLink RX6 329 (mY miX6_mix) ∈ z_tb := z_w6 135 (by decide +kernel) (by decide +kernel)
theorem mt_mmax_s : Cond.static Lib.Math.max.name ∈ z_tb := z_w1 42 (by decide +kernel) (by decide +kernel)
theorem mt_mmax_c : Cond.code Lib.Math.max.name Lib.Math.max.code 2 (some .int) ∈ z_tb := z_w1 43 (by decide +kernel) (by decide +kernel)
theorem mt_mmin_s : Cond.static Lib.Math.min.name ∈ z_tb := z_w3 3 (by decide +kernel) (by decide +kernel)
theorem mt_mmin_c : Cond.code Lib.Math.min.name Lib.Math.min.code 2 (some .int) ∈ z_tb := z_w3 4 (by decide +kernel) (by decide +kernel)
theorem mt_mabs_s : Cond.static Lib.Math.abs.name ∈ z_tb := z_w3 99 (by decide +kernel) (by decide +kernel)
theorem mt_mabs_c : Cond.code Lib.Math.abs.name Lib.Math.abs.code 1 (some .int) ∈ z_tb := z_w3 100 (by decide +kernel) (by decide +kernel)
theorem mt_lmax_s : Cond.static Lib.MathLoose.max_long.x ∈ z_tb := z_w4 69 (by decide +kernel) (by decide +kernel)
theorem mt_lmax_c : Cond.code Lib.MathLoose.max_long.x Lib.MathLoose.max_long.code 4 (some .long) ∈ z_tb := z_w4 70 (by decide +kernel) (by decide +kernel)
theorem mt_i : Cond.initialized "java/lang/Math" ∈ z_tb := z_w1 5 (by decide +kernel) (by decide +kernel)
theorem ar_n : Cond.native arraycopyName ∈ z_tb := z_w3 7 (by decide +kernel) (by decide +kernel)
theorem ar_s : Cond.static arraycopyName ∈ z_tb := z_w3 6 (by decide +kernel) (by decide +kernel)
theorem ar_i : Cond.initialized "java/lang/System" ∈ z_tb := z_w1 13 (by decide +kernel) (by decide +kernel)
theorem oi_m : Cond.instanceMethod Lib.objectInit ∈ z_tb := z_w1 21 (by decide +kernel) (by decide +kernel)
theorem oi_c : Cond.code Lib.objectInit ⟨#[0xb1]⟩ 1 none ∈ z_tb := z_w1 22 (by decide +kernel) (by decide +kernel)
theorem fd_RX5_10 : z_FD RX5 10 5 0 := ⟨RX5, TX5, 15, rfl, by decide, cw_X5, z_w1 151 (by decide +kernel) (by decide +kernel)⟩
theorem fd_RX5_16 : z_FD RX5 16 5 1 := ⟨RX5, TX5, 15, rfl, by decide, cw_X5, z_w1 152 (by decide +kernel) (by decide +kernel)⟩
theorem fd_RX5_19 : z_FD RX5 19 5 2 := ⟨RX5, TX5, 15, rfl, by decide, cw_X5, z_w1 153 (by decide +kernel) (by decide +kernel)⟩
theorem fd_RX5_22 : z_FD RX5 22 5 3 := ⟨RX5, TX5, 15, rfl, by decide, cw_X5, z_w1 154 (by decide +kernel) (by decide +kernel)⟩
theorem fd_RX5_28 : z_FD RX5 28 5 6 := ⟨RX5, TX5, 15, rfl, by decide, cw_X5, z_w1 157 (by decide +kernel) (by decide +kernel)⟩
theorem fd_RX5_37 : z_FD RX5 37 5 7 := ⟨RX5, TX5, 15, rfl, by decide, cw_X5, z_w1 158 (by decide +kernel) (by decide +kernel)⟩
theorem fd_RX5_41 : z_FD RX5 41 5 8 := ⟨RX5, TX5, 15, rfl, by decide, cw_X5, z_w1 159 (by decide +kernel) (by decide +kernel)⟩
theorem fd_RX5_45 : z_FD RX5 45 5 9 := ⟨RX5, TX5, 15, rfl, by decide, cw_X5, z_w1 160 (by decide +kernel) (by decide +kernel)⟩
theorem fd_RX5_48 : z_FD RX5 48 5 10 := ⟨RX5, TX5, 15, rfl, by decide, cw_X5, z_w1 161 (by decide +kernel) (by decide +kernel)⟩
theorem fd_RX5_51 : z_FD RX5 51 5 11 := ⟨RX5, TX5, 15, rfl, by decide, cw_X5, z_w1 162 (by decide +kernel) (by decide +kernel)⟩
theorem fd_RX5_54 : z_FD RX5 54 5 12 := ⟨RX5, TX5, 15, rfl, by decide, cw_X5, z_w1 163 (by decide +kernel) (by decide +kernel)⟩
theorem fd_RX5_57 : z_FD RX5 57 5 13 := ⟨RX5, TX5, 15, rfl, by decide, cw_X5, z_w1 164 (by decide +kernel) (by decide +kernel)⟩
theorem fd_RX5_60 : z_FD RX5 60 5 14 := ⟨RX5, TX5, 15, rfl, by decide, cw_X5, z_w1 165 (by decide +kernel) (by decide +kernel)⟩
theorem fd_RX5_63 : z_FD RX5 63 0 1 := ⟨RX0, TX0, 9, rfl, by decide, cw_X0, z_w1 87 (by decide +kernel) (by decide +kernel)⟩
theorem fd_RX5_87 : z_FD RX5 87 0 0 := ⟨RX0, TX0, 9, rfl, by decide, cw_X0, z_w1 84 (by decide +kernel) (by decide +kernel)⟩
theorem fd_RX5_97 : z_FD RX5 97 0 6 := ⟨RX0, TX0, 9, rfl, by decide, cw_X0, z_w1 99 (by decide +kernel) (by decide +kernel)⟩
theorem fd_RX5_114 : z_FD RX5 114 0 2 := ⟨RX0, TX0, 9, rfl, by decide, cw_X0, z_w1 90 (by decide +kernel) (by decide +kernel)⟩
theorem fd_RX5_137 : z_FD RX5 137 0 8 := ⟨RX0, TX0, 9, rfl, by decide, cw_X0, z_w1 102 (by decide +kernel) (by decide +kernel)⟩
theorem fd_RX5_213 : z_FD RX5 213 0 3 := ⟨RX0, TX0, 9, rfl, by decide, cw_X0, z_w1 93 (by decide +kernel) (by decide +kernel)⟩
theorem fd_RX5_222 : z_FD RX5 222 0 4 := ⟨RX0, TX0, 9, rfl, by decide, cw_X0, z_w1 95 (by decide +kernel) (by decide +kernel)⟩
theorem fd_RX5_225 : z_FD RX5 225 0 5 := ⟨RX0, TX0, 9, rfl, by decide, cw_X0, z_w1 97 (by decide +kernel) (by decide +kernel)⟩
theorem fd_RX5_279 : z_FD RX5 279 5 4 := ⟨RX5, TX5, 15, rfl, by decide, cw_X5, z_w1 155 (by decide +kernel) (by decide +kernel)⟩
theorem fd_RX5_283 : z_FD RX5 283 5 5 := ⟨RX5, TX5, 15, rfl, by decide, cw_X5, z_w1 156 (by decide +kernel) (by decide +kernel)⟩
theorem fd_RX0_14 : z_FD RX0 14 0 0 := ⟨RX0, TX0, 9, rfl, by decide, cw_X0, z_w1 83 (by decide +kernel) (by decide +kernel)⟩
theorem fd_RX0_20 : z_FD RX0 20 0 1 := ⟨RX0, TX0, 9, rfl, by decide, cw_X0, z_w1 86 (by decide +kernel) (by decide +kernel)⟩
theorem fd_RX0_23 : z_FD RX0 23 0 2 := ⟨RX0, TX0, 9, rfl, by decide, cw_X0, z_w1 89 (by decide +kernel) (by decide +kernel)⟩
theorem fd_RX0_26 : z_FD RX0 26 0 3 := ⟨RX0, TX0, 9, rfl, by decide, cw_X0, z_w1 92 (by decide +kernel) (by decide +kernel)⟩
theorem fd_RX0_29 : z_FD RX0 29 0 4 := ⟨RX0, TX0, 9, rfl, by decide, cw_X0, z_w1 94 (by decide +kernel) (by decide +kernel)⟩
theorem fd_RX0_32 : z_FD RX0 32 0 5 := ⟨RX0, TX0, 9, rfl, by decide, cw_X0, z_w1 96 (by decide +kernel) (by decide +kernel)⟩
theorem fd_RX0_35 : z_FD RX0 35 0 6 := ⟨RX0, TX0, 9, rfl, by decide, cw_X0, z_w1 98 (by decide +kernel) (by decide +kernel)⟩
theorem fd_RX0_41 : z_FD RX0 41 0 7 := ⟨RX0, TX0, 9, rfl, by decide, cw_X0, z_w1 100 (by decide +kernel) (by decide +kernel)⟩
theorem fd_RX0_49 : z_FD RX0 49 0 8 := ⟨RX0, TX0, 9, rfl, by decide, cw_X0, z_w1 101 (by decide +kernel) (by decide +kernel)⟩
theorem fd_RX1_16 : z_FD RX1 16 1 0 := ⟨RX1, TX1, 6, rfl, by decide, cw_X1, z_w1 130 (by decide +kernel) (by decide +kernel)⟩
theorem fd_RX1_20 : z_FD RX1 20 1 1 := ⟨RX1, TX1, 6, rfl, by decide, cw_X1, z_w1 131 (by decide +kernel) (by decide +kernel)⟩
theorem fd_RX1_33 : z_FD RX1 33 1 2 := ⟨RX1, TX1, 6, rfl, by decide, cw_X1, z_w1 132 (by decide +kernel) (by decide +kernel)⟩
theorem fd_RX1_49 : z_FD RX1 49 1 3 := ⟨RX1, TX1, 6, rfl, by decide, cw_X1, z_w1 133 (by decide +kernel) (by decide +kernel)⟩
theorem fd_RX1_52 : z_FD RX1 52 1 4 := ⟨RX1, TX1, 6, rfl, by decide, cw_X1, z_w1 134 (by decide +kernel) (by decide +kernel)⟩
theorem fd_RX1_89 : z_FD RX1 89 0 0 := ⟨RX0, TX0, 9, rfl, by decide, cw_X0, z_w1 85 (by decide +kernel) (by decide +kernel)⟩
theorem fd_RX1_102 : z_FD RX1 102 1 5 := ⟨RX1, TX1, 6, rfl, by decide, cw_X1, z_w1 135 (by decide +kernel) (by decide +kernel)⟩
theorem fd_RX1_113 : z_FD RX1 113 0 1 := ⟨RX0, TX0, 9, rfl, by decide, cw_X0, z_w1 88 (by decide +kernel) (by decide +kernel)⟩
theorem fd_RX1_120 : z_FD RX1 120 0 2 := ⟨RX0, TX0, 9, rfl, by decide, cw_X0, z_w1 91 (by decide +kernel) (by decide +kernel)⟩
theorem fd_RX2_13 : z_FD RX2 13 2 0 := ⟨RX2, TX2, 1, rfl, by decide, cw_X2, z_w1 44 (by decide +kernel) (by decide +kernel)⟩
theorem fd_RX3_9 : z_FD RX3 9 3 0 := ⟨RX3, TX3, 4, rfl, by decide, cw_X3, z_w1 49 (by decide +kernel) (by decide +kernel)⟩
theorem fd_RX3_15 : z_FD RX3 15 3 1 := ⟨RX3, TX3, 4, rfl, by decide, cw_X3, z_w1 50 (by decide +kernel) (by decide +kernel)⟩
theorem fd_RX3_23 : z_FD RX3 23 3 2 := ⟨RX3, TX3, 4, rfl, by decide, cw_X3, z_w1 51 (by decide +kernel) (by decide +kernel)⟩
theorem fd_RX3_27 : z_FD RX3 27 3 3 := ⟨RX3, TX3, 4, rfl, by decide, cw_X3, z_w1 52 (by decide +kernel) (by decide +kernel)⟩
theorem fd_RX4_14 : z_FD RX4 14 4 0 := ⟨RX4, TX4, 4, rfl, by decide, cw_X4, z_w1 70 (by decide +kernel) (by decide +kernel)⟩
theorem fd_RX4_20 : z_FD RX4 20 4 1 := ⟨RX4, TX4, 4, rfl, by decide, cw_X4, z_w1 71 (by decide +kernel) (by decide +kernel)⟩
theorem fd_RX4_23 : z_FD RX4 23 4 3 := ⟨RX4, TX4, 4, rfl, by decide, cw_X4, z_w1 73 (by decide +kernel) (by decide +kernel)⟩
theorem fd_RX4_27 : z_FD RX4 27 4 2 := ⟨RX4, TX4, 4, rfl, by decide, cw_X4, z_w1 72 (by decide +kernel) (by decide +kernel)⟩
theorem fd_RX6_7 : z_FD RX6 7 6 0 := ⟨RX6, TX6, 21, rfl, by decide, cw_X6, z_w4 134 (by decide +kernel) (by decide +kernel)⟩
theorem fd_RX6_13 : z_FD RX6 13 6 1 := ⟨RX6, TX6, 21, rfl, by decide, cw_X6, z_w4 135 (by decide +kernel) (by decide +kernel)⟩
theorem fd_RX6_17 : z_FD RX6 17 6 2 := ⟨RX6, TX6, 21, rfl, by decide, cw_X6, z_w4 136 (by decide +kernel) (by decide +kernel)⟩
theorem fd_RX6_20 : z_FD RX6 20 6 4 := ⟨RX6, TX6, 21, rfl, by decide, cw_X6, z_w4 138 (by decide +kernel) (by decide +kernel)⟩
theorem fd_RX6_24 : z_FD RX6 24 6 5 := ⟨RX6, TX6, 21, rfl, by decide, cw_X6, z_w4 139 (by decide +kernel) (by decide +kernel)⟩
theorem fd_RX6_27 : z_FD RX6 27 6 6 := ⟨RX6, TX6, 21, rfl, by decide, cw_X6, z_w4 140 (by decide +kernel) (by decide +kernel)⟩
theorem fd_RX6_30 : z_FD RX6 30 6 10 := ⟨RX6, TX6, 21, rfl, by decide, cw_X6, z_w4 144 (by decide +kernel) (by decide +kernel)⟩
theorem fd_RX6_33 : z_FD RX6 33 6 11 := ⟨RX6, TX6, 21, rfl, by decide, cw_X6, z_w4 145 (by decide +kernel) (by decide +kernel)⟩
theorem fd_RX6_36 : z_FD RX6 36 6 12 := ⟨RX6, TX6, 21, rfl, by decide, cw_X6, z_w4 146 (by decide +kernel) (by decide +kernel)⟩
theorem fd_RX6_39 : z_FD RX6 39 6 13 := ⟨RX6, TX6, 21, rfl, by decide, cw_X6, z_w4 147 (by decide +kernel) (by decide +kernel)⟩
theorem fd_RX6_42 : z_FD RX6 42 6 14 := ⟨RX6, TX6, 21, rfl, by decide, cw_X6, z_w4 148 (by decide +kernel) (by decide +kernel)⟩
theorem fd_RX6_45 : z_FD RX6 45 6 16 := ⟨RX6, TX6, 21, rfl, by decide, cw_X6, z_w4 150 (by decide +kernel) (by decide +kernel)⟩
theorem fd_RX6_48 : z_FD RX6 48 6 17 := ⟨RX6, TX6, 21, rfl, by decide, cw_X6, z_w4 151 (by decide +kernel) (by decide +kernel)⟩
theorem fd_RX6_51 : z_FD RX6 51 6 18 := ⟨RX6, TX6, 21, rfl, by decide, cw_X6, z_w4 152 (by decide +kernel) (by decide +kernel)⟩
theorem fd_RX6_54 : z_FD RX6 54 6 19 := ⟨RX6, TX6, 21, rfl, by decide, cw_X6, z_w4 153 (by decide +kernel) (by decide +kernel)⟩
theorem fd_RX6_57 : z_FD RX6 57 6 3 := ⟨RX6, TX6, 21, rfl, by decide, cw_X6, z_w4 137 (by decide +kernel) (by decide +kernel)⟩
theorem fd_RX6_118 : z_FD RX6 118 6 7 := ⟨RX6, TX6, 21, rfl, by decide, cw_X6, z_w4 141 (by decide +kernel) (by decide +kernel)⟩
theorem fd_RX6_124 : z_FD RX6 124 6 8 := ⟨RX6, TX6, 21, rfl, by decide, cw_X6, z_w4 142 (by decide +kernel) (by decide +kernel)⟩
theorem fd_RX6_142 : z_FD RX6 142 6 9 := ⟨RX6, TX6, 21, rfl, by decide, cw_X6, z_w4 143 (by decide +kernel) (by decide +kernel)⟩
theorem fd_RX6_256 : z_FD RX6 256 6 15 := ⟨RX6, TX6, 21, rfl, by decide, cw_X6, z_w4 149 (by decide +kernel) (by decide +kernel)⟩
theorem fd_RX6_324 : z_FD RX6 324 6 20 := ⟨RX6, TX6, 21, rfl, by decide, cw_X6, z_w4 154 (by decide +kernel) (by decide +kernel)⟩
theorem fp_RX5_10 : z_FP RX5 10 5 0 true (tyX5 0) := ⟨RX5, TX5, 15, tyX5, rfl, by decide, cw_X5, z_w1 151 (by decide +kernel) (by decide +kernel), tyX5_ok, nmX5, rfl, rfl, rfl⟩
theorem fp_RX5_16 : z_FP RX5 16 5 1 true (tyX5 1) := ⟨RX5, TX5, 15, tyX5, rfl, by decide, cw_X5, z_w1 152 (by decide +kernel) (by decide +kernel), tyX5_ok, nmX5, rfl, rfl, rfl⟩
theorem fp_RX5_19 : z_FP RX5 19 5 2 true (tyX5 2) := ⟨RX5, TX5, 15, tyX5, rfl, by decide, cw_X5, z_w1 153 (by decide +kernel) (by decide +kernel), tyX5_ok, nmX5, rfl, rfl, rfl⟩
theorem fp_RX5_22 : z_FP RX5 22 5 3 true (tyX5 3) := ⟨RX5, TX5, 15, tyX5, rfl, by decide, cw_X5, z_w1 154 (by decide +kernel) (by decide +kernel), tyX5_ok, nmX5, rfl, rfl, rfl⟩
theorem fp_RX5_28 : z_FP RX5 28 5 6 true (tyX5 6) := ⟨RX5, TX5, 15, tyX5, rfl, by decide, cw_X5, z_w1 157 (by decide +kernel) (by decide +kernel), tyX5_ok, nmX5, rfl, rfl, rfl⟩
theorem fp_RX5_37 : z_FP RX5 37 5 7 true (tyX5 7) := ⟨RX5, TX5, 15, tyX5, rfl, by decide, cw_X5, z_w1 158 (by decide +kernel) (by decide +kernel), tyX5_ok, nmX5, rfl, rfl, rfl⟩
theorem fp_RX5_41 : z_FP RX5 41 5 8 false (tyX5 8) := ⟨RX5, TX5, 15, tyX5, rfl, by decide, cw_X5, z_w1 159 (by decide +kernel) (by decide +kernel), tyX5_ok, nmX5, rfl, rfl, rfl⟩
theorem fp_RX5_45 : z_FP RX5 45 5 9 false (tyX5 9) := ⟨RX5, TX5, 15, tyX5, rfl, by decide, cw_X5, z_w1 160 (by decide +kernel) (by decide +kernel), tyX5_ok, nmX5, rfl, rfl, rfl⟩
theorem fp_RX5_48 : z_FP RX5 48 5 10 true (tyX5 10) := ⟨RX5, TX5, 15, tyX5, rfl, by decide, cw_X5, z_w1 161 (by decide +kernel) (by decide +kernel), tyX5_ok, nmX5, rfl, rfl, rfl⟩
theorem fp_RX5_51 : z_FP RX5 51 5 11 true (tyX5 11) := ⟨RX5, TX5, 15, tyX5, rfl, by decide, cw_X5, z_w1 162 (by decide +kernel) (by decide +kernel), tyX5_ok, nmX5, rfl, rfl, rfl⟩
theorem fp_RX5_54 : z_FP RX5 54 5 12 true (tyX5 12) := ⟨RX5, TX5, 15, tyX5, rfl, by decide, cw_X5, z_w1 163 (by decide +kernel) (by decide +kernel), tyX5_ok, nmX5, rfl, rfl, rfl⟩
theorem fp_RX5_57 : z_FP RX5 57 5 13 true (tyX5 13) := ⟨RX5, TX5, 15, tyX5, rfl, by decide, cw_X5, z_w1 164 (by decide +kernel) (by decide +kernel), tyX5_ok, nmX5, rfl, rfl, rfl⟩
theorem fp_RX5_60 : z_FP RX5 60 5 14 true (tyX5 14) := ⟨RX5, TX5, 15, tyX5, rfl, by decide, cw_X5, z_w1 165 (by decide +kernel) (by decide +kernel), tyX5_ok, nmX5, rfl, rfl, rfl⟩
theorem fp_RX5_279 : z_FP RX5 279 5 4 false (tyX5 4) := ⟨RX5, TX5, 15, tyX5, rfl, by decide, cw_X5, z_w1 155 (by decide +kernel) (by decide +kernel), tyX5_ok, nmX5, rfl, rfl, rfl⟩
theorem fp_RX5_283 : z_FP RX5 283 5 5 false (tyX5 5) := ⟨RX5, TX5, 15, tyX5, rfl, by decide, cw_X5, z_w1 156 (by decide +kernel) (by decide +kernel), tyX5_ok, nmX5, rfl, rfl, rfl⟩
theorem fp_RX0_14 : z_FP RX0 14 0 0 true (tyX0 0) := ⟨RX0, TX0, 9, tyX0, rfl, by decide, cw_X0, z_w1 83 (by decide +kernel) (by decide +kernel), tyX0_ok, nmX0, rfl, rfl, rfl⟩
theorem fp_RX0_20 : z_FP RX0 20 0 1 true (tyX0 1) := ⟨RX0, TX0, 9, tyX0, rfl, by decide, cw_X0, z_w1 86 (by decide +kernel) (by decide +kernel), tyX0_ok, nmX0, rfl, rfl, rfl⟩
theorem fp_RX0_23 : z_FP RX0 23 0 2 true (tyX0 2) := ⟨RX0, TX0, 9, tyX0, rfl, by decide, cw_X0, z_w1 89 (by decide +kernel) (by decide +kernel), tyX0_ok, nmX0, rfl, rfl, rfl⟩
theorem fp_RX0_26 : z_FP RX0 26 0 3 true (tyX0 3) := ⟨RX0, TX0, 9, tyX0, rfl, by decide, cw_X0, z_w1 92 (by decide +kernel) (by decide +kernel), tyX0_ok, nmX0, rfl, rfl, rfl⟩
theorem fp_RX0_29 : z_FP RX0 29 0 4 true (tyX0 4) := ⟨RX0, TX0, 9, tyX0, rfl, by decide, cw_X0, z_w1 94 (by decide +kernel) (by decide +kernel), tyX0_ok, nmX0, rfl, rfl, rfl⟩
theorem fp_RX0_32 : z_FP RX0 32 0 5 true (tyX0 5) := ⟨RX0, TX0, 9, tyX0, rfl, by decide, cw_X0, z_w1 96 (by decide +kernel) (by decide +kernel), tyX0_ok, nmX0, rfl, rfl, rfl⟩
theorem fp_RX0_35 : z_FP RX0 35 0 6 true (tyX0 6) := ⟨RX0, TX0, 9, tyX0, rfl, by decide, cw_X0, z_w1 98 (by decide +kernel) (by decide +kernel), tyX0_ok, nmX0, rfl, rfl, rfl⟩
theorem fp_RX0_41 : z_FP RX0 41 0 7 true (tyX0 7) := ⟨RX0, TX0, 9, tyX0, rfl, by decide, cw_X0, z_w1 100 (by decide +kernel) (by decide +kernel), tyX0_ok, nmX0, rfl, rfl, rfl⟩
theorem fp_RX0_49 : z_FP RX0 49 0 8 false (tyX0 8) := ⟨RX0, TX0, 9, tyX0, rfl, by decide, cw_X0, z_w1 101 (by decide +kernel) (by decide +kernel), tyX0_ok, nmX0, rfl, rfl, rfl⟩
theorem fp_RX1_16 : z_FP RX1 16 1 0 true (tyX1 0) := ⟨RX1, TX1, 6, tyX1, rfl, by decide, cw_X1, z_w1 130 (by decide +kernel) (by decide +kernel), tyX1_ok, nmX1, rfl, rfl, rfl⟩
theorem fp_RX1_20 : z_FP RX1 20 1 1 false (tyX1 1) := ⟨RX1, TX1, 6, tyX1, rfl, by decide, cw_X1, z_w1 131 (by decide +kernel) (by decide +kernel), tyX1_ok, nmX1, rfl, rfl, rfl⟩
theorem fp_RX1_33 : z_FP RX1 33 1 2 false (tyX1 2) := ⟨RX1, TX1, 6, tyX1, rfl, by decide, cw_X1, z_w1 132 (by decide +kernel) (by decide +kernel), tyX1_ok, nmX1, rfl, rfl, rfl⟩
theorem fp_RX1_49 : z_FP RX1 49 1 3 false (tyX1 3) := ⟨RX1, TX1, 6, tyX1, rfl, by decide, cw_X1, z_w1 133 (by decide +kernel) (by decide +kernel), tyX1_ok, nmX1, rfl, rfl, rfl⟩
theorem fp_RX1_52 : z_FP RX1 52 1 4 false (tyX1 4) := ⟨RX1, TX1, 6, tyX1, rfl, by decide, cw_X1, z_w1 134 (by decide +kernel) (by decide +kernel), tyX1_ok, nmX1, rfl, rfl, rfl⟩
theorem fp_RX1_102 : z_FP RX1 102 1 5 false (tyX1 5) := ⟨RX1, TX1, 6, tyX1, rfl, by decide, cw_X1, z_w1 135 (by decide +kernel) (by decide +kernel), tyX1_ok, nmX1, rfl, rfl, rfl⟩
theorem fp_RX2_13 : z_FP RX2 13 2 0 true (tyX2 0) := ⟨RX2, TX2, 1, tyX2, rfl, by decide, cw_X2, z_w1 44 (by decide +kernel) (by decide +kernel), tyX2_ok, nmX2, rfl, rfl, rfl⟩
theorem fp_RX3_9 : z_FP RX3 9 3 0 true (tyX3 0) := ⟨RX3, TX3, 4, tyX3, rfl, by decide, cw_X3, z_w1 49 (by decide +kernel) (by decide +kernel), tyX3_ok, nmX3, rfl, rfl, rfl⟩
theorem fp_RX3_15 : z_FP RX3 15 3 1 true (tyX3 1) := ⟨RX3, TX3, 4, tyX3, rfl, by decide, cw_X3, z_w1 50 (by decide +kernel) (by decide +kernel), tyX3_ok, nmX3, rfl, rfl, rfl⟩
theorem fp_RX3_23 : z_FP RX3 23 3 2 true (tyX3 2) := ⟨RX3, TX3, 4, tyX3, rfl, by decide, cw_X3, z_w1 51 (by decide +kernel) (by decide +kernel), tyX3_ok, nmX3, rfl, rfl, rfl⟩
theorem fp_RX3_27 : z_FP RX3 27 3 3 false (tyX3 3) := ⟨RX3, TX3, 4, tyX3, rfl, by decide, cw_X3, z_w1 52 (by decide +kernel) (by decide +kernel), tyX3_ok, nmX3, rfl, rfl, rfl⟩
theorem fp_RX4_14 : z_FP RX4 14 4 0 true (tyX4 0) := ⟨RX4, TX4, 4, tyX4, rfl, by decide, cw_X4, z_w1 70 (by decide +kernel) (by decide +kernel), tyX4_ok, nmX4, rfl, rfl, rfl⟩
theorem fp_RX4_20 : z_FP RX4 20 4 1 true (tyX4 1) := ⟨RX4, TX4, 4, tyX4, rfl, by decide, cw_X4, z_w1 71 (by decide +kernel) (by decide +kernel), tyX4_ok, nmX4, rfl, rfl, rfl⟩
theorem fp_RX4_23 : z_FP RX4 23 4 3 false (tyX4 3) := ⟨RX4, TX4, 4, tyX4, rfl, by decide, cw_X4, z_w1 73 (by decide +kernel) (by decide +kernel), tyX4_ok, nmX4, rfl, rfl, rfl⟩
theorem fp_RX4_27 : z_FP RX4 27 4 2 false (tyX4 2) := ⟨RX4, TX4, 4, tyX4, rfl, by decide, cw_X4, z_w1 72 (by decide +kernel) (by decide +kernel), tyX4_ok, nmX4, rfl, rfl, rfl⟩
theorem fp_RX6_7 : z_FP RX6 7 6 0 true (tyX6 0) := ⟨RX6, TX6, 21, tyX6, rfl, by decide, cw_X6, z_w4 134 (by decide +kernel) (by decide +kernel), tyX6_ok, nmX6, rfl, rfl, rfl⟩
theorem fp_RX6_13 : z_FP RX6 13 6 1 true (tyX6 1) := ⟨RX6, TX6, 21, tyX6, rfl, by decide, cw_X6, z_w4 135 (by decide +kernel) (by decide +kernel), tyX6_ok, nmX6, rfl, rfl, rfl⟩
theorem fp_RX6_17 : z_FP RX6 17 6 2 true (tyX6 2) := ⟨RX6, TX6, 21, tyX6, rfl, by decide, cw_X6, z_w4 136 (by decide +kernel) (by decide +kernel), tyX6_ok, nmX6, rfl, rfl, rfl⟩
theorem fp_RX6_20 : z_FP RX6 20 6 4 false (tyX6 4) := ⟨RX6, TX6, 21, tyX6, rfl, by decide, cw_X6, z_w4 138 (by decide +kernel) (by decide +kernel), tyX6_ok, nmX6, rfl, rfl, rfl⟩
theorem fp_RX6_24 : z_FP RX6 24 6 5 false (tyX6 5) := ⟨RX6, TX6, 21, tyX6, rfl, by decide, cw_X6, z_w4 139 (by decide +kernel) (by decide +kernel), tyX6_ok, nmX6, rfl, rfl, rfl⟩
theorem fp_RX6_27 : z_FP RX6 27 6 6 true (tyX6 6) := ⟨RX6, TX6, 21, tyX6, rfl, by decide, cw_X6, z_w4 140 (by decide +kernel) (by decide +kernel), tyX6_ok, nmX6, rfl, rfl, rfl⟩
theorem fp_RX6_30 : z_FP RX6 30 6 10 true (tyX6 10) := ⟨RX6, TX6, 21, tyX6, rfl, by decide, cw_X6, z_w4 144 (by decide +kernel) (by decide +kernel), tyX6_ok, nmX6, rfl, rfl, rfl⟩
theorem fp_RX6_33 : z_FP RX6 33 6 11 true (tyX6 11) := ⟨RX6, TX6, 21, tyX6, rfl, by decide, cw_X6, z_w4 145 (by decide +kernel) (by decide +kernel), tyX6_ok, nmX6, rfl, rfl, rfl⟩
theorem fp_RX6_36 : z_FP RX6 36 6 12 true (tyX6 12) := ⟨RX6, TX6, 21, tyX6, rfl, by decide, cw_X6, z_w4 146 (by decide +kernel) (by decide +kernel), tyX6_ok, nmX6, rfl, rfl, rfl⟩
theorem fp_RX6_39 : z_FP RX6 39 6 13 true (tyX6 13) := ⟨RX6, TX6, 21, tyX6, rfl, by decide, cw_X6, z_w4 147 (by decide +kernel) (by decide +kernel), tyX6_ok, nmX6, rfl, rfl, rfl⟩
theorem fp_RX6_42 : z_FP RX6 42 6 14 true (tyX6 14) := ⟨RX6, TX6, 21, tyX6, rfl, by decide, cw_X6, z_w4 148 (by decide +kernel) (by decide +kernel), tyX6_ok, nmX6, rfl, rfl, rfl⟩
theorem fp_RX6_45 : z_FP RX6 45 6 16 true (tyX6 16) := ⟨RX6, TX6, 21, tyX6, rfl, by decide, cw_X6, z_w4 150 (by decide +kernel) (by decide +kernel), tyX6_ok, nmX6, rfl, rfl, rfl⟩
theorem fp_RX6_48 : z_FP RX6 48 6 17 true (tyX6 17) := ⟨RX6, TX6, 21, tyX6, rfl, by decide, cw_X6, z_w4 151 (by decide +kernel) (by decide +kernel), tyX6_ok, nmX6, rfl, rfl, rfl⟩
theorem fp_RX6_51 : z_FP RX6 51 6 18 true (tyX6 18) := ⟨RX6, TX6, 21, tyX6, rfl, by decide, cw_X6, z_w4 152 (by decide +kernel) (by decide +kernel), tyX6_ok, nmX6, rfl, rfl, rfl⟩
theorem fp_RX6_54 : z_FP RX6 54 6 19 true (tyX6 19) := ⟨RX6, TX6, 21, tyX6, rfl, by decide, cw_X6, z_w4 153 (by decide +kernel) (by decide +kernel), tyX6_ok, nmX6, rfl, rfl, rfl⟩
theorem fp_RX6_57 : z_FP RX6 57 6 3 false (tyX6 3) := ⟨RX6, TX6, 21, tyX6, rfl, by decide, cw_X6, z_w4 137 (by decide +kernel) (by decide +kernel), tyX6_ok, nmX6, rfl, rfl, rfl⟩
theorem fp_RX6_118 : z_FP RX6 118 6 7 false (tyX6 7) := ⟨RX6, TX6, 21, tyX6, rfl, by decide, cw_X6, z_w4 141 (by decide +kernel) (by decide +kernel), tyX6_ok, nmX6, rfl, rfl, rfl⟩
theorem fp_RX6_124 : z_FP RX6 124 6 8 false (tyX6 8) := ⟨RX6, TX6, 21, tyX6, rfl, by decide, cw_X6, z_w4 142 (by decide +kernel) (by decide +kernel), tyX6_ok, nmX6, rfl, rfl, rfl⟩
theorem fp_RX6_142 : z_FP RX6 142 6 9 false (tyX6 9) := ⟨RX6, TX6, 21, tyX6, rfl, by decide, cw_X6, z_w4 143 (by decide +kernel) (by decide +kernel), tyX6_ok, nmX6, rfl, rfl, rfl⟩
theorem fp_RX6_256 : z_FP RX6 256 6 15 false (tyX6 15) := ⟨RX6, TX6, 21, tyX6, rfl, by decide, cw_X6, z_w4 149 (by decide +kernel) (by decide +kernel), tyX6_ok, nmX6, rfl, rfl, rfl⟩
theorem fp_RX6_324 : z_FP RX6 324 6 20 false (tyX6 20) := ⟨RX6, TX6, 21, tyX6, rfl, by decide, cw_X6, z_w4 154 (by decide +kernel) (by decide +kernel), tyX6_ok, nmX6, rfl, rfl, rfl⟩
theorem kc_RX5_265 : Cond.constant RX5 265 (999999) ∈ z_tb := z_w4 75 (by decide +kernel) (by decide +kernel)
theorem kc_RX6_195 : Cond.constant RX6 195 (1000000) ∈ z_tb := z_w5 102 (by decide +kernel) (by decide +kernel)
theorem kl_RX5_253 : Cond.constantLong RX5 253 (10) ∈ z_tb := z_w4 61 (by decide +kernel) (by decide +kernel)
theorem kl_RX5_266 : Cond.constantLong RX5 266 (1103515245) ∈ z_tb := z_w4 76 (by decide +kernel) (by decide +kernel)
theorem kl_RX5_268 : Cond.constantLong RX5 268 (12345) ∈ z_tb := z_w4 77 (by decide +kernel) (by decide +kernel)
theorem kl_RX5_270 : Cond.constantLong RX5 270 (2147483648) ∈ z_tb := z_w4 78 (by decide +kernel) (by decide +kernel)
theorem kl_RX5_272 : Cond.constantLong RX5 272 (65536) ∈ z_tb := z_w4 79 (by decide +kernel) (by decide +kernel)
theorem kl_RX5_274 : Cond.constantLong RX5 274 (6) ∈ z_tb := z_w4 80 (by decide +kernel) (by decide +kernel)
theorem kl_RX5_289 : Cond.constantLong RX5 289 (1601) ∈ z_tb := z_w4 121 (by decide +kernel) (by decide +kernel)
theorem kl_RX5_291 : Cond.constantLong RX5 291 (31) ∈ z_tb := z_w4 122 (by decide +kernel) (by decide +kernel)
theorem kl_RX3_62 : Cond.constantLong RX3 62 (31) ∈ z_tb := z_w4 127 (by decide +kernel) (by decide +kernel)
theorem kl_RX6_65 : Cond.constantLong RX6 65 (19) ∈ z_tb := z_w4 239 (by decide +kernel) (by decide +kernel)
theorem kl_RX6_85 : Cond.constantLong RX6 85 (15) ∈ z_tb := z_w4 211 (by decide +kernel) (by decide +kernel)
theorem kl_RX6_102 : Cond.constantLong RX6 102 (5) ∈ z_tb := z_w4 235 (by decide +kernel) (by decide +kernel)
theorem kl_RX6_116 : Cond.constantLong RX6 116 (127) ∈ z_tb := z_w5 16 (by decide +kernel) (by decide +kernel)
theorem kl_RX6_130 : Cond.constantLong RX6 130 (97) ∈ z_tb := z_w5 41 (by decide +kernel) (by decide +kernel)
theorem kl_RX6_132 : Cond.constantLong RX6 132 (122) ∈ z_tb := z_w5 42 (by decide +kernel) (by decide +kernel)
theorem kl_RX6_145 : Cond.constantLong RX6 145 (48) ∈ z_tb := z_w5 63 (by decide +kernel) (by decide +kernel)
theorem kl_RX6_147 : Cond.constantLong RX6 147 (57) ∈ z_tb := z_w5 64 (by decide +kernel) (by decide +kernel)
theorem kl_RX6_149 : Cond.constantLong RX6 149 (2) ∈ z_tb := z_w5 65 (by decide +kernel) (by decide +kernel)
theorem kl_RX6_208 : Cond.constantLong RX6 208 (60) ∈ z_tb := z_w5 123 (by decide +kernel) (by decide +kernel)
theorem kl_RX6_271 : Cond.constantLong RX6 271 (30) ∈ z_tb := z_w6 22 (by decide +kernel) (by decide +kernel)
theorem kl_RX6_273 : Cond.constantLong RX6 273 (20) ∈ z_tb := z_w6 23 (by decide +kernel) (by decide +kernel)
theorem kl_RX6_275 : Cond.constantLong RX6 275 (4) ∈ z_tb := z_w6 32 (by decide +kernel) (by decide +kernel)
theorem kl_RX6_277 : Cond.constantLong RX6 277 (99) ∈ z_tb := z_w6 33 (by decide +kernel) (by decide +kernel)
theorem kl_RX6_279 : Cond.constantLong RX6 279 (7) ∈ z_tb := z_w6 38 (by decide +kernel) (by decide +kernel)
theorem kl_RX6_300 : Cond.constantLong RX6 300 (10) ∈ z_tb := z_w6 90 (by decide +kernel) (by decide +kernel)
theorem kl_RX6_302 : Cond.constantLong RX6 302 (999999) ∈ z_tb := z_w6 95 (by decide +kernel) (by decide +kernel)
theorem kl_RX6_304 : Cond.constantLong RX6 304 (1103515245) ∈ z_tb := z_w6 96 (by decide +kernel) (by decide +kernel)
theorem kl_RX6_306 : Cond.constantLong RX6 306 (12345) ∈ z_tb := z_w6 97 (by decide +kernel) (by decide +kernel)
theorem kl_RX6_308 : Cond.constantLong RX6 308 (2147483648) ∈ z_tb := z_w6 98 (by decide +kernel) (by decide +kernel)
theorem kl_RX6_310 : Cond.constantLong RX6 310 (65536) ∈ z_tb := z_w6 99 (by decide +kernel) (by decide +kernel)
theorem kl_RX6_312 : Cond.constantLong RX6 312 (6) ∈ z_tb := z_w6 100 (by decide +kernel) (by decide +kernel)
theorem kl_RX6_317 : Cond.constantLong RX6 317 (9) ∈ z_tb := z_w6 121 (by decide +kernel) (by decide +kernel)
theorem kl_RX6_322 : Cond.constantLong RX6 322 (31) ∈ z_tb := z_w6 139 (by decide +kernel) (by decide +kernel)
theorem kl_RX6_327 : Cond.constantLong RX6 327 (1601) ∈ z_tb := z_w6 134 (by decide +kernel) (by decide +kernel)
theorem nw_RX5_7 : z_NW RX5 7 0 kd0_X0 := ⟨RX0, TX0, 9, tyX0, rfl, cw_X0, tyX0_ok, z_w1 23 (by decide +kernel) (by decide +kernel), z_w1 24 (by decide +kernel) (by decide +kernel), z_w1 2 (by decide +kernel) (by decide +kernel), rfl, z_nwl (by decide +kernel)⟩
theorem nw_RX5_25 : z_NW RX5 25 1 kd0_X1 := ⟨RX1, TX1, 6, tyX1, rfl, cw_X1, tyX1_ok, z_w1 122 (by decide +kernel) (by decide +kernel), z_w1 123 (by decide +kernel) (by decide +kernel), z_w1 7 (by decide +kernel) (by decide +kernel), rfl, z_nwl (by decide +kernel)⟩
theorem nw_RX5_32 : z_NW RX5 32 2 kd0_X2 := ⟨RX2, TX2, 1, tyX2, rfl, cw_X2, tyX2_ok, z_w1 149 (by decide +kernel) (by decide +kernel), z_w1 36 (by decide +kernel) (by decide +kernel), z_w1 4 (by decide +kernel) (by decide +kernel), rfl, z_nwl (by decide +kernel)⟩
theorem nw_RX0_9 : z_NW RX0 9 3 kd0_X3 := ⟨RX3, TX3, 4, tyX3, rfl, cw_X3, tyX3_ok, z_w1 29 (by decide +kernel) (by decide +kernel), z_w1 30 (by decide +kernel) (by decide +kernel), z_w1 3 (by decide +kernel) (by decide +kernel), rfl, z_nwl (by decide +kernel)⟩
theorem nw_RX0_38 : z_NW RX0 38 4 kd0_X4 := ⟨RX4, TX4, 4, tyX4, rfl, cw_X4, tyX4_ok, z_w1 62 (by decide +kernel) (by decide +kernel), z_w1 63 (by decide +kernel) (by decide +kernel), z_w1 6 (by decide +kernel) (by decide +kernel), rfl, z_nwl (by decide +kernel)⟩
theorem nw_RX1_9 : z_NW RX1 9 2 kd0_X2 := ⟨RX2, TX2, 1, tyX2, rfl, cw_X2, tyX2_ok, z_w1 128 (by decide +kernel) (by decide +kernel), z_w1 36 (by decide +kernel) (by decide +kernel), z_w1 4 (by decide +kernel) (by decide +kernel), rfl, z_nwl (by decide +kernel)⟩
theorem nw_RX3_18 : z_NW RX3 18 2 kd0_X2 := ⟨RX2, TX2, 1, tyX2, rfl, cw_X2, tyX2_ok, z_w1 35 (by decide +kernel) (by decide +kernel), z_w1 36 (by decide +kernel) (by decide +kernel), z_w1 4 (by decide +kernel) (by decide +kernel), rfl, z_nwl (by decide +kernel)⟩
theorem nw_RX4_9 : z_NW RX4 9 2 kd0_X2 := ⟨RX2, TX2, 1, tyX2, rfl, cw_X2, tyX2_ok, z_w1 68 (by decide +kernel) (by decide +kernel), z_w1 36 (by decide +kernel) (by decide +kernel), z_w1 4 (by decide +kernel) (by decide +kernel), rfl, z_nwl (by decide +kernel)⟩
theorem nw_RL_7 : z_NW RL 7 5 kd0_X5 := ⟨RX5, TX5, 15, tyX5, rfl, cw_X5, tyX5_ok, z_w1 15 (by decide +kernel) (by decide +kernel), z_w1 16 (by decide +kernel) (by decide +kernel), z_w1 1 (by decide +kernel) (by decide +kernel), rfl, z_nwl (by decide +kernel)⟩
theorem nw_RL_10 : z_NW RL 10 6 kd0_X6 := ⟨RX6, TX6, 21, tyX6, rfl, cw_X6, tyX6_ok, z_w4 128 (by decide +kernel) (by decide +kernel), z_w4 129 (by decide +kernel) (by decide +kernel), z_w1 8 (by decide +kernel) (by decide +kernel), rfl, z_nwl (by decide +kernel)⟩
end
