section
-- ===== PART A: goes FIRST, ahead of the names: the tables' words, and 'selects' of the private methods out of them =====
/-- a private method of a class that the tables say can be made, by its rows of tables_1 -/
def lw_okq (q : MethodName × Nat) : Prop := (q.1.cls ≠ "java/lang/invoke/MethodHandle" ∧ q.1.cls ≠ "java/lang/invoke/VarHandle") ∧ Cond.instantiable q.1.cls q.2 ∈ tables_1 ∧ Cond.privateMethod q.1 ∈ tables_1 ∧ Cond.instanceMethod q.1 ∈ tables_1
theorem lw_p0 : lw_okq (⟨"IronStairs", "bad", "()I"⟩, 15) := ⟨⟨by decide +kernel, by decide +kernel⟩, List.mem_of_getElem? (i := 16) (by decide +kernel), List.mem_of_getElem? (i := 238) (by decide +kernel), List.mem_of_getElem? (i := 239) (by decide +kernel)⟩
theorem lw_p1 : lw_okq (⟨"IronStairs", "badAs", "(I)I"⟩, 15) := ⟨⟨by decide +kernel, by decide +kernel⟩, List.mem_of_getElem? (i := 16) (by decide +kernel), List.mem_of_getElem? (i := 242) (by decide +kernel), List.mem_of_getElem? (i := 243) (by decide +kernel)⟩
theorem lw_p2 : lw_okq (⟨"IronStairs", "full", "()I"⟩, 15) := ⟨⟨by decide +kernel, by decide +kernel⟩, List.mem_of_getElem? (i := 16) (by decide +kernel), List.mem_of_getElem? (i := 255) (by decide +kernel), List.mem_of_getElem? (i := 256) (by decide +kernel)⟩
theorem lw_p3 : lw_okq (⟨"IronStairs$Reader", "nextToken", "()V"⟩, 6) := ⟨⟨by decide +kernel, by decide +kernel⟩, List.mem_of_getElem? (i := 123) (by decide +kernel), List.mem_of_getElem? (i := 323) (by decide +kernel), List.mem_of_getElem? (i := 324) (by decide +kernel)⟩
theorem lw_p4 : lw_okq (⟨"IronStairs$Reader", "isWord", "(Ljava/lang/String;)Z"⟩, 6) := ⟨⟨by decide +kernel, by decide +kernel⟩, List.mem_of_getElem? (i := 123) (by decide +kernel), List.mem_of_getElem? (i := 332) (by decide +kernel), List.mem_of_getElem? (i := 333) (by decide +kernel)⟩
theorem lw_p5 : lw_okq (⟨"IronStairs$Reader", "nextIsStop", "()Z"⟩, 6) := ⟨⟨by decide +kernel, by decide +kernel⟩, List.mem_of_getElem? (i := 123) (by decide +kernel), List.mem_of_getElem? (i := 384) (by decide +kernel), List.mem_of_getElem? (i := 385) (by decide +kernel)⟩
theorem lw_p6 : lw_okq (⟨"IronStairs$Reader", "readItem", "(LIronStairs$Back;)Z"⟩, 6) := ⟨⟨by decide +kernel, by decide +kernel⟩, List.mem_of_getElem? (i := 123) (by decide +kernel), List.mem_of_getElem? (i := 388) (by decide +kernel), List.mem_of_getElem? (i := 389) (by decide +kernel)⟩
theorem lw_p7 : lw_okq (⟨"IronStairs$Reader", "readLadder", "(LIronStairs$Back;)Z"⟩, 6) := ⟨⟨by decide +kernel, by decide +kernel⟩, List.mem_of_getElem? (i := 123) (by decide +kernel), List.mem_of_getElem? (i := 393) (by decide +kernel), List.mem_of_getElem? (i := 394) (by decide +kernel)⟩
theorem lw_p8 : lw_okq (⟨"IronStairs$Reader", "nextIsNumber", "(II)Z"⟩, 6) := ⟨⟨by decide +kernel, by decide +kernel⟩, List.mem_of_getElem? (i := 123) (by decide +kernel), List.mem_of_getElem? (i := 398) (by decide +kernel), List.mem_of_getElem? (i := 399) (by decide +kernel)⟩
theorem lw_p9 : lw_okq (⟨"IronStairs$Reader", "readGoer", "(LIronStairs$Back;)Z"⟩, 6) := ⟨⟨by decide +kernel, by decide +kernel⟩, List.mem_of_getElem? (i := 123) (by decide +kernel), List.mem_of_getElem? (i := 405) (by decide +kernel), List.mem_of_getElem? (i := 406) (by decide +kernel)⟩
theorem lw_p10 : lw_okq (⟨"IronStairs$Reader", "readWindow", "(LIronStairs$Back;)Z"⟩, 6) := ⟨⟨by decide +kernel, by decide +kernel⟩, List.mem_of_getElem? (i := 123) (by decide +kernel), List.mem_of_getElem? (i := 411) (by decide +kernel), List.mem_of_getElem? (i := 412) (by decide +kernel)⟩
theorem lw_p11 : lw_okq (⟨"IronStairs$Reader", "readTurn", "(LIronStairs$Back;)Z"⟩, 6) := ⟨⟨by decide +kernel, by decide +kernel⟩, List.mem_of_getElem? (i := 123) (by decide +kernel), List.mem_of_getElem? (i := 417) (by decide +kernel), List.mem_of_getElem? (i := 418) (by decide +kernel)⟩
theorem lw_p12 : lw_okq (⟨"IronStairs$Reader", "readDraw", "(LIronStairs$Back;)Z"⟩, 6) := ⟨⟨by decide +kernel, by decide +kernel⟩, List.mem_of_getElem? (i := 123) (by decide +kernel), List.mem_of_getElem? (i := 428) (by decide +kernel), List.mem_of_getElem? (i := 429) (by decide +kernel)⟩
theorem lw_p13 : lw_okq (⟨"IronStairs$Reader", "readMinutes", "(LIronStairs$Back;)Z"⟩, 6) := ⟨⟨by decide +kernel, by decide +kernel⟩, List.mem_of_getElem? (i := 123) (by decide +kernel), List.mem_of_getElem? (i := 437) (by decide +kernel), List.mem_of_getElem? (i := 438) (by decide +kernel)⟩
theorem lw_p14 : lw_okq (⟨"IronStairs$Back", "layWays", "()V"⟩, 9) := ⟨⟨by decide +kernel, by decide +kernel⟩, List.mem_of_getElem? (i := 24) (by decide +kernel), List.mem_of_getElem? (i := 445) (by decide +kernel), List.mem_of_getElem? (i := 446) (by decide +kernel)⟩
theorem lw_p15 : lw_okq (⟨"IronStairs$Back", "goalOf", "(I)I"⟩, 9) := ⟨⟨by decide +kernel, by decide +kernel⟩, List.mem_of_getElem? (i := 24) (by decide +kernel), List.mem_of_getElem? (i := 453) (by decide +kernel), List.mem_of_getElem? (i := 454) (by decide +kernel)⟩
def lw_privs_1 : List (MethodName × Nat) := [(⟨"IronStairs", "bad", "()I"⟩, 15), (⟨"IronStairs", "badAs", "(I)I"⟩, 15), (⟨"IronStairs", "full", "()I"⟩, 15), (⟨"IronStairs$Reader", "nextToken", "()V"⟩, 6), (⟨"IronStairs$Reader", "isWord", "(Ljava/lang/String;)Z"⟩, 6), (⟨"IronStairs$Reader", "nextIsStop", "()Z"⟩, 6), (⟨"IronStairs$Reader", "readItem", "(LIronStairs$Back;)Z"⟩, 6), (⟨"IronStairs$Reader", "readLadder", "(LIronStairs$Back;)Z"⟩, 6), (⟨"IronStairs$Reader", "nextIsNumber", "(II)Z"⟩, 6), (⟨"IronStairs$Reader", "readGoer", "(LIronStairs$Back;)Z"⟩, 6), (⟨"IronStairs$Reader", "readWindow", "(LIronStairs$Back;)Z"⟩, 6), (⟨"IronStairs$Reader", "readTurn", "(LIronStairs$Back;)Z"⟩, 6), (⟨"IronStairs$Reader", "readDraw", "(LIronStairs$Back;)Z"⟩, 6), (⟨"IronStairs$Reader", "readMinutes", "(LIronStairs$Back;)Z"⟩, 6), (⟨"IronStairs$Back", "layWays", "()V"⟩, 9), (⟨"IronStairs$Back", "goalOf", "(I)I"⟩, 9)]
theorem lw_r1 : ∀ q ∈ lw_privs_1, lw_okq q := List.forall_mem_cons.mpr ⟨lw_p0, List.forall_mem_cons.mpr ⟨lw_p1, List.forall_mem_cons.mpr ⟨lw_p2, List.forall_mem_cons.mpr ⟨lw_p3, List.forall_mem_cons.mpr ⟨lw_p4, List.forall_mem_cons.mpr ⟨lw_p5, List.forall_mem_cons.mpr ⟨lw_p6, List.forall_mem_cons.mpr ⟨lw_p7, List.forall_mem_cons.mpr ⟨lw_p8, List.forall_mem_cons.mpr ⟨lw_p9, List.forall_mem_cons.mpr ⟨lw_p10, List.forall_mem_cons.mpr ⟨lw_p11, List.forall_mem_cons.mpr ⟨lw_p12, List.forall_mem_cons.mpr ⟨lw_p13, List.forall_mem_cons.mpr ⟨lw_p14, List.forall_mem_cons.mpr ⟨lw_p15, fun _ h => absurd h List.not_mem_nil⟩⟩⟩⟩⟩⟩⟩⟩⟩⟩⟩⟩⟩⟩⟩⟩
theorem lw_p16 : lw_okq (⟨"IronStairs$Ways", "spread", "(I)V"⟩, 4) := ⟨⟨by decide +kernel, by decide +kernel⟩, List.mem_of_getElem? (i := 63) (by decide +kernel), List.mem_of_getElem? (i := 461) (by decide +kernel), List.mem_of_getElem? (i := 462) (by decide +kernel)⟩
theorem lw_p17 : lw_okq (⟨"IronStairs$Ways", "beside", "(II)I"⟩, 4) := ⟨⟨by decide +kernel, by decide +kernel⟩, List.mem_of_getElem? (i := 63) (by decide +kernel), List.mem_of_getElem? (i := 467) (by decide +kernel), List.mem_of_getElem? (i := 468) (by decide +kernel)⟩
theorem lw_p18 : lw_okq (⟨"IronStairs", "no", "()I"⟩, 15) := ⟨⟨by decide +kernel, by decide +kernel⟩, List.mem_of_getElem? (i := 16) (by decide +kernel), List.mem_of_getElem? (i := 525) (by decide +kernel), List.mem_of_getElem? (i := 526) (by decide +kernel)⟩
theorem lw_p19 : lw_okq (⟨"IronStairs$Back", "loudStep", "(I)I"⟩, 9) := ⟨⟨by decide +kernel, by decide +kernel⟩, List.mem_of_getElem? (i := 24) (by decide +kernel), List.mem_of_getElem? (i := 546) (by decide +kernel), List.mem_of_getElem? (i := 547) (by decide +kernel)⟩
theorem lw_p20 : lw_okq (⟨"IronStairs", "areTwoGoers", "(II)Z"⟩, 15) := ⟨⟨by decide +kernel, by decide +kernel⟩, List.mem_of_getElem? (i := 16) (by decide +kernel), List.mem_of_getElem? (i := 620) (by decide +kernel), List.mem_of_getElem? (i := 621) (by decide +kernel)⟩
theorem lw_p21 : lw_okq (⟨"IronStairs", "firstMeeting", "(III)I"⟩, 15) := ⟨⟨by decide +kernel, by decide +kernel⟩, List.mem_of_getElem? (i := 16) (by decide +kernel), List.mem_of_getElem? (i := 624) (by decide +kernel), List.mem_of_getElem? (i := 625) (by decide +kernel)⟩
theorem lw_p22 : lw_okq (⟨"IronStairs", "goersCutOff", "(I)I"⟩, 15) := ⟨⟨by decide +kernel, by decide +kernel⟩, List.mem_of_getElem? (i := 16) (by decide +kernel), List.mem_of_getElem? (i := 645) (by decide +kernel), List.mem_of_getElem? (i := 646) (by decide +kernel)⟩
theorem lw_p23 : lw_okq (⟨"IronStairs", "climbsDown", "(II)Z"⟩, 15) := ⟨⟨by decide +kernel, by decide +kernel⟩, List.mem_of_getElem? (i := 16) (by decide +kernel), List.mem_of_getElem? (i := 650) (by decide +kernel), List.mem_of_getElem? (i := 651) (by decide +kernel)⟩
theorem lw_p24 : lw_okq (⟨"IronStairs", "fillToHomes", "()V"⟩, 15) := ⟨⟨by decide +kernel, by decide +kernel⟩, List.mem_of_getElem? (i := 16) (by decide +kernel), List.mem_of_getElem? (i := 662) (by decide +kernel), List.mem_of_getElem? (i := 663) (by decide +kernel)⟩
theorem lw_p25 : lw_okq (⟨"IronStairs", "fillLeast", "()V"⟩, 15) := ⟨⟨by decide +kernel, by decide +kernel⟩, List.mem_of_getElem? (i := 16) (by decide +kernel), List.mem_of_getElem? (i := 666) (by decide +kernel), List.mem_of_getElem? (i := 667) (by decide +kernel)⟩
theorem lw_p26 : lw_okq (⟨"IronStairs", "leastBehind", "(I)I"⟩, 15) := ⟨⟨by decide +kernel, by decide +kernel⟩, List.mem_of_getElem? (i := 16) (by decide +kernel), List.mem_of_getElem? (i := 670) (by decide +kernel), List.mem_of_getElem? (i := 671) (by decide +kernel)⟩
theorem lw_p27 : lw_okq (⟨"IronStairs", "wayThrough", "(III)I"⟩, 15) := ⟨⟨by decide +kernel, by decide +kernel⟩, List.mem_of_getElem? (i := 16) (by decide +kernel), List.mem_of_getElem? (i := 680) (by decide +kernel), List.mem_of_getElem? (i := 681) (by decide +kernel)⟩
theorem lw_p28 : lw_okq (⟨"IronStairs", "homeChosenBy", "(I)I"⟩, 15) := ⟨⟨by decide +kernel, by decide +kernel⟩, List.mem_of_getElem? (i := 16) (by decide +kernel), List.mem_of_getElem? (i := 684) (by decide +kernel), List.mem_of_getElem? (i := 685) (by decide +kernel)⟩
theorem lw_p29 : lw_okq (⟨"IronStairs", "firstHome", "(II)I"⟩, 15) := ⟨⟨by decide +kernel, by decide +kernel⟩, List.mem_of_getElem? (i := 16) (by decide +kernel), List.mem_of_getElem? (i := 688) (by decide +kernel), List.mem_of_getElem? (i := 689) (by decide +kernel)⟩
theorem lw_p30 : lw_okq (⟨"IronStairs", "fitsSounds", "(I)Z"⟩, 15) := ⟨⟨by decide +kernel, by decide +kernel⟩, List.mem_of_getElem? (i := 16) (by decide +kernel), List.mem_of_getElem? (i := 701) (by decide +kernel), List.mem_of_getElem? (i := 702) (by decide +kernel)⟩
theorem lw_p31 : lw_okq (⟨"IronStairs", "goerKinds", "(I)I"⟩, 15) := ⟨⟨by decide +kernel, by decide +kernel⟩, List.mem_of_getElem? (i := 16) (by decide +kernel), List.mem_of_getElem? (i := 723) (by decide +kernel), List.mem_of_getElem? (i := 724) (by decide +kernel)⟩
def lw_privs_2 : List (MethodName × Nat) := [(⟨"IronStairs$Ways", "spread", "(I)V"⟩, 4), (⟨"IronStairs$Ways", "beside", "(II)I"⟩, 4), (⟨"IronStairs", "no", "()I"⟩, 15), (⟨"IronStairs$Back", "loudStep", "(I)I"⟩, 9), (⟨"IronStairs", "areTwoGoers", "(II)Z"⟩, 15), (⟨"IronStairs", "firstMeeting", "(III)I"⟩, 15), (⟨"IronStairs", "goersCutOff", "(I)I"⟩, 15), (⟨"IronStairs", "climbsDown", "(II)Z"⟩, 15), (⟨"IronStairs", "fillToHomes", "()V"⟩, 15), (⟨"IronStairs", "fillLeast", "()V"⟩, 15), (⟨"IronStairs", "leastBehind", "(I)I"⟩, 15), (⟨"IronStairs", "wayThrough", "(III)I"⟩, 15), (⟨"IronStairs", "homeChosenBy", "(I)I"⟩, 15), (⟨"IronStairs", "firstHome", "(II)I"⟩, 15), (⟨"IronStairs", "fitsSounds", "(I)Z"⟩, 15), (⟨"IronStairs", "goerKinds", "(I)I"⟩, 15)]
theorem lw_r2 : ∀ q ∈ lw_privs_2, lw_okq q := List.forall_mem_cons.mpr ⟨lw_p16, List.forall_mem_cons.mpr ⟨lw_p17, List.forall_mem_cons.mpr ⟨lw_p18, List.forall_mem_cons.mpr ⟨lw_p19, List.forall_mem_cons.mpr ⟨lw_p20, List.forall_mem_cons.mpr ⟨lw_p21, List.forall_mem_cons.mpr ⟨lw_p22, List.forall_mem_cons.mpr ⟨lw_p23, List.forall_mem_cons.mpr ⟨lw_p24, List.forall_mem_cons.mpr ⟨lw_p25, List.forall_mem_cons.mpr ⟨lw_p26, List.forall_mem_cons.mpr ⟨lw_p27, List.forall_mem_cons.mpr ⟨lw_p28, List.forall_mem_cons.mpr ⟨lw_p29, List.forall_mem_cons.mpr ⟨lw_p30, List.forall_mem_cons.mpr ⟨lw_p31, fun _ h => absurd h List.not_mem_nil⟩⟩⟩⟩⟩⟩⟩⟩⟩⟩⟩⟩⟩⟩⟩⟩
theorem lw_p32 : lw_okq (⟨"IronStairs", "fitsNotes", "(II)Z"⟩, 15) := ⟨⟨by decide +kernel, by decide +kernel⟩, List.mem_of_getElem? (i := 16) (by decide +kernel), List.mem_of_getElem? (i := 727) (by decide +kernel), List.mem_of_getElem? (i := 728) (by decide +kernel)⟩
theorem lw_p33 : lw_okq (⟨"IronStairs", "windowKinds", "(I)I"⟩, 15) := ⟨⟨by decide +kernel, by decide +kernel⟩, List.mem_of_getElem? (i := 16) (by decide +kernel), List.mem_of_getElem? (i := 742) (by decide +kernel), List.mem_of_getElem? (i := 743) (by decide +kernel)⟩
theorem lw_p34 : lw_okq (⟨"IronStairs", "fitsMarks", "(II)Z"⟩, 15) := ⟨⟨by decide +kernel, by decide +kernel⟩, List.mem_of_getElem? (i := 16) (by decide +kernel), List.mem_of_getElem? (i := 746) (by decide +kernel), List.mem_of_getElem? (i := 747) (by decide +kernel)⟩
theorem lw_p35 : lw_okq (⟨"IronStairs", "fillMet", "(II)V"⟩, 15) := ⟨⟨by decide +kernel, by decide +kernel⟩, List.mem_of_getElem? (i := 16) (by decide +kernel), List.mem_of_getElem? (i := 762) (by decide +kernel), List.mem_of_getElem? (i := 763) (by decide +kernel)⟩
theorem lw_p36 : lw_okq (⟨"IronStairs", "rests", "(II)Z"⟩, 15) := ⟨⟨by decide +kernel, by decide +kernel⟩, List.mem_of_getElem? (i := 16) (by decide +kernel), List.mem_of_getElem? (i := 766) (by decide +kernel), List.mem_of_getElem? (i := 767) (by decide +kernel)⟩
theorem lw_p37 : lw_okq (⟨"IronStairs", "gainOfA", "(II)I"⟩, 15) := ⟨⟨by decide +kernel, by decide +kernel⟩, List.mem_of_getElem? (i := 16) (by decide +kernel), List.mem_of_getElem? (i := 770) (by decide +kernel), List.mem_of_getElem? (i := 771) (by decide +kernel)⟩
theorem lw_p38 : lw_okq (⟨"IronStairs", "gainOfB", "(II)I"⟩, 15) := ⟨⟨by decide +kernel, by decide +kernel⟩, List.mem_of_getElem? (i := 16) (by decide +kernel), List.mem_of_getElem? (i := 774) (by decide +kernel), List.mem_of_getElem? (i := 775) (by decide +kernel)⟩
theorem lw_p39 : lw_okq (⟨"IronStairs", "howMany", "(I)I"⟩, 15) := ⟨⟨by decide +kernel, by decide +kernel⟩, List.mem_of_getElem? (i := 16) (by decide +kernel), List.mem_of_getElem? (i := 826) (by decide +kernel), List.mem_of_getElem? (i := 827) (by decide +kernel)⟩
theorem lw_p40 : lw_okq (⟨"IronStairsModel", "empties", "(I)V"⟩, 21) := ⟨⟨by decide +kernel, by decide +kernel⟩, List.mem_of_getElem? (i := 849) (by decide +kernel), List.mem_of_getElem? (i := 924) (by decide +kernel), List.mem_of_getElem? (i := 925) (by decide +kernel)⟩
theorem lw_p41 : lw_okq (⟨"IronStairsModel", "hasLadder", "(II)Z"⟩, 21) := ⟨⟨by decide +kernel, by decide +kernel⟩, List.mem_of_getElem? (i := 849) (by decide +kernel), List.mem_of_getElem? (i := 936) (by decide +kernel), List.mem_of_getElem? (i := 937) (by decide +kernel)⟩
theorem lw_p42 : lw_okq (⟨"IronStairsModel", "bad", "(I)I"⟩, 21) := ⟨⟨by decide +kernel, by decide +kernel⟩, List.mem_of_getElem? (i := 849) (by decide +kernel), List.mem_of_getElem? (i := 940) (by decide +kernel), List.mem_of_getElem? (i := 941) (by decide +kernel)⟩
theorem lw_p43 : lw_okq (⟨"IronStairsModel", "full", "()I"⟩, 21) := ⟨⟨by decide +kernel, by decide +kernel⟩, List.mem_of_getElem? (i := 849) (by decide +kernel), List.mem_of_getElem? (i := 944) (by decide +kernel), List.mem_of_getElem? (i := 945) (by decide +kernel)⟩
theorem lw_p44 : lw_okq (⟨"IronStairsModel", "addsLadder", "(II)V"⟩, 21) := ⟨⟨by decide +kernel, by decide +kernel⟩, List.mem_of_getElem? (i := 849) (by decide +kernel), List.mem_of_getElem? (i := 948) (by decide +kernel), List.mem_of_getElem? (i := 949) (by decide +kernel)⟩
theorem lw_p45 : lw_okq (⟨"IronStairsModel", "addsGoer", "(IIII)V"⟩, 21) := ⟨⟨by decide +kernel, by decide +kernel⟩, List.mem_of_getElem? (i := 849) (by decide +kernel), List.mem_of_getElem? (i := 961) (by decide +kernel), List.mem_of_getElem? (i := 962) (by decide +kernel)⟩
theorem lw_p46 : lw_okq (⟨"IronStairsModel", "addsWindow", "(III)V"⟩, 21) := ⟨⟨by decide +kernel, by decide +kernel⟩, List.mem_of_getElem? (i := 849) (by decide +kernel), List.mem_of_getElem? (i := 969) (by decide +kernel), List.mem_of_getElem? (i := 970) (by decide +kernel)⟩
theorem lw_p47 : lw_okq (⟨"IronStairsModel", "blanks", "()V"⟩, 21) := ⟨⟨by decide +kernel, by decide +kernel⟩, List.mem_of_getElem? (i := 849) (by decide +kernel), List.mem_of_getElem? (i := 986) (by decide +kernel), List.mem_of_getElem? (i := 987) (by decide +kernel)⟩
def lw_privs_3 : List (MethodName × Nat) := [(⟨"IronStairs", "fitsNotes", "(II)Z"⟩, 15), (⟨"IronStairs", "windowKinds", "(I)I"⟩, 15), (⟨"IronStairs", "fitsMarks", "(II)Z"⟩, 15), (⟨"IronStairs", "fillMet", "(II)V"⟩, 15), (⟨"IronStairs", "rests", "(II)Z"⟩, 15), (⟨"IronStairs", "gainOfA", "(II)I"⟩, 15), (⟨"IronStairs", "gainOfB", "(II)I"⟩, 15), (⟨"IronStairs", "howMany", "(I)I"⟩, 15), (⟨"IronStairsModel", "empties", "(I)V"⟩, 21), (⟨"IronStairsModel", "hasLadder", "(II)Z"⟩, 21), (⟨"IronStairsModel", "bad", "(I)I"⟩, 21), (⟨"IronStairsModel", "full", "()I"⟩, 21), (⟨"IronStairsModel", "addsLadder", "(II)V"⟩, 21), (⟨"IronStairsModel", "addsGoer", "(IIII)V"⟩, 21), (⟨"IronStairsModel", "addsWindow", "(III)V"⟩, 21), (⟨"IronStairsModel", "blanks", "()V"⟩, 21)]
theorem lw_r3 : ∀ q ∈ lw_privs_3, lw_okq q := List.forall_mem_cons.mpr ⟨lw_p32, List.forall_mem_cons.mpr ⟨lw_p33, List.forall_mem_cons.mpr ⟨lw_p34, List.forall_mem_cons.mpr ⟨lw_p35, List.forall_mem_cons.mpr ⟨lw_p36, List.forall_mem_cons.mpr ⟨lw_p37, List.forall_mem_cons.mpr ⟨lw_p38, List.forall_mem_cons.mpr ⟨lw_p39, List.forall_mem_cons.mpr ⟨lw_p40, List.forall_mem_cons.mpr ⟨lw_p41, List.forall_mem_cons.mpr ⟨lw_p42, List.forall_mem_cons.mpr ⟨lw_p43, List.forall_mem_cons.mpr ⟨lw_p44, List.forall_mem_cons.mpr ⟨lw_p45, List.forall_mem_cons.mpr ⟨lw_p46, List.forall_mem_cons.mpr ⟨lw_p47, fun _ h => absurd h List.not_mem_nil⟩⟩⟩⟩⟩⟩⟩⟩⟩⟩⟩⟩⟩⟩⟩⟩
theorem lw_p48 : lw_okq (⟨"IronStairsModel", "byteAt", "(I)I"⟩, 21) := ⟨⟨by decide +kernel, by decide +kernel⟩, List.mem_of_getElem? (i := 849) (by decide +kernel), List.mem_of_getElem? (i := 990) (by decide +kernel), List.mem_of_getElem? (i := 991) (by decide +kernel)⟩
theorem lw_p49 : lw_okq (⟨"IronStairsModel", "readsItem", "(Z)Z"⟩, 21) := ⟨⟨by decide +kernel, by decide +kernel⟩, List.mem_of_getElem? (i := 849) (by decide +kernel), List.mem_of_getElem? (i := 994) (by decide +kernel), List.mem_of_getElem? (i := 995) (by decide +kernel)⟩
theorem lw_p50 : lw_okq (⟨"IronStairsModel", "takesWord", "()V"⟩, 21) := ⟨⟨by decide +kernel, by decide +kernel⟩, List.mem_of_getElem? (i := 849) (by decide +kernel), List.mem_of_getElem? (i := 998) (by decide +kernel), List.mem_of_getElem? (i := 999) (by decide +kernel)⟩
theorem lw_p51 : lw_okq (⟨"IronStairsModel", "wordOf", "()I"⟩, 21) := ⟨⟨by decide +kernel, by decide +kernel⟩, List.mem_of_getElem? (i := 849) (by decide +kernel), List.mem_of_getElem? (i := 1004) (by decide +kernel), List.mem_of_getElem? (i := 1005) (by decide +kernel)⟩
theorem lw_p52 : lw_okq (⟨"IronStairsModel", "isWord", "(IIIIIII)Z"⟩, 21) := ⟨⟨by decide +kernel, by decide +kernel⟩, List.mem_of_getElem? (i := 849) (by decide +kernel), List.mem_of_getElem? (i := 1008) (by decide +kernel), List.mem_of_getElem? (i := 1009) (by decide +kernel)⟩
theorem lw_p53 : lw_okq (⟨"IronStairsModel", "isLetter", "(III)Z"⟩, 21) := ⟨⟨by decide +kernel, by decide +kernel⟩, List.mem_of_getElem? (i := 849) (by decide +kernel), List.mem_of_getElem? (i := 1012) (by decide +kernel), List.mem_of_getElem? (i := 1013) (by decide +kernel)⟩
theorem lw_p54 : lw_okq (⟨"IronStairsModel", "readsLadder", "()Z"⟩, 21) := ⟨⟨by decide +kernel, by decide +kernel⟩, List.mem_of_getElem? (i := 849) (by decide +kernel), List.mem_of_getElem? (i := 1016) (by decide +kernel), List.mem_of_getElem? (i := 1017) (by decide +kernel)⟩
theorem lw_p55 : lw_okq (⟨"IronStairsModel", "takesNumber", "(II)Z"⟩, 21) := ⟨⟨by decide +kernel, by decide +kernel⟩, List.mem_of_getElem? (i := 849) (by decide +kernel), List.mem_of_getElem? (i := 1020) (by decide +kernel), List.mem_of_getElem? (i := 1021) (by decide +kernel)⟩
theorem lw_p56 : lw_okq (⟨"IronStairsModel", "readsGoer", "()Z"⟩, 21) := ⟨⟨by decide +kernel, by decide +kernel⟩, List.mem_of_getElem? (i := 849) (by decide +kernel), List.mem_of_getElem? (i := 1027) (by decide +kernel), List.mem_of_getElem? (i := 1028) (by decide +kernel)⟩
theorem lw_p57 : lw_okq (⟨"IronStairsModel", "readsWindow", "()Z"⟩, 21) := ⟨⟨by decide +kernel, by decide +kernel⟩, List.mem_of_getElem? (i := 849) (by decide +kernel), List.mem_of_getElem? (i := 1031) (by decide +kernel), List.mem_of_getElem? (i := 1032) (by decide +kernel)⟩
theorem lw_p58 : lw_okq (⟨"IronStairsModel", "readsTurn", "()Z"⟩, 21) := ⟨⟨by decide +kernel, by decide +kernel⟩, List.mem_of_getElem? (i := 849) (by decide +kernel), List.mem_of_getElem? (i := 1035) (by decide +kernel), List.mem_of_getElem? (i := 1036) (by decide +kernel)⟩
theorem lw_p59 : lw_okq (⟨"IronStairsModel", "readsDraw", "()Z"⟩, 21) := ⟨⟨by decide +kernel, by decide +kernel⟩, List.mem_of_getElem? (i := 849) (by decide +kernel), List.mem_of_getElem? (i := 1039) (by decide +kernel), List.mem_of_getElem? (i := 1040) (by decide +kernel)⟩
theorem lw_p60 : lw_okq (⟨"IronStairsModel", "readsMinutes", "()Z"⟩, 21) := ⟨⟨by decide +kernel, by decide +kernel⟩, List.mem_of_getElem? (i := 849) (by decide +kernel), List.mem_of_getElem? (i := 1043) (by decide +kernel), List.mem_of_getElem? (i := 1044) (by decide +kernel)⟩
theorem lw_p61 : lw_okq (⟨"IronStairsModel", "passes", "(I)I"⟩, 21) := ⟨⟨by decide +kernel, by decide +kernel⟩, List.mem_of_getElem? (i := 849) (by decide +kernel), List.mem_of_getElem? (i := 1047) (by decide +kernel), List.mem_of_getElem? (i := 1048) (by decide +kernel)⟩
theorem lw_p62 : lw_okq (⟨"IronStairsModel", "nextOf", "(II)I"⟩, 21) := ⟨⟨by decide +kernel, by decide +kernel⟩, List.mem_of_getElem? (i := 849) (by decide +kernel), List.mem_of_getElem? (i := 1051) (by decide +kernel), List.mem_of_getElem? (i := 1052) (by decide +kernel)⟩
theorem lw_p63 : lw_okq (⟨"IronStairsModel", "goalOf", "(II)I"⟩, 21) := ⟨⟨by decide +kernel, by decide +kernel⟩, List.mem_of_getElem? (i := 849) (by decide +kernel), List.mem_of_getElem? (i := 1055) (by decide +kernel), List.mem_of_getElem? (i := 1056) (by decide +kernel)⟩
def lw_privs_4 : List (MethodName × Nat) := [(⟨"IronStairsModel", "byteAt", "(I)I"⟩, 21), (⟨"IronStairsModel", "readsItem", "(Z)Z"⟩, 21), (⟨"IronStairsModel", "takesWord", "()V"⟩, 21), (⟨"IronStairsModel", "wordOf", "()I"⟩, 21), (⟨"IronStairsModel", "isWord", "(IIIIIII)Z"⟩, 21), (⟨"IronStairsModel", "isLetter", "(III)Z"⟩, 21), (⟨"IronStairsModel", "readsLadder", "()Z"⟩, 21), (⟨"IronStairsModel", "takesNumber", "(II)Z"⟩, 21), (⟨"IronStairsModel", "readsGoer", "()Z"⟩, 21), (⟨"IronStairsModel", "readsWindow", "()Z"⟩, 21), (⟨"IronStairsModel", "readsTurn", "()Z"⟩, 21), (⟨"IronStairsModel", "readsDraw", "()Z"⟩, 21), (⟨"IronStairsModel", "readsMinutes", "()Z"⟩, 21), (⟨"IronStairsModel", "passes", "(I)I"⟩, 21), (⟨"IronStairsModel", "nextOf", "(II)I"⟩, 21), (⟨"IronStairsModel", "goalOf", "(II)I"⟩, 21)]
theorem lw_r4 : ∀ q ∈ lw_privs_4, lw_okq q := List.forall_mem_cons.mpr ⟨lw_p48, List.forall_mem_cons.mpr ⟨lw_p49, List.forall_mem_cons.mpr ⟨lw_p50, List.forall_mem_cons.mpr ⟨lw_p51, List.forall_mem_cons.mpr ⟨lw_p52, List.forall_mem_cons.mpr ⟨lw_p53, List.forall_mem_cons.mpr ⟨lw_p54, List.forall_mem_cons.mpr ⟨lw_p55, List.forall_mem_cons.mpr ⟨lw_p56, List.forall_mem_cons.mpr ⟨lw_p57, List.forall_mem_cons.mpr ⟨lw_p58, List.forall_mem_cons.mpr ⟨lw_p59, List.forall_mem_cons.mpr ⟨lw_p60, List.forall_mem_cons.mpr ⟨lw_p61, List.forall_mem_cons.mpr ⟨lw_p62, List.forall_mem_cons.mpr ⟨lw_p63, fun _ h => absurd h List.not_mem_nil⟩⟩⟩⟩⟩⟩⟩⟩⟩⟩⟩⟩⟩⟩⟩⟩
theorem lw_p64 : lw_okq (⟨"IronStairsModel", "laysAway", "(II)V"⟩, 21) := ⟨⟨by decide +kernel, by decide +kernel⟩, List.mem_of_getElem? (i := 849) (by decide +kernel), List.mem_of_getElem? (i := 1059) (by decide +kernel), List.mem_of_getElem? (i := 1060) (by decide +kernel)⟩
theorem lw_p65 : lw_okq (⟨"IronStairsModel", "leads", "(III)Z"⟩, 21) := ⟨⟨by decide +kernel, by decide +kernel⟩, List.mem_of_getElem? (i := 849) (by decide +kernel), List.mem_of_getElem? (i := 1064) (by decide +kernel), List.mem_of_getElem? (i := 1065) (by decide +kernel)⟩
theorem lw_p66 : lw_okq (⟨"IronStairsModel", "isLadderDown", "(II)Z"⟩, 21) := ⟨⟨by decide +kernel, by decide +kernel⟩, List.mem_of_getElem? (i := 849) (by decide +kernel), List.mem_of_getElem? (i := 1068) (by decide +kernel), List.mem_of_getElem? (i := 1069) (by decide +kernel)⟩
theorem lw_p67 : lw_okq (⟨"IronStairsModel", "takesEnd", "()Z"⟩, 21) := ⟨⟨by decide +kernel, by decide +kernel⟩, List.mem_of_getElem? (i := 849) (by decide +kernel), List.mem_of_getElem? (i := 1072) (by decide +kernel), List.mem_of_getElem? (i := 1073) (by decide +kernel)⟩
theorem lw_p68 : lw_okq (⟨"IronStairsModel", "copy", "(II)V"⟩, 21) := ⟨⟨by decide +kernel, by decide +kernel⟩, List.mem_of_getElem? (i := 849) (by decide +kernel), List.mem_of_getElem? (i := 1076) (by decide +kernel), List.mem_of_getElem? (i := 1077) (by decide +kernel)⟩
theorem lw_p69 : lw_okq (⟨"IronStairsModel", "minds", "()V"⟩, 21) := ⟨⟨by decide +kernel, by decide +kernel⟩, List.mem_of_getElem? (i := 849) (by decide +kernel), List.mem_of_getElem? (i := 1085) (by decide +kernel), List.mem_of_getElem? (i := 1086) (by decide +kernel)⟩
theorem lw_p70 : lw_okq (⟨"IronStairsModel", "isGoer", "(I)Z"⟩, 21) := ⟨⟨by decide +kernel, by decide +kernel⟩, List.mem_of_getElem? (i := 849) (by decide +kernel), List.mem_of_getElem? (i := 1093) (by decide +kernel), List.mem_of_getElem? (i := 1094) (by decide +kernel)⟩
theorem lw_p71 : lw_okq (⟨"IronStairsModel", "isLadder", "(I)Z"⟩, 21) := ⟨⟨by decide +kernel, by decide +kernel⟩, List.mem_of_getElem? (i := 849) (by decide +kernel), List.mem_of_getElem? (i := 1101) (by decide +kernel), List.mem_of_getElem? (i := 1102) (by decide +kernel)⟩
theorem lw_p72 : lw_okq (⟨"IronStairsModel", "no", "()I"⟩, 21) := ⟨⟨by decide +kernel, by decide +kernel⟩, List.mem_of_getElem? (i := 849) (by decide +kernel), List.mem_of_getElem? (i := 1109) (by decide +kernel), List.mem_of_getElem? (i := 1110) (by decide +kernel)⟩
theorem lw_p73 : lw_okq (⟨"IronStairsModel", "loudIn", "(II)I"⟩, 21) := ⟨⟨by decide +kernel, by decide +kernel⟩, List.mem_of_getElem? (i := 849) (by decide +kernel), List.mem_of_getElem? (i := 1117) (by decide +kernel), List.mem_of_getElem? (i := 1118) (by decide +kernel)⟩
theorem lw_p74 : lw_okq (⟨"IronStairsModel", "isWindow", "(I)Z"⟩, 21) := ⟨⟨by decide +kernel, by decide +kernel⟩, List.mem_of_getElem? (i := 849) (by decide +kernel), List.mem_of_getElem? (i := 1134) (by decide +kernel), List.mem_of_getElem? (i := 1135) (by decide +kernel)⟩
theorem lw_p75 : lw_okq (⟨"IronStairsModel", "heardBy", "(II)I"⟩, 21) := ⟨⟨by decide +kernel, by decide +kernel⟩, List.mem_of_getElem? (i := 849) (by decide +kernel), List.mem_of_getElem? (i := 1138) (by decide +kernel), List.mem_of_getElem? (i := 1139) (by decide +kernel)⟩
theorem lw_p76 : lw_okq (⟨"IronStairsModel", "hearsIn", "(III)Z"⟩, 21) := ⟨⟨by decide +kernel, by decide +kernel⟩, List.mem_of_getElem? (i := 849) (by decide +kernel), List.mem_of_getElem? (i := 1142) (by decide +kernel), List.mem_of_getElem? (i := 1143) (by decide +kernel)⟩
theorem lw_p77 : lw_okq (⟨"IronStairsModel", "tries", "()V"⟩, 21) := ⟨⟨by decide +kernel, by decide +kernel⟩, List.mem_of_getElem? (i := 849) (by decide +kernel), List.mem_of_getElem? (i := 1173) (by decide +kernel), List.mem_of_getElem? (i := 1174) (by decide +kernel)⟩
theorem lw_p78 : lw_okq (⟨"IronStairsModel", "laysTwo", "(II)V"⟩, 21) := ⟨⟨by decide +kernel, by decide +kernel⟩, List.mem_of_getElem? (i := 849) (by decide +kernel), List.mem_of_getElem? (i := 1181) (by decide +kernel), List.mem_of_getElem? (i := 1182) (by decide +kernel)⟩
theorem lw_p79 : lw_okq (⟨"IronStairsModel", "meetBy", "(III)I"⟩, 21) := ⟨⟨by decide +kernel, by decide +kernel⟩, List.mem_of_getElem? (i := 849) (by decide +kernel), List.mem_of_getElem? (i := 1185) (by decide +kernel), List.mem_of_getElem? (i := 1186) (by decide +kernel)⟩
def lw_privs_5 : List (MethodName × Nat) := [(⟨"IronStairsModel", "laysAway", "(II)V"⟩, 21), (⟨"IronStairsModel", "leads", "(III)Z"⟩, 21), (⟨"IronStairsModel", "isLadderDown", "(II)Z"⟩, 21), (⟨"IronStairsModel", "takesEnd", "()Z"⟩, 21), (⟨"IronStairsModel", "copy", "(II)V"⟩, 21), (⟨"IronStairsModel", "minds", "()V"⟩, 21), (⟨"IronStairsModel", "isGoer", "(I)Z"⟩, 21), (⟨"IronStairsModel", "isLadder", "(I)Z"⟩, 21), (⟨"IronStairsModel", "no", "()I"⟩, 21), (⟨"IronStairsModel", "loudIn", "(II)I"⟩, 21), (⟨"IronStairsModel", "isWindow", "(I)Z"⟩, 21), (⟨"IronStairsModel", "heardBy", "(II)I"⟩, 21), (⟨"IronStairsModel", "hearsIn", "(III)Z"⟩, 21), (⟨"IronStairsModel", "tries", "()V"⟩, 21), (⟨"IronStairsModel", "laysTwo", "(II)V"⟩, 21), (⟨"IronStairsModel", "meetBy", "(III)I"⟩, 21)]
theorem lw_r5 : ∀ q ∈ lw_privs_5, lw_okq q := List.forall_mem_cons.mpr ⟨lw_p64, List.forall_mem_cons.mpr ⟨lw_p65, List.forall_mem_cons.mpr ⟨lw_p66, List.forall_mem_cons.mpr ⟨lw_p67, List.forall_mem_cons.mpr ⟨lw_p68, List.forall_mem_cons.mpr ⟨lw_p69, List.forall_mem_cons.mpr ⟨lw_p70, List.forall_mem_cons.mpr ⟨lw_p71, List.forall_mem_cons.mpr ⟨lw_p72, List.forall_mem_cons.mpr ⟨lw_p73, List.forall_mem_cons.mpr ⟨lw_p74, List.forall_mem_cons.mpr ⟨lw_p75, List.forall_mem_cons.mpr ⟨lw_p76, List.forall_mem_cons.mpr ⟨lw_p77, List.forall_mem_cons.mpr ⟨lw_p78, List.forall_mem_cons.mpr ⟨lw_p79, fun _ h => absurd h List.not_mem_nil⟩⟩⟩⟩⟩⟩⟩⟩⟩⟩⟩⟩⟩⟩⟩⟩
theorem lw_p80 : lw_okq (⟨"IronStairsModel", "lostOnes", "(I)I"⟩, 21) := ⟨⟨by decide +kernel, by decide +kernel⟩, List.mem_of_getElem? (i := 849) (by decide +kernel), List.mem_of_getElem? (i := 1197) (by decide +kernel), List.mem_of_getElem? (i := 1198) (by decide +kernel)⟩
theorem lw_p81 : lw_okq (⟨"IronStairsModel", "bestDoors", "()I"⟩, 21) := ⟨⟨by decide +kernel, by decide +kernel⟩, List.mem_of_getElem? (i := 849) (by decide +kernel), List.mem_of_getElem? (i := 1212) (by decide +kernel), List.mem_of_getElem? (i := 1213) (by decide +kernel)⟩
theorem lw_p82 : lw_okq (⟨"IronStairsModel", "kindsOf", "(I)I"⟩, 21) := ⟨⟨by decide +kernel, by decide +kernel⟩, List.mem_of_getElem? (i := 849) (by decide +kernel), List.mem_of_getElem? (i := 1248) (by decide +kernel), List.mem_of_getElem? (i := 1249) (by decide +kernel)⟩
theorem lw_p83 : lw_okq (⟨"IronStairsModel", "greatest", "(I)I"⟩, 21) := ⟨⟨by decide +kernel, by decide +kernel⟩, List.mem_of_getElem? (i := 849) (by decide +kernel), List.mem_of_getElem? (i := 1256) (by decide +kernel), List.mem_of_getElem? (i := 1257) (by decide +kernel)⟩
theorem lw_p84 : lw_okq (⟨"IronStairsModel", "windowsOf", "(I)I"⟩, 21) := ⟨⟨by decide +kernel, by decide +kernel⟩, List.mem_of_getElem? (i := 849) (by decide +kernel), List.mem_of_getElem? (i := 1264) (by decide +kernel), List.mem_of_getElem? (i := 1265) (by decide +kernel)⟩
theorem lw_p85 : lw_okq (⟨"IronStairsModel", "rests", "(II)Z"⟩, 21) := ⟨⟨by decide +kernel, by decide +kernel⟩, List.mem_of_getElem? (i := 849) (by decide +kernel), List.mem_of_getElem? (i := 1279) (by decide +kernel), List.mem_of_getElem? (i := 1280) (by decide +kernel)⟩
theorem lw_p86 : lw_okq (⟨"IronStairsModel", "getsBy", "(IIZ)I"⟩, 21) := ⟨⟨by decide +kernel, by decide +kernel⟩, List.mem_of_getElem? (i := 849) (by decide +kernel), List.mem_of_getElem? (i := 1283) (by decide +kernel), List.mem_of_getElem? (i := 1284) (by decide +kernel)⟩
theorem lw_p87 : lw_okq (⟨"IronStairsModel", "countOf", "(I)I"⟩, 21) := ⟨⟨by decide +kernel, by decide +kernel⟩, List.mem_of_getElem? (i := 849) (by decide +kernel), List.mem_of_getElem? (i := 1323) (by decide +kernel), List.mem_of_getElem? (i := 1324) (by decide +kernel)⟩
theorem lw_p88 : lw_okq (⟨"IronStairsModel", "thereOnes", "()I"⟩, 21) := ⟨⟨by decide +kernel, by decide +kernel⟩, List.mem_of_getElem? (i := 849) (by decide +kernel), List.mem_of_getElem? (i := 1327) (by decide +kernel), List.mem_of_getElem? (i := 1328) (by decide +kernel)⟩
theorem lw_p89 : lw_okq (⟨"IronStairsModel", "mix", "(J)V"⟩, 21) := ⟨⟨by decide +kernel, by decide +kernel⟩, List.mem_of_getElem? (i := 849) (by decide +kernel), List.mem_of_getElem? (i := 1336) (by decide +kernel), List.mem_of_getElem? (i := 1337) (by decide +kernel)⟩
def lw_privs_6 : List (MethodName × Nat) := [(⟨"IronStairsModel", "lostOnes", "(I)I"⟩, 21), (⟨"IronStairsModel", "bestDoors", "()I"⟩, 21), (⟨"IronStairsModel", "kindsOf", "(I)I"⟩, 21), (⟨"IronStairsModel", "greatest", "(I)I"⟩, 21), (⟨"IronStairsModel", "windowsOf", "(I)I"⟩, 21), (⟨"IronStairsModel", "rests", "(II)Z"⟩, 21), (⟨"IronStairsModel", "getsBy", "(IIZ)I"⟩, 21), (⟨"IronStairsModel", "countOf", "(I)I"⟩, 21), (⟨"IronStairsModel", "thereOnes", "()I"⟩, 21), (⟨"IronStairsModel", "mix", "(J)V"⟩, 21)]
theorem lw_r6 : ∀ q ∈ lw_privs_6, lw_okq q := List.forall_mem_cons.mpr ⟨lw_p80, List.forall_mem_cons.mpr ⟨lw_p81, List.forall_mem_cons.mpr ⟨lw_p82, List.forall_mem_cons.mpr ⟨lw_p83, List.forall_mem_cons.mpr ⟨lw_p84, List.forall_mem_cons.mpr ⟨lw_p85, List.forall_mem_cons.mpr ⟨lw_p86, List.forall_mem_cons.mpr ⟨lw_p87, List.forall_mem_cons.mpr ⟨lw_p88, List.forall_mem_cons.mpr ⟨lw_p89, fun _ h => absurd h List.not_mem_nil⟩⟩⟩⟩⟩⟩⟩⟩⟩⟩
def lw_privs : List (MethodName × Nat) := lw_privs_1 ++ (lw_privs_2 ++ (lw_privs_3 ++ (lw_privs_4 ++ (lw_privs_5 ++ (lw_privs_6)))))
def lw_tbl : List Cond := k2_sels lw_privs ++ tables_1
theorem lw_privs_ok : ∀ q ∈ lw_privs, lw_okq q := by
  show ∀ q ∈ lw_privs_1 ++ (lw_privs_2 ++ (lw_privs_3 ++ (lw_privs_4 ++ (lw_privs_5 ++ (lw_privs_6))))), lw_okq q
  exact List.forall_mem_append.mpr ⟨lw_r1, List.forall_mem_append.mpr ⟨lw_r2, List.forall_mem_append.mpr ⟨lw_r3, List.forall_mem_append.mpr ⟨lw_r4, List.forall_mem_append.mpr ⟨lw_r5, lw_r6⟩⟩⟩⟩⟩
-- ===== end of PART A =====
def RX0 : String := "IronStairs$Back"
def TX0 : u_T := fun k => match k with
  | 0 => ("IronStairs$Back", "ladders", "LIronStairs$Rows;", true)
  | 1 => ("IronStairs$Back", "goers", "LIronStairs$Rows;", true)
  | 2 => ("IronStairs$Back", "windows", "LIronStairs$Rows;", true)
  | 3 => ("IronStairs$Back", "sounds", "LIronStairs$Rows;", true)
  | 4 => ("IronStairs$Back", "notes", "LIronStairs$Rows;", true)
  | 5 => ("IronStairs$Back", "marks", "LIronStairs$Rows;", true)
  | 6 => ("IronStairs$Back", "past", "LIronStairs$Rows;", true)
  | 7 => ("IronStairs$Back", "ways", "LIronStairs$Ways;", true)
  | _ => ("IronStairs$Back", "minute", "I", false)
def tyX0 : Nat → FieldType := fun k => match k with
  | 0 => .object "IronStairs$Rows"
  | 1 => .object "IronStairs$Rows"
  | 2 => .object "IronStairs$Rows"
  | 3 => .object "IronStairs$Rows"
  | 4 => .object "IronStairs$Rows"
  | 5 => .object "IronStairs$Rows"
  | 6 => .object "IronStairs$Rows"
  | 7 => .object "IronStairs$Ways"
  | _ => .int
theorem nmX0 : ∀ a, a < 9 → ∀ b, b < 9 → a ≠ b → (TX0 a).2.1 ≠ (TX0 b).2.1 := by decide +kernel
theorem tyX0_ok : ∀ k, k < 9 → parseFieldDescriptor (TX0 k).2.2.1 = some (tyX0 k) := by decide +kernel
abbrev cX0_init : ByteArray := prog_2_method_1_code
def yX0_init : MethodName := ⟨RX0, "<init>", "()V"⟩
abbrev cX0_reset : ByteArray := prog_2_method_2_code
def yX0_reset : MethodName := ⟨RX0, "reset", "()V"⟩
abbrev cX0_take : ByteArray := prog_2_method_3_code
def yX0_take : MethodName := ⟨RX0, "take", "(LIronStairs$Back;)V"⟩
abbrev cX0_hasLadder : ByteArray := prog_2_method_4_code
def yX0_hasLadder : MethodName := ⟨RX0, "hasLadder", "(I)Z"⟩
abbrev cX0_addLadder : ByteArray := prog_2_method_5_code
def yX0_addLadder : MethodName := ⟨RX0, "addLadder", "(I)I"⟩
abbrev cX0_addGoer : ByteArray := prog_2_method_6_code
def yX0_addGoer : MethodName := ⟨RX0, "addGoer", "(III)I"⟩
abbrev cX0_addWindow : ByteArray := prog_2_method_7_code
def yX0_addWindow : MethodName := ⟨RX0, "addWindow", "(II)I"⟩
abbrev cX0_turnGoer : ByteArray := prog_2_method_8_code
def yX0_turnGoer : MethodName := ⟨RX0, "turnGoer", "(I)I"⟩
abbrev cX0_drawLadder : ByteArray := prog_2_method_9_code
def yX0_drawLadder : MethodName := ⟨RX0, "drawLadder", "(I)I"⟩
abbrev cX0_remember : ByteArray := prog_2_method_10_code
def yX0_remember : MethodName := ⟨RX0, "remember", "()V"⟩
abbrev cX0_recall : ByteArray := prog_2_method_11_code
def yX0_recall : MethodName := ⟨RX0, "recall", "()V"⟩
abbrev cX0_pass : ByteArray := prog_2_method_12_code
def yX0_pass : MethodName := ⟨RX0, "pass", "(I)I"⟩
abbrev cX0_trace : ByteArray := prog_2_method_13_code
def yX0_trace : MethodName := ⟨RX0, "trace", "(ILIronStairs$Row;)V"⟩
abbrev cX0_arrived : ByteArray := prog_2_method_14_code
def yX0_arrived : MethodName := ⟨RX0, "arrived", "()I"⟩
abbrev cX0_nextOf : ByteArray := prog_2_method_15_code
def yX0_nextOf : MethodName := ⟨RX0, "nextOf", "(I)I"⟩
abbrev cX0_loudOf : ByteArray := prog_2_method_16_code
def yX0_loudOf : MethodName := ⟨RX0, "loudOf", "(I)I"⟩
abbrev cX0_heardAt : ByteArray := prog_2_method_17_code
def yX0_heardAt : MethodName := ⟨RX0, "heardAt", "(I)I"⟩
abbrev cX0_heardInAll : ByteArray := prog_2_method_18_code
def yX0_heardInAll : MethodName := ⟨RX0, "heardInAll", "()I"⟩
abbrev cX0_loudStep : ByteArray := prog_2_method_19_code
def yX0_loudStep : MethodName := ⟨RX0, "loudStep", "(I)I"⟩
abbrev cX0_hears : ByteArray := prog_2_method_20_code
def yX0_hears : MethodName := ⟨RX0, "hears", "(III)Z"⟩
abbrev cX0_stepsBetween : ByteArray := prog_2_method_21_code
def yX0_stepsBetween : MethodName := ⟨RX0, "stepsBetween", "(II)I"⟩
abbrev cX0_stepsToGround : ByteArray := prog_2_method_22_code
def yX0_stepsToGround : MethodName := ⟨RX0, "stepsToGround", "(I)I"⟩
abbrev cX0_laddersDownOn : ByteArray := prog_2_method_23_code
def yX0_laddersDownOn : MethodName := ⟨RX0, "laddersDownOn", "(II)I"⟩
abbrev cX0_goalOf : ByteArray := prog_2_method_24_code
def yX0_goalOf : MethodName := ⟨RX0, "goalOf", "(I)I"⟩
abbrev cX0_layWays : ByteArray := prog_2_method_25_code
def yX0_layWays : MethodName := ⟨RX0, "layWays", "()V"⟩
def RX1 : String := "IronStairs$Reader"
def TX1 : u_T := fun k => match k with
  | 0 => ("IronStairs$Reader", "bytes", "LIronStairs$Row;", true)
  | 1 => ("IronStairs$Reader", "length", "I", false)
  | 2 => ("IronStairs$Reader", "place", "I", false)
  | 3 => ("IronStairs$Reader", "start", "I", false)
  | 4 => ("IronStairs$Reader", "token", "I", false)
  | _ => ("IronStairs$Reader", "value", "I", false)
def tyX1 : Nat → FieldType := fun k => match k with
  | 0 => .object "IronStairs$Row"
  | 1 => .int
  | 2 => .int
  | 3 => .int
  | 4 => .int
  | _ => .int
theorem nmX1 : ∀ a, a < 6 → ∀ b, b < 6 → a ≠ b → (TX1 a).2.1 ≠ (TX1 b).2.1 := by decide +kernel
theorem tyX1_ok : ∀ k, k < 6 → parseFieldDescriptor (TX1 k).2.2.1 = some (tyX1 k) := by decide +kernel
abbrev cX1_init : ByteArray := prog_3_method_1_code
def yX1_init : MethodName := ⟨RX1, "<init>", "()V"⟩
abbrev cX1_length : ByteArray := prog_3_method_2_code
def yX1_length : MethodName := ⟨RX1, "length", "()I"⟩
abbrev cX1_isFull : ByteArray := prog_3_method_3_code
def yX1_isFull : MethodName := ⟨RX1, "isFull", "()Z"⟩
abbrev cX1_add : ByteArray := prog_3_method_4_code
def yX1_add : MethodName := ⟨RX1, "add", "(I)I"⟩
abbrev cX1_empty : ByteArray := prog_3_method_5_code
def yX1_empty : MethodName := ⟨RX1, "empty", "()I"⟩
abbrev cX1_readInto : ByteArray := prog_3_method_6_code
def yX1_readInto : MethodName := ⟨RX1, "readInto", "(LIronStairs$Back;)I"⟩
abbrev cX1_readItem : ByteArray := prog_3_method_7_code
def yX1_readItem : MethodName := ⟨RX1, "readItem", "(LIronStairs$Back;)Z"⟩
abbrev cX1_readLadder : ByteArray := prog_3_method_8_code
def yX1_readLadder : MethodName := ⟨RX1, "readLadder", "(LIronStairs$Back;)Z"⟩
abbrev cX1_readGoer : ByteArray := prog_3_method_9_code
def yX1_readGoer : MethodName := ⟨RX1, "readGoer", "(LIronStairs$Back;)Z"⟩
abbrev cX1_readWindow : ByteArray := prog_3_method_10_code
def yX1_readWindow : MethodName := ⟨RX1, "readWindow", "(LIronStairs$Back;)Z"⟩
abbrev cX1_readTurn : ByteArray := prog_3_method_11_code
def yX1_readTurn : MethodName := ⟨RX1, "readTurn", "(LIronStairs$Back;)Z"⟩
abbrev cX1_readDraw : ByteArray := prog_3_method_12_code
def yX1_readDraw : MethodName := ⟨RX1, "readDraw", "(LIronStairs$Back;)Z"⟩
abbrev cX1_readMinutes : ByteArray := prog_3_method_13_code
def yX1_readMinutes : MethodName := ⟨RX1, "readMinutes", "(LIronStairs$Back;)Z"⟩
abbrev cX1_nextIsStop : ByteArray := prog_3_method_14_code
def yX1_nextIsStop : MethodName := ⟨RX1, "nextIsStop", "()Z"⟩
abbrev cX1_nextIsNumber : ByteArray := prog_3_method_15_code
def yX1_nextIsNumber : MethodName := ⟨RX1, "nextIsNumber", "(II)Z"⟩
abbrev cX1_isWord : ByteArray := prog_3_method_16_code
def yX1_isWord : MethodName := ⟨RX1, "isWord", "(Ljava/lang/String;)Z"⟩
abbrev cX1_nextToken : ByteArray := prog_3_method_17_code
def yX1_nextToken : MethodName := ⟨RX1, "nextToken", "()V"⟩
abbrev cX1_tokenBegunBy : ByteArray := prog_3_method_18_code
def yX1_tokenBegunBy : MethodName := ⟨RX1, "tokenBegunBy", "(I)I"⟩
def RX2 : String := "IronStairs$Row"
def TX2 : u_T := fun k => match k with
  | _ => ("IronStairs$Row", "cells", "[I", true)
def tyX2 : Nat → FieldType := fun k => match k with
  | _ => .array .int
theorem nmX2 : ∀ a, a < 1 → ∀ b, b < 1 → a ≠ b → (TX2 a).2.1 ≠ (TX2 b).2.1 := by decide +kernel
theorem tyX2_ok : ∀ k, k < 1 → parseFieldDescriptor (TX2 k).2.2.1 = some (tyX2 k) := by decide +kernel
abbrev cX2_init : ByteArray := prog_4_method_1_code
def yX2_init : MethodName := ⟨RX2, "<init>", "(I)V"⟩
abbrev cX2_get : ByteArray := prog_4_method_2_code
def yX2_get : MethodName := ⟨RX2, "get", "(I)I"⟩
abbrev cX2_set : ByteArray := prog_4_method_3_code
def yX2_set : MethodName := ⟨RX2, "set", "(II)V"⟩
abbrev cX2_take : ByteArray := prog_4_method_4_code
def yX2_take : MethodName := ⟨RX2, "take", "(LIronStairs$Row;)V"⟩
def RX3 : String := "IronStairs$Rows"
def TX3 : u_T := fun k => match k with
  | 0 => ("IronStairs$Rows", "limit", "I", true)
  | 1 => ("IronStairs$Rows", "width", "I", true)
  | 2 => ("IronStairs$Rows", "cells", "LIronStairs$Row;", true)
  | _ => ("IronStairs$Rows", "size", "I", false)
def tyX3 : Nat → FieldType := fun k => match k with
  | 0 => .int
  | 1 => .int
  | 2 => .object "IronStairs$Row"
  | _ => .int
theorem nmX3 : ∀ a, a < 4 → ∀ b, b < 4 → a ≠ b → (TX3 a).2.1 ≠ (TX3 b).2.1 := by decide +kernel
theorem tyX3_ok : ∀ k, k < 4 → parseFieldDescriptor (TX3 k).2.2.1 = some (tyX3 k) := by decide +kernel
abbrev cX3_init : ByteArray := prog_5_method_1_code
def yX3_init : MethodName := ⟨RX3, "<init>", "(II)V"⟩
abbrev cX3_size : ByteArray := prog_5_method_2_code
def yX3_size : MethodName := ⟨RX3, "size", "()I"⟩
abbrev cX3_isFull : ByteArray := prog_5_method_3_code
def yX3_isFull : MethodName := ⟨RX3, "isFull", "()Z"⟩
abbrev cX3_has : ByteArray := prog_5_method_4_code
def yX3_has : MethodName := ⟨RX3, "has", "(I)Z"⟩
abbrev cX3_get : ByteArray := prog_5_method_5_code
def yX3_get : MethodName := ⟨RX3, "get", "(II)I"⟩
abbrev cX3_set : ByteArray := prog_5_method_6_code
def yX3_set : MethodName := ⟨RX3, "set", "(III)V"⟩
abbrev cX3_add : ByteArray := prog_5_method_7_code
def yX3_add : MethodName := ⟨RX3, "add", "(IIII)I"⟩
abbrev cX3_dropFirst : ByteArray := prog_5_method_8_code
def yX3_dropFirst : MethodName := ⟨RX3, "dropFirst", "()V"⟩
abbrev cX3_dropLast : ByteArray := prog_5_method_9_code
def yX3_dropLast : MethodName := ⟨RX3, "dropLast", "()V"⟩
abbrev cX3_empty : ByteArray := prog_5_method_10_code
def yX3_empty : MethodName := ⟨RX3, "empty", "()I"⟩
abbrev cX3_take : ByteArray := prog_5_method_11_code
def yX3_take : MethodName := ⟨RX3, "take", "(LIronStairs$Rows;)V"⟩
abbrev cX3_mixInto : ByteArray := prog_5_method_12_code
def yX3_mixInto : MethodName := ⟨RX3, "mixInto", "(J)J"⟩
def RX4 : String := "IronStairs$Ways"
def TX4 : u_T := fun k => match k with
  | 0 => ("IronStairs$Ways", "steps", "LIronStairs$Row;", true)
  | 1 => ("IronStairs$Ways", "queue", "LIronStairs$Row;", true)
  | 2 => ("IronStairs$Ways", "known", "I", false)
  | _ => ("IronStairs$Ways", "open", "I", false)
def tyX4 : Nat → FieldType := fun k => match k with
  | 0 => .object "IronStairs$Row"
  | 1 => .object "IronStairs$Row"
  | 2 => .int
  | _ => .int
theorem nmX4 : ∀ a, a < 4 → ∀ b, b < 4 → a ≠ b → (TX4 a).2.1 ≠ (TX4 b).2.1 := by decide +kernel
theorem tyX4_ok : ∀ k, k < 4 → parseFieldDescriptor (TX4 k).2.2.1 = some (tyX4 k) := by decide +kernel
abbrev cX4_init : ByteArray := prog_6_method_1_code
def yX4_init : MethodName := ⟨RX4, "<init>", "()V"⟩
abbrev cX4_lay : ByteArray := prog_6_method_2_code
def yX4_lay : MethodName := ⟨RX4, "lay", "(I)V"⟩
abbrev cX4_between : ByteArray := prog_6_method_3_code
def yX4_between : MethodName := ⟨RX4, "between", "(II)I"⟩
abbrev cX4_next : ByteArray := prog_6_method_4_code
def yX4_next : MethodName := ⟨RX4, "next", "(II)I"⟩
abbrev cX4_spread : ByteArray := prog_6_method_5_code
def yX4_spread : MethodName := ⟨RX4, "spread", "(I)V"⟩
abbrev cX4_beside : ByteArray := prog_6_method_6_code
def yX4_beside : MethodName := ⟨RX4, "beside", "(II)I"⟩
def RX5 : String := "IronStairs"
def TX5 : u_T := fun k => match k with
  | 0 => ("IronStairs", "now", "LIronStairs$Back;", true)
  | 1 => ("IronStairs", "spare", "LIronStairs$Back;", true)
  | 2 => ("IronStairs", "image0", "LIronStairs$Back;", true)
  | 3 => ("IronStairs", "image1", "LIronStairs$Back;", true)
  | 4 => ("IronStairs", "kept0", "Z", false)
  | 5 => ("IronStairs", "kept1", "Z", false)
  | 6 => ("IronStairs", "reader", "LIronStairs$Reader;", true)
  | 7 => ("IronStairs", "refused", "LIronStairs$Row;", true)
  | 8 => ("IronStairs", "above", "J", false)
  | 9 => ("IronStairs", "below", "J", false)
  | 10 => ("IronStairs", "pathA", "LIronStairs$Row;", true)
  | 11 => ("IronStairs", "pathB", "LIronStairs$Row;", true)
  | 12 => ("IronStairs", "met", "LIronStairs$Row;", true)
  | 13 => ("IronStairs", "toHomes", "LIronStairs$Row;", true)
  | _ => ("IronStairs", "least", "LIronStairs$Row;", true)
def tyX5 : Nat → FieldType := fun k => match k with
  | 0 => .object "IronStairs$Back"
  | 1 => .object "IronStairs$Back"
  | 2 => .object "IronStairs$Back"
  | 3 => .object "IronStairs$Back"
  | 4 => .boolean
  | 5 => .boolean
  | 6 => .object "IronStairs$Reader"
  | 7 => .object "IronStairs$Row"
  | 8 => .long
  | 9 => .long
  | 10 => .object "IronStairs$Row"
  | 11 => .object "IronStairs$Row"
  | 12 => .object "IronStairs$Row"
  | 13 => .object "IronStairs$Row"
  | _ => .object "IronStairs$Row"
theorem nmX5 : ∀ a, a < 15 → ∀ b, b < 15 → a ≠ b → (TX5 a).2.1 ≠ (TX5 b).2.1 := by decide +kernel
theorem tyX5_ok : ∀ k, k < 15 → parseFieldDescriptor (TX5 k).2.2.1 = some (tyX5 k) := by decide +kernel
abbrev cX5_init : ByteArray := prog_1_method_1_code
def yX5_init : MethodName := ⟨RX5, "<init>", "()V"⟩
abbrev cX5_back : ByteArray := prog_1_method_2_code
def yX5_back : MethodName := ⟨RX5, "back", "()I"⟩
abbrev cX5_ladder : ByteArray := prog_1_method_3_code
def yX5_ladder : MethodName := ⟨RX5, "ladder", "(I)I"⟩
abbrev cX5_goer : ByteArray := prog_1_method_4_code
def yX5_goer : MethodName := ⟨RX5, "goer", "(III)I"⟩
abbrev cX5_window : ByteArray := prog_1_method_5_code
def yX5_window : MethodName := ⟨RX5, "window", "(II)I"⟩
abbrev cX5_type : ByteArray := prog_1_method_6_code
def yX5_type : MethodName := ⟨RX5, "type", "(I)I"⟩
abbrev cX5_clear : ByteArray := prog_1_method_7_code
def yX5_clear : MethodName := ⟨RX5, "clear", "()I"⟩
abbrev cX5_read : ByteArray := prog_1_method_8_code
def yX5_read : MethodName := ⟨RX5, "read", "()I"⟩
abbrev cX5_minutes : ByteArray := prog_1_method_9_code
def yX5_minutes : MethodName := ⟨RX5, "minutes", "(I)I"⟩
abbrev cX5_turns : ByteArray := prog_1_method_10_code
def yX5_turns : MethodName := ⟨RX5, "turns", "(I)I"⟩
abbrev cX5_draws : ByteArray := prog_1_method_11_code
def yX5_draws : MethodName := ⟨RX5, "draws", "(I)I"⟩
abbrev cX5_undo : ByteArray := prog_1_method_12_code
def yX5_undo : MethodName := ⟨RX5, "undo", "()I"⟩
abbrev cX5_of : ByteArray := prog_1_method_13_code
def yX5_of : MethodName := ⟨RX5, "of", "(II)I"⟩
abbrev cX5_about : ByteArray := prog_1_method_14_code
def yX5_about : MethodName := ⟨RX5, "about", "(II)I"⟩
abbrev cX5_rungs : ByteArray := prog_1_method_15_code
def yX5_rungs : MethodName := ⟨RX5, "rungs", "(II)I"⟩
abbrev cX5_far : ByteArray := prog_1_method_16_code
def yX5_far : MethodName := ⟨RX5, "far", "(II)I"⟩
abbrev cX5_where : ByteArray := prog_1_method_17_code
def yX5_where : MethodName := ⟨RX5, "where", "(II)I"⟩
abbrev cX5_meet : ByteArray := prog_1_method_18_code
def yX5_meet : MethodName := ⟨RX5, "meet", "(II)I"⟩
abbrev cX5_waits : ByteArray := prog_1_method_19_code
def yX5_waits : MethodName := ⟨RX5, "waits", "(III)I"⟩
abbrev cX5_down : ByteArray := prog_1_method_20_code
def yX5_down : MethodName := ⟨RX5, "down", "(I)I"⟩
abbrev cX5_cut : ByteArray := prog_1_method_21_code
def yX5_cut : MethodName := ⟨RX5, "cut", "(I)I"⟩
abbrev cX5_doors : ByteArray := prog_1_method_22_code
def yX5_doors : MethodName := ⟨RX5, "doors", "(I)I"⟩
abbrev cX5_sound : ByteArray := prog_1_method_23_code
def yX5_sound : MethodName := ⟨RX5, "sound", "(III)I"⟩
abbrev cX5_who : ByteArray := prog_1_method_24_code
def yX5_who : MethodName := ⟨RX5, "who", "()I"⟩
abbrev cX5_note : ByteArray := prog_1_method_25_code
def yX5_note : MethodName := ⟨RX5, "note", "(IIII)I"⟩
abbrev cX5_mark : ByteArray := prog_1_method_26_code
def yX5_mark : MethodName := ⟨RX5, "mark", "(IIII)I"⟩
abbrev cX5_forget : ByteArray := prog_1_method_27_code
def yX5_forget : MethodName := ⟨RX5, "forget", "(I)I"⟩
abbrev cX5_is : ByteArray := prog_1_method_28_code
def yX5_is : MethodName := ⟨RX5, "is", "(I)I"⟩
abbrev cX5_look : ByteArray := prog_1_method_29_code
def yX5_look : MethodName := ⟨RX5, "look", "(I)I"⟩
abbrev cX5_kinds : ByteArray := prog_1_method_30_code
def yX5_kinds : MethodName := ⟨RX5, "kinds", "(I)I"⟩
abbrev cX5_ask : ByteArray := prog_1_method_31_code
def yX5_ask : MethodName := ⟨RX5, "ask", "(I)I"⟩
abbrev cX5_shy : ByteArray := prog_1_method_32_code
def yX5_shy : MethodName := ⟨RX5, "shy", "(III)I"⟩
abbrev cX5_odds : ByteArray := prog_1_method_33_code
def yX5_odds : MethodName := ⟨RX5, "odds", "(III)I"⟩
abbrev cX5_nights : ByteArray := prog_1_method_34_code
def yX5_nights : MethodName := ⟨RX5, "nights", "(II)I"⟩
abbrev cX5_part : ByteArray := prog_1_method_35_code
def yX5_part : MethodName := ⟨RX5, "part", "(I)J"⟩
abbrev cX5_image : ByteArray := prog_1_method_36_code
def yX5_image : MethodName := ⟨RX5, "image", "(I)I"⟩
abbrev cX5_from : ByteArray := prog_1_method_37_code
def yX5_from : MethodName := ⟨RX5, "from", "(I)I"⟩
abbrev cX5_status : ByteArray := prog_1_method_38_code
def yX5_status : MethodName := ⟨RX5, "status", "(I)I"⟩
abbrev cX5_count : ByteArray := prog_1_method_39_code
def yX5_count : MethodName := ⟨RX5, "count", "(I)I"⟩
abbrev cX5_digest : ByteArray := prog_1_method_40_code
def yX5_digest : MethodName := ⟨RX5, "digest", "()J"⟩
abbrev cX5_bad : ByteArray := prog_1_method_41_code
def yX5_bad : MethodName := ⟨RX5, "bad", "()I"⟩
abbrev cX5_badAs : ByteArray := prog_1_method_42_code
def yX5_badAs : MethodName := ⟨RX5, "badAs", "(I)I"⟩
abbrev cX5_no : ByteArray := prog_1_method_43_code
def yX5_no : MethodName := ⟨RX5, "no", "()I"⟩
abbrev cX5_full : ByteArray := prog_1_method_44_code
def yX5_full : MethodName := ⟨RX5, "full", "()I"⟩
abbrev cX5_within : ByteArray := prog_1_method_45_code
def yX5_within : MethodName := ⟨RX5, "within", "(III)Z"⟩
abbrev cX5_isCell : ByteArray := prog_1_method_46_code
def yX5_isCell : MethodName := ⟨RX5, "isCell", "(I)Z"⟩
abbrev cX5_areTwoGoers : ByteArray := prog_1_method_47_code
def yX5_areTwoGoers : MethodName := ⟨RX5, "areTwoGoers", "(II)Z"⟩
abbrev cX5_howMany : ByteArray := prog_1_method_48_code
def yX5_howMany : MethodName := ⟨RX5, "howMany", "(I)I"⟩
abbrev cX5_firstMeeting : ByteArray := prog_1_method_49_code
def yX5_firstMeeting : MethodName := ⟨RX5, "firstMeeting", "(III)I"⟩
abbrev cX5_goersCutOff : ByteArray := prog_1_method_50_code
def yX5_goersCutOff : MethodName := ⟨RX5, "goersCutOff", "(I)I"⟩
abbrev cX5_climbsDown : ByteArray := prog_1_method_51_code
def yX5_climbsDown : MethodName := ⟨RX5, "climbsDown", "(II)Z"⟩
abbrev cX5_fillToHomes : ByteArray := prog_1_method_52_code
def yX5_fillToHomes : MethodName := ⟨RX5, "fillToHomes", "()V"⟩
abbrev cX5_fillLeast : ByteArray := prog_1_method_53_code
def yX5_fillLeast : MethodName := ⟨RX5, "fillLeast", "()V"⟩
abbrev cX5_leastBehind : ByteArray := prog_1_method_54_code
def yX5_leastBehind : MethodName := ⟨RX5, "leastBehind", "(I)I"⟩
abbrev cX5_wayThrough : ByteArray := prog_1_method_55_code
def yX5_wayThrough : MethodName := ⟨RX5, "wayThrough", "(III)I"⟩
abbrev cX5_homeChosenBy : ByteArray := prog_1_method_56_code
def yX5_homeChosenBy : MethodName := ⟨RX5, "homeChosenBy", "(I)I"⟩
abbrev cX5_firstHome : ByteArray := prog_1_method_57_code
def yX5_firstHome : MethodName := ⟨RX5, "firstHome", "(II)I"⟩
abbrev cX5_fitsSounds : ByteArray := prog_1_method_58_code
def yX5_fitsSounds : MethodName := ⟨RX5, "fitsSounds", "(I)Z"⟩
abbrev cX5_goerKinds : ByteArray := prog_1_method_59_code
def yX5_goerKinds : MethodName := ⟨RX5, "goerKinds", "(I)I"⟩
abbrev cX5_fitsNotes : ByteArray := prog_1_method_60_code
def yX5_fitsNotes : MethodName := ⟨RX5, "fitsNotes", "(II)Z"⟩
abbrev cX5_mostAlike : ByteArray := prog_1_method_61_code
def yX5_mostAlike : MethodName := ⟨RX5, "mostAlike", "(III)I"⟩
abbrev cX5_windowKinds : ByteArray := prog_1_method_62_code
def yX5_windowKinds : MethodName := ⟨RX5, "windowKinds", "(I)I"⟩
abbrev cX5_fitsMarks : ByteArray := prog_1_method_63_code
def yX5_fitsMarks : MethodName := ⟨RX5, "fitsMarks", "(II)Z"⟩
abbrev cX5_greaterPart : ByteArray := prog_1_method_64_code
def yX5_greaterPart : MethodName := ⟨RX5, "greaterPart", "(III)I"⟩
abbrev cX5_fillMet : ByteArray := prog_1_method_65_code
def yX5_fillMet : MethodName := ⟨RX5, "fillMet", "(II)V"⟩
abbrev cX5_gainOfA : ByteArray := prog_1_method_66_code
def yX5_gainOfA : MethodName := ⟨RX5, "gainOfA", "(II)I"⟩
abbrev cX5_gainOfB : ByteArray := prog_1_method_67_code
def yX5_gainOfB : MethodName := ⟨RX5, "gainOfB", "(II)I"⟩
abbrev cX5_rests : ByteArray := prog_1_method_68_code
def yX5_rests : MethodName := ⟨RX5, "rests", "(II)Z"⟩
abbrev cX5_power : ByteArray := prog_1_method_69_code
def yX5_power : MethodName := ⟨RX5, "power", "(JI)J"⟩
abbrev cX5_commonDivisor : ByteArray := prog_1_method_70_code
def yX5_commonDivisor : MethodName := ⟨RX5, "commonDivisor", "(JJ)J"⟩
abbrev cX5_floorOf : ByteArray := prog_1_method_71_code
def yX5_floorOf : MethodName := ⟨RX5, "floorOf", "(I)I"⟩
abbrev cX5_apart : ByteArray := prog_1_method_72_code
def yX5_apart : MethodName := ⟨RX5, "apart", "(II)I"⟩
abbrev cX5_loudness : ByteArray := prog_1_method_73_code
def yX5_loudness : MethodName := ⟨RX5, "loudness", "(III)I"⟩
abbrev cX5_slipper : ByteArray := prog_1_method_74_code
def yX5_slipper : MethodName := ⟨RX5, "slipper", "(I)I"⟩
abbrev cX5_boot : ByteArray := prog_1_method_75_code
def yX5_boot : MethodName := ⟨RX5, "boot", "(I)I"⟩
abbrev cX5_hearing : ByteArray := prog_1_method_76_code
def yX5_hearing : MethodName := ⟨RX5, "hearing", "(III)I"⟩
abbrev cX5_light : ByteArray := prog_1_method_77_code
def yX5_light : MethodName := ⟨RX5, "light", "(II)I"⟩
abbrev cX5_deaf : ByteArray := prog_1_method_78_code
def yX5_deaf : MethodName := ⟨RX5, "deaf", "(II)I"⟩
def RX6 : String := "IronStairsModel"
def TX6 : u_T := fun k => match k with
  | 0 => ("IronStairsModel", "w", "[I", true)
  | 1 => ("IronStairsModel", "isKept", "[Z", true)
  | 2 => ("IronStairsModel", "text", "[I", true)
  | 3 => ("IronStairsModel", "texted", "I", false)
  | 4 => ("IronStairsModel", "above", "J", false)
  | 5 => ("IronStairsModel", "below", "J", false)
  | 6 => ("IronStairsModel", "statuses", "[I", true)
  | 7 => ("IronStairsModel", "at", "I", false)
  | 8 => ("IronStairsModel", "start", "I", false)
  | 9 => ("IronStairsModel", "number", "I", false)
  | 10 => ("IronStairsModel", "away", "[I", true)
  | 11 => ("IronStairsModel", "queue", "[I", true)
  | 12 => ("IronStairsModel", "nexts", "[I", true)
  | 13 => ("IronStairsModel", "one", "[I", true)
  | 14 => ("IronStairsModel", "two", "[I", true)
  | 15 => ("IronStairsModel", "most", "I", false)
  | 16 => ("IronStairsModel", "homes", "[I", true)
  | 17 => ("IronStairsModel", "door", "[I", true)
  | 18 => ("IronStairsModel", "bestDoor", "[I", true)
  | 19 => ("IronStairsModel", "sixOf", "[I", true)
  | _ => ("IronStairsModel", "h", "J", false)
def tyX6 : Nat → FieldType := fun k => match k with
  | 0 => .array .int
  | 1 => .array .boolean
  | 2 => .array .int
  | 3 => .int
  | 4 => .long
  | 5 => .long
  | 6 => .array .int
  | 7 => .int
  | 8 => .int
  | 9 => .int
  | 10 => .array .int
  | 11 => .array .int
  | 12 => .array .int
  | 13 => .array .int
  | 14 => .array .int
  | 15 => .int
  | 16 => .array .int
  | 17 => .array .int
  | 18 => .array .int
  | 19 => .array .int
  | _ => .long
theorem nmX6 : ∀ a, a < 21 → ∀ b, b < 21 → a ≠ b → (TX6 a).2.1 ≠ (TX6 b).2.1 := by decide +kernel
theorem tyX6_ok : ∀ k, k < 21 → parseFieldDescriptor (TX6 k).2.2.1 = some (tyX6 k) := by decide +kernel
abbrev cX6_init : ByteArray := prog_8_method_1_code
def yX6_init : MethodName := ⟨RX6, "<init>", "()V"⟩
abbrev cX6_in : ByteArray := prog_8_method_3_code
def yX6_in : MethodName := ⟨RX6, "in", "(JJJ)Z"⟩
abbrev cX6_has : ByteArray := prog_8_method_4_code
def yX6_has : MethodName := ⟨RX6, "has", "(II)Z"⟩
abbrev cX6_ones : ByteArray := prog_8_method_5_code
def yX6_ones : MethodName := ⟨RX6, "ones", "(I)I"⟩
abbrev cX6_bad : ByteArray := prog_8_method_6_code
def yX6_bad : MethodName := ⟨RX6, "bad", "(I)I"⟩
abbrev cX6_no : ByteArray := prog_8_method_7_code
def yX6_no : MethodName := ⟨RX6, "no", "()I"⟩
abbrev cX6_full : ByteArray := prog_8_method_8_code
def yX6_full : MethodName := ⟨RX6, "full", "()I"⟩
abbrev cX6_copy : ByteArray := prog_8_method_9_code
def yX6_copy : MethodName := ⟨RX6, "copy", "(II)V"⟩
abbrev cX6_empties : ByteArray := prog_8_method_10_code
def yX6_empties : MethodName := ⟨RX6, "empties", "(I)V"⟩
abbrev cX6_isGoer : ByteArray := prog_8_method_11_code
def yX6_isGoer : MethodName := ⟨RX6, "isGoer", "(I)Z"⟩
abbrev cX6_isWindow : ByteArray := prog_8_method_12_code
def yX6_isWindow : MethodName := ⟨RX6, "isWindow", "(I)Z"⟩
abbrev cX6_isLadder : ByteArray := prog_8_method_13_code
def yX6_isLadder : MethodName := ⟨RX6, "isLadder", "(I)Z"⟩
abbrev cX6_isCell : ByteArray := prog_8_method_14_code
def yX6_isCell : MethodName := ⟨RX6, "isCell", "(I)Z"⟩
abbrev cX6_slipper : ByteArray := prog_8_method_15_code
def yX6_slipper : MethodName := ⟨RX6, "slipper", "(I)I"⟩
abbrev cX6_boot : ByteArray := prog_8_method_16_code
def yX6_boot : MethodName := ⟨RX6, "boot", "(I)I"⟩
abbrev cX6_loudOf : ByteArray := prog_8_method_17_code
def yX6_loudOf : MethodName := ⟨RX6, "loudOf", "(III)I"⟩
abbrev cX6_light : ByteArray := prog_8_method_18_code
def yX6_light : MethodName := ⟨RX6, "light", "(II)I"⟩
abbrev cX6_deaf : ByteArray := prog_8_method_19_code
def yX6_deaf : MethodName := ⟨RX6, "deaf", "(II)I"⟩
abbrev cX6_heardOf : ByteArray := prog_8_method_20_code
def yX6_heardOf : MethodName := ⟨RX6, "heardOf", "(III)I"⟩
abbrev cX6_back : ByteArray := prog_8_method_21_code
def yX6_back : MethodName := ⟨RX6, "back", "()I"⟩
abbrev cX6_hasLadder : ByteArray := prog_8_method_22_code
def yX6_hasLadder : MethodName := ⟨RX6, "hasLadder", "(II)Z"⟩
abbrev cX6_addsLadder : ByteArray := prog_8_method_23_code
def yX6_addsLadder : MethodName := ⟨RX6, "addsLadder", "(II)V"⟩
abbrev cX6_ladder : ByteArray := prog_8_method_24_code
def yX6_ladder : MethodName := ⟨RX6, "ladder", "(I)I"⟩
abbrev cX6_addsGoer : ByteArray := prog_8_method_25_code
def yX6_addsGoer : MethodName := ⟨RX6, "addsGoer", "(IIII)V"⟩
abbrev cX6_goer : ByteArray := prog_8_method_26_code
def yX6_goer : MethodName := ⟨RX6, "goer", "(III)I"⟩
abbrev cX6_addsWindow : ByteArray := prog_8_method_27_code
def yX6_addsWindow : MethodName := ⟨RX6, "addsWindow", "(III)V"⟩
abbrev cX6_window : ByteArray := prog_8_method_28_code
def yX6_window : MethodName := ⟨RX6, "window", "(II)I"⟩
abbrev cX6_type : ByteArray := prog_8_method_29_code
def yX6_type : MethodName := ⟨RX6, "type", "(I)I"⟩
abbrev cX6_clear : ByteArray := prog_8_method_30_code
def yX6_clear : MethodName := ⟨RX6, "clear", "()I"⟩
abbrev cX6_byteAt : ByteArray := prog_8_method_31_code
def yX6_byteAt : MethodName := ⟨RX6, "byteAt", "(I)I"⟩
abbrev cX6_blanks : ByteArray := prog_8_method_32_code
def yX6_blanks : MethodName := ⟨RX6, "blanks", "()V"⟩
abbrev cX6_takesWord : ByteArray := prog_8_method_33_code
def yX6_takesWord : MethodName := ⟨RX6, "takesWord", "()V"⟩
abbrev cX6_isWord : ByteArray := prog_8_method_34_code
def yX6_isWord : MethodName := ⟨RX6, "isWord", "(IIIIIII)Z"⟩
abbrev cX6_isLetter : ByteArray := prog_8_method_35_code
def yX6_isLetter : MethodName := ⟨RX6, "isLetter", "(III)Z"⟩
abbrev cX6_wordOf : ByteArray := prog_8_method_36_code
def yX6_wordOf : MethodName := ⟨RX6, "wordOf", "()I"⟩
abbrev cX6_takesNumber : ByteArray := prog_8_method_37_code
def yX6_takesNumber : MethodName := ⟨RX6, "takesNumber", "(II)Z"⟩
abbrev cX6_takesEnd : ByteArray := prog_8_method_38_code
def yX6_takesEnd : MethodName := ⟨RX6, "takesEnd", "()Z"⟩
abbrev cX6_readsLadder : ByteArray := prog_8_method_39_code
def yX6_readsLadder : MethodName := ⟨RX6, "readsLadder", "()Z"⟩
abbrev cX6_readsGoer : ByteArray := prog_8_method_40_code
def yX6_readsGoer : MethodName := ⟨RX6, "readsGoer", "()Z"⟩
abbrev cX6_readsWindow : ByteArray := prog_8_method_41_code
def yX6_readsWindow : MethodName := ⟨RX6, "readsWindow", "()Z"⟩
abbrev cX6_readsTurn : ByteArray := prog_8_method_42_code
def yX6_readsTurn : MethodName := ⟨RX6, "readsTurn", "()Z"⟩
abbrev cX6_readsDraw : ByteArray := prog_8_method_43_code
def yX6_readsDraw : MethodName := ⟨RX6, "readsDraw", "()Z"⟩
abbrev cX6_readsMinutes : ByteArray := prog_8_method_44_code
def yX6_readsMinutes : MethodName := ⟨RX6, "readsMinutes", "()Z"⟩
abbrev cX6_readsItem : ByteArray := prog_8_method_45_code
def yX6_readsItem : MethodName := ⟨RX6, "readsItem", "(Z)Z"⟩
abbrev cX6_read : ByteArray := prog_8_method_46_code
def yX6_read : MethodName := ⟨RX6, "read", "()I"⟩
abbrev cX6_isLadderDown : ByteArray := prog_8_method_47_code
def yX6_isLadderDown : MethodName := ⟨RX6, "isLadderDown", "(II)Z"⟩
abbrev cX6_leads : ByteArray := prog_8_method_48_code
def yX6_leads : MethodName := ⟨RX6, "leads", "(III)Z"⟩
abbrev cX6_laysAway : ByteArray := prog_8_method_49_code
def yX6_laysAway : MethodName := ⟨RX6, "laysAway", "(II)V"⟩
abbrev cX6_goalOf : ByteArray := prog_8_method_50_code
def yX6_goalOf : MethodName := ⟨RX6, "goalOf", "(II)I"⟩
abbrev cX6_nextOf : ByteArray := prog_8_method_51_code
def yX6_nextOf : MethodName := ⟨RX6, "nextOf", "(II)I"⟩
abbrev cX6_passes : ByteArray := prog_8_method_52_code
def yX6_passes : MethodName := ⟨RX6, "passes", "(I)I"⟩
abbrev cX6_minds : ByteArray := prog_8_method_53_code
def yX6_minds : MethodName := ⟨RX6, "minds", "()V"⟩
abbrev cX6_minutes : ByteArray := prog_8_method_54_code
def yX6_minutes : MethodName := ⟨RX6, "minutes", "(I)I"⟩
abbrev cX6_turns : ByteArray := prog_8_method_55_code
def yX6_turns : MethodName := ⟨RX6, "turns", "(I)I"⟩
abbrev cX6_draws : ByteArray := prog_8_method_56_code
def yX6_draws : MethodName := ⟨RX6, "draws", "(I)I"⟩
abbrev cX6_undo : ByteArray := prog_8_method_57_code
def yX6_undo : MethodName := ⟨RX6, "undo", "()I"⟩
abbrev cX6_loudIn : ByteArray := prog_8_method_58_code
def yX6_loudIn : MethodName := ⟨RX6, "loudIn", "(II)I"⟩
abbrev cX6_of : ByteArray := prog_8_method_59_code
def yX6_of : MethodName := ⟨RX6, "of", "(II)I"⟩
abbrev cX6_size : ByteArray := prog_8_method_60_code
def yX6_size : MethodName := ⟨RX6, "size", "(I)I"⟩
abbrev cX6_apart : ByteArray := prog_8_method_61_code
def yX6_apart : MethodName := ⟨RX6, "apart", "(II)I"⟩
abbrev cX6_hearsIn : ByteArray := prog_8_method_62_code
def yX6_hearsIn : MethodName := ⟨RX6, "hearsIn", "(III)Z"⟩
abbrev cX6_heardBy : ByteArray := prog_8_method_63_code
def yX6_heardBy : MethodName := ⟨RX6, "heardBy", "(II)I"⟩
abbrev cX6_about : ByteArray := prog_8_method_64_code
def yX6_about : MethodName := ⟨RX6, "about", "(II)I"⟩
abbrev cX6_rungs : ByteArray := prog_8_method_65_code
def yX6_rungs : MethodName := ⟨RX6, "rungs", "(II)I"⟩
abbrev cX6_far : ByteArray := prog_8_method_66_code
def yX6_far : MethodName := ⟨RX6, "far", "(II)I"⟩
abbrev cX6_tries : ByteArray := prog_8_method_67_code
def yX6_tries : MethodName := ⟨RX6, "tries", "()V"⟩
abbrev cX6_where : ByteArray := prog_8_method_68_code
def yX6_where : MethodName := ⟨RX6, "where", "(II)I"⟩
abbrev cX6_laysTwo : ByteArray := prog_8_method_69_code
def yX6_laysTwo : MethodName := ⟨RX6, "laysTwo", "(II)V"⟩
abbrev cX6_meetBy : ByteArray := prog_8_method_70_code
def yX6_meetBy : MethodName := ⟨RX6, "meetBy", "(III)I"⟩
abbrev cX6_meet : ByteArray := prog_8_method_71_code
def yX6_meet : MethodName := ⟨RX6, "meet", "(II)I"⟩
abbrev cX6_waits : ByteArray := prog_8_method_72_code
def yX6_waits : MethodName := ⟨RX6, "waits", "(III)I"⟩
abbrev cX6_lostOnes : ByteArray := prog_8_method_73_code
def yX6_lostOnes : MethodName := ⟨RX6, "lostOnes", "(I)I"⟩
abbrev cX6_down : ByteArray := prog_8_method_74_code
def yX6_down : MethodName := ⟨RX6, "down", "(I)I"⟩
abbrev cX6_cut : ByteArray := prog_8_method_75_code
def yX6_cut : MethodName := ⟨RX6, "cut", "(I)I"⟩
abbrev cX6_bestDoors : ByteArray := prog_8_method_76_code
def yX6_bestDoors : MethodName := ⟨RX6, "bestDoors", "()I"⟩
abbrev cX6_doors : ByteArray := prog_8_method_77_code
def yX6_doors : MethodName := ⟨RX6, "doors", "(I)I"⟩
abbrev cX6_sound : ByteArray := prog_8_method_78_code
def yX6_sound : MethodName := ⟨RX6, "sound", "(III)I"⟩
abbrev cX6_who : ByteArray := prog_8_method_79_code
def yX6_who : MethodName := ⟨RX6, "who", "()I"⟩
abbrev cX6_note : ByteArray := prog_8_method_80_code
def yX6_note : MethodName := ⟨RX6, "note", "(IIII)I"⟩
abbrev cX6_mark : ByteArray := prog_8_method_81_code
def yX6_mark : MethodName := ⟨RX6, "mark", "(IIII)I"⟩
abbrev cX6_forget : ByteArray := prog_8_method_82_code
def yX6_forget : MethodName := ⟨RX6, "forget", "(I)I"⟩
abbrev cX6_kindsOf : ByteArray := prog_8_method_83_code
def yX6_kindsOf : MethodName := ⟨RX6, "kindsOf", "(I)I"⟩
abbrev cX6_is : ByteArray := prog_8_method_84_code
def yX6_is : MethodName := ⟨RX6, "is", "(I)I"⟩
abbrev cX6_greatest : ByteArray := prog_8_method_85_code
def yX6_greatest : MethodName := ⟨RX6, "greatest", "(I)I"⟩
abbrev cX6_look : ByteArray := prog_8_method_86_code
def yX6_look : MethodName := ⟨RX6, "look", "(I)I"⟩
abbrev cX6_isHeard : ByteArray := prog_8_method_87_code
def yX6_isHeard : MethodName := ⟨RX6, "isHeard", "(III)I"⟩
abbrev cX6_windowsOf : ByteArray := prog_8_method_88_code
def yX6_windowsOf : MethodName := ⟨RX6, "windowsOf", "(I)I"⟩
abbrev cX6_kinds : ByteArray := prog_8_method_89_code
def yX6_kinds : MethodName := ⟨RX6, "kinds", "(I)I"⟩
abbrev cX6_ask : ByteArray := prog_8_method_90_code
def yX6_ask : MethodName := ⟨RX6, "ask", "(I)I"⟩
abbrev cX6_getsBy : ByteArray := prog_8_method_91_code
def yX6_getsBy : MethodName := ⟨RX6, "getsBy", "(IIZ)I"⟩
abbrev cX6_rests : ByteArray := prog_8_method_92_code
def yX6_rests : MethodName := ⟨RX6, "rests", "(II)Z"⟩
abbrev cX6_shy : ByteArray := prog_8_method_93_code
def yX6_shy : MethodName := ⟨RX6, "shy", "(III)I"⟩
abbrev cX6_odds : ByteArray := prog_8_method_94_code
def yX6_odds : MethodName := ⟨RX6, "odds", "(III)I"⟩
abbrev cX6_nights : ByteArray := prog_8_method_95_code
def yX6_nights : MethodName := ⟨RX6, "nights", "(II)I"⟩
abbrev cX6_part : ByteArray := prog_8_method_96_code
def yX6_part : MethodName := ⟨RX6, "part", "(I)J"⟩
abbrev cX6_image : ByteArray := prog_8_method_97_code
def yX6_image : MethodName := ⟨RX6, "image", "(I)I"⟩
abbrev cX6_from : ByteArray := prog_8_method_98_code
def yX6_from : MethodName := ⟨RX6, "from", "(I)I"⟩
abbrev cX6_status : ByteArray := prog_8_method_99_code
def yX6_status : MethodName := ⟨RX6, "status", "(I)I"⟩
abbrev cX6_thereOnes : ByteArray := prog_8_method_100_code
def yX6_thereOnes : MethodName := ⟨RX6, "thereOnes", "()I"⟩
abbrev cX6_countOf : ByteArray := prog_8_method_101_code
def yX6_countOf : MethodName := ⟨RX6, "countOf", "(I)I"⟩
abbrev cX6_count : ByteArray := prog_8_method_102_code
def yX6_count : MethodName := ⟨RX6, "count", "(I)I"⟩
abbrev cX6_mix : ByteArray := prog_8_method_103_code
def yX6_mix : MethodName := ⟨RX6, "mix", "(J)V"⟩
abbrev cX6_digest : ByteArray := prog_8_method_104_code
def yX6_digest : MethodName := ⟨RX6, "digest", "()J"⟩
def RJ6 : String := "java/lang/Integer"
def TJ6 : u_T := fun k => match k with
  | _ => ("", "", "", false)
def tyJ6 : Nat → FieldType := fun k => match k with
  | _ => .int
theorem nmJ6 : ∀ a, a < 0 → ∀ b, b < 0 → a ≠ b → (TJ6 a).2.1 ≠ (TJ6 b).2.1 := by decide +kernel
theorem tyJ6_ok : ∀ k, k < 0 → parseFieldDescriptor (TJ6 k).2.2.1 = some (tyJ6 k) := by decide +kernel
abbrev cJ6_bitCount_0f7a4 : ByteArray := prog_9_method_49_code
def yJ6_bitCount_0f7a4 : MethodName := ⟨RJ6, "bitCount", "(I)I"⟩
def RJ9 : String := "java/lang/Math"
def TJ9 : u_T := fun k => match k with
  | _ => ("", "", "", false)
def tyJ9 : Nat → FieldType := fun k => match k with
  | _ => .int
theorem nmJ9 : ∀ a, a < 0 → ∀ b, b < 0 → a ≠ b → (TJ9 a).2.1 ≠ (TJ9 b).2.1 := by decide +kernel
theorem tyJ9_ok : ∀ k, k < 0 → parseFieldDescriptor (TJ9 k).2.2.1 = some (tyJ9 k) := by decide +kernel
abbrev cJ9_abs_0f7a4 : ByteArray := prog_10_method_59_code
def yJ9_abs_0f7a4 : MethodName := ⟨RJ9, "abs", "(I)I"⟩
abbrev cJ9_max_7cf53 : ByteArray := prog_10_method_65_code
def yJ9_max_7cf53 : MethodName := ⟨RJ9, "max", "(II)I"⟩
abbrev cJ9_max_f86c9 : ByteArray := prog_10_method_66_code
def yJ9_max_f86c9 : MethodName := ⟨RJ9, "max", "(JJ)J"⟩
abbrev cJ9_min_7cf53 : ByteArray := prog_10_method_69_code
def yJ9_min_7cf53 : MethodName := ⟨RJ9, "min", "(II)I"⟩
def RJ0 : String := "java/lang/String"
def TJ0 : u_T := fun k => match k with
  | _ => ("", "", "", false)
def tyJ0 : Nat → FieldType := fun k => match k with
  | _ => .int
theorem nmJ0 : ∀ a, a < 0 → ∀ b, b < 0 → a ≠ b → (TJ0 a).2.1 ≠ (TJ0 b).2.1 := by decide +kernel
theorem tyJ0_ok : ∀ k, k < 0 → parseFieldDescriptor (TJ0 k).2.2.1 = some (tyJ0 k) := by decide +kernel
abbrev cJ0_length_8abf5 : ByteArray := prog_11_method_54_code
def yJ0_length_8abf5 : MethodName := ⟨RJ0, "length", "()I"⟩
abbrev cJ0_charAt_5068e : ByteArray := prog_11_method_56_code
def yJ0_charAt_5068e : MethodName := ⟨RJ0, "charAt", "(I)C"⟩
abbrev cJ0_coder_7d493 : ByteArray := prog_11_method_152_code
def yJ0_coder_7d493 : MethodName := ⟨RJ0, "coder", "()B"⟩
abbrev cJ0_isLatin1_aae02 : ByteArray := prog_11_method_154_code
def yJ0_isLatin1_aae02 : MethodName := ⟨RJ0, "isLatin1", "()Z"⟩
abbrev cJ0_checkIndex_df160 : ByteArray := prog_11_method_155_code
def yJ0_checkIndex_df160 : MethodName := ⟨RJ0, "checkIndex", "(II)V"⟩
def RJ1 : String := "java/lang/StringLatin1"
def TJ1 : u_T := fun k => match k with
  | _ => ("", "", "", false)
def tyJ1 : Nat → FieldType := fun k => match k with
  | _ => .int
theorem nmJ1 : ∀ a, a < 0 → ∀ b, b < 0 → a ≠ b → (TJ1 a).2.1 ≠ (TJ1 b).2.1 := by decide +kernel
theorem tyJ1_ok : ∀ k, k < 0 → parseFieldDescriptor (TJ1 k).2.2.1 = some (tyJ1 k) := by decide +kernel
abbrev cJ1_charAt_3b067 : ByteArray := prog_12_method_2_code
def yJ1_charAt_3b067 : MethodName := ⟨RJ1, "charAt", "([BI)C"⟩
def RJ2 : String := "java/lang/StringUTF16"
def TJ2 : u_T := fun k => match k with
  | _ => ("", "", "", false)
def tyJ2 : Nat → FieldType := fun k => match k with
  | _ => .int
theorem nmJ2 : ∀ a, a < 0 → ∀ b, b < 0 → a ≠ b → (TJ2 a).2.1 ≠ (TJ2 b).2.1 := by decide +kernel
theorem tyJ2_ok : ∀ k, k < 0 → parseFieldDescriptor (TJ2 k).2.2.1 = some (tyJ2 k) := by decide +kernel
abbrev cJ2_getChar_3b067 : ByteArray := prog_13_method_5_code
def yJ2_getChar_3b067 : MethodName := ⟨RJ2, "getChar", "([BI)C"⟩
abbrev cJ2_length_9d52b : ByteArray := prog_13_method_6_code
def yJ2_length_9d52b : MethodName := ⟨RJ2, "length", "([B)I"⟩
abbrev cJ2_charAt_3b067 : ByteArray := prog_13_method_83_code
def yJ2_charAt_3b067 : MethodName := ⟨RJ2, "charAt", "([BI)C"⟩
abbrev cJ2_checkIndex_2214a : ByteArray := prog_13_method_91_code
def yJ2_checkIndex_2214a : MethodName := ⟨RJ2, "checkIndex", "(I[B)V"⟩
def RJ10 : String := "java/lang/System"
def TJ10 : u_T := fun k => match k with
  | _ => ("", "", "", false)
def tyJ10 : Nat → FieldType := fun k => match k with
  | _ => .int
theorem nmJ10 : ∀ a, a < 0 → ∀ b, b < 0 → a ≠ b → (TJ10 a).2.1 ≠ (TJ10 b).2.1 := by decide +kernel
theorem tyJ10_ok : ∀ k, k < 0 → parseFieldDescriptor (TJ10 k).2.2.1 = some (tyJ10 k) := by decide +kernel
def RJ3 : String := "jdk/internal/util/Preconditions"
def TJ3 : u_T := fun k => match k with
  | _ => ("", "", "", false)
def tyJ3 : Nat → FieldType := fun k => match k with
  | _ => .int
theorem nmJ3 : ∀ a, a < 0 → ∀ b, b < 0 → a ≠ b → (TJ3 a).2.1 ≠ (TJ3 b).2.1 := by decide +kernel
theorem tyJ3_ok : ∀ k, k < 0 → parseFieldDescriptor (TJ3 k).2.2.1 = some (tyJ3 k) := by decide +kernel
abbrev cJ3_checkIndex_8e157 : ByteArray := prog_15_method_11_code
def yJ3_checkIndex_8e157 : MethodName := ⟨RJ3, "checkIndex", "(IILjava/util/function/BiFunction;)I"⟩
def RL : String := "IronStairsLaw"
abbrev cL_law : ByteArray := code
def yL_law : MethodName := ⟨RL, "law", "([I)Z"⟩
abbrev clsL : List vw_C := [(RX0, TX0, 9), (RX1, TX1, 6), (RX2, TX2, 1), (RX3, TX3, 4), (RX4, TX4, 4), (RX5, TX5, 15), (RX6, TX6, 21)]
end
section
/-! ===== 02: the calculus: abstract values, memories, a judgement on frames, a row an instruction ===== -/
abbrev AV : Type := Int ⊕ (Int ⊕ (Nat ⊕ (Nat ⊕ Nat)))
/-- int, long, the k-th object, the k-th text, and: 0 unset, 1 second half, 2 the script, 3 null, 4+k the bytes of text k -/
def zi (x : Int) : AV := .inl x
def zl (x : Int) : AV := .inr (.inl x)
def zr (k : Nat) : AV := .inr (.inr (.inl k))
def zs (k : Nat) : AV := .inr (.inr (.inr (.inl k)))
def zm (k : Nat) : AV := .inr (.inr (.inr (.inr k)))
/-- a field's kind: a reference to the t-th object; 0 int, 1 boolean, 2 long, 3 null -/
abbrev Kd : Type := Nat ⊕ Nat
/-- an object's shape: class and kinds of fields; or an array (of booleans?) and its length -/
abbrev Sh : Type := (Nat × List Kd) ⊕ (Bool × Nat)
/-- how many objects, slots; their shapes -/
abbrev Gm : Type := Nat × Nat × (Nat → Sh)
abbrev Mem : Type := Nat → Int → Int
abbrev WP : Type := List AV → List AV → Gm → Mem → Prop
/-- a method: name, bytes, locals, what it returns, frames and locals' room that it needs -/
abbrev MI : Type := MethodName × ByteArray × Nat × Option FieldType × Nat × Nat
abbrev mY (M : MI) : MethodName := M.1
abbrev mC (M : MI) : ByteArray := M.2.1
abbrev mN (M : MI) : Nat := M.2.2.1
abbrev mR (M : MI) : Option FieldType := M.2.2.2.1
abbrev mF (M : MI) : Nat := M.2.2.2.2.1
abbrev mL (M : MI) : Nat := M.2.2.2.2.2
/-- a run's bounds of objects and slots; its script; what holds at its end -/
abbrev En : Type := (Nat × Nat) × (Nat × (Nat → Int)) × (Int → Gm → Mem → Prop)
/-- where the machine has it all: classes and slots, two array classes, the first new address, texts and their bytes -/
abbrev Xe : Type := va_G × ClassId × ClassId × Nat × (Nat → Nat) × (Nat → Nat)
def zsl : List Nat := [4, 6, 4, 6, 4, 4, 7]
def zsb : List (List Int32) := [[98, 97, 99, 107], [108, 97, 100, 100, 101, 114], [103, 111, 101, 114], [119, 105, 110, 100, 111, 119], [116, 117, 114, 110], [100, 114, 97, 119], [109, 105, 110, 117, 116, 101, 115]]
def zsx (k : Nat) : Nat := [39, 59, 64, 69, 74, 79, 84].getD k 0
def zst (k : Nat) : String := ["back", "ladder", "goer", "window", "turn", "draw", "minutes"].getD k ""
def zR (x : Int) : Prop := -2147483648 ≤ x ∧ x ≤ 2147483647
def zR6 (x : Int) : Prop := -9223372036854775808 ≤ x ∧ x ≤ 9223372036854775807
def z_ok : AV → Prop
  | .inl x => zR x
  | .inr (.inl x) => zR6 x
  | .inr (.inr (.inr (.inl k))) => k < 7
  | _ => True
def z_oks (l : List AV) : Prop := ∀ v ∈ l, z_ok v
theorem z_oks_c {v : AV} {l : List AV} (h : z_ok v) (hl : z_oks l) : z_oks (v :: l) := fun w hw => (List.mem_cons.mp hw).elim (fun e => e ▸ h) (hl w)
theorem z_oks_t {v : AV} {l : List AV} (h : z_oks (v :: l)) : z_oks l := fun w hw => h w (List.mem_cons_of_mem _ hw)
theorem z_oks_h {v : AV} {l : List AV} (h : z_oks (v :: l)) : z_ok v := h v List.mem_cons_self
def z_conc (X : Xe) (b : Nat) : AV → Value
  | .inl x => .int (Int32.ofInt x)
  | .inr (.inl x) => .long (Int64.ofInt x)
  | .inr (.inr (.inl k)) => .ref (X.2.2.2.1 + k)
  | .inr (.inr (.inr (.inl k))) => .ref (X.2.2.2.2.1 k)
  | .inr (.inr (.inr (.inr k))) => if k = 2 then .ref b else if 4 ≤ k then .ref (X.2.2.2.2.2 (k - 4)) else .null
def z_fv (X : Xe) (f : Int → Int) (j : Nat) : Kd → Value
  | .inl t => .ref (X.2.2.2.1 + t)
  | .inr k => if k = 2 then .long (Int64.ofInt (f j)) else if k = 3 then .null else .int (Int32.ofInt (f j))
def z_ent (X : Xe) (sh : Sh) (f : Int → Int) : va_E := match sh with
  | .inl (ci, ks) => .inr (ci, ks.mapIdx (fun j kd => z_fv X f j kd))
  | .inr (bz, n) => .inl ((if bz = true then X.2.2.1 else X.2.1), n, .inl (fun j => Int32.ofInt (f j)))
def z_ws (X : Xe) (g : Gm) (D : Mem) : va_W := (List.range g.1).map fun k => (X.2.2.2.1 + k, z_ent X (g.2.2 k) (D k))
/-- numbers in their ranges -/
def z_in (g : Gm) (D : Mem) : Prop := ∀ k, k < g.1 → match g.2.2 k with
  | .inl (_, ks) => ∀ (j : Nat), (ks[j]? = some (.inr 0) → zR (D k j)) ∧ (ks[j]? = some (.inr 1) → D k j = 0 ∨ D k j = 1) ∧ (ks[j]? = some (.inr 2) → zR6 (D k j))
  | .inr (bz, n) => ∀ j : Nat, j < n → zR (D k j) ∧ (bz = true → D k j = 0 ∨ D k j = 1)
abbrev z_A (X : Xe) : Nat → Prop := fun q => X.2.2.2.1 ≤ q
/-- links between nest mates -/
def z_nst : List (String × Nat × MethodName × String) := [(RX5, 9, yX0_init, RX5), (RX0, 40, yX4_init, RX5), (RX5, 27, yX1_init, RX5), (RX0, 108, yX5_floorOf, RX5), (RX0, 111, yX5_loudness, RX5), (RX0, 115, yX5_apart, RX5), (RX0, 118, yX5_hearing, RX5)]
/-- what a state's tables and the texts are -/
def z_St (X : Xe) (s : State) : Prop := va_K X.1 clsL [(X.2.1, .int), (X.2.2.1, .boolean)] s ∧ vk_S 7 zsl zsb X.2.2.2.2.1 X.2.2.2.2.2 (z_A X) s s.heap ∧ (∀ k, k < 7 → vk_R RX1 (zsx k) (zst k) (X.2.2.2.2.1 k) s) ∧
  va_Z "java/lang/String" "COMPACT_STRINGS" "Z" (.int 1) (z_A X) s s.heap ∧ va_Z "jdk/internal/util/Preconditions" "SIOOBE_FORMATTER" "Ljava/util/function/BiFunction;" (.ref (X.2.2.2.2.2 7)) (z_A X) s s.heap ∧ ∀ q ∈ z_nst, va_Nw (.methodLinkNest q.1 q.2.1 q.2.2.1 q.2.2.2) s
def z_Rel (X : Xe) (g : Gm) (D : Mem) (s : State) (H : Heap) (locs : List Loc) : Prop := va_P X.1 clsL (z_ws X g D) H ∧ va_S (z_A X) s.heap H locs ∧ z_in g D
def z_real (v : AV) : Bool := match v with
  | .inr (.inr (.inr (.inr k))) => decide (2 ≤ k)
  | _ => true
def z_lv (X : Xe) (b : Nat) (arr : Array Slot) (nL : Nat) (ls : List AV) : Prop := arr.size = nL ∧ lv_wf arr ∧ ls.length = nL ∧ ∀ (k : Nat) (v : AV), ls[k]? = some v → z_real v = true → arr[k]? = some (.val (z_conc X b v))
def z_ri : Option FieldType → Instr
  | none => .return_
  | some .long => .lreturn
  | some _ => .ireturn
def z_rs : Option FieldType → Int → List Value
  | none, _ => []
  | some .long, x => [.long (Int64.ofInt x)]
  | some _, x => [.int (Int32.ofInt x)]
def z_rok : Option FieldType → Int → Prop
  | none, x => x = 0
  | some .long, x => zR6 x
  | some ty, x => zR x ∧ narrow ty (.int (Int32.ofInt x)) = .int (Int32.ofInt x)
def z_Cn (E : En) (n0 s0 : Nat) (g : Gm) (cells slots : Nat) : Prop := cells + n0 = g.1 ∧ slots + s0 = g.2.1 ∧ g.1 ≤ E.1.1 ∧ g.2.1 ≤ E.1.2
def z_Run (M : MI) (E : En) (X : Xe) (p : Program) (l : Launch) (e : Env) (R : Room) (s : State) (m : MethodId) (args : Array Value) (below : List Frame) (meth : Method) (c : Code) (Z : State → Prop) (b n0 s0 : Nat) : Prop :=
  p.tables.exec = Jvm.exec ∧ c.code = mC M ∧ c.maxLocals = mN M ∧ s.vm.findClass (mY M).cls = some m.cls ∧ (∀ w ∈ lw_tbl.filter goodWord, w.before args s = true) ∧ z_St X s ∧ (s.heap.size = X.2.2.2.1 + n0 ∧ E.1.1 ≤ n0 + R.cells ∧ E.1.2 ≤ s0 + R.slots) ∧ (mF M ≤ R.frames ∧ mL M ≤ R.locals) ∧ meth.name = (mY M).name ∧
  (E.2.1.1 = 0 ∨ (va_X b (E.2.1.1 - 1) (fun j => Int32.ofInt (E.2.1.2 j)) s s.heap ∧ b < s.heap.size ∧ b < X.2.2.2.1 ∧ E.2.1.1 < 2147483648 ∧ ∀ j, zR (E.2.1.2 j))) ∧
  ∀ (H : Heap) (locs : List Loc) (g : Gm) (D : Mem) (x : Int) (pc cells slots : Nat) (arr : Array Slot), z_Rel X g D s H locs → E.2.2 x g D → g.1 = E.1.1 → g.2.1 = E.1.2 → z_Cn E n0 s0 g cells slots → z_rok (mR M) x → decode (mC M) pc = .ok (z_ri (mR M), 1) → W p l e R s m args below meth c H locs cells slots Z (F0 m pc arr (z_rs (mR M) x))
def z_WF (M : MI) (E : En) (pc : Nat) (ls st : List AV) (g : Gm) (D : Mem) : Prop :=
  ∀ {X : Xe} {p : Program} {l : Launch} {e : Env} {R : Room} {s : State} {m : MethodId} {args : Array Value} {below : List Frame} {meth : Method} {c : Code} {Z : State → Prop} {b : Nat} {H : Heap} {locs : List Loc} {cells slots : Nat} {arr : Array Slot} {n0 s0 : Nat},
    z_Run M E X p l e R s m args below meth c Z b n0 s0 → z_Cn E n0 s0 g cells slots → z_Rel X g D s H locs → z_lv X b arr (mN M) ls → z_oks ls → z_oks st → W p l e R s m args below meth c H locs cells slots Z (F0 m pc arr (st.map (z_conc X b)))
def z_Snd (M : MI) (E : En) (pc : Nat) (K : WP) : Prop := ∀ (ls st : List AV) (g : Gm) (D : Mem), K ls st g D → z_WF M E pc ls st g D
-- locals and stacks
def gL : List AV → Nat → AV
  | [], _ => zm 0
  | a :: _, 0 => a
  | _ :: t, n + 1 => gL t n
def z_kl : AV → AV
  | .inr (.inl _) => zm 0
  | v => v
def sL : List AV → Nat → AV → List AV
  | [], _, _ => []
  | _ :: t, 0, v => v :: t
  | a :: t, 1, v => z_kl a :: sL t 0 v
  | a :: t, n + 2, v => a :: sL t (n + 1) v
theorem kl_i (x : Int) : z_kl (zi x) = zi x := rfl
theorem kl_l (x : Int) : z_kl (zl x) = zm 0 := rfl
theorem kl_r (x : Nat) : z_kl (zr x) = zr x := rfl
theorem kl_s (x : Nat) : z_kl (zs x) = zs x := rfl
theorem kl_m (x : Nat) : z_kl (zm x) = zm x := rfl
def qI (v : AV) (f : Int → Prop) : Prop := match v with
  | .inl x => f x
  | _ => False
def qJ (v : AV) (f : Int → Prop) : Prop := match v with
  | .inr (.inl x) => f x
  | _ => False
def qA (v : AV) : Prop := match v with
  | .inl _ => False
  | .inr (.inl _) => False
  | .inr (.inr (.inr (.inr k))) => 2 ≤ k ∧ k ≠ 3
  | _ => True
def pI (st : List AV) (f : Int → List AV → Prop) : Prop := match st with
  | (.inl x) :: t => f x t
  | _ => False
def pJ (st : List AV) (f : Int → List AV → Prop) : Prop := match st with
  | (.inr (.inl x)) :: t => f x t
  | _ => False
def pA (st : List AV) (f : Nat → List AV → Prop) : Prop := match st with
  | (.inr (.inr (.inl x))) :: t => f x t
  | _ => False
def pS (st : List AV) (f : Nat → List AV → Prop) : Prop := match st with
  | (.inr (.inr (.inr (.inl x)))) :: t => f x t
  | _ => False
def pM (st : List AV) (f : Nat → List AV → Prop) : Prop := match st with
  | (.inr (.inr (.inr (.inr x)))) :: t => f x t
  | _ => False
def pV (st : List AV) (f : AV → List AV → Prop) : Prop := match st with
  | v :: t => f v t
  | _ => False
def z_c1 (v : AV) : Prop := match v with
  | .inr (.inl _) => False
  | _ => True
def cS : List AV → Nat
  | [] => 0
  | .inr (.inl _) :: t => cS t + 2
  | _ :: t => cS t + 1
theorem qI_i (x : Int) (f : Int → Prop) : qI (zi x) f = f x := rfl
theorem qJ_l (x : Int) (f : Int → Prop) : qJ (zl x) f = f x := rfl
theorem qA_r (k : Nat) : qA (zr k) = True := rfl
theorem qA_s (k : Nat) : qA (zs k) = True := rfl
theorem pI_i (x : Int) (t : List AV) (f : Int → List AV → Prop) : pI (zi x :: t) f = f x t := rfl
theorem pJ_l (x : Int) (t : List AV) (f : Int → List AV → Prop) : pJ (zl x :: t) f = f x t := rfl
theorem pA_r (x : Nat) (t : List AV) (f : Nat → List AV → Prop) : pA (zr x :: t) f = f x t := rfl
theorem pS_s (x : Nat) (t : List AV) (f : Nat → List AV → Prop) : pS (zs x :: t) f = f x t := rfl
theorem pM_m (x : Nat) (t : List AV) (f : Nat → List AV → Prop) : pM (zm x :: t) f = f x t := rfl
theorem pV_v (v : AV) (t : List AV) (f : AV → List AV → Prop) : pV (v :: t) f = f v t := rfl
theorem c1_i (x : Int) : z_c1 (zi x) = True := rfl
theorem c1_r (x : Nat) : z_c1 (zr x) = True := rfl
theorem c1_s (x : Nat) : z_c1 (zs x) = True := rfl
theorem c1_m (x : Nat) : z_c1 (zm x) = True := rfl
theorem cS_0 : cS [] = 0 := rfl
theorem cS_i (x : Int) (t : List AV) : cS (zi x :: t) = cS t + 1 := rfl
theorem cS_l (x : Int) (t : List AV) : cS (zl x :: t) = cS t + 2 := rfl
theorem cS_r (x : Nat) (t : List AV) : cS (zr x :: t) = cS t + 1 := rfl
theorem cS_s (x : Nat) (t : List AV) : cS (zs x :: t) = cS t + 1 := rfl
theorem cS_m (x : Nat) (t : List AV) : cS (zm x :: t) = cS t + 1 := rfl
theorem pI_e {st : List AV} {f : Int → List AV → Prop} (h : pI st f) : ∃ x t, st = zi x :: t ∧ f x t := by
  unfold pI at h; split at h
  · exact ⟨_, _, rfl, h⟩
  · exact h.elim
theorem pJ_e {st : List AV} {f : Int → List AV → Prop} (h : pJ st f) : ∃ x t, st = zl x :: t ∧ f x t := by
  unfold pJ at h; split at h
  · exact ⟨_, _, rfl, h⟩
  · exact h.elim
theorem pA_e {st : List AV} {f : Nat → List AV → Prop} (h : pA st f) : ∃ x t, st = zr x :: t ∧ f x t := by
  unfold pA at h; split at h
  · exact ⟨_, _, rfl, h⟩
  · exact h.elim
theorem pS_e {st : List AV} {f : Nat → List AV → Prop} (h : pS st f) : ∃ x t, st = zs x :: t ∧ f x t := by
  unfold pS at h; split at h
  · exact ⟨_, _, rfl, h⟩
  · exact h.elim
theorem pM_e {st : List AV} {f : Nat → List AV → Prop} (h : pM st f) : ∃ x t, st = zm x :: t ∧ f x t := by
  unfold pM at h; split at h
  · exact ⟨_, _, rfl, h⟩
  · exact h.elim
theorem pV_e {st : List AV} {f : AV → List AV → Prop} (h : pV st f) : ∃ x t, st = x :: t ∧ f x t := by
  unfold pV at h; split at h
  · exact ⟨_, _, rfl, h⟩
  · exact h.elim
theorem qI_e {v : AV} {f : Int → Prop} (h : qI v f) : ∃ x, v = zi x ∧ f x := by
  unfold qI at h; split at h
  · exact ⟨_, rfl, h⟩
  · exact h.elim
theorem qJ_e {v : AV} {f : Int → Prop} (h : qJ v f) : ∃ x, v = zl x ∧ f x := by
  unfold qJ at h; split at h
  · exact ⟨_, rfl, h⟩
  · exact h.elim
theorem c1_e {X : Xe} {b : Nat} {v : AV} (h : z_c1 v) : (z_conc X b v).category = 1 := by
  unfold z_c1 at h
  split at h
  · exact h.elim
  · rename_i hv
    rcases v with x | x | x | x | x
    · rfl
    · exact (hv x rfl).elim
    · rfl
    · rfl
    · unfold z_conc
      dsimp only
      split
      · rfl
      · split <;> rfl
theorem cS_e {X : Xe} {b : Nat} : ∀ (st : List AV), ((st.map (z_conc X b)).map fun v => v.category).sum = cS st
  | [] => rfl
  | v :: t => by
    have ih := cS_e (X := X) (b := b) t
    rw [List.map_cons, List.map_cons, List.sum_cons, ih]
    rcases v with x | x | x | x | x
    · show 1 + cS t = cS t + 1
      omega
    · show 2 + cS t = cS t + 2
      omega
    · show 1 + cS t = cS t + 1
      omega
    · show 1 + cS t = cS t + 1
      omega
    · have h1 : (z_conc X b (.inr (.inr (.inr (.inr x))))).category = 1 := c1_e (v := .inr (.inr (.inr (.inr x)))) trivial
      rw [h1]
      show 1 + cS t = cS t + 1
      omega
theorem gL_s : ∀ {ls : List AV} {i : Nat} {v : AV}, gL ls i = v → v ≠ zm 0 → ls[i]? = some v
  | [], _, v, h, hn => (hn h.symm).elim
  | a :: t, 0, v, h, _ => by rw [← h]; rfl
  | a :: t, n + 1, v, h, hn => by
    rw [List.getElem?_cons_succ]
    exact gL_s (ls := t) h hn
theorem gL_ok {ls : List AV} {i : Nat} {v : AV} (h : gL ls i = v) (hn : v ≠ zm 0) (ho : z_oks ls) : z_ok v := ho v (List.mem_of_getElem? (gL_s h hn))
theorem sL_len : ∀ (ls : List AV) (i : Nat) (v : AV), (sL ls i v).length = ls.length
  | [], _, _ => by simp [sL]
  | _ :: t, 0, v => by simp [sL]
  | a :: t, 1, v => by simp [sL, sL_len t 0 v]
  | a :: t, n + 2, v => by simp [sL, sL_len t (n + 1) v]
theorem sL_get : ∀ (ls : List AV) (i : Nat) (v : AV) (k : Nat), (sL ls i v)[k]? = if k = i then (if k < ls.length then some v else none) else if k + 1 = i then (ls[k]?).map z_kl else ls[k]?
  | [], i, v, k => by
    simp [sL]
  | _ :: t, 0, v, k => by
    cases k with
    | zero => simp [sL]
    | succ k => simp [sL]
  | a :: t, 1, v, k => by
    cases k with
    | zero => simp [sL]
    | succ k =>
      have := sL_get t 0 v k
      simp only [sL, List.getElem?_cons_succ, this, List.length_cons]
      by_cases h : k = 0
      · subst h; simp
      · simp [h]
  | a :: t, n + 2, v, k => by
    cases k with
    | zero => simp [sL]
    | succ k =>
      have := sL_get t (n + 1) v k
      simp only [sL, List.getElem?_cons_succ, this, List.length_cons]
      simp only [Nat.add_right_cancel_iff, Nat.add_lt_add_iff_right]
theorem kl_ok {v : AV} (h : z_ok v) : z_ok (z_kl v) := by
  rcases v with x | x | x | x | x
  · exact h
  · trivial
  · exact h
  · exact h
  · exact h
theorem sL_ok {ls : List AV} {i : Nat} {v : AV} (h : z_oks ls) (hv : z_ok v) : z_oks (sL ls i v) := by
  intro w hw
  obtain ⟨k, hk⟩ := List.getElem?_of_mem hw
  rw [sL_get] at hk
  split at hk
  · split at hk
    · cases hk; exact hv
    · cases hk
  · split at hk
    · cases hq : ls[k]? with
      | none => rw [hq] at hk; cases hk
      | some u => rw [hq] at hk; cases hk; exact kl_ok (h u (List.mem_of_getElem? hq))
    · exact h w (List.mem_of_getElem? hk)
/-- the locals that are real, as the kit's rows want them -/
def z_prs (X : Xe) (b : Nat) (ls : List AV) : List (Nat × Value) := (ls.zipIdx.filter (fun q => z_real q.1)).map (fun q => (q.2, z_conc X b q.1))
theorem z_prs_mem {X : Xe} {b : Nat} {ls : List AV} {q : Nat × Value} : q ∈ z_prs X b ls ↔ ∃ v, ls[q.1]? = some v ∧ z_real v = true ∧ q.2 = z_conc X b v := by
  unfold z_prs
  rw [List.mem_map]
  constructor
  · rintro ⟨⟨v, k⟩, hm, rfl⟩
    rw [List.mem_filter] at hm
    exact ⟨v, List.mem_zipIdx_iff_getElem?.mp hm.1, hm.2, rfl⟩
  · rintro ⟨v, h1, h2, h3⟩
    refine ⟨(v, q.1), List.mem_filter.mpr ⟨List.mem_zipIdx_iff_getElem?.mpr h1, h2⟩, ?_⟩
    rw [← h3]
theorem z_lv_has {X : Xe} {b : Nat} {arr : Array Slot} {nL : Nat} {ls : List AV} (h : z_lv X b arr nL ls) : lv_has arr nL (z_prs X b ls) := by
  refine ⟨h.1, h.2.1, fun q hq => ?_⟩
  obtain ⟨v, h1, h2, h3⟩ := z_prs_mem.mp hq
  rw [h3]
  exact h.2.2.2 q.1 v h1 h2
theorem kl_c {v : AV} (h : z_real (z_kl v) = true) : z_kl v = v ∧ z_real v = true ∧ z_c1 v := by
  rcases v with x | x | x | x | x
  · exact ⟨rfl, rfl, trivial⟩
  · exact absurd (show false = true from h) (by decide)
  · exact ⟨rfl, rfl, trivial⟩
  · exact ⟨rfl, rfl, trivial⟩
  · exact ⟨rfl, h, trivial⟩
theorem z_lv_st1 {X : Xe} {b : Nat} {arr arr2 : Array Slot} {nL i : Nat} {ls : List AV} {v : AV} (h : z_lv X b arr nL ls) (hc : z_c1 v)
    (h2 : lv_has arr2 nL ((i, z_conc X b v) :: (z_prs X b ls).filter (fun q => !(q.1 == i) && !(q.1 + 1 == i && q.2.category == 2)))) : z_lv X b arr2 nL (sL ls i v) := by
  refine ⟨h2.1, h2.2.1, by rw [sL_len]; exact h.2.2.1, fun k w hk hr => ?_⟩
  rw [sL_get] at hk
  split at hk
  · rename_i e
    subst e
    split at hk
    · cases hk
      exact h2.2.2 (k, z_conc X b v) List.mem_cons_self
    · cases hk
  · rename_i e
    refine h2.2.2 (k, z_conc X b w) (List.mem_cons_of_mem _ (List.mem_filter.mpr ?_))
    split at hk
    · rename_i e1
      cases hq : ls[k]? with
      | none => rw [hq] at hk; cases hk
      | some u =>
        rw [hq] at hk
        cases hk
        obtain ⟨k1, k2, k3⟩ := kl_c hr
        refine ⟨z_prs_mem.mpr ⟨u, hq, k2, by rw [k1]⟩, ?_⟩
        rw [k1, c1_e k3]
        simp [e]
    · rename_i e1
      exact ⟨z_prs_mem.mpr ⟨w, hk, hr, rfl⟩, by simp [e, e1]⟩
theorem z_lv_st2 {X : Xe} {b : Nat} {arr arr2 : Array Slot} {nL i : Nat} {ls : List AV} {x : Int} (h : z_lv X b arr nL ls)
    (h2 : lv_has arr2 nL ((i, z_conc X b (zl x)) :: (z_prs X b ls).filter (fun q => !(q.1 == i) && (!(q.1 == i + 1) && !(q.1 + 1 == i && q.2.category == 2))))) : z_lv X b arr2 nL (sL (sL ls (i + 1) (zm 1)) i (zl x)) := by
  refine ⟨h2.1, h2.2.1, by rw [sL_len, sL_len]; exact h.2.2.1, fun k w hk hr => ?_⟩
  rw [sL_get, sL_len] at hk
  split at hk
  · rename_i e
    subst e
    split at hk
    · cases hk
      exact h2.2.2 (k, z_conc X b (zl x)) List.mem_cons_self
    · cases hk
  · rename_i e
    refine h2.2.2 (k, z_conc X b w) (List.mem_cons_of_mem _ (List.mem_filter.mpr ?_))
    split at hk
    · rename_i e1
      rw [sL_get, if_neg (by omega), if_neg (by omega)] at hk
      cases hq : ls[k]? with
      | none => rw [hq] at hk; cases hk
      | some u =>
        rw [hq] at hk
        cases hk
        obtain ⟨k1, k2, k3⟩ := kl_c hr
        refine ⟨z_prs_mem.mpr ⟨u, hq, k2, by rw [k1]⟩, ?_⟩
        rw [k1, c1_e k3]
        have e3 : ¬ k = i + 1 := by omega
        simp [e, e3]
    · rename_i e1
      rw [sL_get] at hk
      split at hk
      · rename_i e2
        split at hk
        · cases hk
          exact absurd hr (by decide)
        · cases hk
      · rename_i e2
        rw [if_neg (by omega)] at hk
        exact ⟨z_prs_mem.mpr ⟨w, hk, hr, rfl⟩, by simp [e, e1, e2]⟩
end
section
/-! ===== 03: worlds, contracts, calls ===== -/
def zU (D : Mem) (o : Nat) (k x : Int) : Mem := fun o' k' => if o' = o ∧ k' = k then x else D o' k'
/-- a field of a kind; an array; a reference field and where it leads -/
def z_f (g : Gm) (o ci k kd : Nat) : Prop := o < g.1 ∧ ∃ ks : List Kd, g.2.2 o = .inl (ci, ks) ∧ ks[k]? = some (.inr kd)
def z_fr (g : Gm) (o ci k t : Nat) : Prop := o < g.1 ∧ ∃ ks : List Kd, g.2.2 o = .inl (ci, ks) ∧ ks[k]? = some (.inl t)
def zf (g : Gm) (o k : Nat) : Nat := match g.2.2 o with
  | .inl (_, ks) => (match ks[k]? with
    | some (.inl t) => t
    | _ => 0)
  | _ => 0
def z_a (g : Gm) (a : Nat) (bz : Bool) : Prop := a < g.1 ∧ ∃ n : Nat, n < 2147483648 ∧ g.2.2 a = .inr (bz, n)
def zn (g : Gm) (a : Nat) : Int := match g.2.2 a with
  | .inr (_, n) => (n : Int)
  | _ => 0
def z_o (g : Gm) (o ci : Nat) : Prop := o < g.1 ∧ ∃ ks : List Kd, g.2.2 o = .inl (ci, ks)
theorem z_f_o {g : Gm} {o ci k kd : Nat} (h : z_f g o ci k kd) : z_o g o ci := ⟨h.1, h.2.imp fun _ q => q.1⟩
theorem z_ws_get {X : Xe} {g : Gm} {D : Mem} {o : Nat} (h : o < g.1) : (z_ws X g D)[o]? = some (X.2.2.2.1 + o, z_ent X (g.2.2 o) (D o)) := by
  simp [z_ws, h]
theorem z_ws_obj {X : Xe} {g : Gm} {D : Mem} {o ci : Nat} {ks : List Kd} (h : o < g.1) (hs : g.2.2 o = .inl (ci, ks)) : (z_ws X g D)[o]? = some (X.2.2.2.1 + o, .inr (ci, ks.mapIdx (fun j kd => z_fv X (D o) j kd))) := by
  rw [z_ws_get h, hs]; rfl
theorem z_ws_arr {X : Xe} {g : Gm} {D : Mem} {o n : Nat} {bz : Bool} (h : o < g.1) (hs : g.2.2 o = .inr (bz, n)) : (z_ws X g D)[o]? = some (X.2.2.2.1 + o, .inl ((if bz = true then X.2.2.1 else X.2.1), n, .inl (fun j => Int32.ofInt (D o j)))) := by
  rw [z_ws_get h, hs]; rfl
theorem z_D {X : Xe} {g : Gm} {D : Mem} : va_D (z_A X) (z_ws X g D) := by
  have key : ∀ (k : Nat) (q : Nat × va_E), (z_ws X g D)[k]? = some q → q.1 = X.2.2.2.1 + k := by
    intro k q hk
    unfold z_ws at hk
    rw [List.getElem?_map] at hk
    cases hr : (List.range g.1)[k]? with
    | none => rw [hr] at hk; cases hk
    | some i =>
      rw [hr] at hk
      cases hk
      have := (List.getElem?_eq_some_iff.mp hr).2
      rw [List.getElem_range] at this
      rw [this]
  refine ⟨fun i j p q hi hj h => ?_, fun k q hk => ?_⟩
  · have h1 := key i p hi
    have h2 := key j q hj
    omega
  · have h1 := key k q hk
    show X.2.2.2.1 ≤ q.1
    omega
theorem zU_ne {D : Mem} {o o' : Nat} {k x : Int} (h : o' ≠ o) : zU D o k x o' = D o' := by
  funext k'
  simp [zU, h]
theorem z_ws_up {X : Xe} {g : Gm} {D : Mem} {o : Nat} {k x : Int} : (z_ws X g D).set o (X.2.2.2.1 + o, z_ent X (g.2.2 o) (zU D o k x o)) = z_ws X g (zU D o k x) := by
  apply List.ext_getElem?
  intro i
  rw [List.getElem?_set]
  by_cases hi : i < g.1
  · by_cases ho : o = i
    · subst ho
      rw [if_pos rfl, z_ws_get hi, if_pos (by simpa [z_ws] using hi)]
    · rw [if_neg ho, z_ws_get hi, z_ws_get hi, zU_ne (Ne.symm ho)]
  · have e1 : (z_ws X g D)[i]? = none := by simp [z_ws]; omega
    have e2 : (z_ws X g (zU D o k x))[i]? = none := by simp [z_ws]; omega
    rw [e1, e2]
    split
    · rename_i ho
      subst ho
      rw [if_neg (by simpa [z_ws] using hi)]
    · rfl
theorem z_ent_up {X : Xe} {D : Mem} {o ci k kd : Nat} {ks : List Kd} {x : Int} (hk : ks[k]? = some (.inr kd)) : z_ent X (.inl (ci, ks)) (zU D o (k : Int) x o) = .inr (ci, (ks.mapIdx (fun j kd => z_fv X (D o) j kd)).set k (z_fv X (fun _ => x) k (.inr kd))) := by
  show Sum.inr (ci, _) = _
  congr 2
  apply List.ext_getElem?
  intro j
  rw [List.getElem?_set]
  have hl : k < ks.length := (List.getElem?_eq_some_iff.mp hk).1
  by_cases hj : k = j
  · subst hj
    rw [if_pos rfl, if_pos (by simpa using hl), List.getElem?_mapIdx, hk]
    simp [z_fv, zU]
  · rw [if_neg hj, List.getElem?_mapIdx, List.getElem?_mapIdx]
    cases ks[j]? with
    | none => rfl
    | some q =>
      have hne : ¬ ((j : Int) = (k : Int)) := by omega
      rcases q with q | q
      · rfl
      · simp [z_fv, zU, hne]
theorem z_ent_ua {X : Xe} {D : Mem} {o n : Nat} {bz : Bool} {i x : Int} (hi : 0 ≤ i) : z_ent X (.inr (bz, n)) (zU D o i x o) = .inl ((if bz = true then X.2.2.1 else X.2.1), n, .inl (upd (fun j => Int32.ofInt (D o j)) i.toNat (Int32.ofInt x))) := by
  have e0 : (fun j : Nat => Int32.ofInt (zU D o i x o (j : Int))) = upd (fun j => Int32.ofInt (D o j)) i.toNat (Int32.ofInt x) := by
    funext j
    by_cases h : j = i.toNat
    · subst h
      have e : ((i.toNat : Nat) : Int) = i := Int.toNat_of_nonneg hi
      simp [zU, upd, e]
    · have e : ¬ ((j : Int) = i) := by omega
      simp [zU, upd, h, e]
  show Sum.inl (_, n, Sum.inl _) = _
  rw [e0]
theorem z_in_up {g : Gm} {D : Mem} {o ci k kd : Nat} {ks : List Kd} {x : Int} (hin : z_in g D) (hs : g.2.2 o = .inl (ci, ks)) (hk : ks[k]? = some (.inr kd)) (h0 : kd = 0 → zR x) (h1 : kd = 1 → x = 0 ∨ x = 1) (h2 : kd = 2 → zR6 x) : z_in g (zU D o k x) := by
  intro q hq
  have hD := hin q hq
  by_cases e : q = o
  · subst e
    rw [hs] at hD ⊢
    intro j
    by_cases ej : j = k
    · subst ej
      rw [hk]
      refine ⟨fun e => ?_, fun e => ?_, fun e => ?_⟩ <;> (cases e; simp only [zU, and_self, if_true])
      · exact h0 rfl
      · exact h1 rfl
      · exact h2 rfl
    · have hne : ¬ ((j : Int) = (k : Int)) := by omega
      simp only [zU, hne, and_false, if_false]
      exact hD j
  · rw [zU_ne e]
    exact hD
theorem z_in_ua {g : Gm} {D : Mem} {o n : Nat} {bz : Bool} {i x : Int} (hin : z_in g D) (hs : g.2.2 o = .inr (bz, n)) (h0 : zR x) (h1 : bz = true → x = 0 ∨ x = 1) : z_in g (zU D o i x) := by
  intro q hq
  have hD := hin q hq
  by_cases e : q = o
  · subst e
    rw [hs] at hD ⊢
    intro j hj
    by_cases ej : (j : Int) = i
    · simp only [zU, ej, and_self, if_true]
      exact ⟨h0, h1⟩
    · simp only [zU, ej, and_false, if_false]
      exact hD j hj
  · rw [zU_ne e]
    exact hD
theorem z_St_to {X : Xe} {s U : State} {H : Heap} (h : z_St X s) (hk : ∀ q : Nat, q < s.heap.size → ¬ z_A X q → H[q]? = s.heap[q]?) (hU : U.heap = H) (hW : s.WarmedH U.vm) : z_St X U := by
  subst hU
  obtain ⟨h1, h2, h3, h4, h5, h6⟩ := h
  exact ⟨va_K.moved hW.alike h1, vk_S.moved hW.alike (vk_S.kept h2 hk), fun k hk => vk_R.warm hW (h3 k hk), va_Z.moved hW.alike (va_Z.kept h4 hk), va_Z.moved hW.alike (va_Z.kept h5 hk), fun q hq => va_Nw.warmM hW (h6 q hq)⟩
theorem z_St_calling {X : Xe} {U : State} {g : JFrame} {mk : MethodId} {a : Array Value} (h : z_St X U) : z_St X (U.calling g mk a) := by
  obtain ⟨h1, h2, h3, h4, h5, h6⟩ := h
  exact ⟨va_K.moved (u := U) (U := U.calling g mk a) (Vm.Alike.refl U.vm) h1, vk_S.moved (u := U) (U := U.calling g mk a) (Vm.Alike.refl U.vm) h2, fun k hk => vk_R.same (u := U) (U := U.calling g mk a) rfl (h3 k hk), va_Z.moved (u := U) (U := U.calling g mk a) (Vm.Alike.refl U.vm) h4, va_Z.moved (u := U) (U := U.calling g mk a) (Vm.Alike.refl U.vm) h5, fun q hq => va_Nw.same (u := U) (U := U.calling g mk a) rfl rfl (h6 q hq)⟩
-- contracts
def z_Pc (X : Xe) (b : Nat) (av : List AV) (g : Gm) (D : Mem) : Array Value → State → Prop := va_Pc (av.map (z_conc X b)) (fun U => U.heap.size = X.2.2.2.1 + g.1 ∧ va_P X.1 clsL (z_ws X g D) U.heap ∧ z_St X U)
def z_rv : Option FieldType → Int → Option Value
  | none, _ => none
  | some .long, x => some (.long (Int64.ofInt x))
  | some _, x => some (.int (Int32.ofInt x))
def z_Qc (M : MI) (X : Xe) (g : Gm) (mc ms : Nat) (Q : Int → Gm → Mem → Prop) : Array Value → State → Outcome → State → Prop := fun _ st oc t =>
  (∃ (x : Int) (g' : Gm) (D' : Mem), oc = .returned (z_rv (mR M) x) ∧ z_rok (mR M) x ∧ Q x g' D' ∧ g'.1 = g.1 + mc ∧ g'.2.1 = g.2.1 + ms ∧ t.heap.size = X.2.2.2.1 + g'.1 ∧ va_P X.1 clsL (z_ws X g' D') t.heap ∧ z_in g' D') ∧ va_F (z_A X) st t
def z_tb : List Cond := lw_tbl.filter goodWord
def z_wds (M : MI) : List Cond := Cond.code (mY M) (mC M) (mN M) (mR M) :: z_tb
def z_Ct (M : MI) (mc ms : Nat) (av : List AV) (g : Gm) (D : Mem) (Q : Int → Gm → Mem → Prop) : Prop := z_oks av → z_in g D → ∀ (l : Launch) (X : Xe) (b : Nat), Met l (mY M) (z_wds M) ({ frames := mF M, cells := mc, slots := ms, locals := mL M }) (z_Pc X b av g D) (z_Qc M X g mc ms Q) mc ms (z_A X)
/-- what a program decides of a method -/
def z_MI (M : MI) : Prop := plainName (mY M).cls = true ∧ Cond.code (mY M) (mC M) (mN M) (mR M) ∈ z_tb ∧ Cond.initialized (mY M).cls ∈ z_tb ∧ (mY M).cls ≠ "java/lang/invoke/MethodHandle" ∧ (mY M).cls ≠ "java/lang/invoke/VarHandle"
theorem z_blind {X : Xe} {b : Nat} {av : List AV} {g : Gm} {D : Mem} : FrameBlind (z_Pc X b av g D) := fun _ _ _ _ q => ⟨q.1, q.2.1, q.2.2.1, z_St_calling q.2.2.2⟩
theorem z_good : ∀ w ∈ z_tb, goodWord w = true := fun w h => (List.mem_filter.mp h).2
theorem z_wd {w : Cond} (i : Nat) (h : lw_tbl[i]? = some w) (hg : goodWord w = true) : w ∈ z_tb := List.mem_filter.mpr ⟨List.mem_of_getElem? h, hg⟩
theorem z_goodIn {M : MI} (h : z_MI M) {ws : List Cond} (hw : ∀ w ∈ ws, w ∈ z_tb) : GoodIn z_tb (ws ++ z_wds M) := by
  have key : ∀ w ∈ ws ++ z_wds M, w ∈ z_tb := by
    intro w hm
    rcases List.mem_append.mp hm with q | q
    · exact hw w q
    · rcases List.mem_cons.mp q with q | q
      · rw [q]; exact h.2.1
      · exact q
  exact fun w hm => ⟨key w hm, good_of_word (z_good w (key w hm))⟩
-- entry
def zal : List AV → List AV
  | [] => []
  | .inr (.inl x) :: t => zl x :: zm 1 :: zal t
  | v :: t => v :: zal t
def zent (av : List AV) (n : Nat) : List AV := zal av ++ List.replicate (n - (zal av).length) (zm 0)
theorem lg_sl_c (v : Value) (l : List Value) : lg_sl (v :: l) = (if v.category = 2 then [Slot.val v, .second] else [.val v]) ++ lg_sl l := by simp [lg_sl]
theorem zal_len {X : Xe} {b : Nat} : ∀ (av : List AV), (lg_sl (av.map (z_conc X b))).length = (zal av).length
  | [] => rfl
  | v :: t => by
    have ih := zal_len (X := X) (b := b) t
    have hc1 : ∀ w : AV, z_c1 w → (lg_sl ((w :: t).map (z_conc X b))).length = (zal t).length + 1 := by
      intro w hw
      have := c1_e (X := X) (b := b) hw
      rw [List.map_cons, lg_sl_c, this, List.length_append, ih]
      show 1 + (zal t).length = _
      omega
    rcases v with x | x | x | x | x
    · exact hc1 _ trivial
    · rw [List.map_cons]
      rw [lg_sl_c, List.length_append, ih]
      show 2 + (zal t).length = (zal t).length + 2
      omega
    · exact hc1 _ trivial
    · exact hc1 _ trivial
    · exact hc1 _ trivial
theorem zal_args {X : Xe} {b : Nat} : ∀ (av : List AV) (off k : Nat) (v : AV), (zal av)[k]? = some v → z_real v = true → (off + k, z_conc X b v) ∈ lv_args off (av.map (z_conc X b))
  | [], off, k, v, h, _ => by simp [zal] at h
  | w :: t, off, k, v, h, hr => by
    have ih := zal_args (X := X) (b := b) t
    have hc1 : ∀ u : AV, z_c1 u → (u :: zal t)[k]? = some v → (off + k, z_conc X b v) ∈ lv_args off ((u :: t).map (z_conc X b)) := by
      intro u hu h
      have hcat := c1_e (X := X) (b := b) hu
      rw [List.map_cons]
      unfold lv_args
      rw [hcat]
      cases k with
      | zero =>
        cases h
        exact List.mem_cons_self
      | succ k =>
        refine List.mem_cons_of_mem _ ?_
        have := ih (off + 1) k v h hr
        rw [show off + 1 + k = off + (k + 1) by omega] at this
        exact this
    rcases w with x | x | x | x | x
    · exact hc1 _ trivial h
    · rw [List.map_cons]
      show (off + k, z_conc X b v) ∈ (off, Value.long (Int64.ofInt x)) :: lv_args (off + 2) (t.map (z_conc X b))
      match k, h with
      | 0, h => cases h; exact List.mem_cons_self
      | 1, h => cases h; exact absurd hr (by decide)
      | k + 2, h =>
        refine List.mem_cons_of_mem _ ?_
        have := ih (off + 2) k v h hr
        rw [show off + 2 + k = off + (k + 2) by omega] at this
        exact this
    · exact hc1 _ trivial h
    · exact hc1 _ trivial h
    · exact hc1 _ trivial h
theorem zal_ok : ∀ {av : List AV}, z_oks av → z_oks (zal av)
  | [], _ => fun _ h => by cases h
  | v :: t, h => by
    have ih := zal_ok (z_oks_t h)
    have h0 := z_oks_h h
    rcases v with x | x | x | x | x
    · exact z_oks_c h0 ih
    · exact z_oks_c h0 (z_oks_c trivial ih)
    · exact z_oks_c h0 ih
    · exact z_oks_c h0 ih
    · exact z_oks_c h0 ih
theorem z_size {X : Xe} {g : Gm} {D : Mem} {p : Program} {l : Launch} {e : Env} {R : Room} {s : State} {m : MethodId} {args : Array Value} {below : List Frame} {meth : Method} {c : Code} {T : State} {H : Heap} {locs : List Loc} {cells slots n0 s0 : Nat} (Xs : Stand p l e R s m args below meth c T locs cells slots) (hT : T.heap = H) (hN : s.heap.size = X.2.2.2.1 + n0) {E : En} (hc : z_Cn E n0 s0 g cells slots) (hrel : z_Rel X g D s H locs) : H.size = X.2.2.2.1 + g.1 := by
  have h1 : T.heap.size ≤ s.heap.size + cells := Xs.same.2.2.1
  rw [hT] at h1
  have h2 := hc.1
  have h3 := hrel.2.1.1
  by_cases h0 : g.1 = 0
  · omega
  · have h4 : X.2.2.2.1 + (g.1 - 1) < H.size := (hrel.1 (g.1 - 1) _ (z_ws_get (by omega))).lt
    omega
theorem z_ret {M : MI} {X : Xe} {g : Gm} {mc ms : Nat} {Q : Int → Gm → Mem → Prop} {p : Program} {l : Launch} {e : Env} {R : Room} {s : State} {m : MethodId} {args : Array Value} {below : List Frame} {meth : Method} {c : Code} (hx : p.tables.exec = Jvm.exec) (hb : c.code = mC M) (hr : meth.sig.returnType = mR M) (hlocks : meth.locks = false) {H : Heap} {locs : List Loc} {g' : Gm} {D' : Mem} {x : Int} {pc cells slots : Nat} {arr : Array Slot} (hN : s.heap.size = X.2.2.2.1 + g.1)
    (hrel : z_Rel X g' D' s H locs) (hQ : Q x g' D') (h1 : g'.1 = g.1 + mc) (h2 : g'.2.1 = g.2.1 + ms) {E : En} (hc : z_Cn E g.1 g.2.1 g' cells slots) (hok : z_rok (mR M) x) (hd : decode (mC M) pc = .ok (z_ri (mR M), 1)) :
    W p l e R s m args below meth c H locs cells slots (MQ below (z_Qc M X g mc ms Q) args s mc ms (z_A X)) (F0 m pc arr (z_rs (mR M) x)) := by
  intro T hT Xs
  have hsz := z_size Xs hT hN hc hrel
  have e1 : cells = mc := by have := hc.1; omega
  have e2 : slots = ms := by have := hc.2.1; omega
  subst e1
  subst e2
  have key : ∀ t : State, t.heap = H → s.WarmedH t.vm → z_Qc M X g cells slots Q args s (.returned (z_rv (mR M) x)) t := by
    intro t ht _
    exact ⟨⟨x, g', D', rfl, hok, hQ, h1, h2, by rw [ht]; exact hsz, by rw [ht]; exact hrel.1, hrel.2.2⟩, hrel.2.1.F ht⟩
  refine (?_ : W p l e R s m args below meth c H locs cells slots (MQ below (z_Qc M X g cells slots Q) args s cells slots (z_A X)) (F0 m pc arr (z_rs (mR M) x))) T hT Xs
  generalize hty : mR M = rt at hr hok hd key ⊢
  rcases rt with _ | ty
  · exact W.vret hx hb hr key hrel.2.1.2.2 hd
  · cases ty with
    | long => exact W.lret hx hb hr key hrel.2.1.2.2 hd
    | _ => exact W.zret hx hb hr hok.2 key hrel.2.1.2.2 hd
theorem z_Ct.of {M : MI} {mc ms : Nat} {av ls : List AV} {g : Gm} {D : Mem} {Q : Int → Gm → Mem → Prop} {K : WP} (hM : z_MI M) (hl : zent av (mN M) = ls) (hn : (zal av).length ≤ mN M) (hs : z_Snd M ((g.1 + mc, g.2.1 + ms), (0, fun _ => 0), Q) 0 K) (h : K ls [] g D) : z_Ct M mc ms av g D Q := by
  intro hok hin l X b
  refine Met.ofW (cc := mC M) (maxL := mN M) (ret := mR M) hM.1 rfl ?_
  intro p e s m args below meth c s₁ B hml hv
  obtain ⟨rfl, hsz, hP, hSt⟩ := hv
  have hts := atoms_spec (ws := z_wds M) B.pre
  have hlv := lv_entry (av.map (z_conc X b)) (n := mN M) (by rw [zal_len]; exact hn)
  rw [lg_entry_eq]
  generalize (lg_sl (av.map (z_conc X b)) ++ List.replicate (mN M - (lg_sl (av.map (z_conc X b))).length) Slot.unset).toArray = arr at hlv ⊢
  subst hl
  have hlv2 : z_lv X b arr (mN M) (zent av (mN M)) := by
    refine ⟨hlv.1, hlv.2.1, by simp [zent]; omega, fun k v hk hr => ?_⟩
    unfold zent at hk
    by_cases hlt : k < (zal av).length
    · rw [List.getElem?_append_left hlt] at hk
      have := zal_args (X := X) (b := b) av 0 k v hk hr
      rw [Nat.zero_add] at this
      exact hlv.2.2 _ this
    · rw [List.getElem?_append_right (by omega)] at hk
      have := List.eq_of_mem_replicate (List.mem_of_getElem? hk)
      rw [this] at hr
      exact absurd hr (by decide)
  have hok2 : z_oks (zent av (mN M)) := by
    intro v hv
    rcases List.mem_append.mp hv with q | q
    · exact zal_ok hok v q
    · rw [List.eq_of_mem_replicate q]; trivial
  refine hs _ _ _ _ h (X := X) (b := b) (cells := 0) (slots := 0) (locs := []) (n0 := g.1) (s0 := g.2.1) ⟨B.exec, B.bytes, hml, findClass_of_methodNamed B.named, fun w hw => hts w (List.mem_cons_of_mem _ hw), hSt, ⟨hsz, Nat.le_refl _, Nat.le_refl _⟩, ⟨Nat.le_refl _, Nat.le_refl _⟩, (name_of_methodNamed B.named B.method).1, Or.inl rfl, ?_⟩ ⟨Nat.zero_add _, Nat.zero_add _, Nat.le_add_right _ _, Nat.le_add_right _ _⟩ ⟨hP, va_S.rf, hin⟩ hlv2 hok2 (fun _ h => by cases h)
  intro H locs g' D' x pc cells slots arr hrel hQ h1 h2 hcn hrok hd
  exact z_ret B.exec B.bytes B.returns B.notSynchronized hsz hrel hQ h1 h2 hcn hrok hd
end
section
/-! ===== 04: a row an instruction ===== -/
theorem z_toR (x : Int32) : zR x.toInt := by
  have h1 := Int32.le_toInt x
  have h2 := Int32.toInt_lt x
  exact ⟨by omega, by omega⟩
theorem zR_toInt {x : Int} (h : zR x) : (Int32.ofInt x).toInt = x := Int32.toInt_ofInt_of_le (by have := h.1; omega) (by have := h.2; omega)
theorem zR6_toInt {x : Int} (h : zR6 x) : (Int64.ofInt x).toInt = x := Int64.toInt_ofInt_of_le (by have := h.1; omega) (by have := h.2; omega)
theorem zR_lt {x y : Int} (hx : zR x) (hy : zR y) : Int32.ofInt x < Int32.ofInt y ↔ x < y := by
  rw [Int32.lt_iff_toInt_lt, zR_toInt hx, zR_toInt hy]
theorem zR_le {x y : Int} (hx : zR x) (hy : zR y) : Int32.ofInt x ≤ Int32.ofInt y ↔ x ≤ y := by
  rw [Int32.le_iff_toInt_le, zR_toInt hx, zR_toInt hy]
theorem zR_eq {x y : Int} (hx : zR x) (hy : zR y) : Int32.ofInt x = Int32.ofInt y ↔ x = y := by
  rw [← Int32.toInt_inj, zR_toInt hx, zR_toInt hy]
theorem zR_0 : zR 0 := by unfold zR; omega
theorem zR_1 : zR 1 := by unfold zR; omega
def z64 (x : Int) : Int := (Int64.ofInt x).toInt
theorem z64_R (x : Int) : zR6 (z64 x) := by
  have h1 := Int64.le_toInt (Int64.ofInt x)
  have h2 := Int64.toInt_lt (Int64.ofInt x)
  exact ⟨by unfold z64; omega, by unfold z64; omega⟩
theorem z64_id {x : Int} (h : zR6 x) : z64 x = x := zR6_toInt h
theorem z64_of (x : Int) : Int64.ofInt (z64 x) = Int64.ofInt x := Int64.ofInt_toInt _
def bA (x y : Int) : Int := (Int32.ofInt x &&& Int32.ofInt y).toInt
def bO (x y : Int) : Int := (Int32.ofInt x ||| Int32.ofInt y).toInt
def bX (x y : Int) : Int := (Int32.ofInt x ^^^ Int32.ofInt y).toInt
def bL (x y : Int) : Int := (Int32.ofInt x <<< (Int32.ofInt y &&& 31)).toInt
def bR (x y : Int) : Int := (Int32.ofInt x >>> (Int32.ofInt y &&& 31)).toInt
def bU (x y : Int) : Int := (((Int32.ofInt x).toUInt32 >>> ((Int32.ofInt y).toUInt32 &&& Int32.toUInt32 31)).toInt32).toInt
theorem z_div {x y : Int} (hx : zR x) (hy : zR y) (h0 : 0 ≤ x) (h1 : 0 < y) : Int32.ofInt x / Int32.ofInt y = Int32.ofInt (x / y) ∧ zR (x / y) := by
  have hb : x / y ≤ x := Int.ediv_le_self y h0
  have hc : 0 ≤ x / y := Int.ediv_nonneg h0 (by omega)
  have hz : zR (x / y) := ⟨by omega, by have := hx.2; omega⟩
  refine ⟨?_, hz⟩
  rw [← Int32.toInt_inj, Int32.toInt_div_of_ne_right _ _ ?_, zR_toInt hx, zR_toInt hy, zR_toInt hz, Int.tdiv_eq_ediv_of_nonneg h0]
  intro e
  have := congrArg Int32.toInt e
  rw [zR_toInt hy] at this
  have e1 : (-1 : Int32).toInt = -1 := by decide
  rw [e1] at this
  omega
theorem z_mod {x y : Int} (hx : zR x) (hy : zR y) (h0 : 0 ≤ x) (h1 : 0 < y) : Int32.ofInt x - Int32.ofInt x / Int32.ofInt y * Int32.ofInt y = Int32.ofInt (x % y) ∧ zR (x % y) := by
  have hb : x % y < y := Int.emod_lt_of_pos x h1
  have hc : 0 ≤ x % y := Int.emod_nonneg x (by omega)
  have hz : zR (x % y) := ⟨by omega, by have := hy.2; omega⟩
  refine ⟨?_, hz⟩
  rw [(z_div hx hy h0 h1).1, ← Int32.ofInt_mul, ← Int32.ofInt_sub, Int.emod_def, Int.mul_comm]
theorem z_div6 {x y : Int} (hx : zR6 x) (hy : zR6 y) (h0 : 0 ≤ x) (h1 : 0 < y) : Int64.ofInt x / Int64.ofInt y = Int64.ofInt (x / y) ∧ zR6 (x / y) := by
  have hb : x / y ≤ x := Int.ediv_le_self y h0
  have hc : 0 ≤ x / y := Int.ediv_nonneg h0 (by omega)
  have hz : zR6 (x / y) := ⟨by omega, by have := hx.2; omega⟩
  refine ⟨?_, hz⟩
  rw [← Int64.toInt_inj, Int64.toInt_div_of_ne_right _ _ ?_, zR6_toInt hx, zR6_toInt hy, zR6_toInt hz, Int.tdiv_eq_ediv_of_nonneg h0]
  intro e
  have := congrArg Int64.toInt e
  rw [zR6_toInt hy] at this
  have e1 : (-1 : Int64).toInt = -1 := by decide
  rw [e1] at this
  omega
theorem z_mod6 {x y : Int} (hx : zR6 x) (hy : zR6 y) (h0 : 0 ≤ x) (h1 : 0 < y) : Int64.ofInt x - Int64.ofInt x / Int64.ofInt y * Int64.ofInt y = Int64.ofInt (x % y) ∧ zR6 (x % y) := by
  have hb : x % y < y := Int.emod_lt_of_pos x h1
  have hc : 0 ≤ x % y := Int.emod_nonneg x (by omega)
  have hz : zR6 (x % y) := ⟨by omega, by have := hy.2; omega⟩
  refine ⟨?_, hz⟩
  rw [(z_div6 hx hy h0 h1).1, ← Int64.ofInt_mul, ← Int64.ofInt_sub, Int.emod_def, Int.mul_comm]
theorem zR_ne0 {y : Int} (hy : zR y) (h : 0 < y) : ¬ Int32.ofInt y = 0 := by
  intro e
  have h2 := (zR_eq hy zR_0).mp e
  omega
theorem zR6_ne0 {y : Int} (hy : zR6 y) (h : 0 < y) : ¬ Int64.ofInt y = 0 := by
  intro e
  have := congrArg Int64.toInt e
  rw [zR6_toInt hy] at this
  have e1 : (0 : Int64).toInt = 0 := by decide
  rw [e1] at this
  omega
theorem z_i2l {x : Int} (hx : zR x) : (Int32.ofInt x).toInt64 = Int64.ofInt x ∧ zR6 x := by
  have hz : zR6 x := ⟨by have := hx.1; omega, by have := hx.2; omega⟩
  refine ⟨?_, hz⟩
  rw [← Int64.toInt_inj, Int32.toInt_toInt64, zR_toInt hx, zR6_toInt hz]
section Rows
variable {M : MI} {E : En} {pc : Nat} {K K1 K2 : WP}
-- constants
def w_ic (x : Int) (K : WP) : WP := fun ls st g D => K ls (zi x :: st) g D
def w_lc (x : Int) (K : WP) : WP := fun ls st g D => K ls (zl x :: st) g D
theorem S_iconst {x : Int} (hd : decode (mC M) pc = .ok (.iconst x, 1)) (hx : zR x) (k : z_Snd M E (pc + 1) K) : z_Snd M E pc (w_ic x K) := by
  intro ls st g D hw X p l e R s m args below meth c Z b H locs cells slots arr n0 s0 hr hc hrel hlv hol hos
  refine lv_iconst hr.1 hr.2.1 (v := Int32.ofInt x) hd rfl ?_
  exact k _ _ _ _ hw hr hc hrel hlv hol (z_oks_c hx hos)
theorem S_bipush {x : Int} (hd : decode (mC M) pc = .ok (.bipush x, 2)) (hv : (Int8.ofInt x).toInt32 = Int32.ofInt x) (hx : zR x) (k : z_Snd M E (pc + 2) K) : z_Snd M E pc (w_ic x K) := by
  intro ls st g D hw X p l e R s m args below meth c Z b H locs cells slots arr n0 s0 hr hc hrel hlv hol hos
  refine lv_bipush hr.1 hr.2.1 (v := Int32.ofInt x) hd hv ?_
  exact k _ _ _ _ hw hr hc hrel hlv hol (z_oks_c hx hos)
theorem S_sipush {x : Int} (hd : decode (mC M) pc = .ok (.sipush x, 3)) (hv : (Int16.ofInt x).toInt32 = Int32.ofInt x) (hx : zR x) (k : z_Snd M E (pc + 3) K) : z_Snd M E pc (w_ic x K) := by
  intro ls st g D hw X p l e R s m args below meth c Z b H locs cells slots arr n0 s0 hr hc hrel hlv hol hos
  refine lv_sipush hr.1 hr.2.1 (v := Int32.ofInt x) hd hv ?_
  exact k _ _ _ _ hw hr hc hrel hlv hol (z_oks_c hx hos)
theorem S_ldc {x : Int} {v : Int32} {i : Nat} (hd : decode (mC M) pc = .ok (.ldc i, 2)) (hcw : Cond.constant (mY M).cls i v ∈ z_tb) (hv : v = Int32.ofInt x) (hx : zR x) (k : z_Snd M E (pc + 2) K) : z_Snd M E pc (w_ic x K) := by
  intro ls st g D hw X p l e R s m args below meth c Z b H locs cells slots arr n0 s0 hr hc hrel hlv hol hos
  subst hv
  refine lv_ldc hr.1 hr.2.1 (v := Int32.ofInt x) hr.2.2.2.1 (hr.2.2.2.2.1 _ hcw) hd ?_
  exact k _ _ _ _ hw hr hc hrel hlv hol (z_oks_c hx hos)
theorem S_ldcw {x : Int} {v : Int32} {i : Nat} (hd : decode (mC M) pc = .ok (.ldc_w i, 3)) (hcw : Cond.constant (mY M).cls i v ∈ z_tb) (hv : v = Int32.ofInt x) (hx : zR x) (k : z_Snd M E (pc + 3) K) : z_Snd M E pc (w_ic x K) := by
  intro ls st g D hw X p l e R s m args below meth c Z b H locs cells slots arr n0 s0 hr hc hrel hlv hol hos
  subst hv
  refine lv_ldcw hr.1 hr.2.1 (v := Int32.ofInt x) hr.2.2.2.1 (hr.2.2.2.2.1 _ hcw) hd ?_
  exact k _ _ _ _ hw hr hc hrel hlv hol (z_oks_c hx hos)
theorem S_lconst {x : Int} {n : Fin 2} (hd : decode (mC M) pc = .ok (.lconst n, 1)) (hv : Int64.ofNat (n : Nat) = Int64.ofInt x) (hx : zR6 x) (k : z_Snd M E (pc + 1) K) : z_Snd M E pc (w_lc x K) := by
  intro ls st g D hw X p l e R s m args below meth c Z b H locs cells slots arr n0 s0 hr hc hrel hlv hol hos
  refine lv_lconst hr.1 hr.2.1 (v := Int64.ofInt x) hd hv ?_
  exact k _ _ _ _ hw hr hc hrel hlv hol (z_oks_c hx hos)
theorem S_ldc2 {x : Int} {v : Int64} {i : Nat} (hd : decode (mC M) pc = .ok (.ldc2_w i, 3)) (hcw : Cond.constantLong (mY M).cls i v ∈ z_tb) (hv : v = Int64.ofInt x) (hx : zR6 x) (k : z_Snd M E (pc + 3) K) : z_Snd M E pc (w_lc x K) := by
  intro ls st g D hw X p l e R s m args below meth c Z b H locs cells slots arr n0 s0 hr hc hrel hlv hol hos
  subst hv
  refine lv_ldc2 hr.1 hr.2.1 (v := Int64.ofInt x) hr.2.2.2.1 (hr.2.2.2.2.1 _ hcw) hd ?_
  exact k _ _ _ _ hw hr hc hrel hlv hol (z_oks_c hx hos)
def w_lds (i : Nat) (K : WP) : WP := fun ls st g D => K ls (zs i :: st) g D
theorem S_lds {i idx : Nat} (hd : decode (mC M) pc = .ok (.ldc idx, 2)) (hi : i < 7) (hM : (mY M).cls = RX1) (he : zsx i = idx) (k : z_Snd M E (pc + 2) K) : z_Snd M E pc (w_lds i K) := by
  intro ls st g D hw X p l e R s m args below meth c Z b H locs cells slots arr n0 s0 hr hc hrel hlv hol hos
  subst he
  have hown := hr.2.2.2.1
  rw [hM] at hown
  refine va_ldcS hr.1 hr.2.1 hown (hr.2.2.2.2.2.1.2.2.1 i hi) hd ?_
  exact k _ _ _ _ hw hr hc hrel hlv hol (z_oks_c hi hos)
-- locals
def w_ild (i : Nat) (K : WP) : WP := fun ls st g D => qI (gL ls i) fun x => K ls (zi x :: st) g D
def w_lld (i : Nat) (K : WP) : WP := fun ls st g D => qJ (gL ls i) fun x => K ls (zl x :: st) g D
def w_ald (i : Nat) (K : WP) : WP := fun ls st g D => qA (gL ls i) ∧ K ls (gL ls i :: st) g D
theorem z_lvi {X : Xe} {b i : Nat} {arr : Array Slot} {nL : Nat} {ls : List AV} {v : AV} (h : z_lv X b arr nL ls) (hg : gL ls i = v) (hn : v ≠ zm 0) (hr : z_real v = true) : arr[i]? = some (.val (z_conc X b v)) := h.2.2.2 i v (gL_s hg hn) hr
theorem zi_ne (x : Int) : zi x ≠ zm 0 := fun h => by cases h
theorem zl_ne (x : Int) : zl x ≠ zm 0 := fun h => by cases h
theorem qA_ne {v : AV} (h : qA v) : v ≠ zm 0 ∧ z_real v = true ∧ (∀ X b, ∃ a, z_conc X b v = .ref a) := by
  rcases v with x | x | x | x | x
  · exact h.elim
  · exact h.elim
  · exact ⟨fun e => (by cases e), rfl, fun X b => ⟨_, rfl⟩⟩
  · exact ⟨fun e => (by cases e), rfl, fun X b => ⟨_, rfl⟩⟩
  · have h1 : 2 ≤ x ∧ x ≠ 3 := h
    refine ⟨fun e => ?_, ?_, fun X b => ?_⟩
    · have : x = 0 := by cases e; rfl
      omega
    · show decide (2 ≤ x) = true
      simpa using h1.1
    · show ∃ a, (if x = 2 then Value.ref b else if 4 ≤ x then Value.ref (X.2.2.2.2.2 (x - 4)) else .null) = .ref a
      by_cases h2 : x = 2
      · exact ⟨b, by rw [if_pos h2]⟩
      · exact ⟨X.2.2.2.2.2 (x - 4), by rw [if_neg h2, if_pos (by omega)]⟩
theorem S_ildn {i : Nat} {f : Fin 4} (hd : decode (mC M) pc = .ok (.iload_n f, 1)) (hf : (f : Nat) = i) (k : z_Snd M E (pc + 1) K) : z_Snd M E pc (w_ild i K) := by
  intro ls st g D hw X p l e R s m args below meth c Z b H locs cells slots arr n0 s0 hr hc hrel hlv hol hos
  obtain ⟨x, hx, hA⟩ := qI_e hw
  refine lv_iload_n hr.1 hr.2.1 hd hf (z_lvi hlv hx (zi_ne x) rfl) ?_
  exact k _ _ _ _ hA hr hc hrel hlv hol (z_oks_c (gL_ok hx (zi_ne x) hol) hos)
theorem S_lldn {i : Nat} {f : Fin 4} (hd : decode (mC M) pc = .ok (.lload_n f, 1)) (hf : (f : Nat) = i) (k : z_Snd M E (pc + 1) K) : z_Snd M E pc (w_lld i K) := by
  intro ls st g D hw X p l e R s m args below meth c Z b H locs cells slots arr n0 s0 hr hc hrel hlv hol hos
  obtain ⟨x, hx, hA⟩ := qJ_e hw
  refine lv_lload_n hr.1 hr.2.1 hd hf (z_lvi hlv hx (zl_ne x) rfl) ?_
  exact k _ _ _ _ hA hr hc hrel hlv hol (z_oks_c (gL_ok hx (zl_ne x) hol) hos)
theorem S_aldn {i : Nat} {f : Fin 4} (hd : decode (mC M) pc = .ok (.aload_n f, 1)) (hf : (f : Nat) = i) (k : z_Snd M E (pc + 1) K) : z_Snd M E pc (w_ald i K) := by
  intro ls st g D hw X p l e R s m args below meth c Z b H locs cells slots arr n0 s0 hr hc hrel hlv hol hos
  obtain ⟨hq, hA⟩ := hw
  obtain ⟨h1, h2, h3⟩ := qA_ne hq
  obtain ⟨a, ha⟩ := h3 X b
  have hs := z_lvi hlv rfl h1 h2
  rw [ha] at hs
  refine lv_aload_n hr.1 hr.2.1 hd hf hs ?_
  have := k _ _ _ _ hA hr hc hrel hlv hol (z_oks_c (gL_ok rfl h1 hol) hos)
  rw [List.map_cons, ha] at this
  exact this
theorem S_ild {i : Nat} (hd : decode (mC M) pc = .ok (.iload i, 2)) (k : z_Snd M E (pc + 2) K) : z_Snd M E pc (w_ild i K) := by
  intro ls st g D hw X p l e R s m args below meth c Z b H locs cells slots arr n0 s0 hr hc hrel hlv hol hos
  obtain ⟨x, hx, hA⟩ := qI_e hw
  refine lv_iload hr.1 hr.2.1 hd (z_lvi hlv hx (zi_ne x) rfl) ?_
  exact k _ _ _ _ hA hr hc hrel hlv hol (z_oks_c (gL_ok hx (zi_ne x) hol) hos)
theorem S_lld {i : Nat} (hd : decode (mC M) pc = .ok (.lload i, 2)) (k : z_Snd M E (pc + 2) K) : z_Snd M E pc (w_lld i K) := by
  intro ls st g D hw X p l e R s m args below meth c Z b H locs cells slots arr n0 s0 hr hc hrel hlv hol hos
  obtain ⟨x, hx, hA⟩ := qJ_e hw
  refine lv_lload hr.1 hr.2.1 hd (z_lvi hlv hx (zl_ne x) rfl) ?_
  exact k _ _ _ _ hA hr hc hrel hlv hol (z_oks_c (gL_ok hx (zl_ne x) hol) hos)
theorem S_ald {i : Nat} (hd : decode (mC M) pc = .ok (.aload i, 2)) (k : z_Snd M E (pc + 2) K) : z_Snd M E pc (w_ald i K) := by
  intro ls st g D hw X p l e R s m args below meth c Z b H locs cells slots arr n0 s0 hr hc hrel hlv hol hos
  obtain ⟨hq, hA⟩ := hw
  obtain ⟨h1, h2, h3⟩ := qA_ne hq
  obtain ⟨a, ha⟩ := h3 X b
  have hs := z_lvi hlv rfl h1 h2
  rw [ha] at hs
  refine lv_aload hr.1 hr.2.1 hd hs ?_
  have := k _ _ _ _ hA hr hc hrel hlv hol (z_oks_c (gL_ok rfl h1 hol) hos)
  rw [List.map_cons, ha] at this
  exact this
def w_ist (i : Nat) (K : WP) : WP := fun ls st g D => pI st fun x t => K (sL ls i (zi x)) t g D
def w_lst (i : Nat) (K : WP) : WP := fun ls st g D => pJ st fun x t => K (sL (sL ls (i + 1) (zm 1)) i (zl x)) t g D
def w_ast (i : Nat) (K : WP) : WP := fun ls st g D => pA st fun x t => K (sL ls i (zr x)) t g D
def w_iinc (i : Nat) (n : Int) (K : WP) : WP := fun ls st g D => qI (gL ls i) fun x => zR (x + n) ∧ K (sL ls i (zi (x + n))) st g D
theorem S_istn {i : Nat} {f : Fin 4} (hd : decode (mC M) pc = .ok (.istore_n f, 1)) (hf : (f : Nat) = i) (hi : i < mN M) (k : z_Snd M E (pc + 1) K) : z_Snd M E pc (w_ist i K) := by
  intro ls st g D hw X p l e R s m args below meth c Z b H locs cells slots arr n0 s0 hr hc hrel hlv hol hos
  obtain ⟨x, t, rfl, hA⟩ := pI_e hw
  refine lv_istore_n hr.1 hr.2.1 hd hf (z_lv_has hlv) hi rfl (fun arr2 h2 => ?_)
  exact k _ _ _ _ hA hr hc hrel (z_lv_st1 (v := zi x) hlv trivial h2) (sL_ok hol (z_oks_h hos)) (z_oks_t hos)
theorem S_lstn {i : Nat} {f : Fin 4} (hd : decode (mC M) pc = .ok (.lstore_n f, 1)) (hf : (f : Nat) = i) (hi : i + 1 < mN M) (k : z_Snd M E (pc + 1) K) : z_Snd M E pc (w_lst i K) := by
  intro ls st g D hw X p l e R s m args below meth c Z b H locs cells slots arr n0 s0 hr hc hrel hlv hol hos
  obtain ⟨x, t, rfl, hA⟩ := pJ_e hw
  refine lv_lstore_n hr.1 hr.2.1 hd hf (z_lv_has hlv) hi rfl (fun arr2 h2 => ?_)
  exact k _ _ _ _ hA hr hc hrel (z_lv_st2 hlv h2) (sL_ok (sL_ok hol trivial) (z_oks_h hos)) (z_oks_t hos)
theorem S_astn {i : Nat} {f : Fin 4} (hd : decode (mC M) pc = .ok (.astore_n f, 1)) (hf : (f : Nat) = i) (hi : i < mN M) (k : z_Snd M E (pc + 1) K) : z_Snd M E pc (w_ast i K) := by
  intro ls st g D hw X p l e R s m args below meth c Z b H locs cells slots arr n0 s0 hr hc hrel hlv hol hos
  obtain ⟨x, t, rfl, hA⟩ := pA_e hw
  refine lv_astore_n hr.1 hr.2.1 hd hf (z_lv_has hlv) hi rfl (fun arr2 h2 => ?_)
  exact k _ _ _ _ hA hr hc hrel (z_lv_st1 (v := zr x) hlv trivial h2) (sL_ok hol (z_oks_h hos)) (z_oks_t hos)
theorem S_ist {i : Nat} (hd : decode (mC M) pc = .ok (.istore i, 2)) (hi : i < mN M) (k : z_Snd M E (pc + 2) K) : z_Snd M E pc (w_ist i K) := by
  intro ls st g D hw X p l e R s m args below meth c Z b H locs cells slots arr n0 s0 hr hc hrel hlv hol hos
  obtain ⟨x, t, rfl, hA⟩ := pI_e hw
  refine lv_istore hr.1 hr.2.1 hd (z_lv_has hlv) hi rfl (fun arr2 h2 => ?_)
  exact k _ _ _ _ hA hr hc hrel (z_lv_st1 (v := zi x) hlv trivial h2) (sL_ok hol (z_oks_h hos)) (z_oks_t hos)
theorem S_lst {i : Nat} (hd : decode (mC M) pc = .ok (.lstore i, 2)) (hi : i + 1 < mN M) (k : z_Snd M E (pc + 2) K) : z_Snd M E pc (w_lst i K) := by
  intro ls st g D hw X p l e R s m args below meth c Z b H locs cells slots arr n0 s0 hr hc hrel hlv hol hos
  obtain ⟨x, t, rfl, hA⟩ := pJ_e hw
  refine lv_lstore hr.1 hr.2.1 hd (z_lv_has hlv) hi rfl (fun arr2 h2 => ?_)
  exact k _ _ _ _ hA hr hc hrel (z_lv_st2 hlv h2) (sL_ok (sL_ok hol trivial) (z_oks_h hos)) (z_oks_t hos)
theorem S_ast {i : Nat} (hd : decode (mC M) pc = .ok (.astore i, 2)) (hi : i < mN M) (k : z_Snd M E (pc + 2) K) : z_Snd M E pc (w_ast i K) := by
  intro ls st g D hw X p l e R s m args below meth c Z b H locs cells slots arr n0 s0 hr hc hrel hlv hol hos
  obtain ⟨x, t, rfl, hA⟩ := pA_e hw
  refine lv_astore hr.1 hr.2.1 hd (z_lv_has hlv) hi rfl (fun arr2 h2 => ?_)
  exact k _ _ _ _ hA hr hc hrel (z_lv_st1 (v := zr x) hlv trivial h2) (sL_ok hol (z_oks_h hos)) (z_oks_t hos)
theorem S_iinc {i : Nat} {n : Int} (hd : decode (mC M) pc = .ok (.iinc i n, 3)) (hi : i < mN M) (k : z_Snd M E (pc + 3) K) : z_Snd M E pc (w_iinc i n K) := by
  intro ls st g D hw X p l e R s m args below meth c Z b H locs cells slots arr n0 s0 hr hc hrel hlv hol hos
  obtain ⟨x, hx, h0, hA⟩ := qI_e hw
  have hlv0 := z_lv_has hlv
  have hm : (i, z_conc X b (zi x)) ∈ z_prs X b ls := z_prs_mem.mpr ⟨zi x, gL_s hx (zi_ne x), rfl, rfl⟩
  obtain ⟨q, hq⟩ := List.getElem?_of_mem hm
  refine lv_iinc (v := Int32.ofInt (x + n)) hr.1 hr.2.1 hd hlv0 hq (Int32.ofInt_add x n).symm hi rfl (fun arr2 h2 => ?_)
  exact k _ _ _ _ hA hr hc hrel (z_lv_st1 (v := zi (x + n)) hlv trivial h2) (sL_ok hol h0) hos
-- numbers
def w_iadd (K : WP) : WP := fun ls st g D => pI st fun y t => pI t fun x t2 => zR (x + y) ∧ K ls (zi (x + y) :: t2) g D
theorem S_iadd (hd : decode (mC M) pc = .ok (.iadd, 1)) (k : z_Snd M E (pc + 1) K) : z_Snd M E pc (w_iadd K) := by
  intro ls st g D hw X p l e R s m args below meth c Z b H locs cells slots arr n0 s0 hr hc hrel hlv hol hos
  obtain ⟨y, t, rfl, hA⟩ := pI_e hw
  obtain ⟨x, t2, rfl, hB⟩ := pI_e hA
  have hy := z_oks_h hos
  have hx := z_oks_h (z_oks_t hos)
  obtain ⟨h0, hC⟩ := hB
  refine lv_iadd hr.1 hr.2.1 hd ?_
  rw [← Int32.ofInt_add]
  have h9 := k _ _ _ _ hC hr hc hrel hlv hol (z_oks_c (h0) (z_oks_t (z_oks_t hos)))
  exact h9
def w_isub (K : WP) : WP := fun ls st g D => pI st fun y t => pI t fun x t2 => zR (x - y) ∧ K ls (zi (x - y) :: t2) g D
theorem S_isub (hd : decode (mC M) pc = .ok (.isub, 1)) (k : z_Snd M E (pc + 1) K) : z_Snd M E pc (w_isub K) := by
  intro ls st g D hw X p l e R s m args below meth c Z b H locs cells slots arr n0 s0 hr hc hrel hlv hol hos
  obtain ⟨y, t, rfl, hA⟩ := pI_e hw
  obtain ⟨x, t2, rfl, hB⟩ := pI_e hA
  have hy := z_oks_h hos
  have hx := z_oks_h (z_oks_t hos)
  obtain ⟨h0, hC⟩ := hB
  refine lv_isub hr.1 hr.2.1 hd ?_
  rw [← Int32.ofInt_sub]
  have h9 := k _ _ _ _ hC hr hc hrel hlv hol (z_oks_c (h0) (z_oks_t (z_oks_t hos)))
  exact h9
def w_imul (K : WP) : WP := fun ls st g D => pI st fun y t => pI t fun x t2 => zR (x * y) ∧ K ls (zi (x * y) :: t2) g D
theorem S_imul (hd : decode (mC M) pc = .ok (.imul, 1)) (k : z_Snd M E (pc + 1) K) : z_Snd M E pc (w_imul K) := by
  intro ls st g D hw X p l e R s m args below meth c Z b H locs cells slots arr n0 s0 hr hc hrel hlv hol hos
  obtain ⟨y, t, rfl, hA⟩ := pI_e hw
  obtain ⟨x, t2, rfl, hB⟩ := pI_e hA
  have hy := z_oks_h hos
  have hx := z_oks_h (z_oks_t hos)
  obtain ⟨h0, hC⟩ := hB
  refine lv_imul hr.1 hr.2.1 hd ?_
  rw [← Int32.ofInt_mul]
  have h9 := k _ _ _ _ hC hr hc hrel hlv hol (z_oks_c (h0) (z_oks_t (z_oks_t hos)))
  exact h9
def w_idiv (K : WP) : WP := fun ls st g D => pI st fun y t => pI t fun x t2 => (0 ≤ x ∧ 0 < y) ∧ K ls (zi (x / y) :: t2) g D
theorem S_idiv (hd : decode (mC M) pc = .ok (.idiv, 1)) (k : z_Snd M E (pc + 1) K) : z_Snd M E pc (w_idiv K) := by
  intro ls st g D hw X p l e R s m args below meth c Z b H locs cells slots arr n0 s0 hr hc hrel hlv hol hos
  obtain ⟨y, t, rfl, hA⟩ := pI_e hw
  obtain ⟨x, t2, rfl, hB⟩ := pI_e hA
  have hy := z_oks_h hos
  have hx := z_oks_h (z_oks_t hos)
  obtain ⟨h0, hC⟩ := hB
  have e := z_div hx hy h0.1 h0.2
  refine lv_idiv hr.1 hr.2.1 hd (zR_ne0 hy h0.2) ?_
  rw [e.1]
  have h9 := k _ _ _ _ hC hr hc hrel hlv hol (z_oks_c (e.2) (z_oks_t (z_oks_t hos)))
  exact h9
def w_irem (K : WP) : WP := fun ls st g D => pI st fun y t => pI t fun x t2 => (0 ≤ x ∧ 0 < y) ∧ K ls (zi (x % y) :: t2) g D
theorem S_irem (hd : decode (mC M) pc = .ok (.irem, 1)) (k : z_Snd M E (pc + 1) K) : z_Snd M E pc (w_irem K) := by
  intro ls st g D hw X p l e R s m args below meth c Z b H locs cells slots arr n0 s0 hr hc hrel hlv hol hos
  obtain ⟨y, t, rfl, hA⟩ := pI_e hw
  obtain ⟨x, t2, rfl, hB⟩ := pI_e hA
  have hy := z_oks_h hos
  have hx := z_oks_h (z_oks_t hos)
  obtain ⟨h0, hC⟩ := hB
  have e := z_mod hx hy h0.1 h0.2
  refine lv_irem hr.1 hr.2.1 hd (zR_ne0 hy h0.2) ?_
  rw [e.1]
  have h9 := k _ _ _ _ hC hr hc hrel hlv hol (z_oks_c (e.2) (z_oks_t (z_oks_t hos)))
  exact h9
def w_iand (K : WP) : WP := fun ls st g D => pI st fun y t => pI t fun x t2 => K ls (zi (bA x y) :: t2) g D
theorem S_iand (hd : decode (mC M) pc = .ok (.iand, 1)) (k : z_Snd M E (pc + 1) K) : z_Snd M E pc (w_iand K) := by
  intro ls st g D hw X p l e R s m args below meth c Z b H locs cells slots arr n0 s0 hr hc hrel hlv hol hos
  obtain ⟨y, t, rfl, hA⟩ := pI_e hw
  obtain ⟨x, t2, rfl, hB⟩ := pI_e hA
  have hy := z_oks_h hos
  have hx := z_oks_h (z_oks_t hos)
  refine lv_iand hr.1 hr.2.1 hd ?_
  rw [← Int32.ofInt_toInt (Int32.ofInt x &&& Int32.ofInt y)]
  have h9 := k _ _ _ _ hB hr hc hrel hlv hol (z_oks_c (z_toR _) (z_oks_t (z_oks_t hos)))
  exact h9
def w_ior (K : WP) : WP := fun ls st g D => pI st fun y t => pI t fun x t2 => K ls (zi (bO x y) :: t2) g D
theorem S_ior (hd : decode (mC M) pc = .ok (.ior, 1)) (k : z_Snd M E (pc + 1) K) : z_Snd M E pc (w_ior K) := by
  intro ls st g D hw X p l e R s m args below meth c Z b H locs cells slots arr n0 s0 hr hc hrel hlv hol hos
  obtain ⟨y, t, rfl, hA⟩ := pI_e hw
  obtain ⟨x, t2, rfl, hB⟩ := pI_e hA
  have hy := z_oks_h hos
  have hx := z_oks_h (z_oks_t hos)
  refine lv_ior hr.1 hr.2.1 hd ?_
  rw [← Int32.ofInt_toInt (Int32.ofInt x ||| Int32.ofInt y)]
  have h9 := k _ _ _ _ hB hr hc hrel hlv hol (z_oks_c (z_toR _) (z_oks_t (z_oks_t hos)))
  exact h9
def w_ixor (K : WP) : WP := fun ls st g D => pI st fun y t => pI t fun x t2 => K ls (zi (bX x y) :: t2) g D
theorem S_ixor (hd : decode (mC M) pc = .ok (.ixor, 1)) (k : z_Snd M E (pc + 1) K) : z_Snd M E pc (w_ixor K) := by
  intro ls st g D hw X p l e R s m args below meth c Z b H locs cells slots arr n0 s0 hr hc hrel hlv hol hos
  obtain ⟨y, t, rfl, hA⟩ := pI_e hw
  obtain ⟨x, t2, rfl, hB⟩ := pI_e hA
  have hy := z_oks_h hos
  have hx := z_oks_h (z_oks_t hos)
  refine lv_ixor hr.1 hr.2.1 hd ?_
  rw [← Int32.ofInt_toInt (Int32.ofInt x ^^^ Int32.ofInt y)]
  have h9 := k _ _ _ _ hB hr hc hrel hlv hol (z_oks_c (z_toR _) (z_oks_t (z_oks_t hos)))
  exact h9
def w_ishl (K : WP) : WP := fun ls st g D => pI st fun y t => pI t fun x t2 => K ls (zi (bL x y) :: t2) g D
theorem S_ishl (hd : decode (mC M) pc = .ok (.ishl, 1)) (k : z_Snd M E (pc + 1) K) : z_Snd M E pc (w_ishl K) := by
  intro ls st g D hw X p l e R s m args below meth c Z b H locs cells slots arr n0 s0 hr hc hrel hlv hol hos
  obtain ⟨y, t, rfl, hA⟩ := pI_e hw
  obtain ⟨x, t2, rfl, hB⟩ := pI_e hA
  have hy := z_oks_h hos
  have hx := z_oks_h (z_oks_t hos)
  refine lv_ishl hr.1 hr.2.1 hd ?_
  rw [← Int32.ofInt_toInt (Int32.ofInt x <<< (Int32.ofInt y &&& 31))]
  have h9 := k _ _ _ _ hB hr hc hrel hlv hol (z_oks_c (z_toR _) (z_oks_t (z_oks_t hos)))
  exact h9
def w_ishr (K : WP) : WP := fun ls st g D => pI st fun y t => pI t fun x t2 => K ls (zi (bR x y) :: t2) g D
theorem S_ishr (hd : decode (mC M) pc = .ok (.ishr, 1)) (k : z_Snd M E (pc + 1) K) : z_Snd M E pc (w_ishr K) := by
  intro ls st g D hw X p l e R s m args below meth c Z b H locs cells slots arr n0 s0 hr hc hrel hlv hol hos
  obtain ⟨y, t, rfl, hA⟩ := pI_e hw
  obtain ⟨x, t2, rfl, hB⟩ := pI_e hA
  have hy := z_oks_h hos
  have hx := z_oks_h (z_oks_t hos)
  refine lv_ishr hr.1 hr.2.1 hd ?_
  rw [← Int32.ofInt_toInt (Int32.ofInt x >>> (Int32.ofInt y &&& 31))]
  have h9 := k _ _ _ _ hB hr hc hrel hlv hol (z_oks_c (z_toR _) (z_oks_t (z_oks_t hos)))
  exact h9
def w_iushr (K : WP) : WP := fun ls st g D => pI st fun y t => pI t fun x t2 => K ls (zi (bU x y) :: t2) g D
theorem S_iushr (hd : decode (mC M) pc = .ok (.iushr, 1)) (k : z_Snd M E (pc + 1) K) : z_Snd M E pc (w_iushr K) := by
  intro ls st g D hw X p l e R s m args below meth c Z b H locs cells slots arr n0 s0 hr hc hrel hlv hol hos
  obtain ⟨y, t, rfl, hA⟩ := pI_e hw
  obtain ⟨x, t2, rfl, hB⟩ := pI_e hA
  have hy := z_oks_h hos
  have hx := z_oks_h (z_oks_t hos)
  refine lv_iushr hr.1 hr.2.1 (v := Int32.ofInt (bU x y)) hd (by unfold bU; rw [Int32.ofInt_toInt]) ?_
  have h9 := k _ _ _ _ hB hr hc hrel hlv hol (z_oks_c (z_toR _) (z_oks_t (z_oks_t hos)))
  exact h9
def w_ineg (K : WP) : WP := fun ls st g D => pI st fun x t => zR (-x) ∧ K ls (zi (-x) :: t) g D
theorem S_ineg (hd : decode (mC M) pc = .ok (.ineg, 1)) (k : z_Snd M E (pc + 1) K) : z_Snd M E pc (w_ineg K) := by
  intro ls st g D hw X p l e R s m args below meth c Z b H locs cells slots arr n0 s0 hr hc hrel hlv hol hos
  obtain ⟨x, t, rfl, h0, hA⟩ := pI_e hw
  refine lv_ineg hr.1 hr.2.1 hd ?_
  have h9 := k _ _ _ _ hA hr hc hrel hlv hol (z_oks_c h0 (z_oks_t hos))
  rw [List.map_cons] at h9
  first
    | (rw [← Int32.ofInt_neg]; exact h9)
    | (rw [show (0 : Int32) - Int32.ofInt x = Int32.ofInt (-x) by rw [Int32.ofInt_neg]; simp]; exact h9)
def w_ladd (K : WP) : WP := fun ls st g D => pJ st fun y t => pJ t fun x t2 => K ls (zl (z64 (x + y)) :: t2) g D
theorem S_ladd (hd : decode (mC M) pc = .ok (.ladd, 1)) (k : z_Snd M E (pc + 1) K) : z_Snd M E pc (w_ladd K) := by
  intro ls st g D hw X p l e R s m args below meth c Z b H locs cells slots arr n0 s0 hr hc hrel hlv hol hos
  obtain ⟨y, t, rfl, hA⟩ := pJ_e hw
  obtain ⟨x, t2, rfl, hB⟩ := pJ_e hA
  have hy := z_oks_h hos
  have hx := z_oks_h (z_oks_t hos)
  refine lv_ladd hr.1 hr.2.1 hd ?_
  rw [← Int64.ofInt_add, ← z64_of]
  have h9 := k _ _ _ _ hB hr hc hrel hlv hol (z_oks_c (z64_R _) (z_oks_t (z_oks_t hos)))
  exact h9
def w_lsub (K : WP) : WP := fun ls st g D => pJ st fun y t => pJ t fun x t2 => K ls (zl (z64 (x - y)) :: t2) g D
theorem S_lsub (hd : decode (mC M) pc = .ok (.lsub, 1)) (k : z_Snd M E (pc + 1) K) : z_Snd M E pc (w_lsub K) := by
  intro ls st g D hw X p l e R s m args below meth c Z b H locs cells slots arr n0 s0 hr hc hrel hlv hol hos
  obtain ⟨y, t, rfl, hA⟩ := pJ_e hw
  obtain ⟨x, t2, rfl, hB⟩ := pJ_e hA
  have hy := z_oks_h hos
  have hx := z_oks_h (z_oks_t hos)
  refine lv_lsub hr.1 hr.2.1 hd ?_
  rw [← Int64.ofInt_sub, ← z64_of]
  have h9 := k _ _ _ _ hB hr hc hrel hlv hol (z_oks_c (z64_R _) (z_oks_t (z_oks_t hos)))
  exact h9
def w_lmul (K : WP) : WP := fun ls st g D => pJ st fun y t => pJ t fun x t2 => K ls (zl (z64 (x * y)) :: t2) g D
theorem S_lmul (hd : decode (mC M) pc = .ok (.lmul, 1)) (k : z_Snd M E (pc + 1) K) : z_Snd M E pc (w_lmul K) := by
  intro ls st g D hw X p l e R s m args below meth c Z b H locs cells slots arr n0 s0 hr hc hrel hlv hol hos
  obtain ⟨y, t, rfl, hA⟩ := pJ_e hw
  obtain ⟨x, t2, rfl, hB⟩ := pJ_e hA
  have hy := z_oks_h hos
  have hx := z_oks_h (z_oks_t hos)
  refine lv_lmul hr.1 hr.2.1 hd ?_
  rw [← Int64.ofInt_mul, ← z64_of]
  have h9 := k _ _ _ _ hB hr hc hrel hlv hol (z_oks_c (z64_R _) (z_oks_t (z_oks_t hos)))
  exact h9
def w_ldiv (K : WP) : WP := fun ls st g D => pJ st fun y t => pJ t fun x t2 => (0 ≤ x ∧ 0 < y) ∧ K ls (zl (x / y) :: t2) g D
theorem S_ldiv (hd : decode (mC M) pc = .ok (.ldiv, 1)) (k : z_Snd M E (pc + 1) K) : z_Snd M E pc (w_ldiv K) := by
  intro ls st g D hw X p l e R s m args below meth c Z b H locs cells slots arr n0 s0 hr hc hrel hlv hol hos
  obtain ⟨y, t, rfl, hA⟩ := pJ_e hw
  obtain ⟨x, t2, rfl, hB⟩ := pJ_e hA
  have hy := z_oks_h hos
  have hx := z_oks_h (z_oks_t hos)
  obtain ⟨h0, hC⟩ := hB
  have e := z_div6 hx hy h0.1 h0.2
  refine lv_ldiv hr.1 hr.2.1 hd (zR6_ne0 hy h0.2) ?_
  rw [e.1]
  have h9 := k _ _ _ _ hC hr hc hrel hlv hol (z_oks_c (e.2) (z_oks_t (z_oks_t hos)))
  exact h9
def w_lrem (K : WP) : WP := fun ls st g D => pJ st fun y t => pJ t fun x t2 => (0 ≤ x ∧ 0 < y) ∧ K ls (zl (x % y) :: t2) g D
theorem S_lrem (hd : decode (mC M) pc = .ok (.lrem, 1)) (k : z_Snd M E (pc + 1) K) : z_Snd M E pc (w_lrem K) := by
  intro ls st g D hw X p l e R s m args below meth c Z b H locs cells slots arr n0 s0 hr hc hrel hlv hol hos
  obtain ⟨y, t, rfl, hA⟩ := pJ_e hw
  obtain ⟨x, t2, rfl, hB⟩ := pJ_e hA
  have hy := z_oks_h hos
  have hx := z_oks_h (z_oks_t hos)
  obtain ⟨h0, hC⟩ := hB
  have e := z_mod6 hx hy h0.1 h0.2
  refine lv_lrem hr.1 hr.2.1 hd (zR6_ne0 hy h0.2) ?_
  rw [e.1]
  have h9 := k _ _ _ _ hC hr hc hrel hlv hol (z_oks_c (e.2) (z_oks_t (z_oks_t hos)))
  exact h9
def zcmp (x y : Int) : Int := if y < x then 1 else if x = y then 0 else -1
theorem zcmp_lg {x y : Int} (hx : zR6 x) (hy : zR6 y) : lg_cmp (Int64.ofInt x) (Int64.ofInt y) = Int32.ofInt (zcmp x y) := by
  have e1 : (Int64.ofInt x > Int64.ofInt y) ↔ y < x := by
    show Int64.ofInt y < Int64.ofInt x ↔ _
    rw [Int64.lt_iff_toInt_lt, zR6_toInt hx, zR6_toInt hy]
  have e2 : (Int64.ofInt x = Int64.ofInt y) ↔ x = y := by
    rw [← Int64.toInt_inj, zR6_toInt hx, zR6_toInt hy]
  unfold lg_cmp zcmp
  by_cases h1 : y < x
  · rw [if_pos (e1.mpr h1), if_pos h1]; rfl
  · rw [if_neg (fun q => h1 (e1.mp q)), if_neg h1]
    by_cases h2 : x = y
    · rw [if_pos (e2.mpr h2), if_pos h2]; rfl
    · rw [if_neg (fun q => h2 (e2.mp q)), if_neg h2]; rfl
theorem zcmp_R (x y : Int) : zR (zcmp x y) := by
  unfold zcmp zR
  split
  · omega
  · split <;> omega
def w_lcmp (K : WP) : WP := fun ls st g D => pJ st fun y t => pJ t fun x t2 => K ls (zi (zcmp x y) :: t2) g D
def w_i2l (K : WP) : WP := fun ls st g D => pI st fun x t => K ls (zl x :: t) g D
def w_l2i (K : WP) : WP := fun ls st g D => pJ st fun x t => zR x ∧ K ls (zi x :: t) g D
theorem S_lcmp (hd : decode (mC M) pc = .ok (.lcmp, 1)) (k : z_Snd M E (pc + 1) K) : z_Snd M E pc (w_lcmp K) := by
  intro ls st g D hw X p l e R s m args below meth c Z b H locs cells slots arr n0 s0 hr hc hrel hlv hol hos
  obtain ⟨y, t, rfl, hA⟩ := pJ_e hw
  obtain ⟨x, t2, rfl, hB⟩ := pJ_e hA
  refine W.lcmp hr.1 hr.2.1 hd ?_
  rw [zcmp_lg (z_oks_h (z_oks_t hos)) (z_oks_h hos)]
  exact k _ _ _ _ hB hr hc hrel hlv hol (z_oks_c (zcmp_R _ _) (z_oks_t (z_oks_t hos)))
theorem S_i2l (hd : decode (mC M) pc = .ok (.i2l, 1)) (k : z_Snd M E (pc + 1) K) : z_Snd M E pc (w_i2l K) := by
  intro ls st g D hw X p l e R s m args below meth c Z b H locs cells slots arr n0 s0 hr hc hrel hlv hol hos
  obtain ⟨x, t, rfl, hA⟩ := pI_e hw
  have e := z_i2l (z_oks_h hos)
  refine lv_i2l hr.1 hr.2.1 hd e.1 ?_
  exact k _ _ _ _ hA hr hc hrel hlv hol (z_oks_c e.2 (z_oks_t hos))
theorem S_l2i (hd : decode (mC M) pc = .ok (.l2i, 1)) (k : z_Snd M E (pc + 1) K) : z_Snd M E pc (w_l2i K) := by
  intro ls st g D hw X p l e R s m args below meth c Z b H locs cells slots arr n0 s0 hr hc hrel hlv hol hos
  obtain ⟨x, t, rfl, h0, hA⟩ := pJ_e hw
  refine lv_l2i hr.1 hr.2.1 (v := Int32.ofInt x) hd Int64.toInt32_ofInt ?_
  exact k _ _ _ _ hA hr hc hrel hlv hol (z_oks_c h0 (z_oks_t hos))
-- the stack
def w_dup (K : WP) : WP := fun ls st g D => pV st fun v t => z_c1 v ∧ K ls (v :: v :: t) g D
def w_pop (K : WP) : WP := fun ls st g D => pV st fun v t => z_c1 v ∧ K ls t g D
def w_dup2 (K : WP) : WP := fun ls st g D => pV st fun v t => pV t fun u t2 => z_c1 v ∧ z_c1 u ∧ K ls (v :: u :: v :: u :: t2) g D
theorem S_dup (hd : decode (mC M) pc = .ok (.dup, 1)) (k : z_Snd M E (pc + 1) K) : z_Snd M E pc (w_dup K) := by
  intro ls st g D hw X p l e R s m args below meth c Z b H locs cells slots arr n0 s0 hr hc hrel hlv hol hos
  obtain ⟨v, t, rfl, h0, hA⟩ := pV_e hw
  refine lv_dup hr.1 hr.2.1 hd (c1_e h0) ?_
  exact k _ _ _ _ hA hr hc hrel hlv hol (z_oks_c (z_oks_h hos) hos)
theorem S_pop (hd : decode (mC M) pc = .ok (.pop, 1)) (k : z_Snd M E (pc + 1) K) : z_Snd M E pc (w_pop K) := by
  intro ls st g D hw X p l e R s m args below meth c Z b H locs cells slots arr n0 s0 hr hc hrel hlv hol hos
  obtain ⟨v, t, rfl, h0, hA⟩ := pV_e hw
  refine lv_pop hr.1 hr.2.1 hd (c1_e h0) ?_
  exact k _ _ _ _ hA hr hc hrel hlv hol (z_oks_t hos)
theorem S_dup2 (hd : decode (mC M) pc = .ok (.dup2, 1)) (k : z_Snd M E (pc + 1) K) : z_Snd M E pc (w_dup2 K) := by
  intro ls st g D hw X p l e R s m args below meth c Z b H locs cells slots arr n0 s0 hr hc hrel hlv hol hos
  obtain ⟨v, t, rfl, hA⟩ := pV_e hw
  obtain ⟨u, t2, rfl, h0, h1, hB⟩ := pV_e hA
  refine lv_dup2_11 hr.1 hr.2.1 hd (c1_e h0) (c1_e h1) ?_
  exact k _ _ _ _ hB hr hc hrel hlv hol (z_oks_c (z_oks_h hos) (z_oks_c (z_oks_h (z_oks_t hos)) hos))
-- branches
def w_ieq (K1 K2 : WP) : WP := fun ls st g D => pI st fun y t => pI t fun x t2 => (x = y → K1 ls t2 g D) ∧ (¬ (x = y) → K2 ls t2 g D)
def w_zeq (K1 K2 : WP) : WP := fun ls st g D => pI st fun x t => (x = 0 → K1 ls t g D) ∧ (¬ (x = 0) → K2 ls t g D)
theorem S_ieq {off : Int} {tgt : Nat} (hd : decode (mC M) pc = .ok (.if_icmp .eq off, 3)) (ht : (pc : Int) + off = (tgt : Int)) (k1 : z_Snd M E tgt K1) (k2 : z_Snd M E (pc + 3) K2) : z_Snd M E pc (w_ieq K1 K2) := by
  intro ls st g D hw X p l e R s m args below meth c Z b H locs cells slots arr n0 s0 hr hc hrel hlv hol hos
  obtain ⟨y, t, rfl, hA⟩ := pI_e hw
  obtain ⟨x, t2, rfl, h1, h2⟩ := pI_e hA
  have hy := z_oks_h hos
  have hx := z_oks_h (z_oks_t hos)
  refine lv_icmp_eq hr.1 hr.2.1 hd ht (fun q => ?_) (fun q => ?_)
  · exact k1 _ _ _ _ (h1 ((zR_eq hx hy).mp q)) hr hc hrel hlv hol (z_oks_t (z_oks_t hos))
  · exact k2 _ _ _ _ (h2 (fun w => q ((zR_eq hx hy).mpr w))) hr hc hrel hlv hol (z_oks_t (z_oks_t hos))
theorem S_zeq {off : Int} {tgt : Nat} (hd : decode (mC M) pc = .ok (.ifCond .eq off, 3)) (ht : (pc : Int) + off = (tgt : Int)) (k1 : z_Snd M E tgt K1) (k2 : z_Snd M E (pc + 3) K2) : z_Snd M E pc (w_zeq K1 K2) := by
  intro ls st g D hw X p l e R s m args below meth c Z b H locs cells slots arr n0 s0 hr hc hrel hlv hol hos
  obtain ⟨x, t2, rfl, h1, h2⟩ := pI_e hw
  have hx := z_oks_h hos
  refine lv_if_eq hr.1 hr.2.1 hd ht (fun q => ?_) (fun q => ?_)
  · exact k1 _ _ _ _ (h1 ((zR_eq hx zR_0).mp q)) hr hc hrel hlv hol (z_oks_t hos)
  · exact k2 _ _ _ _ (h2 (fun w => q ((zR_eq hx zR_0).mpr w))) hr hc hrel hlv hol (z_oks_t hos)
def w_ine (K1 K2 : WP) : WP := fun ls st g D => pI st fun y t => pI t fun x t2 => (¬ x = y → K1 ls t2 g D) ∧ (¬ (¬ x = y) → K2 ls t2 g D)
def w_zne (K1 K2 : WP) : WP := fun ls st g D => pI st fun x t => (¬ x = 0 → K1 ls t g D) ∧ (¬ (¬ x = 0) → K2 ls t g D)
theorem S_ine {off : Int} {tgt : Nat} (hd : decode (mC M) pc = .ok (.if_icmp .ne off, 3)) (ht : (pc : Int) + off = (tgt : Int)) (k1 : z_Snd M E tgt K1) (k2 : z_Snd M E (pc + 3) K2) : z_Snd M E pc (w_ine K1 K2) := by
  intro ls st g D hw X p l e R s m args below meth c Z b H locs cells slots arr n0 s0 hr hc hrel hlv hol hos
  obtain ⟨y, t, rfl, hA⟩ := pI_e hw
  obtain ⟨x, t2, rfl, h1, h2⟩ := pI_e hA
  have hy := z_oks_h hos
  have hx := z_oks_h (z_oks_t hos)
  refine lv_icmp_ne hr.1 hr.2.1 hd ht (fun q => ?_) (fun q => ?_)
  · exact k1 _ _ _ _ (h1 (fun w => q ((zR_eq hx hy).mpr w))) hr hc hrel hlv hol (z_oks_t (z_oks_t hos))
  · exact k2 _ _ _ _ (h2 (fun w => w ((zR_eq hx hy).mp q))) hr hc hrel hlv hol (z_oks_t (z_oks_t hos))
theorem S_zne {off : Int} {tgt : Nat} (hd : decode (mC M) pc = .ok (.ifCond .ne off, 3)) (ht : (pc : Int) + off = (tgt : Int)) (k1 : z_Snd M E tgt K1) (k2 : z_Snd M E (pc + 3) K2) : z_Snd M E pc (w_zne K1 K2) := by
  intro ls st g D hw X p l e R s m args below meth c Z b H locs cells slots arr n0 s0 hr hc hrel hlv hol hos
  obtain ⟨x, t2, rfl, h1, h2⟩ := pI_e hw
  have hx := z_oks_h hos
  refine lv_if_ne hr.1 hr.2.1 hd ht (fun q => ?_) (fun q => ?_)
  · exact k1 _ _ _ _ (h1 (fun w => q ((zR_eq hx zR_0).mpr w))) hr hc hrel hlv hol (z_oks_t hos)
  · exact k2 _ _ _ _ (h2 (fun w => w ((zR_eq hx zR_0).mp q))) hr hc hrel hlv hol (z_oks_t hos)
def w_ilt (K1 K2 : WP) : WP := fun ls st g D => pI st fun y t => pI t fun x t2 => (x < y → K1 ls t2 g D) ∧ (¬ (x < y) → K2 ls t2 g D)
def w_zlt (K1 K2 : WP) : WP := fun ls st g D => pI st fun x t => (x < 0 → K1 ls t g D) ∧ (¬ (x < 0) → K2 ls t g D)
theorem S_ilt {off : Int} {tgt : Nat} (hd : decode (mC M) pc = .ok (.if_icmp .lt off, 3)) (ht : (pc : Int) + off = (tgt : Int)) (k1 : z_Snd M E tgt K1) (k2 : z_Snd M E (pc + 3) K2) : z_Snd M E pc (w_ilt K1 K2) := by
  intro ls st g D hw X p l e R s m args below meth c Z b H locs cells slots arr n0 s0 hr hc hrel hlv hol hos
  obtain ⟨y, t, rfl, hA⟩ := pI_e hw
  obtain ⟨x, t2, rfl, h1, h2⟩ := pI_e hA
  have hy := z_oks_h hos
  have hx := z_oks_h (z_oks_t hos)
  refine lv_icmp_lt hr.1 hr.2.1 hd ht (fun q => ?_) (fun q => ?_)
  · exact k1 _ _ _ _ (h1 ((zR_lt hx hy).mp q)) hr hc hrel hlv hol (z_oks_t (z_oks_t hos))
  · exact k2 _ _ _ _ (h2 (fun w => q ((zR_lt hx hy).mpr w))) hr hc hrel hlv hol (z_oks_t (z_oks_t hos))
theorem S_zlt {off : Int} {tgt : Nat} (hd : decode (mC M) pc = .ok (.ifCond .lt off, 3)) (ht : (pc : Int) + off = (tgt : Int)) (k1 : z_Snd M E tgt K1) (k2 : z_Snd M E (pc + 3) K2) : z_Snd M E pc (w_zlt K1 K2) := by
  intro ls st g D hw X p l e R s m args below meth c Z b H locs cells slots arr n0 s0 hr hc hrel hlv hol hos
  obtain ⟨x, t2, rfl, h1, h2⟩ := pI_e hw
  have hx := z_oks_h hos
  refine lv_if_lt hr.1 hr.2.1 hd ht (fun q => ?_) (fun q => ?_)
  · exact k1 _ _ _ _ (h1 ((zR_lt hx zR_0).mp q)) hr hc hrel hlv hol (z_oks_t hos)
  · exact k2 _ _ _ _ (h2 (fun w => q ((zR_lt hx zR_0).mpr w))) hr hc hrel hlv hol (z_oks_t hos)
def w_ige (K1 K2 : WP) : WP := fun ls st g D => pI st fun y t => pI t fun x t2 => (y ≤ x → K1 ls t2 g D) ∧ (¬ (y ≤ x) → K2 ls t2 g D)
def w_zge (K1 K2 : WP) : WP := fun ls st g D => pI st fun x t => (0 ≤ x → K1 ls t g D) ∧ (¬ (0 ≤ x) → K2 ls t g D)
theorem S_ige {off : Int} {tgt : Nat} (hd : decode (mC M) pc = .ok (.if_icmp .ge off, 3)) (ht : (pc : Int) + off = (tgt : Int)) (k1 : z_Snd M E tgt K1) (k2 : z_Snd M E (pc + 3) K2) : z_Snd M E pc (w_ige K1 K2) := by
  intro ls st g D hw X p l e R s m args below meth c Z b H locs cells slots arr n0 s0 hr hc hrel hlv hol hos
  obtain ⟨y, t, rfl, hA⟩ := pI_e hw
  obtain ⟨x, t2, rfl, h1, h2⟩ := pI_e hA
  have hy := z_oks_h hos
  have hx := z_oks_h (z_oks_t hos)
  refine lv_icmp_ge hr.1 hr.2.1 hd ht (fun q => ?_) (fun q => ?_)
  · exact k1 _ _ _ _ (h1 ((zR_le hy hx).mp q)) hr hc hrel hlv hol (z_oks_t (z_oks_t hos))
  · exact k2 _ _ _ _ (h2 (fun w => q ((zR_le hy hx).mpr w))) hr hc hrel hlv hol (z_oks_t (z_oks_t hos))
theorem S_zge {off : Int} {tgt : Nat} (hd : decode (mC M) pc = .ok (.ifCond .ge off, 3)) (ht : (pc : Int) + off = (tgt : Int)) (k1 : z_Snd M E tgt K1) (k2 : z_Snd M E (pc + 3) K2) : z_Snd M E pc (w_zge K1 K2) := by
  intro ls st g D hw X p l e R s m args below meth c Z b H locs cells slots arr n0 s0 hr hc hrel hlv hol hos
  obtain ⟨x, t2, rfl, h1, h2⟩ := pI_e hw
  have hx := z_oks_h hos
  refine lv_if_ge hr.1 hr.2.1 hd ht (fun q => ?_) (fun q => ?_)
  · exact k1 _ _ _ _ (h1 ((zR_le zR_0 hx).mp q)) hr hc hrel hlv hol (z_oks_t hos)
  · exact k2 _ _ _ _ (h2 (fun w => q ((zR_le zR_0 hx).mpr w))) hr hc hrel hlv hol (z_oks_t hos)
def w_igt (K1 K2 : WP) : WP := fun ls st g D => pI st fun y t => pI t fun x t2 => (y < x → K1 ls t2 g D) ∧ (¬ (y < x) → K2 ls t2 g D)
def w_zgt (K1 K2 : WP) : WP := fun ls st g D => pI st fun x t => (0 < x → K1 ls t g D) ∧ (¬ (0 < x) → K2 ls t g D)
theorem S_igt {off : Int} {tgt : Nat} (hd : decode (mC M) pc = .ok (.if_icmp .gt off, 3)) (ht : (pc : Int) + off = (tgt : Int)) (k1 : z_Snd M E tgt K1) (k2 : z_Snd M E (pc + 3) K2) : z_Snd M E pc (w_igt K1 K2) := by
  intro ls st g D hw X p l e R s m args below meth c Z b H locs cells slots arr n0 s0 hr hc hrel hlv hol hos
  obtain ⟨y, t, rfl, hA⟩ := pI_e hw
  obtain ⟨x, t2, rfl, h1, h2⟩ := pI_e hA
  have hy := z_oks_h hos
  have hx := z_oks_h (z_oks_t hos)
  refine lv_icmp_gt hr.1 hr.2.1 hd ht (fun q => ?_) (fun q => ?_)
  · exact k1 _ _ _ _ (h1 ((zR_lt hy hx).mp q)) hr hc hrel hlv hol (z_oks_t (z_oks_t hos))
  · exact k2 _ _ _ _ (h2 (fun w => q ((zR_lt hy hx).mpr w))) hr hc hrel hlv hol (z_oks_t (z_oks_t hos))
theorem S_zgt {off : Int} {tgt : Nat} (hd : decode (mC M) pc = .ok (.ifCond .gt off, 3)) (ht : (pc : Int) + off = (tgt : Int)) (k1 : z_Snd M E tgt K1) (k2 : z_Snd M E (pc + 3) K2) : z_Snd M E pc (w_zgt K1 K2) := by
  intro ls st g D hw X p l e R s m args below meth c Z b H locs cells slots arr n0 s0 hr hc hrel hlv hol hos
  obtain ⟨x, t2, rfl, h1, h2⟩ := pI_e hw
  have hx := z_oks_h hos
  refine lv_if_gt hr.1 hr.2.1 hd ht (fun q => ?_) (fun q => ?_)
  · exact k1 _ _ _ _ (h1 ((zR_lt zR_0 hx).mp q)) hr hc hrel hlv hol (z_oks_t hos)
  · exact k2 _ _ _ _ (h2 (fun w => q ((zR_lt zR_0 hx).mpr w))) hr hc hrel hlv hol (z_oks_t hos)
def w_ile (K1 K2 : WP) : WP := fun ls st g D => pI st fun y t => pI t fun x t2 => (x ≤ y → K1 ls t2 g D) ∧ (¬ (x ≤ y) → K2 ls t2 g D)
def w_zle (K1 K2 : WP) : WP := fun ls st g D => pI st fun x t => (x ≤ 0 → K1 ls t g D) ∧ (¬ (x ≤ 0) → K2 ls t g D)
theorem S_ile {off : Int} {tgt : Nat} (hd : decode (mC M) pc = .ok (.if_icmp .le off, 3)) (ht : (pc : Int) + off = (tgt : Int)) (k1 : z_Snd M E tgt K1) (k2 : z_Snd M E (pc + 3) K2) : z_Snd M E pc (w_ile K1 K2) := by
  intro ls st g D hw X p l e R s m args below meth c Z b H locs cells slots arr n0 s0 hr hc hrel hlv hol hos
  obtain ⟨y, t, rfl, hA⟩ := pI_e hw
  obtain ⟨x, t2, rfl, h1, h2⟩ := pI_e hA
  have hy := z_oks_h hos
  have hx := z_oks_h (z_oks_t hos)
  refine lv_icmp_le hr.1 hr.2.1 hd ht (fun q => ?_) (fun q => ?_)
  · exact k1 _ _ _ _ (h1 ((zR_le hx hy).mp q)) hr hc hrel hlv hol (z_oks_t (z_oks_t hos))
  · exact k2 _ _ _ _ (h2 (fun w => q ((zR_le hx hy).mpr w))) hr hc hrel hlv hol (z_oks_t (z_oks_t hos))
theorem S_zle {off : Int} {tgt : Nat} (hd : decode (mC M) pc = .ok (.ifCond .le off, 3)) (ht : (pc : Int) + off = (tgt : Int)) (k1 : z_Snd M E tgt K1) (k2 : z_Snd M E (pc + 3) K2) : z_Snd M E pc (w_zle K1 K2) := by
  intro ls st g D hw X p l e R s m args below meth c Z b H locs cells slots arr n0 s0 hr hc hrel hlv hol hos
  obtain ⟨x, t2, rfl, h1, h2⟩ := pI_e hw
  have hx := z_oks_h hos
  refine lv_if_le hr.1 hr.2.1 hd ht (fun q => ?_) (fun q => ?_)
  · exact k1 _ _ _ _ (h1 ((zR_le hx zR_0).mp q)) hr hc hrel hlv hol (z_oks_t hos)
  · exact k2 _ _ _ _ (h2 (fun w => q ((zR_le hx zR_0).mpr w))) hr hc hrel hlv hol (z_oks_t hos)
theorem S_goto {off : Int} {tgt : Nat} (hd : decode (mC M) pc = .ok (.goto off, 3)) (ht : (pc : Int) + off = (tgt : Int)) (k : z_Snd M E tgt K) : z_Snd M E pc K := by
  intro ls st g D hw X p l e R s m args below meth c Z b H locs cells slots arr n0 s0 hr hc hrel hlv hol hos
  refine lv_goto hr.1 hr.2.1 hd ht ?_
  exact k _ _ _ _ hw hr hc hrel hlv hol hos
def w_cut (M : MI) (E : En) (pc : Nat) : WP := fun ls st g D => z_WF M E pc ls st g D
theorem S_cut : z_Snd M E pc (w_cut M E pc) := fun _ _ _ _ h => h
def zsw : List Nat → Int → Int → (Nat → Prop) → Prop
  | [], _, _, _ => True
  | t :: r, lo, x, f => (x = lo → f t) ∧ zsw r (lo + 1) x f
theorem zsw_e : ∀ {ts : List Nat} {lo x : Int} {f : Nat → Prop}, zsw ts lo x f → ∀ (j t : Nat), ts[j]? = some t → x = lo + j → f t
  | [], _, _, _, _, j, t, h, _ => by simp at h
  | a :: r, lo, x, f, hz, 0, t, h, e => by
    cases h
    exact hz.1 (by omega)
  | a :: r, lo, x, f, hz, j + 1, t, h, e => by
    exact zsw_e hz.2 j t h (by omega)
/-- a switch: each way leads to a place of its own -/
def w_tsw (M : MI) (E : En) (lo : Int) (ts : List Nat) (d : Nat) : WP := fun ls st g D => pI st fun x t => zsw ts lo x (fun q => z_WF M E q ls t g D) ∧ ((x < lo ∨ lo + (ts.length : Int) ≤ x) → z_WF M E d ls t g D)
theorem S_tsw {lo hi dflt : Int} {offs : Array Int} {len d : Nat} {ts : List Nat} (hd : decode (mC M) pc = .ok (.tableswitch dflt lo hi offs, len)) (hh : hi + 1 = lo + (ts.length : Int)) (h0 : (pc : Int) + dflt = (d : Int)) (ho : offs.toList.map (fun off => (pc : Int) + off) = (ts.map fun t : Nat => (t : Int))) : z_Snd M E pc (w_tsw M E lo ts d) := by
  intro ls st g D hw X p l e R s m args below meth c Z b H locs cells slots arr n0 s0 hr hc hrel hlv hol hos
  obtain ⟨x, t, rfl, h1, h2⟩ := pI_e hw
  have hx : zR x := z_oks_h hos
  by_cases hq : x < lo ∨ hi < x
  · refine lv_tableOut hr.1 hr.2.1 hd (tgt := d) (by rw [zR_toInt hx]; exact hq) h0 ?_
    exact h2 (by omega) hr hc hrel hlv hol (z_oks_t hos)
  · have hj : (x - lo).toNat < ts.length := by omega
    have hlen : offs.size = ts.length := by
      have := congrArg List.length ho
      simpa using this
    have hjo : (x - lo).toNat < offs.size := by omega
    have e1 : (pc : Int) + offs[(x - lo).toNat] = (ts[(x - lo).toNat] : Int) := by
      have e2 := congrArg (fun l => l[(x - lo).toNat]?) ho
      simp only [List.getElem?_map, Array.getElem?_toList] at e2
      rw [Array.getElem?_eq_getElem hjo, List.getElem?_eq_getElem hj] at e2
      simpa using e2
    refine lv_tableIn hr.1 hr.2.1 hd (off := offs[(x - lo).toNat]) (tgt := ts[(x - lo).toNat]) (by rw [zR_toInt hx]; omega) (by rw [zR_toInt hx]; omega) (by rw [zR_toInt hx]; exact Array.getElem?_eq_getElem hjo) e1 ?_
    exact zsw_e h1 (x - lo).toNat _ (List.getElem?_eq_getElem hj) (by omega) hr hc hrel hlv hol (z_oks_t hos)
-- ends
def w_iret (E : En) : WP := fun _ st g D => pI st fun x t => t = [] ∧ g.1 = E.1.1 ∧ g.2.1 = E.1.2 ∧ E.2.2 x g D
def w_zret (E : En) : WP := fun _ st g D => pI st fun x t => t = [] ∧ g.1 = E.1.1 ∧ g.2.1 = E.1.2 ∧ (x = 0 ∨ x = 1) ∧ E.2.2 x g D
def w_lret (E : En) : WP := fun _ st g D => pJ st fun x t => t = [] ∧ g.1 = E.1.1 ∧ g.2.1 = E.1.2 ∧ E.2.2 x g D
def w_vret (E : En) : WP := fun _ st g D => st = [] ∧ g.1 = E.1.1 ∧ g.2.1 = E.1.2 ∧ E.2.2 0 g D
theorem z_fin {M : MI} {E : En} {X : Xe} {p : Program} {l : Launch} {e : Env} {R : Room} {s : State} {m : MethodId} {args : Array Value} {below : List Frame} {meth : Method} {c : Code} {Z : State → Prop} {b n0 s0 : Nat} {H : Heap} {locs : List Loc} {cells slots : Nat} {arr : Array Slot} {g : Gm} {D : Mem} {x : Int} {pc : Nat} (hr : z_Run M E X p l e R s m args below meth c Z b n0 s0) (hc : z_Cn E n0 s0 g cells slots) (hrel : z_Rel X g D s H locs) (h1 : g.1 = E.1.1) (h2 : g.2.1 = E.1.2) (hok : z_rok (mR M) x) (hQ : E.2.2 x g D) (hd : decode (mC M) pc = .ok (z_ri (mR M), 1)) : W p l e R s m args below meth c H locs cells slots Z (F0 m pc arr (z_rs (mR M) x)) :=
  hr.2.2.2.2.2.2.2.2.2.2 H locs g D x pc cells slots arr hrel hQ h1 h2 hc hok hd
theorem S_iret (hd : decode (mC M) pc = .ok (.ireturn, 1)) (ht : mR M = some .int) : z_Snd M E pc (w_iret E) := by
  intro ls st g D hw X p l e R s m args below meth c Z b H locs cells slots arr n0 s0 hr hc hrel hlv hol hos
  obtain ⟨x, t, rfl, rfl, h1, h2, h⟩ := pI_e hw
  have h9 := z_fin (x := x) (pc := pc) (arr := arr) hr hc hrel h1 h2 (by rw [ht]; exact ⟨z_oks_h hos, rfl⟩) h (by rw [ht]; exact hd)
  rw [ht] at h9
  exact h9
theorem S_zret (hd : decode (mC M) pc = .ok (.ireturn, 1)) (ht : mR M = some .boolean) : z_Snd M E pc (w_zret E) := by
  intro ls st g D hw X p l e R s m args below meth c Z b H locs cells slots arr n0 s0 hr hc hrel hlv hol hos
  obtain ⟨x, t, rfl, rfl, h1, h2, h0, h⟩ := pI_e hw
  have h9 := z_fin (x := x) (pc := pc) (arr := arr) hr hc hrel h1 h2 (by rw [ht]; exact ⟨z_oks_h hos, by rcases h0 with rfl | rfl <;> rfl⟩) h (by rw [ht]; exact hd)
  rw [ht] at h9
  exact h9
theorem S_lret (hd : decode (mC M) pc = .ok (.lreturn, 1)) (ht : mR M = some .long) : z_Snd M E pc (w_lret E) := by
  intro ls st g D hw X p l e R s m args below meth c Z b H locs cells slots arr n0 s0 hr hc hrel hlv hol hos
  obtain ⟨x, t, rfl, rfl, h1, h2, h⟩ := pJ_e hw
  have h9 := z_fin (x := x) (pc := pc) (arr := arr) hr hc hrel h1 h2 (by rw [ht]; exact z_oks_h hos) h (by rw [ht]; exact hd)
  rw [ht] at h9
  exact h9
theorem S_vret (hd : decode (mC M) pc = .ok (.return_, 1)) (ht : mR M = none) : z_Snd M E pc (w_vret E) := by
  intro ls st g D hw X p l e R s m args below meth c Z b H locs cells slots arr n0 s0 hr hc hrel hlv hol hos
  obtain ⟨rfl, h1, h2, h⟩ := hw
  have h9 := z_fin (x := 0) (pc := pc) (arr := arr) hr hc hrel h1 h2 (by rw [ht]; rfl) h (by rw [ht]; exact hd)
  rw [ht] at h9
  exact h9
end Rows
end
section
/-! ===== 05: fields, arrays, new objects, calls ===== -/
/-- a field's link, decided by program -/
def z_FD (own : String) (idx ci k : Nat) : Prop := ∃ (C : String) (T : u_T) (N : Nat), clsL[ci]? = some (C, T, N) ∧ k < N ∧ (∀ w ∈ u_ws C T N, w ∈ z_tb) ∧ Cond.fieldLink own idx (T k).1 (T k).2.1 (T k).2.2.1 ∈ z_tb
def z_FP (own : String) (idx ci k : Nat) (fin : Bool) (ty : FieldType) : Prop := ∃ (C : String) (T : u_T) (N : Nat) (ty0 : Nat → FieldType), clsL[ci]? = some (C, T, N) ∧ k < N ∧ (∀ w ∈ u_ws C T N, w ∈ z_tb) ∧ Cond.fieldLink own idx (T k).1 (T k).2.1 (T k).2.2.1 ∈ z_tb ∧ (∀ k, k < N → parseFieldDescriptor (T k).2.2.1 = some (ty0 k)) ∧ (∀ a, a < N → ∀ b, b < N → a ≠ b → (T a).2.1 ≠ (T b).2.1) ∧ (T k).2.2.2 = fin ∧ ty0 k = ty ∧ (T k).1 = own
/-- a new object's link -/
def z_NW (own : String) (idx ci : Nat) (ks : List Kd) : Prop := ∃ (C : String) (T : u_T) (N : Nat) (ty : Nat → FieldType), clsL[ci]? = some (C, T, N) ∧ (∀ w ∈ u_ws C T N, w ∈ z_tb) ∧ (∀ k, k < N → parseFieldDescriptor (T k).2.2.1 = some (ty k)) ∧ Cond.classLink own idx C ∈ z_tb ∧ Cond.instantiable C N ∈ z_tb ∧ Cond.initialized C ∈ z_tb ∧ ks.length = N ∧ ∀ X : Xe, ∀ j, j < N → defaultValue (ty j) = vp_V (ks.mapIdx (fun j kd => z_fv X (fun _ => 0) j kd)) j
/-- behind new: one object more, its fields 0 -/
def zNew (g : Gm) (sh : Sh) (sl : Nat) : Gm := (g.1 + 1, g.2.1 + sl, fun o => if o = g.1 then sh else g.2.2 o)
def zZ (D : Mem) (o : Nat) : Mem := fun o' k => if o' = o then 0 else D o' k
def zSR (g : Gm) (o k t : Nat) : Gm := (g.1, g.2.1, fun o' => if o' = o then (match g.2.2 o with
  | .inl (ci, ks) => .inl (ci, ks.set k (.inl t))
  | x => x) else g.2.2 o')
/-- what comes behind arraycopy -/
def zCp (D : Mem) (src : Nat) (sp : Int) (dst : Nat) (dp n : Int) : Mem := fun o j => if o = dst ∧ dp ≤ j ∧ j < dp + n then D src (sp + (j - dp)) else D o j
section Heap
variable {M : MI} {E : En} {pc : Nat} {K : WP}
def w_getI (ci k : Nat) (j : Int) (kd : Nat) (K : WP) : WP := fun ls st g D => pA st fun o t => z_f g o ci k kd ∧ K ls (zi (D o j) :: t) g D
def w_getJ (ci k : Nat) (j : Int) (K : WP) : WP := fun ls st g D => pA st fun o t => z_f g o ci k 2 ∧ K ls (zl (D o j) :: t) g D
def w_getR (ci k : Nat) (K : WP) : WP := fun ls st g D => pA st fun o t => z_fr g o ci k (zf g o k) ∧ K ls (zr (zf g o k) :: t) g D
def w_putI (ci k : Nat) (j : Int) (K : WP) : WP := fun ls st g D => pI st fun x t => pA t fun o t2 => z_f g o ci k 0 ∧ K ls t2 g (zU D o j x)
def w_putZ (ci k : Nat) (j : Int) (K : WP) : WP := fun ls st g D => pI st fun x t => pA t fun o t2 => z_f g o ci k 1 ∧ (x = 0 ∨ x = 1) ∧ K ls t2 g (zU D o j x)
def w_putJ (ci k : Nat) (j : Int) (K : WP) : WP := fun ls st g D => pJ st fun x t => pA t fun o t2 => z_f g o ci k 2 ∧ K ls t2 g (zU D o j x)
def w_putR (ci k : Nat) (K : WP) : WP := fun ls st g D => pA st fun x t => pA t fun o t2 => z_f g o ci k 3 ∧ K ls t2 (zSR g o k x) D
theorem z_ls_len {X : Xe} {f : Int → Int} {ks : List Kd} : (ks.mapIdx (fun j kd => z_fv X f j kd)).length = ks.length := by simp
theorem z_fv_get {X : Xe} {f : Int → Int} {ks : List Kd} {k : Nat} {kd : Kd} (h : ks[k]? = some kd) : (ks.mapIdx (fun j kd => z_fv X f j kd))[k]? = some (z_fv X f k kd) := by
  rw [List.getElem?_mapIdx, h]; rfl
theorem S_getI {ci kf idx kd : Nat} {j : Int} (hd : decode (mC M) pc = .ok (.getfield idx, 3)) (hf : z_FD (mY M).cls idx ci kf) (hj : (kf : Int) = j) (hkd : kd ≤ 1) (k : z_Snd M E (pc + 3) K) : z_Snd M E pc (w_getI ci kf j kd K) := by
  intro ls st g D hw X p l e R s m args below meth c Z b H locs cells slots arr n0 s0 hr hc hrel hlv hol hos
  obtain ⟨o, t, rfl, ⟨ho, ks, hsh, hkk⟩, hA⟩ := pA_e hw
  obtain ⟨C, T, N, hcl, hk, hin, hlk⟩ := hf
  subst hj
  have hD := hrel.2.2 o ho
  rw [hsh] at hD
  have hv : z_ok (zi (D o (kf : Int))) := by
    have h7 := hD kf
    by_cases e0 : kd = 0
    · subst e0; exact h7.1 hkk
    · have e1 : kd = 1 := by omega
      subst e1
      rcases h7.2.1 hkk with q | q
      · rw [q]; exact zR_0
      · rw [q]; exact zR_1
  have hval : z_fv X (D o) kf (.inr kd) = .int (Int32.ofInt (D o (kf : Int))) := by
    have e2 : ¬ kd = 2 := by omega
    have e3 : ¬ kd = 3 := by omega
    simp [z_fv, e2, e3]
  refine va_get (D := X.1) (cl := clsL) (ws := z_ws X g D) hr.1 hr.2.1 hr.2.2.2.2.1 hin hr.2.2.2.1 hr.2.2.2.2.2.1.1 hrel.1 o (z_ws_obj ho hsh) hcl kf hk (hr.2.2.2.2.1 _ hlk) (fun _ q => q) (v := .int (Int32.ofInt (D o (kf : Int)))) (by rw [z_fv_get hkk, hval]) hd ?_
  exact k _ _ _ _ hA hr hc hrel hlv hol (z_oks_c hv (z_oks_t hos))
theorem S_getJ {ci kf idx : Nat} {j : Int} (hd : decode (mC M) pc = .ok (.getfield idx, 3)) (hf : z_FD (mY M).cls idx ci kf) (hj : (kf : Int) = j) (k : z_Snd M E (pc + 3) K) : z_Snd M E pc (w_getJ ci kf j K) := by
  intro ls st g D hw X p l e R s m args below meth c Z b H locs cells slots arr n0 s0 hr hc hrel hlv hol hos
  obtain ⟨o, t, rfl, ⟨ho, ks, hsh, hkk⟩, hA⟩ := pA_e hw
  obtain ⟨C, T, N, hcl, hk, hin, hlk⟩ := hf
  subst hj
  have hD := hrel.2.2 o ho
  rw [hsh] at hD
  have hv : z_ok (zl (D o (kf : Int))) := (hD kf).2.2 hkk
  refine va_get (D := X.1) (cl := clsL) (ws := z_ws X g D) hr.1 hr.2.1 hr.2.2.2.2.1 hin hr.2.2.2.1 hr.2.2.2.2.2.1.1 hrel.1 o (z_ws_obj ho hsh) hcl kf hk (hr.2.2.2.2.1 _ hlk) (fun _ q => q) (v := .long (Int64.ofInt (D o (kf : Int)))) (by rw [z_fv_get hkk]; rfl) hd ?_
  exact k _ _ _ _ hA hr hc hrel hlv hol (z_oks_c hv (z_oks_t hos))
theorem S_getR {ci kf idx : Nat} (hd : decode (mC M) pc = .ok (.getfield idx, 3)) (hf : z_FD (mY M).cls idx ci kf) (k : z_Snd M E (pc + 3) K) : z_Snd M E pc (w_getR ci kf K) := by
  intro ls st g D hw X p l e R s m args below meth c Z b H locs cells slots arr n0 s0 hr hc hrel hlv hol hos
  obtain ⟨o, t, rfl, ⟨ho, ks, hsh, hkk⟩, hA⟩ := pA_e hw
  obtain ⟨C, T, N, hcl, hk, hin, hlk⟩ := hf
  refine va_get (D := X.1) (cl := clsL) (ws := z_ws X g D) hr.1 hr.2.1 hr.2.2.2.2.1 hin hr.2.2.2.1 hr.2.2.2.2.2.1.1 hrel.1 o (z_ws_obj ho hsh) hcl kf hk (hr.2.2.2.2.1 _ hlk) (fun _ q => q) (v := .ref (X.2.2.2.1 + zf g o kf)) (by rw [z_fv_get hkk]; rfl) hd ?_
  exact k _ _ _ _ hA hr hc hrel hlv hol (z_oks_c trivial (z_oks_t hos))
theorem S_putI {ci kf idx : Nat} {j : Int} (hd : decode (mC M) pc = .ok (.putfield idx, 3)) (hf : z_FP (mY M).cls idx ci kf false .int) (hj : (kf : Int) = j) (k : z_Snd M E (pc + 3) K) : z_Snd M E pc (w_putI ci kf j K) := by
  intro ls st g D hw X p l e R s m args below meth c Z b H locs cells slots arr n0 s0 hr hc hrel hlv hol hos
  obtain ⟨x, t, rfl, hA⟩ := pI_e hw
  obtain ⟨o, t2, rfl, ⟨ho, ks, hsh, hkk⟩, hB⟩ := pA_e hA
  obtain ⟨C, T, N, ty0, hcl, hk, hin, hlk, hty, hnm, hfin, hety, hdc⟩ := hf
  subst hj
  have hx := z_oks_h hos
  refine va_put (D := X.1) (cl := clsL) (ws := z_ws X g D) hr.1 hr.2.1 hr.2.2.2.2.1 hin ty0 hty hnm hr.2.2.2.1 hr.2.2.2.2.2.1.1 hrel.1 z_D hrel.2.1 o (z_ws_obj ho hsh) hcl kf hk (hr.2.2.2.2.1 _ hlk) (fun _ q => q) hfin (ty := .int) (v := .int (Int32.ofInt x)) (by rw [hty kf hk, hety]) rfl rfl (by rw [z_ls_len]; exact (List.getElem?_eq_some_iff.mp hkk).1) hd (fun H1 locs1 hP1 hD1 hS1 => ?_)
  have e : (z_ws X g D).set o (X.2.2.2.1 + o, .inr (ci, (ks.mapIdx (fun j kd => z_fv X (D o) j kd)).set kf (.int (Int32.ofInt x)))) = z_ws X g (zU D o (kf : Int) x) := by
    rw [← z_ws_up, hsh, z_ent_up hkk]
    rfl
  rw [e] at hP1
  exact k _ _ _ _ hB hr hc ⟨hP1, hS1, z_in_up hrel.2.2 hsh hkk (fun q => hx) (fun q => absurd q (by decide)) (fun q => absurd q (by decide))⟩ hlv hol (z_oks_t (z_oks_t hos))
theorem S_putFI {ci kf idx : Nat} {j : Int} (hd : decode (mC M) pc = .ok (.putfield idx, 3)) (hf : z_FP (mY M).cls idx ci kf true .int) (hj : (kf : Int) = j) (hini : (mY M).name = "<init>") (k : z_Snd M E (pc + 3) K) : z_Snd M E pc (w_putI ci kf j K) := by
  intro ls st g D hw X p l e R s m args below meth c Z b H locs cells slots arr n0 s0 hr hc hrel hlv hol hos
  obtain ⟨x, t, rfl, hA⟩ := pI_e hw
  obtain ⟨o, t2, rfl, ⟨ho, ks, hsh, hkk⟩, hB⟩ := pA_e hA
  obtain ⟨C, T, N, ty0, hcl, hk, hin, hlk, hty, hnm, hfin, hety, hdc⟩ := hf
  subst hj
  have hx := z_oks_h hos
  have hname : meth.name = "<init>" := hr.2.2.2.2.2.2.2.2.1.trans hini
  refine va_putF (D := X.1) (cl := clsL) (ws := z_ws X g D) hr.1 hr.2.1 hr.2.2.2.2.1 hin ty0 hty hnm hr.2.2.2.1 hr.2.2.2.2.2.1.1 hrel.1 z_D hrel.2.1 o (z_ws_obj ho hsh) hcl kf hk (hr.2.2.2.2.1 _ hlk) (fun _ q => q) hfin hname hdc (ty := .int) (v := .int (Int32.ofInt x)) (by rw [hty kf hk, hety]) rfl rfl (by rw [z_ls_len]; exact (List.getElem?_eq_some_iff.mp hkk).1) hd (fun H1 locs1 hP1 hD1 hS1 => ?_)
  have e : (z_ws X g D).set o (X.2.2.2.1 + o, .inr (ci, (ks.mapIdx (fun j kd => z_fv X (D o) j kd)).set kf (.int (Int32.ofInt x)))) = z_ws X g (zU D o (kf : Int) x) := by
    rw [← z_ws_up, hsh, z_ent_up hkk]
    rfl
  rw [e] at hP1
  exact k _ _ _ _ hB hr hc ⟨hP1, hS1, z_in_up hrel.2.2 hsh hkk (fun q => hx) (fun q => absurd q (by decide)) (fun q => absurd q (by decide))⟩ hlv hol (z_oks_t (z_oks_t hos))
theorem S_putZ {ci kf idx : Nat} {j : Int} (hd : decode (mC M) pc = .ok (.putfield idx, 3)) (hf : z_FP (mY M).cls idx ci kf false .boolean) (hj : (kf : Int) = j) (k : z_Snd M E (pc + 3) K) : z_Snd M E pc (w_putZ ci kf j K) := by
  intro ls st g D hw X p l e R s m args below meth c Z b H locs cells slots arr n0 s0 hr hc hrel hlv hol hos
  obtain ⟨x, t, rfl, hA⟩ := pI_e hw
  obtain ⟨o, t2, rfl, ⟨ho, ks, hsh, hkk⟩, hz, hB⟩ := pA_e hA
  obtain ⟨C, T, N, ty0, hcl, hk, hin, hlk, hty, hnm, hfin, hety, hdc⟩ := hf
  subst hj
  have hx := z_oks_h hos
  refine va_put (D := X.1) (cl := clsL) (ws := z_ws X g D) hr.1 hr.2.1 hr.2.2.2.2.1 hin ty0 hty hnm hr.2.2.2.1 hr.2.2.2.2.2.1.1 hrel.1 z_D hrel.2.1 o (z_ws_obj ho hsh) hcl kf hk (hr.2.2.2.2.1 _ hlk) (fun _ q => q) hfin (ty := .boolean) (v := .int (Int32.ofInt x)) (by rw [hty kf hk, hety]) (by rcases hz with rfl | rfl <;> rfl) (by rcases hz with rfl | rfl <;> rfl) (by rw [z_ls_len]; exact (List.getElem?_eq_some_iff.mp hkk).1) hd (fun H1 locs1 hP1 hD1 hS1 => ?_)
  have e : (z_ws X g D).set o (X.2.2.2.1 + o, .inr (ci, (ks.mapIdx (fun j kd => z_fv X (D o) j kd)).set kf (.int (Int32.ofInt x)))) = z_ws X g (zU D o (kf : Int) x) := by
    rw [← z_ws_up, hsh, z_ent_up hkk]
    rfl
  rw [e] at hP1
  exact k _ _ _ _ hB hr hc ⟨hP1, hS1, z_in_up hrel.2.2 hsh hkk (fun q => absurd q (by decide)) (fun q => hz) (fun q => absurd q (by decide))⟩ hlv hol (z_oks_t (z_oks_t hos))
theorem S_putJ {ci kf idx : Nat} {j : Int} (hd : decode (mC M) pc = .ok (.putfield idx, 3)) (hf : z_FP (mY M).cls idx ci kf false .long) (hj : (kf : Int) = j) (k : z_Snd M E (pc + 3) K) : z_Snd M E pc (w_putJ ci kf j K) := by
  intro ls st g D hw X p l e R s m args below meth c Z b H locs cells slots arr n0 s0 hr hc hrel hlv hol hos
  obtain ⟨x, t, rfl, hA⟩ := pJ_e hw
  obtain ⟨o, t2, rfl, ⟨ho, ks, hsh, hkk⟩, hB⟩ := pA_e hA
  obtain ⟨C, T, N, ty0, hcl, hk, hin, hlk, hty, hnm, hfin, hety, hdc⟩ := hf
  subst hj
  have hx := z_oks_h hos
  refine va_put (D := X.1) (cl := clsL) (ws := z_ws X g D) hr.1 hr.2.1 hr.2.2.2.2.1 hin ty0 hty hnm hr.2.2.2.1 hr.2.2.2.2.2.1.1 hrel.1 z_D hrel.2.1 o (z_ws_obj ho hsh) hcl kf hk (hr.2.2.2.2.1 _ hlk) (fun _ q => q) hfin (ty := .long) (v := .long (Int64.ofInt x)) (by rw [hty kf hk, hety]) rfl rfl (by rw [z_ls_len]; exact (List.getElem?_eq_some_iff.mp hkk).1) hd (fun H1 locs1 hP1 hD1 hS1 => ?_)
  have e : (z_ws X g D).set o (X.2.2.2.1 + o, .inr (ci, (ks.mapIdx (fun j kd => z_fv X (D o) j kd)).set kf (.long (Int64.ofInt x)))) = z_ws X g (zU D o (kf : Int) x) := by
    rw [← z_ws_up, hsh, z_ent_up hkk]
    rfl
  rw [e] at hP1
  exact k _ _ _ _ hB hr hc ⟨hP1, hS1, z_in_up hrel.2.2 hsh hkk (fun q => absurd q (by decide)) (fun q => absurd q (by decide)) (fun q => hx)⟩ hlv hol (z_oks_t (z_oks_t hos))
def z_rty (ty : FieldType) : Prop := ∀ a : Nat, narrow ty (.ref a) = .ref a ∧ fits ty (.ref a) = true
theorem z_ws_sr {X : Xe} {g : Gm} {D : Mem} {o ci k t : Nat} {ks : List Kd} (ho : o < g.1) (hs : g.2.2 o = .inl (ci, ks)) (hk : k < ks.length) : (z_ws X g D).set o (X.2.2.2.1 + o, .inr (ci, (ks.mapIdx (fun j kd => z_fv X (D o) j kd)).set k (.ref (X.2.2.2.1 + t)))) = z_ws X (zSR g o k t) D := by
  have e1 : (zSR g o k t).2.2 o = .inl (ci, ks.set k (.inl t)) := by
    show (if o = o then _ else _) = _
    rw [if_pos rfl, hs]
  apply List.ext_getElem?
  intro i
  rw [List.getElem?_set]
  by_cases hi : i < g.1
  · by_cases hq : o = i
    · subst hq
      rw [if_pos rfl, if_pos (by simpa [z_ws] using hi), z_ws_get (g := zSR g o k t) hi, e1]
      congr 2
      show Sum.inr (ci, _) = Sum.inr (ci, _)
      congr 2
      apply List.ext_getElem?
      intro j
      rw [List.getElem?_set, List.getElem?_mapIdx, List.getElem?_mapIdx, List.getElem?_set, z_ls_len]
      by_cases hj : k = j
      · subst hj
        rw [if_pos rfl, if_pos rfl, if_pos hk, if_pos hk]
        rfl
      · rw [if_neg hj, if_neg hj]
    · rw [if_neg hq, z_ws_get hi, z_ws_get (g := zSR g o k t) hi]
      have : (zSR g o k t).2.2 i = g.2.2 i := by
        show (if i = o then _ else _) = _
        rw [if_neg (Ne.symm hq)]
      rw [this]
  · have e1 : (z_ws X g D)[i]? = none := by simp [z_ws]; omega
    have e2 : (z_ws X (zSR g o k t) D)[i]? = none := by simp [z_ws, zSR]; omega
    rw [e1, e2, if_neg (by omega)]
theorem z_in_sr {g : Gm} {D : Mem} {o k t ci : Nat} {ks : List Kd} (hin : z_in g D) (hs : g.2.2 o = .inl (ci, ks)) : z_in (zSR g o k t) D := by
  intro q hq
  have hD := hin q hq
  by_cases e : q = o
  · subst e
    have e1 : (zSR g q k t).2.2 q = .inl (ci, ks.set k (.inl t)) := by
      show (if q = q then _ else _) = _
      rw [if_pos rfl, hs]
    rw [e1]
    rw [hs] at hD
    intro j
    have h7 := hD j
    rw [List.getElem?_set]
    by_cases hj : k = j
    · rw [if_pos hj]
      split
      · exact ⟨fun e => (by cases e), fun e => (by cases e), fun e => (by cases e)⟩
      · exact ⟨fun e => (by cases e), fun e => (by cases e), fun e => (by cases e)⟩
    · rw [if_neg hj]
      exact h7
  · have e1 : (zSR g o k t).2.2 q = g.2.2 q := by
      show (if q = o then _ else _) = _
      rw [if_neg e]
    rw [e1]
    exact hD
theorem S_putR {ci kf idx : Nat} {ty : FieldType} (hd : decode (mC M) pc = .ok (.putfield idx, 3)) (hf : z_FP (mY M).cls idx ci kf true ty) (hty0 : z_rty ty) (hini : (mY M).name = "<init>") (k : z_Snd M E (pc + 3) K) : z_Snd M E pc (w_putR ci kf K) := by
  intro ls st g D hw X p l e R s m args below meth c Z b H locs cells slots arr n0 s0 hr hc hrel hlv hol hos
  obtain ⟨x, t, rfl, hA⟩ := pA_e hw
  obtain ⟨o, t2, rfl, ⟨ho, ks, hsh, hkk⟩, hB⟩ := pA_e hA
  obtain ⟨C, T, N, ty0, hcl, hk, hin, hlk, hty, hnm, hfin, hety, hdc⟩ := hf
  have hname : meth.name = "<init>" := hr.2.2.2.2.2.2.2.2.1.trans hini
  have hkl := (List.getElem?_eq_some_iff.mp hkk).1
  refine va_putF (D := X.1) (cl := clsL) (ws := z_ws X g D) hr.1 hr.2.1 hr.2.2.2.2.1 hin ty0 hty hnm hr.2.2.2.1 hr.2.2.2.2.2.1.1 hrel.1 z_D hrel.2.1 o (z_ws_obj ho hsh) hcl kf hk (hr.2.2.2.2.1 _ hlk) (fun _ q => q) hfin hname hdc (ty := ty) (v := .ref (X.2.2.2.1 + x)) (by rw [hty kf hk, hety]) (hty0 _).1 (hty0 _).2 (by rw [z_ls_len]; exact hkl) hd (fun H1 locs1 hP1 hD1 hS1 => ?_)
  rw [z_ws_sr ho hsh hkl] at hP1
  exact k _ _ _ _ hB hr hc ⟨hP1, hS1, z_in_sr hrel.2.2 hsh⟩ hlv hol (z_oks_t (z_oks_t hos))
-- arrays
def w_iald (K : WP) : WP := fun ls st g D => pI st fun i t => pA t fun a t2 => z_a g a false ∧ 0 ≤ i ∧ i < zn g a ∧ K ls (zi (D a i) :: t2) g D
def w_zald (K : WP) : WP := fun ls st g D => pI st fun i t => pA t fun a t2 => z_a g a true ∧ 0 ≤ i ∧ i < zn g a ∧ K ls (zi (D a i) :: t2) g D
def w_iast (K : WP) : WP := fun ls st g D => pI st fun x t => pI t fun i t2 => pA t2 fun a t3 => z_a g a false ∧ 0 ≤ i ∧ i < zn g a ∧ K ls t3 g (zU D a i x)
def w_zast (K : WP) : WP := fun ls st g D => pI st fun x t => pI t fun i t2 => pA t2 fun a t3 => z_a g a true ∧ 0 ≤ i ∧ i < zn g a ∧ (x = 0 ∨ x = 1) ∧ K ls t3 g (zU D a i x)
def w_alen (K : WP) : WP := fun ls st g D => pA st fun a t => z_a g a false ∧ K ls (zi (zn g a) :: t) g D
theorem zn_of {g : Gm} {a n : Nat} {bz : Bool} (h : g.2.2 a = .inr (bz, n)) : zn g a = n := by
  unfold zn
  rw [h]
theorem z_clamp {i : Int} (h : zR i) (h0 : 0 ≤ i) : (Int32.ofInt i).toNatClampNeg = i.toNat := Int32.toNatClampNeg_ofInt_of_le (by have := h.1; omega) (by have := h.2; omega)
theorem z_vpin {i : Int} {n : Nat} (h : zR i) (h0 : 0 ≤ i) (h1 : i < n) : vp_in (Int32.ofInt i) n := by
  unfold vp_in
  rw [z_clamp h h0]
  rintro (q | q)
  · have := (zR_lt h zR_0).mp q
    omega
  · omega
theorem z_arr_ok {g : Gm} {D : Mem} {a n : Nat} {bz : Bool} {i : Int} (hin : z_in g D) (ha : a < g.1) (hs : g.2.2 a = .inr (bz, n)) (h0 : 0 ≤ i) (h1 : i < n) : zR (D a i) := by
  have := hin a ha
  rw [hs] at this
  have h2 := (this i.toNat (by omega)).1
  rw [Int.toNat_of_nonneg h0] at h2
  exact h2
theorem S_iald (hd : decode (mC M) pc = .ok (.iaload, 1)) (k : z_Snd M E (pc + 1) K) : z_Snd M E pc (w_iald K) := by
  intro ls st g D hw X p l e R s m args below meth c Z b H locs cells slots arr n0 s0 hr hc hrel hlv hol hos
  obtain ⟨i, t, rfl, hA⟩ := pI_e hw
  obtain ⟨a, t2, rfl, ⟨ha, n, hn, hs⟩, h0, h1, hB⟩ := pA_e hA
  rw [zn_of hs] at h1
  have hi := z_oks_h hos
  refine va_iald (D := X.1) (cl := clsL) (ws := z_ws X g D) hr.1 hr.2.1 hr.2.2.2.2.2.1.1 hrel.1 a 0 (z_ws_arr ha hs) rfl (z_vpin hi h0 h1) hd ?_
  rw [z_clamp hi h0]
  show W p l e R s m args below meth c H locs cells slots Z (F0 m (pc + 1) arr (.int (Int32.ofInt (D a ((i.toNat : Nat) : Int))) :: _))
  rw [Int.toNat_of_nonneg h0]
  exact k _ _ _ _ hB hr hc hrel hlv hol (z_oks_c (z_arr_ok hrel.2.2 ha hs h0 h1) (z_oks_t (z_oks_t hos)))
theorem S_zald (hd : decode (mC M) pc = .ok (.baload, 1)) (k : z_Snd M E (pc + 1) K) : z_Snd M E pc (w_zald K) := by
  intro ls st g D hw X p l e R s m args below meth c Z b H locs cells slots arr n0 s0 hr hc hrel hlv hol hos
  obtain ⟨i, t, rfl, hA⟩ := pI_e hw
  obtain ⟨a, t2, rfl, ⟨ha, n, hn, hs⟩, h0, h1, hB⟩ := pA_e hA
  rw [zn_of hs] at h1
  have hi := z_oks_h hos
  refine va_zald (D := X.1) (cl := clsL) (ws := z_ws X g D) hr.1 hr.2.1 hr.2.2.2.2.2.1.1 hrel.1 a 1 (z_ws_arr ha hs) rfl (z_vpin hi h0 h1) hd ?_
  rw [z_clamp hi h0]
  show W p l e R s m args below meth c H locs cells slots Z (F0 m (pc + 1) arr (.int (Int32.ofInt (D a ((i.toNat : Nat) : Int))) :: _))
  rw [Int.toNat_of_nonneg h0]
  exact k _ _ _ _ hB hr hc hrel hlv hol (z_oks_c (z_arr_ok hrel.2.2 ha hs h0 h1) (z_oks_t (z_oks_t hos)))
theorem S_iast (hd : decode (mC M) pc = .ok (.iastore, 1)) (k : z_Snd M E (pc + 1) K) : z_Snd M E pc (w_iast K) := by
  intro ls st g D hw X p l e R s m args below meth c Z b H locs cells slots arr n0 s0 hr hc hrel hlv hol hos
  obtain ⟨x, t, rfl, hA⟩ := pI_e hw
  obtain ⟨i, t2, rfl, hB⟩ := pI_e hA
  obtain ⟨a, t3, rfl, ⟨ha, n, hn, hs⟩, h0, h1, hC⟩ := pA_e hB
  rw [zn_of hs] at h1
  have hx := z_oks_h hos
  have hi := z_oks_h (z_oks_t hos)
  refine va_iast (D := X.1) (cl := clsL) (ws := z_ws X g D) hr.1 hr.2.1 hr.2.2.2.2.2.1.1 hrel.1 z_D hrel.2.1 a 0 (z_ws_arr ha hs) rfl (z_vpin hi h0 h1) hd (fun H1 locs1 hP1 hD1 hS1 => ?_)
  rw [z_clamp hi h0] at hP1
  have e : (z_ws X g D).set a (X.2.2.2.1 + a, .inl ((if false = true then X.2.2.1 else X.2.1), n, .inl (upd (fun j => Int32.ofInt (D a j)) i.toNat (Int32.ofInt x)))) = z_ws X g (zU D a i x) := by
    rw [← z_ws_up, hs, z_ent_ua h0]
  rw [e] at hP1
  exact k _ _ _ _ hC hr hc ⟨hP1, hS1, z_in_ua hrel.2.2 hs hx (fun q => absurd q (by decide))⟩ hlv hol (z_oks_t (z_oks_t (z_oks_t hos)))
theorem S_zast (hd : decode (mC M) pc = .ok (.bastore, 1)) (k : z_Snd M E (pc + 1) K) : z_Snd M E pc (w_zast K) := by
  intro ls st g D hw X p l e R s m args below meth c Z b H locs cells slots arr n0 s0 hr hc hrel hlv hol hos
  obtain ⟨x, t, rfl, hA⟩ := pI_e hw
  obtain ⟨i, t2, rfl, hB⟩ := pI_e hA
  obtain ⟨a, t3, rfl, ⟨ha, n, hn, hs⟩, h0, h1, hz, hC⟩ := pA_e hB
  rw [zn_of hs] at h1
  have hx := z_oks_h hos
  have hi := z_oks_h (z_oks_t hos)
  refine va_zast (D := X.1) (cl := clsL) (ws := z_ws X g D) hr.1 hr.2.1 hr.2.2.2.2.2.1.1 hrel.1 z_D hrel.2.1 a 1 (z_ws_arr ha hs) rfl (z_vpin hi h0 h1) hd (fun H1 locs1 hP1 hD1 hS1 => ?_)
  rw [z_clamp hi h0] at hP1
  have e9 : vp_nar .boolean (Int32.ofInt x) = Int32.ofInt x := by rcases hz with rfl | rfl <;> rfl
  rw [e9] at hP1
  have e : (z_ws X g D).set a (X.2.2.2.1 + a, .inl ((if true = true then X.2.2.1 else X.2.1), n, .inl (upd (fun j => Int32.ofInt (D a j)) i.toNat (Int32.ofInt x)))) = z_ws X g (zU D a i x) := by
    rw [← z_ws_up, hs, z_ent_ua h0]
  rw [e] at hP1
  exact k _ _ _ _ hC hr hc ⟨hP1, hS1, z_in_ua hrel.2.2 hs hx (fun q => hz)⟩ hlv hol (z_oks_t (z_oks_t (z_oks_t hos)))
theorem S_alen (hd : decode (mC M) pc = .ok (.arraylength, 1)) (k : z_Snd M E (pc + 1) K) : z_Snd M E pc (w_alen K) := by
  intro ls st g D hw X p l e R s m args below meth c Z b H locs cells slots arr n0 s0 hr hc hrel hlv hol hos
  obtain ⟨a, t, rfl, ⟨ha, n, hn, hs⟩, hA⟩ := pA_e hw
  rw [zn_of hs] at hA
  refine va_alen (D := X.1) (cl := clsL) (ws := z_ws X g D) hr.1 hr.2.1 hr.2.2.2.2.2.1.1 hrel.1 a 0 (z_ws_arr ha hs) (ty := .int) rfl (v := Int32.ofInt (n : Int)) Int32.ofInt_eq_ofNat.symm hd ?_
  exact k _ _ _ _ hA hr hc hrel hlv hol (z_oks_c (show zR (n : Int) from ⟨by omega, by omega⟩) (z_oks_t hos))
-- new objects
def w_new (ci : Nat) (ks : List Kd) (K : WP) : WP := fun ls st g D => g.1 + 1 ≤ E.1.1 ∧ g.2.1 + ks.length ≤ E.1.2 ∧ K ls (zr g.1 :: st) (zNew g (.inl (ci, ks)) ks.length) (zZ D g.1)
def w_newa (bz : Bool) (K : WP) : WP := fun ls st g D => pI st fun n t => 0 ≤ n ∧ n ≤ 100000 ∧ g.1 + 1 ≤ E.1.1 ∧ g.2.1 + n.toNat ≤ E.1.2 ∧ K ls (zr g.1 :: t) (zNew g (.inr (bz, n.toNat)) n.toNat) (zZ D g.1)
theorem z_ws_new {X : Xe} {g : Gm} {D : Mem} {sh : Sh} {sl : Nat} : z_ws X (zNew g sh sl) (zZ D g.1) = z_ws X g D ++ [(X.2.2.2.1 + g.1, z_ent X sh (fun _ => 0))] := by
  unfold z_ws
  show (List.range (g.1 + 1)).map _ = _
  rw [List.range_succ, List.map_append]
  congr 1
  · apply List.map_congr_left
    intro k hk
    have hk' : k ≠ g.1 := by have := List.mem_range.mp hk; omega
    have e1 : (zNew g sh sl).2.2 k = g.2.2 k := by
      show (if k = g.1 then _ else _) = _
      rw [if_neg hk']
    have e2 : zZ D g.1 k = D k := by
      funext j
      show (if k = g.1 then _ else _) = _
      rw [if_neg hk']
    rw [e1, e2]
  · have e1 : (zNew g sh sl).2.2 g.1 = sh := by
      show (if g.1 = g.1 then _ else _) = _
      rw [if_pos rfl]
    have e2 : zZ D g.1 g.1 = fun _ => 0 := by
      funext j
      show (if g.1 = g.1 then _ else _) = _
      rw [if_pos rfl]
    show [(_, z_ent X ((zNew g sh sl).2.2 g.1) (zZ D g.1 g.1))] = _
    rw [e1, e2]
theorem z_in_new {g : Gm} {D : Mem} {sh : Sh} {sl : Nat} (hin : z_in g D) : z_in (zNew g sh sl) (zZ D g.1) := by
  intro k hk
  by_cases e : k = g.1
  · subst e
    have e2 : ∀ j, zZ D g.1 g.1 j = 0 := by
      intro j
      show (if g.1 = g.1 then _ else _) = _
      rw [if_pos rfl]
    split
    · intro j
      rw [e2]
      exact ⟨fun _ => zR_0, fun _ => Or.inl rfl, fun _ => ⟨by decide, by decide⟩⟩
    · intro j _
      rw [e2]
      exact ⟨zR_0, fun _ => Or.inl rfl⟩
  · have hk2 : k < g.1 := by
      have : k < g.1 + 1 := hk
      omega
    have e1 : (zNew g sh sl).2.2 k = g.2.2 k := by
      show (if k = g.1 then _ else _) = _
      rw [if_neg e]
    have e2 : zZ D g.1 k = D k := by
      funext j
      show (if k = g.1 then _ else _) = _
      rw [if_neg e]
    rw [e1, e2]
    exact hin k hk2
theorem z_new_at {X : Xe} {g : Gm} {D : Mem} {p : Program} {l : Launch} {e : Env} {R : Room} {s : State} {m : MethodId} {args : Array Value} {below : List Frame} {meth : Method} {c : Code} {T : State} {H1 : Heap} {locs : List Loc} {cells slots n0 q : Nat} {en : va_E} {cl : List vw_C} {G : va_G} (Xs : Stand p l e R s m args below meth c T locs cells slots) (hT : T.heap = H1) (hN : s.heap.size = X.2.2.2.1 + n0) (hc : cells + n0 = g.1 + 1) (hP : va_P G cl (z_ws X g D ++ [(q, en)]) H1) (hD : va_D (z_A X) (z_ws X g D ++ [(q, en)])) : q = X.2.2.2.1 + g.1 := by
  have h1 : T.heap.size ≤ s.heap.size + cells := Xs.same.2.2.1
  rw [hT] at h1
  have hl : (z_ws X g D).length = g.1 := by simp [z_ws]
  have hlast : (z_ws X g D ++ [(q, en)])[g.1]? = some (q, en) := by
    rw [List.getElem?_append_right (by omega), hl, Nat.sub_self]
    rfl
  have h2 : q < H1.size := (hP g.1 _ hlast).lt
  have h3 : X.2.2.2.1 ≤ q := hD.2 g.1 _ hlast
  by_cases h4 : q = X.2.2.2.1 + g.1
  · exact h4
  · have hi : q - X.2.2.2.1 < g.1 := by omega
    have h5 : (z_ws X g D ++ [(q, en)])[q - X.2.2.2.1]? = some (X.2.2.2.1 + (q - X.2.2.2.1), z_ent X (g.2.2 (q - X.2.2.2.1)) (D (q - X.2.2.2.1))) := by
      rw [List.getElem?_append_left (by omega)]
      exact z_ws_get hi
    have h6 := hD.1 _ _ _ _ h5 hlast (by show X.2.2.2.1 + (q - X.2.2.2.1) = q; omega)
    omega
theorem S_new {ci idx : Nat} {ks : List Kd} (hd : decode (mC M) pc = .ok (.new idx, 3)) (hf : z_NW (mY M).cls idx ci ks) (k : z_Snd M E (pc + 3) K) : z_Snd M E pc (w_new (E := E) ci ks K) := by
  intro ls st g D hw X p l e R s m args below meth c Z b H locs cells slots arr n0 s0 hr hc hrel hlv hol hos
  obtain ⟨h1, h2, h⟩ := hw
  obtain ⟨C, T, N, ty, hcl, hin, hty, hcl2, hins, hini, hlen, hdef⟩ := hf
  have hn := hr.2.2.2.2.2.2.1
  have hc1 := hc.1
  have hc2 := hc.2.1
  refine va_new (D := X.1) (cl := clsL) (ws := z_ws X g D) (A := z_A X) (H0 := s.heap) (c0 := c) hr.1 hr.2.1 hr.2.2.2.2.1 hin ty hty hr.2.2.2.1 (hr.2.2.2.2.1 _ hcl2) (hr.2.2.2.2.1 _ hins) (hr.2.2.2.2.1 _ hini) hr.2.2.2.2.2.1.1 hrel.1 z_D hrel.2.1 (fun q hq => by show X.2.2.2.1 ≤ q; omega) hcl (hdef X) (by omega) (by omega) hd (fun q H1 hP1 hD1 hS1 => ?_)
  intro Ts hT Xs
  have hq := z_new_at (X := X) (g := g) (D := D) Xs hT hn.1 (by omega) hP1 hD1
  subst hq
  have e : z_ws X g D ++ [(X.2.2.2.1 + g.1, .inr (ci, ks.mapIdx (fun j kd => z_fv X (fun _ => 0) j kd)))] = z_ws X (zNew g (.inl (ci, ks)) ks.length) (zZ D g.1) := (z_ws_new (X := X) (g := g) (D := D) (sh := .inl (ci, ks)) (sl := ks.length)).symm
  rw [e] at hP1
  refine k _ _ _ _ h hr ⟨?_, ?_, h1, h2⟩ ⟨hP1, hS1, z_in_new hrel.2.2⟩ hlv hol (z_oks_c trivial hos) Ts hT Xs
  · show cells + 1 + n0 = g.1 + 1
    omega
  · show slots + N + s0 = g.2.1 + ks.length
    omega
theorem S_newaI (hd : decode (mC M) pc = .ok (.newarray .int, 2)) (hwd : Cond.arrayClass .int ∈ z_tb) (k : z_Snd M E (pc + 2) K) : z_Snd M E pc (w_newa (E := E) false K) := by
  intro ls st g D hw X p l e R s m args below meth c Z b H locs cells slots arr n0 s0 hr hc hrel hlv hol hos
  obtain ⟨n, t, rfl, h0, hmax, h1, h2, h⟩ := pI_e hw
  have hn := hr.2.2.2.2.2.2.1
  have hc1 := hc.1
  have hc2 := hc.2.1
  have hnR := z_oks_h hos
  have hb9 : n.toNat * componentBytes .int ≤ 536870912 := by
    have h8 : componentBytes .int ≤ 8 := by decide
    have h9 := Nat.mul_le_mul_left n.toNat h8
    omega
  refine va_newa (D := X.1) (cl := clsL) (ws := z_ws X g D) (A := z_A X) (H0 := s.heap) (atype := .int) (ty := .int) (a0 := (n.toNat, .inl (fun j => Int32.ofInt 0))) hr.1 hr.2.1 (hr.2.2.2.2.1 _ hwd) rfl hr.2.2.2.2.2.1.1 hrel.1 z_D hrel.2.1 (fun q hq => by show X.2.2.2.1 ≤ q; omega) (fun _ => rfl) (fun q => by have := (zR_lt hnR zR_0).mp q; omega) (z_clamp hnR h0) hb9 (by omega) (by omega) hd (fun q cA H1 hK1 hP1 hD1 hS1 => ?_)
  have hA : cA = X.2.1 := by
    have e1 := (hK1.2 2 (cA, .int) rfl).2
    have e2 := (hr.2.2.2.2.2.1.1.2 0 (X.2.1, .int) rfl).2
    exact Option.some.inj (e1.symm.trans e2)
  subst hA
  intro Ts hT Xs
  have hq := z_new_at (X := X) (g := g) (D := D) Xs hT hn.1 (by omega) hP1 hD1
  subst hq
  have e : z_ws X g D ++ [(X.2.2.2.1 + g.1, .inl (X.2.1, n.toNat, .inl (fun j => Int32.ofInt 0)))] = z_ws X (zNew g (.inr (false, n.toNat)) n.toNat) (zZ D g.1) := (z_ws_new (X := X) (g := g) (D := D) (sh := .inr (false, n.toNat)) (sl := n.toNat)).symm
  rw [e] at hP1
  refine k _ _ _ _ h hr ⟨?_, ?_, h1, h2⟩ ⟨hP1, hS1, z_in_new hrel.2.2⟩ hlv hol (z_oks_c trivial (z_oks_t hos)) Ts hT Xs
  · show cells + 1 + n0 = g.1 + 1
    omega
  · show slots + n.toNat + s0 = g.2.1 + n.toNat
    omega
theorem S_newaZ (hd : decode (mC M) pc = .ok (.newarray .boolean, 2)) (hwd : Cond.arrayClass .boolean ∈ z_tb) (k : z_Snd M E (pc + 2) K) : z_Snd M E pc (w_newa (E := E) true K) := by
  intro ls st g D hw X p l e R s m args below meth c Z b H locs cells slots arr n0 s0 hr hc hrel hlv hol hos
  obtain ⟨n, t, rfl, h0, hmax, h1, h2, h⟩ := pI_e hw
  have hn := hr.2.2.2.2.2.2.1
  have hc1 := hc.1
  have hc2 := hc.2.1
  have hnR := z_oks_h hos
  have hb9 : n.toNat * componentBytes .boolean ≤ 536870912 := by
    have h8 : componentBytes .boolean ≤ 8 := by decide
    have h9 := Nat.mul_le_mul_left n.toNat h8
    omega
  refine va_newa (D := X.1) (cl := clsL) (ws := z_ws X g D) (A := z_A X) (H0 := s.heap) (atype := .boolean) (ty := .boolean) (a0 := (n.toNat, .inl (fun j => Int32.ofInt 0))) hr.1 hr.2.1 (hr.2.2.2.2.1 _ hwd) rfl hr.2.2.2.2.2.1.1 hrel.1 z_D hrel.2.1 (fun q hq => by show X.2.2.2.1 ≤ q; omega) (fun _ => rfl) (fun q => by have := (zR_lt hnR zR_0).mp q; omega) (z_clamp hnR h0) hb9 (by omega) (by omega) hd (fun q cA H1 hK1 hP1 hD1 hS1 => ?_)
  have hA : cA = X.2.2.1 := by
    have e1 := (hK1.2 2 (cA, .boolean) rfl).2
    have e2 := (hr.2.2.2.2.2.1.1.2 1 (X.2.2.1, .boolean) rfl).2
    exact Option.some.inj (e1.symm.trans e2)
  subst hA
  intro Ts hT Xs
  have hq := z_new_at (X := X) (g := g) (D := D) Xs hT hn.1 (by omega) hP1 hD1
  subst hq
  have e : z_ws X g D ++ [(X.2.2.2.1 + g.1, .inl (X.2.2.1, n.toNat, .inl (fun j => Int32.ofInt 0)))] = z_ws X (zNew g (.inr (true, n.toNat)) n.toNat) (zZ D g.1) := (z_ws_new (X := X) (g := g) (D := D) (sh := .inr (true, n.toNat)) (sl := n.toNat)).symm
  rw [e] at hP1
  refine k _ _ _ _ h hr ⟨?_, ?_, h1, h2⟩ ⟨hP1, hS1, z_in_new hrel.2.2⟩ hlv hol (z_oks_c trivial (z_oks_t hos)) Ts hT Xs
  · show cells + 1 + n0 = g.1 + 1
    omega
  · show slots + n.toNat + s0 = g.2.1 + n.toNat
    omega
def w_oinit (K : WP) : WP := fun ls st g D => pA st fun _ t => cS t ≤ 8 ∧ K ls t g D
theorem S_oinit {idx : Nat} (hd : decode (mC M) pc = .ok (.invokespecial idx, 3)) (h1 : Cond.methodLink (mY M).cls idx Lib.objectInit ∈ z_tb) (h2 : Cond.instanceMethod Lib.objectInit ∈ z_tb) (h3 : Cond.code Lib.objectInit ⟨#[0xb1]⟩ 1 none ∈ z_tb) (hF : 1 ≤ mF M) (hL : 20 ≤ mL M) (k : z_Snd M E (pc + 3) K) : z_Snd M E pc (w_oinit K) := by
  intro ls st g D hw X p l e R s m args below meth c Z b H locs cells slots arr n0 s0 hr hc hrel hlv hol hos
  obtain ⟨a, t, rfl, h0, hA⟩ := pA_e hw
  refine W.objInit hr.1 hr.2.1 hr.2.2.2.1 (hr.2.2.2.2.1 _ h1) (hr.2.2.2.2.1 _ h2) (hr.2.2.2.2.1 _ h3) (g := F0 m pc arr (z_conc X b (zr a) :: t.map (z_conc X b))) rfl (by rw [hr.2.2.1]; exact hlv.1) (a := X.2.2.2.1 + a) rfl hd (by have := hr.2.2.2.2.2.2.2.1.1; omega) (by
    have h8 := hr.2.2.2.2.2.2.2.1.2
    have h9 := cS_e (X := X) (b := b) t
    show 2 * 0 + _ + 12 ≤ _
    omega) ?_
  exact k _ _ _ _ hA hr hc hrel hlv hol (z_oks_t hos)
end Heap
end
section
/-! ===== 06: calls, the JDK's few, the script ===== -/
def z_rc (g : Gm) (ci : Nat) (as : List AV) : Prop := match as with
  | (.inr (.inr (.inl o))) :: _ => z_o g o ci
  | _ => False
theorem z_rc_r (g : Gm) (ci o : Nat) (t : List AV) : z_rc g ci (zr o :: t) = z_o g o ci := rfl
def pN : Nat → List AV → List AV → (List AV → List AV → Prop) → Prop
  | 0, acc, st, f => f acc st
  | _ + 1, _, [], _ => False
  | n + 1, acc, v :: t, f => pN n (v :: acc) t f
theorem pN_e : ∀ {n : Nat} {acc st : List AV} {f : List AV → List AV → Prop}, pN n acc st f → ∃ as t, st = as.reverse ++ t ∧ as.length = n ∧ f (as ++ acc) t
  | 0, acc, st, f, h => ⟨[], st, rfl, rfl, h⟩
  | _ + 1, _, [], _, h => h.elim
  | n + 1, acc, v :: t, f, h => by
    obtain ⟨as, t2, e1, e2, h2⟩ := pN_e (n := n) (acc := v :: acc) h
    refine ⟨as ++ [v], t2, ?_, ?_, ?_⟩
    · rw [List.reverse_append, e1]; rfl
    · rw [List.length_append, e2]; rfl
    · rw [List.append_assoc]; exact h2
def z_Cu (M : MI) (as : List AV) (g : Gm) (D : Mem) (P : Int → Mem → Prop) : Prop := z_Ct M 0 0 as g D (fun x g' D' => g' = g ∧ P x D')
theorem z_Ct.mono {M : MI} {mc ms : Nat} {as : List AV} {g : Gm} {D : Mem} {P Q : Int → Gm → Mem → Prop} (h : z_Ct M mc ms as g D P) (hPQ : ∀ x g' D', P x g' D' → Q x g' D') : z_Ct M mc ms as g D Q := by
  intro h1 h2 l X b
  have hM := h h1 h2 l X b
  intro p e ha hc hk s m args below hf
  intro r1 r2 r3
  obtain ⟨k, oc, q1, q2, q3, ⟨⟨⟨x, g', D', w1, w2, w3, w4⟩, w5⟩, hL⟩⟩ := hM p e ha hc hk s m args below hf r1 r2 r3
  exact ⟨k, oc, q1, q2, q3, ⟨⟨⟨x, g', D', w1, w2, hPQ _ _ _ w3, w4⟩, w5⟩, hL⟩⟩
theorem z_Cu.mono {M : MI} {as : List AV} {g : Gm} {D : Mem} {P Q : Int → Mem → Prop} (h : z_Cu M as g D P) (hPQ : ∀ x D', P x D' → Q x D') : z_Cu M as g D Q := z_Ct.mono h fun x _ D' q => ⟨q.1, hPQ x D' q.2⟩
/-- room for a call -/
def z_rm (M My : MI) : Prop := mF My + 1 ≤ mF M ∧ 8 + (mN My + 11) + mL My ≤ mL M
def z_np (My : MI) (n : Nat) : Prop := (parseMethodDescriptor (mY My).desc).map (fun d => d.parameters.length) = some n
section Calls
variable {M My : MI} {E : En} {pc : Nat} {K : WP}
theorem z_callW {X : Xe} {p : Program} {l : Launch} {e : Env} {R : Room} {s : State} {m : MethodId} {args : Array Value} {below : List Frame} {meth : Method} {c : Code} {Z : State → Prop} {H : Heap} {locs : List Loc} {cells slots mc ms n0 s0 : Nat} {arr : Array Slot} {st0 rest : List Value} {g : Gm} {D : Mem} {Q' : Int → Gm → Mem → Prop} {a : Array Value}
    (hrun : va_Run p l e R s m args below meth c H locs cells slots mc ms (F0 m pc arr st0) rest (z_Qc My X g mc ms Q' a) (z_A X)) (hrel : z_Rel X g D s H locs) (hc : z_Cn E n0 s0 g cells slots) (hb1 : g.1 + mc ≤ E.1.1) (hb2 : g.2.1 + ms ≤ E.1.2)
    (kk : ∀ (x : Int) (g' : Gm) (D' : Mem) (H1 : Heap) (locs1 : List Loc), z_Rel X g' D' s H1 locs1 → Q' x g' D' → z_rok (mR My) x → z_Cn E n0 s0 g' (cells + mc) (slots + ms) → W p l e R s m args below meth c H1 locs1 (cells + mc) (slots + ms) Z (F0 m (pc + 3) arr ((z_rv (mR My) x).toList ++ rest))) : W p l e R s m args below meth c H locs cells slots Z (F0 m pc arr st0) := by
  intro T hT Xs
  obtain ⟨v, st₀, t, T', L, h0, X', hL, e1, e2, ⟨⟨x, g', D', hv, hok, hQ, h1, h2, hsz, hP, hin⟩, hz, hk⟩, st⟩ := hrun T hT Xs
  cases hv
  rw [h0] at hz hk
  have hS : va_S (z_A X) s.heap T'.heap (locs ++ L) := by
    refine ⟨Nat.le_trans hrel.2.1.1 (by rw [e1]; exact hz), fun q h3 h4 => ?_, fun q hq => ?_⟩
    · rw [e1, hk q (Nat.lt_of_lt_of_le h3 hrel.2.1.1) h4]
      exact hrel.2.1.2.1 q h3 h4
    · rcases List.mem_append.mp hq with h | h
      · exact hrel.2.1.2.2 q h
      · exact hL q h
  have hc1 := hc.1
  have hc2 := hc.2.1
  obtain ⟨t2, a1, b1⟩ := kk x g' D' T'.heap (locs ++ L) ⟨by rw [e1]; exact hP, hS, hin⟩ hQ hok ⟨by omega, by omega, by omega, by omega⟩ T' rfl X'
  exact ⟨t2, st t2 a1, b1⟩
theorem z_CB {R : Room} {s : State} {args : Array Value} {idx mc ms n : Nat} (hts : ∀ w ∈ z_tb, w.before args s = true) (hM : z_MI My) (hl : Cond.methodLink (mY M).cls idx (mY My) ∈ z_tb) (hn : z_np My n) (hrm : z_rm M My) (hroom : mF M ≤ R.frames ∧ mL M ≤ R.locals) : CallB R s args (mY M).cls idx (mY My) (mC My) (mN My) (mR My) (z_wds My) ({ frames := mF My, cells := mc, slots := ms, locals := mL My }) mc ms n :=
  callB_of n hts (z_goodIn hM (ws := []) (fun _ h => by cases h)) rfl rfl rfl (hts _ hM.2.2.1) (hts _ hl) ⟨hM.2.2.2.1, hM.2.2.2.2, hn⟩ ⟨by have := hrm.1; show mF My + 1 ≤ _; omega, by have := hrm.2; show 8 + (mN My + 11) + mL My ≤ _; omega⟩
theorem z_CBN {R : Room} {s : State} {args : Array Value} {idx mc ms n : Nat} {host : String} (hts : ∀ w ∈ z_tb, w.before args s = true) (hM : z_MI My) (hl : va_Nw (.methodLinkNest (mY M).cls idx (mY My) host) s) (hn : z_np My n) (hrm : z_rm M My) (hroom : mF M ≤ R.frames ∧ mL M ≤ R.locals) : va_CN R s args (mY M).cls idx (mY My) host (mC My) (mN My) (mR My) (z_wds My) ({ frames := mF My, cells := mc, slots := ms, locals := mL My }) mc ms n :=
  va_cnB n hts (z_goodIn hM (ws := []) (fun _ h => by cases h)) rfl rfl rfl hl (hts _ hM.2.2.1) ⟨hM.2.2.2.1, hM.2.2.2.2, hn⟩ ⟨by have := hrm.1; show mF My + 1 ≤ _; omega, by have := hrm.2; show 8 + (mN My + 11) + mL My ≤ _; omega⟩
theorem z_pc {X : Xe} {b : Nat} {as : List AV} {g : Gm} {D : Mem} {s U : State} {H : Heap} {locs : List Loc} (hSt : z_St X s) (hsz : H.size = X.2.2.2.1 + g.1) (hrel : z_Rel X g D s H locs) (hU : U.heap = H) (hW : s.WarmedH U.vm) : z_Pc X b as g D (as.map (z_conc X b)).toArray U :=
  ⟨rfl, by rw [hU]; exact hsz, by rw [hU]; exact hrel.1, z_St_to hSt hrel.2.1.2.1 hU hW⟩
theorem z_oks_r {as t : List AV} (h : z_oks (as.reverse ++ t)) : z_oks as ∧ z_oks t := ⟨fun v hv => h v (List.mem_append_left _ (List.mem_reverse.mpr hv)), fun v hv => h v (List.mem_append_right _ hv)⟩
def w_sI (My : MI) (n : Nat) (K : WP) : WP := fun ls st g D => pN n [] st fun as t => cS t ≤ 8 ∧ z_Cu My as g D (fun x D' => K ls (zi x :: t) g D')
theorem S_sI {idx n : Nat} (hd : decode (mC M) pc = .ok (.invokestatic idx, 3)) (hM : z_MI My) (hl : Cond.methodLink (mY M).cls idx (mY My) ∈ z_tb) (hst : Cond.static (mY My) ∈ z_tb) (hn : z_np My n) (hrm : z_rm M My) (hret : ∀ x, z_rv (mR My) x = some (.int (Int32.ofInt x))) (hok : ∀ x, z_rok (mR My) x → zR x) (k : z_Snd M E (pc + 3) K) : z_Snd M E pc (w_sI My n K) := by
  intro ls st g D hw X p l e R s m args below meth c Z b H locs cells slots arr n0 s0 hr hc hrel hlv hol hos
  obtain ⟨as, t, rfl, hlen, hw⟩ := pN_e hw
  rw [List.append_nil] at hw
  obtain ⟨hcs, hct⟩ := hw
  obtain ⟨hoa, hot⟩ := z_oks_r hos
  have hcs2 : 2 * (F0 m pc arr ((as.reverse ++ t).map (z_conc X b))).monitorRoom + ((t.map (z_conc X b)).map fun v => v.category).sum ≤ 8 := by
    rw [cS_e]
    show 2 * 0 + _ ≤ _
    omega
  intro T hT Xs
  have hsz := z_size Xs hT hr.2.2.2.2.2.2.1.1 hc hrel
  refine (?_ : W p l e R s m args below meth c H locs cells slots Z (F0 m pc arr ((as.reverse ++ t).map (z_conc X b)))) T hT Xs
  have hN := hr.2.2.2.2.2.2.1
  have hc1 := hc.1
  have hc2 := hc.2.1
  have hc3 := hc.2.2.1
  have hc4 := hc.2.2.2
  have hrun : va_Run p l e R s m args below meth c H locs cells slots 0 0 (F0 m pc arr ((as.reverse ++ t).map (z_conc X b))) (t.map (z_conc X b)) (z_Qc My X g 0 0 _ _) (z_A X) := va_runS (H := H) (locs := locs) (As := as.map (z_conc X b)) (rest := t.map (z_conc X b)) (g := F0 m pc arr ((as.reverse ++ t).map (z_conc X b))) ⟨hr.1, hr.2.1, hr.2.2.1, hr.2.2.2.1, hr.2.2.2.2.1⟩ (hct hoa hrel.2.2 l X b) (⟨z_CB (M := M) (My := My) (n := n) hr.2.2.2.2.1 hM hl hn hrm hr.2.2.2.2.2.2.2.1, hr.2.2.2.2.1 _ hst⟩) ⟨z_blind, fun U hU hW => z_pc hr.2.2.2.2.2.1 hsz hrel hU hW⟩ rfl (by rw [List.length_map]; exact hlen) hlv.1 (by show (as.reverse ++ t).map (z_conc X b) = _; rw [List.map_append, List.map_reverse]) hcs2 hd ⟨by omega, by omega⟩
  refine z_callW (My := My) (E := E) hrun hrel hc (by omega) (by omega) (fun x g' D' H1 locs1 hrel1 hQ1 hro hcn => ?_)
  obtain ⟨rfl, hP1⟩ := hQ1
  rw [hret x]
  exact k _ _ _ _ hP1 hr hcn hrel1 hlv hol (z_oks_c (hok x hro) hot)
def w_sJ (My : MI) (n : Nat) (K : WP) : WP := fun ls st g D => pN n [] st fun as t => cS t ≤ 8 ∧ z_Cu My as g D (fun x D' => K ls (zl x :: t) g D')
theorem S_sJ {idx n : Nat} (hd : decode (mC M) pc = .ok (.invokestatic idx, 3)) (hM : z_MI My) (hl : Cond.methodLink (mY M).cls idx (mY My) ∈ z_tb) (hst : Cond.static (mY My) ∈ z_tb) (hn : z_np My n) (hrm : z_rm M My) (hret : ∀ x, z_rv (mR My) x = some (.long (Int64.ofInt x))) (hok : ∀ x, z_rok (mR My) x → zR6 x) (k : z_Snd M E (pc + 3) K) : z_Snd M E pc (w_sJ My n K) := by
  intro ls st g D hw X p l e R s m args below meth c Z b H locs cells slots arr n0 s0 hr hc hrel hlv hol hos
  obtain ⟨as, t, rfl, hlen, hw⟩ := pN_e hw
  rw [List.append_nil] at hw
  obtain ⟨hcs, hct⟩ := hw
  obtain ⟨hoa, hot⟩ := z_oks_r hos
  have hcs2 : 2 * (F0 m pc arr ((as.reverse ++ t).map (z_conc X b))).monitorRoom + ((t.map (z_conc X b)).map fun v => v.category).sum ≤ 8 := by
    rw [cS_e]
    show 2 * 0 + _ ≤ _
    omega
  intro T hT Xs
  have hsz := z_size Xs hT hr.2.2.2.2.2.2.1.1 hc hrel
  refine (?_ : W p l e R s m args below meth c H locs cells slots Z (F0 m pc arr ((as.reverse ++ t).map (z_conc X b)))) T hT Xs
  have hN := hr.2.2.2.2.2.2.1
  have hc1 := hc.1
  have hc2 := hc.2.1
  have hc3 := hc.2.2.1
  have hc4 := hc.2.2.2
  have hrun : va_Run p l e R s m args below meth c H locs cells slots 0 0 (F0 m pc arr ((as.reverse ++ t).map (z_conc X b))) (t.map (z_conc X b)) (z_Qc My X g 0 0 _ _) (z_A X) := va_runS (H := H) (locs := locs) (As := as.map (z_conc X b)) (rest := t.map (z_conc X b)) (g := F0 m pc arr ((as.reverse ++ t).map (z_conc X b))) ⟨hr.1, hr.2.1, hr.2.2.1, hr.2.2.2.1, hr.2.2.2.2.1⟩ (hct hoa hrel.2.2 l X b) (⟨z_CB (M := M) (My := My) (n := n) hr.2.2.2.2.1 hM hl hn hrm hr.2.2.2.2.2.2.2.1, hr.2.2.2.2.1 _ hst⟩) ⟨z_blind, fun U hU hW => z_pc hr.2.2.2.2.2.1 hsz hrel hU hW⟩ rfl (by rw [List.length_map]; exact hlen) hlv.1 (by show (as.reverse ++ t).map (z_conc X b) = _; rw [List.map_append, List.map_reverse]) hcs2 hd ⟨by omega, by omega⟩
  refine z_callW (My := My) (E := E) hrun hrel hc (by omega) (by omega) (fun x g' D' H1 locs1 hrel1 hQ1 hro hcn => ?_)
  obtain ⟨rfl, hP1⟩ := hQ1
  rw [hret x]
  exact k _ _ _ _ hP1 hr hcn hrel1 hlv hol (z_oks_c (hok x hro) hot)
def w_sV (My : MI) (n : Nat) (K : WP) : WP := fun ls st g D => pN n [] st fun as t => cS t ≤ 8 ∧ z_Cu My as g D (fun _ D' => K ls (t) g D')
theorem S_sV {idx n : Nat} (hd : decode (mC M) pc = .ok (.invokestatic idx, 3)) (hM : z_MI My) (hl : Cond.methodLink (mY M).cls idx (mY My) ∈ z_tb) (hst : Cond.static (mY My) ∈ z_tb) (hn : z_np My n) (hrm : z_rm M My) (hret : ∀ x, z_rv (mR My) x = none) (k : z_Snd M E (pc + 3) K) : z_Snd M E pc (w_sV My n K) := by
  intro ls st g D hw X p l e R s m args below meth c Z b H locs cells slots arr n0 s0 hr hc hrel hlv hol hos
  obtain ⟨as, t, rfl, hlen, hw⟩ := pN_e hw
  rw [List.append_nil] at hw
  obtain ⟨hcs, hct⟩ := hw
  obtain ⟨hoa, hot⟩ := z_oks_r hos
  have hcs2 : 2 * (F0 m pc arr ((as.reverse ++ t).map (z_conc X b))).monitorRoom + ((t.map (z_conc X b)).map fun v => v.category).sum ≤ 8 := by
    rw [cS_e]
    show 2 * 0 + _ ≤ _
    omega
  intro T hT Xs
  have hsz := z_size Xs hT hr.2.2.2.2.2.2.1.1 hc hrel
  refine (?_ : W p l e R s m args below meth c H locs cells slots Z (F0 m pc arr ((as.reverse ++ t).map (z_conc X b)))) T hT Xs
  have hN := hr.2.2.2.2.2.2.1
  have hc1 := hc.1
  have hc2 := hc.2.1
  have hc3 := hc.2.2.1
  have hc4 := hc.2.2.2
  have hrun : va_Run p l e R s m args below meth c H locs cells slots 0 0 (F0 m pc arr ((as.reverse ++ t).map (z_conc X b))) (t.map (z_conc X b)) (z_Qc My X g 0 0 _ _) (z_A X) := va_runS (H := H) (locs := locs) (As := as.map (z_conc X b)) (rest := t.map (z_conc X b)) (g := F0 m pc arr ((as.reverse ++ t).map (z_conc X b))) ⟨hr.1, hr.2.1, hr.2.2.1, hr.2.2.2.1, hr.2.2.2.2.1⟩ (hct hoa hrel.2.2 l X b) (⟨z_CB (M := M) (My := My) (n := n) hr.2.2.2.2.1 hM hl hn hrm hr.2.2.2.2.2.2.2.1, hr.2.2.2.2.1 _ hst⟩) ⟨z_blind, fun U hU hW => z_pc hr.2.2.2.2.2.1 hsz hrel hU hW⟩ rfl (by rw [List.length_map]; exact hlen) hlv.1 (by show (as.reverse ++ t).map (z_conc X b) = _; rw [List.map_append, List.map_reverse]) hcs2 hd ⟨by omega, by omega⟩
  refine z_callW (My := My) (E := E) hrun hrel hc (by omega) (by omega) (fun x g' D' H1 locs1 hrel1 hQ1 hro hcn => ?_)
  obtain ⟨rfl, hP1⟩ := hQ1
  rw [hret x]
  exact k _ _ _ _ hP1 hr hcn hrel1 hlv hol (hot)
def w_vI (My : MI) (ci n : Nat) (K : WP) : WP := fun ls st g D => pN (n + 1) [] st fun as t => z_rc g ci as ∧ cS t ≤ 8 ∧ z_Cu My as g D (fun x D' => K ls (zi x :: t) g D')
theorem S_vI {ci idx n : Nat} (hd : decode (mC M) pc = .ok (.invokevirtual idx, 3)) (hM : z_MI My) (hl : Cond.methodLink (mY M).cls idx (mY My) ∈ z_tb) (him : Cond.instanceMethod (mY My) ∈ z_tb) (hse : Cond.selects (mY My).cls (mY My) (mY My) ∈ z_tb) (hcl : ∃ (T : u_T) (N : Nat), clsL[ci]? = some ((mY My).cls, T, N)) (hn : z_np My n) (hrm : z_rm M My) (hret : ∀ x, z_rv (mR My) x = some (.int (Int32.ofInt x))) (hok : ∀ x, z_rok (mR My) x → zR x) (k : z_Snd M E (pc + 3) K) : z_Snd M E pc (w_vI My ci n K) := by
  intro ls st g D hw X p l e R s m args below meth c Z b H locs cells slots arr n0 s0 hr hc hrel hlv hol hos
  obtain ⟨as, t, rfl, hlen, hw⟩ := pN_e hw
  rw [List.append_nil] at hw
  obtain ⟨hrc, hcs, hct⟩ := hw
  obtain ⟨hoa, hot⟩ := z_oks_r hos
  have hcs2 : 2 * (F0 m pc arr ((as.reverse ++ t).map (z_conc X b))).monitorRoom + ((t.map (z_conc X b)).map fun v => v.category).sum ≤ 8 := by
    rw [cS_e]
    show 2 * 0 + _ ≤ _
    omega
  intro T hT Xs
  have hsz := z_size Xs hT hr.2.2.2.2.2.2.1.1 hc hrel
  refine (?_ : W p l e R s m args below meth c H locs cells slots Z (F0 m pc arr ((as.reverse ++ t).map (z_conc X b)))) T hT Xs
  have hN := hr.2.2.2.2.2.2.1
  have hc1 := hc.1
  have hc2 := hc.2.1
  have hc3 := hc.2.2.1
  have hc4 := hc.2.2.2
  obtain ⟨o, as2, rfl⟩ : ∃ o as2, as = zr o :: as2 := by
    unfold z_rc at hrc
    split at hrc
    · exact ⟨_, _, rfl⟩
    · exact hrc.elim
  obtain ⟨ho, ks, hks⟩ := hrc
  obtain ⟨T0, N0, hcl⟩ := hcl
  have hrun : va_Run p l e R s m args below meth c H locs cells slots 0 0 (F0 m pc arr (((zr o :: as2).reverse ++ t).map (z_conc X b))) (t.map (z_conc X b)) (z_Qc My X g 0 0 _ _) (z_A X) := va_runV (H := H) (locs := locs) (As := as2.map (z_conc X b)) (b := X.2.2.2.1 + o) (rest := t.map (z_conc X b)) (g := F0 m pc arr (((zr o :: as2).reverse ++ t).map (z_conc X b))) ⟨hr.1, hr.2.1, hr.2.2.1, hr.2.2.2.1, hr.2.2.2.2.1⟩ (hct hoa hrel.2.2 l X b) (⟨z_CB (M := M) (My := My) (n := n) hr.2.2.2.2.1 hM hl hn hrm hr.2.2.2.2.2.2.2.1, hr.2.2.2.2.1 _ him, hr.2.2.2.2.1 _ hse⟩) ⟨z_blind, va_recv hr.2.2.2.2.2.1.1 hrel.1 hcl (z_ws_obj ho hks), fun U hU hW => z_pc (as := zr o :: as2) hr.2.2.2.2.2.1 hsz hrel hU hW⟩ rfl (by rw [List.length_map]; have := hlen; simp at this; exact this) hlv.1 (by show ((zr o :: as2).reverse ++ t).map (z_conc X b) = _; rw [List.map_append, List.reverse_cons, List.map_append, List.map_reverse, List.append_assoc]; rfl) hcs2 hd ⟨by omega, by omega⟩
  refine z_callW (My := My) (E := E) hrun hrel hc (by omega) (by omega) (fun x g' D' H1 locs1 hrel1 hQ1 hro hcn => ?_)
  obtain ⟨rfl, hP1⟩ := hQ1
  rw [hret x]
  exact k _ _ _ _ hP1 hr hcn hrel1 hlv hol (z_oks_c (hok x hro) hot)
def w_vJ (My : MI) (ci n : Nat) (K : WP) : WP := fun ls st g D => pN (n + 1) [] st fun as t => z_rc g ci as ∧ cS t ≤ 8 ∧ z_Cu My as g D (fun x D' => K ls (zl x :: t) g D')
theorem S_vJ {ci idx n : Nat} (hd : decode (mC M) pc = .ok (.invokevirtual idx, 3)) (hM : z_MI My) (hl : Cond.methodLink (mY M).cls idx (mY My) ∈ z_tb) (him : Cond.instanceMethod (mY My) ∈ z_tb) (hse : Cond.selects (mY My).cls (mY My) (mY My) ∈ z_tb) (hcl : ∃ (T : u_T) (N : Nat), clsL[ci]? = some ((mY My).cls, T, N)) (hn : z_np My n) (hrm : z_rm M My) (hret : ∀ x, z_rv (mR My) x = some (.long (Int64.ofInt x))) (hok : ∀ x, z_rok (mR My) x → zR6 x) (k : z_Snd M E (pc + 3) K) : z_Snd M E pc (w_vJ My ci n K) := by
  intro ls st g D hw X p l e R s m args below meth c Z b H locs cells slots arr n0 s0 hr hc hrel hlv hol hos
  obtain ⟨as, t, rfl, hlen, hw⟩ := pN_e hw
  rw [List.append_nil] at hw
  obtain ⟨hrc, hcs, hct⟩ := hw
  obtain ⟨hoa, hot⟩ := z_oks_r hos
  have hcs2 : 2 * (F0 m pc arr ((as.reverse ++ t).map (z_conc X b))).monitorRoom + ((t.map (z_conc X b)).map fun v => v.category).sum ≤ 8 := by
    rw [cS_e]
    show 2 * 0 + _ ≤ _
    omega
  intro T hT Xs
  have hsz := z_size Xs hT hr.2.2.2.2.2.2.1.1 hc hrel
  refine (?_ : W p l e R s m args below meth c H locs cells slots Z (F0 m pc arr ((as.reverse ++ t).map (z_conc X b)))) T hT Xs
  have hN := hr.2.2.2.2.2.2.1
  have hc1 := hc.1
  have hc2 := hc.2.1
  have hc3 := hc.2.2.1
  have hc4 := hc.2.2.2
  obtain ⟨o, as2, rfl⟩ : ∃ o as2, as = zr o :: as2 := by
    unfold z_rc at hrc
    split at hrc
    · exact ⟨_, _, rfl⟩
    · exact hrc.elim
  obtain ⟨ho, ks, hks⟩ := hrc
  obtain ⟨T0, N0, hcl⟩ := hcl
  have hrun : va_Run p l e R s m args below meth c H locs cells slots 0 0 (F0 m pc arr (((zr o :: as2).reverse ++ t).map (z_conc X b))) (t.map (z_conc X b)) (z_Qc My X g 0 0 _ _) (z_A X) := va_runV (H := H) (locs := locs) (As := as2.map (z_conc X b)) (b := X.2.2.2.1 + o) (rest := t.map (z_conc X b)) (g := F0 m pc arr (((zr o :: as2).reverse ++ t).map (z_conc X b))) ⟨hr.1, hr.2.1, hr.2.2.1, hr.2.2.2.1, hr.2.2.2.2.1⟩ (hct hoa hrel.2.2 l X b) (⟨z_CB (M := M) (My := My) (n := n) hr.2.2.2.2.1 hM hl hn hrm hr.2.2.2.2.2.2.2.1, hr.2.2.2.2.1 _ him, hr.2.2.2.2.1 _ hse⟩) ⟨z_blind, va_recv hr.2.2.2.2.2.1.1 hrel.1 hcl (z_ws_obj ho hks), fun U hU hW => z_pc (as := zr o :: as2) hr.2.2.2.2.2.1 hsz hrel hU hW⟩ rfl (by rw [List.length_map]; have := hlen; simp at this; exact this) hlv.1 (by show ((zr o :: as2).reverse ++ t).map (z_conc X b) = _; rw [List.map_append, List.reverse_cons, List.map_append, List.map_reverse, List.append_assoc]; rfl) hcs2 hd ⟨by omega, by omega⟩
  refine z_callW (My := My) (E := E) hrun hrel hc (by omega) (by omega) (fun x g' D' H1 locs1 hrel1 hQ1 hro hcn => ?_)
  obtain ⟨rfl, hP1⟩ := hQ1
  rw [hret x]
  exact k _ _ _ _ hP1 hr hcn hrel1 hlv hol (z_oks_c (hok x hro) hot)
def w_vV (My : MI) (ci n : Nat) (K : WP) : WP := fun ls st g D => pN (n + 1) [] st fun as t => z_rc g ci as ∧ cS t ≤ 8 ∧ z_Cu My as g D (fun _ D' => K ls (t) g D')
theorem S_vV {ci idx n : Nat} (hd : decode (mC M) pc = .ok (.invokevirtual idx, 3)) (hM : z_MI My) (hl : Cond.methodLink (mY M).cls idx (mY My) ∈ z_tb) (him : Cond.instanceMethod (mY My) ∈ z_tb) (hse : Cond.selects (mY My).cls (mY My) (mY My) ∈ z_tb) (hcl : ∃ (T : u_T) (N : Nat), clsL[ci]? = some ((mY My).cls, T, N)) (hn : z_np My n) (hrm : z_rm M My) (hret : ∀ x, z_rv (mR My) x = none) (k : z_Snd M E (pc + 3) K) : z_Snd M E pc (w_vV My ci n K) := by
  intro ls st g D hw X p l e R s m args below meth c Z b H locs cells slots arr n0 s0 hr hc hrel hlv hol hos
  obtain ⟨as, t, rfl, hlen, hw⟩ := pN_e hw
  rw [List.append_nil] at hw
  obtain ⟨hrc, hcs, hct⟩ := hw
  obtain ⟨hoa, hot⟩ := z_oks_r hos
  have hcs2 : 2 * (F0 m pc arr ((as.reverse ++ t).map (z_conc X b))).monitorRoom + ((t.map (z_conc X b)).map fun v => v.category).sum ≤ 8 := by
    rw [cS_e]
    show 2 * 0 + _ ≤ _
    omega
  intro T hT Xs
  have hsz := z_size Xs hT hr.2.2.2.2.2.2.1.1 hc hrel
  refine (?_ : W p l e R s m args below meth c H locs cells slots Z (F0 m pc arr ((as.reverse ++ t).map (z_conc X b)))) T hT Xs
  have hN := hr.2.2.2.2.2.2.1
  have hc1 := hc.1
  have hc2 := hc.2.1
  have hc3 := hc.2.2.1
  have hc4 := hc.2.2.2
  obtain ⟨o, as2, rfl⟩ : ∃ o as2, as = zr o :: as2 := by
    unfold z_rc at hrc
    split at hrc
    · exact ⟨_, _, rfl⟩
    · exact hrc.elim
  obtain ⟨ho, ks, hks⟩ := hrc
  obtain ⟨T0, N0, hcl⟩ := hcl
  have hrun : va_Run p l e R s m args below meth c H locs cells slots 0 0 (F0 m pc arr (((zr o :: as2).reverse ++ t).map (z_conc X b))) (t.map (z_conc X b)) (z_Qc My X g 0 0 _ _) (z_A X) := va_runV (H := H) (locs := locs) (As := as2.map (z_conc X b)) (b := X.2.2.2.1 + o) (rest := t.map (z_conc X b)) (g := F0 m pc arr (((zr o :: as2).reverse ++ t).map (z_conc X b))) ⟨hr.1, hr.2.1, hr.2.2.1, hr.2.2.2.1, hr.2.2.2.2.1⟩ (hct hoa hrel.2.2 l X b) (⟨z_CB (M := M) (My := My) (n := n) hr.2.2.2.2.1 hM hl hn hrm hr.2.2.2.2.2.2.2.1, hr.2.2.2.2.1 _ him, hr.2.2.2.2.1 _ hse⟩) ⟨z_blind, va_recv hr.2.2.2.2.2.1.1 hrel.1 hcl (z_ws_obj ho hks), fun U hU hW => z_pc (as := zr o :: as2) hr.2.2.2.2.2.1 hsz hrel hU hW⟩ rfl (by rw [List.length_map]; have := hlen; simp at this; exact this) hlv.1 (by show ((zr o :: as2).reverse ++ t).map (z_conc X b) = _; rw [List.map_append, List.reverse_cons, List.map_append, List.map_reverse, List.append_assoc]; rfl) hcs2 hd ⟨by omega, by omega⟩
  refine z_callW (My := My) (E := E) hrun hrel hc (by omega) (by omega) (fun x g' D' H1 locs1 hrel1 hQ1 hro hcn => ?_)
  obtain ⟨rfl, hP1⟩ := hQ1
  rw [hret x]
  exact k _ _ _ _ hP1 hr hcn hrel1 hlv hol (hot)
theorem S_nI {idx n : Nat} {host : String} (hd : decode (mC M) pc = .ok (.invokestatic idx, 3)) (hM : z_MI My) (hl : ((mY M).cls, idx, mY My, host) ∈ z_nst) (hst : Cond.static (mY My) ∈ z_tb) (hn : z_np My n) (hrm : z_rm M My) (hret : ∀ x, z_rv (mR My) x = some (.int (Int32.ofInt x))) (hok : ∀ x, z_rok (mR My) x → zR x) (k : z_Snd M E (pc + 3) K) : z_Snd M E pc (w_sI My n K) := by
  intro ls st g D hw X p l e R s m args below meth c Z b H locs cells slots arr n0 s0 hr hc hrel hlv hol hos
  obtain ⟨as, t, rfl, hlen, hw⟩ := pN_e hw
  rw [List.append_nil] at hw
  obtain ⟨hcs, hct⟩ := hw
  obtain ⟨hoa, hot⟩ := z_oks_r hos
  have hcs2 : 2 * (F0 m pc arr ((as.reverse ++ t).map (z_conc X b))).monitorRoom + ((t.map (z_conc X b)).map fun v => v.category).sum ≤ 8 := by
    rw [cS_e]
    show 2 * 0 + _ ≤ _
    omega
  intro T hT Xs
  have hsz := z_size Xs hT hr.2.2.2.2.2.2.1.1 hc hrel
  refine (?_ : W p l e R s m args below meth c H locs cells slots Z (F0 m pc arr ((as.reverse ++ t).map (z_conc X b)))) T hT Xs
  have hN := hr.2.2.2.2.2.2.1
  have hc1 := hc.1
  have hc2 := hc.2.1
  have hc3 := hc.2.2.1
  have hc4 := hc.2.2.2
  have hrun : va_Run p l e R s m args below meth c H locs cells slots 0 0 (F0 m pc arr ((as.reverse ++ t).map (z_conc X b))) (t.map (z_conc X b)) (z_Qc My X g 0 0 _ _) (z_A X) := va_runSN (H := H) (locs := locs) (As := as.map (z_conc X b)) (rest := t.map (z_conc X b)) (g := F0 m pc arr ((as.reverse ++ t).map (z_conc X b))) ⟨hr.1, hr.2.1, hr.2.2.1, hr.2.2.2.1, hr.2.2.2.2.1⟩ (hct hoa hrel.2.2 l X b) (⟨z_CBN (M := M) (My := My) (n := n) (host := host) hr.2.2.2.2.1 hM (hr.2.2.2.2.2.1.2.2.2.2.2 _ hl) hn hrm hr.2.2.2.2.2.2.2.1, hr.2.2.2.2.1 _ hst, trivial⟩) ⟨z_blind, fun U hU hW => z_pc hr.2.2.2.2.2.1 hsz hrel hU hW⟩ rfl (by rw [List.length_map]; exact hlen) hlv.1 (by show (as.reverse ++ t).map (z_conc X b) = _; rw [List.map_append, List.map_reverse]) hcs2 hd ⟨by omega, by omega⟩
  refine z_callW (My := My) (E := E) hrun hrel hc (by omega) (by omega) (fun x g' D' H1 locs1 hrel1 hQ1 hro hcn => ?_)
  obtain ⟨rfl, hP1⟩ := hQ1
  rw [hret x]
  exact k _ _ _ _ hP1 hr hcn hrel1 hlv hol (z_oks_c (hok x hro) hot)
def w_tI (My : MI) (n : Nat) (K : WP) : WP := fun ls st g D => pN (n + 1) [] st fun as t => (∃ i as2, as = zs i :: as2) ∧ cS t ≤ 8 ∧ z_Cu My as g D (fun x D' => K ls (zi x :: t) g D')
theorem S_tI {idx n : Nat} (hd : decode (mC M) pc = .ok (.invokevirtual idx, 3)) (hM : z_MI My) (hl : Cond.methodLink (mY M).cls idx (mY My) ∈ z_tb) (him : Cond.instanceMethod (mY My) ∈ z_tb) (hse : Cond.selects "java/lang/String" (mY My) (mY My) ∈ z_tb) (hn : z_np My n) (hrm : z_rm M My) (hret : ∀ x, z_rv (mR My) x = some (.int (Int32.ofInt x))) (hok : ∀ x, z_rok (mR My) x → zR x) (k : z_Snd M E (pc + 3) K) : z_Snd M E pc (w_tI My n K) := by
  intro ls st g D hw X p l e R s m args below meth c Z b H locs cells slots arr n0 s0 hr hc hrel hlv hol hos
  obtain ⟨as, t, rfl, hlen, hw⟩ := pN_e hw
  rw [List.append_nil] at hw
  obtain ⟨hrc, hcs, hct⟩ := hw
  obtain ⟨hoa, hot⟩ := z_oks_r hos
  have hcs2 : 2 * (F0 m pc arr ((as.reverse ++ t).map (z_conc X b))).monitorRoom + ((t.map (z_conc X b)).map fun v => v.category).sum ≤ 8 := by
    rw [cS_e]
    show 2 * 0 + _ ≤ _
    omega
  intro T hT Xs
  have hsz := z_size Xs hT hr.2.2.2.2.2.2.1.1 hc hrel
  refine (?_ : W p l e R s m args below meth c H locs cells slots Z (F0 m pc arr ((as.reverse ++ t).map (z_conc X b)))) T hT Xs
  have hN := hr.2.2.2.2.2.2.1
  have hc1 := hc.1
  have hc2 := hc.2.1
  have hc3 := hc.2.2.1
  have hc4 := hc.2.2.2
  obtain ⟨i, as2, rfl⟩ := hrc
  have hi : i < 7 := hoa (zs i) List.mem_cons_self
  have hrun : va_Run p l e R s m args below meth c H locs cells slots 0 0 (F0 m pc arr (((zs i :: as2).reverse ++ t).map (z_conc X b))) (t.map (z_conc X b)) (z_Qc My X g 0 0 _ _) (z_A X) := va_runV (C := "java/lang/String") (H := H) (locs := locs) (As := as2.map (z_conc X b)) (b := X.2.2.2.2.1 i) (rest := t.map (z_conc X b)) (g := F0 m pc arr (((zs i :: as2).reverse ++ t).map (z_conc X b))) ⟨hr.1, hr.2.1, hr.2.2.1, hr.2.2.2.1, hr.2.2.2.2.1⟩ (hct hoa hrel.2.2 l X b) (⟨z_CB (M := M) (My := My) (n := n) hr.2.2.2.2.1 hM hl hn hrm hr.2.2.2.2.2.2.2.1, hr.2.2.2.2.1 _ him, hr.2.2.2.2.1 _ hse⟩) ⟨z_blind, vk_recv hr.2.2.2.2.2.1.2.1 hi hrel.2.1, fun U hU hW => z_pc (as := zs i :: as2) hr.2.2.2.2.2.1 hsz hrel hU hW⟩ rfl (by rw [List.length_map]; have := hlen; simp at this; exact this) hlv.1 (by show ((zs i :: as2).reverse ++ t).map (z_conc X b) = _; rw [List.map_append, List.reverse_cons, List.map_append, List.map_reverse, List.append_assoc]; rfl) hcs2 hd ⟨by omega, by omega⟩
  refine z_callW (My := My) (E := E) hrun hrel hc (by omega) (by omega) (fun x g' D' H1 locs1 hrel1 hQ1 hro hcn => ?_)
  obtain ⟨rfl, hP1⟩ := hQ1
  rw [hret x]
  exact k _ _ _ _ hP1 hr hcn hrel1 hlv hol (z_oks_c (hok x hro) hot)
def w_init (E : En) (My : MI) (n mc ms : Nat) (K : WP) : WP := fun ls st g D => pN (n + 1) [] st fun as t => (∃ o as2, as = zr o :: as2) ∧ cS t ≤ 8 ∧ g.1 + mc ≤ E.1.1 ∧ g.2.1 + ms ≤ E.1.2 ∧ z_Ct My mc ms as g D (fun _ g' D' => K ls t g' D')
theorem S_init {idx n mc ms : Nat} (hd : decode (mC M) pc = .ok (.invokespecial idx, 3)) (hM : z_MI My) (hl : Cond.methodLink (mY M).cls idx (mY My) ∈ z_tb) (him : Cond.instanceMethod (mY My) ∈ z_tb) (hini : (mY My).name = "<init>") (hn : z_np My n) (hrm : z_rm M My) (hret0 : mR My = none) (k : z_Snd M E (pc + 3) K) : z_Snd M E pc (w_init E My n mc ms K) := by
  intro ls st g D hw X p l e R s m args below meth c Z b H locs cells slots arr n0 s0 hr hc hrel hlv hol hos
  obtain ⟨as, t, rfl, hlen, hw⟩ := pN_e hw
  rw [List.append_nil] at hw
  obtain ⟨hrc, hcs, hg1, hg2, hct⟩ := hw
  obtain ⟨hoa, hot⟩ := z_oks_r hos
  have hcs2 : 2 * (F0 m pc arr ((as.reverse ++ t).map (z_conc X b))).monitorRoom + ((t.map (z_conc X b)).map fun v => v.category).sum ≤ 8 := by
    rw [cS_e]
    show 2 * 0 + _ ≤ _
    omega
  intro T hT Xs
  have hsz := z_size Xs hT hr.2.2.2.2.2.2.1.1 hc hrel
  refine (?_ : W p l e R s m args below meth c H locs cells slots Z (F0 m pc arr ((as.reverse ++ t).map (z_conc X b)))) T hT Xs
  have hN := hr.2.2.2.2.2.2.1
  have hc1 := hc.1
  have hc2 := hc.2.1
  have hc3 := hc.2.2.1
  have hc4 := hc.2.2.2
  obtain ⟨o, as2, rfl⟩ := hrc
  have hcb := z_CB (M := M) (My := My) (n := n) hr.2.2.2.2.1 hM hl hn hrm hr.2.2.2.2.2.2.2.1 (mc := mc) (ms := ms) (args := args)
  rw [hret0] at hcb
  have hrun : va_Run p l e R s m args below meth c H locs cells slots mc ms (F0 m pc arr (((zr o :: as2).reverse ++ t).map (z_conc X b))) (t.map (z_conc X b)) (z_Qc My X g mc ms _ _) (z_A X) := va_runI (H := H) (locs := locs) (As := as2.map (z_conc X b)) (b := X.2.2.2.1 + o) (rest := t.map (z_conc X b)) (g := F0 m pc arr (((zr o :: as2).reverse ++ t).map (z_conc X b))) ⟨hr.1, hr.2.1, hr.2.2.1, hr.2.2.2.1, hr.2.2.2.2.1⟩ (hct hoa hrel.2.2 l X b) (⟨hcb, hini, hr.2.2.2.2.1 _ him⟩) ⟨z_blind, fun U hU hW => z_pc (as := zr o :: as2) hr.2.2.2.2.2.1 hsz hrel hU hW⟩ rfl (by rw [List.length_map]; have := hlen; simp at this; exact this) hlv.1 (by show ((zr o :: as2).reverse ++ t).map (z_conc X b) = _; rw [List.map_append, List.reverse_cons, List.map_append, List.map_reverse, List.append_assoc]; rfl) hcs2 hd ⟨by omega, by omega⟩
  refine z_callW (My := My) (E := E) hrun hrel hc (by omega) (by omega) (fun x g' D' H1 locs1 hrel1 hQ1 hro hcn => ?_)
  rw [hret0]
  exact k _ _ _ _ hQ1 hr hcn hrel1 hlv hol hot
theorem S_initN {idx n mc ms : Nat} (hd : decode (mC M) pc = .ok (.invokespecial idx, 3)) (hM : z_MI My) {host : String} (hl : ((mY M).cls, idx, mY My, host) ∈ z_nst) (him : Cond.instanceMethod (mY My) ∈ z_tb) (hini : (mY My).name = "<init>") (hn : z_np My n) (hrm : z_rm M My) (hret0 : mR My = none) (k : z_Snd M E (pc + 3) K) : z_Snd M E pc (w_init E My n mc ms K) := by
  intro ls st g D hw X p l e R s m args below meth c Z b H locs cells slots arr n0 s0 hr hc hrel hlv hol hos
  obtain ⟨as, t, rfl, hlen, hw⟩ := pN_e hw
  rw [List.append_nil] at hw
  obtain ⟨hrc, hcs, hg1, hg2, hct⟩ := hw
  obtain ⟨hoa, hot⟩ := z_oks_r hos
  have hcs2 : 2 * (F0 m pc arr ((as.reverse ++ t).map (z_conc X b))).monitorRoom + ((t.map (z_conc X b)).map fun v => v.category).sum ≤ 8 := by
    rw [cS_e]
    show 2 * 0 + _ ≤ _
    omega
  intro T hT Xs
  have hsz := z_size Xs hT hr.2.2.2.2.2.2.1.1 hc hrel
  refine (?_ : W p l e R s m args below meth c H locs cells slots Z (F0 m pc arr ((as.reverse ++ t).map (z_conc X b)))) T hT Xs
  have hN := hr.2.2.2.2.2.2.1
  have hc1 := hc.1
  have hc2 := hc.2.1
  have hc3 := hc.2.2.1
  have hc4 := hc.2.2.2
  obtain ⟨o, as2, rfl⟩ := hrc
  have hcb := z_CBN (M := M) (My := My) (n := n) (host := host) hr.2.2.2.2.1 hM (hr.2.2.2.2.2.1.2.2.2.2.2 _ hl) hn hrm hr.2.2.2.2.2.2.2.1 (mc := mc) (ms := ms) (args := args)
  rw [hret0] at hcb
  have hrun : va_Run p l e R s m args below meth c H locs cells slots mc ms (F0 m pc arr (((zr o :: as2).reverse ++ t).map (z_conc X b))) (t.map (z_conc X b)) (z_Qc My X g mc ms _ _) (z_A X) := va_runIN (H := H) (locs := locs) (As := as2.map (z_conc X b)) (b := X.2.2.2.1 + o) (rest := t.map (z_conc X b)) (g := F0 m pc arr (((zr o :: as2).reverse ++ t).map (z_conc X b))) ⟨hr.1, hr.2.1, hr.2.2.1, hr.2.2.2.1, hr.2.2.2.2.1⟩ (hct hoa hrel.2.2 l X b) (⟨hcb, hini, hr.2.2.2.2.1 _ him⟩) ⟨z_blind, fun U hU hW => z_pc (as := zr o :: as2) hr.2.2.2.2.2.1 hsz hrel hU hW⟩ rfl (by rw [List.length_map]; have := hlen; simp at this; exact this) hlv.1 (by show ((zr o :: as2).reverse ++ t).map (z_conc X b) = _; rw [List.map_append, List.reverse_cons, List.map_append, List.map_reverse, List.append_assoc]; rfl) hcs2 hd ⟨by omega, by omega⟩
  refine z_callW (My := My) (E := E) hrun hrel hc (by omega) (by omega) (fun x g' D' H1 locs1 hrel1 hQ1 hro hcn => ?_)
  rw [hret0]
  exact k _ _ _ _ hQ1 hr hcn hrel1 hlv hol hot
-- Math, arraycopy
def w_mmax (K : WP) : WP := fun ls st g D => pI st fun y t => pI t fun x t2 => cS t2 ≤ 8 ∧ K ls (zi (max x y) :: t2) g D
def w_mmin (K : WP) : WP := fun ls st g D => pI st fun y t => pI t fun x t2 => cS t2 ≤ 8 ∧ K ls (zi (min x y) :: t2) g D
def w_mabs (K : WP) : WP := fun ls st g D => pI st fun x t2 => cS t2 ≤ 8 ∧ zR (-x) ∧ K ls (zi (max x (-x)) :: t2) g D
def w_lmax (K : WP) : WP := fun ls st g D => pJ st fun y t => pJ t fun x t2 => cS t2 ≤ 8 ∧ K ls (zl (max x y) :: t2) g D
theorem z_le_rc {X : Xe} {b n0 s0 : Nat} {p : Program} {l : Launch} {e : Env} {R : Room} {s : State} {m : MethodId} {args : Array Value} {below : List Frame} {meth : Method} {c : Code} {Z : State → Prop} {g : Gm} {cells slots : Nat} (hr : z_Run M E X p l e R s m args below meth c Z b n0 s0) (hc : z_Cn E n0 s0 g cells slots) : cells ≤ R.cells ∧ slots ≤ R.slots := by
  have h1 := hr.2.2.2.2.2.2.1
  have h2 := hc.1
  have h3 := hc.2.1
  have h4 := hc.2.2.1
  have h5 := hc.2.2.2
  exact ⟨by omega, by omega⟩
theorem S_mmax {idx : Nat} (hd : decode (mC M) pc = .ok (.invokestatic idx, 3)) (hl : Cond.methodLink (mY M).cls idx Lib.Math.max.name ∈ z_tb) (hs : Cond.static Lib.Math.max.name ∈ z_tb) (hi : Cond.initialized "java/lang/Math" ∈ z_tb) (hcd : Cond.code Lib.Math.max.name Lib.Math.max.code 2 (some .int) ∈ z_tb) (hF : 1 ≤ mF M) (hL : 23 ≤ mL M) (k : z_Snd M E (pc + 3) K) : z_Snd M E pc (w_mmax K) := by
  intro ls st g D hw X p l e R s m args below meth c Z b H locs cells slots arr n0 s0 hr hc hrel hlv hol hos
  obtain ⟨y, t, rfl, hA⟩ := pI_e hw
  obtain ⟨x, t2, rfl, hcs, hB⟩ := pI_e hA
  have hy := z_oks_h hos
  have hx := z_oks_h (z_oks_t hos)
  have hot := z_oks_t (z_oks_t hos)
  have e1 : (if Int32.ofInt x < Int32.ofInt y then Int32.ofInt y else Int32.ofInt x) = Int32.ofInt (max x y) := by
    by_cases q : x < y
    · rw [if_pos ((zR_lt hx hy).mpr q)]; congr 1; omega
    · rw [if_neg (fun w => q ((zR_lt hx hy).mp w))]; congr 1; omega
  have hroom := hr.2.2.2.2.2.2.2.1
  refine va_mmax hr.1 hr.2.1 (by rw [hr.2.2.1]; exact hlv.1.symm) hr.2.2.2.1 (hr.2.2.2.2.1 _ hl) (hr.2.2.2.2.1 _ hs) (hr.2.2.2.2.1 _ hi) (hr.2.2.2.2.1 _ hcd) (by omega) (by rw [cS_e]; omega) (z_le_rc hr hc).1 (z_le_rc hr hc).2 hd ?_
  rw [e1]
  exact k _ _ _ _ hB hr hc hrel hlv hol (z_oks_c (show zR (max x y) by unfold zR; have := hx.1; have := hx.2; have := hy.1; have := hy.2; omega) hot)
theorem S_mmin {idx : Nat} (hd : decode (mC M) pc = .ok (.invokestatic idx, 3)) (hl : Cond.methodLink (mY M).cls idx Lib.Math.min.name ∈ z_tb) (hs : Cond.static Lib.Math.min.name ∈ z_tb) (hi : Cond.initialized "java/lang/Math" ∈ z_tb) (hcd : Cond.code Lib.Math.min.name Lib.Math.min.code 2 (some .int) ∈ z_tb) (hF : 1 ≤ mF M) (hL : 23 ≤ mL M) (k : z_Snd M E (pc + 3) K) : z_Snd M E pc (w_mmin K) := by
  intro ls st g D hw X p l e R s m args below meth c Z b H locs cells slots arr n0 s0 hr hc hrel hlv hol hos
  obtain ⟨y, t, rfl, hA⟩ := pI_e hw
  obtain ⟨x, t2, rfl, hcs, hB⟩ := pI_e hA
  have hy := z_oks_h hos
  have hx := z_oks_h (z_oks_t hos)
  have hot := z_oks_t (z_oks_t hos)
  have e1 : (if Int32.ofInt y < Int32.ofInt x then Int32.ofInt y else Int32.ofInt x) = Int32.ofInt (min x y) := by
    by_cases q : y < x
    · rw [if_pos ((zR_lt hy hx).mpr q)]; congr 1; omega
    · rw [if_neg (fun w => q ((zR_lt hy hx).mp w))]; congr 1; omega
  have hroom := hr.2.2.2.2.2.2.2.1
  refine va_mmin hr.1 hr.2.1 (by rw [hr.2.2.1]; exact hlv.1.symm) hr.2.2.2.1 (hr.2.2.2.2.1 _ hl) (hr.2.2.2.2.1 _ hs) (hr.2.2.2.2.1 _ hi) (hr.2.2.2.2.1 _ hcd) (by omega) (by rw [cS_e]; omega) (z_le_rc hr hc).1 (z_le_rc hr hc).2 hd ?_
  rw [e1]
  exact k _ _ _ _ hB hr hc hrel hlv hol (z_oks_c (show zR (min x y) by unfold zR; have := hx.1; have := hx.2; have := hy.1; have := hy.2; omega) hot)
theorem S_mabs {idx : Nat} (hd : decode (mC M) pc = .ok (.invokestatic idx, 3)) (hl : Cond.methodLink (mY M).cls idx Lib.Math.abs.name ∈ z_tb) (hs : Cond.static Lib.Math.abs.name ∈ z_tb) (hi : Cond.initialized "java/lang/Math" ∈ z_tb) (hcd : Cond.code Lib.Math.abs.name Lib.Math.abs.code 1 (some .int) ∈ z_tb) (hF : 1 ≤ mF M) (hL : 23 ≤ mL M) (k : z_Snd M E (pc + 3) K) : z_Snd M E pc (w_mabs K) := by
  intro ls st g D hw X p l e R s m args below meth c Z b H locs cells slots arr n0 s0 hr hc hrel hlv hol hos
  obtain ⟨x, t2, rfl, hcs, hng, hA⟩ := pI_e hw
  have hx := z_oks_h hos
  have hot := z_oks_t hos
  have e1 : (if 0 ≤ Int32.ofInt x then Int32.ofInt x else 0 - Int32.ofInt x) = Int32.ofInt (max x (-x)) := by
    have e0 : (0 : Int32) ≤ Int32.ofInt x ↔ 0 ≤ x := zR_le zR_0 hx
    by_cases q : 0 ≤ x
    · rw [if_pos (e0.mpr q)]; congr 1; omega
    · rw [if_neg (fun w => q (e0.mp w)), show max x (-x) = 0 - x by omega, Int32.ofInt_sub]; rfl
  have hroom := hr.2.2.2.2.2.2.2.1
  refine va_mabs hr.1 hr.2.1 (by rw [hr.2.2.1]; exact hlv.1.symm) hr.2.2.2.1 (hr.2.2.2.2.1 _ hl) (hr.2.2.2.2.1 _ hs) (hr.2.2.2.2.1 _ hi) (hr.2.2.2.2.1 _ hcd) (by omega) (by rw [cS_e]; omega) (z_le_rc hr hc).1 (z_le_rc hr hc).2 hd ?_
  rw [e1]
  exact k _ _ _ _ hA hr hc hrel hlv hol (z_oks_c (show zR (max x (-x)) by unfold zR; have := hx.1; have := hx.2; have := hng.1; have := hng.2; omega) hot)
theorem S_lmax {idx : Nat} (hd : decode (mC M) pc = .ok (.invokestatic idx, 3)) (hl : Cond.methodLink (mY M).cls idx Lib.MathLoose.max_long.x ∈ z_tb) (hs : Cond.static Lib.MathLoose.max_long.x ∈ z_tb) (hi : Cond.initialized "java/lang/Math" ∈ z_tb) (hcd : Cond.code Lib.MathLoose.max_long.x Lib.MathLoose.max_long.code 4 (some .long) ∈ z_tb) (hF : 1 ≤ mF M) (hL : 23 ≤ mL M) (k : z_Snd M E (pc + 3) K) : z_Snd M E pc (w_lmax K) := by
  intro ls st g D hw X p l e R s m args below meth c Z b H locs cells slots arr n0 s0 hr hc hrel hlv hol hos
  obtain ⟨y, t, rfl, hA⟩ := pJ_e hw
  obtain ⟨x, t2, rfl, hcs, hB⟩ := pJ_e hA
  have hy := z_oks_h hos
  have hx := z_oks_h (z_oks_t hos)
  have hot := z_oks_t (z_oks_t hos)
  have e1 : (if Int64.ofInt y < Int64.ofInt x then Int64.ofInt x else Int64.ofInt y) = Int64.ofInt (max x y) := by
    have e2 : Int64.ofInt y < Int64.ofInt x ↔ y < x := by rw [Int64.lt_iff_toInt_lt, zR6_toInt hx, zR6_toInt hy]
    by_cases q : y < x
    · rw [if_pos (e2.mpr q)]; congr 1; omega
    · rw [if_neg (fun w => q (e2.mp w))]; congr 1; omega
  have hroom := hr.2.2.2.2.2.2.2.1
  refine va_mmax_long hr.1 hr.2.1 (by rw [hr.2.2.1]; exact hlv.1.symm) hr.2.2.2.1 (hr.2.2.2.2.1 _ hl) (hr.2.2.2.2.1 _ hs) (hr.2.2.2.2.1 _ hi) (hr.2.2.2.2.1 _ hcd) (by omega) (by rw [cS_e]; omega) (z_le_rc hr hc).1 (z_le_rc hr hc).2 hd ?_
  rw [e1]
  exact k _ _ _ _ hB hr hc hrel hlv hol (z_oks_c (show zR6 (max x y) by unfold zR6; have := hx.1; have := hx.2; have := hy.1; have := hy.2; omega) hot)
def w_acopy (K : WP) : WP := fun ls st g D => pI st fun n t => pI t fun dp t2 => pA t2 fun dst t3 => pI t3 fun sp t4 => pA t4 fun src t5 => cS t5 ≤ 8 ∧ z_a g src false ∧ z_a g dst false ∧ 0 ≤ n ∧ 0 ≤ sp ∧ 0 ≤ dp ∧ sp + n ≤ zn g src ∧ dp + n ≤ zn g dst ∧ K ls t5 g (zCp D src sp dst dp n)
theorem z_ws_cp {X : Xe} {g : Gm} {D : Mem} {src dst n1 : Nat} {bz : Bool} {sp dp n : Int} (hs : g.2.2 dst = .inr (bz, n1)) (hd : dst < g.1) (h0 : 0 ≤ sp) (h1 : 0 ≤ dp) (h2 : 0 ≤ n) : (z_ws X g D).set dst (X.2.2.2.1 + dst, .inl ((if bz = true then X.2.2.1 else X.2.1), n1, .inl (va_cpy (fun j => Int32.ofInt (D src j)) (fun j => Int32.ofInt (D dst j)) sp.toNat dp.toNat n.toNat))) = z_ws X g (zCp D src sp dst dp n) := by
  apply List.ext_getElem?
  intro i
  rw [List.getElem?_set]
  by_cases hi : i < g.1
  · by_cases ho : dst = i
    · subst ho
      rw [if_pos rfl, z_ws_get hi, if_pos (by simpa [z_ws] using hi), hs]
      congr 2
      show Sum.inl (_, n1, Sum.inl _) = Sum.inl (_, n1, Sum.inl _)
      congr 3
      congr 1
      funext j
      unfold va_cpy zCp
      by_cases hj : dp.toNat ≤ j ∧ j < dp.toNat + n.toNat
      · have e : ((sp.toNat + (j - dp.toNat) : Nat) : Int) = sp + ((j : Int) - dp) := by omega
        rw [if_pos hj, if_pos ⟨rfl, by omega, by omega⟩]
        show Int32.ofInt (D src ((sp.toNat + (j - dp.toNat) : Nat) : Int)) = _
        rw [e]
      · rw [if_neg hj, if_neg (fun w => hj ⟨by omega, by omega⟩)]
    · rw [if_neg ho, z_ws_get hi, z_ws_get hi]
      have : zCp D src sp dst dp n i = D i := by
        funext j
        unfold zCp
        rw [if_neg (fun w => ho w.1.symm)]
      rw [this]
  · have e1 : (z_ws X g D)[i]? = none := by simp [z_ws]; omega
    have e2 : (z_ws X g (zCp D src sp dst dp n))[i]? = none := by simp [z_ws]; omega
    rw [e1, e2]
    split
    · rename_i ho
      subst ho
      rw [if_neg (by simpa [z_ws] using hi)]
    · rfl
theorem z_in_cp {g : Gm} {D : Mem} {src dst n0 n1 : Nat} {sp dp n : Int} (hin : z_in g D) (hs : src < g.1) (hd : dst < g.1) (h1 : g.2.2 src = .inr (false, n0)) (h2 : g.2.2 dst = .inr (false, n1)) (h3 : 0 ≤ sp) (h4 : sp + n ≤ n0) : z_in g (zCp D src sp dst dp n) := by
  intro q hq
  have hD := hin q hq
  by_cases e : q = dst
  · subst e
    rw [h2] at hD ⊢
    intro j hj
    refine ⟨?_, fun w => by cases w⟩
    unfold zCp
    split
    · rename_i hc
      exact z_arr_ok hin hs h1 (by omega) (by omega)
    · exact (hD j hj).1
  · have : zCp D src sp dst dp n q = D q := by
      funext j
      unfold zCp
      rw [if_neg (fun w => e w.1)]
    rw [this]
    exact hD
theorem S_acopy {idx : Nat} (hd : decode (mC M) pc = .ok (.invokestatic idx, 3)) (hl : Cond.methodLink (mY M).cls idx arraycopyName ∈ z_tb) (hnat : Cond.native arraycopyName ∈ z_tb) (hs : Cond.static arraycopyName ∈ z_tb) (hi : Cond.initialized "java/lang/System" ∈ z_tb) (hF : 1 ≤ mF M) (hL : 8 + (nativeFrameWords "java/lang/System" "arraycopy" 5 + 11) ≤ mL M) (k : z_Snd M E (pc + 3) K) : z_Snd M E pc (w_acopy K) := by
  intro ls st g D hw X p l e R s m args below meth c Z b H locs cells slots arr n0 s0 hr hc hrel hlv hol hos
  obtain ⟨n, t, rfl, hA⟩ := pI_e hw
  obtain ⟨dp, t2, rfl, hB⟩ := pI_e hA
  obtain ⟨dst, t3, rfl, hC⟩ := pA_e hB
  obtain ⟨sp, t4, rfl, h5⟩ := pI_e hC
  obtain ⟨src, t5, rfl, hcs, ⟨ha0, m0, hm0, hs0⟩, ⟨ha1, m1, hm1, hs1⟩, hn, hsp, hdp, hb0, hb1, hfin⟩ := pA_e h5
  rw [zn_of hs0] at hb0
  rw [zn_of hs1] at hb1
  have on := z_oks_h hos
  have odp := z_oks_h (z_oks_t hos)
  have osp := z_oks_h (z_oks_t (z_oks_t (z_oks_t hos)))
  have hot := z_oks_t (z_oks_t (z_oks_t (z_oks_t (z_oks_t hos))))
  have hroom := hr.2.2.2.2.2.2.2.1
  have e0 := z_clamp on hn
  have e1 := z_clamp osp hsp
  have e2 := z_clamp odp hdp
  have ng : ∀ {x : Int}, zR x → 0 ≤ x → ¬ Int32.ofInt x < 0 := fun hx h0 q => by
    have := (zR_lt hx zR_0).mp q
    omega
  refine va_copyi (D := X.1) (cl := clsL) (ws := z_ws X g D) (ty := .int) hr.1 hr.2.1 (by rw [hr.2.2.1]; exact hlv.1.symm) hr.2.2.2.1 (hr.2.2.2.2.1 _ hl) (hr.2.2.2.2.1 _ hnat) (hr.2.2.2.2.1 _ hs) (hr.2.2.2.2.1 _ hi) hr.2.2.2.2.2.1.1 hrel.1 z_D hrel.2.1 src dst 0 0 (z_ws_arr ha0 hs0) (z_ws_arr ha1 hs1) rfl rfl rfl (ng osp hsp) (ng odp hdp) (ng on hn) (by rw [e0, e1]; omega) (by rw [e0, e2]; omega) (fun _ _ => rfl) (by omega) (by rw [cS_e]; omega) hd (fun H1 locs1 hP1 hD1 hS1 => ?_)
  rw [e0, e1, e2] at hP1
  have e : (z_ws X g D).set dst (X.2.2.2.1 + dst, .inl ((if false = true then X.2.2.1 else X.2.1), m1, .inl (va_cpy (fun j => Int32.ofInt (D src j)) (fun j => Int32.ofInt (D dst j)) sp.toNat dp.toNat n.toNat))) = z_ws X g (zCp D src sp dst dp n) := z_ws_cp hs1 ha1 hsp hdp hn
  rw [e] at hP1
  exact k _ _ _ _ hfin hr hc ⟨hP1, hS1, z_in_cp hrel.2.2 ha0 ha1 hs0 hs1 hsp hb0⟩ hlv hol hot
-- the script
def w_sld (E : En) (K : WP) : WP := fun ls st g D => pI st fun i t => pM t fun k t2 => k = 2 ∧ 0 ≤ i ∧ i + 1 < E.2.1.1 ∧ K ls (zi (E.2.1.2 i.toNat) :: t2) g D
def w_slen (E : En) (K : WP) : WP := fun ls st g D => pM st fun k t2 => k = 2 ∧ 0 < E.2.1.1 ∧ K ls (zi ((E.2.1.1 - 1 : Nat) : Int) :: t2) g D
theorem S_sld (hd : decode (mC M) pc = .ok (.iaload, 1)) (k : z_Snd M E (pc + 1) K) : z_Snd M E pc (w_sld E K) := by
  intro ls st g D hw X p l e R s m args below meth c Z b H locs cells slots arr n0 s0 hr hc hrel hlv hol hos
  obtain ⟨i, t, rfl, hw⟩ := pI_e hw
  obtain ⟨kk, t2, rfl, rfl, h0, h1, hw⟩ := pM_e hw
  have hi := z_oks_h hos
  rcases hr.2.2.2.2.2.2.2.2.2.1 with q | ⟨hX, hbl, hbN, hsm, hxs⟩
  · omega
  · refine va_sld hr.1 hr.2.1 hX hbl (A := z_A X) (fun q => by have q' : X.2.2.2.1 ≤ b := q; omega) hrel.2.1 (i := Int32.ofInt i) (z_vpin hi h0 (by omega)) hd ?_
    rw [z_clamp hi h0]
    exact k _ _ _ _ hw hr hc hrel hlv hol (z_oks_c (hxs _) (z_oks_t (z_oks_t hos)))
theorem S_slen (hd : decode (mC M) pc = .ok (.arraylength, 1)) (k : z_Snd M E (pc + 1) K) : z_Snd M E pc (w_slen E K) := by
  intro ls st g D hw X p l e R s m args below meth c Z b H locs cells slots arr n0 s0 hr hc hrel hlv hol hos
  obtain ⟨kk, t2, rfl, rfl, h0, hw⟩ := pM_e hw
  rcases hr.2.2.2.2.2.2.2.2.2.1 with q | ⟨hX, hbl, hbN, hsm, hxs⟩
  · omega
  · refine va_slen hr.1 hr.2.1 hX hbl (A := z_A X) (fun q => by have q' : X.2.2.2.1 ≤ b := q; omega) hrel.2.1 hd ?_
    have := k _ _ _ _ hw hr hc hrel hlv hol (z_oks_c (show zR ((E.2.1.1 - 1 : Nat) : Int) from ⟨by omega, by omega⟩) (z_oks_t hos))
    rw [List.map_cons] at this
    have e : z_conc X b (zi ((E.2.1.1 - 1 : Nat) : Int)) = .int (Int32.ofNat (E.2.1.1 - 1)) := by
      show Value.int (Int32.ofInt _) = _
      rw [Int32.ofInt_eq_ofNat]
    rw [e] at this
    first
      | exact this
      | (rw [show nI (E.2.1.1 - 1) = Int32.ofNat (E.2.1.1 - 1) from rfl]; exact this)
-- texts
def w_sval (K : WP) : WP := fun ls st g D => pS st fun i t => K ls (zm (4 + i) :: t) g D
def w_scod (K : WP) : WP := fun ls st g D => pS st fun _ t => K ls (zi 0 :: t) g D
def w_blen (K : WP) : WP := fun ls st g D => pM st fun k t => 4 ≤ k ∧ k < 11 ∧ K ls (zi ((zsl.getD (k - 4) 0 : Nat) : Int) :: t) g D
def w_bld (K : WP) : WP := fun ls st g D => pI st fun j t => pM t fun k t2 => 4 ≤ k ∧ k < 11 ∧ 0 ≤ j ∧ j < ((zsl.getD (k - 4) 0 : Nat) : Int) ∧ K ls (zi ((zsb.getD (k - 4) []).getD j.toNat 0).toInt :: t2) g D
def w_gs1 (K : WP) : WP := fun ls st g D => K ls (zi 1 :: st) g D
def w_gsf (K : WP) : WP := fun ls st g D => K ls (zm 11 :: st) g D
def w_i2c (K : WP) : WP := fun ls st g D => pI st fun x t => 0 ≤ x ∧ x < 256 ∧ K ls (zi x :: t) g D
def w_nret (ty : FieldType) (E : En) : WP := fun _ st g D => pI st fun x t => t = [] ∧ g.1 = E.1.1 ∧ g.2.1 = E.1.2 ∧ narrow ty (.int (Int32.ofInt x)) = .int (Int32.ofInt x) ∧ E.2.2 x g D
def w_no : WP := fun _ _ _ _ => False
theorem S_no : z_Snd M E pc w_no := fun _ _ _ _ h => h.elim
theorem z_c4 {X : Xe} {b i : Nat} : z_conc X b (zm (4 + i)) = .ref (X.2.2.2.2.2 i) := by
  show (if 4 + i = 2 then Value.ref b else if 4 ≤ 4 + i then .ref (X.2.2.2.2.2 (4 + i - 4)) else .null) = _
  rw [if_neg (by omega), if_pos (by omega), Nat.add_sub_cancel_left]
theorem S_sval {idx : Nat} (hd : decode (mC M) pc = .ok (.getfield idx, 3)) (hl : Cond.fieldLink (mY M).cls idx "java/lang/String" "value" "[B" ∈ z_tb) (k : z_Snd M E (pc + 3) K) : z_Snd M E pc (w_sval K) := by
  intro ls st g D hw X p l e R s m args below meth c Z b H locs cells slots arr n0 s0 hr hc hrel hlv hol hos
  obtain ⟨i, t, rfl, hw⟩ := pS_e hw
  have hi : i < 7 := z_oks_h hos
  refine vk_getf hr.1 hr.2.1 (hr.2.2.2.2.2.1.2.1.1 i hi).2.2.1 hrel.2.1 hr.2.2.2.1 (hr.2.2.2.2.1 _ hl) (fun _ q => q) hd ?_
  have h9 := k _ _ _ _ hw hr hc hrel hlv hol (z_oks_c trivial (z_oks_t hos))
  rw [List.map_cons, z_c4] at h9
  exact h9
theorem S_scod {idx : Nat} (hd : decode (mC M) pc = .ok (.getfield idx, 3)) (hl : Cond.fieldLink (mY M).cls idx "java/lang/String" "coder" "B" ∈ z_tb) (k : z_Snd M E (pc + 3) K) : z_Snd M E pc (w_scod K) := by
  intro ls st g D hw X p l e R s m args below meth c Z b H locs cells slots arr n0 s0 hr hc hrel hlv hol hos
  obtain ⟨i, t, rfl, hw⟩ := pS_e hw
  have hi : i < 7 := z_oks_h hos
  refine vk_getf hr.1 hr.2.1 (hr.2.2.2.2.2.1.2.1.1 i hi).2.1 hrel.2.1 hr.2.2.2.1 (hr.2.2.2.2.1 _ hl) (fun _ q => q) hd ?_
  exact k _ _ _ _ hw hr hc hrel hlv hol (z_oks_c zR_0 (z_oks_t hos))
theorem S_blen (hd : decode (mC M) pc = .ok (.arraylength, 1)) (k : z_Snd M E (pc + 1) K) : z_Snd M E pc (w_blen K) := by
  intro ls st g D hw X p l e R s m args below meth c Z b H locs cells slots arr n0 s0 hr hc hrel hlv hol hos
  obtain ⟨q, t, rfl, h0, h1, hw⟩ := pM_e hw
  obtain ⟨i, rfl⟩ : ∃ i, q = 4 + i := ⟨q - 4, by omega⟩
  have hi : i < 7 := by omega
  rw [Nat.add_sub_cancel_left] at hw
  rw [List.map_cons, z_c4]
  have hz : zsl.getD i 0 < 100 := (by decide : ∀ i, i < 7 → zsl.getD i 0 < 100) i hi
  refine va_tlen hr.1 hr.2.1 (hr.2.2.2.2.2.1.2.1.1 i hi).2.2.2 hrel.2.1 (v := Int32.ofInt ((zsl.getD i 0 : Nat) : Int)) Int32.ofInt_eq_ofNat.symm hd ?_
  exact k _ _ _ _ hw hr hc hrel hlv hol (z_oks_c (show zR ((zsl.getD i 0 : Nat) : Int) from ⟨by omega, by omega⟩) (z_oks_t hos))
theorem S_bld (hd : decode (mC M) pc = .ok (.baload, 1)) (k : z_Snd M E (pc + 1) K) : z_Snd M E pc (w_bld K) := by
  intro ls st g D hw X p l e R s m args below meth c Z b H locs cells slots arr n0 s0 hr hc hrel hlv hol hos
  obtain ⟨j, t, rfl, hw⟩ := pI_e hw
  obtain ⟨q, t2, rfl, h0, h1, h2, h3, hw⟩ := pM_e hw
  obtain ⟨i, rfl⟩ : ∃ i, q = 4 + i := ⟨q - 4, by omega⟩
  have hi : i < 7 := by omega
  rw [Nat.add_sub_cancel_left] at hw h3
  have hj := z_oks_h hos
  rw [List.map_cons, List.map_cons, z_c4]
  refine va_tb hr.1 hr.2.1 (hr.2.2.2.2.2.1.2.1.1 i hi).2.2.2 hrel.2.1 (i := Int32.ofInt j) (z_vpin hj h2 h3) (v := .int ((zsb.getD i []).getD j.toNat 0)) (by rw [z_clamp hj h2]) hd ?_
  have h9 := k _ _ _ _ hw hr hc hrel hlv hol (z_oks_c (z_toR _) (z_oks_t (z_oks_t hos)))
  rw [List.map_cons] at h9
  have e : z_conc X b (zi ((zsb.getD i []).getD j.toNat 0).toInt) = .int ((zsb.getD i []).getD j.toNat 0) := by
    show Value.int (Int32.ofInt _) = _
    rw [Int32.ofInt_toInt]
  rw [e] at h9
  exact h9
theorem S_gs1 {idx : Nat} (hd : decode (mC M) pc = .ok (.getstatic idx, 3)) (hl : Cond.fieldLink (mY M).cls idx "java/lang/String" "COMPACT_STRINGS" "Z" ∈ z_tb) (k : z_Snd M E (pc + 3) K) : z_Snd M E pc (w_gs1 K) := by
  intro ls st g D hw X p l e R s m args below meth c Z b H locs cells slots arr n0 s0 hr hc hrel hlv hol hos
  refine va_gets hr.1 hr.2.1 hr.2.2.2.2.2.1.2.2.2.1 hrel.2.1 hr.2.2.2.1 (hr.2.2.2.2.1 _ hl) (fun _ q => q) hd ?_
  exact k _ _ _ _ hw hr hc hrel hlv hol (z_oks_c zR_1 hos)
theorem S_gsf {idx : Nat} (hd : decode (mC M) pc = .ok (.getstatic idx, 3)) (hl : Cond.fieldLink (mY M).cls idx "jdk/internal/util/Preconditions" "SIOOBE_FORMATTER" "Ljava/util/function/BiFunction;" ∈ z_tb) (k : z_Snd M E (pc + 3) K) : z_Snd M E pc (w_gsf K) := by
  intro ls st g D hw X p l e R s m args below meth c Z b H locs cells slots arr n0 s0 hr hc hrel hlv hol hos
  refine va_gets hr.1 hr.2.1 hr.2.2.2.2.2.1.2.2.2.2.1 hrel.2.1 hr.2.2.2.1 (hr.2.2.2.2.1 _ hl) (fun _ q => q) hd ?_
  exact k _ _ _ _ hw hr hc hrel hlv hol (z_oks_c trivial hos)
theorem z_i2c : ∀ n : Nat, n < 256 → ((Int32.ofInt (n : Int)).toUInt32 % 65536).toInt32 = Int32.ofInt (n : Int) := by decide +kernel
theorem S_i2c (hd : decode (mC M) pc = .ok (.i2c, 1)) (k : z_Snd M E (pc + 1) K) : z_Snd M E pc (w_i2c K) := by
  intro ls st g D hw X p l e R s m args below meth c Z b H locs cells slots arr n0 s0 hr hc hrel hlv hol hos
  obtain ⟨x, t, rfl, h0, h1, hw⟩ := pI_e hw
  have e := z_i2c x.toNat (by omega)
  rw [Int.toNat_of_nonneg h0] at e
  refine lv_i2c hr.1 hr.2.1 hd e ?_
  exact k _ _ _ _ hw hr hc hrel hlv hol hos
theorem S_nret {ty : FieldType} (hd : decode (mC M) pc = .ok (.ireturn, 1)) (ht : mR M = some ty) (hty : ty = .byte ∨ ty = .char) : z_Snd M E pc (w_nret ty E) := by
  intro ls st g D hw X p l e R s m args below meth c Z b H locs cells slots arr n0 s0 hr hc hrel hlv hol hos
  obtain ⟨x, t, rfl, rfl, h1, h2, h0, hw⟩ := pI_e hw
  have h9 := z_fin (x := x) (pc := pc) (arr := arr) hr hc hrel h1 h2 (by rw [ht]; rcases hty with rfl | rfl <;> exact ⟨z_oks_h hos, h0⟩) hw (by rw [ht]; rcases hty with rfl | rfl <;> exact hd)
  rw [ht] at h9
  rcases hty with rfl | rfl <;> exact h9
end Calls
end
