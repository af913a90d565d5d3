/-! the skeleton's head (given text), then names (given text) -/
-- ===== PART A: goes FIRST, ahead of the names: the tables' words, and 'selects' of the private methods out of them =====
/-- a private method of a class that the tables say can be made, by its rows of tables_1 -/
def lw_okq (q : MethodName × Nat) : Prop := (q.1.cls ≠ "java/lang/invoke/MethodHandle" ∧ q.1.cls ≠ "java/lang/invoke/VarHandle") ∧ Cond.instantiable q.1.cls q.2 ∈ tables_1 ∧ Cond.privateMethod q.1 ∈ tables_1 ∧ Cond.instanceMethod q.1 ∈ tables_1
theorem lw_p0 : lw_okq (⟨"StormBench", "isService", "(I)Z"⟩, 3) := ⟨⟨by decide +kernel, by decide +kernel⟩, List.mem_of_getElem? (i := 15) (by decide +kernel), List.mem_of_getElem? (i := 359) (by decide +kernel), List.mem_of_getElem? (i := 360) (by decide +kernel)⟩
theorem lw_p1 : lw_okq (⟨"StormBench$House", "findDueJobs", "()V"⟩, 13) := ⟨⟨by decide +kernel, by decide +kernel⟩, List.mem_of_getElem? (i := 23) (by decide +kernel), List.mem_of_getElem? (i := 400) (by decide +kernel), List.mem_of_getElem? (i := 401) (by decide +kernel)⟩
theorem lw_p2 : lw_okq (⟨"StormBench$House", "endWork", "()V"⟩, 13) := ⟨⟨by decide +kernel, by decide +kernel⟩, List.mem_of_getElem? (i := 23) (by decide +kernel), List.mem_of_getElem? (i := 404) (by decide +kernel), List.mem_of_getElem? (i := 405) (by decide +kernel)⟩
theorem lw_p3 : lw_okq (⟨"StormBench$House", "toAsk", "(I)V"⟩, 13) := ⟨⟨by decide +kernel, by decide +kernel⟩, List.mem_of_getElem? (i := 23) (by decide +kernel), List.mem_of_getElem? (i := 412) (by decide +kernel), List.mem_of_getElem? (i := 413) (by decide +kernel)⟩
theorem lw_p4 : lw_okq (⟨"StormBench$House", "end", "(IZ)V"⟩, 13) := ⟨⟨by decide +kernel, by decide +kernel⟩, List.mem_of_getElem? (i := 23) (by decide +kernel), List.mem_of_getElem? (i := 420) (by decide +kernel), List.mem_of_getElem? (i := 421) (by decide +kernel)⟩
theorem lw_p5 : lw_okq (⟨"StormBench$House", "answer", "(IZ)V"⟩, 13) := ⟨⟨by decide +kernel, by decide +kernel⟩, List.mem_of_getElem? (i := 23) (by decide +kernel), List.mem_of_getElem? (i := 432) (by decide +kernel), List.mem_of_getElem? (i := 433) (by decide +kernel)⟩
theorem lw_p6 : lw_okq (⟨"StormBench$House", "comes", "(III)V"⟩, 13) := ⟨⟨by decide +kernel, by decide +kernel⟩, List.mem_of_getElem? (i := 23) (by decide +kernel), List.mem_of_getElem? (i := 440) (by decide +kernel), List.mem_of_getElem? (i := 441) (by decide +kernel)⟩
theorem lw_p7 : lw_okq (⟨"StormBench$House", "refuse", "(LStormBench$Service;I)V"⟩, 13) := ⟨⟨by decide +kernel, by decide +kernel⟩, List.mem_of_getElem? (i := 23) (by decide +kernel), List.mem_of_getElem? (i := 460) (by decide +kernel), List.mem_of_getElem? (i := 461) (by decide +kernel)⟩
theorem lw_p8 : lw_okq (⟨"StormBench$House", "setJobOf", "(II)V"⟩, 13) := ⟨⟨by decide +kernel, by decide +kernel⟩, List.mem_of_getElem? (i := 23) (by decide +kernel), List.mem_of_getElem? (i := 464) (by decide +kernel), List.mem_of_getElem? (i := 465) (by decide +kernel)⟩
theorem lw_p9 : lw_okq (⟨"StormBench$House", "begin", "(I)V"⟩, 13) := ⟨⟨by decide +kernel, by decide +kernel⟩, List.mem_of_getElem? (i := 23) (by decide +kernel), List.mem_of_getElem? (i := 468) (by decide +kernel), List.mem_of_getElem? (i := 469) (by decide +kernel)⟩
theorem lw_p10 : lw_okq (⟨"StormBench$House", "settle", "()V"⟩, 13) := ⟨⟨by decide +kernel, by decide +kernel⟩, List.mem_of_getElem? (i := 23) (by decide +kernel), List.mem_of_getElem? (i := 480) (by decide +kernel), List.mem_of_getElem? (i := 481) (by decide +kernel)⟩
theorem lw_p11 : lw_okq (⟨"StormBench$House", "answerGuest", "(I)V"⟩, 13) := ⟨⟨by decide +kernel, by decide +kernel⟩, List.mem_of_getElem? (i := 23) (by decide +kernel), List.mem_of_getElem? (i := 484) (by decide +kernel), List.mem_of_getElem? (i := 485) (by decide +kernel)⟩
theorem lw_p12 : lw_okq (⟨"StormBench$House", "pausesAfterFail", "(I)Z"⟩, 13) := ⟨⟨by decide +kernel, by decide +kernel⟩, List.mem_of_getElem? (i := 23) (by decide +kernel), List.mem_of_getElem? (i := 489) (by decide +kernel), List.mem_of_getElem? (i := 490) (by decide +kernel)⟩
theorem lw_p13 : lw_okq (⟨"StormBench$House", "endPauses", "()V"⟩, 13) := ⟨⟨by decide +kernel, by decide +kernel⟩, List.mem_of_getElem? (i := 23) (by decide +kernel), List.mem_of_getElem? (i := 493) (by decide +kernel), List.mem_of_getElem? (i := 494) (by decide +kernel)⟩
theorem lw_p14 : lw_okq (⟨"StormBench$House", "endAsking", "()V"⟩, 13) := ⟨⟨by decide +kernel, by decide +kernel⟩, List.mem_of_getElem? (i := 23) (by decide +kernel), List.mem_of_getElem? (i := 497) (by decide +kernel), List.mem_of_getElem? (i := 498) (by decide +kernel)⟩
theorem lw_p15 : lw_okq (⟨"StormBench$House", "giveUp", "(I)V"⟩, 13) := ⟨⟨by decide +kernel, by decide +kernel⟩, List.mem_of_getElem? (i := 23) (by decide +kernel), List.mem_of_getElem? (i := 501) (by decide +kernel), List.mem_of_getElem? (i := 502) (by decide +kernel)⟩
def lw_privs_1 : List (MethodName × Nat) := [(⟨"StormBench", "isService", "(I)Z"⟩, 3), (⟨"StormBench$House", "findDueJobs", "()V"⟩, 13), (⟨"StormBench$House", "endWork", "()V"⟩, 13), (⟨"StormBench$House", "toAsk", "(I)V"⟩, 13), (⟨"StormBench$House", "end", "(IZ)V"⟩, 13), (⟨"StormBench$House", "answer", "(IZ)V"⟩, 13), (⟨"StormBench$House", "comes", "(III)V"⟩, 13), (⟨"StormBench$House", "refuse", "(LStormBench$Service;I)V"⟩, 13), (⟨"StormBench$House", "setJobOf", "(II)V"⟩, 13), (⟨"StormBench$House", "begin", "(I)V"⟩, 13), (⟨"StormBench$House", "settle", "()V"⟩, 13), (⟨"StormBench$House", "answerGuest", "(I)V"⟩, 13), (⟨"StormBench$House", "pausesAfterFail", "(I)Z"⟩, 13), (⟨"StormBench$House", "endPauses", "()V"⟩, 13), (⟨"StormBench$House", "endAsking", "()V"⟩, 13), (⟨"StormBench$House", "giveUp", "(I)V"⟩, 13)]
theorem lw_r1 : ∀ q ∈ lw_privs_1, lw_okq q := List.forall_mem_cons.mpr ⟨lw_p0, List.forall_mem_cons.mpr ⟨lw_p1, List.forall_mem_cons.mpr ⟨lw_p2, List.forall_mem_cons.mpr ⟨lw_p3, List.forall_mem_cons.mpr ⟨lw_p4, List.forall_mem_cons.mpr ⟨lw_p5, List.forall_mem_cons.mpr ⟨lw_p6, List.forall_mem_cons.mpr ⟨lw_p7, List.forall_mem_cons.mpr ⟨lw_p8, List.forall_mem_cons.mpr ⟨lw_p9, List.forall_mem_cons.mpr ⟨lw_p10, List.forall_mem_cons.mpr ⟨lw_p11, List.forall_mem_cons.mpr ⟨lw_p12, List.forall_mem_cons.mpr ⟨lw_p13, List.forall_mem_cons.mpr ⟨lw_p14, List.forall_mem_cons.mpr ⟨lw_p15, fun _ h => absurd h List.not_mem_nil⟩⟩⟩⟩⟩⟩⟩⟩⟩⟩⟩⟩⟩⟩⟩⟩
theorem lw_p16 : lw_okq (⟨"StormBench$House", "endPatience", "()V"⟩, 13) := ⟨⟨by decide +kernel, by decide +kernel⟩, List.mem_of_getElem? (i := 23) (by decide +kernel), List.mem_of_getElem? (i := 505) (by decide +kernel), List.mem_of_getElem? (i := 506) (by decide +kernel)⟩
theorem lw_p17 : lw_okq (⟨"StormBench$House", "guestAsks", "(I)V"⟩, 13) := ⟨⟨by decide +kernel, by decide +kernel⟩, List.mem_of_getElem? (i := 23) (by decide +kernel), List.mem_of_getElem? (i := 509) (by decide +kernel), List.mem_of_getElem? (i := 510) (by decide +kernel)⟩
theorem lw_p18 : lw_okq (⟨"StormBench$House", "fillHands", "()V"⟩, 13) := ⟨⟨by decide +kernel, by decide +kernel⟩, List.mem_of_getElem? (i := 23) (by decide +kernel), List.mem_of_getElem? (i := 513) (by decide +kernel), List.mem_of_getElem? (i := 514) (by decide +kernel)⟩
theorem lw_p19 : lw_okq (⟨"StormBench$House", "guestsCome", "(II)V"⟩, 13) := ⟨⟨by decide +kernel, by decide +kernel⟩, List.mem_of_getElem? (i := 23) (by decide +kernel), List.mem_of_getElem? (i := 521) (by decide +kernel), List.mem_of_getElem? (i := 522) (by decide +kernel)⟩
theorem lw_p20 : lw_okq (⟨"StormBench", "callerOf", "(I)I"⟩, 3) := ⟨⟨by decide +kernel, by decide +kernel⟩, List.mem_of_getElem? (i := 15) (by decide +kernel), List.mem_of_getElem? (i := 567) (by decide +kernel), List.mem_of_getElem? (i := 568) (by decide +kernel)⟩
theorem lw_p21 : lw_okq (⟨"StormBench", "beginTrial", "(II)V"⟩, 3) := ⟨⟨by decide +kernel, by decide +kernel⟩, List.mem_of_getElem? (i := 15) (by decide +kernel), List.mem_of_getElem? (i := 590) (by decide +kernel), List.mem_of_getElem? (i := 591) (by decide +kernel)⟩
theorem lw_p22 : lw_okq (⟨"StormBench", "firstOfRest", "(IZ)I"⟩, 3) := ⟨⟨by decide +kernel, by decide +kernel⟩, List.mem_of_getElem? (i := 15) (by decide +kernel), List.mem_of_getElem? (i := 626) (by decide +kernel), List.mem_of_getElem? (i := 627) (by decide +kernel)⟩
theorem lw_p23 : lw_okq (⟨"StormBench", "trialPrice", "()I"⟩, 3) := ⟨⟨by decide +kernel, by decide +kernel⟩, List.mem_of_getElem? (i := 15) (by decide +kernel), List.mem_of_getElem? (i := 638) (by decide +kernel), List.mem_of_getElem? (i := 639) (by decide +kernel)⟩
theorem lw_p24 : lw_okq (⟨"StormBenchModel", "isService", "(I)Z"⟩, 22) := ⟨⟨by decide +kernel, by decide +kernel⟩, List.mem_of_getElem? (i := 646) (by decide +kernel), List.mem_of_getElem? (i := 853) (by decide +kernel), List.mem_of_getElem? (i := 854) (by decide +kernel)⟩
theorem lw_p25 : lw_okq (⟨"StormBenchModel", "ruled", "(II)I"⟩, 22) := ⟨⟨by decide +kernel, by decide +kernel⟩, List.mem_of_getElem? (i := 646) (by decide +kernel), List.mem_of_getElem? (i := 860) (by decide +kernel), List.mem_of_getElem? (i := 861) (by decide +kernel)⟩
theorem lw_p26 : lw_okq (⟨"StormBenchModel", "oneTick", "()V"⟩, 22) := ⟨⟨by decide +kernel, by decide +kernel⟩, List.mem_of_getElem? (i := 646) (by decide +kernel), List.mem_of_getElem? (i := 888) (by decide +kernel), List.mem_of_getElem? (i := 889) (by decide +kernel)⟩
theorem lw_p27 : lw_okq (⟨"StormBenchModel", "workEnds", "()V"⟩, 22) := ⟨⟨by decide +kernel, by decide +kernel⟩, List.mem_of_getElem? (i := 646) (by decide +kernel), List.mem_of_getElem? (i := 892) (by decide +kernel), List.mem_of_getElem? (i := 893) (by decide +kernel)⟩
theorem lw_p28 : lw_okq (⟨"StormBenchModel", "mean", "(I)V"⟩, 22) := ⟨⟨by decide +kernel, by decide +kernel⟩, List.mem_of_getElem? (i := 646) (by decide +kernel), List.mem_of_getElem? (i := 896) (by decide +kernel), List.mem_of_getElem? (i := 897) (by decide +kernel)⟩
theorem lw_p29 : lw_okq (⟨"StormBenchModel", "isSo", "(II)Z"⟩, 22) := ⟨⟨by decide +kernel, by decide +kernel⟩, List.mem_of_getElem? (i := 646) (by decide +kernel), List.mem_of_getElem? (i := 900) (by decide +kernel), List.mem_of_getElem? (i := 901) (by decide +kernel)⟩
theorem lw_p30 : lw_okq (⟨"StormBenchModel", "placeOf", "(I)I"⟩, 22) := ⟨⟨by decide +kernel, by decide +kernel⟩, List.mem_of_getElem? (i := 646) (by decide +kernel), List.mem_of_getElem? (i := 904) (by decide +kernel), List.mem_of_getElem? (i := 905) (by decide +kernel)⟩
theorem lw_p31 : lw_okq (⟨"StormBenchModel", "ask", "(I)V"⟩, 22) := ⟨⟨by decide +kernel, by decide +kernel⟩, List.mem_of_getElem? (i := 646) (by decide +kernel), List.mem_of_getElem? (i := 908) (by decide +kernel), List.mem_of_getElem? (i := 909) (by decide +kernel)⟩
def lw_privs_2 : List (MethodName × Nat) := [(⟨"StormBench$House", "endPatience", "()V"⟩, 13), (⟨"StormBench$House", "guestAsks", "(I)V"⟩, 13), (⟨"StormBench$House", "fillHands", "()V"⟩, 13), (⟨"StormBench$House", "guestsCome", "(II)V"⟩, 13), (⟨"StormBench", "callerOf", "(I)I"⟩, 3), (⟨"StormBench", "beginTrial", "(II)V"⟩, 3), (⟨"StormBench", "firstOfRest", "(IZ)I"⟩, 3), (⟨"StormBench", "trialPrice", "()I"⟩, 3), (⟨"StormBenchModel", "isService", "(I)Z"⟩, 22), (⟨"StormBenchModel", "ruled", "(II)I"⟩, 22), (⟨"StormBenchModel", "oneTick", "()V"⟩, 22), (⟨"StormBenchModel", "workEnds", "()V"⟩, 22), (⟨"StormBenchModel", "mean", "(I)V"⟩, 22), (⟨"StormBenchModel", "isSo", "(II)Z"⟩, 22), (⟨"StormBenchModel", "placeOf", "(I)I"⟩, 22), (⟨"StormBenchModel", "ask", "(I)V"⟩, 22)]
theorem lw_r2 : ∀ q ∈ lw_privs_2, lw_okq q := List.forall_mem_cons.mpr ⟨lw_p16, List.forall_mem_cons.mpr ⟨lw_p17, List.forall_mem_cons.mpr ⟨lw_p18, List.forall_mem_cons.mpr ⟨lw_p19, List.forall_mem_cons.mpr ⟨lw_p20, List.forall_mem_cons.mpr ⟨lw_p21, List.forall_mem_cons.mpr ⟨lw_p22, List.forall_mem_cons.mpr ⟨lw_p23, List.forall_mem_cons.mpr ⟨lw_p24, List.forall_mem_cons.mpr ⟨lw_p25, List.forall_mem_cons.mpr ⟨lw_p26, List.forall_mem_cons.mpr ⟨lw_p27, List.forall_mem_cons.mpr ⟨lw_p28, List.forall_mem_cons.mpr ⟨lw_p29, List.forall_mem_cons.mpr ⟨lw_p30, List.forall_mem_cons.mpr ⟨lw_p31, fun _ h => absurd h List.not_mem_nil⟩⟩⟩⟩⟩⟩⟩⟩⟩⟩⟩⟩⟩⟩⟩⟩
theorem lw_p32 : lw_okq (⟨"StormBenchModel", "rests", "(I)Z"⟩, 22) := ⟨⟨by decide +kernel, by decide +kernel⟩, List.mem_of_getElem? (i := 646) (by decide +kernel), List.mem_of_getElem? (i := 912) (by decide +kernel), List.mem_of_getElem? (i := 913) (by decide +kernel)⟩
theorem lw_p33 : lw_okq (⟨"StormBenchModel", "over", "(IZ)V"⟩, 22) := ⟨⟨by decide +kernel, by decide +kernel⟩, List.mem_of_getElem? (i := 646) (by decide +kernel), List.mem_of_getElem? (i := 916) (by decide +kernel), List.mem_of_getElem? (i := 917) (by decide +kernel)⟩
theorem lw_p34 : lw_okq (⟨"StormBenchModel", "add", "(II)V"⟩, 22) := ⟨⟨by decide +kernel, by decide +kernel⟩, List.mem_of_getElem? (i := 646) (by decide +kernel), List.mem_of_getElem? (i := 920) (by decide +kernel), List.mem_of_getElem? (i := 921) (by decide +kernel)⟩
theorem lw_p35 : lw_okq (⟨"StormBenchModel", "takeOut", "(I)V"⟩, 22) := ⟨⟨by decide +kernel, by decide +kernel⟩, List.mem_of_getElem? (i := 646) (by decide +kernel), List.mem_of_getElem? (i := 924) (by decide +kernel), List.mem_of_getElem? (i := 925) (by decide +kernel)⟩
theorem lw_p36 : lw_okq (⟨"StormBenchModel", "tell", "(IIZ)Z"⟩, 22) := ⟨⟨by decide +kernel, by decide +kernel⟩, List.mem_of_getElem? (i := 646) (by decide +kernel), List.mem_of_getElem? (i := 928) (by decide +kernel), List.mem_of_getElem? (i := 929) (by decide +kernel)⟩
theorem lw_p37 : lw_okq (⟨"StormBenchModel", "answered", "(IZ)V"⟩, 22) := ⟨⟨by decide +kernel, by decide +kernel⟩, List.mem_of_getElem? (i := 646) (by decide +kernel), List.mem_of_getElem? (i := 932) (by decide +kernel), List.mem_of_getElem? (i := 933) (by decide +kernel)⟩
theorem lw_p38 : lw_okq (⟨"StormBenchModel", "fail", "(I)V"⟩, 22) := ⟨⟨by decide +kernel, by decide +kernel⟩, List.mem_of_getElem? (i := 646) (by decide +kernel), List.mem_of_getElem? (i := 936) (by decide +kernel), List.mem_of_getElem? (i := 937) (by decide +kernel)⟩
theorem lw_p39 : lw_okq (⟨"StormBenchModel", "guestOf", "(I)I"⟩, 22) := ⟨⟨by decide +kernel, by decide +kernel⟩, List.mem_of_getElem? (i := 646) (by decide +kernel), List.mem_of_getElem? (i := 940) (by decide +kernel), List.mem_of_getElem? (i := 941) (by decide +kernel)⟩
theorem lw_p40 : lw_okq (⟨"StormBenchModel", "answerGuest", "(IZ)V"⟩, 22) := ⟨⟨by decide +kernel, by decide +kernel⟩, List.mem_of_getElem? (i := 646) (by decide +kernel), List.mem_of_getElem? (i := 944) (by decide +kernel), List.mem_of_getElem? (i := 945) (by decide +kernel)⟩
theorem lw_p41 : lw_okq (⟨"StormBenchModel", "guestGoes", "(I)V"⟩, 22) := ⟨⟨by decide +kernel, by decide +kernel⟩, List.mem_of_getElem? (i := 646) (by decide +kernel), List.mem_of_getElem? (i := 948) (by decide +kernel), List.mem_of_getElem? (i := 949) (by decide +kernel)⟩
theorem lw_p42 : lw_okq (⟨"StormBenchModel", "comes", "(IIII)I"⟩, 22) := ⟨⟨by decide +kernel, by decide +kernel⟩, List.mem_of_getElem? (i := 646) (by decide +kernel), List.mem_of_getElem? (i := 952) (by decide +kernel), List.mem_of_getElem? (i := 953) (by decide +kernel)⟩
theorem lw_p43 : lw_okq (⟨"StormBenchModel", "handsInUse", "(I)I"⟩, 22) := ⟨⟨by decide +kernel, by decide +kernel⟩, List.mem_of_getElem? (i := 646) (by decide +kernel), List.mem_of_getElem? (i := 956) (by decide +kernel), List.mem_of_getElem? (i := 957) (by decide +kernel)⟩
theorem lw_p44 : lw_okq (⟨"StormBenchModel", "begin", "(I)V"⟩, 22) := ⟨⟨by decide +kernel, by decide +kernel⟩, List.mem_of_getElem? (i := 646) (by decide +kernel), List.mem_of_getElem? (i := 960) (by decide +kernel), List.mem_of_getElem? (i := 961) (by decide +kernel)⟩
theorem lw_p45 : lw_okq (⟨"StormBenchModel", "leaveRow", "(I)V"⟩, 22) := ⟨⟨by decide +kernel, by decide +kernel⟩, List.mem_of_getElem? (i := 646) (by decide +kernel), List.mem_of_getElem? (i := 964) (by decide +kernel), List.mem_of_getElem? (i := 965) (by decide +kernel)⟩
theorem lw_p46 : lw_okq (⟨"StormBenchModel", "refuse", "(I)V"⟩, 22) := ⟨⟨by decide +kernel, by decide +kernel⟩, List.mem_of_getElem? (i := 646) (by decide +kernel), List.mem_of_getElem? (i := 968) (by decide +kernel), List.mem_of_getElem? (i := 969) (by decide +kernel)⟩
theorem lw_p47 : lw_okq (⟨"StormBenchModel", "pausesEnd", "()V"⟩, 22) := ⟨⟨by decide +kernel, by decide +kernel⟩, List.mem_of_getElem? (i := 646) (by decide +kernel), List.mem_of_getElem? (i := 972) (by decide +kernel), List.mem_of_getElem? (i := 973) (by decide +kernel)⟩
def lw_privs_3 : List (MethodName × Nat) := [(⟨"StormBenchModel", "rests", "(I)Z"⟩, 22), (⟨"StormBenchModel", "over", "(IZ)V"⟩, 22), (⟨"StormBenchModel", "add", "(II)V"⟩, 22), (⟨"StormBenchModel", "takeOut", "(I)V"⟩, 22), (⟨"StormBenchModel", "tell", "(IIZ)Z"⟩, 22), (⟨"StormBenchModel", "answered", "(IZ)V"⟩, 22), (⟨"StormBenchModel", "fail", "(I)V"⟩, 22), (⟨"StormBenchModel", "guestOf", "(I)I"⟩, 22), (⟨"StormBenchModel", "answerGuest", "(IZ)V"⟩, 22), (⟨"StormBenchModel", "guestGoes", "(I)V"⟩, 22), (⟨"StormBenchModel", "comes", "(IIII)I"⟩, 22), (⟨"StormBenchModel", "handsInUse", "(I)I"⟩, 22), (⟨"StormBenchModel", "begin", "(I)V"⟩, 22), (⟨"StormBenchModel", "leaveRow", "(I)V"⟩, 22), (⟨"StormBenchModel", "refuse", "(I)V"⟩, 22), (⟨"StormBenchModel", "pausesEnd", "()V"⟩, 22)]
theorem lw_r3 : ∀ q ∈ lw_privs_3, lw_okq q := List.forall_mem_cons.mpr ⟨lw_p32, List.forall_mem_cons.mpr ⟨lw_p33, List.forall_mem_cons.mpr ⟨lw_p34, List.forall_mem_cons.mpr ⟨lw_p35, List.forall_mem_cons.mpr ⟨lw_p36, List.forall_mem_cons.mpr ⟨lw_p37, List.forall_mem_cons.mpr ⟨lw_p38, List.forall_mem_cons.mpr ⟨lw_p39, List.forall_mem_cons.mpr ⟨lw_p40, List.forall_mem_cons.mpr ⟨lw_p41, List.forall_mem_cons.mpr ⟨lw_p42, List.forall_mem_cons.mpr ⟨lw_p43, List.forall_mem_cons.mpr ⟨lw_p44, List.forall_mem_cons.mpr ⟨lw_p45, List.forall_mem_cons.mpr ⟨lw_p46, List.forall_mem_cons.mpr ⟨lw_p47, fun _ h => absurd h List.not_mem_nil⟩⟩⟩⟩⟩⟩⟩⟩⟩⟩⟩⟩⟩⟩⟩⟩
theorem lw_p48 : lw_okq (⟨"StormBenchModel", "deadlines", "()V"⟩, 22) := ⟨⟨by decide +kernel, by decide +kernel⟩, List.mem_of_getElem? (i := 646) (by decide +kernel), List.mem_of_getElem? (i := 976) (by decide +kernel), List.mem_of_getElem? (i := 977) (by decide +kernel)⟩
theorem lw_p49 : lw_okq (⟨"StormBenchModel", "guestDeadlines", "()V"⟩, 22) := ⟨⟨by decide +kernel, by decide +kernel⟩, List.mem_of_getElem? (i := 646) (by decide +kernel), List.mem_of_getElem? (i := 980) (by decide +kernel), List.mem_of_getElem? (i := 981) (by decide +kernel)⟩
theorem lw_p50 : lw_okq (⟨"StormBenchModel", "guestAsks", "(I)V"⟩, 22) := ⟨⟨by decide +kernel, by decide +kernel⟩, List.mem_of_getElem? (i := 646) (by decide +kernel), List.mem_of_getElem? (i := 984) (by decide +kernel), List.mem_of_getElem? (i := 985) (by decide +kernel)⟩
theorem lw_p51 : lw_okq (⟨"StormBenchModel", "handsTake", "()V"⟩, 22) := ⟨⟨by decide +kernel, by decide +kernel⟩, List.mem_of_getElem? (i := 646) (by decide +kernel), List.mem_of_getElem? (i := 988) (by decide +kernel), List.mem_of_getElem? (i := 989) (by decide +kernel)⟩
theorem lw_p52 : lw_okq (⟨"StormBenchModel", "guestsCome", "()V"⟩, 22) := ⟨⟨by decide +kernel, by decide +kernel⟩, List.mem_of_getElem? (i := 646) (by decide +kernel), List.mem_of_getElem? (i := 992) (by decide +kernel), List.mem_of_getElem? (i := 993) (by decide +kernel)⟩
theorem lw_p53 : lw_okq (⟨"StormBenchModel", "guestComes", "(I)V"⟩, 22) := ⟨⟨by decide +kernel, by decide +kernel⟩, List.mem_of_getElem? (i := 646) (by decide +kernel), List.mem_of_getElem? (i := 996) (by decide +kernel), List.mem_of_getElem? (i := 997) (by decide +kernel)⟩
theorem lw_p54 : lw_okq (⟨"StormBenchModel", "callerOf", "(I)I"⟩, 22) := ⟨⟨by decide +kernel, by decide +kernel⟩, List.mem_of_getElem? (i := 646) (by decide +kernel), List.mem_of_getElem? (i := 1016) (by decide +kernel), List.mem_of_getElem? (i := 1017) (by decide +kernel)⟩
theorem lw_p55 : lw_okq (⟨"StormBenchModel", "tried", "(IIIZ)I"⟩, 22) := ⟨⟨by decide +kernel, by decide +kernel⟩, List.mem_of_getElem? (i := 646) (by decide +kernel), List.mem_of_getElem? (i := 1036) (by decide +kernel), List.mem_of_getElem? (i := 1037) (by decide +kernel)⟩
def lw_privs_4 : List (MethodName × Nat) := [(⟨"StormBenchModel", "deadlines", "()V"⟩, 22), (⟨"StormBenchModel", "guestDeadlines", "()V"⟩, 22), (⟨"StormBenchModel", "guestAsks", "(I)V"⟩, 22), (⟨"StormBenchModel", "handsTake", "()V"⟩, 22), (⟨"StormBenchModel", "guestsCome", "()V"⟩, 22), (⟨"StormBenchModel", "guestComes", "(I)V"⟩, 22), (⟨"StormBenchModel", "callerOf", "(I)I"⟩, 22), (⟨"StormBenchModel", "tried", "(IIIZ)I"⟩, 22)]
theorem lw_r4 : ∀ q ∈ lw_privs_4, lw_okq q := List.forall_mem_cons.mpr ⟨lw_p48, List.forall_mem_cons.mpr ⟨lw_p49, List.forall_mem_cons.mpr ⟨lw_p50, List.forall_mem_cons.mpr ⟨lw_p51, List.forall_mem_cons.mpr ⟨lw_p52, List.forall_mem_cons.mpr ⟨lw_p53, List.forall_mem_cons.mpr ⟨lw_p54, List.forall_mem_cons.mpr ⟨lw_p55, fun _ h => absurd h List.not_mem_nil⟩⟩⟩⟩⟩⟩⟩⟩
def lw_privs : List (MethodName × Nat) := lw_privs_1 ++ (lw_privs_2 ++ (lw_privs_3 ++ (lw_privs_4)))
def lw_tbl : List Cond := k2_sels lw_privs ++ tables_1
theorem lw_privs_ok : ∀ q ∈ lw_privs, lw_okq q := by
  show ∀ q ∈ lw_privs_1 ++ (lw_privs_2 ++ (lw_privs_3 ++ (lw_privs_4))), lw_okq q
  exact List.forall_mem_append.mpr ⟨lw_r1, List.forall_mem_append.mpr ⟨lw_r2, List.forall_mem_append.mpr ⟨lw_r3, lw_r4⟩⟩⟩
-- ===== end of PART A; then your names; then what follows =====
/-! THE CLAIM OUT OF ONE WALK OF THE LAW'S BODY. Your part is whole_start (and what it stands on); all else here is the same for every law, but numbers. -/
def R_law : String := "StormBenchLaw"
def lw_P (b : Addr) (xs : List Int32) (args : Array Value) (s : State) : Prop := args = #[.ref b] ∧ s.IntsAt b xs ∧ xs.length ≤ 2560 ∧ (Jvm.Cond.and given_1 narrow_1).before args s = true
def lw_Q (_ : Array Value) (s : State) (o : Outcome) (t : State) : Prop := o = .returned (some (.int 1)) ∧ Framed s o t [] 600000 7302250
def lw_Z (below : List Frame) (a : Array Value) (s : State) : State → Prop := fun t => ∃ o, t.status = .running ∧ Ended t below o ∧ lw_Q a s o t
/-- the law's own end, with 1 on the stack, nothing written that was there before, its room as the claim has it -/
theorem lw_ret {p : Program} {l : Launch} {e : Env} {s : State} {m : MethodId} {below : List Frame} {meth : Method} {c : Code} {b : Nat} (hx : p.tables.exec = Jvm.exec) (hb : c.code = code) (hr : meth.sig.returnType = ret) (hlocks : meth.locks = false) {pc : Nat} {H : Heap} {ls : Array Slot} (hdg : decode code pc = .ok (.ireturn, 1)) : W p l e room_1 s m #[Value.ref b] below meth c H [] 600000 7302250 (lw_Z below #[Value.ref b] s) (F0 m pc ls [.int 1]) := by
  intro T hT X
  obtain ⟨fs, hret, hrun, hended, hW, hframe⟩ := X.leave (v := some (.int 1)) (hlocks := hlocks) (fun h => by rw [hr] at h; cases h)
  have hmeth' : T.vm.method? m = some meth := X.method'
  refine ⟨T.setFrames fs, ?_, .returned (some (.int 1)), hrun, hended, rfl, ⟨_, rfl⟩, hW, hframe⟩
  jvm_step X.here [X.here.top, hx, hb, hdg, hmeth', hr, ret, narrow_b1]
  (try refine ⟨rfl, ?_⟩); (try refine ⟨rfl, ?_⟩)
  first | (intro acts; rw [hret _ acts rfl rfl rfl]) | rw [hret _ _ rfl rfl rfl]
  exact Steps.refl _
/-- what holds at the law's entry: the machine, the code, the tables' words (any of lw_tbl by 'hts w (by decide +kernel)'), the script of L ints xs at the cell b, what the Statement gives of the start (any of its parts by flat_of_before) -/
def lw_At (p : Program) (s : State) (m : MethodId) (meth : Method) (c : Code) (b L : Nat) (xs : Nat → Int32) : Prop :=
  p.tables.exec = Jvm.exec ∧ c.code = code ∧ meth.sig.returnType = ret ∧ c.maxLocals = 4 ∧ s.vm.findClass R_law = some m.cls ∧ (∀ w ∈ lw_tbl, w.before #[Value.ref b] s = true) ∧ va_X b L xs s s.heap ∧ b < s.heap.size ∧ meth.locks = false ∧ (Jvm.Cond.and given_1 narrow_1).before #[Value.ref b] s = true
def RX0 : String := "StormBench$Guests"
def TX0 : u_T := fun k => match k with
  | 0 => ("StormBench$Guests", "line", "LStormBench$Line;", true)
  | 1 => ("StormBench$Guests", "key", "[I", true)
  | 2 => ("StormBench$Guests", "job", "[I", true)
  | 3 => ("StormBench$Guests", "deadline", "[I", true)
  | 4 => ("StormBench$Guests", "again", "[I", true)
  | 5 => ("StormBench$Guests", "patience", "I", false)
  | 6 => ("StormBench$Guests", "mostAgain", "I", false)
  | 7 => ("StormBench$Guests", "came", "I", false)
  | 8 => ("StormBench$Guests", "served", "I", false)
  | 9 => ("StormBench$Guests", "lost", "I", false)
  | _ => ("StormBench$Guests", "timesAgain", "I", false)
def tyX0 : Nat → FieldType := fun k => match k with
  | 0 => .object "StormBench$Line"
  | 1 => .array .int
  | 2 => .array .int
  | 3 => .array .int
  | 4 => .array .int
  | 5 => .int
  | 6 => .int
  | 7 => .int
  | 8 => .int
  | 9 => .int
  | _ => .int
abbrev wsX00 : List Cond := u_ws RX0 TX0 11
theorem nmX0 : ∀ a, a < 11 → ∀ b, b < 11 → a ≠ b → (TX0 a).2.1 ≠ (TX0 b).2.1 := by decide +kernel
theorem tyX0_ok : ∀ k, k < 11 → parseFieldDescriptor (TX0 k).2.2.1 = some (tyX0 k) := by decide +kernel
abbrev cX0_init : ByteArray := prog_2_method_1_code
def yX0_init : MethodName := ⟨RX0, "<init>", "()V"⟩
abbrev cX0_add : ByteArray := prog_2_method_2_code
def yX0_add : MethodName := ⟨RX0, "add", "(I)I"⟩
abbrev cX0_copyFrom : ByteArray := prog_2_method_3_code
def yX0_copyFrom : MethodName := ⟨RX0, "copyFrom", "(LStormBench$Guests;)V"⟩
def RX1 : String := "StormBench$House"
def TX1 : u_T := fun k => match k with
  | 0 => ("StormBench$House", "services", "[LStormBench$Service;", true)
  | 1 => ("StormBench$House", "serviceCount", "I", false)
  | 2 => ("StormBench$House", "tick", "I", false)
  | 3 => ("StormBench$House", "still", "Z", false)
  | 4 => ("StormBench$House", "forNobody", "I", false)
  | 5 => ("StormBench$House", "jobs", "LStormBench$Jobs;", true)
  | 6 => ("StormBench$House", "people", "LStormBench$Guests;", true)
  | 7 => ("StormBench$House", "tellings", "LStormBench$Tellings;", true)
  | 8 => ("StormBench$House", "regulars", "LStormBench$Regulars;", true)
  | 9 => ("StormBench$House", "due", "[I", true)
  | 10 => ("StormBench$House", "dueSize", "I", false)
  | 11 => ("StormBench$House", "toAnswer", "I", false)
  | _ => ("StormBench$House", "answerIsGood", "Z", false)
def tyX1 : Nat → FieldType := fun k => match k with
  | 0 => .array (.object "StormBench$Service")
  | 1 => .int
  | 2 => .int
  | 3 => .boolean
  | 4 => .int
  | 5 => .object "StormBench$Jobs"
  | 6 => .object "StormBench$Guests"
  | 7 => .object "StormBench$Tellings"
  | 8 => .object "StormBench$Regulars"
  | 9 => .array .int
  | 10 => .int
  | 11 => .int
  | _ => .boolean
abbrev wsX10 : List Cond := u_ws RX1 TX1 13
theorem nmX1 : ∀ a, a < 13 → ∀ b, b < 13 → a ≠ b → (TX1 a).2.1 ≠ (TX1 b).2.1 := by decide +kernel
theorem tyX1_ok : ∀ k, k < 13 → parseFieldDescriptor (TX1 k).2.2.1 = some (tyX1 k) := by decide +kernel
abbrev cX1_init : ByteArray := prog_3_method_1_code
def yX1_init : MethodName := ⟨RX1, "<init>", "()V"⟩
abbrev cX1_addService : ByteArray := prog_3_method_2_code
def yX1_addService : MethodName := ⟨RX1, "addService", "(III)I"⟩
abbrev cX1_step : ByteArray := prog_3_method_3_code
def yX1_step : MethodName := ⟨RX1, "step", "()V"⟩
abbrev cX1_findDueJobs : ByteArray := prog_3_method_4_code
def yX1_findDueJobs : MethodName := ⟨RX1, "findDueJobs", "()V"⟩
abbrev cX1_endWork : ByteArray := prog_3_method_5_code
def yX1_endWork : MethodName := ⟨RX1, "endWork", "()V"⟩
abbrev cX1_endPauses : ByteArray := prog_3_method_6_code
def yX1_endPauses : MethodName := ⟨RX1, "endPauses", "()V"⟩
abbrev cX1_endAsking : ByteArray := prog_3_method_7_code
def yX1_endAsking : MethodName := ⟨RX1, "endAsking", "()V"⟩
abbrev cX1_endPatience : ByteArray := prog_3_method_8_code
def yX1_endPatience : MethodName := ⟨RX1, "endPatience", "()V"⟩
abbrev cX1_fillHands : ByteArray := prog_3_method_9_code
def yX1_fillHands : MethodName := ⟨RX1, "fillHands", "()V"⟩
abbrev cX1_guestsCome : ByteArray := prog_3_method_10_code
def yX1_guestsCome : MethodName := ⟨RX1, "guestsCome", "(II)V"⟩
abbrev cX1_guestAsks : ByteArray := prog_3_method_11_code
def yX1_guestAsks : MethodName := ⟨RX1, "guestAsks", "(I)V"⟩
abbrev cX1_toAsk : ByteArray := prog_3_method_12_code
def yX1_toAsk : MethodName := ⟨RX1, "toAsk", "(I)V"⟩
abbrev cX1_comes : ByteArray := prog_3_method_13_code
def yX1_comes : MethodName := ⟨RX1, "comes", "(III)V"⟩
abbrev cX1_setJobOf : ByteArray := prog_3_method_14_code
def yX1_setJobOf : MethodName := ⟨RX1, "setJobOf", "(II)V"⟩
abbrev cX1_refuse : ByteArray := prog_3_method_15_code
def yX1_refuse : MethodName := ⟨RX1, "refuse", "(LStormBench$Service;I)V"⟩
abbrev cX1_begin : ByteArray := prog_3_method_16_code
def yX1_begin : MethodName := ⟨RX1, "begin", "(I)V"⟩
abbrev cX1_giveUp : ByteArray := prog_3_method_17_code
def yX1_giveUp : MethodName := ⟨RX1, "giveUp", "(I)V"⟩
abbrev cX1_end : ByteArray := prog_3_method_18_code
def yX1_end : MethodName := ⟨RX1, "end", "(IZ)V"⟩
abbrev cX1_answer : ByteArray := prog_3_method_19_code
def yX1_answer : MethodName := ⟨RX1, "answer", "(IZ)V"⟩
abbrev cX1_settle : ByteArray := prog_3_method_20_code
def yX1_settle : MethodName := ⟨RX1, "settle", "()V"⟩
abbrev cX1_answerGuest : ByteArray := prog_3_method_21_code
def yX1_answerGuest : MethodName := ⟨RX1, "answerGuest", "(I)V"⟩
abbrev cX1_pausesAfterFail : ByteArray := prog_3_method_22_code
def yX1_pausesAfterFail : MethodName := ⟨RX1, "pausesAfterFail", "(I)Z"⟩
abbrev cX1_copyFrom : ByteArray := prog_3_method_23_code
def yX1_copyFrom : MethodName := ⟨RX1, "copyFrom", "(LStormBench$House;)V"⟩
def RX2 : String := "StormBench$Jobs"
def TX2 : u_T := fun k => match k with
  | 0 => ("StormBench$Jobs", "line", "LStormBench$Line;", true)
  | 1 => ("StormBench$Jobs", "number", "[I", true)
  | 2 => ("StormBench$Jobs", "service", "[I", true)
  | 3 => ("StormBench$Jobs", "key", "[I", true)
  | 4 => ("StormBench$Jobs", "state", "[I", true)
  | 5 => ("StormBench$Jobs", "caller", "[I", true)
  | 6 => ("StormBench$Jobs", "child", "[I", true)
  | 7 => ("StormBench$Jobs", "till", "[I", true)
  | 8 => ("StormBench$Jobs", "again", "[I", true)
  | _ => ("StormBench$Jobs", "came", "I", false)
def tyX2 : Nat → FieldType := fun k => match k with
  | 0 => .object "StormBench$Line"
  | 1 => .array .int
  | 2 => .array .int
  | 3 => .array .int
  | 4 => .array .int
  | 5 => .array .int
  | 6 => .array .int
  | 7 => .array .int
  | 8 => .array .int
  | _ => .int
abbrev wsX20 : List Cond := u_ws RX2 TX2 10
theorem nmX2 : ∀ a, a < 10 → ∀ b, b < 10 → a ≠ b → (TX2 a).2.1 ≠ (TX2 b).2.1 := by decide +kernel
theorem tyX2_ok : ∀ k, k < 10 → parseFieldDescriptor (TX2 k).2.2.1 = some (tyX2 k) := by decide +kernel
abbrev cX2_init : ByteArray := prog_4_method_1_code
def yX2_init : MethodName := ⟨RX2, "<init>", "()V"⟩
abbrev cX2_add : ByteArray := prog_4_method_2_code
def yX2_add : MethodName := ⟨RX2, "add", "(III)I"⟩
abbrev cX2_remove : ByteArray := prog_4_method_3_code
def yX2_remove : MethodName := ⟨RX2, "remove", "(I)V"⟩
abbrev cX2_become : ByteArray := prog_4_method_4_code
def yX2_become : MethodName := ⟨RX2, "become", "(III)V"⟩
abbrev cX2_isDue : ByteArray := prog_4_method_5_code
def yX2_isDue : MethodName := ⟨RX2, "isDue", "(III)Z"⟩
abbrev cX2_howMany : ByteArray := prog_4_method_6_code
def yX2_howMany : MethodName := ⟨RX2, "howMany", "(II)I"⟩
abbrev cX2_copyFrom : ByteArray := prog_4_method_7_code
def yX2_copyFrom : MethodName := ⟨RX2, "copyFrom", "(LStormBench$Jobs;)V"⟩
def RX3 : String := "StormBench$Line"
def TX3 : u_T := fun k => match k with
  | 0 => ("StormBench$Line", "before", "[I", true)
  | 1 => ("StormBench$Line", "behind", "[I", true)
  | 2 => ("StormBench$Line", "first", "I", false)
  | 3 => ("StormBench$Line", "last", "I", false)
  | 4 => ("StormBench$Line", "free", "I", false)
  | _ => ("StormBench$Line", "size", "I", false)
def tyX3 : Nat → FieldType := fun k => match k with
  | 0 => .array .int
  | 1 => .array .int
  | 2 => .int
  | 3 => .int
  | 4 => .int
  | _ => .int
abbrev wsX30 : List Cond := u_ws RX3 TX3 6
theorem nmX3 : ∀ a, a < 6 → ∀ b, b < 6 → a ≠ b → (TX3 a).2.1 ≠ (TX3 b).2.1 := by decide +kernel
theorem tyX3_ok : ∀ k, k < 6 → parseFieldDescriptor (TX3 k).2.2.1 = some (tyX3 k) := by decide +kernel
abbrev cX3_init : ByteArray := prog_5_method_1_code
def yX3_init : MethodName := ⟨RX3, "<init>", "(I)V"⟩
abbrev cX3_take : ByteArray := prog_5_method_2_code
def yX3_take : MethodName := ⟨RX3, "take", "()I"⟩
abbrev cX3_giveBack : ByteArray := prog_5_method_3_code
def yX3_giveBack : MethodName := ⟨RX3, "giveBack", "(I)V"⟩
abbrev cX3_placeAt : ByteArray := prog_5_method_4_code
def yX3_placeAt : MethodName := ⟨RX3, "placeAt", "(I)I"⟩
abbrev cX3_copyFrom : ByteArray := prog_5_method_5_code
def yX3_copyFrom : MethodName := ⟨RX3, "copyFrom", "(LStormBench$Line;)V"⟩
def RX4 : String := "StormBench$Regulars"
def TX4 : u_T := fun k => match k with
  | 0 => ("StormBench$Regulars", "keys", "[I", true)
  | 1 => ("StormBench$Regulars", "many", "[I", true)
  | _ => ("StormBench$Regulars", "period", "I", false)
def tyX4 : Nat → FieldType := fun k => match k with
  | 0 => .array .int
  | 1 => .array .int
  | _ => .int
abbrev wsX40 : List Cond := u_ws RX4 TX4 3
theorem nmX4 : ∀ a, a < 3 → ∀ b, b < 3 → a ≠ b → (TX4 a).2.1 ≠ (TX4 b).2.1 := by decide +kernel
theorem tyX4_ok : ∀ k, k < 3 → parseFieldDescriptor (TX4 k).2.2.1 = some (tyX4 k) := by decide +kernel
abbrev cX4_init : ByteArray := prog_6_method_1_code
def yX4_init : MethodName := ⟨RX4, "<init>", "()V"⟩
abbrev cX4_begin : ByteArray := prog_6_method_2_code
def yX4_begin : MethodName := ⟨RX4, "begin", "(I)V"⟩
abbrev cX4_placeOf : ByteArray := prog_6_method_3_code
def yX4_placeOf : MethodName := ⟨RX4, "placeOf", "(I)I"⟩
abbrev cX4_copyFrom : ByteArray := prog_6_method_4_code
def yX4_copyFrom : MethodName := ⟨RX4, "copyFrom", "(LStormBench$Regulars;)V"⟩
def RX5 : String := "StormBench$Service"
def TX5 : u_T := fun k => match k with
  | 0 => ("StormBench$Service", "rules", "[I", true)
  | 1 => ("StormBench$Service", "tallies", "[I", true)
  | 2 => ("StormBench$Service", "keptTill", "[I", true)
  | 3 => ("StormBench$Service", "queue", "[I", true)
  | 4 => ("StormBench$Service", "waiting", "I", false)
  | 5 => ("StormBench$Service", "handsInUse", "I", false)
  | 6 => ("StormBench$Service", "restTill", "I", false)
  | _ => ("StormBench$Service", "failRow", "I", false)
def tyX5 : Nat → FieldType := fun k => match k with
  | 0 => .array .int
  | 1 => .array .int
  | 2 => .array .int
  | 3 => .array .int
  | 4 => .int
  | 5 => .int
  | 6 => .int
  | _ => .int
abbrev wsX50 : List Cond := u_ws RX5 TX5 8
theorem nmX5 : ∀ a, a < 8 → ∀ b, b < 8 → a ≠ b → (TX5 a).2.1 ≠ (TX5 b).2.1 := by decide +kernel
theorem tyX5_ok : ∀ k, k < 8 → parseFieldDescriptor (TX5 k).2.2.1 = some (tyX5 k) := by decide +kernel
abbrev cX5_init : ByteArray := prog_7_method_1_code
def yX5_init : MethodName := ⟨RX5, "<init>", "()V"⟩
abbrev cX5_hasAnswer : ByteArray := prog_7_method_2_code
def yX5_hasAnswer : MethodName := ⟨RX5, "hasAnswer", "(II)Z"⟩
abbrev cX5_rests : ByteArray := prog_7_method_3_code
def yX5_rests : MethodName := ⟨RX5, "rests", "(I)Z"⟩
abbrev cX5_hasFreeHand : ByteArray := prog_7_method_4_code
def yX5_hasFreeHand : MethodName := ⟨RX5, "hasFreeHand", "()Z"⟩
abbrev cX5_addLast : ByteArray := prog_7_method_5_code
def yX5_addLast : MethodName := ⟨RX5, "addLast", "(I)V"⟩
abbrev cX5_takeFirst : ByteArray := prog_7_method_6_code
def yX5_takeFirst : MethodName := ⟨RX5, "takeFirst", "()I"⟩
abbrev cX5_copyFrom : ByteArray := prog_7_method_7_code
def yX5_copyFrom : MethodName := ⟨RX5, "copyFrom", "(LStormBench$Service;)V"⟩
def RX6 : String := "StormBench$Tellings"
def TX6 : u_T := fun k => match k with
  | 0 => ("StormBench$Tellings", "ticks", "[I", true)
  | 1 => ("StormBench$Tellings", "keys", "[I", true)
  | 2 => ("StormBench$Tellings", "many", "[I", true)
  | _ => ("StormBench$Tellings", "size", "I", false)
def tyX6 : Nat → FieldType := fun k => match k with
  | 0 => .array .int
  | 1 => .array .int
  | 2 => .array .int
  | _ => .int
abbrev wsX60 : List Cond := u_ws RX6 TX6 4
theorem nmX6 : ∀ a, a < 4 → ∀ b, b < 4 → a ≠ b → (TX6 a).2.1 ≠ (TX6 b).2.1 := by decide +kernel
theorem tyX6_ok : ∀ k, k < 4 → parseFieldDescriptor (TX6 k).2.2.1 = some (tyX6 k) := by decide +kernel
abbrev cX6_init : ByteArray := prog_8_method_1_code
def yX6_init : MethodName := ⟨RX6, "<init>", "()V"⟩
abbrev cX6_add : ByteArray := prog_8_method_2_code
def yX6_add : MethodName := ⟨RX6, "add", "(III)V"⟩
abbrev cX6_manyFor : ByteArray := prog_8_method_3_code
def yX6_manyFor : MethodName := ⟨RX6, "manyFor", "(II)I"⟩
abbrev cX6_forget : ByteArray := prog_8_method_4_code
def yX6_forget : MethodName := ⟨RX6, "forget", "(I)V"⟩
def RX7 : String := "StormBench"
def TX7 : u_T := fun k => match k with
  | 0 => ("StormBench", "house", "LStormBench$House;", true)
  | 1 => ("StormBench", "trial", "LStormBench$House;", true)
  | _ => ("StormBench", "latestPrice", "I", false)
def tyX7 : Nat → FieldType := fun k => match k with
  | 0 => .object "StormBench$House"
  | 1 => .object "StormBench$House"
  | _ => .int
abbrev wsX70 : List Cond := u_ws RX7 TX7 3
theorem nmX7 : ∀ a, a < 3 → ∀ b, b < 3 → a ≠ b → (TX7 a).2.1 ≠ (TX7 b).2.1 := by decide +kernel
theorem tyX7_ok : ∀ k, k < 3 → parseFieldDescriptor (TX7 k).2.2.1 = some (tyX7 k) := by decide +kernel
abbrev cX7_init : ByteArray := prog_1_method_1_code
def yX7_init : MethodName := ⟨RX7, "<init>", "()V"⟩
abbrev cX7_service : ByteArray := prog_1_method_2_code
def yX7_service : MethodName := ⟨RX7, "service", "(III)I"⟩
abbrev cX7_rule : ByteArray := prog_1_method_3_code
def yX7_rule : MethodName := ⟨RX7, "rule", "(III)I"⟩
abbrev cX7_guests : ByteArray := prog_1_method_4_code
def yX7_guests : MethodName := ⟨RX7, "guests", "(II)I"⟩
abbrev cX7_crowd : ByteArray := prog_1_method_5_code
def yX7_crowd : MethodName := ⟨RX7, "crowd", "(III)I"⟩
abbrev cX7_usual : ByteArray := prog_1_method_6_code
def yX7_usual : MethodName := ⟨RX7, "usual", "(I)I"⟩
abbrev cX7_place : ByteArray := prog_1_method_7_code
def yX7_place : MethodName := ⟨RX7, "place", "(III)I"⟩
abbrev cX7_ticks : ByteArray := prog_1_method_8_code
def yX7_ticks : MethodName := ⟨RX7, "ticks", "(I)I"⟩
abbrev cX7_about : ByteArray := prog_1_method_9_code
def yX7_about : MethodName := ⟨RX7, "about", "(II)I"⟩
abbrev cX7_ruleOf : ByteArray := prog_1_method_10_code
def yX7_ruleOf : MethodName := ⟨RX7, "ruleOf", "(II)I"⟩
abbrev cX7_kept : ByteArray := prog_1_method_11_code
def yX7_kept : MethodName := ⟨RX7, "kept", "(II)I"⟩
abbrev cX7_job : ByteArray := prog_1_method_12_code
def yX7_job : MethodName := ⟨RX7, "job", "(II)I"⟩
abbrev cX7_row : ByteArray := prog_1_method_13_code
def yX7_row : MethodName := ⟨RX7, "row", "(II)I"⟩
abbrev cX7_guest : ByteArray := prog_1_method_14_code
def yX7_guest : MethodName := ⟨RX7, "guest", "(II)I"⟩
abbrev cX7_count : ByteArray := prog_1_method_15_code
def yX7_count : MethodName := ⟨RX7, "count", "(I)I"⟩
abbrev cX7_rest : ByteArray := prog_1_method_16_code
def yX7_rest : MethodName := ⟨RX7, "rest", "(I)I"⟩
abbrev cX7_bears : ByteArray := prog_1_method_17_code
def yX7_bears : MethodName := ⟨RX7, "bears", "(II)I"⟩
abbrev cX7_best : ByteArray := prog_1_method_18_code
def yX7_best : MethodName := ⟨RX7, "best", "(IIII)I"⟩
abbrev cX7_price : ByteArray := prog_1_method_19_code
def yX7_price : MethodName := ⟨RX7, "price", "()I"⟩
abbrev cX7_beginTrial : ByteArray := prog_1_method_20_code
def yX7_beginTrial : MethodName := ⟨RX7, "beginTrial", "(II)V"⟩
abbrev cX7_firstOfRest : ByteArray := prog_1_method_21_code
def yX7_firstOfRest : MethodName := ⟨RX7, "firstOfRest", "(IZ)I"⟩
abbrev cX7_trialPrice : ByteArray := prog_1_method_22_code
def yX7_trialPrice : MethodName := ⟨RX7, "trialPrice", "()I"⟩
abbrev cX7_callerOf : ByteArray := prog_1_method_23_code
def yX7_callerOf : MethodName := ⟨RX7, "callerOf", "(I)I"⟩
abbrev cX7_isService : ByteArray := prog_1_method_24_code
def yX7_isService : MethodName := ⟨RX7, "isService", "(I)Z"⟩
abbrev cX7_isKey : ByteArray := prog_1_method_25_code
def yX7_isKey : MethodName := ⟨RX7, "isKey", "(I)Z"⟩
abbrev cX7_isTriable : ByteArray := prog_1_method_26_code
def yX7_isTriable : MethodName := ⟨RX7, "isTriable", "(I)Z"⟩
abbrev cX7_isRule : ByteArray := prog_1_method_27_code
def yX7_isRule : MethodName := ⟨RX7, "isRule", "(II)Z"⟩
abbrev cX7_within : ByteArray := prog_1_method_28_code
def yX7_within : MethodName := ⟨RX7, "within", "(III)Z"⟩
def RX8 : String := "StormBenchModel$House"
def TX8 : u_T := fun k => match k with
  | 0 => ("StormBenchModel$House", "tick", "I", false)
  | 1 => ("StormBenchModel$House", "restsTo", "[I", true)
  | 2 => ("StormBenchModel$House", "fails", "[I", true)
  | 3 => ("StormBenchModel$House", "told", "[I", true)
  | 4 => ("StormBenchModel$House", "keptTo", "[I", true)
  | 5 => ("StormBenchModel$House", "row", "[I", true)
  | 6 => ("StormBenchModel$House", "rowMany", "[I", true)
  | 7 => ("StormBenchModel$House", "number", "[I", true)
  | 8 => ("StormBenchModel$House", "service", "[I", true)
  | 9 => ("StormBenchModel$House", "key", "[I", true)
  | 10 => ("StormBenchModel$House", "state", "[I", true)
  | 11 => ("StormBenchModel$House", "caller", "[I", true)
  | 12 => ("StormBenchModel$House", "till", "[I", true)
  | 13 => ("StormBenchModel$House", "again", "[I", true)
  | 14 => ("StormBenchModel$House", "asksBy", "[I", true)
  | 15 => ("StormBenchModel$House", "jobs", "I", false)
  | 16 => ("StormBenchModel$House", "numbers", "I", false)
  | 17 => ("StormBenchModel$House", "guestKey", "[I", true)
  | 18 => ("StormBenchModel$House", "guestJob", "[I", true)
  | 19 => ("StormBenchModel$House", "guestDeadline", "[I", true)
  | 20 => ("StormBenchModel$House", "guestAgain", "[I", true)
  | 21 => ("StormBenchModel$House", "guestNumber", "[I", true)
  | 22 => ("StormBenchModel$House", "guests", "I", false)
  | 23 => ("StormBenchModel$House", "came", "I", false)
  | 24 => ("StormBenchModel$House", "served", "I", false)
  | 25 => ("StormBenchModel$House", "lost", "I", false)
  | 26 => ("StormBenchModel$House", "askedAgain", "I", false)
  | 27 => ("StormBenchModel$House", "forNobody", "I", false)
  | _ => ("StormBenchModel$House", "isStill", "Z", false)
def tyX8 : Nat → FieldType := fun k => match k with
  | 0 => .int
  | 1 => .array .int
  | 2 => .array .int
  | 3 => .array .int
  | 4 => .array .int
  | 5 => .array .int
  | 6 => .array .int
  | 7 => .array .int
  | 8 => .array .int
  | 9 => .array .int
  | 10 => .array .int
  | 11 => .array .int
  | 12 => .array .int
  | 13 => .array .int
  | 14 => .array .int
  | 15 => .int
  | 16 => .int
  | 17 => .array .int
  | 18 => .array .int
  | 19 => .array .int
  | 20 => .array .int
  | 21 => .array .int
  | 22 => .int
  | 23 => .int
  | 24 => .int
  | 25 => .int
  | 26 => .int
  | 27 => .int
  | _ => .boolean
abbrev wsX80 : List Cond := u_ws RX8 TX8 29
theorem nmX8 : ∀ a, a < 29 → ∀ b, b < 29 → a ≠ b → (TX8 a).2.1 ≠ (TX8 b).2.1 := by decide +kernel
theorem tyX8_ok : ∀ k, k < 29 → parseFieldDescriptor (TX8 k).2.2.1 = some (tyX8 k) := by decide +kernel
abbrev cX8_init : ByteArray := prog_11_method_1_code
def yX8_init : MethodName := ⟨RX8, "<init>", "()V"⟩
abbrev cX8_copy : ByteArray := prog_11_method_2_code
def yX8_copy : MethodName := ⟨RX8, "copy", "(LStormBenchModel$House;)V"⟩
def RX9 : String := "StormBenchModel"
def TX9 : u_T := fun k => match k with
  | 0 => ("StormBenchModel", "rules", "[I", true)
  | 1 => ("StormBenchModel", "room", "[I", true)
  | 2 => ("StormBenchModel", "services", "I", false)
  | 3 => ("StormBenchModel", "patience", "I", false)
  | 4 => ("StormBenchModel", "guestsAgain", "I", false)
  | 5 => ("StormBenchModel", "tellTick", "[I", true)
  | 6 => ("StormBenchModel", "tellKey", "[I", true)
  | 7 => ("StormBenchModel", "tellMany", "[I", true)
  | 8 => ("StormBenchModel", "tellings", "I", false)
  | 9 => ("StormBenchModel", "period", "I", false)
  | 10 => ("StormBenchModel", "usualKey", "[I", true)
  | 11 => ("StormBenchModel", "usualMany", "[I", true)
  | 12 => ("StormBenchModel", "h", "LStormBenchModel$House;", true)
  | 13 => ("StormBenchModel", "kept", "LStormBenchModel$House;", true)
  | 14 => ("StormBenchModel", "isTried", "Z", false)
  | 15 => ("StormBenchModel", "moreKey", "I", false)
  | 16 => ("StormBenchModel", "moreMany", "I", false)
  | 17 => ("StormBenchModel", "price", "I", false)
  | 18 => ("StormBenchModel", "meant", "[I", true)
  | 19 => ("StormBenchModel", "meantMany", "I", false)
  | 20 => ("StormBenchModel", "meantGuests", "[I", true)
  | _ => ("StormBenchModel", "triedPrice", "I", false)
def tyX9 : Nat → FieldType := fun k => match k with
  | 0 => .array .int
  | 1 => .array .int
  | 2 => .int
  | 3 => .int
  | 4 => .int
  | 5 => .array .int
  | 6 => .array .int
  | 7 => .array .int
  | 8 => .int
  | 9 => .int
  | 10 => .array .int
  | 11 => .array .int
  | 12 => .object "StormBenchModel$House"
  | 13 => .object "StormBenchModel$House"
  | 14 => .boolean
  | 15 => .int
  | 16 => .int
  | 17 => .int
  | 18 => .array .int
  | 19 => .int
  | 20 => .array .int
  | _ => .int
abbrev wsX90 : List Cond := u_ws RX9 TX9 22
theorem nmX9 : ∀ a, a < 22 → ∀ b, b < 22 → a ≠ b → (TX9 a).2.1 ≠ (TX9 b).2.1 := by decide +kernel
theorem tyX9_ok : ∀ k, k < 22 → parseFieldDescriptor (TX9 k).2.2.1 = some (tyX9 k) := by decide +kernel
abbrev cX9_init : ByteArray := prog_10_method_1_code
def yX9_init : MethodName := ⟨RX9, "<init>", "()V"⟩
abbrev cX9_within : ByteArray := prog_10_method_2_code
def yX9_within : MethodName := ⟨RX9, "within", "(III)Z"⟩
abbrev cX9_isService : ByteArray := prog_10_method_3_code
def yX9_isService : MethodName := ⟨RX9, "isService", "(I)Z"⟩
abbrev cX9_isKey : ByteArray := prog_10_method_4_code
def yX9_isKey : MethodName := ⟨RX9, "isKey", "(I)Z"⟩
abbrev cX9_ruled : ByteArray := prog_10_method_5_code
def yX9_ruled : MethodName := ⟨RX9, "ruled", "(II)I"⟩
abbrev cX9_service : ByteArray := prog_10_method_6_code
def yX9_service : MethodName := ⟨RX9, "service", "(III)I"⟩
abbrev cX9_isRule : ByteArray := prog_10_method_7_code
def yX9_isRule : MethodName := ⟨RX9, "isRule", "(II)Z"⟩
abbrev cX9_rule : ByteArray := prog_10_method_8_code
def yX9_rule : MethodName := ⟨RX9, "rule", "(III)I"⟩
abbrev cX9_guests : ByteArray := prog_10_method_9_code
def yX9_guests : MethodName := ⟨RX9, "guests", "(II)I"⟩
abbrev cX9_crowd : ByteArray := prog_10_method_10_code
def yX9_crowd : MethodName := ⟨RX9, "crowd", "(III)I"⟩
abbrev cX9_usual : ByteArray := prog_10_method_11_code
def yX9_usual : MethodName := ⟨RX9, "usual", "(I)I"⟩
abbrev cX9_place : ByteArray := prog_10_method_12_code
def yX9_place : MethodName := ⟨RX9, "place", "(III)I"⟩
abbrev cX9_placeOf : ByteArray := prog_10_method_13_code
def yX9_placeOf : MethodName := ⟨RX9, "placeOf", "(I)I"⟩
abbrev cX9_guestOf : ByteArray := prog_10_method_14_code
def yX9_guestOf : MethodName := ⟨RX9, "guestOf", "(I)I"⟩
abbrev cX9_add : ByteArray := prog_10_method_15_code
def yX9_add : MethodName := ⟨RX9, "add", "(II)V"⟩
abbrev cX9_handsInUse : ByteArray := prog_10_method_16_code
def yX9_handsInUse : MethodName := ⟨RX9, "handsInUse", "(I)I"⟩
abbrev cX9_takeOut : ByteArray := prog_10_method_17_code
def yX9_takeOut : MethodName := ⟨RX9, "takeOut", "(I)V"⟩
abbrev cX9_begin : ByteArray := prog_10_method_18_code
def yX9_begin : MethodName := ⟨RX9, "begin", "(I)V"⟩
abbrev cX9_leaveRow : ByteArray := prog_10_method_19_code
def yX9_leaveRow : MethodName := ⟨RX9, "leaveRow", "(I)V"⟩
abbrev cX9_comes : ByteArray := prog_10_method_20_code
def yX9_comes : MethodName := ⟨RX9, "comes", "(IIII)I"⟩
abbrev cX9_refuse : ByteArray := prog_10_method_21_code
def yX9_refuse : MethodName := ⟨RX9, "refuse", "(I)V"⟩
abbrev cX9_tell : ByteArray := prog_10_method_22_code
def yX9_tell : MethodName := ⟨RX9, "tell", "(IIZ)Z"⟩
abbrev cX9_answerGuest : ByteArray := prog_10_method_23_code
def yX9_answerGuest : MethodName := ⟨RX9, "answerGuest", "(IZ)V"⟩
abbrev cX9_guestGoes : ByteArray := prog_10_method_24_code
def yX9_guestGoes : MethodName := ⟨RX9, "guestGoes", "(I)V"⟩
abbrev cX9_over : ByteArray := prog_10_method_25_code
def yX9_over : MethodName := ⟨RX9, "over", "(IZ)V"⟩
abbrev cX9_answered : ByteArray := prog_10_method_26_code
def yX9_answered : MethodName := ⟨RX9, "answered", "(IZ)V"⟩
abbrev cX9_fail : ByteArray := prog_10_method_27_code
def yX9_fail : MethodName := ⟨RX9, "fail", "(I)V"⟩
abbrev cX9_rests : ByteArray := prog_10_method_28_code
def yX9_rests : MethodName := ⟨RX9, "rests", "(I)Z"⟩
abbrev cX9_ask : ByteArray := prog_10_method_29_code
def yX9_ask : MethodName := ⟨RX9, "ask", "(I)V"⟩
abbrev cX9_guestAsks : ByteArray := prog_10_method_30_code
def yX9_guestAsks : MethodName := ⟨RX9, "guestAsks", "(I)V"⟩
abbrev cX9_guestComes : ByteArray := prog_10_method_31_code
def yX9_guestComes : MethodName := ⟨RX9, "guestComes", "(I)V"⟩
abbrev cX9_mean : ByteArray := prog_10_method_32_code
def yX9_mean : MethodName := ⟨RX9, "mean", "(I)V"⟩
abbrev cX9_isSo : ByteArray := prog_10_method_33_code
def yX9_isSo : MethodName := ⟨RX9, "isSo", "(II)Z"⟩
abbrev cX9_workEnds : ByteArray := prog_10_method_34_code
def yX9_workEnds : MethodName := ⟨RX9, "workEnds", "()V"⟩
abbrev cX9_pausesEnd : ByteArray := prog_10_method_35_code
def yX9_pausesEnd : MethodName := ⟨RX9, "pausesEnd", "()V"⟩
abbrev cX9_deadlines : ByteArray := prog_10_method_36_code
def yX9_deadlines : MethodName := ⟨RX9, "deadlines", "()V"⟩
abbrev cX9_guestDeadlines : ByteArray := prog_10_method_37_code
def yX9_guestDeadlines : MethodName := ⟨RX9, "guestDeadlines", "()V"⟩
abbrev cX9_handsTake : ByteArray := prog_10_method_38_code
def yX9_handsTake : MethodName := ⟨RX9, "handsTake", "()V"⟩
abbrev cX9_guestsCome : ByteArray := prog_10_method_39_code
def yX9_guestsCome : MethodName := ⟨RX9, "guestsCome", "()V"⟩
abbrev cX9_oneTick : ByteArray := prog_10_method_40_code
def yX9_oneTick : MethodName := ⟨RX9, "oneTick", "()V"⟩
abbrev cX9_ticks : ByteArray := prog_10_method_41_code
def yX9_ticks : MethodName := ⟨RX9, "ticks", "(I)I"⟩
abbrev cX9_about : ByteArray := prog_10_method_42_code
def yX9_about : MethodName := ⟨RX9, "about", "(II)I"⟩
abbrev cX9_ruleOf : ByteArray := prog_10_method_43_code
def yX9_ruleOf : MethodName := ⟨RX9, "ruleOf", "(II)I"⟩
abbrev cX9_kept : ByteArray := prog_10_method_44_code
def yX9_kept : MethodName := ⟨RX9, "kept", "(II)I"⟩
abbrev cX9_callerOf : ByteArray := prog_10_method_45_code
def yX9_callerOf : MethodName := ⟨RX9, "callerOf", "(I)I"⟩
abbrev cX9_job : ByteArray := prog_10_method_46_code
def yX9_job : MethodName := ⟨RX9, "job", "(II)I"⟩
abbrev cX9_row : ByteArray := prog_10_method_47_code
def yX9_row : MethodName := ⟨RX9, "row", "(II)I"⟩
abbrev cX9_guest : ByteArray := prog_10_method_48_code
def yX9_guest : MethodName := ⟨RX9, "guest", "(II)I"⟩
abbrev cX9_count : ByteArray := prog_10_method_49_code
def yX9_count : MethodName := ⟨RX9, "count", "(I)I"⟩
abbrev cX9_tried : ByteArray := prog_10_method_50_code
def yX9_tried : MethodName := ⟨RX9, "tried", "(IIIZ)I"⟩
abbrev cX9_rest : ByteArray := prog_10_method_51_code
def yX9_rest : MethodName := ⟨RX9, "rest", "(I)I"⟩
abbrev cX9_bears : ByteArray := prog_10_method_52_code
def yX9_bears : MethodName := ⟨RX9, "bears", "(II)I"⟩
abbrev cX9_best : ByteArray := prog_10_method_53_code
def yX9_best : MethodName := ⟨RX9, "best", "(IIII)I"⟩
abbrev cX9_price : ByteArray := prog_10_method_54_code
def yX9_price : MethodName := ⟨RX9, "price", "()I"⟩
def RJ9 : String := "java/lang/Math"
abbrev cJ9_floorMod_7cf53 : ByteArray := prog_12_method_50_code
def yJ9_floorMod_7cf53 : MethodName := ⟨RJ9, "floorMod", "(II)I"⟩
abbrev cJ9_max_7cf53 : ByteArray := prog_12_method_65_code
def yJ9_max_7cf53 : MethodName := ⟨RJ9, "max", "(II)I"⟩
abbrev cJ9_min_7cf53 : ByteArray := prog_12_method_69_code
def yJ9_min_7cf53 : MethodName := ⟨RJ9, "min", "(II)I"⟩
def RJ10 : String := "java/lang/System"
def RJ7 : String := "java/util/Arrays"
abbrev cJ7_fill_53178 : ByteArray := prog_14_method_103_code
def yJ7_fill_53178 : MethodName := ⟨RJ7, "fill", "([II)V"⟩
set_option maxRecDepth 20000 in
theorem inX0 : ∀ w ∈ wsX00, w ∈ lw_tbl := by
  intro w hw
  have h : wsX00 = ([215, 217, 219, 221, 223, 225, 227, 229, 231, 233, 235] : List Nat).filterMap (fun i => lw_tbl[i]?) := by decide +kernel
  rw [h] at hw
  obtain ⟨i, -, hi⟩ := List.mem_filterMap.mp hw
  exact List.mem_of_getElem? hi
set_option maxRecDepth 20000 in
theorem inX1 : ∀ w ∈ wsX10, w ∈ lw_tbl := by
  intro w hw
  have h : wsX10 = ([355, 357, 359, 361, 363, 365, 367, 369, 371, 373, 375, 377, 379] : List Nat).filterMap (fun i => lw_tbl[i]?) := by decide +kernel
  rw [h] at hw
  obtain ⟨i, -, hi⟩ := List.mem_filterMap.mp hw
  exact List.mem_of_getElem? hi
set_option maxRecDepth 20000 in
theorem inX2 : ∀ w ∈ wsX20, w ∈ lw_tbl := by
  intro w hw
  have h : wsX20 = ([153, 155, 157, 159, 161, 163, 165, 167, 169, 171] : List Nat).filterMap (fun i => lw_tbl[i]?) := by decide +kernel
  rw [h] at hw
  obtain ⟨i, -, hi⟩ := List.mem_filterMap.mp hw
  exact List.mem_of_getElem? hi
set_option maxRecDepth 20000 in
theorem inX3 : ∀ w ∈ wsX30, w ∈ lw_tbl := by
  intro w hw
  have h : wsX30 = ([113, 115, 117, 119, 121, 123] : List Nat).filterMap (fun i => lw_tbl[i]?) := by decide +kernel
  rw [h] at hw
  obtain ⟨i, -, hi⟩ := List.mem_filterMap.mp hw
  exact List.mem_of_getElem? hi
set_option maxRecDepth 20000 in
theorem inX4 : ∀ w ∈ wsX40, w ∈ lw_tbl := by
  intro w hw
  have h : wsX40 = ([274, 276, 278] : List Nat).filterMap (fun i => lw_tbl[i]?) := by decide +kernel
  rw [h] at hw
  obtain ⟨i, -, hi⟩ := List.mem_filterMap.mp hw
  exact List.mem_of_getElem? hi
set_option maxRecDepth 20000 in
theorem inX5 : ∀ w ∈ wsX50, w ∈ lw_tbl := by
  intro w hw
  have h : wsX50 = ([316, 318, 320, 322, 324, 326, 328, 330] : List Nat).filterMap (fun i => lw_tbl[i]?) := by decide +kernel
  rw [h] at hw
  obtain ⟨i, -, hi⟩ := List.mem_filterMap.mp hw
  exact List.mem_of_getElem? hi
set_option maxRecDepth 20000 in
theorem inX6 : ∀ w ∈ wsX60, w ∈ lw_tbl := by
  intro w hw
  have h : wsX60 = ([251, 253, 255, 257] : List Nat).filterMap (fun i => lw_tbl[i]?) := by decide +kernel
  rw [h] at hw
  obtain ⟨i, -, hi⟩ := List.mem_filterMap.mp hw
  exact List.mem_of_getElem? hi
set_option maxRecDepth 20000 in
theorem inX7 : ∀ w ∈ wsX70, w ∈ lw_tbl := by
  intro w hw
  have h : wsX70 = ([385, 387, 389] : List Nat).filterMap (fun i => lw_tbl[i]?) := by decide +kernel
  rw [h] at hw
  obtain ⟨i, -, hi⟩ := List.mem_filterMap.mp hw
  exact List.mem_of_getElem? hi
set_option maxRecDepth 20000 in
theorem inX8 : ∀ w ∈ wsX80, w ∈ lw_tbl := by
  intro w hw
  have h : wsX80 = ([771, 773, 775, 777, 779, 781, 783, 785, 787, 789, 791, 793, 795, 797, 799, 801, 803, 805, 807, 809, 811, 813, 815, 817, 819, 821, 823, 825, 827] : List Nat).filterMap (fun i => lw_tbl[i]?) := by decide +kernel
  rw [h] at hw
  obtain ⟨i, -, hi⟩ := List.mem_filterMap.mp hw
  exact List.mem_of_getElem? hi
set_option maxRecDepth 20000 in
theorem inX9 : ∀ w ∈ wsX90, w ∈ lw_tbl := by
  intro w hw
  have h : wsX90 = ([852, 854, 856, 858, 860, 862, 864, 866, 868, 870, 872, 874, 876, 878, 880, 882, 884, 886, 888, 890, 892, 894] : List Nat).filterMap (fun i => lw_tbl[i]?) := by decide +kernel
  rw [h] at hw
  obtain ⟨i, -, hi⟩ := List.mem_filterMap.mp hw
  exact List.mem_of_getElem? hi
