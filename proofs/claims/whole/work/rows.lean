section
/-! the skeleton's head (given text), then names (given text) -/
-- ===== PART A: goes FIRST, ahead of the names: the tables' words, and 'selects' of the private methods out of them =====
/-- a private method of a class that the tables say can be made, by its rows of tables_1 -/
def lw_okq (q : MethodName × Nat) : Prop := (q.1.cls ≠ "java/lang/invoke/MethodHandle" ∧ q.1.cls ≠ "java/lang/invoke/VarHandle") ∧ Cond.instantiable q.1.cls q.2 ∈ tables_1 ∧ Cond.privateMethod q.1 ∈ tables_1 ∧ Cond.instanceMethod q.1 ∈ tables_1
theorem lw_p0 : lw_okq (⟨"StormBench", "isService", "(I)Z"⟩, 3) := ⟨⟨by decide +kernel, by decide +kernel⟩, List.mem_of_getElem? (i := 15) (by decide +kernel), List.mem_of_getElem? (i := 359) (by decide +kernel), List.mem_of_getElem? (i := 360) (by decide +kernel)⟩
theorem lw_p1 : lw_okq (⟨"StormBench$House", "findDueJobs", "()V"⟩, 13) := ⟨⟨by decide +kernel, by decide +kernel⟩, List.mem_of_getElem? (i := 23) (by decide +kernel), List.mem_of_getElem? (i := 400) (by decide +kernel), List.mem_of_getElem? (i := 401) (by decide +kernel)⟩
theorem lw_p2 : lw_okq (⟨"StormBench$House", "endWork", "()V"⟩, 13) := ⟨⟨by decide +kernel, by decide +kernel⟩, List.mem_of_getElem? (i := 23) (by decide +kernel), List.mem_of_getElem? (i := 404) (by decide +kernel), List.mem_of_getElem? (i := 405) (by decide +kernel)⟩
theorem lw_p3 : lw_okq (⟨"StormBench$House", "toAsk", "(I)V"⟩, 13) := ⟨⟨by decide +kernel, by decide +kernel⟩, List.mem_of_getElem? (i := 23) (by decide +kernel), List.mem_of_getElem? (i := 412) (by decide +kernel), List.mem_of_getElem? (i := 413) (by decide +kernel)⟩
theorem lw_p4 : lw_okq (⟨"StormBench$House", "end", "(IZ)V"⟩, 13) := ⟨⟨by decide +kernel, by decide +kernel⟩, List.mem_of_getElem? (i := 23) (by decide +kernel), List.mem_of_getElem? (i := 420) (by decide +kernel), List.mem_of_getElem? (i := 421) (by decide +kernel)⟩
theorem lw_p5 : lw_okq (⟨"StormBench$House", "answer", "(IZ)V"⟩, 13) := ⟨⟨by decide +kernel, by decide +kernel⟩, List.mem_of_getElem? (i := 23) (by decide +kernel), List.mem_of_getElem? (i := 432) (by decide +kernel), List.mem_of_getElem? (i := 433) (by decide +kernel)⟩
theorem lw_p6 : lw_okq (⟨"StormBench$House", "comes", "(III)V"⟩, 13) := ⟨⟨by decide +kernel, by decide +kernel⟩, List.mem_of_getElem? (i := 23) (by decide +kernel), List.mem_of_getElem? (i := 440) (by decide +kernel), List.mem_of_getElem? (i := 441) (by decide +kernel)⟩
theorem lw_p7 : lw_okq (⟨"StormBench$House", "refuse", "(LStormBench$Service;I)V"⟩, 13) := ⟨⟨by decide +kernel, by decide +kernel⟩, List.mem_of_getElem? (i := 23) (by decide +kernel), List.mem_of_getElem? (i := 460) (by decide +kernel), List.mem_of_getElem? (i := 461) (by decide +kernel)⟩
theorem lw_p8 : lw_okq (⟨"StormBench$House", "setJobOf", "(II)V"⟩, 13) := ⟨⟨by decide +kernel, by decide +kernel⟩, List.mem_of_getElem? (i := 23) (by decide +kernel), List.mem_of_getElem? (i := 464) (by decide +kernel), List.mem_of_getElem? (i := 465) (by decide +kernel)⟩
theorem lw_p9 : lw_okq (⟨"StormBench$House", "begin", "(I)V"⟩, 13) := ⟨⟨by decide +kernel, by decide +kernel⟩, List.mem_of_getElem? (i := 23) (by decide +kernel), List.mem_of_getElem? (i := 468) (by decide +kernel), List.mem_of_getElem? (i := 469) (by decide +kernel)⟩
theorem lw_p10 : lw_okq (⟨"StormBench$House", "settle", "()V"⟩, 13) := ⟨⟨by decide +kernel, by decide +kernel⟩, List.mem_of_getElem? (i := 23) (by decide +kernel), List.mem_of_getElem? (i := 480) (by decide +kernel), List.mem_of_getElem? (i := 481) (by decide +kernel)⟩
theorem lw_p11 : lw_okq (⟨"StormBench$House", "answerGuest", "(I)V"⟩, 13) := ⟨⟨by decide +kernel, by decide +kernel⟩, List.mem_of_getElem? (i := 23) (by decide +kernel), List.mem_of_getElem? (i := 484) (by decide +kernel), List.mem_of_getElem? (i := 485) (by decide +kernel)⟩
theorem lw_p12 : lw_okq (⟨"StormBench$House", "pausesAfterFail", "(I)Z"⟩, 13) := ⟨⟨by decide +kernel, by decide +kernel⟩, List.mem_of_getElem? (i := 23) (by decide +kernel), List.mem_of_getElem? (i := 489) (by decide +kernel), List.mem_of_getElem? (i := 490) (by decide +kernel)⟩
theorem lw_p13 : lw_okq (⟨"StormBench$House", "endPauses", "()V"⟩, 13) := ⟨⟨by decide +kernel, by decide +kernel⟩, List.mem_of_getElem? (i := 23) (by decide +kernel), List.mem_of_getElem? (i := 493) (by decide +kernel), List.mem_of_getElem? (i := 494) (by decide +kernel)⟩
theorem lw_p14 : lw_okq (⟨"StormBench$House", "endAsking", "()V"⟩, 13) := ⟨⟨by decide +kernel, by decide +kernel⟩, List.mem_of_getElem? (i := 23) (by decide +kernel), List.mem_of_getElem? (i := 497) (by decide +kernel), List.mem_of_getElem? (i := 498) (by decide +kernel)⟩
theorem lw_p15 : lw_okq (⟨"StormBench$House", "giveUp", "(I)V"⟩, 13) := ⟨⟨by decide +kernel, by decide +kernel⟩, List.mem_of_getElem? (i := 23) (by decide +kernel), List.mem_of_getElem? (i := 501) (by decide +kernel), List.mem_of_getElem? (i := 502) (by decide +kernel)⟩
def lw_privs_1 : List (MethodName × Nat) := [(⟨"StormBench", "isService", "(I)Z"⟩, 3), (⟨"StormBench$House", "findDueJobs", "()V"⟩, 13), (⟨"StormBench$House", "endWork", "()V"⟩, 13), (⟨"StormBench$House", "toAsk", "(I)V"⟩, 13), (⟨"StormBench$House", "end", "(IZ)V"⟩, 13), (⟨"StormBench$House", "answer", "(IZ)V"⟩, 13), (⟨"StormBench$House", "comes", "(III)V"⟩, 13), (⟨"StormBench$House", "refuse", "(LStormBench$Service;I)V"⟩, 13), (⟨"StormBench$House", "setJobOf", "(II)V"⟩, 13), (⟨"StormBench$House", "begin", "(I)V"⟩, 13), (⟨"StormBench$House", "settle", "()V"⟩, 13), (⟨"StormBench$House", "answerGuest", "(I)V"⟩, 13), (⟨"StormBench$House", "pausesAfterFail", "(I)Z"⟩, 13), (⟨"StormBench$House", "endPauses", "()V"⟩, 13), (⟨"StormBench$House", "endAsking", "()V"⟩, 13), (⟨"StormBench$House", "giveUp", "(I)V"⟩, 13)]
theorem lw_r1 : ∀ q ∈ lw_privs_1, lw_okq q := List.forall_mem_cons.mpr ⟨lw_p0, List.forall_mem_cons.mpr ⟨lw_p1, List.forall_mem_cons.mpr ⟨lw_p2, List.forall_mem_cons.mpr ⟨lw_p3, List.forall_mem_cons.mpr ⟨lw_p4, List.forall_mem_cons.mpr ⟨lw_p5, List.forall_mem_cons.mpr ⟨lw_p6, List.forall_mem_cons.mpr ⟨lw_p7, List.forall_mem_cons.mpr ⟨lw_p8, List.forall_mem_cons.mpr ⟨lw_p9, List.forall_mem_cons.mpr ⟨lw_p10, List.forall_mem_cons.mpr ⟨lw_p11, List.forall_mem_cons.mpr ⟨lw_p12, List.forall_mem_cons.mpr ⟨lw_p13, List.forall_mem_cons.mpr ⟨lw_p14, List.forall_mem_cons.mpr ⟨lw_p15, fun _ h => absurd h List.not_mem_nil⟩⟩⟩⟩⟩⟩⟩⟩⟩⟩⟩⟩⟩⟩⟩⟩
theorem lw_p16 : lw_okq (⟨"StormBench$House", "endPatience", "()V"⟩, 13) := ⟨⟨by decide +kernel, by decide +kernel⟩, List.mem_of_getElem? (i := 23) (by decide +kernel), List.mem_of_getElem? (i := 505) (by decide +kernel), List.mem_of_getElem? (i := 506) (by decide +kernel)⟩
theorem lw_p17 : lw_okq (⟨"StormBench$House", "guestAsks", "(I)V"⟩, 13) := ⟨⟨by decide +kernel, by decide +kernel⟩, List.mem_of_getElem? (i := 23) (by decide +kernel), List.mem_of_getElem? (i := 509) (by decide +kernel), List.mem_of_getElem? (i := 510) (by decide +kernel)⟩
theorem lw_p18 : lw_okq (⟨"StormBench$House", "fillHands", "()V"⟩, 13) := ⟨⟨by decide +kernel, by decide +kernel⟩, List.mem_of_getElem? (i := 23) (by decide +kernel), List.mem_of_getElem? (i := 513) (by decide +kernel), List.mem_of_getElem? (i := 514) (by decide +kernel)⟩
theorem lw_p19 : lw_okq (⟨"StormBench$House", "guestsCome", "(II)V"⟩, 13) := ⟨⟨by decide +kernel, by decide +kernel⟩, List.mem_of_getElem? (i := 23) (by decide +kernel), List.mem_of_getElem? (i := 521) (by decide +kernel), List.mem_of_getElem? (i := 522) (by decide +kernel)⟩
theorem lw_p20 : lw_okq (⟨"StormBench", "callerOf", "(I)I"⟩, 3) := ⟨⟨by decide +kernel, by decide +kernel⟩, List.mem_of_getElem? (i := 15) (by decide +kernel), List.mem_of_getElem? (i := 567) (by decide +kernel), List.mem_of_getElem? (i := 568) (by decide +kernel)⟩
theorem lw_p21 : lw_okq (⟨"StormBench", "beginTrial", "(II)V"⟩, 3) := ⟨⟨by decide +kernel, by decide +kernel⟩, List.mem_of_getElem? (i := 15) (by decide +kernel), List.mem_of_getElem? (i := 590) (by decide +kernel), List.mem_of_getElem? (i := 591) (by decide +kernel)⟩
theorem lw_p22 : lw_okq (⟨"StormBench", "firstOfRest", "(IZ)I"⟩, 3) := ⟨⟨by decide +kernel, by decide +kernel⟩, List.mem_of_getElem? (i := 15) (by decide +kernel), List.mem_of_getElem? (i := 626) (by decide +kernel), List.mem_of_getElem? (i := 627) (by decide +kernel)⟩
theorem lw_p23 : lw_okq (⟨"StormBench", "trialPrice", "()I"⟩, 3) := ⟨⟨by decide +kernel, by decide +kernel⟩, List.mem_of_getElem? (i := 15) (by decide +kernel), List.mem_of_getElem? (i := 638) (by decide +kernel), List.mem_of_getElem? (i := 639) (by decide +kernel)⟩
theorem lw_p24 : lw_okq (⟨"StormBenchModel", "isService", "(I)Z"⟩, 22) := ⟨⟨by decide +kernel, by decide +kernel⟩, List.mem_of_getElem? (i := 646) (by decide +kernel), List.mem_of_getElem? (i := 853) (by decide +kernel), List.mem_of_getElem? (i := 854) (by decide +kernel)⟩
theorem lw_p25 : lw_okq (⟨"StormBenchModel", "ruled", "(II)I"⟩, 22) := ⟨⟨by decide +kernel, by decide +kernel⟩, List.mem_of_getElem? (i := 646) (by decide +kernel), List.mem_of_getElem? (i := 860) (by decide +kernel), List.mem_of_getElem? (i := 861) (by decide +kernel)⟩
theorem lw_p26 : lw_okq (⟨"StormBenchModel", "oneTick", "()V"⟩, 22) := ⟨⟨by decide +kernel, by decide +kernel⟩, List.mem_of_getElem? (i := 646) (by decide +kernel), List.mem_of_getElem? (i := 888) (by decide +kernel), List.mem_of_getElem? (i := 889) (by decide +kernel)⟩
theorem lw_p27 : lw_okq (⟨"StormBenchModel", "workEnds", "()V"⟩, 22) := ⟨⟨by decide +kernel, by decide +kernel⟩, List.mem_of_getElem? (i := 646) (by decide +kernel), List.mem_of_getElem? (i := 892) (by decide +kernel), List.mem_of_getElem? (i := 893) (by decide +kernel)⟩
theorem lw_p28 : lw_okq (⟨"StormBenchModel", "mean", "(I)V"⟩, 22) := ⟨⟨by decide +kernel, by decide +kernel⟩, List.mem_of_getElem? (i := 646) (by decide +kernel), List.mem_of_getElem? (i := 896) (by decide +kernel), List.mem_of_getElem? (i := 897) (by decide +kernel)⟩
theorem lw_p29 : lw_okq (⟨"StormBenchModel", "isSo", "(II)Z"⟩, 22) := ⟨⟨by decide +kernel, by decide +kernel⟩, List.mem_of_getElem? (i := 646) (by decide +kernel), List.mem_of_getElem? (i := 900) (by decide +kernel), List.mem_of_getElem? (i := 901) (by decide +kernel)⟩
theorem lw_p30 : lw_okq (⟨"StormBenchModel", "placeOf", "(I)I"⟩, 22) := ⟨⟨by decide +kernel, by decide +kernel⟩, List.mem_of_getElem? (i := 646) (by decide +kernel), List.mem_of_getElem? (i := 904) (by decide +kernel), List.mem_of_getElem? (i := 905) (by decide +kernel)⟩
theorem lw_p31 : lw_okq (⟨"StormBenchModel", "ask", "(I)V"⟩, 22) := ⟨⟨by decide +kernel, by decide +kernel⟩, List.mem_of_getElem? (i := 646) (by decide +kernel), List.mem_of_getElem? (i := 908) (by decide +kernel), List.mem_of_getElem? (i := 909) (by decide +kernel)⟩
def lw_privs_2 : List (MethodName × Nat) := [(⟨"StormBench$House", "endPatience", "()V"⟩, 13), (⟨"StormBench$House", "guestAsks", "(I)V"⟩, 13), (⟨"StormBench$House", "fillHands", "()V"⟩, 13), (⟨"StormBench$House", "guestsCome", "(II)V"⟩, 13), (⟨"StormBench", "callerOf", "(I)I"⟩, 3), (⟨"StormBench", "beginTrial", "(II)V"⟩, 3), (⟨"StormBench", "firstOfRest", "(IZ)I"⟩, 3), (⟨"StormBench", "trialPrice", "()I"⟩, 3), (⟨"StormBenchModel", "isService", "(I)Z"⟩, 22), (⟨"StormBenchModel", "ruled", "(II)I"⟩, 22), (⟨"StormBenchModel", "oneTick", "()V"⟩, 22), (⟨"StormBenchModel", "workEnds", "()V"⟩, 22), (⟨"StormBenchModel", "mean", "(I)V"⟩, 22), (⟨"StormBenchModel", "isSo", "(II)Z"⟩, 22), (⟨"StormBenchModel", "placeOf", "(I)I"⟩, 22), (⟨"StormBenchModel", "ask", "(I)V"⟩, 22)]
theorem lw_r2 : ∀ q ∈ lw_privs_2, lw_okq q := List.forall_mem_cons.mpr ⟨lw_p16, List.forall_mem_cons.mpr ⟨lw_p17, List.forall_mem_cons.mpr ⟨lw_p18, List.forall_mem_cons.mpr ⟨lw_p19, List.forall_mem_cons.mpr ⟨lw_p20, List.forall_mem_cons.mpr ⟨lw_p21, List.forall_mem_cons.mpr ⟨lw_p22, List.forall_mem_cons.mpr ⟨lw_p23, List.forall_mem_cons.mpr ⟨lw_p24, List.forall_mem_cons.mpr ⟨lw_p25, List.forall_mem_cons.mpr ⟨lw_p26, List.forall_mem_cons.mpr ⟨lw_p27, List.forall_mem_cons.mpr ⟨lw_p28, List.forall_mem_cons.mpr ⟨lw_p29, List.forall_mem_cons.mpr ⟨lw_p30, List.forall_mem_cons.mpr ⟨lw_p31, fun _ h => absurd h List.not_mem_nil⟩⟩⟩⟩⟩⟩⟩⟩⟩⟩⟩⟩⟩⟩⟩⟩
theorem lw_p32 : lw_okq (⟨"StormBenchModel", "rests", "(I)Z"⟩, 22) := ⟨⟨by decide +kernel, by decide +kernel⟩, List.mem_of_getElem? (i := 646) (by decide +kernel), List.mem_of_getElem? (i := 912) (by decide +kernel), List.mem_of_getElem? (i := 913) (by decide +kernel)⟩
theorem lw_p33 : lw_okq (⟨"StormBenchModel", "over", "(IZ)V"⟩, 22) := ⟨⟨by decide +kernel, by decide +kernel⟩, List.mem_of_getElem? (i := 646) (by decide +kernel), List.mem_of_getElem? (i := 916) (by decide +kernel), List.mem_of_getElem? (i := 917) (by decide +kernel)⟩
theorem lw_p34 : lw_okq (⟨"StormBenchModel", "add", "(II)V"⟩, 22) := ⟨⟨by decide +kernel, by decide +kernel⟩, List.mem_of_getElem? (i := 646) (by decide +kernel), List.mem_of_getElem? (i := 920) (by decide +kernel), List.mem_of_getElem? (i := 921) (by decide +kernel)⟩
theorem lw_p35 : lw_okq (⟨"StormBenchModel", "takeOut", "(I)V"⟩, 22) := ⟨⟨by decide +kernel, by decide +kernel⟩, List.mem_of_getElem? (i := 646) (by decide +kernel), List.mem_of_getElem? (i := 924) (by decide +kernel), List.mem_of_getElem? (i := 925) (by decide +kernel)⟩
theorem lw_p36 : lw_okq (⟨"StormBenchModel", "tell", "(IIZ)Z"⟩, 22) := ⟨⟨by decide +kernel, by decide +kernel⟩, List.mem_of_getElem? (i := 646) (by decide +kernel), List.mem_of_getElem? (i := 928) (by decide +kernel), List.mem_of_getElem? (i := 929) (by decide +kernel)⟩
theorem lw_p37 : lw_okq (⟨"StormBenchModel", "answered", "(IZ)V"⟩, 22) := ⟨⟨by decide +kernel, by decide +kernel⟩, List.mem_of_getElem? (i := 646) (by decide +kernel), List.mem_of_getElem? (i := 932) (by decide +kernel), List.mem_of_getElem? (i := 933) (by decide +kernel)⟩
theorem lw_p38 : lw_okq (⟨"StormBenchModel", "fail", "(I)V"⟩, 22) := ⟨⟨by decide +kernel, by decide +kernel⟩, List.mem_of_getElem? (i := 646) (by decide +kernel), List.mem_of_getElem? (i := 936) (by decide +kernel), List.mem_of_getElem? (i := 937) (by decide +kernel)⟩
theorem lw_p39 : lw_okq (⟨"StormBenchModel", "guestOf", "(I)I"⟩, 22) := ⟨⟨by decide +kernel, by decide +kernel⟩, List.mem_of_getElem? (i := 646) (by decide +kernel), List.mem_of_getElem? (i := 940) (by decide +kernel), List.mem_of_getElem? (i := 941) (by decide +kernel)⟩
theorem lw_p40 : lw_okq (⟨"StormBenchModel", "answerGuest", "(IZ)V"⟩, 22) := ⟨⟨by decide +kernel, by decide +kernel⟩, List.mem_of_getElem? (i := 646) (by decide +kernel), List.mem_of_getElem? (i := 944) (by decide +kernel), List.mem_of_getElem? (i := 945) (by decide +kernel)⟩
theorem lw_p41 : lw_okq (⟨"StormBenchModel", "guestGoes", "(I)V"⟩, 22) := ⟨⟨by decide +kernel, by decide +kernel⟩, List.mem_of_getElem? (i := 646) (by decide +kernel), List.mem_of_getElem? (i := 948) (by decide +kernel), List.mem_of_getElem? (i := 949) (by decide +kernel)⟩
theorem lw_p42 : lw_okq (⟨"StormBenchModel", "comes", "(IIII)I"⟩, 22) := ⟨⟨by decide +kernel, by decide +kernel⟩, List.mem_of_getElem? (i := 646) (by decide +kernel), List.mem_of_getElem? (i := 952) (by decide +kernel), List.mem_of_getElem? (i := 953) (by decide +kernel)⟩
theorem lw_p43 : lw_okq (⟨"StormBenchModel", "handsInUse", "(I)I"⟩, 22) := ⟨⟨by decide +kernel, by decide +kernel⟩, List.mem_of_getElem? (i := 646) (by decide +kernel), List.mem_of_getElem? (i := 956) (by decide +kernel), List.mem_of_getElem? (i := 957) (by decide +kernel)⟩
theorem lw_p44 : lw_okq (⟨"StormBenchModel", "begin", "(I)V"⟩, 22) := ⟨⟨by decide +kernel, by decide +kernel⟩, List.mem_of_getElem? (i := 646) (by decide +kernel), List.mem_of_getElem? (i := 960) (by decide +kernel), List.mem_of_getElem? (i := 961) (by decide +kernel)⟩
theorem lw_p45 : lw_okq (⟨"StormBenchModel", "leaveRow", "(I)V"⟩, 22) := ⟨⟨by decide +kernel, by decide +kernel⟩, List.mem_of_getElem? (i := 646) (by decide +kernel), List.mem_of_getElem? (i := 964) (by decide +kernel), List.mem_of_getElem? (i := 965) (by decide +kernel)⟩
theorem lw_p46 : lw_okq (⟨"StormBenchModel", "refuse", "(I)V"⟩, 22) := ⟨⟨by decide +kernel, by decide +kernel⟩, List.mem_of_getElem? (i := 646) (by decide +kernel), List.mem_of_getElem? (i := 968) (by decide +kernel), List.mem_of_getElem? (i := 969) (by decide +kernel)⟩
theorem lw_p47 : lw_okq (⟨"StormBenchModel", "pausesEnd", "()V"⟩, 22) := ⟨⟨by decide +kernel, by decide +kernel⟩, List.mem_of_getElem? (i := 646) (by decide +kernel), List.mem_of_getElem? (i := 972) (by decide +kernel), List.mem_of_getElem? (i := 973) (by decide +kernel)⟩
def lw_privs_3 : List (MethodName × Nat) := [(⟨"StormBenchModel", "rests", "(I)Z"⟩, 22), (⟨"StormBenchModel", "over", "(IZ)V"⟩, 22), (⟨"StormBenchModel", "add", "(II)V"⟩, 22), (⟨"StormBenchModel", "takeOut", "(I)V"⟩, 22), (⟨"StormBenchModel", "tell", "(IIZ)Z"⟩, 22), (⟨"StormBenchModel", "answered", "(IZ)V"⟩, 22), (⟨"StormBenchModel", "fail", "(I)V"⟩, 22), (⟨"StormBenchModel", "guestOf", "(I)I"⟩, 22), (⟨"StormBenchModel", "answerGuest", "(IZ)V"⟩, 22), (⟨"StormBenchModel", "guestGoes", "(I)V"⟩, 22), (⟨"StormBenchModel", "comes", "(IIII)I"⟩, 22), (⟨"StormBenchModel", "handsInUse", "(I)I"⟩, 22), (⟨"StormBenchModel", "begin", "(I)V"⟩, 22), (⟨"StormBenchModel", "leaveRow", "(I)V"⟩, 22), (⟨"StormBenchModel", "refuse", "(I)V"⟩, 22), (⟨"StormBenchModel", "pausesEnd", "()V"⟩, 22)]
theorem lw_r3 : ∀ q ∈ lw_privs_3, lw_okq q := List.forall_mem_cons.mpr ⟨lw_p32, List.forall_mem_cons.mpr ⟨lw_p33, List.forall_mem_cons.mpr ⟨lw_p34, List.forall_mem_cons.mpr ⟨lw_p35, List.forall_mem_cons.mpr ⟨lw_p36, List.forall_mem_cons.mpr ⟨lw_p37, List.forall_mem_cons.mpr ⟨lw_p38, List.forall_mem_cons.mpr ⟨lw_p39, List.forall_mem_cons.mpr ⟨lw_p40, List.forall_mem_cons.mpr ⟨lw_p41, List.forall_mem_cons.mpr ⟨lw_p42, List.forall_mem_cons.mpr ⟨lw_p43, List.forall_mem_cons.mpr ⟨lw_p44, List.forall_mem_cons.mpr ⟨lw_p45, List.forall_mem_cons.mpr ⟨lw_p46, List.forall_mem_cons.mpr ⟨lw_p47, fun _ h => absurd h List.not_mem_nil⟩⟩⟩⟩⟩⟩⟩⟩⟩⟩⟩⟩⟩⟩⟩⟩
theorem lw_p48 : lw_okq (⟨"StormBenchModel", "deadlines", "()V"⟩, 22) := ⟨⟨by decide +kernel, by decide +kernel⟩, List.mem_of_getElem? (i := 646) (by decide +kernel), List.mem_of_getElem? (i := 976) (by decide +kernel), List.mem_of_getElem? (i := 977) (by decide +kernel)⟩
theorem lw_p49 : lw_okq (⟨"StormBenchModel", "guestDeadlines", "()V"⟩, 22) := ⟨⟨by decide +kernel, by decide +kernel⟩, List.mem_of_getElem? (i := 646) (by decide +kernel), List.mem_of_getElem? (i := 980) (by decide +kernel), List.mem_of_getElem? (i := 981) (by decide +kernel)⟩
theorem lw_p50 : lw_okq (⟨"StormBenchModel", "guestAsks", "(I)V"⟩, 22) := ⟨⟨by decide +kernel, by decide +kernel⟩, List.mem_of_getElem? (i := 646) (by decide +kernel), List.mem_of_getElem? (i := 984) (by decide +kernel), List.mem_of_getElem? (i := 985) (by decide +kernel)⟩
theorem lw_p51 : lw_okq (⟨"StormBenchModel", "handsTake", "()V"⟩, 22) := ⟨⟨by decide +kernel, by decide +kernel⟩, List.mem_of_getElem? (i := 646) (by decide +kernel), List.mem_of_getElem? (i := 988) (by decide +kernel), List.mem_of_getElem? (i := 989) (by decide +kernel)⟩
theorem lw_p52 : lw_okq (⟨"StormBenchModel", "guestsCome", "()V"⟩, 22) := ⟨⟨by decide +kernel, by decide +kernel⟩, List.mem_of_getElem? (i := 646) (by decide +kernel), List.mem_of_getElem? (i := 992) (by decide +kernel), List.mem_of_getElem? (i := 993) (by decide +kernel)⟩
theorem lw_p53 : lw_okq (⟨"StormBenchModel", "guestComes", "(I)V"⟩, 22) := ⟨⟨by decide +kernel, by decide +kernel⟩, List.mem_of_getElem? (i := 646) (by decide +kernel), List.mem_of_getElem? (i := 996) (by decide +kernel), List.mem_of_getElem? (i := 997) (by decide +kernel)⟩
theorem lw_p54 : lw_okq (⟨"StormBenchModel", "callerOf", "(I)I"⟩, 22) := ⟨⟨by decide +kernel, by decide +kernel⟩, List.mem_of_getElem? (i := 646) (by decide +kernel), List.mem_of_getElem? (i := 1016) (by decide +kernel), List.mem_of_getElem? (i := 1017) (by decide +kernel)⟩
theorem lw_p55 : lw_okq (⟨"StormBenchModel", "tried", "(IIIZ)I"⟩, 22) := ⟨⟨by decide +kernel, by decide +kernel⟩, List.mem_of_getElem? (i := 646) (by decide +kernel), List.mem_of_getElem? (i := 1036) (by decide +kernel), List.mem_of_getElem? (i := 1037) (by decide +kernel)⟩
def lw_privs_4 : List (MethodName × Nat) := [(⟨"StormBenchModel", "deadlines", "()V"⟩, 22), (⟨"StormBenchModel", "guestDeadlines", "()V"⟩, 22), (⟨"StormBenchModel", "guestAsks", "(I)V"⟩, 22), (⟨"StormBenchModel", "handsTake", "()V"⟩, 22), (⟨"StormBenchModel", "guestsCome", "()V"⟩, 22), (⟨"StormBenchModel", "guestComes", "(I)V"⟩, 22), (⟨"StormBenchModel", "callerOf", "(I)I"⟩, 22), (⟨"StormBenchModel", "tried", "(IIIZ)I"⟩, 22)]
theorem lw_r4 : ∀ q ∈ lw_privs_4, lw_okq q := List.forall_mem_cons.mpr ⟨lw_p48, List.forall_mem_cons.mpr ⟨lw_p49, List.forall_mem_cons.mpr ⟨lw_p50, List.forall_mem_cons.mpr ⟨lw_p51, List.forall_mem_cons.mpr ⟨lw_p52, List.forall_mem_cons.mpr ⟨lw_p53, List.forall_mem_cons.mpr ⟨lw_p54, List.forall_mem_cons.mpr ⟨lw_p55, fun _ h => absurd h List.not_mem_nil⟩⟩⟩⟩⟩⟩⟩⟩
def lw_privs : List (MethodName × Nat) := lw_privs_1 ++ (lw_privs_2 ++ (lw_privs_3 ++ (lw_privs_4)))
def lw_tbl : List Cond := k2_sels lw_privs ++ tables_1
theorem lw_privs_ok : ∀ q ∈ lw_privs, lw_okq q := by
  show ∀ q ∈ lw_privs_1 ++ (lw_privs_2 ++ (lw_privs_3 ++ (lw_privs_4))), lw_okq q
  exact List.forall_mem_append.mpr ⟨lw_r1, List.forall_mem_append.mpr ⟨lw_r2, List.forall_mem_append.mpr ⟨lw_r3, lw_r4⟩⟩⟩
-- ===== end of PART A; then your names; then what follows =====
/-! THE CLAIM OUT OF ONE WALK OF THE LAW'S BODY. Your part is whole_start (and what it stands on); all else here is the same for every law, but numbers. -/
def R_law : String := "StormBenchLaw"
def lw_P (b : Addr) (xs : List Int32) (args : Array Value) (s : State) : Prop := args = #[.ref b] ∧ s.IntsAt b xs ∧ xs.length ≤ 2560 ∧ (Jvm.Cond.and given_1 narrow_1).before args s = true
def lw_Q (_ : Array Value) (s : State) (o : Outcome) (t : State) : Prop := o = .returned (some (.int 1)) ∧ Framed s o t [] 600000 7302250
def lw_Z (below : List Frame) (a : Array Value) (s : State) : State → Prop := fun t => ∃ o, t.status = .running ∧ Ended t below o ∧ lw_Q a s o t
/-- the law's own end, with 1 on the stack, nothing written that was there before, its room as the claim has it -/
theorem lw_ret {p : Program} {l : Launch} {e : Env} {s : State} {m : MethodId} {below : List Frame} {meth : Method} {c : Code} {b : Nat} (hx : p.tables.exec = Jvm.exec) (hb : c.code = code) (hr : meth.sig.returnType = ret) (hlocks : meth.locks = false) {pc : Nat} {H : Heap} {ls : Array Slot} (hdg : decode code pc = .ok (.ireturn, 1)) : W p l e room_1 s m #[Value.ref b] below meth c H [] 600000 7302250 (lw_Z below #[Value.ref b] s) (F0 m pc ls [.int 1]) := by
  intro T hT X
  obtain ⟨fs, hret, hrun, hended, hW, hframe⟩ := X.leave (v := some (.int 1)) (hlocks := hlocks) (fun h => by rw [hr] at h; cases h)
  have hmeth' : T.vm.method? m = some meth := X.method'
  refine ⟨T.setFrames fs, ?_, .returned (some (.int 1)), hrun, hended, rfl, ⟨_, rfl⟩, hW, hframe⟩
  jvm_step X.here [X.here.top, hx, hb, hdg, hmeth', hr, ret, narrow_b1]
  (try refine ⟨rfl, ?_⟩); (try refine ⟨rfl, ?_⟩)
  first | (intro acts; rw [hret _ acts rfl rfl rfl]) | rw [hret _ _ rfl rfl rfl]
  exact Steps.refl _
/-- what holds at the law's entry: the machine, the code, the tables' words (any of lw_tbl by 'hts w (by decide +kernel)'), the script of L ints xs at the cell b, what the Statement gives of the start (any of its parts by flat_of_before) -/
def lw_At (p : Program) (s : State) (m : MethodId) (meth : Method) (c : Code) (b L : Nat) (xs : Nat → Int32) : Prop :=
  p.tables.exec = Jvm.exec ∧ c.code = code ∧ meth.sig.returnType = ret ∧ c.maxLocals = 4 ∧ s.vm.findClass R_law = some m.cls ∧ (∀ w ∈ lw_tbl, w.before #[Value.ref b] s = true) ∧ va_X b L xs s s.heap ∧ b < s.heap.size ∧ meth.locks = false ∧ (Jvm.Cond.and given_1 narrow_1).before #[Value.ref b] s = true
def RX0 : String := "StormBench$Guests"
def TX0 : u_T := fun k => match k with
  | 0 => ("StormBench$Guests", "line", "LStormBench$Line;", true)
  | 1 => ("StormBench$Guests", "key", "[I", true)
  | 2 => ("StormBench$Guests", "job", "[I", true)
  | 3 => ("StormBench$Guests", "deadline", "[I", true)
  | 4 => ("StormBench$Guests", "again", "[I", true)
  | 5 => ("StormBench$Guests", "patience", "I", false)
  | 6 => ("StormBench$Guests", "mostAgain", "I", false)
  | 7 => ("StormBench$Guests", "came", "I", false)
  | 8 => ("StormBench$Guests", "served", "I", false)
  | 9 => ("StormBench$Guests", "lost", "I", false)
  | _ => ("StormBench$Guests", "timesAgain", "I", false)
def tyX0 : Nat → FieldType := fun k => match k with
  | 0 => .object "StormBench$Line"
  | 1 => .array .int
  | 2 => .array .int
  | 3 => .array .int
  | 4 => .array .int
  | 5 => .int
  | 6 => .int
  | 7 => .int
  | 8 => .int
  | 9 => .int
  | _ => .int
abbrev wsX00 : List Cond := u_ws RX0 TX0 11
theorem nmX0 : ∀ a, a < 11 → ∀ b, b < 11 → a ≠ b → (TX0 a).2.1 ≠ (TX0 b).2.1 := by decide +kernel
theorem tyX0_ok : ∀ k, k < 11 → parseFieldDescriptor (TX0 k).2.2.1 = some (tyX0 k) := by decide +kernel
abbrev cX0_init : ByteArray := prog_2_method_1_code
def yX0_init : MethodName := ⟨RX0, "<init>", "()V"⟩
abbrev cX0_add : ByteArray := prog_2_method_2_code
def yX0_add : MethodName := ⟨RX0, "add", "(I)I"⟩
abbrev cX0_copyFrom : ByteArray := prog_2_method_3_code
def yX0_copyFrom : MethodName := ⟨RX0, "copyFrom", "(LStormBench$Guests;)V"⟩
def RX1 : String := "StormBench$House"
def TX1 : u_T := fun k => match k with
  | 0 => ("StormBench$House", "services", "[LStormBench$Service;", true)
  | 1 => ("StormBench$House", "serviceCount", "I", false)
  | 2 => ("StormBench$House", "tick", "I", false)
  | 3 => ("StormBench$House", "still", "Z", false)
  | 4 => ("StormBench$House", "forNobody", "I", false)
  | 5 => ("StormBench$House", "jobs", "LStormBench$Jobs;", true)
  | 6 => ("StormBench$House", "people", "LStormBench$Guests;", true)
  | 7 => ("StormBench$House", "tellings", "LStormBench$Tellings;", true)
  | 8 => ("StormBench$House", "regulars", "LStormBench$Regulars;", true)
  | 9 => ("StormBench$House", "due", "[I", true)
  | 10 => ("StormBench$House", "dueSize", "I", false)
  | 11 => ("StormBench$House", "toAnswer", "I", false)
  | _ => ("StormBench$House", "answerIsGood", "Z", false)
def tyX1 : Nat → FieldType := fun k => match k with
  | 0 => .array (.object "StormBench$Service")
  | 1 => .int
  | 2 => .int
  | 3 => .boolean
  | 4 => .int
  | 5 => .object "StormBench$Jobs"
  | 6 => .object "StormBench$Guests"
  | 7 => .object "StormBench$Tellings"
  | 8 => .object "StormBench$Regulars"
  | 9 => .array .int
  | 10 => .int
  | 11 => .int
  | _ => .boolean
abbrev wsX10 : List Cond := u_ws RX1 TX1 13
theorem nmX1 : ∀ a, a < 13 → ∀ b, b < 13 → a ≠ b → (TX1 a).2.1 ≠ (TX1 b).2.1 := by decide +kernel
theorem tyX1_ok : ∀ k, k < 13 → parseFieldDescriptor (TX1 k).2.2.1 = some (tyX1 k) := by decide +kernel
abbrev cX1_init : ByteArray := prog_3_method_1_code
def yX1_init : MethodName := ⟨RX1, "<init>", "()V"⟩
abbrev cX1_addService : ByteArray := prog_3_method_2_code
def yX1_addService : MethodName := ⟨RX1, "addService", "(III)I"⟩
abbrev cX1_step : ByteArray := prog_3_method_3_code
def yX1_step : MethodName := ⟨RX1, "step", "()V"⟩
abbrev cX1_findDueJobs : ByteArray := prog_3_method_4_code
def yX1_findDueJobs : MethodName := ⟨RX1, "findDueJobs", "()V"⟩
abbrev cX1_endWork : ByteArray := prog_3_method_5_code
def yX1_endWork : MethodName := ⟨RX1, "endWork", "()V"⟩
abbrev cX1_endPauses : ByteArray := prog_3_method_6_code
def yX1_endPauses : MethodName := ⟨RX1, "endPauses", "()V"⟩
abbrev cX1_endAsking : ByteArray := prog_3_method_7_code
def yX1_endAsking : MethodName := ⟨RX1, "endAsking", "()V"⟩
abbrev cX1_endPatience : ByteArray := prog_3_method_8_code
def yX1_endPatience : MethodName := ⟨RX1, "endPatience", "()V"⟩
abbrev cX1_fillHands : ByteArray := prog_3_method_9_code
def yX1_fillHands : MethodName := ⟨RX1, "fillHands", "()V"⟩
abbrev cX1_guestsCome : ByteArray := prog_3_method_10_code
def yX1_guestsCome : MethodName := ⟨RX1, "guestsCome", "(II)V"⟩
abbrev cX1_guestAsks : ByteArray := prog_3_method_11_code
def yX1_guestAsks : MethodName := ⟨RX1, "guestAsks", "(I)V"⟩
abbrev cX1_toAsk : ByteArray := prog_3_method_12_code
def yX1_toAsk : MethodName := ⟨RX1, "toAsk", "(I)V"⟩
abbrev cX1_comes : ByteArray := prog_3_method_13_code
def yX1_comes : MethodName := ⟨RX1, "comes", "(III)V"⟩
abbrev cX1_setJobOf : ByteArray := prog_3_method_14_code
def yX1_setJobOf : MethodName := ⟨RX1, "setJobOf", "(II)V"⟩
abbrev cX1_refuse : ByteArray := prog_3_method_15_code
def yX1_refuse : MethodName := ⟨RX1, "refuse", "(LStormBench$Service;I)V"⟩
abbrev cX1_begin : ByteArray := prog_3_method_16_code
def yX1_begin : MethodName := ⟨RX1, "begin", "(I)V"⟩
abbrev cX1_giveUp : ByteArray := prog_3_method_17_code
def yX1_giveUp : MethodName := ⟨RX1, "giveUp", "(I)V"⟩
abbrev cX1_end : ByteArray := prog_3_method_18_code
def yX1_end : MethodName := ⟨RX1, "end", "(IZ)V"⟩
abbrev cX1_answer : ByteArray := prog_3_method_19_code
def yX1_answer : MethodName := ⟨RX1, "answer", "(IZ)V"⟩
abbrev cX1_settle : ByteArray := prog_3_method_20_code
def yX1_settle : MethodName := ⟨RX1, "settle", "()V"⟩
abbrev cX1_answerGuest : ByteArray := prog_3_method_21_code
def yX1_answerGuest : MethodName := ⟨RX1, "answerGuest", "(I)V"⟩
abbrev cX1_pausesAfterFail : ByteArray := prog_3_method_22_code
def yX1_pausesAfterFail : MethodName := ⟨RX1, "pausesAfterFail", "(I)Z"⟩
abbrev cX1_copyFrom : ByteArray := prog_3_method_23_code
def yX1_copyFrom : MethodName := ⟨RX1, "copyFrom", "(LStormBench$House;)V"⟩
def RX2 : String := "StormBench$Jobs"
def TX2 : u_T := fun k => match k with
  | 0 => ("StormBench$Jobs", "line", "LStormBench$Line;", true)
  | 1 => ("StormBench$Jobs", "number", "[I", true)
  | 2 => ("StormBench$Jobs", "service", "[I", true)
  | 3 => ("StormBench$Jobs", "key", "[I", true)
  | 4 => ("StormBench$Jobs", "state", "[I", true)
  | 5 => ("StormBench$Jobs", "caller", "[I", true)
  | 6 => ("StormBench$Jobs", "child", "[I", true)
  | 7 => ("StormBench$Jobs", "till", "[I", true)
  | 8 => ("StormBench$Jobs", "again", "[I", true)
  | _ => ("StormBench$Jobs", "came", "I", false)
def tyX2 : Nat → FieldType := fun k => match k with
  | 0 => .object "StormBench$Line"
  | 1 => .array .int
  | 2 => .array .int
  | 3 => .array .int
  | 4 => .array .int
  | 5 => .array .int
  | 6 => .array .int
  | 7 => .array .int
  | 8 => .array .int
  | _ => .int
abbrev wsX20 : List Cond := u_ws RX2 TX2 10
theorem nmX2 : ∀ a, a < 10 → ∀ b, b < 10 → a ≠ b → (TX2 a).2.1 ≠ (TX2 b).2.1 := by decide +kernel
theorem tyX2_ok : ∀ k, k < 10 → parseFieldDescriptor (TX2 k).2.2.1 = some (tyX2 k) := by decide +kernel
abbrev cX2_init : ByteArray := prog_4_method_1_code
def yX2_init : MethodName := ⟨RX2, "<init>", "()V"⟩
abbrev cX2_add : ByteArray := prog_4_method_2_code
def yX2_add : MethodName := ⟨RX2, "add", "(III)I"⟩
abbrev cX2_remove : ByteArray := prog_4_method_3_code
def yX2_remove : MethodName := ⟨RX2, "remove", "(I)V"⟩
abbrev cX2_become : ByteArray := prog_4_method_4_code
def yX2_become : MethodName := ⟨RX2, "become", "(III)V"⟩
abbrev cX2_isDue : ByteArray := prog_4_method_5_code
def yX2_isDue : MethodName := ⟨RX2, "isDue", "(III)Z"⟩
abbrev cX2_howMany : ByteArray := prog_4_method_6_code
def yX2_howMany : MethodName := ⟨RX2, "howMany", "(II)I"⟩
abbrev cX2_copyFrom : ByteArray := prog_4_method_7_code
def yX2_copyFrom : MethodName := ⟨RX2, "copyFrom", "(LStormBench$Jobs;)V"⟩
def RX3 : String := "StormBench$Line"
def TX3 : u_T := fun k => match k with
  | 0 => ("StormBench$Line", "before", "[I", true)
  | 1 => ("StormBench$Line", "behind", "[I", true)
  | 2 => ("StormBench$Line", "first", "I", false)
  | 3 => ("StormBench$Line", "last", "I", false)
  | 4 => ("StormBench$Line", "free", "I", false)
  | _ => ("StormBench$Line", "size", "I", false)
def tyX3 : Nat → FieldType := fun k => match k with
  | 0 => .array .int
  | 1 => .array .int
  | 2 => .int
  | 3 => .int
  | 4 => .int
  | _ => .int
abbrev wsX30 : List Cond := u_ws RX3 TX3 6
theorem nmX3 : ∀ a, a < 6 → ∀ b, b < 6 → a ≠ b → (TX3 a).2.1 ≠ (TX3 b).2.1 := by decide +kernel
theorem tyX3_ok : ∀ k, k < 6 → parseFieldDescriptor (TX3 k).2.2.1 = some (tyX3 k) := by decide +kernel
abbrev cX3_init : ByteArray := prog_5_method_1_code
def yX3_init : MethodName := ⟨RX3, "<init>", "(I)V"⟩
abbrev cX3_take : ByteArray := prog_5_method_2_code
def yX3_take : MethodName := ⟨RX3, "take", "()I"⟩
abbrev cX3_giveBack : ByteArray := prog_5_method_3_code
def yX3_giveBack : MethodName := ⟨RX3, "giveBack", "(I)V"⟩
abbrev cX3_placeAt : ByteArray := prog_5_method_4_code
def yX3_placeAt : MethodName := ⟨RX3, "placeAt", "(I)I"⟩
abbrev cX3_copyFrom : ByteArray := prog_5_method_5_code
def yX3_copyFrom : MethodName := ⟨RX3, "copyFrom", "(LStormBench$Line;)V"⟩
def RX4 : String := "StormBench$Regulars"
def TX4 : u_T := fun k => match k with
  | 0 => ("StormBench$Regulars", "keys", "[I", true)
  | 1 => ("StormBench$Regulars", "many", "[I", true)
  | _ => ("StormBench$Regulars", "period", "I", false)
def tyX4 : Nat → FieldType := fun k => match k with
  | 0 => .array .int
  | 1 => .array .int
  | _ => .int
abbrev wsX40 : List Cond := u_ws RX4 TX4 3
theorem nmX4 : ∀ a, a < 3 → ∀ b, b < 3 → a ≠ b → (TX4 a).2.1 ≠ (TX4 b).2.1 := by decide +kernel
theorem tyX4_ok : ∀ k, k < 3 → parseFieldDescriptor (TX4 k).2.2.1 = some (tyX4 k) := by decide +kernel
abbrev cX4_init : ByteArray := prog_6_method_1_code
def yX4_init : MethodName := ⟨RX4, "<init>", "()V"⟩
abbrev cX4_begin : ByteArray := prog_6_method_2_code
def yX4_begin : MethodName := ⟨RX4, "begin", "(I)V"⟩
abbrev cX4_placeOf : ByteArray := prog_6_method_3_code
def yX4_placeOf : MethodName := ⟨RX4, "placeOf", "(I)I"⟩
abbrev cX4_copyFrom : ByteArray := prog_6_method_4_code
def yX4_copyFrom : MethodName := ⟨RX4, "copyFrom", "(LStormBench$Regulars;)V"⟩
def RX5 : String := "StormBench$Service"
def TX5 : u_T := fun k => match k with
  | 0 => ("StormBench$Service", "rules", "[I", true)
  | 1 => ("StormBench$Service", "tallies", "[I", true)
  | 2 => ("StormBench$Service", "keptTill", "[I", true)
  | 3 => ("StormBench$Service", "queue", "[I", true)
  | 4 => ("StormBench$Service", "waiting", "I", false)
  | 5 => ("StormBench$Service", "handsInUse", "I", false)
  | 6 => ("StormBench$Service", "restTill", "I", false)
  | _ => ("StormBench$Service", "failRow", "I", false)
def tyX5 : Nat → FieldType := fun k => match k with
  | 0 => .array .int
  | 1 => .array .int
  | 2 => .array .int
  | 3 => .array .int
  | 4 => .int
  | 5 => .int
  | 6 => .int
  | _ => .int
abbrev wsX50 : List Cond := u_ws RX5 TX5 8
theorem nmX5 : ∀ a, a < 8 → ∀ b, b < 8 → a ≠ b → (TX5 a).2.1 ≠ (TX5 b).2.1 := by decide +kernel
theorem tyX5_ok : ∀ k, k < 8 → parseFieldDescriptor (TX5 k).2.2.1 = some (tyX5 k) := by decide +kernel
abbrev cX5_init : ByteArray := prog_7_method_1_code
def yX5_init : MethodName := ⟨RX5, "<init>", "()V"⟩
abbrev cX5_hasAnswer : ByteArray := prog_7_method_2_code
def yX5_hasAnswer : MethodName := ⟨RX5, "hasAnswer", "(II)Z"⟩
abbrev cX5_rests : ByteArray := prog_7_method_3_code
def yX5_rests : MethodName := ⟨RX5, "rests", "(I)Z"⟩
abbrev cX5_hasFreeHand : ByteArray := prog_7_method_4_code
def yX5_hasFreeHand : MethodName := ⟨RX5, "hasFreeHand", "()Z"⟩
abbrev cX5_addLast : ByteArray := prog_7_method_5_code
def yX5_addLast : MethodName := ⟨RX5, "addLast", "(I)V"⟩
abbrev cX5_takeFirst : ByteArray := prog_7_method_6_code
def yX5_takeFirst : MethodName := ⟨RX5, "takeFirst", "()I"⟩
abbrev cX5_copyFrom : ByteArray := prog_7_method_7_code
def yX5_copyFrom : MethodName := ⟨RX5, "copyFrom", "(LStormBench$Service;)V"⟩
def RX6 : String := "StormBench$Tellings"
def TX6 : u_T := fun k => match k with
  | 0 => ("StormBench$Tellings", "ticks", "[I", true)
  | 1 => ("StormBench$Tellings", "keys", "[I", true)
  | 2 => ("StormBench$Tellings", "many", "[I", true)
  | _ => ("StormBench$Tellings", "size", "I", false)
def tyX6 : Nat → FieldType := fun k => match k with
  | 0 => .array .int
  | 1 => .array .int
  | 2 => .array .int
  | _ => .int
abbrev wsX60 : List Cond := u_ws RX6 TX6 4
theorem nmX6 : ∀ a, a < 4 → ∀ b, b < 4 → a ≠ b → (TX6 a).2.1 ≠ (TX6 b).2.1 := by decide +kernel
theorem tyX6_ok : ∀ k, k < 4 → parseFieldDescriptor (TX6 k).2.2.1 = some (tyX6 k) := by decide +kernel
abbrev cX6_init : ByteArray := prog_8_method_1_code
def yX6_init : MethodName := ⟨RX6, "<init>", "()V"⟩
abbrev cX6_add : ByteArray := prog_8_method_2_code
def yX6_add : MethodName := ⟨RX6, "add", "(III)V"⟩
abbrev cX6_manyFor : ByteArray := prog_8_method_3_code
def yX6_manyFor : MethodName := ⟨RX6, "manyFor", "(II)I"⟩
abbrev cX6_forget : ByteArray := prog_8_method_4_code
def yX6_forget : MethodName := ⟨RX6, "forget", "(I)V"⟩
def RX7 : String := "StormBench"
def TX7 : u_T := fun k => match k with
  | 0 => ("StormBench", "house", "LStormBench$House;", true)
  | 1 => ("StormBench", "trial", "LStormBench$House;", true)
  | _ => ("StormBench", "latestPrice", "I", false)
def tyX7 : Nat → FieldType := fun k => match k with
  | 0 => .object "StormBench$House"
  | 1 => .object "StormBench$House"
  | _ => .int
abbrev wsX70 : List Cond := u_ws RX7 TX7 3
theorem nmX7 : ∀ a, a < 3 → ∀ b, b < 3 → a ≠ b → (TX7 a).2.1 ≠ (TX7 b).2.1 := by decide +kernel
theorem tyX7_ok : ∀ k, k < 3 → parseFieldDescriptor (TX7 k).2.2.1 = some (tyX7 k) := by decide +kernel
abbrev cX7_init : ByteArray := prog_1_method_1_code
def yX7_init : MethodName := ⟨RX7, "<init>", "()V"⟩
abbrev cX7_service : ByteArray := prog_1_method_2_code
def yX7_service : MethodName := ⟨RX7, "service", "(III)I"⟩
abbrev cX7_rule : ByteArray := prog_1_method_3_code
def yX7_rule : MethodName := ⟨RX7, "rule", "(III)I"⟩
abbrev cX7_guests : ByteArray := prog_1_method_4_code
def yX7_guests : MethodName := ⟨RX7, "guests", "(II)I"⟩
abbrev cX7_crowd : ByteArray := prog_1_method_5_code
def yX7_crowd : MethodName := ⟨RX7, "crowd", "(III)I"⟩
abbrev cX7_usual : ByteArray := prog_1_method_6_code
def yX7_usual : MethodName := ⟨RX7, "usual", "(I)I"⟩
abbrev cX7_place : ByteArray := prog_1_method_7_code
def yX7_place : MethodName := ⟨RX7, "place", "(III)I"⟩
abbrev cX7_ticks : ByteArray := prog_1_method_8_code
def yX7_ticks : MethodName := ⟨RX7, "ticks", "(I)I"⟩
abbrev cX7_about : ByteArray := prog_1_method_9_code
def yX7_about : MethodName := ⟨RX7, "about", "(II)I"⟩
abbrev cX7_ruleOf : ByteArray := prog_1_method_10_code
def yX7_ruleOf : MethodName := ⟨RX7, "ruleOf", "(II)I"⟩
abbrev cX7_kept : ByteArray := prog_1_method_11_code
def yX7_kept : MethodName := ⟨RX7, "kept", "(II)I"⟩
abbrev cX7_job : ByteArray := prog_1_method_12_code
def yX7_job : MethodName := ⟨RX7, "job", "(II)I"⟩
abbrev cX7_row : ByteArray := prog_1_method_13_code
def yX7_row : MethodName := ⟨RX7, "row", "(II)I"⟩
abbrev cX7_guest : ByteArray := prog_1_method_14_code
def yX7_guest : MethodName := ⟨RX7, "guest", "(II)I"⟩
abbrev cX7_count : ByteArray := prog_1_method_15_code
def yX7_count : MethodName := ⟨RX7, "count", "(I)I"⟩
abbrev cX7_rest : ByteArray := prog_1_method_16_code
def yX7_rest : MethodName := ⟨RX7, "rest", "(I)I"⟩
abbrev cX7_bears : ByteArray := prog_1_method_17_code
def yX7_bears : MethodName := ⟨RX7, "bears", "(II)I"⟩
abbrev cX7_best : ByteArray := prog_1_method_18_code
def yX7_best : MethodName := ⟨RX7, "best", "(IIII)I"⟩
abbrev cX7_price : ByteArray := prog_1_method_19_code
def yX7_price : MethodName := ⟨RX7, "price", "()I"⟩
abbrev cX7_beginTrial : ByteArray := prog_1_method_20_code
def yX7_beginTrial : MethodName := ⟨RX7, "beginTrial", "(II)V"⟩
abbrev cX7_firstOfRest : ByteArray := prog_1_method_21_code
def yX7_firstOfRest : MethodName := ⟨RX7, "firstOfRest", "(IZ)I"⟩
abbrev cX7_trialPrice : ByteArray := prog_1_method_22_code
def yX7_trialPrice : MethodName := ⟨RX7, "trialPrice", "()I"⟩
abbrev cX7_callerOf : ByteArray := prog_1_method_23_code
def yX7_callerOf : MethodName := ⟨RX7, "callerOf", "(I)I"⟩
abbrev cX7_isService : ByteArray := prog_1_method_24_code
def yX7_isService : MethodName := ⟨RX7, "isService", "(I)Z"⟩
abbrev cX7_isKey : ByteArray := prog_1_method_25_code
def yX7_isKey : MethodName := ⟨RX7, "isKey", "(I)Z"⟩
abbrev cX7_isTriable : ByteArray := prog_1_method_26_code
def yX7_isTriable : MethodName := ⟨RX7, "isTriable", "(I)Z"⟩
abbrev cX7_isRule : ByteArray := prog_1_method_27_code
def yX7_isRule : MethodName := ⟨RX7, "isRule", "(II)Z"⟩
abbrev cX7_within : ByteArray := prog_1_method_28_code
def yX7_within : MethodName := ⟨RX7, "within", "(III)Z"⟩
def RX8 : String := "StormBenchModel$House"
def TX8 : u_T := fun k => match k with
  | 0 => ("StormBenchModel$House", "tick", "I", false)
  | 1 => ("StormBenchModel$House", "restsTo", "[I", true)
  | 2 => ("StormBenchModel$House", "fails", "[I", true)
  | 3 => ("StormBenchModel$House", "told", "[I", true)
  | 4 => ("StormBenchModel$House", "keptTo", "[I", true)
  | 5 => ("StormBenchModel$House", "row", "[I", true)
  | 6 => ("StormBenchModel$House", "rowMany", "[I", true)
  | 7 => ("StormBenchModel$House", "number", "[I", true)
  | 8 => ("StormBenchModel$House", "service", "[I", true)
  | 9 => ("StormBenchModel$House", "key", "[I", true)
  | 10 => ("StormBenchModel$House", "state", "[I", true)
  | 11 => ("StormBenchModel$House", "caller", "[I", true)
  | 12 => ("StormBenchModel$House", "till", "[I", true)
  | 13 => ("StormBenchModel$House", "again", "[I", true)
  | 14 => ("StormBenchModel$House", "asksBy", "[I", true)
  | 15 => ("StormBenchModel$House", "jobs", "I", false)
  | 16 => ("StormBenchModel$House", "numbers", "I", false)
  | 17 => ("StormBenchModel$House", "guestKey", "[I", true)
  | 18 => ("StormBenchModel$House", "guestJob", "[I", true)
  | 19 => ("StormBenchModel$House", "guestDeadline", "[I", true)
  | 20 => ("StormBenchModel$House", "guestAgain", "[I", true)
  | 21 => ("StormBenchModel$House", "guestNumber", "[I", true)
  | 22 => ("StormBenchModel$House", "guests", "I", false)
  | 23 => ("StormBenchModel$House", "came", "I", false)
  | 24 => ("StormBenchModel$House", "served", "I", false)
  | 25 => ("StormBenchModel$House", "lost", "I", false)
  | 26 => ("StormBenchModel$House", "askedAgain", "I", false)
  | 27 => ("StormBenchModel$House", "forNobody", "I", false)
  | _ => ("StormBenchModel$House", "isStill", "Z", false)
def tyX8 : Nat → FieldType := fun k => match k with
  | 0 => .int
  | 1 => .array .int
  | 2 => .array .int
  | 3 => .array .int
  | 4 => .array .int
  | 5 => .array .int
  | 6 => .array .int
  | 7 => .array .int
  | 8 => .array .int
  | 9 => .array .int
  | 10 => .array .int
  | 11 => .array .int
  | 12 => .array .int
  | 13 => .array .int
  | 14 => .array .int
  | 15 => .int
  | 16 => .int
  | 17 => .array .int
  | 18 => .array .int
  | 19 => .array .int
  | 20 => .array .int
  | 21 => .array .int
  | 22 => .int
  | 23 => .int
  | 24 => .int
  | 25 => .int
  | 26 => .int
  | 27 => .int
  | _ => .boolean
abbrev wsX80 : List Cond := u_ws RX8 TX8 29
theorem nmX8 : ∀ a, a < 29 → ∀ b, b < 29 → a ≠ b → (TX8 a).2.1 ≠ (TX8 b).2.1 := by decide +kernel
theorem tyX8_ok : ∀ k, k < 29 → parseFieldDescriptor (TX8 k).2.2.1 = some (tyX8 k) := by decide +kernel
abbrev cX8_init : ByteArray := prog_11_method_1_code
def yX8_init : MethodName := ⟨RX8, "<init>", "()V"⟩
abbrev cX8_copy : ByteArray := prog_11_method_2_code
def yX8_copy : MethodName := ⟨RX8, "copy", "(LStormBenchModel$House;)V"⟩
def RX9 : String := "StormBenchModel"
def TX9 : u_T := fun k => match k with
  | 0 => ("StormBenchModel", "rules", "[I", true)
  | 1 => ("StormBenchModel", "room", "[I", true)
  | 2 => ("StormBenchModel", "services", "I", false)
  | 3 => ("StormBenchModel", "patience", "I", false)
  | 4 => ("StormBenchModel", "guestsAgain", "I", false)
  | 5 => ("StormBenchModel", "tellTick", "[I", true)
  | 6 => ("StormBenchModel", "tellKey", "[I", true)
  | 7 => ("StormBenchModel", "tellMany", "[I", true)
  | 8 => ("StormBenchModel", "tellings", "I", false)
  | 9 => ("StormBenchModel", "period", "I", false)
  | 10 => ("StormBenchModel", "usualKey", "[I", true)
  | 11 => ("StormBenchModel", "usualMany", "[I", true)
  | 12 => ("StormBenchModel", "h", "LStormBenchModel$House;", true)
  | 13 => ("StormBenchModel", "kept", "LStormBenchModel$House;", true)
  | 14 => ("StormBenchModel", "isTried", "Z", false)
  | 15 => ("StormBenchModel", "moreKey", "I", false)
  | 16 => ("StormBenchModel", "moreMany", "I", false)
  | 17 => ("StormBenchModel", "price", "I", false)
  | 18 => ("StormBenchModel", "meant", "[I", true)
  | 19 => ("StormBenchModel", "meantMany", "I", false)
  | 20 => ("StormBenchModel", "meantGuests", "[I", true)
  | _ => ("StormBenchModel", "triedPrice", "I", false)
def tyX9 : Nat → FieldType := fun k => match k with
  | 0 => .array .int
  | 1 => .array .int
  | 2 => .int
  | 3 => .int
  | 4 => .int
  | 5 => .array .int
  | 6 => .array .int
  | 7 => .array .int
  | 8 => .int
  | 9 => .int
  | 10 => .array .int
  | 11 => .array .int
  | 12 => .object "StormBenchModel$House"
  | 13 => .object "StormBenchModel$House"
  | 14 => .boolean
  | 15 => .int
  | 16 => .int
  | 17 => .int
  | 18 => .array .int
  | 19 => .int
  | 20 => .array .int
  | _ => .int
abbrev wsX90 : List Cond := u_ws RX9 TX9 22
theorem nmX9 : ∀ a, a < 22 → ∀ b, b < 22 → a ≠ b → (TX9 a).2.1 ≠ (TX9 b).2.1 := by decide +kernel
theorem tyX9_ok : ∀ k, k < 22 → parseFieldDescriptor (TX9 k).2.2.1 = some (tyX9 k) := by decide +kernel
abbrev cX9_init : ByteArray := prog_10_method_1_code
def yX9_init : MethodName := ⟨RX9, "<init>", "()V"⟩
abbrev cX9_within : ByteArray := prog_10_method_2_code
def yX9_within : MethodName := ⟨RX9, "within", "(III)Z"⟩
abbrev cX9_isService : ByteArray := prog_10_method_3_code
def yX9_isService : MethodName := ⟨RX9, "isService", "(I)Z"⟩
abbrev cX9_isKey : ByteArray := prog_10_method_4_code
def yX9_isKey : MethodName := ⟨RX9, "isKey", "(I)Z"⟩
abbrev cX9_ruled : ByteArray := prog_10_method_5_code
def yX9_ruled : MethodName := ⟨RX9, "ruled", "(II)I"⟩
abbrev cX9_service : ByteArray := prog_10_method_6_code
def yX9_service : MethodName := ⟨RX9, "service", "(III)I"⟩
abbrev cX9_isRule : ByteArray := prog_10_method_7_code
def yX9_isRule : MethodName := ⟨RX9, "isRule", "(II)Z"⟩
abbrev cX9_rule : ByteArray := prog_10_method_8_code
def yX9_rule : MethodName := ⟨RX9, "rule", "(III)I"⟩
abbrev cX9_guests : ByteArray := prog_10_method_9_code
def yX9_guests : MethodName := ⟨RX9, "guests", "(II)I"⟩
abbrev cX9_crowd : ByteArray := prog_10_method_10_code
def yX9_crowd : MethodName := ⟨RX9, "crowd", "(III)I"⟩
abbrev cX9_usual : ByteArray := prog_10_method_11_code
def yX9_usual : MethodName := ⟨RX9, "usual", "(I)I"⟩
abbrev cX9_place : ByteArray := prog_10_method_12_code
def yX9_place : MethodName := ⟨RX9, "place", "(III)I"⟩
abbrev cX9_placeOf : ByteArray := prog_10_method_13_code
def yX9_placeOf : MethodName := ⟨RX9, "placeOf", "(I)I"⟩
abbrev cX9_guestOf : ByteArray := prog_10_method_14_code
def yX9_guestOf : MethodName := ⟨RX9, "guestOf", "(I)I"⟩
abbrev cX9_add : ByteArray := prog_10_method_15_code
def yX9_add : MethodName := ⟨RX9, "add", "(II)V"⟩
abbrev cX9_handsInUse : ByteArray := prog_10_method_16_code
def yX9_handsInUse : MethodName := ⟨RX9, "handsInUse", "(I)I"⟩
abbrev cX9_takeOut : ByteArray := prog_10_method_17_code
def yX9_takeOut : MethodName := ⟨RX9, "takeOut", "(I)V"⟩
abbrev cX9_begin : ByteArray := prog_10_method_18_code
def yX9_begin : MethodName := ⟨RX9, "begin", "(I)V"⟩
abbrev cX9_leaveRow : ByteArray := prog_10_method_19_code
def yX9_leaveRow : MethodName := ⟨RX9, "leaveRow", "(I)V"⟩
abbrev cX9_comes : ByteArray := prog_10_method_20_code
def yX9_comes : MethodName := ⟨RX9, "comes", "(IIII)I"⟩
abbrev cX9_refuse : ByteArray := prog_10_method_21_code
def yX9_refuse : MethodName := ⟨RX9, "refuse", "(I)V"⟩
abbrev cX9_tell : ByteArray := prog_10_method_22_code
def yX9_tell : MethodName := ⟨RX9, "tell", "(IIZ)Z"⟩
abbrev cX9_answerGuest : ByteArray := prog_10_method_23_code
def yX9_answerGuest : MethodName := ⟨RX9, "answerGuest", "(IZ)V"⟩
abbrev cX9_guestGoes : ByteArray := prog_10_method_24_code
def yX9_guestGoes : MethodName := ⟨RX9, "guestGoes", "(I)V"⟩
abbrev cX9_over : ByteArray := prog_10_method_25_code
def yX9_over : MethodName := ⟨RX9, "over", "(IZ)V"⟩
abbrev cX9_answered : ByteArray := prog_10_method_26_code
def yX9_answered : MethodName := ⟨RX9, "answered", "(IZ)V"⟩
abbrev cX9_fail : ByteArray := prog_10_method_27_code
def yX9_fail : MethodName := ⟨RX9, "fail", "(I)V"⟩
abbrev cX9_rests : ByteArray := prog_10_method_28_code
def yX9_rests : MethodName := ⟨RX9, "rests", "(I)Z"⟩
abbrev cX9_ask : ByteArray := prog_10_method_29_code
def yX9_ask : MethodName := ⟨RX9, "ask", "(I)V"⟩
abbrev cX9_guestAsks : ByteArray := prog_10_method_30_code
def yX9_guestAsks : MethodName := ⟨RX9, "guestAsks", "(I)V"⟩
abbrev cX9_guestComes : ByteArray := prog_10_method_31_code
def yX9_guestComes : MethodName := ⟨RX9, "guestComes", "(I)V"⟩
abbrev cX9_mean : ByteArray := prog_10_method_32_code
def yX9_mean : MethodName := ⟨RX9, "mean", "(I)V"⟩
abbrev cX9_isSo : ByteArray := prog_10_method_33_code
def yX9_isSo : MethodName := ⟨RX9, "isSo", "(II)Z"⟩
abbrev cX9_workEnds : ByteArray := prog_10_method_34_code
def yX9_workEnds : MethodName := ⟨RX9, "workEnds", "()V"⟩
abbrev cX9_pausesEnd : ByteArray := prog_10_method_35_code
def yX9_pausesEnd : MethodName := ⟨RX9, "pausesEnd", "()V"⟩
abbrev cX9_deadlines : ByteArray := prog_10_method_36_code
def yX9_deadlines : MethodName := ⟨RX9, "deadlines", "()V"⟩
abbrev cX9_guestDeadlines : ByteArray := prog_10_method_37_code
def yX9_guestDeadlines : MethodName := ⟨RX9, "guestDeadlines", "()V"⟩
abbrev cX9_handsTake : ByteArray := prog_10_method_38_code
def yX9_handsTake : MethodName := ⟨RX9, "handsTake", "()V"⟩
abbrev cX9_guestsCome : ByteArray := prog_10_method_39_code
def yX9_guestsCome : MethodName := ⟨RX9, "guestsCome", "()V"⟩
abbrev cX9_oneTick : ByteArray := prog_10_method_40_code
def yX9_oneTick : MethodName := ⟨RX9, "oneTick", "()V"⟩
abbrev cX9_ticks : ByteArray := prog_10_method_41_code
def yX9_ticks : MethodName := ⟨RX9, "ticks", "(I)I"⟩
abbrev cX9_about : ByteArray := prog_10_method_42_code
def yX9_about : MethodName := ⟨RX9, "about", "(II)I"⟩
abbrev cX9_ruleOf : ByteArray := prog_10_method_43_code
def yX9_ruleOf : MethodName := ⟨RX9, "ruleOf", "(II)I"⟩
abbrev cX9_kept : ByteArray := prog_10_method_44_code
def yX9_kept : MethodName := ⟨RX9, "kept", "(II)I"⟩
abbrev cX9_callerOf : ByteArray := prog_10_method_45_code
def yX9_callerOf : MethodName := ⟨RX9, "callerOf", "(I)I"⟩
abbrev cX9_job : ByteArray := prog_10_method_46_code
def yX9_job : MethodName := ⟨RX9, "job", "(II)I"⟩
abbrev cX9_row : ByteArray := prog_10_method_47_code
def yX9_row : MethodName := ⟨RX9, "row", "(II)I"⟩
abbrev cX9_guest : ByteArray := prog_10_method_48_code
def yX9_guest : MethodName := ⟨RX9, "guest", "(II)I"⟩
abbrev cX9_count : ByteArray := prog_10_method_49_code
def yX9_count : MethodName := ⟨RX9, "count", "(I)I"⟩
abbrev cX9_tried : ByteArray := prog_10_method_50_code
def yX9_tried : MethodName := ⟨RX9, "tried", "(IIIZ)I"⟩
abbrev cX9_rest : ByteArray := prog_10_method_51_code
def yX9_rest : MethodName := ⟨RX9, "rest", "(I)I"⟩
abbrev cX9_bears : ByteArray := prog_10_method_52_code
def yX9_bears : MethodName := ⟨RX9, "bears", "(II)I"⟩
abbrev cX9_best : ByteArray := prog_10_method_53_code
def yX9_best : MethodName := ⟨RX9, "best", "(IIII)I"⟩
abbrev cX9_price : ByteArray := prog_10_method_54_code
def yX9_price : MethodName := ⟨RX9, "price", "()I"⟩
def RJ9 : String := "java/lang/Math"
abbrev cJ9_floorMod_7cf53 : ByteArray := prog_12_method_50_code
def yJ9_floorMod_7cf53 : MethodName := ⟨RJ9, "floorMod", "(II)I"⟩
abbrev cJ9_max_7cf53 : ByteArray := prog_12_method_65_code
def yJ9_max_7cf53 : MethodName := ⟨RJ9, "max", "(II)I"⟩
abbrev cJ9_min_7cf53 : ByteArray := prog_12_method_69_code
def yJ9_min_7cf53 : MethodName := ⟨RJ9, "min", "(II)I"⟩
def RJ10 : String := "java/lang/System"
def RJ7 : String := "java/util/Arrays"
abbrev cJ7_fill_53178 : ByteArray := prog_14_method_103_code
def yJ7_fill_53178 : MethodName := ⟨RJ7, "fill", "([II)V"⟩
set_option maxRecDepth 20000 in
theorem inX0 : ∀ w ∈ wsX00, w ∈ lw_tbl := by
  intro w hw
  have h : wsX00 = ([215, 217, 219, 221, 223, 225, 227, 229, 231, 233, 235] : List Nat).filterMap (fun i => lw_tbl[i]?) := by decide +kernel
  rw [h] at hw
  obtain ⟨i, -, hi⟩ := List.mem_filterMap.mp hw
  exact List.mem_of_getElem? hi
set_option maxRecDepth 20000 in
theorem inX1 : ∀ w ∈ wsX10, w ∈ lw_tbl := by
  intro w hw
  have h : wsX10 = ([355, 357, 359, 361, 363, 365, 367, 369, 371, 373, 375, 377, 379] : List Nat).filterMap (fun i => lw_tbl[i]?) := by decide +kernel
  rw [h] at hw
  obtain ⟨i, -, hi⟩ := List.mem_filterMap.mp hw
  exact List.mem_of_getElem? hi
set_option maxRecDepth 20000 in
theorem inX2 : ∀ w ∈ wsX20, w ∈ lw_tbl := by
  intro w hw
  have h : wsX20 = ([153, 155, 157, 159, 161, 163, 165, 167, 169, 171] : List Nat).filterMap (fun i => lw_tbl[i]?) := by decide +kernel
  rw [h] at hw
  obtain ⟨i, -, hi⟩ := List.mem_filterMap.mp hw
  exact List.mem_of_getElem? hi
set_option maxRecDepth 20000 in
theorem inX3 : ∀ w ∈ wsX30, w ∈ lw_tbl := by
  intro w hw
  have h : wsX30 = ([113, 115, 117, 119, 121, 123] : List Nat).filterMap (fun i => lw_tbl[i]?) := by decide +kernel
  rw [h] at hw
  obtain ⟨i, -, hi⟩ := List.mem_filterMap.mp hw
  exact List.mem_of_getElem? hi
set_option maxRecDepth 20000 in
theorem inX4 : ∀ w ∈ wsX40, w ∈ lw_tbl := by
  intro w hw
  have h : wsX40 = ([274, 276, 278] : List Nat).filterMap (fun i => lw_tbl[i]?) := by decide +kernel
  rw [h] at hw
  obtain ⟨i, -, hi⟩ := List.mem_filterMap.mp hw
  exact List.mem_of_getElem? hi
set_option maxRecDepth 20000 in
theorem inX5 : ∀ w ∈ wsX50, w ∈ lw_tbl := by
  intro w hw
  have h : wsX50 = ([316, 318, 320, 322, 324, 326, 328, 330] : List Nat).filterMap (fun i => lw_tbl[i]?) := by decide +kernel
  rw [h] at hw
  obtain ⟨i, -, hi⟩ := List.mem_filterMap.mp hw
  exact List.mem_of_getElem? hi
set_option maxRecDepth 20000 in
theorem inX6 : ∀ w ∈ wsX60, w ∈ lw_tbl := by
  intro w hw
  have h : wsX60 = ([251, 253, 255, 257] : List Nat).filterMap (fun i => lw_tbl[i]?) := by decide +kernel
  rw [h] at hw
  obtain ⟨i, -, hi⟩ := List.mem_filterMap.mp hw
  exact List.mem_of_getElem? hi
set_option maxRecDepth 20000 in
theorem inX7 : ∀ w ∈ wsX70, w ∈ lw_tbl := by
  intro w hw
  have h : wsX70 = ([385, 387, 389] : List Nat).filterMap (fun i => lw_tbl[i]?) := by decide +kernel
  rw [h] at hw
  obtain ⟨i, -, hi⟩ := List.mem_filterMap.mp hw
  exact List.mem_of_getElem? hi
set_option maxRecDepth 20000 in
theorem inX8 : ∀ w ∈ wsX80, w ∈ lw_tbl := by
  intro w hw
  have h : wsX80 = ([771, 773, 775, 777, 779, 781, 783, 785, 787, 789, 791, 793, 795, 797, 799, 801, 803, 805, 807, 809, 811, 813, 815, 817, 819, 821, 823, 825, 827] : List Nat).filterMap (fun i => lw_tbl[i]?) := by decide +kernel
  rw [h] at hw
  obtain ⟨i, -, hi⟩ := List.mem_filterMap.mp hw
  exact List.mem_of_getElem? hi
set_option maxRecDepth 20000 in
theorem inX9 : ∀ w ∈ wsX90, w ∈ lw_tbl := by
  intro w hw
  have h : wsX90 = ([852, 854, 856, 858, 860, 862, 864, 866, 868, 870, 872, 874, 876, 878, 880, 882, 884, 886, 888, 890, 892, 894] : List Nat).filterMap (fun i => lw_tbl[i]?) := by decide +kernel
  rw [h] at hw
  obtain ⟨i, -, hi⟩ := List.mem_filterMap.mp hw
  exact List.mem_of_getElem? hi
end
section
/-! decode rows (given text) -/
theorem dX0_init_0 : decode cX0_init 0 = .ok (.aload_n 0, 1) := by decide +kernel
theorem dX0_init_1 : decode cX0_init 1 = .ok (.invokespecial 3, 3) := by decide +kernel
theorem dX0_init_4 : decode cX0_init 4 = .ok (.aload_n 0, 1) := by decide +kernel
theorem dX0_init_5 : decode cX0_init 5 = .ok (.new 9, 3) := by decide +kernel
theorem dX0_init_8 : decode cX0_init 8 = .ok (.dup, 1) := by decide +kernel
theorem dX0_init_9 : decode cX0_init 9 = .ok (.bipush 100, 2) := by decide +kernel
theorem dX0_init_11 : decode cX0_init 11 = .ok (.invokespecial 11, 3) := by decide +kernel
theorem dX0_init_14 : decode cX0_init 14 = .ok (.putfield 14, 3) := by decide +kernel
theorem dX0_init_17 : decode cX0_init 17 = .ok (.aload_n 0, 1) := by decide +kernel
theorem dX0_init_18 : decode cX0_init 18 = .ok (.bipush 100, 2) := by decide +kernel
theorem dX0_init_20 : decode cX0_init 20 = .ok (.newarray .int, 2) := by decide +kernel
theorem dX0_init_22 : decode cX0_init 22 = .ok (.putfield 20, 3) := by decide +kernel
theorem dX0_init_25 : decode cX0_init 25 = .ok (.aload_n 0, 1) := by decide +kernel
theorem dX0_init_26 : decode cX0_init 26 = .ok (.bipush 100, 2) := by decide +kernel
theorem dX0_init_28 : decode cX0_init 28 = .ok (.newarray .int, 2) := by decide +kernel
theorem dX0_init_30 : decode cX0_init 30 = .ok (.putfield 24, 3) := by decide +kernel
theorem dX0_init_33 : decode cX0_init 33 = .ok (.aload_n 0, 1) := by decide +kernel
theorem dX0_init_34 : decode cX0_init 34 = .ok (.bipush 100, 2) := by decide +kernel
theorem dX0_init_36 : decode cX0_init 36 = .ok (.newarray .int, 2) := by decide +kernel
theorem dX0_init_38 : decode cX0_init 38 = .ok (.putfield 27, 3) := by decide +kernel
theorem dX0_init_41 : decode cX0_init 41 = .ok (.aload_n 0, 1) := by decide +kernel
theorem dX0_init_42 : decode cX0_init 42 = .ok (.bipush 100, 2) := by decide +kernel
theorem dX0_init_44 : decode cX0_init 44 = .ok (.newarray .int, 2) := by decide +kernel
theorem dX0_init_46 : decode cX0_init 46 = .ok (.putfield 30, 3) := by decide +kernel
theorem dX0_init_49 : decode cX0_init 49 = .ok (.aload_n 0, 1) := by decide +kernel
theorem dX0_init_50 : decode cX0_init 50 = .ok (.bipush 20, 2) := by decide +kernel
theorem dX0_init_52 : decode cX0_init 52 = .ok (.putfield 33, 3) := by decide +kernel
theorem dX0_init_55 : decode cX0_init 55 = .ok (.aload_n 0, 1) := by decide +kernel
theorem dX0_init_56 : decode cX0_init 56 = .ok (.iconst 0, 1) := by decide +kernel
theorem dX0_init_57 : decode cX0_init 57 = .ok (.putfield 37, 3) := by decide +kernel
theorem dX0_init_60 : decode cX0_init 60 = .ok (.aload_n 0, 1) := by decide +kernel
theorem dX0_init_61 : decode cX0_init 61 = .ok (.iconst 0, 1) := by decide +kernel
theorem dX0_init_62 : decode cX0_init 62 = .ok (.putfield 40, 3) := by decide +kernel
theorem dX0_init_65 : decode cX0_init 65 = .ok (.aload_n 0, 1) := by decide +kernel
theorem dX0_init_66 : decode cX0_init 66 = .ok (.iconst 0, 1) := by decide +kernel
theorem dX0_init_67 : decode cX0_init 67 = .ok (.putfield 43, 3) := by decide +kernel
theorem dX0_init_70 : decode cX0_init 70 = .ok (.aload_n 0, 1) := by decide +kernel
theorem dX0_init_71 : decode cX0_init 71 = .ok (.iconst 0, 1) := by decide +kernel
theorem dX0_init_72 : decode cX0_init 72 = .ok (.putfield 46, 3) := by decide +kernel
theorem dX0_init_75 : decode cX0_init 75 = .ok (.aload_n 0, 1) := by decide +kernel
theorem dX0_init_76 : decode cX0_init 76 = .ok (.iconst 0, 1) := by decide +kernel
theorem dX0_init_77 : decode cX0_init 77 = .ok (.putfield 49, 3) := by decide +kernel
theorem dX0_init_80 : decode cX0_init 80 = .ok (.return_, 1) := by decide +kernel
theorem dX0_add_0 : decode cX0_add 0 = .ok (.aload_n 0, 1) := by decide +kernel
theorem dX0_add_1 : decode cX0_add 1 = .ok (.getfield 14, 3) := by decide +kernel
theorem dX0_add_4 : decode cX0_add 4 = .ok (.invokevirtual 52, 3) := by decide +kernel
theorem dX0_add_7 : decode cX0_add 7 = .ok (.istore_n 2, 1) := by decide +kernel
theorem dX0_add_8 : decode cX0_add 8 = .ok (.iload_n 2, 1) := by decide +kernel
theorem dX0_add_9 : decode cX0_add 9 = .ok (.iconst (-1), 1) := by decide +kernel
theorem dX0_add_10 : decode cX0_add 10 = .ok (.if_icmp .ne 5, 3) := by decide +kernel
theorem dX0_add_13 : decode cX0_add 13 = .ok (.iconst (-1), 1) := by decide +kernel
theorem dX0_add_14 : decode cX0_add 14 = .ok (.ireturn, 1) := by decide +kernel
theorem dX0_add_15 : decode cX0_add 15 = .ok (.aload_n 0, 1) := by decide +kernel
theorem dX0_add_16 : decode cX0_add 16 = .ok (.getfield 20, 3) := by decide +kernel
theorem dX0_add_19 : decode cX0_add 19 = .ok (.iload_n 2, 1) := by decide +kernel
theorem dX0_add_20 : decode cX0_add 20 = .ok (.iload_n 1, 1) := by decide +kernel
theorem dX0_add_21 : decode cX0_add 21 = .ok (.iastore, 1) := by decide +kernel
theorem dX0_add_22 : decode cX0_add 22 = .ok (.aload_n 0, 1) := by decide +kernel
theorem dX0_add_23 : decode cX0_add 23 = .ok (.getfield 24, 3) := by decide +kernel
theorem dX0_add_26 : decode cX0_add 26 = .ok (.iload_n 2, 1) := by decide +kernel
theorem dX0_add_27 : decode cX0_add 27 = .ok (.iconst (-1), 1) := by decide +kernel
theorem dX0_add_28 : decode cX0_add 28 = .ok (.iastore, 1) := by decide +kernel
theorem dX0_add_29 : decode cX0_add 29 = .ok (.aload_n 0, 1) := by decide +kernel
theorem dX0_add_30 : decode cX0_add 30 = .ok (.getfield 30, 3) := by decide +kernel
theorem dX0_add_33 : decode cX0_add 33 = .ok (.iload_n 2, 1) := by decide +kernel
theorem dX0_add_34 : decode cX0_add 34 = .ok (.iconst 0, 1) := by decide +kernel
theorem dX0_add_35 : decode cX0_add 35 = .ok (.iastore, 1) := by decide +kernel
theorem dX0_add_36 : decode cX0_add 36 = .ok (.iload_n 2, 1) := by decide +kernel
theorem dX0_add_37 : decode cX0_add 37 = .ok (.ireturn, 1) := by decide +kernel
theorem dX0_copyFrom_0 : decode cX0_copyFrom 0 = .ok (.aload_n 0, 1) := by decide +kernel
theorem dX0_copyFrom_1 : decode cX0_copyFrom 1 = .ok (.getfield 14, 3) := by decide +kernel
theorem dX0_copyFrom_4 : decode cX0_copyFrom 4 = .ok (.aload_n 1, 1) := by decide +kernel
theorem dX0_copyFrom_5 : decode cX0_copyFrom 5 = .ok (.getfield 14, 3) := by decide +kernel
theorem dX0_copyFrom_8 : decode cX0_copyFrom 8 = .ok (.invokevirtual 56, 3) := by decide +kernel
theorem dX0_copyFrom_11 : decode cX0_copyFrom 11 = .ok (.aload_n 1, 1) := by decide +kernel
theorem dX0_copyFrom_12 : decode cX0_copyFrom 12 = .ok (.getfield 20, 3) := by decide +kernel
theorem dX0_copyFrom_15 : decode cX0_copyFrom 15 = .ok (.iconst 0, 1) := by decide +kernel
theorem dX0_copyFrom_16 : decode cX0_copyFrom 16 = .ok (.aload_n 0, 1) := by decide +kernel
theorem dX0_copyFrom_17 : decode cX0_copyFrom 17 = .ok (.getfield 20, 3) := by decide +kernel
theorem dX0_copyFrom_20 : decode cX0_copyFrom 20 = .ok (.iconst 0, 1) := by decide +kernel
theorem dX0_copyFrom_21 : decode cX0_copyFrom 21 = .ok (.bipush 100, 2) := by decide +kernel
theorem dX0_copyFrom_23 : decode cX0_copyFrom 23 = .ok (.invokestatic 60, 3) := by decide +kernel
theorem dX0_copyFrom_26 : decode cX0_copyFrom 26 = .ok (.aload_n 1, 1) := by decide +kernel
theorem dX0_copyFrom_27 : decode cX0_copyFrom 27 = .ok (.getfield 24, 3) := by decide +kernel
theorem dX0_copyFrom_30 : decode cX0_copyFrom 30 = .ok (.iconst 0, 1) := by decide +kernel
theorem dX0_copyFrom_31 : decode cX0_copyFrom 31 = .ok (.aload_n 0, 1) := by decide +kernel
theorem dX0_copyFrom_32 : decode cX0_copyFrom 32 = .ok (.getfield 24, 3) := by decide +kernel
theorem dX0_copyFrom_35 : decode cX0_copyFrom 35 = .ok (.iconst 0, 1) := by decide +kernel
theorem dX0_copyFrom_36 : decode cX0_copyFrom 36 = .ok (.bipush 100, 2) := by decide +kernel
theorem dX0_copyFrom_38 : decode cX0_copyFrom 38 = .ok (.invokestatic 60, 3) := by decide +kernel
theorem dX0_copyFrom_41 : decode cX0_copyFrom 41 = .ok (.aload_n 1, 1) := by decide +kernel
theorem dX0_copyFrom_42 : decode cX0_copyFrom 42 = .ok (.getfield 27, 3) := by decide +kernel
theorem dX0_copyFrom_45 : decode cX0_copyFrom 45 = .ok (.iconst 0, 1) := by decide +kernel
theorem dX0_copyFrom_46 : decode cX0_copyFrom 46 = .ok (.aload_n 0, 1) := by decide +kernel
theorem dX0_copyFrom_47 : decode cX0_copyFrom 47 = .ok (.getfield 27, 3) := by decide +kernel
theorem dX0_copyFrom_50 : decode cX0_copyFrom 50 = .ok (.iconst 0, 1) := by decide +kernel
theorem dX0_copyFrom_51 : decode cX0_copyFrom 51 = .ok (.bipush 100, 2) := by decide +kernel
theorem dX0_copyFrom_53 : decode cX0_copyFrom 53 = .ok (.invokestatic 60, 3) := by decide +kernel
theorem dX0_copyFrom_56 : decode cX0_copyFrom 56 = .ok (.aload_n 1, 1) := by decide +kernel
theorem dX0_copyFrom_57 : decode cX0_copyFrom 57 = .ok (.getfield 30, 3) := by decide +kernel
theorem dX0_copyFrom_60 : decode cX0_copyFrom 60 = .ok (.iconst 0, 1) := by decide +kernel
theorem dX0_copyFrom_61 : decode cX0_copyFrom 61 = .ok (.aload_n 0, 1) := by decide +kernel
theorem dX0_copyFrom_62 : decode cX0_copyFrom 62 = .ok (.getfield 30, 3) := by decide +kernel
theorem dX0_copyFrom_65 : decode cX0_copyFrom 65 = .ok (.iconst 0, 1) := by decide +kernel
theorem dX0_copyFrom_66 : decode cX0_copyFrom 66 = .ok (.bipush 100, 2) := by decide +kernel
theorem dX0_copyFrom_68 : decode cX0_copyFrom 68 = .ok (.invokestatic 60, 3) := by decide +kernel
theorem dX0_copyFrom_71 : decode cX0_copyFrom 71 = .ok (.aload_n 0, 1) := by decide +kernel
theorem dX0_copyFrom_72 : decode cX0_copyFrom 72 = .ok (.aload_n 1, 1) := by decide +kernel
theorem dX0_copyFrom_73 : decode cX0_copyFrom 73 = .ok (.getfield 33, 3) := by decide +kernel
theorem dX0_copyFrom_76 : decode cX0_copyFrom 76 = .ok (.putfield 33, 3) := by decide +kernel
theorem dX0_copyFrom_79 : decode cX0_copyFrom 79 = .ok (.aload_n 0, 1) := by decide +kernel
theorem dX0_copyFrom_80 : decode cX0_copyFrom 80 = .ok (.aload_n 1, 1) := by decide +kernel
theorem dX0_copyFrom_81 : decode cX0_copyFrom 81 = .ok (.getfield 37, 3) := by decide +kernel
theorem dX0_copyFrom_84 : decode cX0_copyFrom 84 = .ok (.putfield 37, 3) := by decide +kernel
theorem dX0_copyFrom_87 : decode cX0_copyFrom 87 = .ok (.aload_n 0, 1) := by decide +kernel
theorem dX0_copyFrom_88 : decode cX0_copyFrom 88 = .ok (.aload_n 1, 1) := by decide +kernel
theorem dX0_copyFrom_89 : decode cX0_copyFrom 89 = .ok (.getfield 40, 3) := by decide +kernel
theorem dX0_copyFrom_92 : decode cX0_copyFrom 92 = .ok (.putfield 40, 3) := by decide +kernel
theorem dX0_copyFrom_95 : decode cX0_copyFrom 95 = .ok (.aload_n 0, 1) := by decide +kernel
theorem dX0_copyFrom_96 : decode cX0_copyFrom 96 = .ok (.aload_n 1, 1) := by decide +kernel
theorem dX0_copyFrom_97 : decode cX0_copyFrom 97 = .ok (.getfield 43, 3) := by decide +kernel
theorem dX0_copyFrom_100 : decode cX0_copyFrom 100 = .ok (.putfield 43, 3) := by decide +kernel
theorem dX0_copyFrom_103 : decode cX0_copyFrom 103 = .ok (.aload_n 0, 1) := by decide +kernel
theorem dX0_copyFrom_104 : decode cX0_copyFrom 104 = .ok (.aload_n 1, 1) := by decide +kernel
theorem dX0_copyFrom_105 : decode cX0_copyFrom 105 = .ok (.getfield 46, 3) := by decide +kernel
theorem dX0_copyFrom_108 : decode cX0_copyFrom 108 = .ok (.putfield 46, 3) := by decide +kernel
theorem dX0_copyFrom_111 : decode cX0_copyFrom 111 = .ok (.aload_n 0, 1) := by decide +kernel
theorem dX0_copyFrom_112 : decode cX0_copyFrom 112 = .ok (.aload_n 1, 1) := by decide +kernel
theorem dX0_copyFrom_113 : decode cX0_copyFrom 113 = .ok (.getfield 49, 3) := by decide +kernel
theorem dX0_copyFrom_116 : decode cX0_copyFrom 116 = .ok (.putfield 49, 3) := by decide +kernel
theorem dX0_copyFrom_119 : decode cX0_copyFrom 119 = .ok (.return_, 1) := by decide +kernel
theorem dX1_init_0 : decode cX1_init 0 = .ok (.aload_n 0, 1) := by decide +kernel
theorem dX1_init_1 : decode cX1_init 1 = .ok (.invokespecial 3, 3) := by decide +kernel
theorem dX1_init_4 : decode cX1_init 4 = .ok (.aload_n 0, 1) := by decide +kernel
theorem dX1_init_5 : decode cX1_init 5 = .ok (.bipush 6, 2) := by decide +kernel
theorem dX1_init_7 : decode cX1_init 7 = .ok (.anewarray 9, 3) := by decide +kernel
theorem dX1_init_10 : decode cX1_init 10 = .ok (.putfield 11, 3) := by decide +kernel
theorem dX1_init_13 : decode cX1_init 13 = .ok (.aload_n 0, 1) := by decide +kernel
theorem dX1_init_14 : decode cX1_init 14 = .ok (.iconst 0, 1) := by decide +kernel
theorem dX1_init_15 : decode cX1_init 15 = .ok (.putfield 17, 3) := by decide +kernel
theorem dX1_init_18 : decode cX1_init 18 = .ok (.aload_n 0, 1) := by decide +kernel
theorem dX1_init_19 : decode cX1_init 19 = .ok (.iconst 0, 1) := by decide +kernel
theorem dX1_init_20 : decode cX1_init 20 = .ok (.putfield 21, 3) := by decide +kernel
theorem dX1_init_23 : decode cX1_init 23 = .ok (.aload_n 0, 1) := by decide +kernel
theorem dX1_init_24 : decode cX1_init 24 = .ok (.iconst 1, 1) := by decide +kernel
theorem dX1_init_25 : decode cX1_init 25 = .ok (.putfield 24, 3) := by decide +kernel
theorem dX1_init_28 : decode cX1_init 28 = .ok (.aload_n 0, 1) := by decide +kernel
theorem dX1_init_29 : decode cX1_init 29 = .ok (.iconst 0, 1) := by decide +kernel
theorem dX1_init_30 : decode cX1_init 30 = .ok (.putfield 28, 3) := by decide +kernel
theorem dX1_init_33 : decode cX1_init 33 = .ok (.aload_n 0, 1) := by decide +kernel
theorem dX1_init_34 : decode cX1_init 34 = .ok (.new 31, 3) := by decide +kernel
theorem dX1_init_37 : decode cX1_init 37 = .ok (.dup, 1) := by decide +kernel
theorem dX1_init_38 : decode cX1_init 38 = .ok (.invokespecial 33, 3) := by decide +kernel
theorem dX1_init_41 : decode cX1_init 41 = .ok (.putfield 34, 3) := by decide +kernel
theorem dX1_init_44 : decode cX1_init 44 = .ok (.aload_n 0, 1) := by decide +kernel
theorem dX1_init_45 : decode cX1_init 45 = .ok (.new 38, 3) := by decide +kernel
theorem dX1_init_48 : decode cX1_init 48 = .ok (.dup, 1) := by decide +kernel
theorem dX1_init_49 : decode cX1_init 49 = .ok (.invokespecial 40, 3) := by decide +kernel
theorem dX1_init_52 : decode cX1_init 52 = .ok (.putfield 41, 3) := by decide +kernel
theorem dX1_init_55 : decode cX1_init 55 = .ok (.aload_n 0, 1) := by decide +kernel
theorem dX1_init_56 : decode cX1_init 56 = .ok (.new 45, 3) := by decide +kernel
theorem dX1_init_59 : decode cX1_init 59 = .ok (.dup, 1) := by decide +kernel
theorem dX1_init_60 : decode cX1_init 60 = .ok (.invokespecial 47, 3) := by decide +kernel
theorem dX1_init_63 : decode cX1_init 63 = .ok (.putfield 48, 3) := by decide +kernel
theorem dX1_init_66 : decode cX1_init 66 = .ok (.aload_n 0, 1) := by decide +kernel
theorem dX1_init_67 : decode cX1_init 67 = .ok (.new 52, 3) := by decide +kernel
theorem dX1_init_70 : decode cX1_init 70 = .ok (.dup, 1) := by decide +kernel
theorem dX1_init_71 : decode cX1_init 71 = .ok (.invokespecial 54, 3) := by decide +kernel
theorem dX1_init_74 : decode cX1_init 74 = .ok (.putfield 55, 3) := by decide +kernel
theorem dX1_init_77 : decode cX1_init 77 = .ok (.aload_n 0, 1) := by decide +kernel
theorem dX1_init_78 : decode cX1_init 78 = .ok (.bipush 120, 2) := by decide +kernel
theorem dX1_init_80 : decode cX1_init 80 = .ok (.newarray .int, 2) := by decide +kernel
theorem dX1_init_82 : decode cX1_init 82 = .ok (.putfield 59, 3) := by decide +kernel
theorem dX1_init_85 : decode cX1_init 85 = .ok (.aload_n 0, 1) := by decide +kernel
theorem dX1_init_86 : decode cX1_init 86 = .ok (.iconst 0, 1) := by decide +kernel
theorem dX1_init_87 : decode cX1_init 87 = .ok (.putfield 63, 3) := by decide +kernel
theorem dX1_init_90 : decode cX1_init 90 = .ok (.aload_n 0, 1) := by decide +kernel
theorem dX1_init_91 : decode cX1_init 91 = .ok (.iconst (-1), 1) := by decide +kernel
theorem dX1_init_92 : decode cX1_init 92 = .ok (.putfield 66, 3) := by decide +kernel
theorem dX1_init_95 : decode cX1_init 95 = .ok (.aload_n 0, 1) := by decide +kernel
theorem dX1_init_96 : decode cX1_init 96 = .ok (.iconst 0, 1) := by decide +kernel
theorem dX1_init_97 : decode cX1_init 97 = .ok (.putfield 69, 3) := by decide +kernel
theorem dX1_init_100 : decode cX1_init 100 = .ok (.iconst 0, 1) := by decide +kernel
theorem dX1_init_101 : decode cX1_init 101 = .ok (.istore_n 1, 1) := by decide +kernel
theorem dX1_init_102 : decode cX1_init 102 = .ok (.iload_n 1, 1) := by decide +kernel
theorem dX1_init_103 : decode cX1_init 103 = .ok (.bipush 6, 2) := by decide +kernel
theorem dX1_init_105 : decode cX1_init 105 = .ok (.if_icmp .ge 22, 3) := by decide +kernel
theorem dX1_init_108 : decode cX1_init 108 = .ok (.aload_n 0, 1) := by decide +kernel
theorem dX1_init_109 : decode cX1_init 109 = .ok (.getfield 11, 3) := by decide +kernel
theorem dX1_init_112 : decode cX1_init 112 = .ok (.iload_n 1, 1) := by decide +kernel
theorem dX1_init_113 : decode cX1_init 113 = .ok (.new 9, 3) := by decide +kernel
theorem dX1_init_116 : decode cX1_init 116 = .ok (.dup, 1) := by decide +kernel
theorem dX1_init_117 : decode cX1_init 117 = .ok (.invokespecial 72, 3) := by decide +kernel
theorem dX1_init_120 : decode cX1_init 120 = .ok (.aastore, 1) := by decide +kernel
theorem dX1_init_121 : decode cX1_init 121 = .ok (.iinc 1 1, 3) := by decide +kernel
theorem dX1_init_124 : decode cX1_init 124 = .ok (.goto (-22), 3) := by decide +kernel
theorem dX1_init_127 : decode cX1_init 127 = .ok (.return_, 1) := by decide +kernel
theorem dX1_addService_0 : decode cX1_addService 0 = .ok (.aload_n 0, 1) := by decide +kernel
theorem dX1_addService_1 : decode cX1_addService 1 = .ok (.getfield 17, 3) := by decide +kernel
theorem dX1_addService_4 : decode cX1_addService 4 = .ok (.bipush 6, 2) := by decide +kernel
theorem dX1_addService_6 : decode cX1_addService 6 = .ok (.if_icmp .lt 6, 3) := by decide +kernel
theorem dX1_addService_9 : decode cX1_addService 9 = .ok (.bipush (-2), 2) := by decide +kernel
theorem dX1_addService_11 : decode cX1_addService 11 = .ok (.ireturn, 1) := by decide +kernel
theorem dX1_addService_12 : decode cX1_addService 12 = .ok (.aload_n 0, 1) := by decide +kernel
theorem dX1_addService_13 : decode cX1_addService 13 = .ok (.getfield 11, 3) := by decide +kernel
theorem dX1_addService_16 : decode cX1_addService 16 = .ok (.aload_n 0, 1) := by decide +kernel
theorem dX1_addService_17 : decode cX1_addService 17 = .ok (.getfield 17, 3) := by decide +kernel
theorem dX1_addService_20 : decode cX1_addService 20 = .ok (.aaload, 1) := by decide +kernel
theorem dX1_addService_21 : decode cX1_addService 21 = .ok (.getfield 73, 3) := by decide +kernel
theorem dX1_addService_24 : decode cX1_addService 24 = .ok (.astore 4, 2) := by decide +kernel
theorem dX1_addService_26 : decode cX1_addService 26 = .ok (.aload 4, 2) := by decide +kernel
theorem dX1_addService_28 : decode cX1_addService 28 = .ok (.bipush 7, 2) := by decide +kernel
theorem dX1_addService_30 : decode cX1_addService 30 = .ok (.iload_n 1, 1) := by decide +kernel
theorem dX1_addService_31 : decode cX1_addService 31 = .ok (.iastore, 1) := by decide +kernel
theorem dX1_addService_32 : decode cX1_addService 32 = .ok (.aload 4, 2) := by decide +kernel
theorem dX1_addService_34 : decode cX1_addService 34 = .ok (.bipush 9, 2) := by decide +kernel
theorem dX1_addService_36 : decode cX1_addService 36 = .ok (.iload_n 2, 1) := by decide +kernel
theorem dX1_addService_37 : decode cX1_addService 37 = .ok (.iastore, 1) := by decide +kernel
theorem dX1_addService_38 : decode cX1_addService 38 = .ok (.aload 4, 2) := by decide +kernel
theorem dX1_addService_40 : decode cX1_addService 40 = .ok (.bipush 8, 2) := by decide +kernel
theorem dX1_addService_42 : decode cX1_addService 42 = .ok (.iload_n 3, 1) := by decide +kernel
theorem dX1_addService_43 : decode cX1_addService 43 = .ok (.iastore, 1) := by decide +kernel
theorem dX1_addService_44 : decode cX1_addService 44 = .ok (.aload_n 0, 1) := by decide +kernel
theorem dX1_addService_45 : decode cX1_addService 45 = .ok (.dup, 1) := by decide +kernel
theorem dX1_addService_46 : decode cX1_addService 46 = .ok (.getfield 17, 3) := by decide +kernel
theorem dX1_addService_49 : decode cX1_addService 49 = .ok (.iconst 1, 1) := by decide +kernel
theorem dX1_addService_50 : decode cX1_addService 50 = .ok (.iadd, 1) := by decide +kernel
theorem dX1_addService_51 : decode cX1_addService 51 = .ok (.putfield 17, 3) := by decide +kernel
theorem dX1_addService_54 : decode cX1_addService 54 = .ok (.aload_n 0, 1) := by decide +kernel
theorem dX1_addService_55 : decode cX1_addService 55 = .ok (.getfield 17, 3) := by decide +kernel
theorem dX1_addService_58 : decode cX1_addService 58 = .ok (.iconst 1, 1) := by decide +kernel
theorem dX1_addService_59 : decode cX1_addService 59 = .ok (.isub, 1) := by decide +kernel
theorem dX1_addService_60 : decode cX1_addService 60 = .ok (.ireturn, 1) := by decide +kernel
theorem dX1_step_0 : decode cX1_step 0 = .ok (.aload_n 0, 1) := by decide +kernel
theorem dX1_step_1 : decode cX1_step 1 = .ok (.dup, 1) := by decide +kernel
theorem dX1_step_2 : decode cX1_step 2 = .ok (.getfield 21, 3) := by decide +kernel
theorem dX1_step_5 : decode cX1_step 5 = .ok (.iconst 1, 1) := by decide +kernel
theorem dX1_step_6 : decode cX1_step 6 = .ok (.iadd, 1) := by decide +kernel
theorem dX1_step_7 : decode cX1_step 7 = .ok (.putfield 21, 3) := by decide +kernel
theorem dX1_step_10 : decode cX1_step 10 = .ok (.aload_n 0, 1) := by decide +kernel
theorem dX1_step_11 : decode cX1_step 11 = .ok (.iconst 1, 1) := by decide +kernel
theorem dX1_step_12 : decode cX1_step 12 = .ok (.putfield 24, 3) := by decide +kernel
theorem dX1_step_15 : decode cX1_step 15 = .ok (.aload_n 0, 1) := by decide +kernel
theorem dX1_step_16 : decode cX1_step 16 = .ok (.invokevirtual 76, 3) := by decide +kernel
theorem dX1_step_19 : decode cX1_step 19 = .ok (.aload_n 0, 1) := by decide +kernel
theorem dX1_step_20 : decode cX1_step 20 = .ok (.invokevirtual 79, 3) := by decide +kernel
theorem dX1_step_23 : decode cX1_step 23 = .ok (.aload_n 0, 1) := by decide +kernel
theorem dX1_step_24 : decode cX1_step 24 = .ok (.invokevirtual 82, 3) := by decide +kernel
theorem dX1_step_27 : decode cX1_step 27 = .ok (.aload_n 0, 1) := by decide +kernel
theorem dX1_step_28 : decode cX1_step 28 = .ok (.invokevirtual 85, 3) := by decide +kernel
theorem dX1_step_31 : decode cX1_step 31 = .ok (.aload_n 0, 1) := by decide +kernel
theorem dX1_step_32 : decode cX1_step 32 = .ok (.invokevirtual 88, 3) := by decide +kernel
theorem dX1_step_35 : decode cX1_step 35 = .ok (.aload_n 0, 1) := by decide +kernel
theorem dX1_step_36 : decode cX1_step 36 = .ok (.invokevirtual 91, 3) := by decide +kernel
theorem dX1_step_39 : decode cX1_step 39 = .ok (.iconst 0, 1) := by decide +kernel
theorem dX1_step_40 : decode cX1_step 40 = .ok (.istore_n 1, 1) := by decide +kernel
theorem dX1_step_41 : decode cX1_step 41 = .ok (.iload_n 1, 1) := by decide +kernel
theorem dX1_step_42 : decode cX1_step 42 = .ok (.aload_n 0, 1) := by decide +kernel
theorem dX1_step_43 : decode cX1_step 43 = .ok (.getfield 48, 3) := by decide +kernel
theorem dX1_step_46 : decode cX1_step 46 = .ok (.getfield 94, 3) := by decide +kernel
theorem dX1_step_49 : decode cX1_step 49 = .ok (.if_icmp .ge 34, 3) := by decide +kernel
theorem dX1_step_52 : decode cX1_step 52 = .ok (.aload_n 0, 1) := by decide +kernel
theorem dX1_step_53 : decode cX1_step 53 = .ok (.aload_n 0, 1) := by decide +kernel
theorem dX1_step_54 : decode cX1_step 54 = .ok (.getfield 48, 3) := by decide +kernel
theorem dX1_step_57 : decode cX1_step 57 = .ok (.getfield 97, 3) := by decide +kernel
theorem dX1_step_60 : decode cX1_step 60 = .ok (.iload_n 1, 1) := by decide +kernel
theorem dX1_step_61 : decode cX1_step 61 = .ok (.iaload, 1) := by decide +kernel
theorem dX1_step_62 : decode cX1_step 62 = .ok (.aload_n 0, 1) := by decide +kernel
theorem dX1_step_63 : decode cX1_step 63 = .ok (.getfield 48, 3) := by decide +kernel
theorem dX1_step_66 : decode cX1_step 66 = .ok (.aload_n 0, 1) := by decide +kernel
theorem dX1_step_67 : decode cX1_step 67 = .ok (.getfield 21, 3) := by decide +kernel
theorem dX1_step_70 : decode cX1_step 70 = .ok (.iload_n 1, 1) := by decide +kernel
theorem dX1_step_71 : decode cX1_step 71 = .ok (.invokevirtual 100, 3) := by decide +kernel
theorem dX1_step_74 : decode cX1_step 74 = .ok (.invokevirtual 104, 3) := by decide +kernel
theorem dX1_step_77 : decode cX1_step 77 = .ok (.iinc 1 1, 3) := by decide +kernel
theorem dX1_step_80 : decode cX1_step 80 = .ok (.goto (-39), 3) := by decide +kernel
theorem dX1_step_83 : decode cX1_step 83 = .ok (.aload_n 0, 1) := by decide +kernel
theorem dX1_step_84 : decode cX1_step 84 = .ok (.getfield 48, 3) := by decide +kernel
theorem dX1_step_87 : decode cX1_step 87 = .ok (.aload_n 0, 1) := by decide +kernel
theorem dX1_step_88 : decode cX1_step 88 = .ok (.getfield 21, 3) := by decide +kernel
theorem dX1_step_91 : decode cX1_step 91 = .ok (.invokevirtual 108, 3) := by decide +kernel
theorem dX1_step_94 : decode cX1_step 94 = .ok (.aload_n 0, 1) := by decide +kernel
theorem dX1_step_95 : decode cX1_step 95 = .ok (.getfield 55, 3) := by decide +kernel
theorem dX1_step_98 : decode cX1_step 98 = .ok (.aload_n 0, 1) := by decide +kernel
theorem dX1_step_99 : decode cX1_step 99 = .ok (.getfield 21, 3) := by decide +kernel
theorem dX1_step_102 : decode cX1_step 102 = .ok (.invokevirtual 112, 3) := by decide +kernel
theorem dX1_step_105 : decode cX1_step 105 = .ok (.istore_n 1, 1) := by decide +kernel
theorem dX1_step_106 : decode cX1_step 106 = .ok (.aload_n 0, 1) := by decide +kernel
theorem dX1_step_107 : decode cX1_step 107 = .ok (.aload_n 0, 1) := by decide +kernel
theorem dX1_step_108 : decode cX1_step 108 = .ok (.getfield 55, 3) := by decide +kernel
theorem dX1_step_111 : decode cX1_step 111 = .ok (.getfield 116, 3) := by decide +kernel
theorem dX1_step_114 : decode cX1_step 114 = .ok (.iload_n 1, 1) := by decide +kernel
theorem dX1_step_115 : decode cX1_step 115 = .ok (.iaload, 1) := by decide +kernel
theorem dX1_step_116 : decode cX1_step 116 = .ok (.aload_n 0, 1) := by decide +kernel
theorem dX1_step_117 : decode cX1_step 117 = .ok (.getfield 55, 3) := by decide +kernel
theorem dX1_step_120 : decode cX1_step 120 = .ok (.getfield 117, 3) := by decide +kernel
theorem dX1_step_123 : decode cX1_step 123 = .ok (.iload_n 1, 1) := by decide +kernel
theorem dX1_step_124 : decode cX1_step 124 = .ok (.iaload, 1) := by decide +kernel
theorem dX1_step_125 : decode cX1_step 125 = .ok (.invokevirtual 104, 3) := by decide +kernel
theorem dX1_step_128 : decode cX1_step 128 = .ok (.return_, 1) := by decide +kernel
theorem dX1_findDueJobs_0 : decode cX1_findDueJobs 0 = .ok (.aload_n 0, 1) := by decide +kernel
theorem dX1_findDueJobs_1 : decode cX1_findDueJobs 1 = .ok (.iconst 0, 1) := by decide +kernel
theorem dX1_findDueJobs_2 : decode cX1_findDueJobs 2 = .ok (.putfield 63, 3) := by decide +kernel
theorem dX1_findDueJobs_5 : decode cX1_findDueJobs 5 = .ok (.aload_n 0, 1) := by decide +kernel
theorem dX1_findDueJobs_6 : decode cX1_findDueJobs 6 = .ok (.getfield 34, 3) := by decide +kernel
theorem dX1_findDueJobs_9 : decode cX1_findDueJobs 9 = .ok (.getfield 120, 3) := by decide +kernel
theorem dX1_findDueJobs_12 : decode cX1_findDueJobs 12 = .ok (.getfield 124, 3) := by decide +kernel
theorem dX1_findDueJobs_15 : decode cX1_findDueJobs 15 = .ok (.istore_n 1, 1) := by decide +kernel
theorem dX1_findDueJobs_16 : decode cX1_findDueJobs 16 = .ok (.iconst 0, 1) := by decide +kernel
theorem dX1_findDueJobs_17 : decode cX1_findDueJobs 17 = .ok (.istore_n 2, 1) := by decide +kernel
theorem dX1_findDueJobs_18 : decode cX1_findDueJobs 18 = .ok (.iload_n 2, 1) := by decide +kernel
theorem dX1_findDueJobs_19 : decode cX1_findDueJobs 19 = .ok (.bipush 120, 2) := by decide +kernel
theorem dX1_findDueJobs_21 : decode cX1_findDueJobs 21 = .ok (.if_icmp .ge 63, 3) := by decide +kernel
theorem dX1_findDueJobs_24 : decode cX1_findDueJobs 24 = .ok (.iload_n 1, 1) := by decide +kernel
theorem dX1_findDueJobs_25 : decode cX1_findDueJobs 25 = .ok (.iconst (-1), 1) := by decide +kernel
theorem dX1_findDueJobs_26 : decode cX1_findDueJobs 26 = .ok (.if_icmp .eq 58, 3) := by decide +kernel
theorem dX1_findDueJobs_29 : decode cX1_findDueJobs 29 = .ok (.aload_n 0, 1) := by decide +kernel
theorem dX1_findDueJobs_30 : decode cX1_findDueJobs 30 = .ok (.getfield 34, 3) := by decide +kernel
theorem dX1_findDueJobs_33 : decode cX1_findDueJobs 33 = .ok (.getfield 129, 3) := by decide +kernel
theorem dX1_findDueJobs_36 : decode cX1_findDueJobs 36 = .ok (.iload_n 1, 1) := by decide +kernel
theorem dX1_findDueJobs_37 : decode cX1_findDueJobs 37 = .ok (.iaload, 1) := by decide +kernel
theorem dX1_findDueJobs_38 : decode cX1_findDueJobs 38 = .ok (.aload_n 0, 1) := by decide +kernel
theorem dX1_findDueJobs_39 : decode cX1_findDueJobs 39 = .ok (.getfield 21, 3) := by decide +kernel
theorem dX1_findDueJobs_42 : decode cX1_findDueJobs 42 = .ok (.if_icmp .ne 23, 3) := by decide +kernel
theorem dX1_findDueJobs_45 : decode cX1_findDueJobs 45 = .ok (.aload_n 0, 1) := by decide +kernel
theorem dX1_findDueJobs_46 : decode cX1_findDueJobs 46 = .ok (.getfield 59, 3) := by decide +kernel
theorem dX1_findDueJobs_49 : decode cX1_findDueJobs 49 = .ok (.aload_n 0, 1) := by decide +kernel
theorem dX1_findDueJobs_50 : decode cX1_findDueJobs 50 = .ok (.getfield 63, 3) := by decide +kernel
theorem dX1_findDueJobs_53 : decode cX1_findDueJobs 53 = .ok (.iload_n 1, 1) := by decide +kernel
theorem dX1_findDueJobs_54 : decode cX1_findDueJobs 54 = .ok (.iastore, 1) := by decide +kernel
theorem dX1_findDueJobs_55 : decode cX1_findDueJobs 55 = .ok (.aload_n 0, 1) := by decide +kernel
theorem dX1_findDueJobs_56 : decode cX1_findDueJobs 56 = .ok (.dup, 1) := by decide +kernel
theorem dX1_findDueJobs_57 : decode cX1_findDueJobs 57 = .ok (.getfield 63, 3) := by decide +kernel
theorem dX1_findDueJobs_60 : decode cX1_findDueJobs 60 = .ok (.iconst 1, 1) := by decide +kernel
theorem dX1_findDueJobs_61 : decode cX1_findDueJobs 61 = .ok (.iadd, 1) := by decide +kernel
theorem dX1_findDueJobs_62 : decode cX1_findDueJobs 62 = .ok (.putfield 63, 3) := by decide +kernel
theorem dX1_findDueJobs_65 : decode cX1_findDueJobs 65 = .ok (.aload_n 0, 1) := by decide +kernel
theorem dX1_findDueJobs_66 : decode cX1_findDueJobs 66 = .ok (.getfield 34, 3) := by decide +kernel
theorem dX1_findDueJobs_69 : decode cX1_findDueJobs 69 = .ok (.getfield 120, 3) := by decide +kernel
theorem dX1_findDueJobs_72 : decode cX1_findDueJobs 72 = .ok (.getfield 132, 3) := by decide +kernel
theorem dX1_findDueJobs_75 : decode cX1_findDueJobs 75 = .ok (.iload_n 1, 1) := by decide +kernel
theorem dX1_findDueJobs_76 : decode cX1_findDueJobs 76 = .ok (.iaload, 1) := by decide +kernel
theorem dX1_findDueJobs_77 : decode cX1_findDueJobs 77 = .ok (.istore_n 1, 1) := by decide +kernel
theorem dX1_findDueJobs_78 : decode cX1_findDueJobs 78 = .ok (.iinc 2 1, 3) := by decide +kernel
theorem dX1_findDueJobs_81 : decode cX1_findDueJobs 81 = .ok (.goto (-63), 3) := by decide +kernel
theorem dX1_findDueJobs_84 : decode cX1_findDueJobs 84 = .ok (.return_, 1) := by decide +kernel
theorem dX1_endWork_0 : decode cX1_endWork 0 = .ok (.iconst 0, 1) := by decide +kernel
theorem dX1_endWork_1 : decode cX1_endWork 1 = .ok (.istore_n 1, 1) := by decide +kernel
theorem dX1_endWork_2 : decode cX1_endWork 2 = .ok (.iload_n 1, 1) := by decide +kernel
theorem dX1_endWork_3 : decode cX1_endWork 3 = .ok (.aload_n 0, 1) := by decide +kernel
theorem dX1_endWork_4 : decode cX1_endWork 4 = .ok (.getfield 63, 3) := by decide +kernel
theorem dX1_endWork_7 : decode cX1_endWork 7 = .ok (.if_icmp .ge 68, 3) := by decide +kernel
theorem dX1_endWork_10 : decode cX1_endWork 10 = .ok (.aload_n 0, 1) := by decide +kernel
theorem dX1_endWork_11 : decode cX1_endWork 11 = .ok (.getfield 59, 3) := by decide +kernel
theorem dX1_endWork_14 : decode cX1_endWork 14 = .ok (.iload_n 1, 1) := by decide +kernel
theorem dX1_endWork_15 : decode cX1_endWork 15 = .ok (.iaload, 1) := by decide +kernel
theorem dX1_endWork_16 : decode cX1_endWork 16 = .ok (.istore_n 2, 1) := by decide +kernel
theorem dX1_endWork_17 : decode cX1_endWork 17 = .ok (.aload_n 0, 1) := by decide +kernel
theorem dX1_endWork_18 : decode cX1_endWork 18 = .ok (.getfield 34, 3) := by decide +kernel
theorem dX1_endWork_21 : decode cX1_endWork 21 = .ok (.iload_n 2, 1) := by decide +kernel
theorem dX1_endWork_22 : decode cX1_endWork 22 = .ok (.iconst 1, 1) := by decide +kernel
theorem dX1_endWork_23 : decode cX1_endWork 23 = .ok (.aload_n 0, 1) := by decide +kernel
theorem dX1_endWork_24 : decode cX1_endWork 24 = .ok (.getfield 21, 3) := by decide +kernel
theorem dX1_endWork_27 : decode cX1_endWork 27 = .ok (.invokevirtual 135, 3) := by decide +kernel
theorem dX1_endWork_30 : decode cX1_endWork 30 = .ok (.ifCond .eq 39, 3) := by decide +kernel
theorem dX1_endWork_33 : decode cX1_endWork 33 = .ok (.aload_n 0, 1) := by decide +kernel
theorem dX1_endWork_34 : decode cX1_endWork 34 = .ok (.getfield 34, 3) := by decide +kernel
theorem dX1_endWork_37 : decode cX1_endWork 37 = .ok (.getfield 139, 3) := by decide +kernel
theorem dX1_endWork_40 : decode cX1_endWork 40 = .ok (.iload_n 2, 1) := by decide +kernel
theorem dX1_endWork_41 : decode cX1_endWork 41 = .ok (.iaload, 1) := by decide +kernel
theorem dX1_endWork_42 : decode cX1_endWork 42 = .ok (.iconst 1, 1) := by decide +kernel
theorem dX1_endWork_43 : decode cX1_endWork 43 = .ok (.iadd, 1) := by decide +kernel
theorem dX1_endWork_44 : decode cX1_endWork 44 = .ok (.aload_n 0, 1) := by decide +kernel
theorem dX1_endWork_45 : decode cX1_endWork 45 = .ok (.getfield 17, 3) := by decide +kernel
theorem dX1_endWork_48 : decode cX1_endWork 48 = .ok (.if_icmp .ge 11, 3) := by decide +kernel
theorem dX1_endWork_51 : decode cX1_endWork 51 = .ok (.aload_n 0, 1) := by decide +kernel
theorem dX1_endWork_52 : decode cX1_endWork 52 = .ok (.iload_n 2, 1) := by decide +kernel
theorem dX1_endWork_53 : decode cX1_endWork 53 = .ok (.invokevirtual 142, 3) := by decide +kernel
theorem dX1_endWork_56 : decode cX1_endWork 56 = .ok (.goto 9, 3) := by decide +kernel
theorem dX1_endWork_59 : decode cX1_endWork 59 = .ok (.aload_n 0, 1) := by decide +kernel
theorem dX1_endWork_60 : decode cX1_endWork 60 = .ok (.iload_n 2, 1) := by decide +kernel
theorem dX1_endWork_61 : decode cX1_endWork 61 = .ok (.iconst 1, 1) := by decide +kernel
theorem dX1_endWork_62 : decode cX1_endWork 62 = .ok (.invokevirtual 145, 3) := by decide +kernel
theorem dX1_endWork_65 : decode cX1_endWork 65 = .ok (.aload_n 0, 1) := by decide +kernel
theorem dX1_endWork_66 : decode cX1_endWork 66 = .ok (.invokevirtual 149, 3) := by decide +kernel
theorem dX1_endWork_69 : decode cX1_endWork 69 = .ok (.iinc 1 1, 3) := by decide +kernel
theorem dX1_endWork_72 : decode cX1_endWork 72 = .ok (.goto (-70), 3) := by decide +kernel
theorem dX1_endWork_75 : decode cX1_endWork 75 = .ok (.return_, 1) := by decide +kernel
theorem dX1_endPauses_0 : decode cX1_endPauses 0 = .ok (.iconst 0, 1) := by decide +kernel
theorem dX1_endPauses_1 : decode cX1_endPauses 1 = .ok (.istore_n 1, 1) := by decide +kernel
theorem dX1_endPauses_2 : decode cX1_endPauses 2 = .ok (.iload_n 1, 1) := by decide +kernel
theorem dX1_endPauses_3 : decode cX1_endPauses 3 = .ok (.aload_n 0, 1) := by decide +kernel
theorem dX1_endPauses_4 : decode cX1_endPauses 4 = .ok (.getfield 63, 3) := by decide +kernel
theorem dX1_endPauses_7 : decode cX1_endPauses 7 = .ok (.if_icmp .ge 54, 3) := by decide +kernel
theorem dX1_endPauses_10 : decode cX1_endPauses 10 = .ok (.aload_n 0, 1) := by decide +kernel
theorem dX1_endPauses_11 : decode cX1_endPauses 11 = .ok (.getfield 59, 3) := by decide +kernel
theorem dX1_endPauses_14 : decode cX1_endPauses 14 = .ok (.iload_n 1, 1) := by decide +kernel
theorem dX1_endPauses_15 : decode cX1_endPauses 15 = .ok (.iaload, 1) := by decide +kernel
theorem dX1_endPauses_16 : decode cX1_endPauses 16 = .ok (.istore_n 2, 1) := by decide +kernel
theorem dX1_endPauses_17 : decode cX1_endPauses 17 = .ok (.aload_n 0, 1) := by decide +kernel
theorem dX1_endPauses_18 : decode cX1_endPauses 18 = .ok (.getfield 34, 3) := by decide +kernel
theorem dX1_endPauses_21 : decode cX1_endPauses 21 = .ok (.iload_n 2, 1) := by decide +kernel
theorem dX1_endPauses_22 : decode cX1_endPauses 22 = .ok (.iconst 3, 1) := by decide +kernel
theorem dX1_endPauses_23 : decode cX1_endPauses 23 = .ok (.aload_n 0, 1) := by decide +kernel
theorem dX1_endPauses_24 : decode cX1_endPauses 24 = .ok (.getfield 21, 3) := by decide +kernel
theorem dX1_endPauses_27 : decode cX1_endPauses 27 = .ok (.invokevirtual 135, 3) := by decide +kernel
theorem dX1_endPauses_30 : decode cX1_endPauses 30 = .ok (.ifCond .eq 25, 3) := by decide +kernel
theorem dX1_endPauses_33 : decode cX1_endPauses 33 = .ok (.aload_n 0, 1) := by decide +kernel
theorem dX1_endPauses_34 : decode cX1_endPauses 34 = .ok (.getfield 34, 3) := by decide +kernel
theorem dX1_endPauses_37 : decode cX1_endPauses 37 = .ok (.getfield 152, 3) := by decide +kernel
theorem dX1_endPauses_40 : decode cX1_endPauses 40 = .ok (.iload_n 2, 1) := by decide +kernel
theorem dX1_endPauses_41 : decode cX1_endPauses 41 = .ok (.dup2, 1) := by decide +kernel
theorem dX1_endPauses_42 : decode cX1_endPauses 42 = .ok (.iaload, 1) := by decide +kernel
theorem dX1_endPauses_43 : decode cX1_endPauses 43 = .ok (.iconst 1, 1) := by decide +kernel
theorem dX1_endPauses_44 : decode cX1_endPauses 44 = .ok (.iadd, 1) := by decide +kernel
theorem dX1_endPauses_45 : decode cX1_endPauses 45 = .ok (.iastore, 1) := by decide +kernel
theorem dX1_endPauses_46 : decode cX1_endPauses 46 = .ok (.aload_n 0, 1) := by decide +kernel
theorem dX1_endPauses_47 : decode cX1_endPauses 47 = .ok (.iload_n 2, 1) := by decide +kernel
theorem dX1_endPauses_48 : decode cX1_endPauses 48 = .ok (.invokevirtual 142, 3) := by decide +kernel
theorem dX1_endPauses_51 : decode cX1_endPauses 51 = .ok (.aload_n 0, 1) := by decide +kernel
theorem dX1_endPauses_52 : decode cX1_endPauses 52 = .ok (.invokevirtual 149, 3) := by decide +kernel
theorem dX1_endPauses_55 : decode cX1_endPauses 55 = .ok (.iinc 1 1, 3) := by decide +kernel
theorem dX1_endPauses_58 : decode cX1_endPauses 58 = .ok (.goto (-56), 3) := by decide +kernel
theorem dX1_endPauses_61 : decode cX1_endPauses 61 = .ok (.return_, 1) := by decide +kernel
theorem dX1_endAsking_0 : decode cX1_endAsking 0 = .ok (.iconst 0, 1) := by decide +kernel
theorem dX1_endAsking_1 : decode cX1_endAsking 1 = .ok (.istore_n 1, 1) := by decide +kernel
theorem dX1_endAsking_2 : decode cX1_endAsking 2 = .ok (.iload_n 1, 1) := by decide +kernel
theorem dX1_endAsking_3 : decode cX1_endAsking 3 = .ok (.aload_n 0, 1) := by decide +kernel
theorem dX1_endAsking_4 : decode cX1_endAsking 4 = .ok (.getfield 63, 3) := by decide +kernel
theorem dX1_endAsking_7 : decode cX1_endAsking 7 = .ok (.if_icmp .ge 63, 3) := by decide +kernel
theorem dX1_endAsking_10 : decode cX1_endAsking 10 = .ok (.aload_n 0, 1) := by decide +kernel
theorem dX1_endAsking_11 : decode cX1_endAsking 11 = .ok (.getfield 59, 3) := by decide +kernel
theorem dX1_endAsking_14 : decode cX1_endAsking 14 = .ok (.iload_n 1, 1) := by decide +kernel
theorem dX1_endAsking_15 : decode cX1_endAsking 15 = .ok (.iaload, 1) := by decide +kernel
theorem dX1_endAsking_16 : decode cX1_endAsking 16 = .ok (.istore_n 2, 1) := by decide +kernel
theorem dX1_endAsking_17 : decode cX1_endAsking 17 = .ok (.aload_n 0, 1) := by decide +kernel
theorem dX1_endAsking_18 : decode cX1_endAsking 18 = .ok (.getfield 34, 3) := by decide +kernel
theorem dX1_endAsking_21 : decode cX1_endAsking 21 = .ok (.iload_n 2, 1) := by decide +kernel
theorem dX1_endAsking_22 : decode cX1_endAsking 22 = .ok (.iconst 2, 1) := by decide +kernel
theorem dX1_endAsking_23 : decode cX1_endAsking 23 = .ok (.aload_n 0, 1) := by decide +kernel
theorem dX1_endAsking_24 : decode cX1_endAsking 24 = .ok (.getfield 21, 3) := by decide +kernel
theorem dX1_endAsking_27 : decode cX1_endAsking 27 = .ok (.invokevirtual 135, 3) := by decide +kernel
theorem dX1_endAsking_30 : decode cX1_endAsking 30 = .ok (.ifCond .eq 34, 3) := by decide +kernel
theorem dX1_endAsking_33 : decode cX1_endAsking 33 = .ok (.aload_n 0, 1) := by decide +kernel
theorem dX1_endAsking_34 : decode cX1_endAsking 34 = .ok (.aload_n 0, 1) := by decide +kernel
theorem dX1_endAsking_35 : decode cX1_endAsking 35 = .ok (.getfield 34, 3) := by decide +kernel
theorem dX1_endAsking_38 : decode cX1_endAsking 38 = .ok (.getfield 155, 3) := by decide +kernel
theorem dX1_endAsking_41 : decode cX1_endAsking 41 = .ok (.iload_n 2, 1) := by decide +kernel
theorem dX1_endAsking_42 : decode cX1_endAsking 42 = .ok (.iaload, 1) := by decide +kernel
theorem dX1_endAsking_43 : decode cX1_endAsking 43 = .ok (.invokevirtual 158, 3) := by decide +kernel
theorem dX1_endAsking_46 : decode cX1_endAsking 46 = .ok (.aload_n 0, 1) := by decide +kernel
theorem dX1_endAsking_47 : decode cX1_endAsking 47 = .ok (.iload_n 2, 1) := by decide +kernel
theorem dX1_endAsking_48 : decode cX1_endAsking 48 = .ok (.invokevirtual 161, 3) := by decide +kernel
theorem dX1_endAsking_51 : decode cX1_endAsking 51 = .ok (.ifCond .ne 9, 3) := by decide +kernel
theorem dX1_endAsking_54 : decode cX1_endAsking 54 = .ok (.aload_n 0, 1) := by decide +kernel
theorem dX1_endAsking_55 : decode cX1_endAsking 55 = .ok (.iload_n 2, 1) := by decide +kernel
theorem dX1_endAsking_56 : decode cX1_endAsking 56 = .ok (.iconst 0, 1) := by decide +kernel
theorem dX1_endAsking_57 : decode cX1_endAsking 57 = .ok (.invokevirtual 145, 3) := by decide +kernel
theorem dX1_endAsking_60 : decode cX1_endAsking 60 = .ok (.aload_n 0, 1) := by decide +kernel
theorem dX1_endAsking_61 : decode cX1_endAsking 61 = .ok (.invokevirtual 149, 3) := by decide +kernel
theorem dX1_endAsking_64 : decode cX1_endAsking 64 = .ok (.iinc 1 1, 3) := by decide +kernel
theorem dX1_endAsking_67 : decode cX1_endAsking 67 = .ok (.goto (-65), 3) := by decide +kernel
theorem dX1_endAsking_70 : decode cX1_endAsking 70 = .ok (.return_, 1) := by decide +kernel
theorem dX1_endPatience_0 : decode cX1_endPatience 0 = .ok (.aload_n 0, 1) := by decide +kernel
theorem dX1_endPatience_1 : decode cX1_endPatience 1 = .ok (.getfield 41, 3) := by decide +kernel
theorem dX1_endPatience_4 : decode cX1_endPatience 4 = .ok (.getfield 165, 3) := by decide +kernel
theorem dX1_endPatience_7 : decode cX1_endPatience 7 = .ok (.getfield 124, 3) := by decide +kernel
theorem dX1_endPatience_10 : decode cX1_endPatience 10 = .ok (.istore_n 1, 1) := by decide +kernel
theorem dX1_endPatience_11 : decode cX1_endPatience 11 = .ok (.iconst 0, 1) := by decide +kernel
theorem dX1_endPatience_12 : decode cX1_endPatience 12 = .ok (.istore_n 2, 1) := by decide +kernel
theorem dX1_endPatience_13 : decode cX1_endPatience 13 = .ok (.iload_n 2, 1) := by decide +kernel
theorem dX1_endPatience_14 : decode cX1_endPatience 14 = .ok (.bipush 100, 2) := by decide +kernel
theorem dX1_endPatience_16 : decode cX1_endPatience 16 = .ok (.if_icmp .ge 154, 3) := by decide +kernel
theorem dX1_endPatience_19 : decode cX1_endPatience 19 = .ok (.iload_n 1, 1) := by decide +kernel
theorem dX1_endPatience_20 : decode cX1_endPatience 20 = .ok (.iconst (-1), 1) := by decide +kernel
theorem dX1_endPatience_21 : decode cX1_endPatience 21 = .ok (.if_icmp .eq 149, 3) := by decide +kernel
theorem dX1_endPatience_24 : decode cX1_endPatience 24 = .ok (.aload_n 0, 1) := by decide +kernel
theorem dX1_endPatience_25 : decode cX1_endPatience 25 = .ok (.getfield 41, 3) := by decide +kernel
theorem dX1_endPatience_28 : decode cX1_endPatience 28 = .ok (.getfield 165, 3) := by decide +kernel
theorem dX1_endPatience_31 : decode cX1_endPatience 31 = .ok (.getfield 132, 3) := by decide +kernel
theorem dX1_endPatience_34 : decode cX1_endPatience 34 = .ok (.iload_n 1, 1) := by decide +kernel
theorem dX1_endPatience_35 : decode cX1_endPatience 35 = .ok (.iaload, 1) := by decide +kernel
theorem dX1_endPatience_36 : decode cX1_endPatience 36 = .ok (.istore_n 3, 1) := by decide +kernel
theorem dX1_endPatience_37 : decode cX1_endPatience 37 = .ok (.aload_n 0, 1) := by decide +kernel
theorem dX1_endPatience_38 : decode cX1_endPatience 38 = .ok (.getfield 41, 3) := by decide +kernel
theorem dX1_endPatience_41 : decode cX1_endPatience 41 = .ok (.getfield 166, 3) := by decide +kernel
theorem dX1_endPatience_44 : decode cX1_endPatience 44 = .ok (.iload_n 1, 1) := by decide +kernel
theorem dX1_endPatience_45 : decode cX1_endPatience 45 = .ok (.iaload, 1) := by decide +kernel
theorem dX1_endPatience_46 : decode cX1_endPatience 46 = .ok (.aload_n 0, 1) := by decide +kernel
theorem dX1_endPatience_47 : decode cX1_endPatience 47 = .ok (.getfield 21, 3) := by decide +kernel
theorem dX1_endPatience_50 : decode cX1_endPatience 50 = .ok (.if_icmp .ne 112, 3) := by decide +kernel
theorem dX1_endPatience_53 : decode cX1_endPatience 53 = .ok (.aload_n 0, 1) := by decide +kernel
theorem dX1_endPatience_54 : decode cX1_endPatience 54 = .ok (.aload_n 0, 1) := by decide +kernel
theorem dX1_endPatience_55 : decode cX1_endPatience 55 = .ok (.getfield 41, 3) := by decide +kernel
theorem dX1_endPatience_58 : decode cX1_endPatience 58 = .ok (.getfield 169, 3) := by decide +kernel
theorem dX1_endPatience_61 : decode cX1_endPatience 61 = .ok (.iload_n 1, 1) := by decide +kernel
theorem dX1_endPatience_62 : decode cX1_endPatience 62 = .ok (.iaload, 1) := by decide +kernel
theorem dX1_endPatience_63 : decode cX1_endPatience 63 = .ok (.invokevirtual 158, 3) := by decide +kernel
theorem dX1_endPatience_66 : decode cX1_endPatience 66 = .ok (.aload_n 0, 1) := by decide +kernel
theorem dX1_endPatience_67 : decode cX1_endPatience 67 = .ok (.getfield 41, 3) := by decide +kernel
theorem dX1_endPatience_70 : decode cX1_endPatience 70 = .ok (.getfield 169, 3) := by decide +kernel
theorem dX1_endPatience_73 : decode cX1_endPatience 73 = .ok (.iload_n 1, 1) := by decide +kernel
theorem dX1_endPatience_74 : decode cX1_endPatience 74 = .ok (.iconst (-1), 1) := by decide +kernel
theorem dX1_endPatience_75 : decode cX1_endPatience 75 = .ok (.iastore, 1) := by decide +kernel
theorem dX1_endPatience_76 : decode cX1_endPatience 76 = .ok (.aload_n 0, 1) := by decide +kernel
theorem dX1_endPatience_77 : decode cX1_endPatience 77 = .ok (.iconst 0, 1) := by decide +kernel
theorem dX1_endPatience_78 : decode cX1_endPatience 78 = .ok (.putfield 24, 3) := by decide +kernel
theorem dX1_endPatience_81 : decode cX1_endPatience 81 = .ok (.aload_n 0, 1) := by decide +kernel
theorem dX1_endPatience_82 : decode cX1_endPatience 82 = .ok (.getfield 41, 3) := by decide +kernel
theorem dX1_endPatience_85 : decode cX1_endPatience 85 = .ok (.getfield 172, 3) := by decide +kernel
theorem dX1_endPatience_88 : decode cX1_endPatience 88 = .ok (.iload_n 1, 1) := by decide +kernel
theorem dX1_endPatience_89 : decode cX1_endPatience 89 = .ok (.iaload, 1) := by decide +kernel
theorem dX1_endPatience_90 : decode cX1_endPatience 90 = .ok (.aload_n 0, 1) := by decide +kernel
theorem dX1_endPatience_91 : decode cX1_endPatience 91 = .ok (.getfield 41, 3) := by decide +kernel
theorem dX1_endPatience_94 : decode cX1_endPatience 94 = .ok (.getfield 173, 3) := by decide +kernel
theorem dX1_endPatience_97 : decode cX1_endPatience 97 = .ok (.if_icmp .ge 41, 3) := by decide +kernel
theorem dX1_endPatience_100 : decode cX1_endPatience 100 = .ok (.aload_n 0, 1) := by decide +kernel
theorem dX1_endPatience_101 : decode cX1_endPatience 101 = .ok (.getfield 41, 3) := by decide +kernel
theorem dX1_endPatience_104 : decode cX1_endPatience 104 = .ok (.getfield 172, 3) := by decide +kernel
theorem dX1_endPatience_107 : decode cX1_endPatience 107 = .ok (.iload_n 1, 1) := by decide +kernel
theorem dX1_endPatience_108 : decode cX1_endPatience 108 = .ok (.dup2, 1) := by decide +kernel
theorem dX1_endPatience_109 : decode cX1_endPatience 109 = .ok (.iaload, 1) := by decide +kernel
theorem dX1_endPatience_110 : decode cX1_endPatience 110 = .ok (.iconst 1, 1) := by decide +kernel
theorem dX1_endPatience_111 : decode cX1_endPatience 111 = .ok (.iadd, 1) := by decide +kernel
theorem dX1_endPatience_112 : decode cX1_endPatience 112 = .ok (.iastore, 1) := by decide +kernel
theorem dX1_endPatience_113 : decode cX1_endPatience 113 = .ok (.aload_n 0, 1) := by decide +kernel
theorem dX1_endPatience_114 : decode cX1_endPatience 114 = .ok (.getfield 41, 3) := by decide +kernel
theorem dX1_endPatience_117 : decode cX1_endPatience 117 = .ok (.dup, 1) := by decide +kernel
theorem dX1_endPatience_118 : decode cX1_endPatience 118 = .ok (.getfield 176, 3) := by decide +kernel
theorem dX1_endPatience_121 : decode cX1_endPatience 121 = .ok (.iconst 1, 1) := by decide +kernel
theorem dX1_endPatience_122 : decode cX1_endPatience 122 = .ok (.iadd, 1) := by decide +kernel
theorem dX1_endPatience_123 : decode cX1_endPatience 123 = .ok (.putfield 176, 3) := by decide +kernel
theorem dX1_endPatience_126 : decode cX1_endPatience 126 = .ok (.aload_n 0, 1) := by decide +kernel
theorem dX1_endPatience_127 : decode cX1_endPatience 127 = .ok (.iload_n 1, 1) := by decide +kernel
theorem dX1_endPatience_128 : decode cX1_endPatience 128 = .ok (.invokevirtual 179, 3) := by decide +kernel
theorem dX1_endPatience_131 : decode cX1_endPatience 131 = .ok (.aload_n 0, 1) := by decide +kernel
theorem dX1_endPatience_132 : decode cX1_endPatience 132 = .ok (.invokevirtual 149, 3) := by decide +kernel
theorem dX1_endPatience_135 : decode cX1_endPatience 135 = .ok (.goto 27, 3) := by decide +kernel
theorem dX1_endPatience_138 : decode cX1_endPatience 138 = .ok (.aload_n 0, 1) := by decide +kernel
theorem dX1_endPatience_139 : decode cX1_endPatience 139 = .ok (.getfield 41, 3) := by decide +kernel
theorem dX1_endPatience_142 : decode cX1_endPatience 142 = .ok (.dup, 1) := by decide +kernel
theorem dX1_endPatience_143 : decode cX1_endPatience 143 = .ok (.getfield 182, 3) := by decide +kernel
theorem dX1_endPatience_146 : decode cX1_endPatience 146 = .ok (.iconst 1, 1) := by decide +kernel
theorem dX1_endPatience_147 : decode cX1_endPatience 147 = .ok (.iadd, 1) := by decide +kernel
theorem dX1_endPatience_148 : decode cX1_endPatience 148 = .ok (.putfield 182, 3) := by decide +kernel
theorem dX1_endPatience_151 : decode cX1_endPatience 151 = .ok (.aload_n 0, 1) := by decide +kernel
theorem dX1_endPatience_152 : decode cX1_endPatience 152 = .ok (.getfield 41, 3) := by decide +kernel
theorem dX1_endPatience_155 : decode cX1_endPatience 155 = .ok (.getfield 165, 3) := by decide +kernel
theorem dX1_endPatience_158 : decode cX1_endPatience 158 = .ok (.iload_n 1, 1) := by decide +kernel
theorem dX1_endPatience_159 : decode cX1_endPatience 159 = .ok (.invokevirtual 185, 3) := by decide +kernel
theorem dX1_endPatience_162 : decode cX1_endPatience 162 = .ok (.iload_n 3, 1) := by decide +kernel
theorem dX1_endPatience_163 : decode cX1_endPatience 163 = .ok (.istore_n 1, 1) := by decide +kernel
theorem dX1_endPatience_164 : decode cX1_endPatience 164 = .ok (.iinc 2 1, 3) := by decide +kernel
theorem dX1_endPatience_167 : decode cX1_endPatience 167 = .ok (.goto (-154), 3) := by decide +kernel
theorem dX1_endPatience_170 : decode cX1_endPatience 170 = .ok (.return_, 1) := by decide +kernel
theorem dX1_fillHands_0 : decode cX1_fillHands 0 = .ok (.iconst 0, 1) := by decide +kernel
theorem dX1_fillHands_1 : decode cX1_fillHands 1 = .ok (.istore_n 1, 1) := by decide +kernel
theorem dX1_fillHands_2 : decode cX1_fillHands 2 = .ok (.iload_n 1, 1) := by decide +kernel
theorem dX1_fillHands_3 : decode cX1_fillHands 3 = .ok (.aload_n 0, 1) := by decide +kernel
theorem dX1_fillHands_4 : decode cX1_fillHands 4 = .ok (.getfield 17, 3) := by decide +kernel
theorem dX1_fillHands_7 : decode cX1_fillHands 7 = .ok (.if_icmp .ge 60, 3) := by decide +kernel
theorem dX1_fillHands_10 : decode cX1_fillHands 10 = .ok (.iconst 0, 1) := by decide +kernel
theorem dX1_fillHands_11 : decode cX1_fillHands 11 = .ok (.istore_n 2, 1) := by decide +kernel
theorem dX1_fillHands_12 : decode cX1_fillHands 12 = .ok (.iload_n 2, 1) := by decide +kernel
theorem dX1_fillHands_13 : decode cX1_fillHands 13 = .ok (.bipush 20, 2) := by decide +kernel
theorem dX1_fillHands_15 : decode cX1_fillHands 15 = .ok (.if_icmp .ge 46, 3) := by decide +kernel
theorem dX1_fillHands_18 : decode cX1_fillHands 18 = .ok (.aload_n 0, 1) := by decide +kernel
theorem dX1_fillHands_19 : decode cX1_fillHands 19 = .ok (.getfield 11, 3) := by decide +kernel
theorem dX1_fillHands_22 : decode cX1_fillHands 22 = .ok (.iload_n 1, 1) := by decide +kernel
theorem dX1_fillHands_23 : decode cX1_fillHands 23 = .ok (.aaload, 1) := by decide +kernel
theorem dX1_fillHands_24 : decode cX1_fillHands 24 = .ok (.getfield 188, 3) := by decide +kernel
theorem dX1_fillHands_27 : decode cX1_fillHands 27 = .ok (.ifCond .le 34, 3) := by decide +kernel
theorem dX1_fillHands_30 : decode cX1_fillHands 30 = .ok (.aload_n 0, 1) := by decide +kernel
theorem dX1_fillHands_31 : decode cX1_fillHands 31 = .ok (.getfield 11, 3) := by decide +kernel
theorem dX1_fillHands_34 : decode cX1_fillHands 34 = .ok (.iload_n 1, 1) := by decide +kernel
theorem dX1_fillHands_35 : decode cX1_fillHands 35 = .ok (.aaload, 1) := by decide +kernel
theorem dX1_fillHands_36 : decode cX1_fillHands 36 = .ok (.invokevirtual 191, 3) := by decide +kernel
theorem dX1_fillHands_39 : decode cX1_fillHands 39 = .ok (.ifCond .eq 22, 3) := by decide +kernel
theorem dX1_fillHands_42 : decode cX1_fillHands 42 = .ok (.aload_n 0, 1) := by decide +kernel
theorem dX1_fillHands_43 : decode cX1_fillHands 43 = .ok (.aload_n 0, 1) := by decide +kernel
theorem dX1_fillHands_44 : decode cX1_fillHands 44 = .ok (.getfield 11, 3) := by decide +kernel
theorem dX1_fillHands_47 : decode cX1_fillHands 47 = .ok (.iload_n 1, 1) := by decide +kernel
theorem dX1_fillHands_48 : decode cX1_fillHands 48 = .ok (.aaload, 1) := by decide +kernel
theorem dX1_fillHands_49 : decode cX1_fillHands 49 = .ok (.invokevirtual 195, 3) := by decide +kernel
theorem dX1_fillHands_52 : decode cX1_fillHands 52 = .ok (.invokevirtual 199, 3) := by decide +kernel
theorem dX1_fillHands_55 : decode cX1_fillHands 55 = .ok (.iinc 2 1, 3) := by decide +kernel
theorem dX1_fillHands_58 : decode cX1_fillHands 58 = .ok (.goto (-46), 3) := by decide +kernel
theorem dX1_fillHands_61 : decode cX1_fillHands 61 = .ok (.iinc 1 1, 3) := by decide +kernel
theorem dX1_fillHands_64 : decode cX1_fillHands 64 = .ok (.goto (-62), 3) := by decide +kernel
theorem dX1_fillHands_67 : decode cX1_fillHands 67 = .ok (.return_, 1) := by decide +kernel
theorem dX1_guestsCome_0 : decode cX1_guestsCome 0 = .ok (.iconst 0, 1) := by decide +kernel
theorem dX1_guestsCome_1 : decode cX1_guestsCome 1 = .ok (.istore_n 3, 1) := by decide +kernel
theorem dX1_guestsCome_2 : decode cX1_guestsCome 2 = .ok (.iload_n 3, 1) := by decide +kernel
theorem dX1_guestsCome_3 : decode cX1_guestsCome 3 = .ok (.iload_n 2, 1) := by decide +kernel
theorem dX1_guestsCome_4 : decode cX1_guestsCome 4 = .ok (.if_icmp .ge 69, 3) := by decide +kernel
theorem dX1_guestsCome_7 : decode cX1_guestsCome 7 = .ok (.aload_n 0, 1) := by decide +kernel
theorem dX1_guestsCome_8 : decode cX1_guestsCome 8 = .ok (.getfield 41, 3) := by decide +kernel
theorem dX1_guestsCome_11 : decode cX1_guestsCome 11 = .ok (.dup, 1) := by decide +kernel
theorem dX1_guestsCome_12 : decode cX1_guestsCome 12 = .ok (.getfield 202, 3) := by decide +kernel
theorem dX1_guestsCome_15 : decode cX1_guestsCome 15 = .ok (.iconst 1, 1) := by decide +kernel
theorem dX1_guestsCome_16 : decode cX1_guestsCome 16 = .ok (.iadd, 1) := by decide +kernel
theorem dX1_guestsCome_17 : decode cX1_guestsCome 17 = .ok (.putfield 202, 3) := by decide +kernel
theorem dX1_guestsCome_20 : decode cX1_guestsCome 20 = .ok (.aload_n 0, 1) := by decide +kernel
theorem dX1_guestsCome_21 : decode cX1_guestsCome 21 = .ok (.getfield 41, 3) := by decide +kernel
theorem dX1_guestsCome_24 : decode cX1_guestsCome 24 = .ok (.iload_n 1, 1) := by decide +kernel
theorem dX1_guestsCome_25 : decode cX1_guestsCome 25 = .ok (.invokevirtual 205, 3) := by decide +kernel
theorem dX1_guestsCome_28 : decode cX1_guestsCome 28 = .ok (.istore 4, 2) := by decide +kernel
theorem dX1_guestsCome_30 : decode cX1_guestsCome 30 = .ok (.iload 4, 2) := by decide +kernel
theorem dX1_guestsCome_32 : decode cX1_guestsCome 32 = .ok (.iconst (-1), 1) := by decide +kernel
theorem dX1_guestsCome_33 : decode cX1_guestsCome 33 = .ok (.if_icmp .ne 24, 3) := by decide +kernel
theorem dX1_guestsCome_36 : decode cX1_guestsCome 36 = .ok (.aload_n 0, 1) := by decide +kernel
theorem dX1_guestsCome_37 : decode cX1_guestsCome 37 = .ok (.getfield 41, 3) := by decide +kernel
theorem dX1_guestsCome_40 : decode cX1_guestsCome 40 = .ok (.dup, 1) := by decide +kernel
theorem dX1_guestsCome_41 : decode cX1_guestsCome 41 = .ok (.getfield 182, 3) := by decide +kernel
theorem dX1_guestsCome_44 : decode cX1_guestsCome 44 = .ok (.iconst 1, 1) := by decide +kernel
theorem dX1_guestsCome_45 : decode cX1_guestsCome 45 = .ok (.iadd, 1) := by decide +kernel
theorem dX1_guestsCome_46 : decode cX1_guestsCome 46 = .ok (.putfield 182, 3) := by decide +kernel
theorem dX1_guestsCome_49 : decode cX1_guestsCome 49 = .ok (.aload_n 0, 1) := by decide +kernel
theorem dX1_guestsCome_50 : decode cX1_guestsCome 50 = .ok (.iconst 0, 1) := by decide +kernel
theorem dX1_guestsCome_51 : decode cX1_guestsCome 51 = .ok (.putfield 24, 3) := by decide +kernel
theorem dX1_guestsCome_54 : decode cX1_guestsCome 54 = .ok (.goto 13, 3) := by decide +kernel
theorem dX1_guestsCome_57 : decode cX1_guestsCome 57 = .ok (.aload_n 0, 1) := by decide +kernel
theorem dX1_guestsCome_58 : decode cX1_guestsCome 58 = .ok (.iload 4, 2) := by decide +kernel
theorem dX1_guestsCome_60 : decode cX1_guestsCome 60 = .ok (.invokevirtual 179, 3) := by decide +kernel
theorem dX1_guestsCome_63 : decode cX1_guestsCome 63 = .ok (.aload_n 0, 1) := by decide +kernel
theorem dX1_guestsCome_64 : decode cX1_guestsCome 64 = .ok (.invokevirtual 149, 3) := by decide +kernel
theorem dX1_guestsCome_67 : decode cX1_guestsCome 67 = .ok (.iinc 3 1, 3) := by decide +kernel
theorem dX1_guestsCome_70 : decode cX1_guestsCome 70 = .ok (.goto (-68), 3) := by decide +kernel
theorem dX1_guestsCome_73 : decode cX1_guestsCome 73 = .ok (.return_, 1) := by decide +kernel
theorem dX1_guestAsks_0 : decode cX1_guestAsks 0 = .ok (.aload_n 0, 1) := by decide +kernel
theorem dX1_guestAsks_1 : decode cX1_guestAsks 1 = .ok (.getfield 41, 3) := by decide +kernel
theorem dX1_guestAsks_4 : decode cX1_guestAsks 4 = .ok (.getfield 166, 3) := by decide +kernel
theorem dX1_guestAsks_7 : decode cX1_guestAsks 7 = .ok (.iload_n 1, 1) := by decide +kernel
theorem dX1_guestAsks_8 : decode cX1_guestAsks 8 = .ok (.aload_n 0, 1) := by decide +kernel
theorem dX1_guestAsks_9 : decode cX1_guestAsks 9 = .ok (.getfield 21, 3) := by decide +kernel
theorem dX1_guestAsks_12 : decode cX1_guestAsks 12 = .ok (.aload_n 0, 1) := by decide +kernel
theorem dX1_guestAsks_13 : decode cX1_guestAsks 13 = .ok (.getfield 41, 3) := by decide +kernel
theorem dX1_guestAsks_16 : decode cX1_guestAsks 16 = .ok (.getfield 208, 3) := by decide +kernel
theorem dX1_guestAsks_19 : decode cX1_guestAsks 19 = .ok (.iadd, 1) := by decide +kernel
theorem dX1_guestAsks_20 : decode cX1_guestAsks 20 = .ok (.iastore, 1) := by decide +kernel
theorem dX1_guestAsks_21 : decode cX1_guestAsks 21 = .ok (.aload_n 0, 1) := by decide +kernel
theorem dX1_guestAsks_22 : decode cX1_guestAsks 22 = .ok (.iconst 0, 1) := by decide +kernel
theorem dX1_guestAsks_23 : decode cX1_guestAsks 23 = .ok (.aload_n 0, 1) := by decide +kernel
theorem dX1_guestAsks_24 : decode cX1_guestAsks 24 = .ok (.getfield 41, 3) := by decide +kernel
theorem dX1_guestAsks_27 : decode cX1_guestAsks 27 = .ok (.getfield 211, 3) := by decide +kernel
theorem dX1_guestAsks_30 : decode cX1_guestAsks 30 = .ok (.iload_n 1, 1) := by decide +kernel
theorem dX1_guestAsks_31 : decode cX1_guestAsks 31 = .ok (.iaload, 1) := by decide +kernel
theorem dX1_guestAsks_32 : decode cX1_guestAsks 32 = .ok (.sipush 1000, 3) := by decide +kernel
theorem dX1_guestAsks_35 : decode cX1_guestAsks 35 = .ok (.iload_n 1, 1) := by decide +kernel
theorem dX1_guestAsks_36 : decode cX1_guestAsks 36 = .ok (.iadd, 1) := by decide +kernel
theorem dX1_guestAsks_37 : decode cX1_guestAsks 37 = .ok (.invokevirtual 214, 3) := by decide +kernel
theorem dX1_guestAsks_40 : decode cX1_guestAsks 40 = .ok (.return_, 1) := by decide +kernel
theorem dX1_toAsk_0 : decode cX1_toAsk 0 = .ok (.aload_n 0, 1) := by decide +kernel
theorem dX1_toAsk_1 : decode cX1_toAsk 1 = .ok (.getfield 11, 3) := by decide +kernel
theorem dX1_toAsk_4 : decode cX1_toAsk 4 = .ok (.aload_n 0, 1) := by decide +kernel
theorem dX1_toAsk_5 : decode cX1_toAsk 5 = .ok (.getfield 34, 3) := by decide +kernel
theorem dX1_toAsk_8 : decode cX1_toAsk 8 = .ok (.getfield 139, 3) := by decide +kernel
theorem dX1_toAsk_11 : decode cX1_toAsk 11 = .ok (.iload_n 1, 1) := by decide +kernel
theorem dX1_toAsk_12 : decode cX1_toAsk 12 = .ok (.iaload, 1) := by decide +kernel
theorem dX1_toAsk_13 : decode cX1_toAsk 13 = .ok (.aaload, 1) := by decide +kernel
theorem dX1_toAsk_14 : decode cX1_toAsk 14 = .ok (.astore_n 2, 1) := by decide +kernel
theorem dX1_toAsk_15 : decode cX1_toAsk 15 = .ok (.aload_n 2, 1) := by decide +kernel
theorem dX1_toAsk_16 : decode cX1_toAsk 16 = .ok (.aload_n 0, 1) := by decide +kernel
theorem dX1_toAsk_17 : decode cX1_toAsk 17 = .ok (.getfield 21, 3) := by decide +kernel
theorem dX1_toAsk_20 : decode cX1_toAsk 20 = .ok (.invokevirtual 218, 3) := by decide +kernel
theorem dX1_toAsk_23 : decode cX1_toAsk 23 = .ok (.ifCond .eq 12, 3) := by decide +kernel
theorem dX1_toAsk_26 : decode cX1_toAsk 26 = .ok (.aload_n 0, 1) := by decide +kernel
theorem dX1_toAsk_27 : decode cX1_toAsk 27 = .ok (.iload_n 1, 1) := by decide +kernel
theorem dX1_toAsk_28 : decode cX1_toAsk 28 = .ok (.iconst 0, 1) := by decide +kernel
theorem dX1_toAsk_29 : decode cX1_toAsk 29 = .ok (.invokevirtual 145, 3) := by decide +kernel
theorem dX1_toAsk_32 : decode cX1_toAsk 32 = .ok (.goto 48, 3) := by decide +kernel
theorem dX1_toAsk_35 : decode cX1_toAsk 35 = .ok (.aload_n 0, 1) := by decide +kernel
theorem dX1_toAsk_36 : decode cX1_toAsk 36 = .ok (.getfield 34, 3) := by decide +kernel
theorem dX1_toAsk_39 : decode cX1_toAsk 39 = .ok (.iload_n 1, 1) := by decide +kernel
theorem dX1_toAsk_40 : decode cX1_toAsk 40 = .ok (.iconst 2, 1) := by decide +kernel
theorem dX1_toAsk_41 : decode cX1_toAsk 41 = .ok (.aload_n 0, 1) := by decide +kernel
theorem dX1_toAsk_42 : decode cX1_toAsk 42 = .ok (.getfield 21, 3) := by decide +kernel
theorem dX1_toAsk_45 : decode cX1_toAsk 45 = .ok (.aload_n 2, 1) := by decide +kernel
theorem dX1_toAsk_46 : decode cX1_toAsk 46 = .ok (.getfield 73, 3) := by decide +kernel
theorem dX1_toAsk_49 : decode cX1_toAsk 49 = .ok (.iconst 0, 1) := by decide +kernel
theorem dX1_toAsk_50 : decode cX1_toAsk 50 = .ok (.iaload, 1) := by decide +kernel
theorem dX1_toAsk_51 : decode cX1_toAsk 51 = .ok (.iadd, 1) := by decide +kernel
theorem dX1_toAsk_52 : decode cX1_toAsk 52 = .ok (.invokevirtual 221, 3) := by decide +kernel
theorem dX1_toAsk_55 : decode cX1_toAsk 55 = .ok (.aload_n 0, 1) := by decide +kernel
theorem dX1_toAsk_56 : decode cX1_toAsk 56 = .ok (.aload_n 0, 1) := by decide +kernel
theorem dX1_toAsk_57 : decode cX1_toAsk 57 = .ok (.getfield 34, 3) := by decide +kernel
theorem dX1_toAsk_60 : decode cX1_toAsk 60 = .ok (.getfield 139, 3) := by decide +kernel
theorem dX1_toAsk_63 : decode cX1_toAsk 63 = .ok (.iload_n 1, 1) := by decide +kernel
theorem dX1_toAsk_64 : decode cX1_toAsk 64 = .ok (.iaload, 1) := by decide +kernel
theorem dX1_toAsk_65 : decode cX1_toAsk 65 = .ok (.iconst 1, 1) := by decide +kernel
theorem dX1_toAsk_66 : decode cX1_toAsk 66 = .ok (.iadd, 1) := by decide +kernel
theorem dX1_toAsk_67 : decode cX1_toAsk 67 = .ok (.aload_n 0, 1) := by decide +kernel
theorem dX1_toAsk_68 : decode cX1_toAsk 68 = .ok (.getfield 34, 3) := by decide +kernel
theorem dX1_toAsk_71 : decode cX1_toAsk 71 = .ok (.getfield 224, 3) := by decide +kernel
theorem dX1_toAsk_74 : decode cX1_toAsk 74 = .ok (.iload_n 1, 1) := by decide +kernel
theorem dX1_toAsk_75 : decode cX1_toAsk 75 = .ok (.iaload, 1) := by decide +kernel
theorem dX1_toAsk_76 : decode cX1_toAsk 76 = .ok (.iload_n 1, 1) := by decide +kernel
theorem dX1_toAsk_77 : decode cX1_toAsk 77 = .ok (.invokevirtual 214, 3) := by decide +kernel
theorem dX1_toAsk_80 : decode cX1_toAsk 80 = .ok (.return_, 1) := by decide +kernel
theorem dX1_comes_0 : decode cX1_comes 0 = .ok (.iload_n 1, 1) := by decide +kernel
theorem dX1_comes_1 : decode cX1_comes 1 = .ok (.ifCond .lt 11, 3) := by decide +kernel
theorem dX1_comes_4 : decode cX1_comes 4 = .ok (.iload_n 1, 1) := by decide +kernel
theorem dX1_comes_5 : decode cX1_comes 5 = .ok (.aload_n 0, 1) := by decide +kernel
theorem dX1_comes_6 : decode cX1_comes 6 = .ok (.getfield 17, 3) := by decide +kernel
theorem dX1_comes_9 : decode cX1_comes 9 = .ok (.if_icmp .lt 4, 3) := by decide +kernel
theorem dX1_comes_12 : decode cX1_comes 12 = .ok (.return_, 1) := by decide +kernel
theorem dX1_comes_13 : decode cX1_comes 13 = .ok (.aload_n 0, 1) := by decide +kernel
theorem dX1_comes_14 : decode cX1_comes 14 = .ok (.getfield 11, 3) := by decide +kernel
theorem dX1_comes_17 : decode cX1_comes 17 = .ok (.iload_n 1, 1) := by decide +kernel
theorem dX1_comes_18 : decode cX1_comes 18 = .ok (.aaload, 1) := by decide +kernel
theorem dX1_comes_19 : decode cX1_comes 19 = .ok (.astore 4, 2) := by decide +kernel
theorem dX1_comes_21 : decode cX1_comes 21 = .ok (.aload 4, 2) := by decide +kernel
theorem dX1_comes_23 : decode cX1_comes 23 = .ok (.iload_n 2, 1) := by decide +kernel
theorem dX1_comes_24 : decode cX1_comes 24 = .ok (.aload_n 0, 1) := by decide +kernel
theorem dX1_comes_25 : decode cX1_comes 25 = .ok (.getfield 21, 3) := by decide +kernel
theorem dX1_comes_28 : decode cX1_comes 28 = .ok (.invokevirtual 225, 3) := by decide +kernel
theorem dX1_comes_31 : decode cX1_comes 31 = .ok (.ifCond .eq 21, 3) := by decide +kernel
theorem dX1_comes_34 : decode cX1_comes 34 = .ok (.aload 4, 2) := by decide +kernel
theorem dX1_comes_36 : decode cX1_comes 36 = .ok (.getfield 229, 3) := by decide +kernel
theorem dX1_comes_39 : decode cX1_comes 39 = .ok (.iconst 0, 1) := by decide +kernel
theorem dX1_comes_40 : decode cX1_comes 40 = .ok (.dup2, 1) := by decide +kernel
theorem dX1_comes_41 : decode cX1_comes 41 = .ok (.iaload, 1) := by decide +kernel
theorem dX1_comes_42 : decode cX1_comes 42 = .ok (.iconst 1, 1) := by decide +kernel
theorem dX1_comes_43 : decode cX1_comes 43 = .ok (.iadd, 1) := by decide +kernel
theorem dX1_comes_44 : decode cX1_comes 44 = .ok (.iastore, 1) := by decide +kernel
theorem dX1_comes_45 : decode cX1_comes 45 = .ok (.aload_n 0, 1) := by decide +kernel
theorem dX1_comes_46 : decode cX1_comes 46 = .ok (.iload_n 3, 1) := by decide +kernel
theorem dX1_comes_47 : decode cX1_comes 47 = .ok (.iconst 1, 1) := by decide +kernel
theorem dX1_comes_48 : decode cX1_comes 48 = .ok (.invokevirtual 232, 3) := by decide +kernel
theorem dX1_comes_51 : decode cX1_comes 51 = .ok (.return_, 1) := by decide +kernel
theorem dX1_comes_52 : decode cX1_comes 52 = .ok (.aload 4, 2) := by decide +kernel
theorem dX1_comes_54 : decode cX1_comes 54 = .ok (.invokevirtual 191, 3) := by decide +kernel
theorem dX1_comes_57 : decode cX1_comes 57 = .ok (.ifCond .eq 15, 3) := by decide +kernel
theorem dX1_comes_60 : decode cX1_comes 60 = .ok (.aload 4, 2) := by decide +kernel
theorem dX1_comes_62 : decode cX1_comes 62 = .ok (.getfield 188, 3) := by decide +kernel
theorem dX1_comes_65 : decode cX1_comes 65 = .ok (.ifCond .ne 7, 3) := by decide +kernel
theorem dX1_comes_68 : decode cX1_comes 68 = .ok (.iconst 1, 1) := by decide +kernel
theorem dX1_comes_69 : decode cX1_comes 69 = .ok (.goto 4, 3) := by decide +kernel
theorem dX1_comes_72 : decode cX1_comes 72 = .ok (.iconst 0, 1) := by decide +kernel
theorem dX1_comes_73 : decode cX1_comes 73 = .ok (.istore 5, 2) := by decide +kernel
theorem dX1_comes_75 : decode cX1_comes 75 = .ok (.aload 4, 2) := by decide +kernel
theorem dX1_comes_77 : decode cX1_comes 77 = .ok (.getfield 188, 3) := by decide +kernel
theorem dX1_comes_80 : decode cX1_comes 80 = .ok (.aload 4, 2) := by decide +kernel
theorem dX1_comes_82 : decode cX1_comes 82 = .ok (.getfield 73, 3) := by decide +kernel
theorem dX1_comes_85 : decode cX1_comes 85 = .ok (.bipush 9, 2) := by decide +kernel
theorem dX1_comes_87 : decode cX1_comes 87 = .ok (.iaload, 1) := by decide +kernel
theorem dX1_comes_88 : decode cX1_comes 88 = .ok (.if_icmp .ge 7, 3) := by decide +kernel
theorem dX1_comes_91 : decode cX1_comes 91 = .ok (.iconst 1, 1) := by decide +kernel
theorem dX1_comes_92 : decode cX1_comes 92 = .ok (.goto 4, 3) := by decide +kernel
theorem dX1_comes_95 : decode cX1_comes 95 = .ok (.iconst 0, 1) := by decide +kernel
theorem dX1_comes_96 : decode cX1_comes 96 = .ok (.istore 6, 2) := by decide +kernel
theorem dX1_comes_98 : decode cX1_comes 98 = .ok (.aload 4, 2) := by decide +kernel
theorem dX1_comes_100 : decode cX1_comes 100 = .ok (.getfield 73, 3) := by decide +kernel
theorem dX1_comes_103 : decode cX1_comes 103 = .ok (.bipush 6, 2) := by decide +kernel
theorem dX1_comes_105 : decode cX1_comes 105 = .ok (.iaload, 1) := by decide +kernel
theorem dX1_comes_106 : decode cX1_comes 106 = .ok (.ifCond .eq 18, 3) := by decide +kernel
theorem dX1_comes_109 : decode cX1_comes 109 = .ok (.aload 4, 2) := by decide +kernel
theorem dX1_comes_111 : decode cX1_comes 111 = .ok (.getfield 73, 3) := by decide +kernel
theorem dX1_comes_114 : decode cX1_comes 114 = .ok (.bipush 9, 2) := by decide +kernel
theorem dX1_comes_116 : decode cX1_comes 116 = .ok (.iaload, 1) := by decide +kernel
theorem dX1_comes_117 : decode cX1_comes 117 = .ok (.ifCond .le 7, 3) := by decide +kernel
theorem dX1_comes_120 : decode cX1_comes 120 = .ok (.iconst 1, 1) := by decide +kernel
theorem dX1_comes_121 : decode cX1_comes 121 = .ok (.goto 4, 3) := by decide +kernel
theorem dX1_comes_124 : decode cX1_comes 124 = .ok (.iconst 0, 1) := by decide +kernel
theorem dX1_comes_125 : decode cX1_comes 125 = .ok (.istore 7, 2) := by decide +kernel
theorem dX1_comes_127 : decode cX1_comes 127 = .ok (.iload 5, 2) := by decide +kernel
theorem dX1_comes_129 : decode cX1_comes 129 = .ok (.ifCond .ne 13, 3) := by decide +kernel
theorem dX1_comes_132 : decode cX1_comes 132 = .ok (.iload 6, 2) := by decide +kernel
theorem dX1_comes_134 : decode cX1_comes 134 = .ok (.ifCond .ne 8, 3) := by decide +kernel
theorem dX1_comes_137 : decode cX1_comes 137 = .ok (.iload 7, 2) := by decide +kernel
theorem dX1_comes_139 : decode cX1_comes 139 = .ok (.ifCond .eq 16, 3) := by decide +kernel
theorem dX1_comes_142 : decode cX1_comes 142 = .ok (.aload_n 0, 1) := by decide +kernel
theorem dX1_comes_143 : decode cX1_comes 143 = .ok (.getfield 34, 3) := by decide +kernel
theorem dX1_comes_146 : decode cX1_comes 146 = .ok (.iload_n 1, 1) := by decide +kernel
theorem dX1_comes_147 : decode cX1_comes 147 = .ok (.iload_n 2, 1) := by decide +kernel
theorem dX1_comes_148 : decode cX1_comes 148 = .ok (.iload_n 3, 1) := by decide +kernel
theorem dX1_comes_149 : decode cX1_comes 149 = .ok (.invokevirtual 235, 3) := by decide +kernel
theorem dX1_comes_152 : decode cX1_comes 152 = .ok (.goto 4, 3) := by decide +kernel
theorem dX1_comes_155 : decode cX1_comes 155 = .ok (.iconst (-1), 1) := by decide +kernel
theorem dX1_comes_156 : decode cX1_comes 156 = .ok (.istore 8, 2) := by decide +kernel
theorem dX1_comes_158 : decode cX1_comes 158 = .ok (.iload 8, 2) := by decide +kernel
theorem dX1_comes_160 : decode cX1_comes 160 = .ok (.iconst (-1), 1) := by decide +kernel
theorem dX1_comes_161 : decode cX1_comes 161 = .ok (.if_icmp .ne 11, 3) := by decide +kernel
theorem dX1_comes_164 : decode cX1_comes 164 = .ok (.aload_n 0, 1) := by decide +kernel
theorem dX1_comes_165 : decode cX1_comes 165 = .ok (.aload 4, 2) := by decide +kernel
theorem dX1_comes_167 : decode cX1_comes 167 = .ok (.iload_n 3, 1) := by decide +kernel
theorem dX1_comes_168 : decode cX1_comes 168 = .ok (.invokevirtual 238, 3) := by decide +kernel
theorem dX1_comes_171 : decode cX1_comes 171 = .ok (.return_, 1) := by decide +kernel
theorem dX1_comes_172 : decode cX1_comes 172 = .ok (.aload_n 0, 1) := by decide +kernel
theorem dX1_comes_173 : decode cX1_comes 173 = .ok (.iload_n 3, 1) := by decide +kernel
theorem dX1_comes_174 : decode cX1_comes 174 = .ok (.iload 8, 2) := by decide +kernel
theorem dX1_comes_176 : decode cX1_comes 176 = .ok (.invokevirtual 242, 3) := by decide +kernel
theorem dX1_comes_179 : decode cX1_comes 179 = .ok (.iload 5, 2) := by decide +kernel
theorem dX1_comes_181 : decode cX1_comes 181 = .ok (.ifCond .eq 12, 3) := by decide +kernel
theorem dX1_comes_184 : decode cX1_comes 184 = .ok (.aload_n 0, 1) := by decide +kernel
theorem dX1_comes_185 : decode cX1_comes 185 = .ok (.iload 8, 2) := by decide +kernel
theorem dX1_comes_187 : decode cX1_comes 187 = .ok (.invokevirtual 199, 3) := by decide +kernel
theorem dX1_comes_190 : decode cX1_comes 190 = .ok (.goto 63, 3) := by decide +kernel
theorem dX1_comes_193 : decode cX1_comes 193 = .ok (.iload 6, 2) := by decide +kernel
theorem dX1_comes_195 : decode cX1_comes 195 = .ok (.ifCond .eq 13, 3) := by decide +kernel
theorem dX1_comes_198 : decode cX1_comes 198 = .ok (.aload 4, 2) := by decide +kernel
theorem dX1_comes_200 : decode cX1_comes 200 = .ok (.iload 8, 2) := by decide +kernel
theorem dX1_comes_202 : decode cX1_comes 202 = .ok (.invokevirtual 245, 3) := by decide +kernel
theorem dX1_comes_205 : decode cX1_comes 205 = .ok (.goto 48, 3) := by decide +kernel
theorem dX1_comes_208 : decode cX1_comes 208 = .ok (.aload 4, 2) := by decide +kernel
theorem dX1_comes_210 : decode cX1_comes 210 = .ok (.invokevirtual 195, 3) := by decide +kernel
theorem dX1_comes_213 : decode cX1_comes 213 = .ok (.istore 9, 2) := by decide +kernel
theorem dX1_comes_215 : decode cX1_comes 215 = .ok (.aload 4, 2) := by decide +kernel
theorem dX1_comes_217 : decode cX1_comes 217 = .ok (.iload 8, 2) := by decide +kernel
theorem dX1_comes_219 : decode cX1_comes 219 = .ok (.invokevirtual 245, 3) := by decide +kernel
theorem dX1_comes_222 : decode cX1_comes 222 = .ok (.iload 9, 2) := by decide +kernel
theorem dX1_comes_224 : decode cX1_comes 224 = .ok (.iconst (-1), 1) := by decide +kernel
theorem dX1_comes_225 : decode cX1_comes 225 = .ok (.if_icmp .eq 28, 3) := by decide +kernel
theorem dX1_comes_228 : decode cX1_comes 228 = .ok (.aload_n 0, 1) := by decide +kernel
theorem dX1_comes_229 : decode cX1_comes 229 = .ok (.aload 4, 2) := by decide +kernel
theorem dX1_comes_231 : decode cX1_comes 231 = .ok (.aload_n 0, 1) := by decide +kernel
theorem dX1_comes_232 : decode cX1_comes 232 = .ok (.getfield 34, 3) := by decide +kernel
theorem dX1_comes_235 : decode cX1_comes 235 = .ok (.getfield 248, 3) := by decide +kernel
theorem dX1_comes_238 : decode cX1_comes 238 = .ok (.iload 9, 2) := by decide +kernel
theorem dX1_comes_240 : decode cX1_comes 240 = .ok (.iaload, 1) := by decide +kernel
theorem dX1_comes_241 : decode cX1_comes 241 = .ok (.invokevirtual 238, 3) := by decide +kernel
theorem dX1_comes_244 : decode cX1_comes 244 = .ok (.aload_n 0, 1) := by decide +kernel
theorem dX1_comes_245 : decode cX1_comes 245 = .ok (.getfield 34, 3) := by decide +kernel
theorem dX1_comes_248 : decode cX1_comes 248 = .ok (.iload 9, 2) := by decide +kernel
theorem dX1_comes_250 : decode cX1_comes 250 = .ok (.invokevirtual 251, 3) := by decide +kernel
theorem dX1_comes_253 : decode cX1_comes 253 = .ok (.return_, 1) := by decide +kernel
theorem dX1_setJobOf_0 : decode cX1_setJobOf 0 = .ok (.iload_n 1, 1) := by decide +kernel
theorem dX1_setJobOf_1 : decode cX1_setJobOf 1 = .ok (.sipush 1000, 3) := by decide +kernel
theorem dX1_setJobOf_4 : decode cX1_setJobOf 4 = .ok (.if_icmp .lt 20, 3) := by decide +kernel
theorem dX1_setJobOf_7 : decode cX1_setJobOf 7 = .ok (.aload_n 0, 1) := by decide +kernel
theorem dX1_setJobOf_8 : decode cX1_setJobOf 8 = .ok (.getfield 41, 3) := by decide +kernel
theorem dX1_setJobOf_11 : decode cX1_setJobOf 11 = .ok (.getfield 169, 3) := by decide +kernel
theorem dX1_setJobOf_14 : decode cX1_setJobOf 14 = .ok (.iload_n 1, 1) := by decide +kernel
theorem dX1_setJobOf_15 : decode cX1_setJobOf 15 = .ok (.sipush 1000, 3) := by decide +kernel
theorem dX1_setJobOf_18 : decode cX1_setJobOf 18 = .ok (.isub, 1) := by decide +kernel
theorem dX1_setJobOf_19 : decode cX1_setJobOf 19 = .ok (.iload_n 2, 1) := by decide +kernel
theorem dX1_setJobOf_20 : decode cX1_setJobOf 20 = .ok (.iastore, 1) := by decide +kernel
theorem dX1_setJobOf_21 : decode cX1_setJobOf 21 = .ok (.goto 13, 3) := by decide +kernel
theorem dX1_setJobOf_24 : decode cX1_setJobOf 24 = .ok (.aload_n 0, 1) := by decide +kernel
theorem dX1_setJobOf_25 : decode cX1_setJobOf 25 = .ok (.getfield 34, 3) := by decide +kernel
theorem dX1_setJobOf_28 : decode cX1_setJobOf 28 = .ok (.getfield 155, 3) := by decide +kernel
theorem dX1_setJobOf_31 : decode cX1_setJobOf 31 = .ok (.iload_n 1, 1) := by decide +kernel
theorem dX1_setJobOf_32 : decode cX1_setJobOf 32 = .ok (.iload_n 2, 1) := by decide +kernel
theorem dX1_setJobOf_33 : decode cX1_setJobOf 33 = .ok (.iastore, 1) := by decide +kernel
theorem dX1_setJobOf_34 : decode cX1_setJobOf 34 = .ok (.return_, 1) := by decide +kernel
theorem dX1_refuse_0 : decode cX1_refuse 0 = .ok (.aload_n 1, 1) := by decide +kernel
theorem dX1_refuse_1 : decode cX1_refuse 1 = .ok (.getfield 229, 3) := by decide +kernel
theorem dX1_refuse_4 : decode cX1_refuse 4 = .ok (.iconst 4, 1) := by decide +kernel
theorem dX1_refuse_5 : decode cX1_refuse 5 = .ok (.dup2, 1) := by decide +kernel
theorem dX1_refuse_6 : decode cX1_refuse 6 = .ok (.iaload, 1) := by decide +kernel
theorem dX1_refuse_7 : decode cX1_refuse 7 = .ok (.iconst 1, 1) := by decide +kernel
theorem dX1_refuse_8 : decode cX1_refuse 8 = .ok (.iadd, 1) := by decide +kernel
theorem dX1_refuse_9 : decode cX1_refuse 9 = .ok (.iastore, 1) := by decide +kernel
theorem dX1_refuse_10 : decode cX1_refuse 10 = .ok (.aload_n 0, 1) := by decide +kernel
theorem dX1_refuse_11 : decode cX1_refuse 11 = .ok (.iconst 0, 1) := by decide +kernel
theorem dX1_refuse_12 : decode cX1_refuse 12 = .ok (.putfield 24, 3) := by decide +kernel
theorem dX1_refuse_15 : decode cX1_refuse 15 = .ok (.aload_n 0, 1) := by decide +kernel
theorem dX1_refuse_16 : decode cX1_refuse 16 = .ok (.iload_n 2, 1) := by decide +kernel
theorem dX1_refuse_17 : decode cX1_refuse 17 = .ok (.iconst 0, 1) := by decide +kernel
theorem dX1_refuse_18 : decode cX1_refuse 18 = .ok (.invokevirtual 232, 3) := by decide +kernel
theorem dX1_refuse_21 : decode cX1_refuse 21 = .ok (.return_, 1) := by decide +kernel
theorem dX1_begin_0 : decode cX1_begin 0 = .ok (.aload_n 0, 1) := by decide +kernel
theorem dX1_begin_1 : decode cX1_begin 1 = .ok (.getfield 11, 3) := by decide +kernel
theorem dX1_begin_4 : decode cX1_begin 4 = .ok (.aload_n 0, 1) := by decide +kernel
theorem dX1_begin_5 : decode cX1_begin 5 = .ok (.getfield 34, 3) := by decide +kernel
theorem dX1_begin_8 : decode cX1_begin 8 = .ok (.getfield 139, 3) := by decide +kernel
theorem dX1_begin_11 : decode cX1_begin 11 = .ok (.iload_n 1, 1) := by decide +kernel
theorem dX1_begin_12 : decode cX1_begin 12 = .ok (.iaload, 1) := by decide +kernel
theorem dX1_begin_13 : decode cX1_begin 13 = .ok (.aaload, 1) := by decide +kernel
theorem dX1_begin_14 : decode cX1_begin 14 = .ok (.astore_n 2, 1) := by decide +kernel
theorem dX1_begin_15 : decode cX1_begin 15 = .ok (.aload_n 2, 1) := by decide +kernel
theorem dX1_begin_16 : decode cX1_begin 16 = .ok (.dup, 1) := by decide +kernel
theorem dX1_begin_17 : decode cX1_begin 17 = .ok (.getfield 254, 3) := by decide +kernel
theorem dX1_begin_20 : decode cX1_begin 20 = .ok (.iconst 1, 1) := by decide +kernel
theorem dX1_begin_21 : decode cX1_begin 21 = .ok (.iadd, 1) := by decide +kernel
theorem dX1_begin_22 : decode cX1_begin 22 = .ok (.putfield 254, 3) := by decide +kernel
theorem dX1_begin_25 : decode cX1_begin 25 = .ok (.aload_n 2, 1) := by decide +kernel
theorem dX1_begin_26 : decode cX1_begin 26 = .ok (.getfield 229, 3) := by decide +kernel
theorem dX1_begin_29 : decode cX1_begin 29 = .ok (.iconst 1, 1) := by decide +kernel
theorem dX1_begin_30 : decode cX1_begin 30 = .ok (.dup2, 1) := by decide +kernel
theorem dX1_begin_31 : decode cX1_begin 31 = .ok (.iaload, 1) := by decide +kernel
theorem dX1_begin_32 : decode cX1_begin 32 = .ok (.iconst 1, 1) := by decide +kernel
theorem dX1_begin_33 : decode cX1_begin 33 = .ok (.iadd, 1) := by decide +kernel
theorem dX1_begin_34 : decode cX1_begin 34 = .ok (.iastore, 1) := by decide +kernel
theorem dX1_begin_35 : decode cX1_begin 35 = .ok (.aload_n 0, 1) := by decide +kernel
theorem dX1_begin_36 : decode cX1_begin 36 = .ok (.getfield 34, 3) := by decide +kernel
theorem dX1_begin_39 : decode cX1_begin 39 = .ok (.iload_n 1, 1) := by decide +kernel
theorem dX1_begin_40 : decode cX1_begin 40 = .ok (.iconst 1, 1) := by decide +kernel
theorem dX1_begin_41 : decode cX1_begin 41 = .ok (.aload_n 0, 1) := by decide +kernel
theorem dX1_begin_42 : decode cX1_begin 42 = .ok (.getfield 21, 3) := by decide +kernel
theorem dX1_begin_45 : decode cX1_begin 45 = .ok (.aload_n 2, 1) := by decide +kernel
theorem dX1_begin_46 : decode cX1_begin 46 = .ok (.getfield 73, 3) := by decide +kernel
theorem dX1_begin_49 : decode cX1_begin 49 = .ok (.bipush 8, 2) := by decide +kernel
theorem dX1_begin_51 : decode cX1_begin 51 = .ok (.iaload, 1) := by decide +kernel
theorem dX1_begin_52 : decode cX1_begin 52 = .ok (.iadd, 1) := by decide +kernel
theorem dX1_begin_53 : decode cX1_begin 53 = .ok (.invokevirtual 221, 3) := by decide +kernel
theorem dX1_begin_56 : decode cX1_begin 56 = .ok (.return_, 1) := by decide +kernel
theorem dX1_giveUp_0 : decode cX1_giveUp 0 = .ok (.iload_n 1, 1) := by decide +kernel
theorem dX1_giveUp_1 : decode cX1_giveUp 1 = .ok (.iconst (-1), 1) := by decide +kernel
theorem dX1_giveUp_2 : decode cX1_giveUp 2 = .ok (.if_icmp .eq 13, 3) := by decide +kernel
theorem dX1_giveUp_5 : decode cX1_giveUp 5 = .ok (.aload_n 0, 1) := by decide +kernel
theorem dX1_giveUp_6 : decode cX1_giveUp 6 = .ok (.getfield 34, 3) := by decide +kernel
theorem dX1_giveUp_9 : decode cX1_giveUp 9 = .ok (.getfield 248, 3) := by decide +kernel
theorem dX1_giveUp_12 : decode cX1_giveUp 12 = .ok (.iload_n 1, 1) := by decide +kernel
theorem dX1_giveUp_13 : decode cX1_giveUp 13 = .ok (.iconst (-1), 1) := by decide +kernel
theorem dX1_giveUp_14 : decode cX1_giveUp 14 = .ok (.iastore, 1) := by decide +kernel
theorem dX1_giveUp_15 : decode cX1_giveUp 15 = .ok (.return_, 1) := by decide +kernel
theorem dX1_end_0 : decode cX1_end 0 = .ok (.aload_n 0, 1) := by decide +kernel
theorem dX1_end_1 : decode cX1_end 1 = .ok (.getfield 11, 3) := by decide +kernel
theorem dX1_end_4 : decode cX1_end 4 = .ok (.aload_n 0, 1) := by decide +kernel
theorem dX1_end_5 : decode cX1_end 5 = .ok (.getfield 34, 3) := by decide +kernel
theorem dX1_end_8 : decode cX1_end 8 = .ok (.getfield 139, 3) := by decide +kernel
theorem dX1_end_11 : decode cX1_end 11 = .ok (.iload_n 1, 1) := by decide +kernel
theorem dX1_end_12 : decode cX1_end 12 = .ok (.iaload, 1) := by decide +kernel
theorem dX1_end_13 : decode cX1_end 13 = .ok (.aaload, 1) := by decide +kernel
theorem dX1_end_14 : decode cX1_end 14 = .ok (.astore_n 3, 1) := by decide +kernel
theorem dX1_end_15 : decode cX1_end 15 = .ok (.aload_n 3, 1) := by decide +kernel
theorem dX1_end_16 : decode cX1_end 16 = .ok (.dup, 1) := by decide +kernel
theorem dX1_end_17 : decode cX1_end 17 = .ok (.getfield 254, 3) := by decide +kernel
theorem dX1_end_20 : decode cX1_end 20 = .ok (.iconst 1, 1) := by decide +kernel
theorem dX1_end_21 : decode cX1_end 21 = .ok (.isub, 1) := by decide +kernel
theorem dX1_end_22 : decode cX1_end 22 = .ok (.putfield 254, 3) := by decide +kernel
theorem dX1_end_25 : decode cX1_end 25 = .ok (.aload_n 3, 1) := by decide +kernel
theorem dX1_end_26 : decode cX1_end 26 = .ok (.getfield 229, 3) := by decide +kernel
theorem dX1_end_29 : decode cX1_end 29 = .ok (.iload_n 2, 1) := by decide +kernel
theorem dX1_end_30 : decode cX1_end 30 = .ok (.ifCond .eq 7, 3) := by decide +kernel
theorem dX1_end_33 : decode cX1_end 33 = .ok (.iconst 2, 1) := by decide +kernel
theorem dX1_end_34 : decode cX1_end 34 = .ok (.goto 4, 3) := by decide +kernel
theorem dX1_end_37 : decode cX1_end 37 = .ok (.iconst 3, 1) := by decide +kernel
theorem dX1_end_38 : decode cX1_end 38 = .ok (.dup2, 1) := by decide +kernel
theorem dX1_end_39 : decode cX1_end 39 = .ok (.iaload, 1) := by decide +kernel
theorem dX1_end_40 : decode cX1_end 40 = .ok (.iconst 1, 1) := by decide +kernel
theorem dX1_end_41 : decode cX1_end 41 = .ok (.iadd, 1) := by decide +kernel
theorem dX1_end_42 : decode cX1_end 42 = .ok (.iastore, 1) := by decide +kernel
theorem dX1_end_43 : decode cX1_end 43 = .ok (.iload_n 2, 1) := by decide +kernel
theorem dX1_end_44 : decode cX1_end 44 = .ok (.ifCond .eq 37, 3) := by decide +kernel
theorem dX1_end_47 : decode cX1_end 47 = .ok (.aload_n 3, 1) := by decide +kernel
theorem dX1_end_48 : decode cX1_end 48 = .ok (.getfield 73, 3) := by decide +kernel
theorem dX1_end_51 : decode cX1_end 51 = .ok (.iconst 3, 1) := by decide +kernel
theorem dX1_end_52 : decode cX1_end 52 = .ok (.iaload, 1) := by decide +kernel
theorem dX1_end_53 : decode cX1_end 53 = .ok (.ifCond .le 28, 3) := by decide +kernel
theorem dX1_end_56 : decode cX1_end 56 = .ok (.aload_n 3, 1) := by decide +kernel
theorem dX1_end_57 : decode cX1_end 57 = .ok (.getfield 257, 3) := by decide +kernel
theorem dX1_end_60 : decode cX1_end 60 = .ok (.aload_n 0, 1) := by decide +kernel
theorem dX1_end_61 : decode cX1_end 61 = .ok (.getfield 34, 3) := by decide +kernel
theorem dX1_end_64 : decode cX1_end 64 = .ok (.getfield 224, 3) := by decide +kernel
theorem dX1_end_67 : decode cX1_end 67 = .ok (.iload_n 1, 1) := by decide +kernel
theorem dX1_end_68 : decode cX1_end 68 = .ok (.iaload, 1) := by decide +kernel
theorem dX1_end_69 : decode cX1_end 69 = .ok (.aload_n 0, 1) := by decide +kernel
theorem dX1_end_70 : decode cX1_end 70 = .ok (.getfield 21, 3) := by decide +kernel
theorem dX1_end_73 : decode cX1_end 73 = .ok (.aload_n 3, 1) := by decide +kernel
theorem dX1_end_74 : decode cX1_end 74 = .ok (.getfield 73, 3) := by decide +kernel
theorem dX1_end_77 : decode cX1_end 77 = .ok (.iconst 3, 1) := by decide +kernel
theorem dX1_end_78 : decode cX1_end 78 = .ok (.iaload, 1) := by decide +kernel
theorem dX1_end_79 : decode cX1_end 79 = .ok (.iadd, 1) := by decide +kernel
theorem dX1_end_80 : decode cX1_end 80 = .ok (.iastore, 1) := by decide +kernel
theorem dX1_end_81 : decode cX1_end 81 = .ok (.aload_n 0, 1) := by decide +kernel
theorem dX1_end_82 : decode cX1_end 82 = .ok (.getfield 34, 3) := by decide +kernel
theorem dX1_end_85 : decode cX1_end 85 = .ok (.getfield 248, 3) := by decide +kernel
theorem dX1_end_88 : decode cX1_end 88 = .ok (.iload_n 1, 1) := by decide +kernel
theorem dX1_end_89 : decode cX1_end 89 = .ok (.iaload, 1) := by decide +kernel
theorem dX1_end_90 : decode cX1_end 90 = .ok (.istore 4, 2) := by decide +kernel
theorem dX1_end_92 : decode cX1_end 92 = .ok (.iload 4, 2) := by decide +kernel
theorem dX1_end_94 : decode cX1_end 94 = .ok (.iconst (-1), 1) := by decide +kernel
theorem dX1_end_95 : decode cX1_end 95 = .ok (.if_icmp .ne 23, 3) := by decide +kernel
theorem dX1_end_98 : decode cX1_end 98 = .ok (.aload_n 3, 1) := by decide +kernel
theorem dX1_end_99 : decode cX1_end 99 = .ok (.getfield 229, 3) := by decide +kernel
theorem dX1_end_102 : decode cX1_end 102 = .ok (.iconst 5, 1) := by decide +kernel
theorem dX1_end_103 : decode cX1_end 103 = .ok (.dup2, 1) := by decide +kernel
theorem dX1_end_104 : decode cX1_end 104 = .ok (.iaload, 1) := by decide +kernel
theorem dX1_end_105 : decode cX1_end 105 = .ok (.iconst 1, 1) := by decide +kernel
theorem dX1_end_106 : decode cX1_end 106 = .ok (.iadd, 1) := by decide +kernel
theorem dX1_end_107 : decode cX1_end 107 = .ok (.iastore, 1) := by decide +kernel
theorem dX1_end_108 : decode cX1_end 108 = .ok (.aload_n 0, 1) := by decide +kernel
theorem dX1_end_109 : decode cX1_end 109 = .ok (.dup, 1) := by decide +kernel
theorem dX1_end_110 : decode cX1_end 110 = .ok (.getfield 28, 3) := by decide +kernel
theorem dX1_end_113 : decode cX1_end 113 = .ok (.iconst 1, 1) := by decide +kernel
theorem dX1_end_114 : decode cX1_end 114 = .ok (.iadd, 1) := by decide +kernel
theorem dX1_end_115 : decode cX1_end 115 = .ok (.putfield 28, 3) := by decide +kernel
theorem dX1_end_118 : decode cX1_end 118 = .ok (.aload_n 0, 1) := by decide +kernel
theorem dX1_end_119 : decode cX1_end 119 = .ok (.getfield 34, 3) := by decide +kernel
theorem dX1_end_122 : decode cX1_end 122 = .ok (.iload_n 1, 1) := by decide +kernel
theorem dX1_end_123 : decode cX1_end 123 = .ok (.invokevirtual 251, 3) := by decide +kernel
theorem dX1_end_126 : decode cX1_end 126 = .ok (.aload_n 0, 1) := by decide +kernel
theorem dX1_end_127 : decode cX1_end 127 = .ok (.iload 4, 2) := by decide +kernel
theorem dX1_end_129 : decode cX1_end 129 = .ok (.iload_n 2, 1) := by decide +kernel
theorem dX1_end_130 : decode cX1_end 130 = .ok (.invokevirtual 232, 3) := by decide +kernel
theorem dX1_end_133 : decode cX1_end 133 = .ok (.return_, 1) := by decide +kernel
theorem dX1_answer_0 : decode cX1_answer 0 = .ok (.aload_n 0, 1) := by decide +kernel
theorem dX1_answer_1 : decode cX1_answer 1 = .ok (.iload_n 1, 1) := by decide +kernel
theorem dX1_answer_2 : decode cX1_answer 2 = .ok (.putfield 66, 3) := by decide +kernel
theorem dX1_answer_5 : decode cX1_answer 5 = .ok (.aload_n 0, 1) := by decide +kernel
theorem dX1_answer_6 : decode cX1_answer 6 = .ok (.iload_n 2, 1) := by decide +kernel
theorem dX1_answer_7 : decode cX1_answer 7 = .ok (.putfield 69, 3) := by decide +kernel
theorem dX1_answer_10 : decode cX1_answer 10 = .ok (.return_, 1) := by decide +kernel
theorem dX1_settle_0 : decode cX1_settle 0 = .ok (.iconst 0, 1) := by decide +kernel
theorem dX1_settle_1 : decode cX1_settle 1 = .ok (.istore_n 1, 1) := by decide +kernel
theorem dX1_settle_2 : decode cX1_settle 2 = .ok (.iload_n 1, 1) := by decide +kernel
theorem dX1_settle_3 : decode cX1_settle 3 = .ok (.bipush 6, 2) := by decide +kernel
theorem dX1_settle_5 : decode cX1_settle 5 = .ok (.if_icmp .gt 94, 3) := by decide +kernel
theorem dX1_settle_8 : decode cX1_settle 8 = .ok (.aload_n 0, 1) := by decide +kernel
theorem dX1_settle_9 : decode cX1_settle 9 = .ok (.getfield 66, 3) := by decide +kernel
theorem dX1_settle_12 : decode cX1_settle 12 = .ok (.iconst (-1), 1) := by decide +kernel
theorem dX1_settle_13 : decode cX1_settle 13 = .ok (.if_icmp .eq 86, 3) := by decide +kernel
theorem dX1_settle_16 : decode cX1_settle 16 = .ok (.aload_n 0, 1) := by decide +kernel
theorem dX1_settle_17 : decode cX1_settle 17 = .ok (.getfield 66, 3) := by decide +kernel
theorem dX1_settle_20 : decode cX1_settle 20 = .ok (.istore_n 2, 1) := by decide +kernel
theorem dX1_settle_21 : decode cX1_settle 21 = .ok (.aload_n 0, 1) := by decide +kernel
theorem dX1_settle_22 : decode cX1_settle 22 = .ok (.iconst (-1), 1) := by decide +kernel
theorem dX1_settle_23 : decode cX1_settle 23 = .ok (.putfield 66, 3) := by decide +kernel
theorem dX1_settle_26 : decode cX1_settle 26 = .ok (.iload_n 2, 1) := by decide +kernel
theorem dX1_settle_27 : decode cX1_settle 27 = .ok (.sipush 1000, 3) := by decide +kernel
theorem dX1_settle_30 : decode cX1_settle 30 = .ok (.if_icmp .lt 15, 3) := by decide +kernel
theorem dX1_settle_33 : decode cX1_settle 33 = .ok (.aload_n 0, 1) := by decide +kernel
theorem dX1_settle_34 : decode cX1_settle 34 = .ok (.iload_n 2, 1) := by decide +kernel
theorem dX1_settle_35 : decode cX1_settle 35 = .ok (.sipush 1000, 3) := by decide +kernel
theorem dX1_settle_38 : decode cX1_settle 38 = .ok (.isub, 1) := by decide +kernel
theorem dX1_settle_39 : decode cX1_settle 39 = .ok (.invokevirtual 260, 3) := by decide +kernel
theorem dX1_settle_42 : decode cX1_settle 42 = .ok (.goto 51, 3) := by decide +kernel
theorem dX1_settle_45 : decode cX1_settle 45 = .ok (.aload_n 0, 1) := by decide +kernel
theorem dX1_settle_46 : decode cX1_settle 46 = .ok (.getfield 69, 3) := by decide +kernel
theorem dX1_settle_49 : decode cX1_settle 49 = .ok (.ifCond .eq 30, 3) := by decide +kernel
theorem dX1_settle_52 : decode cX1_settle 52 = .ok (.aload_n 0, 1) := by decide +kernel
theorem dX1_settle_53 : decode cX1_settle 53 = .ok (.getfield 11, 3) := by decide +kernel
theorem dX1_settle_56 : decode cX1_settle 56 = .ok (.aload_n 0, 1) := by decide +kernel
theorem dX1_settle_57 : decode cX1_settle 57 = .ok (.getfield 34, 3) := by decide +kernel
theorem dX1_settle_60 : decode cX1_settle 60 = .ok (.getfield 139, 3) := by decide +kernel
theorem dX1_settle_63 : decode cX1_settle 63 = .ok (.iload_n 2, 1) := by decide +kernel
theorem dX1_settle_64 : decode cX1_settle 64 = .ok (.iaload, 1) := by decide +kernel
theorem dX1_settle_65 : decode cX1_settle 65 = .ok (.aaload, 1) := by decide +kernel
theorem dX1_settle_66 : decode cX1_settle 66 = .ok (.iconst 0, 1) := by decide +kernel
theorem dX1_settle_67 : decode cX1_settle 67 = .ok (.putfield 263, 3) := by decide +kernel
theorem dX1_settle_70 : decode cX1_settle 70 = .ok (.aload_n 0, 1) := by decide +kernel
theorem dX1_settle_71 : decode cX1_settle 71 = .ok (.iload_n 2, 1) := by decide +kernel
theorem dX1_settle_72 : decode cX1_settle 72 = .ok (.iconst 1, 1) := by decide +kernel
theorem dX1_settle_73 : decode cX1_settle 73 = .ok (.invokevirtual 145, 3) := by decide +kernel
theorem dX1_settle_76 : decode cX1_settle 76 = .ok (.goto 17, 3) := by decide +kernel
theorem dX1_settle_79 : decode cX1_settle 79 = .ok (.aload_n 0, 1) := by decide +kernel
theorem dX1_settle_80 : decode cX1_settle 80 = .ok (.iload_n 2, 1) := by decide +kernel
theorem dX1_settle_81 : decode cX1_settle 81 = .ok (.invokevirtual 161, 3) := by decide +kernel
theorem dX1_settle_84 : decode cX1_settle 84 = .ok (.ifCond .ne 9, 3) := by decide +kernel
theorem dX1_settle_87 : decode cX1_settle 87 = .ok (.aload_n 0, 1) := by decide +kernel
theorem dX1_settle_88 : decode cX1_settle 88 = .ok (.iload_n 2, 1) := by decide +kernel
theorem dX1_settle_89 : decode cX1_settle 89 = .ok (.iconst 0, 1) := by decide +kernel
theorem dX1_settle_90 : decode cX1_settle 90 = .ok (.invokevirtual 145, 3) := by decide +kernel
theorem dX1_settle_93 : decode cX1_settle 93 = .ok (.iinc 1 1, 3) := by decide +kernel
theorem dX1_settle_96 : decode cX1_settle 96 = .ok (.goto (-94), 3) := by decide +kernel
theorem dX1_settle_99 : decode cX1_settle 99 = .ok (.return_, 1) := by decide +kernel
theorem dX1_answerGuest_0 : decode cX1_answerGuest 0 = .ok (.aload_n 0, 1) := by decide +kernel
theorem dX1_answerGuest_1 : decode cX1_answerGuest 1 = .ok (.getfield 41, 3) := by decide +kernel
theorem dX1_answerGuest_4 : decode cX1_answerGuest 4 = .ok (.getfield 169, 3) := by decide +kernel
theorem dX1_answerGuest_7 : decode cX1_answerGuest 7 = .ok (.iload_n 1, 1) := by decide +kernel
theorem dX1_answerGuest_8 : decode cX1_answerGuest 8 = .ok (.iconst (-1), 1) := by decide +kernel
theorem dX1_answerGuest_9 : decode cX1_answerGuest 9 = .ok (.iastore, 1) := by decide +kernel
theorem dX1_answerGuest_10 : decode cX1_answerGuest 10 = .ok (.aload_n 0, 1) := by decide +kernel
theorem dX1_answerGuest_11 : decode cX1_answerGuest 11 = .ok (.getfield 69, 3) := by decide +kernel
theorem dX1_answerGuest_14 : decode cX1_answerGuest 14 = .ok (.ifCond .eq 30, 3) := by decide +kernel
theorem dX1_answerGuest_17 : decode cX1_answerGuest 17 = .ok (.aload_n 0, 1) := by decide +kernel
theorem dX1_answerGuest_18 : decode cX1_answerGuest 18 = .ok (.getfield 41, 3) := by decide +kernel
theorem dX1_answerGuest_21 : decode cX1_answerGuest 21 = .ok (.dup, 1) := by decide +kernel
theorem dX1_answerGuest_22 : decode cX1_answerGuest 22 = .ok (.getfield 266, 3) := by decide +kernel
theorem dX1_answerGuest_25 : decode cX1_answerGuest 25 = .ok (.iconst 1, 1) := by decide +kernel
theorem dX1_answerGuest_26 : decode cX1_answerGuest 26 = .ok (.iadd, 1) := by decide +kernel
theorem dX1_answerGuest_27 : decode cX1_answerGuest 27 = .ok (.putfield 266, 3) := by decide +kernel
theorem dX1_answerGuest_30 : decode cX1_answerGuest 30 = .ok (.aload_n 0, 1) := by decide +kernel
theorem dX1_answerGuest_31 : decode cX1_answerGuest 31 = .ok (.getfield 41, 3) := by decide +kernel
theorem dX1_answerGuest_34 : decode cX1_answerGuest 34 = .ok (.getfield 165, 3) := by decide +kernel
theorem dX1_answerGuest_37 : decode cX1_answerGuest 37 = .ok (.iload_n 1, 1) := by decide +kernel
theorem dX1_answerGuest_38 : decode cX1_answerGuest 38 = .ok (.invokevirtual 185, 3) := by decide +kernel
theorem dX1_answerGuest_41 : decode cX1_answerGuest 41 = .ok (.goto 18, 3) := by decide +kernel
theorem dX1_answerGuest_44 : decode cX1_answerGuest 44 = .ok (.aload_n 0, 1) := by decide +kernel
theorem dX1_answerGuest_45 : decode cX1_answerGuest 45 = .ok (.getfield 41, 3) := by decide +kernel
theorem dX1_answerGuest_48 : decode cX1_answerGuest 48 = .ok (.getfield 166, 3) := by decide +kernel
theorem dX1_answerGuest_51 : decode cX1_answerGuest 51 = .ok (.iload_n 1, 1) := by decide +kernel
theorem dX1_answerGuest_52 : decode cX1_answerGuest 52 = .ok (.aload_n 0, 1) := by decide +kernel
theorem dX1_answerGuest_53 : decode cX1_answerGuest 53 = .ok (.getfield 21, 3) := by decide +kernel
theorem dX1_answerGuest_56 : decode cX1_answerGuest 56 = .ok (.iconst 1, 1) := by decide +kernel
theorem dX1_answerGuest_57 : decode cX1_answerGuest 57 = .ok (.iadd, 1) := by decide +kernel
theorem dX1_answerGuest_58 : decode cX1_answerGuest 58 = .ok (.iastore, 1) := by decide +kernel
theorem dX1_answerGuest_59 : decode cX1_answerGuest 59 = .ok (.return_, 1) := by decide +kernel
theorem dX1_pausesAfterFail_0 : decode cX1_pausesAfterFail 0 = .ok (.aload_n 0, 1) := by decide +kernel
theorem dX1_pausesAfterFail_1 : decode cX1_pausesAfterFail 1 = .ok (.getfield 11, 3) := by decide +kernel
theorem dX1_pausesAfterFail_4 : decode cX1_pausesAfterFail 4 = .ok (.aload_n 0, 1) := by decide +kernel
theorem dX1_pausesAfterFail_5 : decode cX1_pausesAfterFail 5 = .ok (.getfield 34, 3) := by decide +kernel
theorem dX1_pausesAfterFail_8 : decode cX1_pausesAfterFail 8 = .ok (.getfield 139, 3) := by decide +kernel
theorem dX1_pausesAfterFail_11 : decode cX1_pausesAfterFail 11 = .ok (.iload_n 1, 1) := by decide +kernel
theorem dX1_pausesAfterFail_12 : decode cX1_pausesAfterFail 12 = .ok (.iaload, 1) := by decide +kernel
theorem dX1_pausesAfterFail_13 : decode cX1_pausesAfterFail 13 = .ok (.aaload, 1) := by decide +kernel
theorem dX1_pausesAfterFail_14 : decode cX1_pausesAfterFail 14 = .ok (.astore_n 2, 1) := by decide +kernel
theorem dX1_pausesAfterFail_15 : decode cX1_pausesAfterFail 15 = .ok (.aload_n 0, 1) := by decide +kernel
theorem dX1_pausesAfterFail_16 : decode cX1_pausesAfterFail 16 = .ok (.iconst 0, 1) := by decide +kernel
theorem dX1_pausesAfterFail_17 : decode cX1_pausesAfterFail 17 = .ok (.putfield 24, 3) := by decide +kernel
theorem dX1_pausesAfterFail_20 : decode cX1_pausesAfterFail 20 = .ok (.aload_n 2, 1) := by decide +kernel
theorem dX1_pausesAfterFail_21 : decode cX1_pausesAfterFail 21 = .ok (.getfield 229, 3) := by decide +kernel
theorem dX1_pausesAfterFail_24 : decode cX1_pausesAfterFail 24 = .ok (.bipush 6, 2) := by decide +kernel
theorem dX1_pausesAfterFail_26 : decode cX1_pausesAfterFail 26 = .ok (.dup2, 1) := by decide +kernel
theorem dX1_pausesAfterFail_27 : decode cX1_pausesAfterFail 27 = .ok (.iaload, 1) := by decide +kernel
theorem dX1_pausesAfterFail_28 : decode cX1_pausesAfterFail 28 = .ok (.iconst 1, 1) := by decide +kernel
theorem dX1_pausesAfterFail_29 : decode cX1_pausesAfterFail 29 = .ok (.iadd, 1) := by decide +kernel
theorem dX1_pausesAfterFail_30 : decode cX1_pausesAfterFail 30 = .ok (.iastore, 1) := by decide +kernel
theorem dX1_pausesAfterFail_31 : decode cX1_pausesAfterFail 31 = .ok (.aload_n 2, 1) := by decide +kernel
theorem dX1_pausesAfterFail_32 : decode cX1_pausesAfterFail 32 = .ok (.dup, 1) := by decide +kernel
theorem dX1_pausesAfterFail_33 : decode cX1_pausesAfterFail 33 = .ok (.getfield 263, 3) := by decide +kernel
theorem dX1_pausesAfterFail_36 : decode cX1_pausesAfterFail 36 = .ok (.iconst 1, 1) := by decide +kernel
theorem dX1_pausesAfterFail_37 : decode cX1_pausesAfterFail 37 = .ok (.iadd, 1) := by decide +kernel
theorem dX1_pausesAfterFail_38 : decode cX1_pausesAfterFail 38 = .ok (.putfield 263, 3) := by decide +kernel
theorem dX1_pausesAfterFail_41 : decode cX1_pausesAfterFail 41 = .ok (.aload_n 2, 1) := by decide +kernel
theorem dX1_pausesAfterFail_42 : decode cX1_pausesAfterFail 42 = .ok (.getfield 73, 3) := by decide +kernel
theorem dX1_pausesAfterFail_45 : decode cX1_pausesAfterFail 45 = .ok (.iconst 4, 1) := by decide +kernel
theorem dX1_pausesAfterFail_46 : decode cX1_pausesAfterFail 46 = .ok (.iaload, 1) := by decide +kernel
theorem dX1_pausesAfterFail_47 : decode cX1_pausesAfterFail 47 = .ok (.ifCond .le 36, 3) := by decide +kernel
theorem dX1_pausesAfterFail_50 : decode cX1_pausesAfterFail 50 = .ok (.aload_n 2, 1) := by decide +kernel
theorem dX1_pausesAfterFail_51 : decode cX1_pausesAfterFail 51 = .ok (.getfield 263, 3) := by decide +kernel
theorem dX1_pausesAfterFail_54 : decode cX1_pausesAfterFail 54 = .ok (.aload_n 2, 1) := by decide +kernel
theorem dX1_pausesAfterFail_55 : decode cX1_pausesAfterFail 55 = .ok (.getfield 73, 3) := by decide +kernel
theorem dX1_pausesAfterFail_58 : decode cX1_pausesAfterFail 58 = .ok (.iconst 4, 1) := by decide +kernel
theorem dX1_pausesAfterFail_59 : decode cX1_pausesAfterFail 59 = .ok (.iaload, 1) := by decide +kernel
theorem dX1_pausesAfterFail_60 : decode cX1_pausesAfterFail 60 = .ok (.if_icmp .lt 23, 3) := by decide +kernel
theorem dX1_pausesAfterFail_63 : decode cX1_pausesAfterFail 63 = .ok (.aload_n 2, 1) := by decide +kernel
theorem dX1_pausesAfterFail_64 : decode cX1_pausesAfterFail 64 = .ok (.aload_n 0, 1) := by decide +kernel
theorem dX1_pausesAfterFail_65 : decode cX1_pausesAfterFail 65 = .ok (.getfield 21, 3) := by decide +kernel
theorem dX1_pausesAfterFail_68 : decode cX1_pausesAfterFail 68 = .ok (.aload_n 2, 1) := by decide +kernel
theorem dX1_pausesAfterFail_69 : decode cX1_pausesAfterFail 69 = .ok (.getfield 73, 3) := by decide +kernel
theorem dX1_pausesAfterFail_72 : decode cX1_pausesAfterFail 72 = .ok (.iconst 5, 1) := by decide +kernel
theorem dX1_pausesAfterFail_73 : decode cX1_pausesAfterFail 73 = .ok (.iaload, 1) := by decide +kernel
theorem dX1_pausesAfterFail_74 : decode cX1_pausesAfterFail 74 = .ok (.iadd, 1) := by decide +kernel
theorem dX1_pausesAfterFail_75 : decode cX1_pausesAfterFail 75 = .ok (.putfield 269, 3) := by decide +kernel
theorem dX1_pausesAfterFail_78 : decode cX1_pausesAfterFail 78 = .ok (.aload_n 2, 1) := by decide +kernel
theorem dX1_pausesAfterFail_79 : decode cX1_pausesAfterFail 79 = .ok (.iconst 0, 1) := by decide +kernel
theorem dX1_pausesAfterFail_80 : decode cX1_pausesAfterFail 80 = .ok (.putfield 263, 3) := by decide +kernel
theorem dX1_pausesAfterFail_83 : decode cX1_pausesAfterFail 83 = .ok (.aload_n 0, 1) := by decide +kernel
theorem dX1_pausesAfterFail_84 : decode cX1_pausesAfterFail 84 = .ok (.getfield 34, 3) := by decide +kernel
theorem dX1_pausesAfterFail_87 : decode cX1_pausesAfterFail 87 = .ok (.getfield 155, 3) := by decide +kernel
theorem dX1_pausesAfterFail_90 : decode cX1_pausesAfterFail 90 = .ok (.iload_n 1, 1) := by decide +kernel
theorem dX1_pausesAfterFail_91 : decode cX1_pausesAfterFail 91 = .ok (.iconst (-1), 1) := by decide +kernel
theorem dX1_pausesAfterFail_92 : decode cX1_pausesAfterFail 92 = .ok (.iastore, 1) := by decide +kernel
theorem dX1_pausesAfterFail_93 : decode cX1_pausesAfterFail 93 = .ok (.aload_n 0, 1) := by decide +kernel
theorem dX1_pausesAfterFail_94 : decode cX1_pausesAfterFail 94 = .ok (.getfield 34, 3) := by decide +kernel
theorem dX1_pausesAfterFail_97 : decode cX1_pausesAfterFail 97 = .ok (.getfield 152, 3) := by decide +kernel
theorem dX1_pausesAfterFail_100 : decode cX1_pausesAfterFail 100 = .ok (.iload_n 1, 1) := by decide +kernel
theorem dX1_pausesAfterFail_101 : decode cX1_pausesAfterFail 101 = .ok (.iaload, 1) := by decide +kernel
theorem dX1_pausesAfterFail_102 : decode cX1_pausesAfterFail 102 = .ok (.aload_n 2, 1) := by decide +kernel
theorem dX1_pausesAfterFail_103 : decode cX1_pausesAfterFail 103 = .ok (.getfield 73, 3) := by decide +kernel
theorem dX1_pausesAfterFail_106 : decode cX1_pausesAfterFail 106 = .ok (.iconst 1, 1) := by decide +kernel
theorem dX1_pausesAfterFail_107 : decode cX1_pausesAfterFail 107 = .ok (.iaload, 1) := by decide +kernel
theorem dX1_pausesAfterFail_108 : decode cX1_pausesAfterFail 108 = .ok (.if_icmp .lt 5, 3) := by decide +kernel
theorem dX1_pausesAfterFail_111 : decode cX1_pausesAfterFail 111 = .ok (.iconst 0, 1) := by decide +kernel
theorem dX1_pausesAfterFail_112 : decode cX1_pausesAfterFail 112 = .ok (.ireturn, 1) := by decide +kernel
theorem dX1_pausesAfterFail_113 : decode cX1_pausesAfterFail 113 = .ok (.aload_n 0, 1) := by decide +kernel
theorem dX1_pausesAfterFail_114 : decode cX1_pausesAfterFail 114 = .ok (.getfield 34, 3) := by decide +kernel
theorem dX1_pausesAfterFail_117 : decode cX1_pausesAfterFail 117 = .ok (.iload_n 1, 1) := by decide +kernel
theorem dX1_pausesAfterFail_118 : decode cX1_pausesAfterFail 118 = .ok (.iconst 3, 1) := by decide +kernel
theorem dX1_pausesAfterFail_119 : decode cX1_pausesAfterFail 119 = .ok (.aload_n 0, 1) := by decide +kernel
theorem dX1_pausesAfterFail_120 : decode cX1_pausesAfterFail 120 = .ok (.getfield 21, 3) := by decide +kernel
theorem dX1_pausesAfterFail_123 : decode cX1_pausesAfterFail 123 = .ok (.iconst 1, 1) := by decide +kernel
theorem dX1_pausesAfterFail_124 : decode cX1_pausesAfterFail 124 = .ok (.iadd, 1) := by decide +kernel
theorem dX1_pausesAfterFail_125 : decode cX1_pausesAfterFail 125 = .ok (.aload_n 2, 1) := by decide +kernel
theorem dX1_pausesAfterFail_126 : decode cX1_pausesAfterFail 126 = .ok (.getfield 73, 3) := by decide +kernel
theorem dX1_pausesAfterFail_129 : decode cX1_pausesAfterFail 129 = .ok (.iconst 2, 1) := by decide +kernel
theorem dX1_pausesAfterFail_130 : decode cX1_pausesAfterFail 130 = .ok (.iaload, 1) := by decide +kernel
theorem dX1_pausesAfterFail_131 : decode cX1_pausesAfterFail 131 = .ok (.aload_n 0, 1) := by decide +kernel
theorem dX1_pausesAfterFail_132 : decode cX1_pausesAfterFail 132 = .ok (.getfield 34, 3) := by decide +kernel
theorem dX1_pausesAfterFail_135 : decode cX1_pausesAfterFail 135 = .ok (.getfield 152, 3) := by decide +kernel
theorem dX1_pausesAfterFail_138 : decode cX1_pausesAfterFail 138 = .ok (.iload_n 1, 1) := by decide +kernel
theorem dX1_pausesAfterFail_139 : decode cX1_pausesAfterFail 139 = .ok (.iaload, 1) := by decide +kernel
theorem dX1_pausesAfterFail_140 : decode cX1_pausesAfterFail 140 = .ok (.ishl, 1) := by decide +kernel
theorem dX1_pausesAfterFail_141 : decode cX1_pausesAfterFail 141 = .ok (.iadd, 1) := by decide +kernel
theorem dX1_pausesAfterFail_142 : decode cX1_pausesAfterFail 142 = .ok (.invokevirtual 221, 3) := by decide +kernel
theorem dX1_pausesAfterFail_145 : decode cX1_pausesAfterFail 145 = .ok (.iconst 1, 1) := by decide +kernel
theorem dX1_pausesAfterFail_146 : decode cX1_pausesAfterFail 146 = .ok (.ireturn, 1) := by decide +kernel
theorem dX1_copyFrom_0 : decode cX1_copyFrom 0 = .ok (.iconst 0, 1) := by decide +kernel
theorem dX1_copyFrom_1 : decode cX1_copyFrom 1 = .ok (.istore_n 2, 1) := by decide +kernel
theorem dX1_copyFrom_2 : decode cX1_copyFrom 2 = .ok (.iload_n 2, 1) := by decide +kernel
theorem dX1_copyFrom_3 : decode cX1_copyFrom 3 = .ok (.bipush 6, 2) := by decide +kernel
theorem dX1_copyFrom_5 : decode cX1_copyFrom 5 = .ok (.if_icmp .ge 24, 3) := by decide +kernel
theorem dX1_copyFrom_8 : decode cX1_copyFrom 8 = .ok (.aload_n 0, 1) := by decide +kernel
theorem dX1_copyFrom_9 : decode cX1_copyFrom 9 = .ok (.getfield 11, 3) := by decide +kernel
theorem dX1_copyFrom_12 : decode cX1_copyFrom 12 = .ok (.iload_n 2, 1) := by decide +kernel
theorem dX1_copyFrom_13 : decode cX1_copyFrom 13 = .ok (.aaload, 1) := by decide +kernel
theorem dX1_copyFrom_14 : decode cX1_copyFrom 14 = .ok (.aload_n 1, 1) := by decide +kernel
theorem dX1_copyFrom_15 : decode cX1_copyFrom 15 = .ok (.getfield 11, 3) := by decide +kernel
theorem dX1_copyFrom_18 : decode cX1_copyFrom 18 = .ok (.iload_n 2, 1) := by decide +kernel
theorem dX1_copyFrom_19 : decode cX1_copyFrom 19 = .ok (.aaload, 1) := by decide +kernel
theorem dX1_copyFrom_20 : decode cX1_copyFrom 20 = .ok (.invokevirtual 272, 3) := by decide +kernel
theorem dX1_copyFrom_23 : decode cX1_copyFrom 23 = .ok (.iinc 2 1, 3) := by decide +kernel
theorem dX1_copyFrom_26 : decode cX1_copyFrom 26 = .ok (.goto (-24), 3) := by decide +kernel
theorem dX1_copyFrom_29 : decode cX1_copyFrom 29 = .ok (.aload_n 0, 1) := by decide +kernel
theorem dX1_copyFrom_30 : decode cX1_copyFrom 30 = .ok (.aload_n 1, 1) := by decide +kernel
theorem dX1_copyFrom_31 : decode cX1_copyFrom 31 = .ok (.getfield 17, 3) := by decide +kernel
theorem dX1_copyFrom_34 : decode cX1_copyFrom 34 = .ok (.putfield 17, 3) := by decide +kernel
theorem dX1_copyFrom_37 : decode cX1_copyFrom 37 = .ok (.aload_n 0, 1) := by decide +kernel
theorem dX1_copyFrom_38 : decode cX1_copyFrom 38 = .ok (.aload_n 1, 1) := by decide +kernel
theorem dX1_copyFrom_39 : decode cX1_copyFrom 39 = .ok (.getfield 21, 3) := by decide +kernel
theorem dX1_copyFrom_42 : decode cX1_copyFrom 42 = .ok (.putfield 21, 3) := by decide +kernel
theorem dX1_copyFrom_45 : decode cX1_copyFrom 45 = .ok (.aload_n 0, 1) := by decide +kernel
theorem dX1_copyFrom_46 : decode cX1_copyFrom 46 = .ok (.aload_n 1, 1) := by decide +kernel
theorem dX1_copyFrom_47 : decode cX1_copyFrom 47 = .ok (.getfield 24, 3) := by decide +kernel
theorem dX1_copyFrom_50 : decode cX1_copyFrom 50 = .ok (.putfield 24, 3) := by decide +kernel
theorem dX1_copyFrom_53 : decode cX1_copyFrom 53 = .ok (.aload_n 0, 1) := by decide +kernel
theorem dX1_copyFrom_54 : decode cX1_copyFrom 54 = .ok (.aload_n 1, 1) := by decide +kernel
theorem dX1_copyFrom_55 : decode cX1_copyFrom 55 = .ok (.getfield 28, 3) := by decide +kernel
theorem dX1_copyFrom_58 : decode cX1_copyFrom 58 = .ok (.putfield 28, 3) := by decide +kernel
theorem dX1_copyFrom_61 : decode cX1_copyFrom 61 = .ok (.aload_n 0, 1) := by decide +kernel
theorem dX1_copyFrom_62 : decode cX1_copyFrom 62 = .ok (.getfield 34, 3) := by decide +kernel
theorem dX1_copyFrom_65 : decode cX1_copyFrom 65 = .ok (.aload_n 1, 1) := by decide +kernel
theorem dX1_copyFrom_66 : decode cX1_copyFrom 66 = .ok (.getfield 34, 3) := by decide +kernel
theorem dX1_copyFrom_69 : decode cX1_copyFrom 69 = .ok (.invokevirtual 276, 3) := by decide +kernel
theorem dX1_copyFrom_72 : decode cX1_copyFrom 72 = .ok (.aload_n 0, 1) := by decide +kernel
theorem dX1_copyFrom_73 : decode cX1_copyFrom 73 = .ok (.getfield 41, 3) := by decide +kernel
theorem dX1_copyFrom_76 : decode cX1_copyFrom 76 = .ok (.aload_n 1, 1) := by decide +kernel
theorem dX1_copyFrom_77 : decode cX1_copyFrom 77 = .ok (.getfield 41, 3) := by decide +kernel
theorem dX1_copyFrom_80 : decode cX1_copyFrom 80 = .ok (.invokevirtual 279, 3) := by decide +kernel
theorem dX1_copyFrom_83 : decode cX1_copyFrom 83 = .ok (.aload_n 0, 1) := by decide +kernel
theorem dX1_copyFrom_84 : decode cX1_copyFrom 84 = .ok (.getfield 55, 3) := by decide +kernel
theorem dX1_copyFrom_87 : decode cX1_copyFrom 87 = .ok (.aload_n 1, 1) := by decide +kernel
theorem dX1_copyFrom_88 : decode cX1_copyFrom 88 = .ok (.getfield 55, 3) := by decide +kernel
theorem dX1_copyFrom_91 : decode cX1_copyFrom 91 = .ok (.invokevirtual 282, 3) := by decide +kernel
theorem dX1_copyFrom_94 : decode cX1_copyFrom 94 = .ok (.return_, 1) := by decide +kernel
theorem dX2_init_0 : decode cX2_init 0 = .ok (.aload_n 0, 1) := by decide +kernel
theorem dX2_init_1 : decode cX2_init 1 = .ok (.invokespecial 3, 3) := by decide +kernel
theorem dX2_init_4 : decode cX2_init 4 = .ok (.aload_n 0, 1) := by decide +kernel
theorem dX2_init_5 : decode cX2_init 5 = .ok (.new 9, 3) := by decide +kernel
theorem dX2_init_8 : decode cX2_init 8 = .ok (.dup, 1) := by decide +kernel
theorem dX2_init_9 : decode cX2_init 9 = .ok (.bipush 120, 2) := by decide +kernel
theorem dX2_init_11 : decode cX2_init 11 = .ok (.invokespecial 11, 3) := by decide +kernel
theorem dX2_init_14 : decode cX2_init 14 = .ok (.putfield 14, 3) := by decide +kernel
theorem dX2_init_17 : decode cX2_init 17 = .ok (.aload_n 0, 1) := by decide +kernel
theorem dX2_init_18 : decode cX2_init 18 = .ok (.bipush 120, 2) := by decide +kernel
theorem dX2_init_20 : decode cX2_init 20 = .ok (.newarray .int, 2) := by decide +kernel
theorem dX2_init_22 : decode cX2_init 22 = .ok (.putfield 20, 3) := by decide +kernel
theorem dX2_init_25 : decode cX2_init 25 = .ok (.aload_n 0, 1) := by decide +kernel
theorem dX2_init_26 : decode cX2_init 26 = .ok (.bipush 120, 2) := by decide +kernel
theorem dX2_init_28 : decode cX2_init 28 = .ok (.newarray .int, 2) := by decide +kernel
theorem dX2_init_30 : decode cX2_init 30 = .ok (.putfield 24, 3) := by decide +kernel
theorem dX2_init_33 : decode cX2_init 33 = .ok (.aload_n 0, 1) := by decide +kernel
theorem dX2_init_34 : decode cX2_init 34 = .ok (.bipush 120, 2) := by decide +kernel
theorem dX2_init_36 : decode cX2_init 36 = .ok (.newarray .int, 2) := by decide +kernel
theorem dX2_init_38 : decode cX2_init 38 = .ok (.putfield 27, 3) := by decide +kernel
theorem dX2_init_41 : decode cX2_init 41 = .ok (.aload_n 0, 1) := by decide +kernel
theorem dX2_init_42 : decode cX2_init 42 = .ok (.bipush 120, 2) := by decide +kernel
theorem dX2_init_44 : decode cX2_init 44 = .ok (.newarray .int, 2) := by decide +kernel
theorem dX2_init_46 : decode cX2_init 46 = .ok (.putfield 30, 3) := by decide +kernel
theorem dX2_init_49 : decode cX2_init 49 = .ok (.aload_n 0, 1) := by decide +kernel
theorem dX2_init_50 : decode cX2_init 50 = .ok (.bipush 120, 2) := by decide +kernel
theorem dX2_init_52 : decode cX2_init 52 = .ok (.newarray .int, 2) := by decide +kernel
theorem dX2_init_54 : decode cX2_init 54 = .ok (.putfield 33, 3) := by decide +kernel
theorem dX2_init_57 : decode cX2_init 57 = .ok (.aload_n 0, 1) := by decide +kernel
theorem dX2_init_58 : decode cX2_init 58 = .ok (.bipush 120, 2) := by decide +kernel
theorem dX2_init_60 : decode cX2_init 60 = .ok (.newarray .int, 2) := by decide +kernel
theorem dX2_init_62 : decode cX2_init 62 = .ok (.putfield 36, 3) := by decide +kernel
theorem dX2_init_65 : decode cX2_init 65 = .ok (.aload_n 0, 1) := by decide +kernel
theorem dX2_init_66 : decode cX2_init 66 = .ok (.bipush 120, 2) := by decide +kernel
theorem dX2_init_68 : decode cX2_init 68 = .ok (.newarray .int, 2) := by decide +kernel
theorem dX2_init_70 : decode cX2_init 70 = .ok (.putfield 39, 3) := by decide +kernel
theorem dX2_init_73 : decode cX2_init 73 = .ok (.aload_n 0, 1) := by decide +kernel
theorem dX2_init_74 : decode cX2_init 74 = .ok (.bipush 120, 2) := by decide +kernel
theorem dX2_init_76 : decode cX2_init 76 = .ok (.newarray .int, 2) := by decide +kernel
theorem dX2_init_78 : decode cX2_init 78 = .ok (.putfield 42, 3) := by decide +kernel
theorem dX2_init_81 : decode cX2_init 81 = .ok (.aload_n 0, 1) := by decide +kernel
theorem dX2_init_82 : decode cX2_init 82 = .ok (.iconst 0, 1) := by decide +kernel
theorem dX2_init_83 : decode cX2_init 83 = .ok (.putfield 45, 3) := by decide +kernel
theorem dX2_init_86 : decode cX2_init 86 = .ok (.return_, 1) := by decide +kernel
theorem dX2_add_0 : decode cX2_add 0 = .ok (.aload_n 0, 1) := by decide +kernel
theorem dX2_add_1 : decode cX2_add 1 = .ok (.getfield 14, 3) := by decide +kernel
theorem dX2_add_4 : decode cX2_add 4 = .ok (.invokevirtual 49, 3) := by decide +kernel
theorem dX2_add_7 : decode cX2_add 7 = .ok (.istore 4, 2) := by decide +kernel
theorem dX2_add_9 : decode cX2_add 9 = .ok (.iload 4, 2) := by decide +kernel
theorem dX2_add_11 : decode cX2_add 11 = .ok (.iconst (-1), 1) := by decide +kernel
theorem dX2_add_12 : decode cX2_add 12 = .ok (.if_icmp .ne 5, 3) := by decide +kernel
theorem dX2_add_15 : decode cX2_add 15 = .ok (.iconst (-1), 1) := by decide +kernel
theorem dX2_add_16 : decode cX2_add 16 = .ok (.ireturn, 1) := by decide +kernel
theorem dX2_add_17 : decode cX2_add 17 = .ok (.aload_n 0, 1) := by decide +kernel
theorem dX2_add_18 : decode cX2_add 18 = .ok (.getfield 20, 3) := by decide +kernel
theorem dX2_add_21 : decode cX2_add 21 = .ok (.iload 4, 2) := by decide +kernel
theorem dX2_add_23 : decode cX2_add 23 = .ok (.aload_n 0, 1) := by decide +kernel
theorem dX2_add_24 : decode cX2_add 24 = .ok (.getfield 45, 3) := by decide +kernel
theorem dX2_add_27 : decode cX2_add 27 = .ok (.iastore, 1) := by decide +kernel
theorem dX2_add_28 : decode cX2_add 28 = .ok (.aload_n 0, 1) := by decide +kernel
theorem dX2_add_29 : decode cX2_add 29 = .ok (.dup, 1) := by decide +kernel
theorem dX2_add_30 : decode cX2_add 30 = .ok (.getfield 45, 3) := by decide +kernel
theorem dX2_add_33 : decode cX2_add 33 = .ok (.iconst 1, 1) := by decide +kernel
theorem dX2_add_34 : decode cX2_add 34 = .ok (.iadd, 1) := by decide +kernel
theorem dX2_add_35 : decode cX2_add 35 = .ok (.putfield 45, 3) := by decide +kernel
theorem dX2_add_38 : decode cX2_add 38 = .ok (.aload_n 0, 1) := by decide +kernel
theorem dX2_add_39 : decode cX2_add 39 = .ok (.getfield 24, 3) := by decide +kernel
theorem dX2_add_42 : decode cX2_add 42 = .ok (.iload 4, 2) := by decide +kernel
theorem dX2_add_44 : decode cX2_add 44 = .ok (.iload_n 1, 1) := by decide +kernel
theorem dX2_add_45 : decode cX2_add 45 = .ok (.iastore, 1) := by decide +kernel
theorem dX2_add_46 : decode cX2_add 46 = .ok (.aload_n 0, 1) := by decide +kernel
theorem dX2_add_47 : decode cX2_add 47 = .ok (.getfield 27, 3) := by decide +kernel
theorem dX2_add_50 : decode cX2_add 50 = .ok (.iload 4, 2) := by decide +kernel
theorem dX2_add_52 : decode cX2_add 52 = .ok (.iload_n 2, 1) := by decide +kernel
theorem dX2_add_53 : decode cX2_add 53 = .ok (.iastore, 1) := by decide +kernel
theorem dX2_add_54 : decode cX2_add 54 = .ok (.aload_n 0, 1) := by decide +kernel
theorem dX2_add_55 : decode cX2_add 55 = .ok (.getfield 30, 3) := by decide +kernel
theorem dX2_add_58 : decode cX2_add 58 = .ok (.iload 4, 2) := by decide +kernel
theorem dX2_add_60 : decode cX2_add 60 = .ok (.iconst 0, 1) := by decide +kernel
theorem dX2_add_61 : decode cX2_add 61 = .ok (.iastore, 1) := by decide +kernel
theorem dX2_add_62 : decode cX2_add 62 = .ok (.aload_n 0, 1) := by decide +kernel
theorem dX2_add_63 : decode cX2_add 63 = .ok (.getfield 33, 3) := by decide +kernel
theorem dX2_add_66 : decode cX2_add 66 = .ok (.iload 4, 2) := by decide +kernel
theorem dX2_add_68 : decode cX2_add 68 = .ok (.iload_n 3, 1) := by decide +kernel
theorem dX2_add_69 : decode cX2_add 69 = .ok (.iastore, 1) := by decide +kernel
theorem dX2_add_70 : decode cX2_add 70 = .ok (.aload_n 0, 1) := by decide +kernel
theorem dX2_add_71 : decode cX2_add 71 = .ok (.getfield 36, 3) := by decide +kernel
theorem dX2_add_74 : decode cX2_add 74 = .ok (.iload 4, 2) := by decide +kernel
theorem dX2_add_76 : decode cX2_add 76 = .ok (.iconst (-1), 1) := by decide +kernel
theorem dX2_add_77 : decode cX2_add 77 = .ok (.iastore, 1) := by decide +kernel
theorem dX2_add_78 : decode cX2_add 78 = .ok (.aload_n 0, 1) := by decide +kernel
theorem dX2_add_79 : decode cX2_add 79 = .ok (.getfield 39, 3) := by decide +kernel
theorem dX2_add_82 : decode cX2_add 82 = .ok (.iload 4, 2) := by decide +kernel
theorem dX2_add_84 : decode cX2_add 84 = .ok (.bipush (-4), 2) := by decide +kernel
theorem dX2_add_86 : decode cX2_add 86 = .ok (.iastore, 1) := by decide +kernel
theorem dX2_add_87 : decode cX2_add 87 = .ok (.aload_n 0, 1) := by decide +kernel
theorem dX2_add_88 : decode cX2_add 88 = .ok (.getfield 42, 3) := by decide +kernel
theorem dX2_add_91 : decode cX2_add 91 = .ok (.iload 4, 2) := by decide +kernel
theorem dX2_add_93 : decode cX2_add 93 = .ok (.iconst 0, 1) := by decide +kernel
theorem dX2_add_94 : decode cX2_add 94 = .ok (.iastore, 1) := by decide +kernel
theorem dX2_add_95 : decode cX2_add 95 = .ok (.iload 4, 2) := by decide +kernel
theorem dX2_add_97 : decode cX2_add 97 = .ok (.ireturn, 1) := by decide +kernel
theorem dX2_remove_0 : decode cX2_remove 0 = .ok (.aload_n 0, 1) := by decide +kernel
theorem dX2_remove_1 : decode cX2_remove 1 = .ok (.getfield 30, 3) := by decide +kernel
theorem dX2_remove_4 : decode cX2_remove 4 = .ok (.iload_n 1, 1) := by decide +kernel
theorem dX2_remove_5 : decode cX2_remove 5 = .ok (.iconst (-1), 1) := by decide +kernel
theorem dX2_remove_6 : decode cX2_remove 6 = .ok (.iastore, 1) := by decide +kernel
theorem dX2_remove_7 : decode cX2_remove 7 = .ok (.aload_n 0, 1) := by decide +kernel
theorem dX2_remove_8 : decode cX2_remove 8 = .ok (.getfield 14, 3) := by decide +kernel
theorem dX2_remove_11 : decode cX2_remove 11 = .ok (.iload_n 1, 1) := by decide +kernel
theorem dX2_remove_12 : decode cX2_remove 12 = .ok (.invokevirtual 53, 3) := by decide +kernel
theorem dX2_remove_15 : decode cX2_remove 15 = .ok (.return_, 1) := by decide +kernel
theorem dX2_become_0 : decode cX2_become 0 = .ok (.aload_n 0, 1) := by decide +kernel
theorem dX2_become_1 : decode cX2_become 1 = .ok (.getfield 30, 3) := by decide +kernel
theorem dX2_become_4 : decode cX2_become 4 = .ok (.iload_n 1, 1) := by decide +kernel
theorem dX2_become_5 : decode cX2_become 5 = .ok (.iload_n 2, 1) := by decide +kernel
theorem dX2_become_6 : decode cX2_become 6 = .ok (.iastore, 1) := by decide +kernel
theorem dX2_become_7 : decode cX2_become 7 = .ok (.aload_n 0, 1) := by decide +kernel
theorem dX2_become_8 : decode cX2_become 8 = .ok (.getfield 39, 3) := by decide +kernel
theorem dX2_become_11 : decode cX2_become 11 = .ok (.iload_n 1, 1) := by decide +kernel
theorem dX2_become_12 : decode cX2_become 12 = .ok (.iload_n 3, 1) := by decide +kernel
theorem dX2_become_13 : decode cX2_become 13 = .ok (.iastore, 1) := by decide +kernel
theorem dX2_become_14 : decode cX2_become 14 = .ok (.return_, 1) := by decide +kernel
theorem dX2_isDue_0 : decode cX2_isDue 0 = .ok (.aload_n 0, 1) := by decide +kernel
theorem dX2_isDue_1 : decode cX2_isDue 1 = .ok (.getfield 30, 3) := by decide +kernel
theorem dX2_isDue_4 : decode cX2_isDue 4 = .ok (.iload_n 1, 1) := by decide +kernel
theorem dX2_isDue_5 : decode cX2_isDue 5 = .ok (.iaload, 1) := by decide +kernel
theorem dX2_isDue_6 : decode cX2_isDue 6 = .ok (.iload_n 2, 1) := by decide +kernel
theorem dX2_isDue_7 : decode cX2_isDue 7 = .ok (.if_icmp .ne 17, 3) := by decide +kernel
theorem dX2_isDue_10 : decode cX2_isDue 10 = .ok (.aload_n 0, 1) := by decide +kernel
theorem dX2_isDue_11 : decode cX2_isDue 11 = .ok (.getfield 39, 3) := by decide +kernel
theorem dX2_isDue_14 : decode cX2_isDue 14 = .ok (.iload_n 1, 1) := by decide +kernel
theorem dX2_isDue_15 : decode cX2_isDue 15 = .ok (.iaload, 1) := by decide +kernel
theorem dX2_isDue_16 : decode cX2_isDue 16 = .ok (.iload_n 3, 1) := by decide +kernel
theorem dX2_isDue_17 : decode cX2_isDue 17 = .ok (.if_icmp .ne 7, 3) := by decide +kernel
theorem dX2_isDue_20 : decode cX2_isDue 20 = .ok (.iconst 1, 1) := by decide +kernel
theorem dX2_isDue_21 : decode cX2_isDue 21 = .ok (.goto 4, 3) := by decide +kernel
theorem dX2_isDue_24 : decode cX2_isDue 24 = .ok (.iconst 0, 1) := by decide +kernel
theorem dX2_isDue_25 : decode cX2_isDue 25 = .ok (.ireturn, 1) := by decide +kernel
theorem dX2_howMany_0 : decode cX2_howMany 0 = .ok (.iconst 0, 1) := by decide +kernel
theorem dX2_howMany_1 : decode cX2_howMany 1 = .ok (.istore_n 3, 1) := by decide +kernel
theorem dX2_howMany_2 : decode cX2_howMany 2 = .ok (.aload_n 0, 1) := by decide +kernel
theorem dX2_howMany_3 : decode cX2_howMany 3 = .ok (.getfield 14, 3) := by decide +kernel
theorem dX2_howMany_6 : decode cX2_howMany 6 = .ok (.getfield 56, 3) := by decide +kernel
theorem dX2_howMany_9 : decode cX2_howMany 9 = .ok (.istore 4, 2) := by decide +kernel
theorem dX2_howMany_11 : decode cX2_howMany 11 = .ok (.iconst 0, 1) := by decide +kernel
theorem dX2_howMany_12 : decode cX2_howMany 12 = .ok (.istore 5, 2) := by decide +kernel
theorem dX2_howMany_14 : decode cX2_howMany 14 = .ok (.iload 5, 2) := by decide +kernel
theorem dX2_howMany_16 : decode cX2_howMany 16 = .ok (.aload_n 0, 1) := by decide +kernel
theorem dX2_howMany_17 : decode cX2_howMany 17 = .ok (.getfield 14, 3) := by decide +kernel
theorem dX2_howMany_20 : decode cX2_howMany 20 = .ok (.getfield 59, 3) := by decide +kernel
theorem dX2_howMany_23 : decode cX2_howMany 23 = .ok (.if_icmp .ge 52, 3) := by decide +kernel
theorem dX2_howMany_26 : decode cX2_howMany 26 = .ok (.iload 4, 2) := by decide +kernel
theorem dX2_howMany_28 : decode cX2_howMany 28 = .ok (.iconst (-1), 1) := by decide +kernel
theorem dX2_howMany_29 : decode cX2_howMany 29 = .ok (.if_icmp .eq 46, 3) := by decide +kernel
theorem dX2_howMany_32 : decode cX2_howMany 32 = .ok (.aload_n 0, 1) := by decide +kernel
theorem dX2_howMany_33 : decode cX2_howMany 33 = .ok (.getfield 24, 3) := by decide +kernel
theorem dX2_howMany_36 : decode cX2_howMany 36 = .ok (.iload 4, 2) := by decide +kernel
theorem dX2_howMany_38 : decode cX2_howMany 38 = .ok (.iaload, 1) := by decide +kernel
theorem dX2_howMany_39 : decode cX2_howMany 39 = .ok (.iload_n 1, 1) := by decide +kernel
theorem dX2_howMany_40 : decode cX2_howMany 40 = .ok (.if_icmp .ne 17, 3) := by decide +kernel
theorem dX2_howMany_43 : decode cX2_howMany 43 = .ok (.aload_n 0, 1) := by decide +kernel
theorem dX2_howMany_44 : decode cX2_howMany 44 = .ok (.getfield 30, 3) := by decide +kernel
theorem dX2_howMany_47 : decode cX2_howMany 47 = .ok (.iload 4, 2) := by decide +kernel
theorem dX2_howMany_49 : decode cX2_howMany 49 = .ok (.iaload, 1) := by decide +kernel
theorem dX2_howMany_50 : decode cX2_howMany 50 = .ok (.iload_n 2, 1) := by decide +kernel
theorem dX2_howMany_51 : decode cX2_howMany 51 = .ok (.if_icmp .ne 6, 3) := by decide +kernel
theorem dX2_howMany_54 : decode cX2_howMany 54 = .ok (.iinc 3 1, 3) := by decide +kernel
theorem dX2_howMany_57 : decode cX2_howMany 57 = .ok (.aload_n 0, 1) := by decide +kernel
theorem dX2_howMany_58 : decode cX2_howMany 58 = .ok (.getfield 14, 3) := by decide +kernel
theorem dX2_howMany_61 : decode cX2_howMany 61 = .ok (.getfield 62, 3) := by decide +kernel
theorem dX2_howMany_64 : decode cX2_howMany 64 = .ok (.iload 4, 2) := by decide +kernel
theorem dX2_howMany_66 : decode cX2_howMany 66 = .ok (.iaload, 1) := by decide +kernel
theorem dX2_howMany_67 : decode cX2_howMany 67 = .ok (.istore 4, 2) := by decide +kernel
theorem dX2_howMany_69 : decode cX2_howMany 69 = .ok (.iinc 5 1, 3) := by decide +kernel
theorem dX2_howMany_72 : decode cX2_howMany 72 = .ok (.goto (-58), 3) := by decide +kernel
theorem dX2_howMany_75 : decode cX2_howMany 75 = .ok (.iload_n 3, 1) := by decide +kernel
theorem dX2_howMany_76 : decode cX2_howMany 76 = .ok (.ireturn, 1) := by decide +kernel
theorem dX2_copyFrom_0 : decode cX2_copyFrom 0 = .ok (.aload_n 0, 1) := by decide +kernel
theorem dX2_copyFrom_1 : decode cX2_copyFrom 1 = .ok (.getfield 14, 3) := by decide +kernel
theorem dX2_copyFrom_4 : decode cX2_copyFrom 4 = .ok (.aload_n 1, 1) := by decide +kernel
theorem dX2_copyFrom_5 : decode cX2_copyFrom 5 = .ok (.getfield 14, 3) := by decide +kernel
theorem dX2_copyFrom_8 : decode cX2_copyFrom 8 = .ok (.invokevirtual 65, 3) := by decide +kernel
theorem dX2_copyFrom_11 : decode cX2_copyFrom 11 = .ok (.aload_n 1, 1) := by decide +kernel
theorem dX2_copyFrom_12 : decode cX2_copyFrom 12 = .ok (.getfield 20, 3) := by decide +kernel
theorem dX2_copyFrom_15 : decode cX2_copyFrom 15 = .ok (.iconst 0, 1) := by decide +kernel
theorem dX2_copyFrom_16 : decode cX2_copyFrom 16 = .ok (.aload_n 0, 1) := by decide +kernel
theorem dX2_copyFrom_17 : decode cX2_copyFrom 17 = .ok (.getfield 20, 3) := by decide +kernel
theorem dX2_copyFrom_20 : decode cX2_copyFrom 20 = .ok (.iconst 0, 1) := by decide +kernel
theorem dX2_copyFrom_21 : decode cX2_copyFrom 21 = .ok (.bipush 120, 2) := by decide +kernel
theorem dX2_copyFrom_23 : decode cX2_copyFrom 23 = .ok (.invokestatic 69, 3) := by decide +kernel
theorem dX2_copyFrom_26 : decode cX2_copyFrom 26 = .ok (.aload_n 1, 1) := by decide +kernel
theorem dX2_copyFrom_27 : decode cX2_copyFrom 27 = .ok (.getfield 24, 3) := by decide +kernel
theorem dX2_copyFrom_30 : decode cX2_copyFrom 30 = .ok (.iconst 0, 1) := by decide +kernel
theorem dX2_copyFrom_31 : decode cX2_copyFrom 31 = .ok (.aload_n 0, 1) := by decide +kernel
theorem dX2_copyFrom_32 : decode cX2_copyFrom 32 = .ok (.getfield 24, 3) := by decide +kernel
theorem dX2_copyFrom_35 : decode cX2_copyFrom 35 = .ok (.iconst 0, 1) := by decide +kernel
theorem dX2_copyFrom_36 : decode cX2_copyFrom 36 = .ok (.bipush 120, 2) := by decide +kernel
theorem dX2_copyFrom_38 : decode cX2_copyFrom 38 = .ok (.invokestatic 69, 3) := by decide +kernel
theorem dX2_copyFrom_41 : decode cX2_copyFrom 41 = .ok (.aload_n 1, 1) := by decide +kernel
theorem dX2_copyFrom_42 : decode cX2_copyFrom 42 = .ok (.getfield 27, 3) := by decide +kernel
theorem dX2_copyFrom_45 : decode cX2_copyFrom 45 = .ok (.iconst 0, 1) := by decide +kernel
theorem dX2_copyFrom_46 : decode cX2_copyFrom 46 = .ok (.aload_n 0, 1) := by decide +kernel
theorem dX2_copyFrom_47 : decode cX2_copyFrom 47 = .ok (.getfield 27, 3) := by decide +kernel
theorem dX2_copyFrom_50 : decode cX2_copyFrom 50 = .ok (.iconst 0, 1) := by decide +kernel
theorem dX2_copyFrom_51 : decode cX2_copyFrom 51 = .ok (.bipush 120, 2) := by decide +kernel
theorem dX2_copyFrom_53 : decode cX2_copyFrom 53 = .ok (.invokestatic 69, 3) := by decide +kernel
theorem dX2_copyFrom_56 : decode cX2_copyFrom 56 = .ok (.aload_n 1, 1) := by decide +kernel
theorem dX2_copyFrom_57 : decode cX2_copyFrom 57 = .ok (.getfield 30, 3) := by decide +kernel
theorem dX2_copyFrom_60 : decode cX2_copyFrom 60 = .ok (.iconst 0, 1) := by decide +kernel
theorem dX2_copyFrom_61 : decode cX2_copyFrom 61 = .ok (.aload_n 0, 1) := by decide +kernel
theorem dX2_copyFrom_62 : decode cX2_copyFrom 62 = .ok (.getfield 30, 3) := by decide +kernel
theorem dX2_copyFrom_65 : decode cX2_copyFrom 65 = .ok (.iconst 0, 1) := by decide +kernel
theorem dX2_copyFrom_66 : decode cX2_copyFrom 66 = .ok (.bipush 120, 2) := by decide +kernel
theorem dX2_copyFrom_68 : decode cX2_copyFrom 68 = .ok (.invokestatic 69, 3) := by decide +kernel
theorem dX2_copyFrom_71 : decode cX2_copyFrom 71 = .ok (.aload_n 1, 1) := by decide +kernel
theorem dX2_copyFrom_72 : decode cX2_copyFrom 72 = .ok (.getfield 33, 3) := by decide +kernel
theorem dX2_copyFrom_75 : decode cX2_copyFrom 75 = .ok (.iconst 0, 1) := by decide +kernel
theorem dX2_copyFrom_76 : decode cX2_copyFrom 76 = .ok (.aload_n 0, 1) := by decide +kernel
theorem dX2_copyFrom_77 : decode cX2_copyFrom 77 = .ok (.getfield 33, 3) := by decide +kernel
theorem dX2_copyFrom_80 : decode cX2_copyFrom 80 = .ok (.iconst 0, 1) := by decide +kernel
theorem dX2_copyFrom_81 : decode cX2_copyFrom 81 = .ok (.bipush 120, 2) := by decide +kernel
theorem dX2_copyFrom_83 : decode cX2_copyFrom 83 = .ok (.invokestatic 69, 3) := by decide +kernel
theorem dX2_copyFrom_86 : decode cX2_copyFrom 86 = .ok (.aload_n 1, 1) := by decide +kernel
theorem dX2_copyFrom_87 : decode cX2_copyFrom 87 = .ok (.getfield 36, 3) := by decide +kernel
theorem dX2_copyFrom_90 : decode cX2_copyFrom 90 = .ok (.iconst 0, 1) := by decide +kernel
theorem dX2_copyFrom_91 : decode cX2_copyFrom 91 = .ok (.aload_n 0, 1) := by decide +kernel
theorem dX2_copyFrom_92 : decode cX2_copyFrom 92 = .ok (.getfield 36, 3) := by decide +kernel
theorem dX2_copyFrom_95 : decode cX2_copyFrom 95 = .ok (.iconst 0, 1) := by decide +kernel
theorem dX2_copyFrom_96 : decode cX2_copyFrom 96 = .ok (.bipush 120, 2) := by decide +kernel
theorem dX2_copyFrom_98 : decode cX2_copyFrom 98 = .ok (.invokestatic 69, 3) := by decide +kernel
theorem dX2_copyFrom_101 : decode cX2_copyFrom 101 = .ok (.aload_n 1, 1) := by decide +kernel
theorem dX2_copyFrom_102 : decode cX2_copyFrom 102 = .ok (.getfield 39, 3) := by decide +kernel
theorem dX2_copyFrom_105 : decode cX2_copyFrom 105 = .ok (.iconst 0, 1) := by decide +kernel
theorem dX2_copyFrom_106 : decode cX2_copyFrom 106 = .ok (.aload_n 0, 1) := by decide +kernel
theorem dX2_copyFrom_107 : decode cX2_copyFrom 107 = .ok (.getfield 39, 3) := by decide +kernel
theorem dX2_copyFrom_110 : decode cX2_copyFrom 110 = .ok (.iconst 0, 1) := by decide +kernel
theorem dX2_copyFrom_111 : decode cX2_copyFrom 111 = .ok (.bipush 120, 2) := by decide +kernel
theorem dX2_copyFrom_113 : decode cX2_copyFrom 113 = .ok (.invokestatic 69, 3) := by decide +kernel
theorem dX2_copyFrom_116 : decode cX2_copyFrom 116 = .ok (.aload_n 1, 1) := by decide +kernel
theorem dX2_copyFrom_117 : decode cX2_copyFrom 117 = .ok (.getfield 42, 3) := by decide +kernel
theorem dX2_copyFrom_120 : decode cX2_copyFrom 120 = .ok (.iconst 0, 1) := by decide +kernel
theorem dX2_copyFrom_121 : decode cX2_copyFrom 121 = .ok (.aload_n 0, 1) := by decide +kernel
theorem dX2_copyFrom_122 : decode cX2_copyFrom 122 = .ok (.getfield 42, 3) := by decide +kernel
theorem dX2_copyFrom_125 : decode cX2_copyFrom 125 = .ok (.iconst 0, 1) := by decide +kernel
theorem dX2_copyFrom_126 : decode cX2_copyFrom 126 = .ok (.bipush 120, 2) := by decide +kernel
theorem dX2_copyFrom_128 : decode cX2_copyFrom 128 = .ok (.invokestatic 69, 3) := by decide +kernel
theorem dX2_copyFrom_131 : decode cX2_copyFrom 131 = .ok (.aload_n 0, 1) := by decide +kernel
theorem dX2_copyFrom_132 : decode cX2_copyFrom 132 = .ok (.aload_n 1, 1) := by decide +kernel
theorem dX2_copyFrom_133 : decode cX2_copyFrom 133 = .ok (.getfield 45, 3) := by decide +kernel
theorem dX2_copyFrom_136 : decode cX2_copyFrom 136 = .ok (.putfield 45, 3) := by decide +kernel
theorem dX2_copyFrom_139 : decode cX2_copyFrom 139 = .ok (.return_, 1) := by decide +kernel
theorem dX3_init_0 : decode cX3_init 0 = .ok (.aload_n 0, 1) := by decide +kernel
theorem dX3_init_1 : decode cX3_init 1 = .ok (.invokespecial 3, 3) := by decide +kernel
theorem dX3_init_4 : decode cX3_init 4 = .ok (.aload_n 0, 1) := by decide +kernel
theorem dX3_init_5 : decode cX3_init 5 = .ok (.iconst (-1), 1) := by decide +kernel
theorem dX3_init_6 : decode cX3_init 6 = .ok (.putfield 9, 3) := by decide +kernel
theorem dX3_init_9 : decode cX3_init 9 = .ok (.aload_n 0, 1) := by decide +kernel
theorem dX3_init_10 : decode cX3_init 10 = .ok (.iconst (-1), 1) := by decide +kernel
theorem dX3_init_11 : decode cX3_init 11 = .ok (.putfield 15, 3) := by decide +kernel
theorem dX3_init_14 : decode cX3_init 14 = .ok (.aload_n 0, 1) := by decide +kernel
theorem dX3_init_15 : decode cX3_init 15 = .ok (.iconst 0, 1) := by decide +kernel
theorem dX3_init_16 : decode cX3_init 16 = .ok (.putfield 18, 3) := by decide +kernel
theorem dX3_init_19 : decode cX3_init 19 = .ok (.aload_n 0, 1) := by decide +kernel
theorem dX3_init_20 : decode cX3_init 20 = .ok (.iconst 0, 1) := by decide +kernel
theorem dX3_init_21 : decode cX3_init 21 = .ok (.putfield 21, 3) := by decide +kernel
theorem dX3_init_24 : decode cX3_init 24 = .ok (.iconst 1, 1) := by decide +kernel
theorem dX3_init_25 : decode cX3_init 25 = .ok (.iload_n 1, 1) := by decide +kernel
theorem dX3_init_26 : decode cX3_init 26 = .ok (.invokestatic 24, 3) := by decide +kernel
theorem dX3_init_29 : decode cX3_init 29 = .ok (.istore_n 2, 1) := by decide +kernel
theorem dX3_init_30 : decode cX3_init 30 = .ok (.aload_n 0, 1) := by decide +kernel
theorem dX3_init_31 : decode cX3_init 31 = .ok (.iload_n 2, 1) := by decide +kernel
theorem dX3_init_32 : decode cX3_init 32 = .ok (.newarray .int, 2) := by decide +kernel
theorem dX3_init_34 : decode cX3_init 34 = .ok (.putfield 30, 3) := by decide +kernel
theorem dX3_init_37 : decode cX3_init 37 = .ok (.aload_n 0, 1) := by decide +kernel
theorem dX3_init_38 : decode cX3_init 38 = .ok (.iload_n 2, 1) := by decide +kernel
theorem dX3_init_39 : decode cX3_init 39 = .ok (.newarray .int, 2) := by decide +kernel
theorem dX3_init_41 : decode cX3_init 41 = .ok (.putfield 34, 3) := by decide +kernel
theorem dX3_init_44 : decode cX3_init 44 = .ok (.iconst 0, 1) := by decide +kernel
theorem dX3_init_45 : decode cX3_init 45 = .ok (.istore_n 3, 1) := by decide +kernel
theorem dX3_init_46 : decode cX3_init 46 = .ok (.iload_n 3, 1) := by decide +kernel
theorem dX3_init_47 : decode cX3_init 47 = .ok (.iload_n 2, 1) := by decide +kernel
theorem dX3_init_48 : decode cX3_init 48 = .ok (.if_icmp .ge 29, 3) := by decide +kernel
theorem dX3_init_51 : decode cX3_init 51 = .ok (.aload_n 0, 1) := by decide +kernel
theorem dX3_init_52 : decode cX3_init 52 = .ok (.getfield 34, 3) := by decide +kernel
theorem dX3_init_55 : decode cX3_init 55 = .ok (.iload_n 3, 1) := by decide +kernel
theorem dX3_init_56 : decode cX3_init 56 = .ok (.iload_n 3, 1) := by decide +kernel
theorem dX3_init_57 : decode cX3_init 57 = .ok (.iconst 1, 1) := by decide +kernel
theorem dX3_init_58 : decode cX3_init 58 = .ok (.iadd, 1) := by decide +kernel
theorem dX3_init_59 : decode cX3_init 59 = .ok (.iload_n 2, 1) := by decide +kernel
theorem dX3_init_60 : decode cX3_init 60 = .ok (.if_icmp .ge 9, 3) := by decide +kernel
theorem dX3_init_63 : decode cX3_init 63 = .ok (.iload_n 3, 1) := by decide +kernel
theorem dX3_init_64 : decode cX3_init 64 = .ok (.iconst 1, 1) := by decide +kernel
theorem dX3_init_65 : decode cX3_init 65 = .ok (.iadd, 1) := by decide +kernel
theorem dX3_init_66 : decode cX3_init 66 = .ok (.goto 4, 3) := by decide +kernel
theorem dX3_init_69 : decode cX3_init 69 = .ok (.iconst (-1), 1) := by decide +kernel
theorem dX3_init_70 : decode cX3_init 70 = .ok (.iastore, 1) := by decide +kernel
theorem dX3_init_71 : decode cX3_init 71 = .ok (.iinc 3 1, 3) := by decide +kernel
theorem dX3_init_74 : decode cX3_init 74 = .ok (.goto (-28), 3) := by decide +kernel
theorem dX3_init_77 : decode cX3_init 77 = .ok (.return_, 1) := by decide +kernel
theorem dX3_take_0 : decode cX3_take 0 = .ok (.aload_n 0, 1) := by decide +kernel
theorem dX3_take_1 : decode cX3_take 1 = .ok (.getfield 18, 3) := by decide +kernel
theorem dX3_take_4 : decode cX3_take 4 = .ok (.istore_n 1, 1) := by decide +kernel
theorem dX3_take_5 : decode cX3_take 5 = .ok (.iload_n 1, 1) := by decide +kernel
theorem dX3_take_6 : decode cX3_take 6 = .ok (.iconst (-1), 1) := by decide +kernel
theorem dX3_take_7 : decode cX3_take 7 = .ok (.if_icmp .ne 5, 3) := by decide +kernel
theorem dX3_take_10 : decode cX3_take 10 = .ok (.iconst (-1), 1) := by decide +kernel
theorem dX3_take_11 : decode cX3_take 11 = .ok (.ireturn, 1) := by decide +kernel
theorem dX3_take_12 : decode cX3_take 12 = .ok (.aload_n 0, 1) := by decide +kernel
theorem dX3_take_13 : decode cX3_take 13 = .ok (.aload_n 0, 1) := by decide +kernel
theorem dX3_take_14 : decode cX3_take 14 = .ok (.getfield 34, 3) := by decide +kernel
theorem dX3_take_17 : decode cX3_take 17 = .ok (.iload_n 1, 1) := by decide +kernel
theorem dX3_take_18 : decode cX3_take 18 = .ok (.iaload, 1) := by decide +kernel
theorem dX3_take_19 : decode cX3_take 19 = .ok (.putfield 18, 3) := by decide +kernel
theorem dX3_take_22 : decode cX3_take 22 = .ok (.aload_n 0, 1) := by decide +kernel
theorem dX3_take_23 : decode cX3_take 23 = .ok (.getfield 30, 3) := by decide +kernel
theorem dX3_take_26 : decode cX3_take 26 = .ok (.iload_n 1, 1) := by decide +kernel
theorem dX3_take_27 : decode cX3_take 27 = .ok (.aload_n 0, 1) := by decide +kernel
theorem dX3_take_28 : decode cX3_take 28 = .ok (.getfield 15, 3) := by decide +kernel
theorem dX3_take_31 : decode cX3_take 31 = .ok (.iastore, 1) := by decide +kernel
theorem dX3_take_32 : decode cX3_take 32 = .ok (.aload_n 0, 1) := by decide +kernel
theorem dX3_take_33 : decode cX3_take 33 = .ok (.getfield 34, 3) := by decide +kernel
theorem dX3_take_36 : decode cX3_take 36 = .ok (.iload_n 1, 1) := by decide +kernel
theorem dX3_take_37 : decode cX3_take 37 = .ok (.iconst (-1), 1) := by decide +kernel
theorem dX3_take_38 : decode cX3_take 38 = .ok (.iastore, 1) := by decide +kernel
theorem dX3_take_39 : decode cX3_take 39 = .ok (.aload_n 0, 1) := by decide +kernel
theorem dX3_take_40 : decode cX3_take 40 = .ok (.getfield 15, 3) := by decide +kernel
theorem dX3_take_43 : decode cX3_take 43 = .ok (.iconst (-1), 1) := by decide +kernel
theorem dX3_take_44 : decode cX3_take 44 = .ok (.if_icmp .ne 11, 3) := by decide +kernel
theorem dX3_take_47 : decode cX3_take 47 = .ok (.aload_n 0, 1) := by decide +kernel
theorem dX3_take_48 : decode cX3_take 48 = .ok (.iload_n 1, 1) := by decide +kernel
theorem dX3_take_49 : decode cX3_take 49 = .ok (.putfield 9, 3) := by decide +kernel
theorem dX3_take_52 : decode cX3_take 52 = .ok (.goto 13, 3) := by decide +kernel
theorem dX3_take_55 : decode cX3_take 55 = .ok (.aload_n 0, 1) := by decide +kernel
theorem dX3_take_56 : decode cX3_take 56 = .ok (.getfield 34, 3) := by decide +kernel
theorem dX3_take_59 : decode cX3_take 59 = .ok (.aload_n 0, 1) := by decide +kernel
theorem dX3_take_60 : decode cX3_take 60 = .ok (.getfield 15, 3) := by decide +kernel
theorem dX3_take_63 : decode cX3_take 63 = .ok (.iload_n 1, 1) := by decide +kernel
theorem dX3_take_64 : decode cX3_take 64 = .ok (.iastore, 1) := by decide +kernel
theorem dX3_take_65 : decode cX3_take 65 = .ok (.aload_n 0, 1) := by decide +kernel
theorem dX3_take_66 : decode cX3_take 66 = .ok (.iload_n 1, 1) := by decide +kernel
theorem dX3_take_67 : decode cX3_take 67 = .ok (.putfield 15, 3) := by decide +kernel
theorem dX3_take_70 : decode cX3_take 70 = .ok (.aload_n 0, 1) := by decide +kernel
theorem dX3_take_71 : decode cX3_take 71 = .ok (.dup, 1) := by decide +kernel
theorem dX3_take_72 : decode cX3_take 72 = .ok (.getfield 21, 3) := by decide +kernel
theorem dX3_take_75 : decode cX3_take 75 = .ok (.iconst 1, 1) := by decide +kernel
theorem dX3_take_76 : decode cX3_take 76 = .ok (.iadd, 1) := by decide +kernel
theorem dX3_take_77 : decode cX3_take 77 = .ok (.putfield 21, 3) := by decide +kernel
theorem dX3_take_80 : decode cX3_take 80 = .ok (.iload_n 1, 1) := by decide +kernel
theorem dX3_take_81 : decode cX3_take 81 = .ok (.ireturn, 1) := by decide +kernel
theorem dX3_giveBack_0 : decode cX3_giveBack 0 = .ok (.iload_n 1, 1) := by decide +kernel
theorem dX3_giveBack_1 : decode cX3_giveBack 1 = .ok (.ifCond .lt 12, 3) := by decide +kernel
theorem dX3_giveBack_4 : decode cX3_giveBack 4 = .ok (.iload_n 1, 1) := by decide +kernel
theorem dX3_giveBack_5 : decode cX3_giveBack 5 = .ok (.aload_n 0, 1) := by decide +kernel
theorem dX3_giveBack_6 : decode cX3_giveBack 6 = .ok (.getfield 30, 3) := by decide +kernel
theorem dX3_giveBack_9 : decode cX3_giveBack 9 = .ok (.arraylength, 1) := by decide +kernel
theorem dX3_giveBack_10 : decode cX3_giveBack 10 = .ok (.if_icmp .lt 4, 3) := by decide +kernel
theorem dX3_giveBack_13 : decode cX3_giveBack 13 = .ok (.return_, 1) := by decide +kernel
theorem dX3_giveBack_14 : decode cX3_giveBack 14 = .ok (.aload_n 0, 1) := by decide +kernel
theorem dX3_giveBack_15 : decode cX3_giveBack 15 = .ok (.getfield 30, 3) := by decide +kernel
theorem dX3_giveBack_18 : decode cX3_giveBack 18 = .ok (.iload_n 1, 1) := by decide +kernel
theorem dX3_giveBack_19 : decode cX3_giveBack 19 = .ok (.iaload, 1) := by decide +kernel
theorem dX3_giveBack_20 : decode cX3_giveBack 20 = .ok (.istore_n 2, 1) := by decide +kernel
theorem dX3_giveBack_21 : decode cX3_giveBack 21 = .ok (.aload_n 0, 1) := by decide +kernel
theorem dX3_giveBack_22 : decode cX3_giveBack 22 = .ok (.getfield 34, 3) := by decide +kernel
theorem dX3_giveBack_25 : decode cX3_giveBack 25 = .ok (.iload_n 1, 1) := by decide +kernel
theorem dX3_giveBack_26 : decode cX3_giveBack 26 = .ok (.iaload, 1) := by decide +kernel
theorem dX3_giveBack_27 : decode cX3_giveBack 27 = .ok (.istore_n 3, 1) := by decide +kernel
theorem dX3_giveBack_28 : decode cX3_giveBack 28 = .ok (.iload_n 2, 1) := by decide +kernel
theorem dX3_giveBack_29 : decode cX3_giveBack 29 = .ok (.iconst (-1), 1) := by decide +kernel
theorem dX3_giveBack_30 : decode cX3_giveBack 30 = .ok (.if_icmp .ne 11, 3) := by decide +kernel
theorem dX3_giveBack_33 : decode cX3_giveBack 33 = .ok (.aload_n 0, 1) := by decide +kernel
theorem dX3_giveBack_34 : decode cX3_giveBack 34 = .ok (.iload_n 3, 1) := by decide +kernel
theorem dX3_giveBack_35 : decode cX3_giveBack 35 = .ok (.putfield 9, 3) := by decide +kernel
theorem dX3_giveBack_38 : decode cX3_giveBack 38 = .ok (.goto 10, 3) := by decide +kernel
theorem dX3_giveBack_41 : decode cX3_giveBack 41 = .ok (.aload_n 0, 1) := by decide +kernel
theorem dX3_giveBack_42 : decode cX3_giveBack 42 = .ok (.getfield 34, 3) := by decide +kernel
theorem dX3_giveBack_45 : decode cX3_giveBack 45 = .ok (.iload_n 2, 1) := by decide +kernel
theorem dX3_giveBack_46 : decode cX3_giveBack 46 = .ok (.iload_n 3, 1) := by decide +kernel
theorem dX3_giveBack_47 : decode cX3_giveBack 47 = .ok (.iastore, 1) := by decide +kernel
theorem dX3_giveBack_48 : decode cX3_giveBack 48 = .ok (.iload_n 3, 1) := by decide +kernel
theorem dX3_giveBack_49 : decode cX3_giveBack 49 = .ok (.iconst (-1), 1) := by decide +kernel
theorem dX3_giveBack_50 : decode cX3_giveBack 50 = .ok (.if_icmp .ne 11, 3) := by decide +kernel
theorem dX3_giveBack_53 : decode cX3_giveBack 53 = .ok (.aload_n 0, 1) := by decide +kernel
theorem dX3_giveBack_54 : decode cX3_giveBack 54 = .ok (.iload_n 2, 1) := by decide +kernel
theorem dX3_giveBack_55 : decode cX3_giveBack 55 = .ok (.putfield 15, 3) := by decide +kernel
theorem dX3_giveBack_58 : decode cX3_giveBack 58 = .ok (.goto 10, 3) := by decide +kernel
theorem dX3_giveBack_61 : decode cX3_giveBack 61 = .ok (.aload_n 0, 1) := by decide +kernel
theorem dX3_giveBack_62 : decode cX3_giveBack 62 = .ok (.getfield 30, 3) := by decide +kernel
theorem dX3_giveBack_65 : decode cX3_giveBack 65 = .ok (.iload_n 3, 1) := by decide +kernel
theorem dX3_giveBack_66 : decode cX3_giveBack 66 = .ok (.iload_n 2, 1) := by decide +kernel
theorem dX3_giveBack_67 : decode cX3_giveBack 67 = .ok (.iastore, 1) := by decide +kernel
theorem dX3_giveBack_68 : decode cX3_giveBack 68 = .ok (.aload_n 0, 1) := by decide +kernel
theorem dX3_giveBack_69 : decode cX3_giveBack 69 = .ok (.getfield 34, 3) := by decide +kernel
theorem dX3_giveBack_72 : decode cX3_giveBack 72 = .ok (.iload_n 1, 1) := by decide +kernel
theorem dX3_giveBack_73 : decode cX3_giveBack 73 = .ok (.aload_n 0, 1) := by decide +kernel
theorem dX3_giveBack_74 : decode cX3_giveBack 74 = .ok (.getfield 18, 3) := by decide +kernel
theorem dX3_giveBack_77 : decode cX3_giveBack 77 = .ok (.iastore, 1) := by decide +kernel
theorem dX3_giveBack_78 : decode cX3_giveBack 78 = .ok (.aload_n 0, 1) := by decide +kernel
theorem dX3_giveBack_79 : decode cX3_giveBack 79 = .ok (.iload_n 1, 1) := by decide +kernel
theorem dX3_giveBack_80 : decode cX3_giveBack 80 = .ok (.putfield 18, 3) := by decide +kernel
theorem dX3_giveBack_83 : decode cX3_giveBack 83 = .ok (.aload_n 0, 1) := by decide +kernel
theorem dX3_giveBack_84 : decode cX3_giveBack 84 = .ok (.dup, 1) := by decide +kernel
theorem dX3_giveBack_85 : decode cX3_giveBack 85 = .ok (.getfield 21, 3) := by decide +kernel
theorem dX3_giveBack_88 : decode cX3_giveBack 88 = .ok (.iconst 1, 1) := by decide +kernel
theorem dX3_giveBack_89 : decode cX3_giveBack 89 = .ok (.isub, 1) := by decide +kernel
theorem dX3_giveBack_90 : decode cX3_giveBack 90 = .ok (.putfield 21, 3) := by decide +kernel
theorem dX3_giveBack_93 : decode cX3_giveBack 93 = .ok (.return_, 1) := by decide +kernel
theorem dX3_placeAt_0 : decode cX3_placeAt 0 = .ok (.iload_n 1, 1) := by decide +kernel
theorem dX3_placeAt_1 : decode cX3_placeAt 1 = .ok (.ifCond .lt 11, 3) := by decide +kernel
theorem dX3_placeAt_4 : decode cX3_placeAt 4 = .ok (.iload_n 1, 1) := by decide +kernel
theorem dX3_placeAt_5 : decode cX3_placeAt 5 = .ok (.aload_n 0, 1) := by decide +kernel
theorem dX3_placeAt_6 : decode cX3_placeAt 6 = .ok (.getfield 21, 3) := by decide +kernel
theorem dX3_placeAt_9 : decode cX3_placeAt 9 = .ok (.if_icmp .lt 5, 3) := by decide +kernel
theorem dX3_placeAt_12 : decode cX3_placeAt 12 = .ok (.iconst (-1), 1) := by decide +kernel
theorem dX3_placeAt_13 : decode cX3_placeAt 13 = .ok (.ireturn, 1) := by decide +kernel
theorem dX3_placeAt_14 : decode cX3_placeAt 14 = .ok (.aload_n 0, 1) := by decide +kernel
theorem dX3_placeAt_15 : decode cX3_placeAt 15 = .ok (.getfield 9, 3) := by decide +kernel
theorem dX3_placeAt_18 : decode cX3_placeAt 18 = .ok (.istore_n 2, 1) := by decide +kernel
theorem dX3_placeAt_19 : decode cX3_placeAt 19 = .ok (.iconst 0, 1) := by decide +kernel
theorem dX3_placeAt_20 : decode cX3_placeAt 20 = .ok (.istore_n 3, 1) := by decide +kernel
theorem dX3_placeAt_21 : decode cX3_placeAt 21 = .ok (.iload_n 3, 1) := by decide +kernel
theorem dX3_placeAt_22 : decode cX3_placeAt 22 = .ok (.iload_n 1, 1) := by decide +kernel
theorem dX3_placeAt_23 : decode cX3_placeAt 23 = .ok (.if_icmp .ge 21, 3) := by decide +kernel
theorem dX3_placeAt_26 : decode cX3_placeAt 26 = .ok (.iload_n 2, 1) := by decide +kernel
theorem dX3_placeAt_27 : decode cX3_placeAt 27 = .ok (.iconst (-1), 1) := by decide +kernel
theorem dX3_placeAt_28 : decode cX3_placeAt 28 = .ok (.if_icmp .eq 16, 3) := by decide +kernel
theorem dX3_placeAt_31 : decode cX3_placeAt 31 = .ok (.aload_n 0, 1) := by decide +kernel
theorem dX3_placeAt_32 : decode cX3_placeAt 32 = .ok (.getfield 34, 3) := by decide +kernel
theorem dX3_placeAt_35 : decode cX3_placeAt 35 = .ok (.iload_n 2, 1) := by decide +kernel
theorem dX3_placeAt_36 : decode cX3_placeAt 36 = .ok (.iaload, 1) := by decide +kernel
theorem dX3_placeAt_37 : decode cX3_placeAt 37 = .ok (.istore_n 2, 1) := by decide +kernel
theorem dX3_placeAt_38 : decode cX3_placeAt 38 = .ok (.iinc 3 1, 3) := by decide +kernel
theorem dX3_placeAt_41 : decode cX3_placeAt 41 = .ok (.goto (-20), 3) := by decide +kernel
theorem dX3_placeAt_44 : decode cX3_placeAt 44 = .ok (.iload_n 2, 1) := by decide +kernel
theorem dX3_placeAt_45 : decode cX3_placeAt 45 = .ok (.ireturn, 1) := by decide +kernel
theorem dX3_copyFrom_0 : decode cX3_copyFrom 0 = .ok (.aload_n 0, 1) := by decide +kernel
theorem dX3_copyFrom_1 : decode cX3_copyFrom 1 = .ok (.getfield 30, 3) := by decide +kernel
theorem dX3_copyFrom_4 : decode cX3_copyFrom 4 = .ok (.arraylength, 1) := by decide +kernel
theorem dX3_copyFrom_5 : decode cX3_copyFrom 5 = .ok (.aload_n 1, 1) := by decide +kernel
theorem dX3_copyFrom_6 : decode cX3_copyFrom 6 = .ok (.getfield 30, 3) := by decide +kernel
theorem dX3_copyFrom_9 : decode cX3_copyFrom 9 = .ok (.arraylength, 1) := by decide +kernel
theorem dX3_copyFrom_10 : decode cX3_copyFrom 10 = .ok (.invokestatic 37, 3) := by decide +kernel
theorem dX3_copyFrom_13 : decode cX3_copyFrom 13 = .ok (.istore_n 2, 1) := by decide +kernel
theorem dX3_copyFrom_14 : decode cX3_copyFrom 14 = .ok (.aload_n 1, 1) := by decide +kernel
theorem dX3_copyFrom_15 : decode cX3_copyFrom 15 = .ok (.getfield 30, 3) := by decide +kernel
theorem dX3_copyFrom_18 : decode cX3_copyFrom 18 = .ok (.iconst 0, 1) := by decide +kernel
theorem dX3_copyFrom_19 : decode cX3_copyFrom 19 = .ok (.aload_n 0, 1) := by decide +kernel
theorem dX3_copyFrom_20 : decode cX3_copyFrom 20 = .ok (.getfield 30, 3) := by decide +kernel
theorem dX3_copyFrom_23 : decode cX3_copyFrom 23 = .ok (.iconst 0, 1) := by decide +kernel
theorem dX3_copyFrom_24 : decode cX3_copyFrom 24 = .ok (.iload_n 2, 1) := by decide +kernel
theorem dX3_copyFrom_25 : decode cX3_copyFrom 25 = .ok (.invokestatic 40, 3) := by decide +kernel
theorem dX3_copyFrom_28 : decode cX3_copyFrom 28 = .ok (.aload_n 1, 1) := by decide +kernel
theorem dX3_copyFrom_29 : decode cX3_copyFrom 29 = .ok (.getfield 34, 3) := by decide +kernel
theorem dX3_copyFrom_32 : decode cX3_copyFrom 32 = .ok (.iconst 0, 1) := by decide +kernel
theorem dX3_copyFrom_33 : decode cX3_copyFrom 33 = .ok (.aload_n 0, 1) := by decide +kernel
theorem dX3_copyFrom_34 : decode cX3_copyFrom 34 = .ok (.getfield 34, 3) := by decide +kernel
theorem dX3_copyFrom_37 : decode cX3_copyFrom 37 = .ok (.iconst 0, 1) := by decide +kernel
theorem dX3_copyFrom_38 : decode cX3_copyFrom 38 = .ok (.iload_n 2, 1) := by decide +kernel
theorem dX3_copyFrom_39 : decode cX3_copyFrom 39 = .ok (.invokestatic 40, 3) := by decide +kernel
theorem dX3_copyFrom_42 : decode cX3_copyFrom 42 = .ok (.aload_n 0, 1) := by decide +kernel
theorem dX3_copyFrom_43 : decode cX3_copyFrom 43 = .ok (.aload_n 1, 1) := by decide +kernel
theorem dX3_copyFrom_44 : decode cX3_copyFrom 44 = .ok (.getfield 9, 3) := by decide +kernel
theorem dX3_copyFrom_47 : decode cX3_copyFrom 47 = .ok (.putfield 9, 3) := by decide +kernel
theorem dX3_copyFrom_50 : decode cX3_copyFrom 50 = .ok (.aload_n 0, 1) := by decide +kernel
theorem dX3_copyFrom_51 : decode cX3_copyFrom 51 = .ok (.aload_n 1, 1) := by decide +kernel
theorem dX3_copyFrom_52 : decode cX3_copyFrom 52 = .ok (.getfield 15, 3) := by decide +kernel
theorem dX3_copyFrom_55 : decode cX3_copyFrom 55 = .ok (.putfield 15, 3) := by decide +kernel
theorem dX3_copyFrom_58 : decode cX3_copyFrom 58 = .ok (.aload_n 0, 1) := by decide +kernel
theorem dX3_copyFrom_59 : decode cX3_copyFrom 59 = .ok (.aload_n 1, 1) := by decide +kernel
theorem dX3_copyFrom_60 : decode cX3_copyFrom 60 = .ok (.getfield 18, 3) := by decide +kernel
theorem dX3_copyFrom_63 : decode cX3_copyFrom 63 = .ok (.putfield 18, 3) := by decide +kernel
theorem dX3_copyFrom_66 : decode cX3_copyFrom 66 = .ok (.aload_n 0, 1) := by decide +kernel
theorem dX3_copyFrom_67 : decode cX3_copyFrom 67 = .ok (.aload_n 1, 1) := by decide +kernel
theorem dX3_copyFrom_68 : decode cX3_copyFrom 68 = .ok (.getfield 21, 3) := by decide +kernel
theorem dX3_copyFrom_71 : decode cX3_copyFrom 71 = .ok (.putfield 21, 3) := by decide +kernel
theorem dX3_copyFrom_74 : decode cX3_copyFrom 74 = .ok (.return_, 1) := by decide +kernel
theorem dX4_init_0 : decode cX4_init 0 = .ok (.aload_n 0, 1) := by decide +kernel
theorem dX4_init_1 : decode cX4_init 1 = .ok (.invokespecial 3, 3) := by decide +kernel
theorem dX4_init_4 : decode cX4_init 4 = .ok (.aload_n 0, 1) := by decide +kernel
theorem dX4_init_5 : decode cX4_init 5 = .ok (.bipush 12, 2) := by decide +kernel
theorem dX4_init_7 : decode cX4_init 7 = .ok (.newarray .int, 2) := by decide +kernel
theorem dX4_init_9 : decode cX4_init 9 = .ok (.putfield 9, 3) := by decide +kernel
theorem dX4_init_12 : decode cX4_init 12 = .ok (.aload_n 0, 1) := by decide +kernel
theorem dX4_init_13 : decode cX4_init 13 = .ok (.bipush 12, 2) := by decide +kernel
theorem dX4_init_15 : decode cX4_init 15 = .ok (.newarray .int, 2) := by decide +kernel
theorem dX4_init_17 : decode cX4_init 17 = .ok (.putfield 15, 3) := by decide +kernel
theorem dX4_init_20 : decode cX4_init 20 = .ok (.aload_n 0, 1) := by decide +kernel
theorem dX4_init_21 : decode cX4_init 21 = .ok (.iconst 0, 1) := by decide +kernel
theorem dX4_init_22 : decode cX4_init 22 = .ok (.putfield 18, 3) := by decide +kernel
theorem dX4_init_25 : decode cX4_init 25 = .ok (.return_, 1) := by decide +kernel
theorem dX4_begin_0 : decode cX4_begin 0 = .ok (.aload_n 0, 1) := by decide +kernel
theorem dX4_begin_1 : decode cX4_begin 1 = .ok (.iload_n 1, 1) := by decide +kernel
theorem dX4_begin_2 : decode cX4_begin 2 = .ok (.putfield 18, 3) := by decide +kernel
theorem dX4_begin_5 : decode cX4_begin 5 = .ok (.aload_n 0, 1) := by decide +kernel
theorem dX4_begin_6 : decode cX4_begin 6 = .ok (.getfield 9, 3) := by decide +kernel
theorem dX4_begin_9 : decode cX4_begin 9 = .ok (.iconst 0, 1) := by decide +kernel
theorem dX4_begin_10 : decode cX4_begin 10 = .ok (.invokestatic 22, 3) := by decide +kernel
theorem dX4_begin_13 : decode cX4_begin 13 = .ok (.aload_n 0, 1) := by decide +kernel
theorem dX4_begin_14 : decode cX4_begin 14 = .ok (.getfield 15, 3) := by decide +kernel
theorem dX4_begin_17 : decode cX4_begin 17 = .ok (.iconst 0, 1) := by decide +kernel
theorem dX4_begin_18 : decode cX4_begin 18 = .ok (.invokestatic 22, 3) := by decide +kernel
theorem dX4_begin_21 : decode cX4_begin 21 = .ok (.return_, 1) := by decide +kernel
theorem dX4_placeOf_0 : decode cX4_placeOf 0 = .ok (.aload_n 0, 1) := by decide +kernel
theorem dX4_placeOf_1 : decode cX4_placeOf 1 = .ok (.getfield 18, 3) := by decide +kernel
theorem dX4_placeOf_4 : decode cX4_placeOf 4 = .ok (.ifCond .le 14, 3) := by decide +kernel
theorem dX4_placeOf_7 : decode cX4_placeOf 7 = .ok (.iload_n 1, 1) := by decide +kernel
theorem dX4_placeOf_8 : decode cX4_placeOf 8 = .ok (.aload_n 0, 1) := by decide +kernel
theorem dX4_placeOf_9 : decode cX4_placeOf 9 = .ok (.getfield 18, 3) := by decide +kernel
theorem dX4_placeOf_12 : decode cX4_placeOf 12 = .ok (.invokestatic 28, 3) := by decide +kernel
theorem dX4_placeOf_15 : decode cX4_placeOf 15 = .ok (.goto 4, 3) := by decide +kernel
theorem dX4_placeOf_18 : decode cX4_placeOf 18 = .ok (.iconst 0, 1) := by decide +kernel
theorem dX4_placeOf_19 : decode cX4_placeOf 19 = .ok (.ireturn, 1) := by decide +kernel
theorem dX4_copyFrom_0 : decode cX4_copyFrom 0 = .ok (.aload_n 1, 1) := by decide +kernel
theorem dX4_copyFrom_1 : decode cX4_copyFrom 1 = .ok (.getfield 9, 3) := by decide +kernel
theorem dX4_copyFrom_4 : decode cX4_copyFrom 4 = .ok (.iconst 0, 1) := by decide +kernel
theorem dX4_copyFrom_5 : decode cX4_copyFrom 5 = .ok (.aload_n 0, 1) := by decide +kernel
theorem dX4_copyFrom_6 : decode cX4_copyFrom 6 = .ok (.getfield 9, 3) := by decide +kernel
theorem dX4_copyFrom_9 : decode cX4_copyFrom 9 = .ok (.iconst 0, 1) := by decide +kernel
theorem dX4_copyFrom_10 : decode cX4_copyFrom 10 = .ok (.bipush 12, 2) := by decide +kernel
theorem dX4_copyFrom_12 : decode cX4_copyFrom 12 = .ok (.invokestatic 34, 3) := by decide +kernel
theorem dX4_copyFrom_15 : decode cX4_copyFrom 15 = .ok (.aload_n 1, 1) := by decide +kernel
theorem dX4_copyFrom_16 : decode cX4_copyFrom 16 = .ok (.getfield 15, 3) := by decide +kernel
theorem dX4_copyFrom_19 : decode cX4_copyFrom 19 = .ok (.iconst 0, 1) := by decide +kernel
theorem dX4_copyFrom_20 : decode cX4_copyFrom 20 = .ok (.aload_n 0, 1) := by decide +kernel
theorem dX4_copyFrom_21 : decode cX4_copyFrom 21 = .ok (.getfield 15, 3) := by decide +kernel
theorem dX4_copyFrom_24 : decode cX4_copyFrom 24 = .ok (.iconst 0, 1) := by decide +kernel
theorem dX4_copyFrom_25 : decode cX4_copyFrom 25 = .ok (.bipush 12, 2) := by decide +kernel
theorem dX4_copyFrom_27 : decode cX4_copyFrom 27 = .ok (.invokestatic 34, 3) := by decide +kernel
theorem dX4_copyFrom_30 : decode cX4_copyFrom 30 = .ok (.aload_n 0, 1) := by decide +kernel
theorem dX4_copyFrom_31 : decode cX4_copyFrom 31 = .ok (.aload_n 1, 1) := by decide +kernel
theorem dX4_copyFrom_32 : decode cX4_copyFrom 32 = .ok (.getfield 18, 3) := by decide +kernel
theorem dX4_copyFrom_35 : decode cX4_copyFrom 35 = .ok (.putfield 18, 3) := by decide +kernel
theorem dX4_copyFrom_38 : decode cX4_copyFrom 38 = .ok (.return_, 1) := by decide +kernel
theorem dX5_init_0 : decode cX5_init 0 = .ok (.aload_n 0, 1) := by decide +kernel
theorem dX5_init_1 : decode cX5_init 1 = .ok (.invokespecial 3, 3) := by decide +kernel
theorem dX5_init_4 : decode cX5_init 4 = .ok (.aload_n 0, 1) := by decide +kernel
theorem dX5_init_5 : decode cX5_init 5 = .ok (.bipush 10, 2) := by decide +kernel
theorem dX5_init_7 : decode cX5_init 7 = .ok (.newarray .int, 2) := by decide +kernel
theorem dX5_init_9 : decode cX5_init 9 = .ok (.putfield 9, 3) := by decide +kernel
theorem dX5_init_12 : decode cX5_init 12 = .ok (.aload_n 0, 1) := by decide +kernel
theorem dX5_init_13 : decode cX5_init 13 = .ok (.bipush 7, 2) := by decide +kernel
theorem dX5_init_15 : decode cX5_init 15 = .ok (.newarray .int, 2) := by decide +kernel
theorem dX5_init_17 : decode cX5_init 17 = .ok (.putfield 15, 3) := by decide +kernel
theorem dX5_init_20 : decode cX5_init 20 = .ok (.aload_n 0, 1) := by decide +kernel
theorem dX5_init_21 : decode cX5_init 21 = .ok (.bipush 8, 2) := by decide +kernel
theorem dX5_init_23 : decode cX5_init 23 = .ok (.newarray .int, 2) := by decide +kernel
theorem dX5_init_25 : decode cX5_init 25 = .ok (.putfield 18, 3) := by decide +kernel
theorem dX5_init_28 : decode cX5_init 28 = .ok (.aload_n 0, 1) := by decide +kernel
theorem dX5_init_29 : decode cX5_init 29 = .ok (.bipush 20, 2) := by decide +kernel
theorem dX5_init_31 : decode cX5_init 31 = .ok (.newarray .int, 2) := by decide +kernel
theorem dX5_init_33 : decode cX5_init 33 = .ok (.putfield 21, 3) := by decide +kernel
theorem dX5_init_36 : decode cX5_init 36 = .ok (.aload_n 0, 1) := by decide +kernel
theorem dX5_init_37 : decode cX5_init 37 = .ok (.iconst 0, 1) := by decide +kernel
theorem dX5_init_38 : decode cX5_init 38 = .ok (.putfield 24, 3) := by decide +kernel
theorem dX5_init_41 : decode cX5_init 41 = .ok (.aload_n 0, 1) := by decide +kernel
theorem dX5_init_42 : decode cX5_init 42 = .ok (.iconst 0, 1) := by decide +kernel
theorem dX5_init_43 : decode cX5_init 43 = .ok (.putfield 28, 3) := by decide +kernel
theorem dX5_init_46 : decode cX5_init 46 = .ok (.aload_n 0, 1) := by decide +kernel
theorem dX5_init_47 : decode cX5_init 47 = .ok (.bipush (-4), 2) := by decide +kernel
theorem dX5_init_49 : decode cX5_init 49 = .ok (.putfield 31, 3) := by decide +kernel
theorem dX5_init_52 : decode cX5_init 52 = .ok (.aload_n 0, 1) := by decide +kernel
theorem dX5_init_53 : decode cX5_init 53 = .ok (.iconst 0, 1) := by decide +kernel
theorem dX5_init_54 : decode cX5_init 54 = .ok (.putfield 34, 3) := by decide +kernel
theorem dX5_init_57 : decode cX5_init 57 = .ok (.getstatic 37, 3) := by decide +kernel
theorem dX5_init_60 : decode cX5_init 60 = .ok (.iconst 0, 1) := by decide +kernel
theorem dX5_init_61 : decode cX5_init 61 = .ok (.aload_n 0, 1) := by decide +kernel
theorem dX5_init_62 : decode cX5_init 62 = .ok (.getfield 9, 3) := by decide +kernel
theorem dX5_init_65 : decode cX5_init 65 = .ok (.iconst 0, 1) := by decide +kernel
theorem dX5_init_66 : decode cX5_init 66 = .ok (.bipush 10, 2) := by decide +kernel
theorem dX5_init_68 : decode cX5_init 68 = .ok (.invokestatic 40, 3) := by decide +kernel
theorem dX5_init_71 : decode cX5_init 71 = .ok (.aload_n 0, 1) := by decide +kernel
theorem dX5_init_72 : decode cX5_init 72 = .ok (.getfield 18, 3) := by decide +kernel
theorem dX5_init_75 : decode cX5_init 75 = .ok (.bipush (-4), 2) := by decide +kernel
theorem dX5_init_77 : decode cX5_init 77 = .ok (.invokestatic 46, 3) := by decide +kernel
theorem dX5_init_80 : decode cX5_init 80 = .ok (.return_, 1) := by decide +kernel
theorem dX5_hasAnswer_0 : decode cX5_hasAnswer 0 = .ok (.iload_n 2, 1) := by decide +kernel
theorem dX5_hasAnswer_1 : decode cX5_hasAnswer 1 = .ok (.aload_n 0, 1) := by decide +kernel
theorem dX5_hasAnswer_2 : decode cX5_hasAnswer 2 = .ok (.getfield 18, 3) := by decide +kernel
theorem dX5_hasAnswer_5 : decode cX5_hasAnswer 5 = .ok (.iload_n 1, 1) := by decide +kernel
theorem dX5_hasAnswer_6 : decode cX5_hasAnswer 6 = .ok (.iaload, 1) := by decide +kernel
theorem dX5_hasAnswer_7 : decode cX5_hasAnswer 7 = .ok (.if_icmp .gt 7, 3) := by decide +kernel
theorem dX5_hasAnswer_10 : decode cX5_hasAnswer 10 = .ok (.iconst 1, 1) := by decide +kernel
theorem dX5_hasAnswer_11 : decode cX5_hasAnswer 11 = .ok (.goto 4, 3) := by decide +kernel
theorem dX5_hasAnswer_14 : decode cX5_hasAnswer 14 = .ok (.iconst 0, 1) := by decide +kernel
theorem dX5_hasAnswer_15 : decode cX5_hasAnswer 15 = .ok (.ireturn, 1) := by decide +kernel
theorem dX5_rests_0 : decode cX5_rests 0 = .ok (.iload_n 1, 1) := by decide +kernel
theorem dX5_rests_1 : decode cX5_rests 1 = .ok (.aload_n 0, 1) := by decide +kernel
theorem dX5_rests_2 : decode cX5_rests 2 = .ok (.getfield 31, 3) := by decide +kernel
theorem dX5_rests_5 : decode cX5_rests 5 = .ok (.if_icmp .gt 7, 3) := by decide +kernel
theorem dX5_rests_8 : decode cX5_rests 8 = .ok (.iconst 1, 1) := by decide +kernel
theorem dX5_rests_9 : decode cX5_rests 9 = .ok (.goto 4, 3) := by decide +kernel
theorem dX5_rests_12 : decode cX5_rests 12 = .ok (.iconst 0, 1) := by decide +kernel
theorem dX5_rests_13 : decode cX5_rests 13 = .ok (.ireturn, 1) := by decide +kernel
theorem dX5_hasFreeHand_0 : decode cX5_hasFreeHand 0 = .ok (.aload_n 0, 1) := by decide +kernel
theorem dX5_hasFreeHand_1 : decode cX5_hasFreeHand 1 = .ok (.getfield 28, 3) := by decide +kernel
theorem dX5_hasFreeHand_4 : decode cX5_hasFreeHand 4 = .ok (.aload_n 0, 1) := by decide +kernel
theorem dX5_hasFreeHand_5 : decode cX5_hasFreeHand 5 = .ok (.getfield 9, 3) := by decide +kernel
theorem dX5_hasFreeHand_8 : decode cX5_hasFreeHand 8 = .ok (.bipush 7, 2) := by decide +kernel
theorem dX5_hasFreeHand_10 : decode cX5_hasFreeHand 10 = .ok (.iaload, 1) := by decide +kernel
theorem dX5_hasFreeHand_11 : decode cX5_hasFreeHand 11 = .ok (.if_icmp .ge 7, 3) := by decide +kernel
theorem dX5_hasFreeHand_14 : decode cX5_hasFreeHand 14 = .ok (.iconst 1, 1) := by decide +kernel
theorem dX5_hasFreeHand_15 : decode cX5_hasFreeHand 15 = .ok (.goto 4, 3) := by decide +kernel
theorem dX5_hasFreeHand_18 : decode cX5_hasFreeHand 18 = .ok (.iconst 0, 1) := by decide +kernel
theorem dX5_hasFreeHand_19 : decode cX5_hasFreeHand 19 = .ok (.ireturn, 1) := by decide +kernel
theorem dX5_addLast_0 : decode cX5_addLast 0 = .ok (.aload_n 0, 1) := by decide +kernel
theorem dX5_addLast_1 : decode cX5_addLast 1 = .ok (.getfield 24, 3) := by decide +kernel
theorem dX5_addLast_4 : decode cX5_addLast 4 = .ok (.bipush 20, 2) := by decide +kernel
theorem dX5_addLast_6 : decode cX5_addLast 6 = .ok (.if_icmp .ge 23, 3) := by decide +kernel
theorem dX5_addLast_9 : decode cX5_addLast 9 = .ok (.aload_n 0, 1) := by decide +kernel
theorem dX5_addLast_10 : decode cX5_addLast 10 = .ok (.getfield 21, 3) := by decide +kernel
theorem dX5_addLast_13 : decode cX5_addLast 13 = .ok (.aload_n 0, 1) := by decide +kernel
theorem dX5_addLast_14 : decode cX5_addLast 14 = .ok (.getfield 24, 3) := by decide +kernel
theorem dX5_addLast_17 : decode cX5_addLast 17 = .ok (.iload_n 1, 1) := by decide +kernel
theorem dX5_addLast_18 : decode cX5_addLast 18 = .ok (.iastore, 1) := by decide +kernel
theorem dX5_addLast_19 : decode cX5_addLast 19 = .ok (.aload_n 0, 1) := by decide +kernel
theorem dX5_addLast_20 : decode cX5_addLast 20 = .ok (.dup, 1) := by decide +kernel
theorem dX5_addLast_21 : decode cX5_addLast 21 = .ok (.getfield 24, 3) := by decide +kernel
theorem dX5_addLast_24 : decode cX5_addLast 24 = .ok (.iconst 1, 1) := by decide +kernel
theorem dX5_addLast_25 : decode cX5_addLast 25 = .ok (.iadd, 1) := by decide +kernel
theorem dX5_addLast_26 : decode cX5_addLast 26 = .ok (.putfield 24, 3) := by decide +kernel
theorem dX5_addLast_29 : decode cX5_addLast 29 = .ok (.return_, 1) := by decide +kernel
theorem dX5_takeFirst_0 : decode cX5_takeFirst 0 = .ok (.aload_n 0, 1) := by decide +kernel
theorem dX5_takeFirst_1 : decode cX5_takeFirst 1 = .ok (.getfield 24, 3) := by decide +kernel
theorem dX5_takeFirst_4 : decode cX5_takeFirst 4 = .ok (.ifCond .gt 5, 3) := by decide +kernel
theorem dX5_takeFirst_7 : decode cX5_takeFirst 7 = .ok (.iconst (-1), 1) := by decide +kernel
theorem dX5_takeFirst_8 : decode cX5_takeFirst 8 = .ok (.ireturn, 1) := by decide +kernel
theorem dX5_takeFirst_9 : decode cX5_takeFirst 9 = .ok (.aload_n 0, 1) := by decide +kernel
theorem dX5_takeFirst_10 : decode cX5_takeFirst 10 = .ok (.getfield 21, 3) := by decide +kernel
theorem dX5_takeFirst_13 : decode cX5_takeFirst 13 = .ok (.iconst 0, 1) := by decide +kernel
theorem dX5_takeFirst_14 : decode cX5_takeFirst 14 = .ok (.iaload, 1) := by decide +kernel
theorem dX5_takeFirst_15 : decode cX5_takeFirst 15 = .ok (.istore_n 1, 1) := by decide +kernel
theorem dX5_takeFirst_16 : decode cX5_takeFirst 16 = .ok (.aload_n 0, 1) := by decide +kernel
theorem dX5_takeFirst_17 : decode cX5_takeFirst 17 = .ok (.dup, 1) := by decide +kernel
theorem dX5_takeFirst_18 : decode cX5_takeFirst 18 = .ok (.getfield 24, 3) := by decide +kernel
theorem dX5_takeFirst_21 : decode cX5_takeFirst 21 = .ok (.iconst 1, 1) := by decide +kernel
theorem dX5_takeFirst_22 : decode cX5_takeFirst 22 = .ok (.isub, 1) := by decide +kernel
theorem dX5_takeFirst_23 : decode cX5_takeFirst 23 = .ok (.putfield 24, 3) := by decide +kernel
theorem dX5_takeFirst_26 : decode cX5_takeFirst 26 = .ok (.aload_n 0, 1) := by decide +kernel
theorem dX5_takeFirst_27 : decode cX5_takeFirst 27 = .ok (.getfield 21, 3) := by decide +kernel
theorem dX5_takeFirst_30 : decode cX5_takeFirst 30 = .ok (.iconst 1, 1) := by decide +kernel
theorem dX5_takeFirst_31 : decode cX5_takeFirst 31 = .ok (.aload_n 0, 1) := by decide +kernel
theorem dX5_takeFirst_32 : decode cX5_takeFirst 32 = .ok (.getfield 21, 3) := by decide +kernel
theorem dX5_takeFirst_35 : decode cX5_takeFirst 35 = .ok (.iconst 0, 1) := by decide +kernel
theorem dX5_takeFirst_36 : decode cX5_takeFirst 36 = .ok (.aload_n 0, 1) := by decide +kernel
theorem dX5_takeFirst_37 : decode cX5_takeFirst 37 = .ok (.getfield 24, 3) := by decide +kernel
theorem dX5_takeFirst_40 : decode cX5_takeFirst 40 = .ok (.invokestatic 40, 3) := by decide +kernel
theorem dX5_takeFirst_43 : decode cX5_takeFirst 43 = .ok (.iload_n 1, 1) := by decide +kernel
theorem dX5_takeFirst_44 : decode cX5_takeFirst 44 = .ok (.ireturn, 1) := by decide +kernel
theorem dX5_copyFrom_0 : decode cX5_copyFrom 0 = .ok (.aload_n 1, 1) := by decide +kernel
theorem dX5_copyFrom_1 : decode cX5_copyFrom 1 = .ok (.getfield 9, 3) := by decide +kernel
theorem dX5_copyFrom_4 : decode cX5_copyFrom 4 = .ok (.iconst 0, 1) := by decide +kernel
theorem dX5_copyFrom_5 : decode cX5_copyFrom 5 = .ok (.aload_n 0, 1) := by decide +kernel
theorem dX5_copyFrom_6 : decode cX5_copyFrom 6 = .ok (.getfield 9, 3) := by decide +kernel
theorem dX5_copyFrom_9 : decode cX5_copyFrom 9 = .ok (.iconst 0, 1) := by decide +kernel
theorem dX5_copyFrom_10 : decode cX5_copyFrom 10 = .ok (.bipush 10, 2) := by decide +kernel
theorem dX5_copyFrom_12 : decode cX5_copyFrom 12 = .ok (.invokestatic 40, 3) := by decide +kernel
theorem dX5_copyFrom_15 : decode cX5_copyFrom 15 = .ok (.aload_n 1, 1) := by decide +kernel
theorem dX5_copyFrom_16 : decode cX5_copyFrom 16 = .ok (.getfield 15, 3) := by decide +kernel
theorem dX5_copyFrom_19 : decode cX5_copyFrom 19 = .ok (.iconst 0, 1) := by decide +kernel
theorem dX5_copyFrom_20 : decode cX5_copyFrom 20 = .ok (.aload_n 0, 1) := by decide +kernel
theorem dX5_copyFrom_21 : decode cX5_copyFrom 21 = .ok (.getfield 15, 3) := by decide +kernel
theorem dX5_copyFrom_24 : decode cX5_copyFrom 24 = .ok (.iconst 0, 1) := by decide +kernel
theorem dX5_copyFrom_25 : decode cX5_copyFrom 25 = .ok (.bipush 7, 2) := by decide +kernel
theorem dX5_copyFrom_27 : decode cX5_copyFrom 27 = .ok (.invokestatic 40, 3) := by decide +kernel
theorem dX5_copyFrom_30 : decode cX5_copyFrom 30 = .ok (.aload_n 1, 1) := by decide +kernel
theorem dX5_copyFrom_31 : decode cX5_copyFrom 31 = .ok (.getfield 18, 3) := by decide +kernel
theorem dX5_copyFrom_34 : decode cX5_copyFrom 34 = .ok (.iconst 0, 1) := by decide +kernel
theorem dX5_copyFrom_35 : decode cX5_copyFrom 35 = .ok (.aload_n 0, 1) := by decide +kernel
theorem dX5_copyFrom_36 : decode cX5_copyFrom 36 = .ok (.getfield 18, 3) := by decide +kernel
theorem dX5_copyFrom_39 : decode cX5_copyFrom 39 = .ok (.iconst 0, 1) := by decide +kernel
theorem dX5_copyFrom_40 : decode cX5_copyFrom 40 = .ok (.bipush 8, 2) := by decide +kernel
theorem dX5_copyFrom_42 : decode cX5_copyFrom 42 = .ok (.invokestatic 40, 3) := by decide +kernel
theorem dX5_copyFrom_45 : decode cX5_copyFrom 45 = .ok (.aload_n 1, 1) := by decide +kernel
theorem dX5_copyFrom_46 : decode cX5_copyFrom 46 = .ok (.getfield 21, 3) := by decide +kernel
theorem dX5_copyFrom_49 : decode cX5_copyFrom 49 = .ok (.iconst 0, 1) := by decide +kernel
theorem dX5_copyFrom_50 : decode cX5_copyFrom 50 = .ok (.aload_n 0, 1) := by decide +kernel
theorem dX5_copyFrom_51 : decode cX5_copyFrom 51 = .ok (.getfield 21, 3) := by decide +kernel
theorem dX5_copyFrom_54 : decode cX5_copyFrom 54 = .ok (.iconst 0, 1) := by decide +kernel
theorem dX5_copyFrom_55 : decode cX5_copyFrom 55 = .ok (.bipush 20, 2) := by decide +kernel
theorem dX5_copyFrom_57 : decode cX5_copyFrom 57 = .ok (.invokestatic 40, 3) := by decide +kernel
theorem dX5_copyFrom_60 : decode cX5_copyFrom 60 = .ok (.aload_n 0, 1) := by decide +kernel
theorem dX5_copyFrom_61 : decode cX5_copyFrom 61 = .ok (.aload_n 1, 1) := by decide +kernel
theorem dX5_copyFrom_62 : decode cX5_copyFrom 62 = .ok (.getfield 24, 3) := by decide +kernel
theorem dX5_copyFrom_65 : decode cX5_copyFrom 65 = .ok (.putfield 24, 3) := by decide +kernel
theorem dX5_copyFrom_68 : decode cX5_copyFrom 68 = .ok (.aload_n 0, 1) := by decide +kernel
theorem dX5_copyFrom_69 : decode cX5_copyFrom 69 = .ok (.aload_n 1, 1) := by decide +kernel
theorem dX5_copyFrom_70 : decode cX5_copyFrom 70 = .ok (.getfield 28, 3) := by decide +kernel
theorem dX5_copyFrom_73 : decode cX5_copyFrom 73 = .ok (.putfield 28, 3) := by decide +kernel
theorem dX5_copyFrom_76 : decode cX5_copyFrom 76 = .ok (.aload_n 0, 1) := by decide +kernel
theorem dX5_copyFrom_77 : decode cX5_copyFrom 77 = .ok (.aload_n 1, 1) := by decide +kernel
theorem dX5_copyFrom_78 : decode cX5_copyFrom 78 = .ok (.getfield 31, 3) := by decide +kernel
theorem dX5_copyFrom_81 : decode cX5_copyFrom 81 = .ok (.putfield 31, 3) := by decide +kernel
theorem dX5_copyFrom_84 : decode cX5_copyFrom 84 = .ok (.aload_n 0, 1) := by decide +kernel
theorem dX5_copyFrom_85 : decode cX5_copyFrom 85 = .ok (.aload_n 1, 1) := by decide +kernel
theorem dX5_copyFrom_86 : decode cX5_copyFrom 86 = .ok (.getfield 34, 3) := by decide +kernel
theorem dX5_copyFrom_89 : decode cX5_copyFrom 89 = .ok (.putfield 34, 3) := by decide +kernel
theorem dX5_copyFrom_92 : decode cX5_copyFrom 92 = .ok (.return_, 1) := by decide +kernel
theorem dX6_init_0 : decode cX6_init 0 = .ok (.aload_n 0, 1) := by decide +kernel
theorem dX6_init_1 : decode cX6_init 1 = .ok (.invokespecial 3, 3) := by decide +kernel
theorem dX6_init_4 : decode cX6_init 4 = .ok (.aload_n 0, 1) := by decide +kernel
theorem dX6_init_5 : decode cX6_init 5 = .ok (.bipush 40, 2) := by decide +kernel
theorem dX6_init_7 : decode cX6_init 7 = .ok (.newarray .int, 2) := by decide +kernel
theorem dX6_init_9 : decode cX6_init 9 = .ok (.putfield 9, 3) := by decide +kernel
theorem dX6_init_12 : decode cX6_init 12 = .ok (.aload_n 0, 1) := by decide +kernel
theorem dX6_init_13 : decode cX6_init 13 = .ok (.bipush 40, 2) := by decide +kernel
theorem dX6_init_15 : decode cX6_init 15 = .ok (.newarray .int, 2) := by decide +kernel
theorem dX6_init_17 : decode cX6_init 17 = .ok (.putfield 15, 3) := by decide +kernel
theorem dX6_init_20 : decode cX6_init 20 = .ok (.aload_n 0, 1) := by decide +kernel
theorem dX6_init_21 : decode cX6_init 21 = .ok (.bipush 40, 2) := by decide +kernel
theorem dX6_init_23 : decode cX6_init 23 = .ok (.newarray .int, 2) := by decide +kernel
theorem dX6_init_25 : decode cX6_init 25 = .ok (.putfield 18, 3) := by decide +kernel
theorem dX6_init_28 : decode cX6_init 28 = .ok (.aload_n 0, 1) := by decide +kernel
theorem dX6_init_29 : decode cX6_init 29 = .ok (.iconst 0, 1) := by decide +kernel
theorem dX6_init_30 : decode cX6_init 30 = .ok (.putfield 21, 3) := by decide +kernel
theorem dX6_init_33 : decode cX6_init 33 = .ok (.return_, 1) := by decide +kernel
theorem dX6_add_0 : decode cX6_add 0 = .ok (.aload_n 0, 1) := by decide +kernel
theorem dX6_add_1 : decode cX6_add 1 = .ok (.getfield 21, 3) := by decide +kernel
theorem dX6_add_4 : decode cX6_add 4 = .ok (.bipush 40, 2) := by decide +kernel
theorem dX6_add_6 : decode cX6_add 6 = .ok (.if_icmp .ge 43, 3) := by decide +kernel
theorem dX6_add_9 : decode cX6_add 9 = .ok (.aload_n 0, 1) := by decide +kernel
theorem dX6_add_10 : decode cX6_add 10 = .ok (.getfield 9, 3) := by decide +kernel
theorem dX6_add_13 : decode cX6_add 13 = .ok (.aload_n 0, 1) := by decide +kernel
theorem dX6_add_14 : decode cX6_add 14 = .ok (.getfield 21, 3) := by decide +kernel
theorem dX6_add_17 : decode cX6_add 17 = .ok (.iload_n 1, 1) := by decide +kernel
theorem dX6_add_18 : decode cX6_add 18 = .ok (.iastore, 1) := by decide +kernel
theorem dX6_add_19 : decode cX6_add 19 = .ok (.aload_n 0, 1) := by decide +kernel
theorem dX6_add_20 : decode cX6_add 20 = .ok (.getfield 15, 3) := by decide +kernel
theorem dX6_add_23 : decode cX6_add 23 = .ok (.aload_n 0, 1) := by decide +kernel
theorem dX6_add_24 : decode cX6_add 24 = .ok (.getfield 21, 3) := by decide +kernel
theorem dX6_add_27 : decode cX6_add 27 = .ok (.iload_n 2, 1) := by decide +kernel
theorem dX6_add_28 : decode cX6_add 28 = .ok (.iastore, 1) := by decide +kernel
theorem dX6_add_29 : decode cX6_add 29 = .ok (.aload_n 0, 1) := by decide +kernel
theorem dX6_add_30 : decode cX6_add 30 = .ok (.getfield 18, 3) := by decide +kernel
theorem dX6_add_33 : decode cX6_add 33 = .ok (.aload_n 0, 1) := by decide +kernel
theorem dX6_add_34 : decode cX6_add 34 = .ok (.getfield 21, 3) := by decide +kernel
theorem dX6_add_37 : decode cX6_add 37 = .ok (.iload_n 3, 1) := by decide +kernel
theorem dX6_add_38 : decode cX6_add 38 = .ok (.iastore, 1) := by decide +kernel
theorem dX6_add_39 : decode cX6_add 39 = .ok (.aload_n 0, 1) := by decide +kernel
theorem dX6_add_40 : decode cX6_add 40 = .ok (.dup, 1) := by decide +kernel
theorem dX6_add_41 : decode cX6_add 41 = .ok (.getfield 21, 3) := by decide +kernel
theorem dX6_add_44 : decode cX6_add 44 = .ok (.iconst 1, 1) := by decide +kernel
theorem dX6_add_45 : decode cX6_add 45 = .ok (.iadd, 1) := by decide +kernel
theorem dX6_add_46 : decode cX6_add 46 = .ok (.putfield 21, 3) := by decide +kernel
theorem dX6_add_49 : decode cX6_add 49 = .ok (.return_, 1) := by decide +kernel
theorem dX6_manyFor_0 : decode cX6_manyFor 0 = .ok (.iload_n 2, 1) := by decide +kernel
theorem dX6_manyFor_1 : decode cX6_manyFor 1 = .ok (.ifCond .lt 30, 3) := by decide +kernel
theorem dX6_manyFor_4 : decode cX6_manyFor 4 = .ok (.iload_n 2, 1) := by decide +kernel
theorem dX6_manyFor_5 : decode cX6_manyFor 5 = .ok (.aload_n 0, 1) := by decide +kernel
theorem dX6_manyFor_6 : decode cX6_manyFor 6 = .ok (.getfield 21, 3) := by decide +kernel
theorem dX6_manyFor_9 : decode cX6_manyFor 9 = .ok (.if_icmp .ge 22, 3) := by decide +kernel
theorem dX6_manyFor_12 : decode cX6_manyFor 12 = .ok (.aload_n 0, 1) := by decide +kernel
theorem dX6_manyFor_13 : decode cX6_manyFor 13 = .ok (.getfield 9, 3) := by decide +kernel
theorem dX6_manyFor_16 : decode cX6_manyFor 16 = .ok (.iload_n 2, 1) := by decide +kernel
theorem dX6_manyFor_17 : decode cX6_manyFor 17 = .ok (.iaload, 1) := by decide +kernel
theorem dX6_manyFor_18 : decode cX6_manyFor 18 = .ok (.iload_n 1, 1) := by decide +kernel
theorem dX6_manyFor_19 : decode cX6_manyFor 19 = .ok (.if_icmp .ne 12, 3) := by decide +kernel
theorem dX6_manyFor_22 : decode cX6_manyFor 22 = .ok (.aload_n 0, 1) := by decide +kernel
theorem dX6_manyFor_23 : decode cX6_manyFor 23 = .ok (.getfield 18, 3) := by decide +kernel
theorem dX6_manyFor_26 : decode cX6_manyFor 26 = .ok (.iload_n 2, 1) := by decide +kernel
theorem dX6_manyFor_27 : decode cX6_manyFor 27 = .ok (.iaload, 1) := by decide +kernel
theorem dX6_manyFor_28 : decode cX6_manyFor 28 = .ok (.goto 4, 3) := by decide +kernel
theorem dX6_manyFor_31 : decode cX6_manyFor 31 = .ok (.iconst 0, 1) := by decide +kernel
theorem dX6_manyFor_32 : decode cX6_manyFor 32 = .ok (.ireturn, 1) := by decide +kernel
theorem dX6_forget_0 : decode cX6_forget 0 = .ok (.iconst 0, 1) := by decide +kernel
theorem dX6_forget_1 : decode cX6_forget 1 = .ok (.istore_n 2, 1) := by decide +kernel
theorem dX6_forget_2 : decode cX6_forget 2 = .ok (.iconst 0, 1) := by decide +kernel
theorem dX6_forget_3 : decode cX6_forget 3 = .ok (.istore_n 3, 1) := by decide +kernel
theorem dX6_forget_4 : decode cX6_forget 4 = .ok (.iload_n 3, 1) := by decide +kernel
theorem dX6_forget_5 : decode cX6_forget 5 = .ok (.aload_n 0, 1) := by decide +kernel
theorem dX6_forget_6 : decode cX6_forget 6 = .ok (.getfield 21, 3) := by decide +kernel
theorem dX6_forget_9 : decode cX6_forget 9 = .ok (.if_icmp .ge 58, 3) := by decide +kernel
theorem dX6_forget_12 : decode cX6_forget 12 = .ok (.aload_n 0, 1) := by decide +kernel
theorem dX6_forget_13 : decode cX6_forget 13 = .ok (.getfield 9, 3) := by decide +kernel
theorem dX6_forget_16 : decode cX6_forget 16 = .ok (.iload_n 3, 1) := by decide +kernel
theorem dX6_forget_17 : decode cX6_forget 17 = .ok (.iaload, 1) := by decide +kernel
theorem dX6_forget_18 : decode cX6_forget 18 = .ok (.iload_n 1, 1) := by decide +kernel
theorem dX6_forget_19 : decode cX6_forget 19 = .ok (.if_icmp .eq 42, 3) := by decide +kernel
theorem dX6_forget_22 : decode cX6_forget 22 = .ok (.aload_n 0, 1) := by decide +kernel
theorem dX6_forget_23 : decode cX6_forget 23 = .ok (.getfield 9, 3) := by decide +kernel
theorem dX6_forget_26 : decode cX6_forget 26 = .ok (.iload_n 2, 1) := by decide +kernel
theorem dX6_forget_27 : decode cX6_forget 27 = .ok (.aload_n 0, 1) := by decide +kernel
theorem dX6_forget_28 : decode cX6_forget 28 = .ok (.getfield 9, 3) := by decide +kernel
theorem dX6_forget_31 : decode cX6_forget 31 = .ok (.iload_n 3, 1) := by decide +kernel
theorem dX6_forget_32 : decode cX6_forget 32 = .ok (.iaload, 1) := by decide +kernel
theorem dX6_forget_33 : decode cX6_forget 33 = .ok (.iastore, 1) := by decide +kernel
theorem dX6_forget_34 : decode cX6_forget 34 = .ok (.aload_n 0, 1) := by decide +kernel
theorem dX6_forget_35 : decode cX6_forget 35 = .ok (.getfield 15, 3) := by decide +kernel
theorem dX6_forget_38 : decode cX6_forget 38 = .ok (.iload_n 2, 1) := by decide +kernel
theorem dX6_forget_39 : decode cX6_forget 39 = .ok (.aload_n 0, 1) := by decide +kernel
theorem dX6_forget_40 : decode cX6_forget 40 = .ok (.getfield 15, 3) := by decide +kernel
theorem dX6_forget_43 : decode cX6_forget 43 = .ok (.iload_n 3, 1) := by decide +kernel
theorem dX6_forget_44 : decode cX6_forget 44 = .ok (.iaload, 1) := by decide +kernel
theorem dX6_forget_45 : decode cX6_forget 45 = .ok (.iastore, 1) := by decide +kernel
theorem dX6_forget_46 : decode cX6_forget 46 = .ok (.aload_n 0, 1) := by decide +kernel
theorem dX6_forget_47 : decode cX6_forget 47 = .ok (.getfield 18, 3) := by decide +kernel
theorem dX6_forget_50 : decode cX6_forget 50 = .ok (.iload_n 2, 1) := by decide +kernel
theorem dX6_forget_51 : decode cX6_forget 51 = .ok (.aload_n 0, 1) := by decide +kernel
theorem dX6_forget_52 : decode cX6_forget 52 = .ok (.getfield 18, 3) := by decide +kernel
theorem dX6_forget_55 : decode cX6_forget 55 = .ok (.iload_n 3, 1) := by decide +kernel
theorem dX6_forget_56 : decode cX6_forget 56 = .ok (.iaload, 1) := by decide +kernel
theorem dX6_forget_57 : decode cX6_forget 57 = .ok (.iastore, 1) := by decide +kernel
theorem dX6_forget_58 : decode cX6_forget 58 = .ok (.iinc 2 1, 3) := by decide +kernel
theorem dX6_forget_61 : decode cX6_forget 61 = .ok (.iinc 3 1, 3) := by decide +kernel
theorem dX6_forget_64 : decode cX6_forget 64 = .ok (.goto (-60), 3) := by decide +kernel
theorem dX6_forget_67 : decode cX6_forget 67 = .ok (.aload_n 0, 1) := by decide +kernel
theorem dX6_forget_68 : decode cX6_forget 68 = .ok (.iload_n 2, 1) := by decide +kernel
theorem dX6_forget_69 : decode cX6_forget 69 = .ok (.putfield 21, 3) := by decide +kernel
theorem dX6_forget_72 : decode cX6_forget 72 = .ok (.return_, 1) := by decide +kernel
theorem dX7_init_0 : decode cX7_init 0 = .ok (.aload_n 0, 1) := by decide +kernel
theorem dX7_init_1 : decode cX7_init 1 = .ok (.invokespecial 1, 3) := by decide +kernel
theorem dX7_init_4 : decode cX7_init 4 = .ok (.aload_n 0, 1) := by decide +kernel
theorem dX7_init_5 : decode cX7_init 5 = .ok (.new 7, 3) := by decide +kernel
theorem dX7_init_8 : decode cX7_init 8 = .ok (.dup, 1) := by decide +kernel
theorem dX7_init_9 : decode cX7_init 9 = .ok (.invokespecial 9, 3) := by decide +kernel
theorem dX7_init_12 : decode cX7_init 12 = .ok (.putfield 10, 3) := by decide +kernel
theorem dX7_init_15 : decode cX7_init 15 = .ok (.aload_n 0, 1) := by decide +kernel
theorem dX7_init_16 : decode cX7_init 16 = .ok (.new 7, 3) := by decide +kernel
theorem dX7_init_19 : decode cX7_init 19 = .ok (.dup, 1) := by decide +kernel
theorem dX7_init_20 : decode cX7_init 20 = .ok (.invokespecial 9, 3) := by decide +kernel
theorem dX7_init_23 : decode cX7_init 23 = .ok (.putfield 16, 3) := by decide +kernel
theorem dX7_init_26 : decode cX7_init 26 = .ok (.aload_n 0, 1) := by decide +kernel
theorem dX7_init_27 : decode cX7_init 27 = .ok (.iconst 0, 1) := by decide +kernel
theorem dX7_init_28 : decode cX7_init 28 = .ok (.putfield 19, 3) := by decide +kernel
theorem dX7_init_31 : decode cX7_init 31 = .ok (.return_, 1) := by decide +kernel
theorem dX7_service_0 : decode cX7_service 0 = .ok (.bipush 7, 2) := by decide +kernel
theorem dX7_service_2 : decode cX7_service 2 = .ok (.iload_n 1, 1) := by decide +kernel
theorem dX7_service_3 : decode cX7_service 3 = .ok (.invokestatic 23, 3) := by decide +kernel
theorem dX7_service_6 : decode cX7_service 6 = .ok (.ifCond .eq 21, 3) := by decide +kernel
theorem dX7_service_9 : decode cX7_service 9 = .ok (.bipush 9, 2) := by decide +kernel
theorem dX7_service_11 : decode cX7_service 11 = .ok (.iload_n 2, 1) := by decide +kernel
theorem dX7_service_12 : decode cX7_service 12 = .ok (.invokestatic 23, 3) := by decide +kernel
theorem dX7_service_15 : decode cX7_service 15 = .ok (.ifCond .eq 12, 3) := by decide +kernel
theorem dX7_service_18 : decode cX7_service 18 = .ok (.bipush 8, 2) := by decide +kernel
theorem dX7_service_20 : decode cX7_service 20 = .ok (.iload_n 3, 1) := by decide +kernel
theorem dX7_service_21 : decode cX7_service 21 = .ok (.invokestatic 23, 3) := by decide +kernel
theorem dX7_service_24 : decode cX7_service 24 = .ok (.ifCond .ne 5, 3) := by decide +kernel
theorem dX7_service_27 : decode cX7_service 27 = .ok (.iconst (-1), 1) := by decide +kernel
theorem dX7_service_28 : decode cX7_service 28 = .ok (.ireturn, 1) := by decide +kernel
theorem dX7_service_29 : decode cX7_service 29 = .ok (.aload_n 0, 1) := by decide +kernel
theorem dX7_service_30 : decode cX7_service 30 = .ok (.getfield 10, 3) := by decide +kernel
theorem dX7_service_33 : decode cX7_service 33 = .ok (.getfield 27, 3) := by decide +kernel
theorem dX7_service_36 : decode cX7_service 36 = .ok (.bipush 6, 2) := by decide +kernel
theorem dX7_service_38 : decode cX7_service 38 = .ok (.if_icmp .lt 6, 3) := by decide +kernel
theorem dX7_service_41 : decode cX7_service 41 = .ok (.bipush (-2), 2) := by decide +kernel
theorem dX7_service_43 : decode cX7_service 43 = .ok (.ireturn, 1) := by decide +kernel
theorem dX7_service_44 : decode cX7_service 44 = .ok (.aload_n 0, 1) := by decide +kernel
theorem dX7_service_45 : decode cX7_service 45 = .ok (.getfield 10, 3) := by decide +kernel
theorem dX7_service_48 : decode cX7_service 48 = .ok (.getfield 30, 3) := by decide +kernel
theorem dX7_service_51 : decode cX7_service 51 = .ok (.ifCond .eq 6, 3) := by decide +kernel
theorem dX7_service_54 : decode cX7_service 54 = .ok (.bipush (-3), 2) := by decide +kernel
theorem dX7_service_56 : decode cX7_service 56 = .ok (.ireturn, 1) := by decide +kernel
theorem dX7_service_57 : decode cX7_service 57 = .ok (.aload_n 0, 1) := by decide +kernel
theorem dX7_service_58 : decode cX7_service 58 = .ok (.getfield 10, 3) := by decide +kernel
theorem dX7_service_61 : decode cX7_service 61 = .ok (.iload_n 1, 1) := by decide +kernel
theorem dX7_service_62 : decode cX7_service 62 = .ok (.iload_n 2, 1) := by decide +kernel
theorem dX7_service_63 : decode cX7_service 63 = .ok (.iload_n 3, 1) := by decide +kernel
theorem dX7_service_64 : decode cX7_service 64 = .ok (.invokevirtual 33, 3) := by decide +kernel
theorem dX7_service_67 : decode cX7_service 67 = .ok (.ireturn, 1) := by decide +kernel
theorem dX7_rule_0 : decode cX7_rule 0 = .ok (.aload_n 0, 1) := by decide +kernel
theorem dX7_rule_1 : decode cX7_rule 1 = .ok (.iload_n 1, 1) := by decide +kernel
theorem dX7_rule_2 : decode cX7_rule 2 = .ok (.invokevirtual 37, 3) := by decide +kernel
theorem dX7_rule_5 : decode cX7_rule 5 = .ok (.ifCond .eq 21, 3) := by decide +kernel
theorem dX7_rule_8 : decode cX7_rule 8 = .ok (.iload_n 2, 1) := by decide +kernel
theorem dX7_rule_9 : decode cX7_rule 9 = .ok (.iconst 0, 1) := by decide +kernel
theorem dX7_rule_10 : decode cX7_rule 10 = .ok (.bipush 8, 2) := by decide +kernel
theorem dX7_rule_12 : decode cX7_rule 12 = .ok (.invokestatic 41, 3) := by decide +kernel
theorem dX7_rule_15 : decode cX7_rule 15 = .ok (.ifCond .eq 11, 3) := by decide +kernel
theorem dX7_rule_18 : decode cX7_rule 18 = .ok (.iload_n 2, 1) := by decide +kernel
theorem dX7_rule_19 : decode cX7_rule 19 = .ok (.iload_n 3, 1) := by decide +kernel
theorem dX7_rule_20 : decode cX7_rule 20 = .ok (.invokestatic 23, 3) := by decide +kernel
theorem dX7_rule_23 : decode cX7_rule 23 = .ok (.ifCond .ne 5, 3) := by decide +kernel
theorem dX7_rule_26 : decode cX7_rule 26 = .ok (.iconst (-1), 1) := by decide +kernel
theorem dX7_rule_27 : decode cX7_rule 27 = .ok (.ireturn, 1) := by decide +kernel
theorem dX7_rule_28 : decode cX7_rule 28 = .ok (.aload_n 0, 1) := by decide +kernel
theorem dX7_rule_29 : decode cX7_rule 29 = .ok (.getfield 10, 3) := by decide +kernel
theorem dX7_rule_32 : decode cX7_rule 32 = .ok (.getfield 45, 3) := by decide +kernel
theorem dX7_rule_35 : decode cX7_rule 35 = .ok (.iload_n 1, 1) := by decide +kernel
theorem dX7_rule_36 : decode cX7_rule 36 = .ok (.aaload, 1) := by decide +kernel
theorem dX7_rule_37 : decode cX7_rule 37 = .ok (.getfield 49, 3) := by decide +kernel
theorem dX7_rule_40 : decode cX7_rule 40 = .ok (.iload_n 2, 1) := by decide +kernel
theorem dX7_rule_41 : decode cX7_rule 41 = .ok (.iaload, 1) := by decide +kernel
theorem dX7_rule_42 : decode cX7_rule 42 = .ok (.istore 4, 2) := by decide +kernel
theorem dX7_rule_44 : decode cX7_rule 44 = .ok (.aload_n 0, 1) := by decide +kernel
theorem dX7_rule_45 : decode cX7_rule 45 = .ok (.getfield 10, 3) := by decide +kernel
theorem dX7_rule_48 : decode cX7_rule 48 = .ok (.getfield 45, 3) := by decide +kernel
theorem dX7_rule_51 : decode cX7_rule 51 = .ok (.iload_n 1, 1) := by decide +kernel
theorem dX7_rule_52 : decode cX7_rule 52 = .ok (.aaload, 1) := by decide +kernel
theorem dX7_rule_53 : decode cX7_rule 53 = .ok (.getfield 49, 3) := by decide +kernel
theorem dX7_rule_56 : decode cX7_rule 56 = .ok (.iload_n 2, 1) := by decide +kernel
theorem dX7_rule_57 : decode cX7_rule 57 = .ok (.iload_n 3, 1) := by decide +kernel
theorem dX7_rule_58 : decode cX7_rule 58 = .ok (.iastore, 1) := by decide +kernel
theorem dX7_rule_59 : decode cX7_rule 59 = .ok (.iload 4, 2) := by decide +kernel
theorem dX7_rule_61 : decode cX7_rule 61 = .ok (.ireturn, 1) := by decide +kernel
theorem dX7_guests_0 : decode cX7_guests 0 = .ok (.iload_n 1, 1) := by decide +kernel
theorem dX7_guests_1 : decode cX7_guests 1 = .ok (.ifCond .ne 38, 3) := by decide +kernel
theorem dX7_guests_4 : decode cX7_guests 4 = .ok (.iload_n 2, 1) := by decide +kernel
theorem dX7_guests_5 : decode cX7_guests 5 = .ok (.iconst 1, 1) := by decide +kernel
theorem dX7_guests_6 : decode cX7_guests 6 = .ok (.bipush 60, 2) := by decide +kernel
theorem dX7_guests_8 : decode cX7_guests 8 = .ok (.invokestatic 41, 3) := by decide +kernel
theorem dX7_guests_11 : decode cX7_guests 11 = .ok (.ifCond .eq 28, 3) := by decide +kernel
theorem dX7_guests_14 : decode cX7_guests 14 = .ok (.aload_n 0, 1) := by decide +kernel
theorem dX7_guests_15 : decode cX7_guests 15 = .ok (.getfield 10, 3) := by decide +kernel
theorem dX7_guests_18 : decode cX7_guests 18 = .ok (.getfield 55, 3) := by decide +kernel
theorem dX7_guests_21 : decode cX7_guests 21 = .ok (.getfield 59, 3) := by decide +kernel
theorem dX7_guests_24 : decode cX7_guests 24 = .ok (.istore_n 3, 1) := by decide +kernel
theorem dX7_guests_25 : decode cX7_guests 25 = .ok (.aload_n 0, 1) := by decide +kernel
theorem dX7_guests_26 : decode cX7_guests 26 = .ok (.getfield 10, 3) := by decide +kernel
theorem dX7_guests_29 : decode cX7_guests 29 = .ok (.getfield 55, 3) := by decide +kernel
theorem dX7_guests_32 : decode cX7_guests 32 = .ok (.iload_n 2, 1) := by decide +kernel
theorem dX7_guests_33 : decode cX7_guests 33 = .ok (.putfield 59, 3) := by decide +kernel
theorem dX7_guests_36 : decode cX7_guests 36 = .ok (.goto 44, 3) := by decide +kernel
theorem dX7_guests_39 : decode cX7_guests 39 = .ok (.iload_n 1, 1) := by decide +kernel
theorem dX7_guests_40 : decode cX7_guests 40 = .ok (.iconst 1, 1) := by decide +kernel
theorem dX7_guests_41 : decode cX7_guests 41 = .ok (.if_icmp .ne 37, 3) := by decide +kernel
theorem dX7_guests_44 : decode cX7_guests 44 = .ok (.iload_n 2, 1) := by decide +kernel
theorem dX7_guests_45 : decode cX7_guests 45 = .ok (.iconst 0, 1) := by decide +kernel
theorem dX7_guests_46 : decode cX7_guests 46 = .ok (.iconst 3, 1) := by decide +kernel
theorem dX7_guests_47 : decode cX7_guests 47 = .ok (.invokestatic 41, 3) := by decide +kernel
theorem dX7_guests_50 : decode cX7_guests 50 = .ok (.ifCond .eq 28, 3) := by decide +kernel
theorem dX7_guests_53 : decode cX7_guests 53 = .ok (.aload_n 0, 1) := by decide +kernel
theorem dX7_guests_54 : decode cX7_guests 54 = .ok (.getfield 10, 3) := by decide +kernel
theorem dX7_guests_57 : decode cX7_guests 57 = .ok (.getfield 55, 3) := by decide +kernel
theorem dX7_guests_60 : decode cX7_guests 60 = .ok (.getfield 64, 3) := by decide +kernel
theorem dX7_guests_63 : decode cX7_guests 63 = .ok (.istore_n 3, 1) := by decide +kernel
theorem dX7_guests_64 : decode cX7_guests 64 = .ok (.aload_n 0, 1) := by decide +kernel
theorem dX7_guests_65 : decode cX7_guests 65 = .ok (.getfield 10, 3) := by decide +kernel
theorem dX7_guests_68 : decode cX7_guests 68 = .ok (.getfield 55, 3) := by decide +kernel
theorem dX7_guests_71 : decode cX7_guests 71 = .ok (.iload_n 2, 1) := by decide +kernel
theorem dX7_guests_72 : decode cX7_guests 72 = .ok (.putfield 64, 3) := by decide +kernel
theorem dX7_guests_75 : decode cX7_guests 75 = .ok (.goto 5, 3) := by decide +kernel
theorem dX7_guests_78 : decode cX7_guests 78 = .ok (.iconst (-1), 1) := by decide +kernel
theorem dX7_guests_79 : decode cX7_guests 79 = .ok (.istore_n 3, 1) := by decide +kernel
theorem dX7_guests_80 : decode cX7_guests 80 = .ok (.iload_n 3, 1) := by decide +kernel
theorem dX7_guests_81 : decode cX7_guests 81 = .ok (.ireturn, 1) := by decide +kernel
theorem dX7_crowd_0 : decode cX7_crowd 0 = .ok (.iload_n 1, 1) := by decide +kernel
theorem dX7_crowd_1 : decode cX7_crowd 1 = .ok (.aload_n 0, 1) := by decide +kernel
theorem dX7_crowd_2 : decode cX7_crowd 2 = .ok (.getfield 10, 3) := by decide +kernel
theorem dX7_crowd_5 : decode cX7_crowd 5 = .ok (.getfield 30, 3) := by decide +kernel
theorem dX7_crowd_8 : decode cX7_crowd 8 = .ok (.if_icmp .le 26, 3) := by decide +kernel
theorem dX7_crowd_11 : decode cX7_crowd 11 = .ok (.iload_n 1, 1) := by decide +kernel
theorem dX7_crowd_12 : decode cX7_crowd 12 = .ok (.ldc 67, 2) := by decide +kernel
theorem dX7_crowd_14 : decode cX7_crowd 14 = .ok (.if_icmp .gt 20, 3) := by decide +kernel
theorem dX7_crowd_17 : decode cX7_crowd 17 = .ok (.iload_n 2, 1) := by decide +kernel
theorem dX7_crowd_18 : decode cX7_crowd 18 = .ok (.invokestatic 68, 3) := by decide +kernel
theorem dX7_crowd_21 : decode cX7_crowd 21 = .ok (.ifCond .eq 13, 3) := by decide +kernel
theorem dX7_crowd_24 : decode cX7_crowd 24 = .ok (.iload_n 3, 1) := by decide +kernel
theorem dX7_crowd_25 : decode cX7_crowd 25 = .ok (.iconst 1, 1) := by decide +kernel
theorem dX7_crowd_26 : decode cX7_crowd 26 = .ok (.bipush 30, 2) := by decide +kernel
theorem dX7_crowd_28 : decode cX7_crowd 28 = .ok (.invokestatic 41, 3) := by decide +kernel
theorem dX7_crowd_31 : decode cX7_crowd 31 = .ok (.ifCond .ne 5, 3) := by decide +kernel
theorem dX7_crowd_34 : decode cX7_crowd 34 = .ok (.iconst (-1), 1) := by decide +kernel
theorem dX7_crowd_35 : decode cX7_crowd 35 = .ok (.ireturn, 1) := by decide +kernel
theorem dX7_crowd_36 : decode cX7_crowd 36 = .ok (.aload_n 0, 1) := by decide +kernel
theorem dX7_crowd_37 : decode cX7_crowd 37 = .ok (.getfield 10, 3) := by decide +kernel
theorem dX7_crowd_40 : decode cX7_crowd 40 = .ok (.getfield 71, 3) := by decide +kernel
theorem dX7_crowd_43 : decode cX7_crowd 43 = .ok (.getfield 75, 3) := by decide +kernel
theorem dX7_crowd_46 : decode cX7_crowd 46 = .ok (.bipush 40, 2) := by decide +kernel
theorem dX7_crowd_48 : decode cX7_crowd 48 = .ok (.if_icmp .lt 6, 3) := by decide +kernel
theorem dX7_crowd_51 : decode cX7_crowd 51 = .ok (.bipush (-2), 2) := by decide +kernel
theorem dX7_crowd_53 : decode cX7_crowd 53 = .ok (.ireturn, 1) := by decide +kernel
theorem dX7_crowd_54 : decode cX7_crowd 54 = .ok (.aload_n 0, 1) := by decide +kernel
theorem dX7_crowd_55 : decode cX7_crowd 55 = .ok (.getfield 10, 3) := by decide +kernel
theorem dX7_crowd_58 : decode cX7_crowd 58 = .ok (.getfield 71, 3) := by decide +kernel
theorem dX7_crowd_61 : decode cX7_crowd 61 = .ok (.iload_n 1, 1) := by decide +kernel
theorem dX7_crowd_62 : decode cX7_crowd 62 = .ok (.iload_n 2, 1) := by decide +kernel
theorem dX7_crowd_63 : decode cX7_crowd 63 = .ok (.iload_n 3, 1) := by decide +kernel
theorem dX7_crowd_64 : decode cX7_crowd 64 = .ok (.invokevirtual 80, 3) := by decide +kernel
theorem dX7_crowd_67 : decode cX7_crowd 67 = .ok (.aload_n 0, 1) := by decide +kernel
theorem dX7_crowd_68 : decode cX7_crowd 68 = .ok (.getfield 10, 3) := by decide +kernel
theorem dX7_crowd_71 : decode cX7_crowd 71 = .ok (.getfield 71, 3) := by decide +kernel
theorem dX7_crowd_74 : decode cX7_crowd 74 = .ok (.getfield 75, 3) := by decide +kernel
theorem dX7_crowd_77 : decode cX7_crowd 77 = .ok (.ireturn, 1) := by decide +kernel
theorem dX7_usual_0 : decode cX7_usual 0 = .ok (.iload_n 1, 1) := by decide +kernel
theorem dX7_usual_1 : decode cX7_usual 1 = .ok (.iconst 1, 1) := by decide +kernel
theorem dX7_usual_2 : decode cX7_usual 2 = .ok (.bipush 12, 2) := by decide +kernel
theorem dX7_usual_4 : decode cX7_usual 4 = .ok (.invokestatic 41, 3) := by decide +kernel
theorem dX7_usual_7 : decode cX7_usual 7 = .ok (.ifCond .ne 5, 3) := by decide +kernel
theorem dX7_usual_10 : decode cX7_usual 10 = .ok (.iconst (-1), 1) := by decide +kernel
theorem dX7_usual_11 : decode cX7_usual 11 = .ok (.ireturn, 1) := by decide +kernel
theorem dX7_usual_12 : decode cX7_usual 12 = .ok (.aload_n 0, 1) := by decide +kernel
theorem dX7_usual_13 : decode cX7_usual 13 = .ok (.getfield 10, 3) := by decide +kernel
theorem dX7_usual_16 : decode cX7_usual 16 = .ok (.getfield 84, 3) := by decide +kernel
theorem dX7_usual_19 : decode cX7_usual 19 = .ok (.iload_n 1, 1) := by decide +kernel
theorem dX7_usual_20 : decode cX7_usual 20 = .ok (.invokevirtual 88, 3) := by decide +kernel
theorem dX7_usual_23 : decode cX7_usual 23 = .ok (.iconst 1, 1) := by decide +kernel
theorem dX7_usual_24 : decode cX7_usual 24 = .ok (.ireturn, 1) := by decide +kernel
theorem dX7_place_0 : decode cX7_place 0 = .ok (.iload_n 1, 1) := by decide +kernel
theorem dX7_place_1 : decode cX7_place 1 = .ok (.iconst 0, 1) := by decide +kernel
theorem dX7_place_2 : decode cX7_place 2 = .ok (.aload_n 0, 1) := by decide +kernel
theorem dX7_place_3 : decode cX7_place 3 = .ok (.getfield 10, 3) := by decide +kernel
theorem dX7_place_6 : decode cX7_place 6 = .ok (.getfield 84, 3) := by decide +kernel
theorem dX7_place_9 : decode cX7_place 9 = .ok (.getfield 94, 3) := by decide +kernel
theorem dX7_place_12 : decode cX7_place 12 = .ok (.iconst 1, 1) := by decide +kernel
theorem dX7_place_13 : decode cX7_place 13 = .ok (.isub, 1) := by decide +kernel
theorem dX7_place_14 : decode cX7_place 14 = .ok (.invokestatic 41, 3) := by decide +kernel
theorem dX7_place_17 : decode cX7_place 17 = .ok (.ifCond .eq 19, 3) := by decide +kernel
theorem dX7_place_20 : decode cX7_place 20 = .ok (.iload_n 2, 1) := by decide +kernel
theorem dX7_place_21 : decode cX7_place 21 = .ok (.invokestatic 68, 3) := by decide +kernel
theorem dX7_place_24 : decode cX7_place 24 = .ok (.ifCond .eq 12, 3) := by decide +kernel
theorem dX7_place_27 : decode cX7_place 27 = .ok (.iload_n 3, 1) := by decide +kernel
theorem dX7_place_28 : decode cX7_place 28 = .ok (.iconst 0, 1) := by decide +kernel
theorem dX7_place_29 : decode cX7_place 29 = .ok (.iconst 5, 1) := by decide +kernel
theorem dX7_place_30 : decode cX7_place 30 = .ok (.invokestatic 41, 3) := by decide +kernel
theorem dX7_place_33 : decode cX7_place 33 = .ok (.ifCond .ne 5, 3) := by decide +kernel
theorem dX7_place_36 : decode cX7_place 36 = .ok (.iconst (-1), 1) := by decide +kernel
theorem dX7_place_37 : decode cX7_place 37 = .ok (.ireturn, 1) := by decide +kernel
theorem dX7_place_38 : decode cX7_place 38 = .ok (.aload_n 0, 1) := by decide +kernel
theorem dX7_place_39 : decode cX7_place 39 = .ok (.getfield 10, 3) := by decide +kernel
theorem dX7_place_42 : decode cX7_place 42 = .ok (.getfield 84, 3) := by decide +kernel
theorem dX7_place_45 : decode cX7_place 45 = .ok (.getfield 97, 3) := by decide +kernel
theorem dX7_place_48 : decode cX7_place 48 = .ok (.iload_n 1, 1) := by decide +kernel
theorem dX7_place_49 : decode cX7_place 49 = .ok (.iload_n 2, 1) := by decide +kernel
theorem dX7_place_50 : decode cX7_place 50 = .ok (.iastore, 1) := by decide +kernel
theorem dX7_place_51 : decode cX7_place 51 = .ok (.aload_n 0, 1) := by decide +kernel
theorem dX7_place_52 : decode cX7_place 52 = .ok (.getfield 10, 3) := by decide +kernel
theorem dX7_place_55 : decode cX7_place 55 = .ok (.getfield 84, 3) := by decide +kernel
theorem dX7_place_58 : decode cX7_place 58 = .ok (.getfield 100, 3) := by decide +kernel
theorem dX7_place_61 : decode cX7_place 61 = .ok (.iload_n 1, 1) := by decide +kernel
theorem dX7_place_62 : decode cX7_place 62 = .ok (.iload_n 3, 1) := by decide +kernel
theorem dX7_place_63 : decode cX7_place 63 = .ok (.iastore, 1) := by decide +kernel
theorem dX7_place_64 : decode cX7_place 64 = .ok (.iconst 1, 1) := by decide +kernel
theorem dX7_place_65 : decode cX7_place 65 = .ok (.ireturn, 1) := by decide +kernel
theorem dX7_ticks_0 : decode cX7_ticks 0 = .ok (.iload_n 1, 1) := by decide +kernel
theorem dX7_ticks_1 : decode cX7_ticks 1 = .ok (.iconst 1, 1) := by decide +kernel
theorem dX7_ticks_2 : decode cX7_ticks 2 = .ok (.sipush 500, 3) := by decide +kernel
theorem dX7_ticks_5 : decode cX7_ticks 5 = .ok (.invokestatic 41, 3) := by decide +kernel
theorem dX7_ticks_8 : decode cX7_ticks 8 = .ok (.ifCond .eq 17, 3) := by decide +kernel
theorem dX7_ticks_11 : decode cX7_ticks 11 = .ok (.aload_n 0, 1) := by decide +kernel
theorem dX7_ticks_12 : decode cX7_ticks 12 = .ok (.getfield 10, 3) := by decide +kernel
theorem dX7_ticks_15 : decode cX7_ticks 15 = .ok (.getfield 30, 3) := by decide +kernel
theorem dX7_ticks_18 : decode cX7_ticks 18 = .ok (.iload_n 1, 1) := by decide +kernel
theorem dX7_ticks_19 : decode cX7_ticks 19 = .ok (.iadd, 1) := by decide +kernel
theorem dX7_ticks_20 : decode cX7_ticks 20 = .ok (.ldc 67, 2) := by decide +kernel
theorem dX7_ticks_22 : decode cX7_ticks 22 = .ok (.if_icmp .le 5, 3) := by decide +kernel
theorem dX7_ticks_25 : decode cX7_ticks 25 = .ok (.iconst (-1), 1) := by decide +kernel
theorem dX7_ticks_26 : decode cX7_ticks 26 = .ok (.ireturn, 1) := by decide +kernel
theorem dX7_ticks_27 : decode cX7_ticks 27 = .ok (.aload_n 0, 1) := by decide +kernel
theorem dX7_ticks_28 : decode cX7_ticks 28 = .ok (.getfield 10, 3) := by decide +kernel
theorem dX7_ticks_31 : decode cX7_ticks 31 = .ok (.getfield 27, 3) := by decide +kernel
theorem dX7_ticks_34 : decode cX7_ticks 34 = .ok (.ifCond .ne 6, 3) := by decide +kernel
theorem dX7_ticks_37 : decode cX7_ticks 37 = .ok (.bipush (-3), 2) := by decide +kernel
theorem dX7_ticks_39 : decode cX7_ticks 39 = .ok (.ireturn, 1) := by decide +kernel
theorem dX7_ticks_40 : decode cX7_ticks 40 = .ok (.iconst 0, 1) := by decide +kernel
theorem dX7_ticks_41 : decode cX7_ticks 41 = .ok (.istore_n 2, 1) := by decide +kernel
theorem dX7_ticks_42 : decode cX7_ticks 42 = .ok (.iload_n 2, 1) := by decide +kernel
theorem dX7_ticks_43 : decode cX7_ticks 43 = .ok (.iload_n 1, 1) := by decide +kernel
theorem dX7_ticks_44 : decode cX7_ticks 44 = .ok (.if_icmp .ge 16, 3) := by decide +kernel
theorem dX7_ticks_47 : decode cX7_ticks 47 = .ok (.aload_n 0, 1) := by decide +kernel
theorem dX7_ticks_48 : decode cX7_ticks 48 = .ok (.getfield 10, 3) := by decide +kernel
theorem dX7_ticks_51 : decode cX7_ticks 51 = .ok (.invokevirtual 103, 3) := by decide +kernel
theorem dX7_ticks_54 : decode cX7_ticks 54 = .ok (.iinc 2 1, 3) := by decide +kernel
theorem dX7_ticks_57 : decode cX7_ticks 57 = .ok (.goto (-15), 3) := by decide +kernel
theorem dX7_ticks_60 : decode cX7_ticks 60 = .ok (.aload_n 0, 1) := by decide +kernel
theorem dX7_ticks_61 : decode cX7_ticks 61 = .ok (.getfield 10, 3) := by decide +kernel
theorem dX7_ticks_64 : decode cX7_ticks 64 = .ok (.getfield 30, 3) := by decide +kernel
theorem dX7_ticks_67 : decode cX7_ticks 67 = .ok (.ireturn, 1) := by decide +kernel
theorem dX7_about_0 : decode cX7_about 0 = .ok (.aload_n 0, 1) := by decide +kernel
theorem dX7_about_1 : decode cX7_about 1 = .ok (.iload_n 1, 1) := by decide +kernel
theorem dX7_about_2 : decode cX7_about 2 = .ok (.invokevirtual 37, 3) := by decide +kernel
theorem dX7_about_5 : decode cX7_about 5 = .ok (.ifCond .eq 13, 3) := by decide +kernel
theorem dX7_about_8 : decode cX7_about 8 = .ok (.iload_n 2, 1) := by decide +kernel
theorem dX7_about_9 : decode cX7_about 9 = .ok (.iconst 0, 1) := by decide +kernel
theorem dX7_about_10 : decode cX7_about 10 = .ok (.bipush 12, 2) := by decide +kernel
theorem dX7_about_12 : decode cX7_about 12 = .ok (.invokestatic 41, 3) := by decide +kernel
theorem dX7_about_15 : decode cX7_about 15 = .ok (.ifCond .ne 5, 3) := by decide +kernel
theorem dX7_about_18 : decode cX7_about 18 = .ok (.iconst (-1), 1) := by decide +kernel
theorem dX7_about_19 : decode cX7_about 19 = .ok (.ireturn, 1) := by decide +kernel
theorem dX7_about_20 : decode cX7_about 20 = .ok (.aload_n 0, 1) := by decide +kernel
theorem dX7_about_21 : decode cX7_about 21 = .ok (.getfield 10, 3) := by decide +kernel
theorem dX7_about_24 : decode cX7_about 24 = .ok (.getfield 45, 3) := by decide +kernel
theorem dX7_about_27 : decode cX7_about 27 = .ok (.iload_n 1, 1) := by decide +kernel
theorem dX7_about_28 : decode cX7_about 28 = .ok (.aaload, 1) := by decide +kernel
theorem dX7_about_29 : decode cX7_about 29 = .ok (.astore_n 3, 1) := by decide +kernel
theorem dX7_about_30 : decode cX7_about 30 = .ok (.iload_n 2, 1) := by decide +kernel
theorem dX7_about_31 : decode cX7_about 31 = .ok (.bipush 6, 2) := by decide +kernel
theorem dX7_about_33 : decode cX7_about 33 = .ok (.if_icmp .lt 13, 3) := by decide +kernel
theorem dX7_about_36 : decode cX7_about 36 = .ok (.aload_n 3, 1) := by decide +kernel
theorem dX7_about_37 : decode cX7_about 37 = .ok (.getfield 106, 3) := by decide +kernel
theorem dX7_about_40 : decode cX7_about 40 = .ok (.iload_n 2, 1) := by decide +kernel
theorem dX7_about_41 : decode cX7_about 41 = .ok (.bipush 6, 2) := by decide +kernel
theorem dX7_about_43 : decode cX7_about 43 = .ok (.isub, 1) := by decide +kernel
theorem dX7_about_44 : decode cX7_about 44 = .ok (.iaload, 1) := by decide +kernel
theorem dX7_about_45 : decode cX7_about 45 = .ok (.ireturn, 1) := by decide +kernel
theorem dX7_about_46 : decode cX7_about 46 = .ok (.iload_n 2, 1) := by decide +kernel
theorem dX7_about_47 : decode cX7_about 47 = .ok (.lookupswitch 53 #[(4, 25), (5, 48)], 25) := by decide +kernel
theorem dX7_about_72 : decode cX7_about 72 = .ok (.aload_n 3, 1) := by decide +kernel
theorem dX7_about_73 : decode cX7_about 73 = .ok (.aload_n 0, 1) := by decide +kernel
theorem dX7_about_74 : decode cX7_about 74 = .ok (.getfield 10, 3) := by decide +kernel
theorem dX7_about_77 : decode cX7_about 77 = .ok (.getfield 30, 3) := by decide +kernel
theorem dX7_about_80 : decode cX7_about 80 = .ok (.invokevirtual 109, 3) := by decide +kernel
theorem dX7_about_83 : decode cX7_about 83 = .ok (.ifCond .eq 10, 3) := by decide +kernel
theorem dX7_about_86 : decode cX7_about 86 = .ok (.aload_n 3, 1) := by decide +kernel
theorem dX7_about_87 : decode cX7_about 87 = .ok (.getfield 112, 3) := by decide +kernel
theorem dX7_about_90 : decode cX7_about 90 = .ok (.goto 4, 3) := by decide +kernel
theorem dX7_about_93 : decode cX7_about 93 = .ok (.iconst (-1), 1) := by decide +kernel
theorem dX7_about_94 : decode cX7_about 94 = .ok (.ireturn, 1) := by decide +kernel
theorem dX7_about_95 : decode cX7_about 95 = .ok (.aload_n 3, 1) := by decide +kernel
theorem dX7_about_96 : decode cX7_about 96 = .ok (.getfield 115, 3) := by decide +kernel
theorem dX7_about_99 : decode cX7_about 99 = .ok (.ireturn, 1) := by decide +kernel
theorem dX7_about_100 : decode cX7_about 100 = .ok (.aload_n 0, 1) := by decide +kernel
theorem dX7_about_101 : decode cX7_about 101 = .ok (.getfield 10, 3) := by decide +kernel
theorem dX7_about_104 : decode cX7_about 104 = .ok (.getfield 118, 3) := by decide +kernel
theorem dX7_about_107 : decode cX7_about 107 = .ok (.iload_n 1, 1) := by decide +kernel
theorem dX7_about_108 : decode cX7_about 108 = .ok (.iload_n 2, 1) := by decide +kernel
theorem dX7_about_109 : decode cX7_about 109 = .ok (.invokevirtual 122, 3) := by decide +kernel
theorem dX7_about_112 : decode cX7_about 112 = .ok (.ireturn, 1) := by decide +kernel
theorem dX7_ruleOf_0 : decode cX7_ruleOf 0 = .ok (.aload_n 0, 1) := by decide +kernel
theorem dX7_ruleOf_1 : decode cX7_ruleOf 1 = .ok (.iload_n 1, 1) := by decide +kernel
theorem dX7_ruleOf_2 : decode cX7_ruleOf 2 = .ok (.invokevirtual 37, 3) := by decide +kernel
theorem dX7_ruleOf_5 : decode cX7_ruleOf 5 = .ok (.ifCond .eq 13, 3) := by decide +kernel
theorem dX7_ruleOf_8 : decode cX7_ruleOf 8 = .ok (.iload_n 2, 1) := by decide +kernel
theorem dX7_ruleOf_9 : decode cX7_ruleOf 9 = .ok (.iconst 0, 1) := by decide +kernel
theorem dX7_ruleOf_10 : decode cX7_ruleOf 10 = .ok (.bipush 9, 2) := by decide +kernel
theorem dX7_ruleOf_12 : decode cX7_ruleOf 12 = .ok (.invokestatic 41, 3) := by decide +kernel
theorem dX7_ruleOf_15 : decode cX7_ruleOf 15 = .ok (.ifCond .ne 5, 3) := by decide +kernel
theorem dX7_ruleOf_18 : decode cX7_ruleOf 18 = .ok (.iconst (-1), 1) := by decide +kernel
theorem dX7_ruleOf_19 : decode cX7_ruleOf 19 = .ok (.ireturn, 1) := by decide +kernel
theorem dX7_ruleOf_20 : decode cX7_ruleOf 20 = .ok (.aload_n 0, 1) := by decide +kernel
theorem dX7_ruleOf_21 : decode cX7_ruleOf 21 = .ok (.getfield 10, 3) := by decide +kernel
theorem dX7_ruleOf_24 : decode cX7_ruleOf 24 = .ok (.getfield 45, 3) := by decide +kernel
theorem dX7_ruleOf_27 : decode cX7_ruleOf 27 = .ok (.iload_n 1, 1) := by decide +kernel
theorem dX7_ruleOf_28 : decode cX7_ruleOf 28 = .ok (.aaload, 1) := by decide +kernel
theorem dX7_ruleOf_29 : decode cX7_ruleOf 29 = .ok (.getfield 49, 3) := by decide +kernel
theorem dX7_ruleOf_32 : decode cX7_ruleOf 32 = .ok (.iload_n 2, 1) := by decide +kernel
theorem dX7_ruleOf_33 : decode cX7_ruleOf 33 = .ok (.iaload, 1) := by decide +kernel
theorem dX7_ruleOf_34 : decode cX7_ruleOf 34 = .ok (.ireturn, 1) := by decide +kernel
theorem dX7_kept_0 : decode cX7_kept 0 = .ok (.aload_n 0, 1) := by decide +kernel
theorem dX7_kept_1 : decode cX7_kept 1 = .ok (.iload_n 1, 1) := by decide +kernel
theorem dX7_kept_2 : decode cX7_kept 2 = .ok (.invokevirtual 37, 3) := by decide +kernel
theorem dX7_kept_5 : decode cX7_kept 5 = .ok (.ifCond .eq 10, 3) := by decide +kernel
theorem dX7_kept_8 : decode cX7_kept 8 = .ok (.iload_n 2, 1) := by decide +kernel
theorem dX7_kept_9 : decode cX7_kept 9 = .ok (.invokestatic 68, 3) := by decide +kernel
theorem dX7_kept_12 : decode cX7_kept 12 = .ok (.ifCond .ne 5, 3) := by decide +kernel
theorem dX7_kept_15 : decode cX7_kept 15 = .ok (.iconst (-1), 1) := by decide +kernel
theorem dX7_kept_16 : decode cX7_kept 16 = .ok (.ireturn, 1) := by decide +kernel
theorem dX7_kept_17 : decode cX7_kept 17 = .ok (.aload_n 0, 1) := by decide +kernel
theorem dX7_kept_18 : decode cX7_kept 18 = .ok (.getfield 10, 3) := by decide +kernel
theorem dX7_kept_21 : decode cX7_kept 21 = .ok (.getfield 45, 3) := by decide +kernel
theorem dX7_kept_24 : decode cX7_kept 24 = .ok (.iload_n 1, 1) := by decide +kernel
theorem dX7_kept_25 : decode cX7_kept 25 = .ok (.aaload, 1) := by decide +kernel
theorem dX7_kept_26 : decode cX7_kept 26 = .ok (.astore_n 3, 1) := by decide +kernel
theorem dX7_kept_27 : decode cX7_kept 27 = .ok (.aload_n 3, 1) := by decide +kernel
theorem dX7_kept_28 : decode cX7_kept 28 = .ok (.iload_n 2, 1) := by decide +kernel
theorem dX7_kept_29 : decode cX7_kept 29 = .ok (.aload_n 0, 1) := by decide +kernel
theorem dX7_kept_30 : decode cX7_kept 30 = .ok (.getfield 10, 3) := by decide +kernel
theorem dX7_kept_33 : decode cX7_kept 33 = .ok (.getfield 30, 3) := by decide +kernel
theorem dX7_kept_36 : decode cX7_kept 36 = .ok (.invokevirtual 128, 3) := by decide +kernel
theorem dX7_kept_39 : decode cX7_kept 39 = .ok (.ifCond .eq 12, 3) := by decide +kernel
theorem dX7_kept_42 : decode cX7_kept 42 = .ok (.aload_n 3, 1) := by decide +kernel
theorem dX7_kept_43 : decode cX7_kept 43 = .ok (.getfield 131, 3) := by decide +kernel
theorem dX7_kept_46 : decode cX7_kept 46 = .ok (.iload_n 2, 1) := by decide +kernel
theorem dX7_kept_47 : decode cX7_kept 47 = .ok (.iaload, 1) := by decide +kernel
theorem dX7_kept_48 : decode cX7_kept 48 = .ok (.goto 5, 3) := by decide +kernel
theorem dX7_kept_51 : decode cX7_kept 51 = .ok (.bipush (-4), 2) := by decide +kernel
theorem dX7_kept_53 : decode cX7_kept 53 = .ok (.ireturn, 1) := by decide +kernel
theorem dX7_job_0 : decode cX7_job 0 = .ok (.aload_n 0, 1) := by decide +kernel
theorem dX7_job_1 : decode cX7_job 1 = .ok (.getfield 10, 3) := by decide +kernel
theorem dX7_job_4 : decode cX7_job 4 = .ok (.getfield 118, 3) := by decide +kernel
theorem dX7_job_7 : decode cX7_job 7 = .ok (.astore_n 3, 1) := by decide +kernel
theorem dX7_job_8 : decode cX7_job 8 = .ok (.aload_n 3, 1) := by decide +kernel
theorem dX7_job_9 : decode cX7_job 9 = .ok (.getfield 134, 3) := by decide +kernel
theorem dX7_job_12 : decode cX7_job 12 = .ok (.iload_n 1, 1) := by decide +kernel
theorem dX7_job_13 : decode cX7_job 13 = .ok (.invokevirtual 138, 3) := by decide +kernel
theorem dX7_job_16 : decode cX7_job 16 = .ok (.istore 4, 2) := by decide +kernel
theorem dX7_job_18 : decode cX7_job 18 = .ok (.iload 4, 2) := by decide +kernel
theorem dX7_job_20 : decode cX7_job 20 = .ok (.iconst (-1), 1) := by decide +kernel
theorem dX7_job_21 : decode cX7_job 21 = .ok (.if_icmp .ne 5, 3) := by decide +kernel
theorem dX7_job_24 : decode cX7_job 24 = .ok (.iconst (-1), 1) := by decide +kernel
theorem dX7_job_25 : decode cX7_job 25 = .ok (.ireturn, 1) := by decide +kernel
theorem dX7_job_26 : decode cX7_job 26 = .ok (.iload_n 2, 1) := by decide +kernel
theorem dX7_job_27 : decode cX7_job 27 = .ok (.tableswitch 96 0 6 #[41, 49, 57, 65, 73, 80, 88], 41) := by decide +kernel
theorem dX7_job_68 : decode cX7_job 68 = .ok (.aload_n 3, 1) := by decide +kernel
theorem dX7_job_69 : decode cX7_job 69 = .ok (.getfield 144, 3) := by decide +kernel
theorem dX7_job_72 : decode cX7_job 72 = .ok (.iload 4, 2) := by decide +kernel
theorem dX7_job_74 : decode cX7_job 74 = .ok (.iaload, 1) := by decide +kernel
theorem dX7_job_75 : decode cX7_job 75 = .ok (.ireturn, 1) := by decide +kernel
theorem dX7_job_76 : decode cX7_job 76 = .ok (.aload_n 3, 1) := by decide +kernel
theorem dX7_job_77 : decode cX7_job 77 = .ok (.getfield 147, 3) := by decide +kernel
theorem dX7_job_80 : decode cX7_job 80 = .ok (.iload 4, 2) := by decide +kernel
theorem dX7_job_82 : decode cX7_job 82 = .ok (.iaload, 1) := by decide +kernel
theorem dX7_job_83 : decode cX7_job 83 = .ok (.ireturn, 1) := by decide +kernel
theorem dX7_job_84 : decode cX7_job 84 = .ok (.aload_n 3, 1) := by decide +kernel
theorem dX7_job_85 : decode cX7_job 85 = .ok (.getfield 150, 3) := by decide +kernel
theorem dX7_job_88 : decode cX7_job 88 = .ok (.iload 4, 2) := by decide +kernel
theorem dX7_job_90 : decode cX7_job 90 = .ok (.iaload, 1) := by decide +kernel
theorem dX7_job_91 : decode cX7_job 91 = .ok (.ireturn, 1) := by decide +kernel
theorem dX7_job_92 : decode cX7_job 92 = .ok (.aload_n 3, 1) := by decide +kernel
theorem dX7_job_93 : decode cX7_job 93 = .ok (.getfield 153, 3) := by decide +kernel
theorem dX7_job_96 : decode cX7_job 96 = .ok (.iload 4, 2) := by decide +kernel
theorem dX7_job_98 : decode cX7_job 98 = .ok (.iaload, 1) := by decide +kernel
theorem dX7_job_99 : decode cX7_job 99 = .ok (.ireturn, 1) := by decide +kernel
theorem dX7_job_100 : decode cX7_job 100 = .ok (.aload_n 0, 1) := by decide +kernel
theorem dX7_job_101 : decode cX7_job 101 = .ok (.iload 4, 2) := by decide +kernel
theorem dX7_job_103 : decode cX7_job 103 = .ok (.invokevirtual 156, 3) := by decide +kernel
theorem dX7_job_106 : decode cX7_job 106 = .ok (.ireturn, 1) := by decide +kernel
theorem dX7_job_107 : decode cX7_job 107 = .ok (.aload_n 3, 1) := by decide +kernel
theorem dX7_job_108 : decode cX7_job 108 = .ok (.getfield 159, 3) := by decide +kernel
theorem dX7_job_111 : decode cX7_job 111 = .ok (.iload 4, 2) := by decide +kernel
theorem dX7_job_113 : decode cX7_job 113 = .ok (.iaload, 1) := by decide +kernel
theorem dX7_job_114 : decode cX7_job 114 = .ok (.ireturn, 1) := by decide +kernel
theorem dX7_job_115 : decode cX7_job 115 = .ok (.aload_n 3, 1) := by decide +kernel
theorem dX7_job_116 : decode cX7_job 116 = .ok (.getfield 162, 3) := by decide +kernel
theorem dX7_job_119 : decode cX7_job 119 = .ok (.iload 4, 2) := by decide +kernel
theorem dX7_job_121 : decode cX7_job 121 = .ok (.iaload, 1) := by decide +kernel
theorem dX7_job_122 : decode cX7_job 122 = .ok (.ireturn, 1) := by decide +kernel
theorem dX7_job_123 : decode cX7_job 123 = .ok (.iconst (-1), 1) := by decide +kernel
theorem dX7_job_124 : decode cX7_job 124 = .ok (.ireturn, 1) := by decide +kernel
theorem dX7_row_0 : decode cX7_row 0 = .ok (.aload_n 0, 1) := by decide +kernel
theorem dX7_row_1 : decode cX7_row 1 = .ok (.iload_n 1, 1) := by decide +kernel
theorem dX7_row_2 : decode cX7_row 2 = .ok (.invokevirtual 37, 3) := by decide +kernel
theorem dX7_row_5 : decode cX7_row 5 = .ok (.ifCond .eq 25, 3) := by decide +kernel
theorem dX7_row_8 : decode cX7_row 8 = .ok (.iload_n 2, 1) := by decide +kernel
theorem dX7_row_9 : decode cX7_row 9 = .ok (.iconst 0, 1) := by decide +kernel
theorem dX7_row_10 : decode cX7_row 10 = .ok (.aload_n 0, 1) := by decide +kernel
theorem dX7_row_11 : decode cX7_row 11 = .ok (.getfield 10, 3) := by decide +kernel
theorem dX7_row_14 : decode cX7_row 14 = .ok (.getfield 45, 3) := by decide +kernel
theorem dX7_row_17 : decode cX7_row 17 = .ok (.iload_n 1, 1) := by decide +kernel
theorem dX7_row_18 : decode cX7_row 18 = .ok (.aaload, 1) := by decide +kernel
theorem dX7_row_19 : decode cX7_row 19 = .ok (.getfield 165, 3) := by decide +kernel
theorem dX7_row_22 : decode cX7_row 22 = .ok (.iconst 1, 1) := by decide +kernel
theorem dX7_row_23 : decode cX7_row 23 = .ok (.isub, 1) := by decide +kernel
theorem dX7_row_24 : decode cX7_row 24 = .ok (.invokestatic 41, 3) := by decide +kernel
theorem dX7_row_27 : decode cX7_row 27 = .ok (.ifCond .ne 5, 3) := by decide +kernel
theorem dX7_row_30 : decode cX7_row 30 = .ok (.iconst (-1), 1) := by decide +kernel
theorem dX7_row_31 : decode cX7_row 31 = .ok (.ireturn, 1) := by decide +kernel
theorem dX7_row_32 : decode cX7_row 32 = .ok (.aload_n 0, 1) := by decide +kernel
theorem dX7_row_33 : decode cX7_row 33 = .ok (.getfield 10, 3) := by decide +kernel
theorem dX7_row_36 : decode cX7_row 36 = .ok (.getfield 118, 3) := by decide +kernel
theorem dX7_row_39 : decode cX7_row 39 = .ok (.getfield 144, 3) := by decide +kernel
theorem dX7_row_42 : decode cX7_row 42 = .ok (.aload_n 0, 1) := by decide +kernel
theorem dX7_row_43 : decode cX7_row 43 = .ok (.getfield 10, 3) := by decide +kernel
theorem dX7_row_46 : decode cX7_row 46 = .ok (.getfield 45, 3) := by decide +kernel
theorem dX7_row_49 : decode cX7_row 49 = .ok (.iload_n 1, 1) := by decide +kernel
theorem dX7_row_50 : decode cX7_row 50 = .ok (.aaload, 1) := by decide +kernel
theorem dX7_row_51 : decode cX7_row 51 = .ok (.getfield 168, 3) := by decide +kernel
theorem dX7_row_54 : decode cX7_row 54 = .ok (.iload_n 2, 1) := by decide +kernel
theorem dX7_row_55 : decode cX7_row 55 = .ok (.iaload, 1) := by decide +kernel
theorem dX7_row_56 : decode cX7_row 56 = .ok (.iaload, 1) := by decide +kernel
theorem dX7_row_57 : decode cX7_row 57 = .ok (.ireturn, 1) := by decide +kernel
theorem dX7_guest_0 : decode cX7_guest 0 = .ok (.aload_n 0, 1) := by decide +kernel
theorem dX7_guest_1 : decode cX7_guest 1 = .ok (.getfield 10, 3) := by decide +kernel
theorem dX7_guest_4 : decode cX7_guest 4 = .ok (.getfield 55, 3) := by decide +kernel
theorem dX7_guest_7 : decode cX7_guest 7 = .ok (.astore_n 3, 1) := by decide +kernel
theorem dX7_guest_8 : decode cX7_guest 8 = .ok (.aload_n 3, 1) := by decide +kernel
theorem dX7_guest_9 : decode cX7_guest 9 = .ok (.getfield 171, 3) := by decide +kernel
theorem dX7_guest_12 : decode cX7_guest 12 = .ok (.iload_n 1, 1) := by decide +kernel
theorem dX7_guest_13 : decode cX7_guest 13 = .ok (.invokevirtual 138, 3) := by decide +kernel
theorem dX7_guest_16 : decode cX7_guest 16 = .ok (.istore 4, 2) := by decide +kernel
theorem dX7_guest_18 : decode cX7_guest 18 = .ok (.iload 4, 2) := by decide +kernel
theorem dX7_guest_20 : decode cX7_guest 20 = .ok (.iconst (-1), 1) := by decide +kernel
theorem dX7_guest_21 : decode cX7_guest 21 = .ok (.if_icmp .ne 5, 3) := by decide +kernel
theorem dX7_guest_24 : decode cX7_guest 24 = .ok (.iconst (-1), 1) := by decide +kernel
theorem dX7_guest_25 : decode cX7_guest 25 = .ok (.ireturn, 1) := by decide +kernel
theorem dX7_guest_26 : decode cX7_guest 26 = .ok (.iload_n 2, 1) := by decide +kernel
theorem dX7_guest_27 : decode cX7_guest 27 = .ok (.tableswitch 88 0 3 #[29, 37, 72, 80], 29) := by decide +kernel
theorem dX7_guest_56 : decode cX7_guest 56 = .ok (.aload_n 3, 1) := by decide +kernel
theorem dX7_guest_57 : decode cX7_guest 57 = .ok (.getfield 172, 3) := by decide +kernel
theorem dX7_guest_60 : decode cX7_guest 60 = .ok (.iload 4, 2) := by decide +kernel
theorem dX7_guest_62 : decode cX7_guest 62 = .ok (.iaload, 1) := by decide +kernel
theorem dX7_guest_63 : decode cX7_guest 63 = .ok (.ireturn, 1) := by decide +kernel
theorem dX7_guest_64 : decode cX7_guest 64 = .ok (.aload_n 3, 1) := by decide +kernel
theorem dX7_guest_65 : decode cX7_guest 65 = .ok (.getfield 173, 3) := by decide +kernel
theorem dX7_guest_68 : decode cX7_guest 68 = .ok (.iload 4, 2) := by decide +kernel
theorem dX7_guest_70 : decode cX7_guest 70 = .ok (.iaload, 1) := by decide +kernel
theorem dX7_guest_71 : decode cX7_guest 71 = .ok (.iconst (-1), 1) := by decide +kernel
theorem dX7_guest_72 : decode cX7_guest 72 = .ok (.if_icmp .ne 8, 3) := by decide +kernel
theorem dX7_guest_75 : decode cX7_guest 75 = .ok (.bipush (-3), 2) := by decide +kernel
theorem dX7_guest_77 : decode cX7_guest 77 = .ok (.goto 21, 3) := by decide +kernel
theorem dX7_guest_80 : decode cX7_guest 80 = .ok (.aload_n 0, 1) := by decide +kernel
theorem dX7_guest_81 : decode cX7_guest 81 = .ok (.getfield 10, 3) := by decide +kernel
theorem dX7_guest_84 : decode cX7_guest 84 = .ok (.getfield 118, 3) := by decide +kernel
theorem dX7_guest_87 : decode cX7_guest 87 = .ok (.getfield 144, 3) := by decide +kernel
theorem dX7_guest_90 : decode cX7_guest 90 = .ok (.aload_n 3, 1) := by decide +kernel
theorem dX7_guest_91 : decode cX7_guest 91 = .ok (.getfield 173, 3) := by decide +kernel
theorem dX7_guest_94 : decode cX7_guest 94 = .ok (.iload 4, 2) := by decide +kernel
theorem dX7_guest_96 : decode cX7_guest 96 = .ok (.iaload, 1) := by decide +kernel
theorem dX7_guest_97 : decode cX7_guest 97 = .ok (.iaload, 1) := by decide +kernel
theorem dX7_guest_98 : decode cX7_guest 98 = .ok (.ireturn, 1) := by decide +kernel
theorem dX7_guest_99 : decode cX7_guest 99 = .ok (.aload_n 3, 1) := by decide +kernel
theorem dX7_guest_100 : decode cX7_guest 100 = .ok (.getfield 176, 3) := by decide +kernel
theorem dX7_guest_103 : decode cX7_guest 103 = .ok (.iload 4, 2) := by decide +kernel
theorem dX7_guest_105 : decode cX7_guest 105 = .ok (.iaload, 1) := by decide +kernel
theorem dX7_guest_106 : decode cX7_guest 106 = .ok (.ireturn, 1) := by decide +kernel
theorem dX7_guest_107 : decode cX7_guest 107 = .ok (.aload_n 3, 1) := by decide +kernel
theorem dX7_guest_108 : decode cX7_guest 108 = .ok (.getfield 179, 3) := by decide +kernel
theorem dX7_guest_111 : decode cX7_guest 111 = .ok (.iload 4, 2) := by decide +kernel
theorem dX7_guest_113 : decode cX7_guest 113 = .ok (.iaload, 1) := by decide +kernel
theorem dX7_guest_114 : decode cX7_guest 114 = .ok (.ireturn, 1) := by decide +kernel
theorem dX7_guest_115 : decode cX7_guest 115 = .ok (.iconst (-1), 1) := by decide +kernel
theorem dX7_guest_116 : decode cX7_guest 116 = .ok (.ireturn, 1) := by decide +kernel
theorem dX7_count_0 : decode cX7_count 0 = .ok (.iload_n 1, 1) := by decide +kernel
theorem dX7_count_1 : decode cX7_count 1 = .ok (.tableswitch 197 0 11 #[63, 71, 79, 93, 107, 118, 129, 140, 151, 159, 170, 181], 63) := by decide +kernel
theorem dX7_count_64 : decode cX7_count 64 = .ok (.aload_n 0, 1) := by decide +kernel
theorem dX7_count_65 : decode cX7_count 65 = .ok (.getfield 10, 3) := by decide +kernel
theorem dX7_count_68 : decode cX7_count 68 = .ok (.getfield 27, 3) := by decide +kernel
theorem dX7_count_71 : decode cX7_count 71 = .ok (.ireturn, 1) := by decide +kernel
theorem dX7_count_72 : decode cX7_count 72 = .ok (.aload_n 0, 1) := by decide +kernel
theorem dX7_count_73 : decode cX7_count 73 = .ok (.getfield 10, 3) := by decide +kernel
theorem dX7_count_76 : decode cX7_count 76 = .ok (.getfield 30, 3) := by decide +kernel
theorem dX7_count_79 : decode cX7_count 79 = .ok (.ireturn, 1) := by decide +kernel
theorem dX7_count_80 : decode cX7_count 80 = .ok (.aload_n 0, 1) := by decide +kernel
theorem dX7_count_81 : decode cX7_count 81 = .ok (.getfield 10, 3) := by decide +kernel
theorem dX7_count_84 : decode cX7_count 84 = .ok (.getfield 118, 3) := by decide +kernel
theorem dX7_count_87 : decode cX7_count 87 = .ok (.getfield 134, 3) := by decide +kernel
theorem dX7_count_90 : decode cX7_count 90 = .ok (.getfield 180, 3) := by decide +kernel
theorem dX7_count_93 : decode cX7_count 93 = .ok (.ireturn, 1) := by decide +kernel
theorem dX7_count_94 : decode cX7_count 94 = .ok (.aload_n 0, 1) := by decide +kernel
theorem dX7_count_95 : decode cX7_count 95 = .ok (.getfield 10, 3) := by decide +kernel
theorem dX7_count_98 : decode cX7_count 98 = .ok (.getfield 55, 3) := by decide +kernel
theorem dX7_count_101 : decode cX7_count 101 = .ok (.getfield 171, 3) := by decide +kernel
theorem dX7_count_104 : decode cX7_count 104 = .ok (.getfield 180, 3) := by decide +kernel
theorem dX7_count_107 : decode cX7_count 107 = .ok (.ireturn, 1) := by decide +kernel
theorem dX7_count_108 : decode cX7_count 108 = .ok (.aload_n 0, 1) := by decide +kernel
theorem dX7_count_109 : decode cX7_count 109 = .ok (.getfield 10, 3) := by decide +kernel
theorem dX7_count_112 : decode cX7_count 112 = .ok (.getfield 55, 3) := by decide +kernel
theorem dX7_count_115 : decode cX7_count 115 = .ok (.getfield 181, 3) := by decide +kernel
theorem dX7_count_118 : decode cX7_count 118 = .ok (.ireturn, 1) := by decide +kernel
theorem dX7_count_119 : decode cX7_count 119 = .ok (.aload_n 0, 1) := by decide +kernel
theorem dX7_count_120 : decode cX7_count 120 = .ok (.getfield 10, 3) := by decide +kernel
theorem dX7_count_123 : decode cX7_count 123 = .ok (.getfield 55, 3) := by decide +kernel
theorem dX7_count_126 : decode cX7_count 126 = .ok (.getfield 184, 3) := by decide +kernel
theorem dX7_count_129 : decode cX7_count 129 = .ok (.ireturn, 1) := by decide +kernel
theorem dX7_count_130 : decode cX7_count 130 = .ok (.aload_n 0, 1) := by decide +kernel
theorem dX7_count_131 : decode cX7_count 131 = .ok (.getfield 10, 3) := by decide +kernel
theorem dX7_count_134 : decode cX7_count 134 = .ok (.getfield 55, 3) := by decide +kernel
theorem dX7_count_137 : decode cX7_count 137 = .ok (.getfield 187, 3) := by decide +kernel
theorem dX7_count_140 : decode cX7_count 140 = .ok (.ireturn, 1) := by decide +kernel
theorem dX7_count_141 : decode cX7_count 141 = .ok (.aload_n 0, 1) := by decide +kernel
theorem dX7_count_142 : decode cX7_count 142 = .ok (.getfield 10, 3) := by decide +kernel
theorem dX7_count_145 : decode cX7_count 145 = .ok (.getfield 55, 3) := by decide +kernel
theorem dX7_count_148 : decode cX7_count 148 = .ok (.getfield 190, 3) := by decide +kernel
theorem dX7_count_151 : decode cX7_count 151 = .ok (.ireturn, 1) := by decide +kernel
theorem dX7_count_152 : decode cX7_count 152 = .ok (.aload_n 0, 1) := by decide +kernel
theorem dX7_count_153 : decode cX7_count 153 = .ok (.getfield 10, 3) := by decide +kernel
theorem dX7_count_156 : decode cX7_count 156 = .ok (.getfield 193, 3) := by decide +kernel
theorem dX7_count_159 : decode cX7_count 159 = .ok (.ireturn, 1) := by decide +kernel
theorem dX7_count_160 : decode cX7_count 160 = .ok (.aload_n 0, 1) := by decide +kernel
theorem dX7_count_161 : decode cX7_count 161 = .ok (.getfield 10, 3) := by decide +kernel
theorem dX7_count_164 : decode cX7_count 164 = .ok (.getfield 71, 3) := by decide +kernel
theorem dX7_count_167 : decode cX7_count 167 = .ok (.getfield 75, 3) := by decide +kernel
theorem dX7_count_170 : decode cX7_count 170 = .ok (.ireturn, 1) := by decide +kernel
theorem dX7_count_171 : decode cX7_count 171 = .ok (.aload_n 0, 1) := by decide +kernel
theorem dX7_count_172 : decode cX7_count 172 = .ok (.getfield 10, 3) := by decide +kernel
theorem dX7_count_175 : decode cX7_count 175 = .ok (.getfield 118, 3) := by decide +kernel
theorem dX7_count_178 : decode cX7_count 178 = .ok (.getfield 196, 3) := by decide +kernel
theorem dX7_count_181 : decode cX7_count 181 = .ok (.ireturn, 1) := by decide +kernel
theorem dX7_count_182 : decode cX7_count 182 = .ok (.aload_n 0, 1) := by decide +kernel
theorem dX7_count_183 : decode cX7_count 183 = .ok (.getfield 10, 3) := by decide +kernel
theorem dX7_count_186 : decode cX7_count 186 = .ok (.getfield 197, 3) := by decide +kernel
theorem dX7_count_189 : decode cX7_count 189 = .ok (.ifCond .eq 7, 3) := by decide +kernel
theorem dX7_count_192 : decode cX7_count 192 = .ok (.iconst 1, 1) := by decide +kernel
theorem dX7_count_193 : decode cX7_count 193 = .ok (.goto 4, 3) := by decide +kernel
theorem dX7_count_196 : decode cX7_count 196 = .ok (.iconst 0, 1) := by decide +kernel
theorem dX7_count_197 : decode cX7_count 197 = .ok (.ireturn, 1) := by decide +kernel
theorem dX7_count_198 : decode cX7_count 198 = .ok (.iconst (-1), 1) := by decide +kernel
theorem dX7_count_199 : decode cX7_count 199 = .ok (.ireturn, 1) := by decide +kernel
theorem dX7_rest_0 : decode cX7_rest 0 = .ok (.iload_n 1, 1) := by decide +kernel
theorem dX7_rest_1 : decode cX7_rest 1 = .ok (.invokestatic 201, 3) := by decide +kernel
theorem dX7_rest_4 : decode cX7_rest 4 = .ok (.ifCond .ne 5, 3) := by decide +kernel
theorem dX7_rest_7 : decode cX7_rest 7 = .ok (.iconst (-1), 1) := by decide +kernel
theorem dX7_rest_8 : decode cX7_rest 8 = .ok (.ireturn, 1) := by decide +kernel
theorem dX7_rest_9 : decode cX7_rest 9 = .ok (.aload_n 0, 1) := by decide +kernel
theorem dX7_rest_10 : decode cX7_rest 10 = .ok (.getfield 10, 3) := by decide +kernel
theorem dX7_rest_13 : decode cX7_rest 13 = .ok (.getfield 27, 3) := by decide +kernel
theorem dX7_rest_16 : decode cX7_rest 16 = .ok (.ifCond .ne 6, 3) := by decide +kernel
theorem dX7_rest_19 : decode cX7_rest 19 = .ok (.bipush (-3), 2) := by decide +kernel
theorem dX7_rest_21 : decode cX7_rest 21 = .ok (.ireturn, 1) := by decide +kernel
theorem dX7_rest_22 : decode cX7_rest 22 = .ok (.aload_n 0, 1) := by decide +kernel
theorem dX7_rest_23 : decode cX7_rest 23 = .ok (.iconst 0, 1) := by decide +kernel
theorem dX7_rest_24 : decode cX7_rest 24 = .ok (.iconst 0, 1) := by decide +kernel
theorem dX7_rest_25 : decode cX7_rest 25 = .ok (.invokevirtual 204, 3) := by decide +kernel
theorem dX7_rest_28 : decode cX7_rest 28 = .ok (.aload_n 0, 1) := by decide +kernel
theorem dX7_rest_29 : decode cX7_rest 29 = .ok (.iload_n 1, 1) := by decide +kernel
theorem dX7_rest_30 : decode cX7_rest 30 = .ok (.iconst 0, 1) := by decide +kernel
theorem dX7_rest_31 : decode cX7_rest 31 = .ok (.invokevirtual 208, 3) := by decide +kernel
theorem dX7_rest_34 : decode cX7_rest 34 = .ok (.ireturn, 1) := by decide +kernel
theorem dX7_bears_0 : decode cX7_bears 0 = .ok (.iload_n 1, 1) := by decide +kernel
theorem dX7_bears_1 : decode cX7_bears 1 = .ok (.invokestatic 68, 3) := by decide +kernel
theorem dX7_bears_4 : decode cX7_bears 4 = .ok (.ifCond .eq 10, 3) := by decide +kernel
theorem dX7_bears_7 : decode cX7_bears 7 = .ok (.iload_n 2, 1) := by decide +kernel
theorem dX7_bears_8 : decode cX7_bears 8 = .ok (.invokestatic 201, 3) := by decide +kernel
theorem dX7_bears_11 : decode cX7_bears 11 = .ok (.ifCond .ne 5, 3) := by decide +kernel
theorem dX7_bears_14 : decode cX7_bears 14 = .ok (.iconst (-1), 1) := by decide +kernel
theorem dX7_bears_15 : decode cX7_bears 15 = .ok (.ireturn, 1) := by decide +kernel
theorem dX7_bears_16 : decode cX7_bears 16 = .ok (.aload_n 0, 1) := by decide +kernel
theorem dX7_bears_17 : decode cX7_bears 17 = .ok (.getfield 10, 3) := by decide +kernel
theorem dX7_bears_20 : decode cX7_bears 20 = .ok (.getfield 27, 3) := by decide +kernel
theorem dX7_bears_23 : decode cX7_bears 23 = .ok (.ifCond .ne 6, 3) := by decide +kernel
theorem dX7_bears_26 : decode cX7_bears 26 = .ok (.bipush (-3), 2) := by decide +kernel
theorem dX7_bears_28 : decode cX7_bears 28 = .ok (.ireturn, 1) := by decide +kernel
theorem dX7_bears_29 : decode cX7_bears 29 = .ok (.bipush (-4), 2) := by decide +kernel
theorem dX7_bears_31 : decode cX7_bears 31 = .ok (.istore_n 3, 1) := by decide +kernel
theorem dX7_bears_32 : decode cX7_bears 32 = .ok (.iconst 0, 1) := by decide +kernel
theorem dX7_bears_33 : decode cX7_bears 33 = .ok (.istore 4, 2) := by decide +kernel
theorem dX7_bears_35 : decode cX7_bears 35 = .ok (.iload 4, 2) := by decide +kernel
theorem dX7_bears_37 : decode cX7_bears 37 = .ok (.bipush 30, 2) := by decide +kernel
theorem dX7_bears_39 : decode cX7_bears 39 = .ok (.if_icmp .gt 33, 3) := by decide +kernel
theorem dX7_bears_42 : decode cX7_bears 42 = .ok (.aload_n 0, 1) := by decide +kernel
theorem dX7_bears_43 : decode cX7_bears 43 = .ok (.iload_n 1, 1) := by decide +kernel
theorem dX7_bears_44 : decode cX7_bears 44 = .ok (.iload 4, 2) := by decide +kernel
theorem dX7_bears_46 : decode cX7_bears 46 = .ok (.invokevirtual 204, 3) := by decide +kernel
theorem dX7_bears_49 : decode cX7_bears 49 = .ok (.aload_n 0, 1) := by decide +kernel
theorem dX7_bears_50 : decode cX7_bears 50 = .ok (.iload_n 2, 1) := by decide +kernel
theorem dX7_bears_51 : decode cX7_bears 51 = .ok (.iconst 0, 1) := by decide +kernel
theorem dX7_bears_52 : decode cX7_bears 52 = .ok (.invokevirtual 208, 3) := by decide +kernel
theorem dX7_bears_55 : decode cX7_bears 55 = .ok (.bipush (-4), 2) := by decide +kernel
theorem dX7_bears_57 : decode cX7_bears 57 = .ok (.if_icmp .ne 6, 3) := by decide +kernel
theorem dX7_bears_60 : decode cX7_bears 60 = .ok (.goto 12, 3) := by decide +kernel
theorem dX7_bears_63 : decode cX7_bears 63 = .ok (.iload 4, 2) := by decide +kernel
theorem dX7_bears_65 : decode cX7_bears 65 = .ok (.istore_n 3, 1) := by decide +kernel
theorem dX7_bears_66 : decode cX7_bears 66 = .ok (.iinc 4 1, 3) := by decide +kernel
theorem dX7_bears_69 : decode cX7_bears 69 = .ok (.goto (-34), 3) := by decide +kernel
theorem dX7_bears_72 : decode cX7_bears 72 = .ok (.iload_n 3, 1) := by decide +kernel
theorem dX7_bears_73 : decode cX7_bears 73 = .ok (.ireturn, 1) := by decide +kernel
theorem dX7_best_0 : decode cX7_best 0 = .ok (.aload_n 0, 1) := by decide +kernel
theorem dX7_best_1 : decode cX7_best 1 = .ok (.iload_n 1, 1) := by decide +kernel
theorem dX7_best_2 : decode cX7_best 2 = .ok (.invokevirtual 37, 3) := by decide +kernel
theorem dX7_best_5 : decode cX7_best 5 = .ok (.ifCond .eq 28, 3) := by decide +kernel
theorem dX7_best_8 : decode cX7_best 8 = .ok (.iload_n 2, 1) := by decide +kernel
theorem dX7_best_9 : decode cX7_best 9 = .ok (.invokestatic 68, 3) := by decide +kernel
theorem dX7_best_12 : decode cX7_best 12 = .ok (.ifCond .eq 21, 3) := by decide +kernel
theorem dX7_best_15 : decode cX7_best 15 = .ok (.iload_n 3, 1) := by decide +kernel
theorem dX7_best_16 : decode cX7_best 16 = .ok (.iconst 0, 1) := by decide +kernel
theorem dX7_best_17 : decode cX7_best 17 = .ok (.bipush 30, 2) := by decide +kernel
theorem dX7_best_19 : decode cX7_best 19 = .ok (.invokestatic 41, 3) := by decide +kernel
theorem dX7_best_22 : decode cX7_best 22 = .ok (.ifCond .eq 11, 3) := by decide +kernel
theorem dX7_best_25 : decode cX7_best 25 = .ok (.iload 4, 2) := by decide +kernel
theorem dX7_best_27 : decode cX7_best 27 = .ok (.invokestatic 201, 3) := by decide +kernel
theorem dX7_best_30 : decode cX7_best 30 = .ok (.ifCond .ne 5, 3) := by decide +kernel
theorem dX7_best_33 : decode cX7_best 33 = .ok (.iconst (-1), 1) := by decide +kernel
theorem dX7_best_34 : decode cX7_best 34 = .ok (.ireturn, 1) := by decide +kernel
theorem dX7_best_35 : decode cX7_best 35 = .ok (.bipush (-4), 2) := by decide +kernel
theorem dX7_best_37 : decode cX7_best 37 = .ok (.istore 5, 2) := by decide +kernel
theorem dX7_best_39 : decode cX7_best 39 = .ok (.iconst 0, 1) := by decide +kernel
theorem dX7_best_40 : decode cX7_best 40 = .ok (.istore 6, 2) := by decide +kernel
theorem dX7_best_42 : decode cX7_best 42 = .ok (.iconst 0, 1) := by decide +kernel
theorem dX7_best_43 : decode cX7_best 43 = .ok (.istore 7, 2) := by decide +kernel
theorem dX7_best_45 : decode cX7_best 45 = .ok (.iload 7, 2) := by decide +kernel
theorem dX7_best_47 : decode cX7_best 47 = .ok (.iconst 3, 1) := by decide +kernel
theorem dX7_best_48 : decode cX7_best 48 = .ok (.if_icmp .gt 120, 3) := by decide +kernel
theorem dX7_best_51 : decode cX7_best 51 = .ok (.iconst 0, 1) := by decide +kernel
theorem dX7_best_52 : decode cX7_best 52 = .ok (.istore 8, 2) := by decide +kernel
theorem dX7_best_54 : decode cX7_best 54 = .ok (.iload 8, 2) := by decide +kernel
theorem dX7_best_56 : decode cX7_best 56 = .ok (.iconst 3, 1) := by decide +kernel
theorem dX7_best_57 : decode cX7_best 57 = .ok (.if_icmp .gt 105, 3) := by decide +kernel
theorem dX7_best_60 : decode cX7_best 60 = .ok (.aload_n 0, 1) := by decide +kernel
theorem dX7_best_61 : decode cX7_best 61 = .ok (.iload_n 2, 1) := by decide +kernel
theorem dX7_best_62 : decode cX7_best 62 = .ok (.iload_n 3, 1) := by decide +kernel
theorem dX7_best_63 : decode cX7_best 63 = .ok (.invokevirtual 204, 3) := by decide +kernel
theorem dX7_best_66 : decode cX7_best 66 = .ok (.aload_n 0, 1) := by decide +kernel
theorem dX7_best_67 : decode cX7_best 67 = .ok (.getfield 16, 3) := by decide +kernel
theorem dX7_best_70 : decode cX7_best 70 = .ok (.getfield 45, 3) := by decide +kernel
theorem dX7_best_73 : decode cX7_best 73 = .ok (.iload_n 1, 1) := by decide +kernel
theorem dX7_best_74 : decode cX7_best 74 = .ok (.aaload, 1) := by decide +kernel
theorem dX7_best_75 : decode cX7_best 75 = .ok (.getfield 49, 3) := by decide +kernel
theorem dX7_best_78 : decode cX7_best 78 = .ok (.iconst 1, 1) := by decide +kernel
theorem dX7_best_79 : decode cX7_best 79 = .ok (.iload 7, 2) := by decide +kernel
theorem dX7_best_81 : decode cX7_best 81 = .ok (.iastore, 1) := by decide +kernel
theorem dX7_best_82 : decode cX7_best 82 = .ok (.aload_n 0, 1) := by decide +kernel
theorem dX7_best_83 : decode cX7_best 83 = .ok (.getfield 16, 3) := by decide +kernel
theorem dX7_best_86 : decode cX7_best 86 = .ok (.getfield 45, 3) := by decide +kernel
theorem dX7_best_89 : decode cX7_best 89 = .ok (.iload_n 1, 1) := by decide +kernel
theorem dX7_best_90 : decode cX7_best 90 = .ok (.aaload, 1) := by decide +kernel
theorem dX7_best_91 : decode cX7_best 91 = .ok (.getfield 49, 3) := by decide +kernel
theorem dX7_best_94 : decode cX7_best 94 = .ok (.iconst 2, 1) := by decide +kernel
theorem dX7_best_95 : decode cX7_best 95 = .ok (.iload 8, 2) := by decide +kernel
theorem dX7_best_97 : decode cX7_best 97 = .ok (.iastore, 1) := by decide +kernel
theorem dX7_best_98 : decode cX7_best 98 = .ok (.aload_n 0, 1) := by decide +kernel
theorem dX7_best_99 : decode cX7_best 99 = .ok (.iload 4, 2) := by decide +kernel
theorem dX7_best_101 : decode cX7_best 101 = .ok (.iconst 1, 1) := by decide +kernel
theorem dX7_best_102 : decode cX7_best 102 = .ok (.invokevirtual 208, 3) := by decide +kernel
theorem dX7_best_105 : decode cX7_best 105 = .ok (.bipush (-4), 2) := by decide +kernel
theorem dX7_best_107 : decode cX7_best 107 = .ok (.if_icmp .eq 7, 3) := by decide +kernel
theorem dX7_best_110 : decode cX7_best 110 = .ok (.iconst 1, 1) := by decide +kernel
theorem dX7_best_111 : decode cX7_best 111 = .ok (.goto 4, 3) := by decide +kernel
theorem dX7_best_114 : decode cX7_best 114 = .ok (.iconst 0, 1) := by decide +kernel
theorem dX7_best_115 : decode cX7_best 115 = .ok (.istore 9, 2) := by decide +kernel
theorem dX7_best_117 : decode cX7_best 117 = .ok (.aload_n 0, 1) := by decide +kernel
theorem dX7_best_118 : decode cX7_best 118 = .ok (.invokevirtual 212, 3) := by decide +kernel
theorem dX7_best_121 : decode cX7_best 121 = .ok (.istore 10, 2) := by decide +kernel
theorem dX7_best_123 : decode cX7_best 123 = .ok (.iload 9, 2) := by decide +kernel
theorem dX7_best_125 : decode cX7_best 125 = .ok (.ifCond .eq 31, 3) := by decide +kernel
theorem dX7_best_128 : decode cX7_best 128 = .ok (.iload 5, 2) := by decide +kernel
theorem dX7_best_130 : decode cX7_best 130 = .ok (.bipush (-4), 2) := by decide +kernel
theorem dX7_best_132 : decode cX7_best 132 = .ok (.if_icmp .eq 10, 3) := by decide +kernel
theorem dX7_best_135 : decode cX7_best 135 = .ok (.iload 10, 2) := by decide +kernel
theorem dX7_best_137 : decode cX7_best 137 = .ok (.iload 6, 2) := by decide +kernel
theorem dX7_best_139 : decode cX7_best 139 = .ok (.if_icmp .ge 17, 3) := by decide +kernel
theorem dX7_best_142 : decode cX7_best 142 = .ok (.bipush 10, 2) := by decide +kernel
theorem dX7_best_144 : decode cX7_best 144 = .ok (.iload 7, 2) := by decide +kernel
theorem dX7_best_146 : decode cX7_best 146 = .ok (.imul, 1) := by decide +kernel
theorem dX7_best_147 : decode cX7_best 147 = .ok (.iload 8, 2) := by decide +kernel
theorem dX7_best_149 : decode cX7_best 149 = .ok (.iadd, 1) := by decide +kernel
theorem dX7_best_150 : decode cX7_best 150 = .ok (.istore 5, 2) := by decide +kernel
theorem dX7_best_152 : decode cX7_best 152 = .ok (.iload 10, 2) := by decide +kernel
theorem dX7_best_154 : decode cX7_best 154 = .ok (.istore 6, 2) := by decide +kernel
theorem dX7_best_156 : decode cX7_best 156 = .ok (.iinc 8 1, 3) := by decide +kernel
theorem dX7_best_159 : decode cX7_best 159 = .ok (.goto (-105), 3) := by decide +kernel
theorem dX7_best_162 : decode cX7_best 162 = .ok (.iinc 7 1, 3) := by decide +kernel
theorem dX7_best_165 : decode cX7_best 165 = .ok (.goto (-120), 3) := by decide +kernel
theorem dX7_best_168 : decode cX7_best 168 = .ok (.iload 5, 2) := by decide +kernel
theorem dX7_best_170 : decode cX7_best 170 = .ok (.bipush (-4), 2) := by decide +kernel
theorem dX7_best_172 : decode cX7_best 172 = .ok (.if_icmp .eq 9, 3) := by decide +kernel
theorem dX7_best_175 : decode cX7_best 175 = .ok (.aload_n 0, 1) := by decide +kernel
theorem dX7_best_176 : decode cX7_best 176 = .ok (.iload 6, 2) := by decide +kernel
theorem dX7_best_178 : decode cX7_best 178 = .ok (.putfield 19, 3) := by decide +kernel
theorem dX7_best_181 : decode cX7_best 181 = .ok (.iload 5, 2) := by decide +kernel
theorem dX7_best_183 : decode cX7_best 183 = .ok (.ireturn, 1) := by decide +kernel
theorem dX7_price_0 : decode cX7_price 0 = .ok (.aload_n 0, 1) := by decide +kernel
theorem dX7_price_1 : decode cX7_price 1 = .ok (.getfield 19, 3) := by decide +kernel
theorem dX7_price_4 : decode cX7_price 4 = .ok (.ireturn, 1) := by decide +kernel
theorem dX7_beginTrial_0 : decode cX7_beginTrial 0 = .ok (.aload_n 0, 1) := by decide +kernel
theorem dX7_beginTrial_1 : decode cX7_beginTrial 1 = .ok (.getfield 16, 3) := by decide +kernel
theorem dX7_beginTrial_4 : decode cX7_beginTrial 4 = .ok (.aload_n 0, 1) := by decide +kernel
theorem dX7_beginTrial_5 : decode cX7_beginTrial 5 = .ok (.getfield 10, 3) := by decide +kernel
theorem dX7_beginTrial_8 : decode cX7_beginTrial 8 = .ok (.invokevirtual 216, 3) := by decide +kernel
theorem dX7_beginTrial_11 : decode cX7_beginTrial 11 = .ok (.aload_n 0, 1) := by decide +kernel
theorem dX7_beginTrial_12 : decode cX7_beginTrial 12 = .ok (.getfield 16, 3) := by decide +kernel
theorem dX7_beginTrial_15 : decode cX7_beginTrial 15 = .ok (.getfield 71, 3) := by decide +kernel
theorem dX7_beginTrial_18 : decode cX7_beginTrial 18 = .ok (.iconst 0, 1) := by decide +kernel
theorem dX7_beginTrial_19 : decode cX7_beginTrial 19 = .ok (.putfield 75, 3) := by decide +kernel
theorem dX7_beginTrial_22 : decode cX7_beginTrial 22 = .ok (.iload_n 2, 1) := by decide +kernel
theorem dX7_beginTrial_23 : decode cX7_beginTrial 23 = .ok (.ifCond .le 24, 3) := by decide +kernel
theorem dX7_beginTrial_26 : decode cX7_beginTrial 26 = .ok (.aload_n 0, 1) := by decide +kernel
theorem dX7_beginTrial_27 : decode cX7_beginTrial 27 = .ok (.getfield 16, 3) := by decide +kernel
theorem dX7_beginTrial_30 : decode cX7_beginTrial 30 = .ok (.getfield 71, 3) := by decide +kernel
theorem dX7_beginTrial_33 : decode cX7_beginTrial 33 = .ok (.aload_n 0, 1) := by decide +kernel
theorem dX7_beginTrial_34 : decode cX7_beginTrial 34 = .ok (.getfield 16, 3) := by decide +kernel
theorem dX7_beginTrial_37 : decode cX7_beginTrial 37 = .ok (.getfield 30, 3) := by decide +kernel
theorem dX7_beginTrial_40 : decode cX7_beginTrial 40 = .ok (.iconst 1, 1) := by decide +kernel
theorem dX7_beginTrial_41 : decode cX7_beginTrial 41 = .ok (.iadd, 1) := by decide +kernel
theorem dX7_beginTrial_42 : decode cX7_beginTrial 42 = .ok (.iload_n 1, 1) := by decide +kernel
theorem dX7_beginTrial_43 : decode cX7_beginTrial 43 = .ok (.iload_n 2, 1) := by decide +kernel
theorem dX7_beginTrial_44 : decode cX7_beginTrial 44 = .ok (.invokevirtual 80, 3) := by decide +kernel
theorem dX7_beginTrial_47 : decode cX7_beginTrial 47 = .ok (.return_, 1) := by decide +kernel
theorem dX7_firstOfRest_0 : decode cX7_firstOfRest 0 = .ok (.bipush (-4), 2) := by decide +kernel
theorem dX7_firstOfRest_2 : decode cX7_firstOfRest 2 = .ok (.istore_n 3, 1) := by decide +kernel
theorem dX7_firstOfRest_3 : decode cX7_firstOfRest 3 = .ok (.iconst 0, 1) := by decide +kernel
theorem dX7_firstOfRest_4 : decode cX7_firstOfRest 4 = .ok (.istore 4, 2) := by decide +kernel
theorem dX7_firstOfRest_6 : decode cX7_firstOfRest 6 = .ok (.iconst 1, 1) := by decide +kernel
theorem dX7_firstOfRest_7 : decode cX7_firstOfRest 7 = .ok (.istore 5, 2) := by decide +kernel
theorem dX7_firstOfRest_9 : decode cX7_firstOfRest 9 = .ok (.iload 5, 2) := by decide +kernel
theorem dX7_firstOfRest_11 : decode cX7_firstOfRest 11 = .ok (.iload_n 1, 1) := by decide +kernel
theorem dX7_firstOfRest_12 : decode cX7_firstOfRest 12 = .ok (.if_icmp .gt 99, 3) := by decide +kernel
theorem dX7_firstOfRest_15 : decode cX7_firstOfRest 15 = .ok (.aload_n 0, 1) := by decide +kernel
theorem dX7_firstOfRest_16 : decode cX7_firstOfRest 16 = .ok (.getfield 16, 3) := by decide +kernel
theorem dX7_firstOfRest_19 : decode cX7_firstOfRest 19 = .ok (.invokevirtual 103, 3) := by decide +kernel
theorem dX7_firstOfRest_22 : decode cX7_firstOfRest 22 = .ok (.aload_n 0, 1) := by decide +kernel
theorem dX7_firstOfRest_23 : decode cX7_firstOfRest 23 = .ok (.getfield 16, 3) := by decide +kernel
theorem dX7_firstOfRest_26 : decode cX7_firstOfRest 26 = .ok (.getfield 197, 3) := by decide +kernel
theorem dX7_firstOfRest_29 : decode cX7_firstOfRest 29 = .ok (.ifCond .eq 10, 3) := by decide +kernel
theorem dX7_firstOfRest_32 : decode cX7_firstOfRest 32 = .ok (.iload 4, 2) := by decide +kernel
theorem dX7_firstOfRest_34 : decode cX7_firstOfRest 34 = .ok (.iconst 1, 1) := by decide +kernel
theorem dX7_firstOfRest_35 : decode cX7_firstOfRest 35 = .ok (.iadd, 1) := by decide +kernel
theorem dX7_firstOfRest_36 : decode cX7_firstOfRest 36 = .ok (.goto 4, 3) := by decide +kernel
theorem dX7_firstOfRest_39 : decode cX7_firstOfRest 39 = .ok (.iconst 0, 1) := by decide +kernel
theorem dX7_firstOfRest_40 : decode cX7_firstOfRest 40 = .ok (.istore 4, 2) := by decide +kernel
theorem dX7_firstOfRest_42 : decode cX7_firstOfRest 42 = .ok (.iload_n 3, 1) := by decide +kernel
theorem dX7_firstOfRest_43 : decode cX7_firstOfRest 43 = .ok (.bipush (-4), 2) := by decide +kernel
theorem dX7_firstOfRest_45 : decode cX7_firstOfRest 45 = .ok (.if_icmp .ne 18, 3) := by decide +kernel
theorem dX7_firstOfRest_48 : decode cX7_firstOfRest 48 = .ok (.iload 4, 2) := by decide +kernel
theorem dX7_firstOfRest_50 : decode cX7_firstOfRest 50 = .ok (.bipush 24, 2) := by decide +kernel
theorem dX7_firstOfRest_52 : decode cX7_firstOfRest 52 = .ok (.if_icmp .lt 11, 3) := by decide +kernel
theorem dX7_firstOfRest_55 : decode cX7_firstOfRest 55 = .ok (.iload 5, 2) := by decide +kernel
theorem dX7_firstOfRest_57 : decode cX7_firstOfRest 57 = .ok (.bipush 24, 2) := by decide +kernel
theorem dX7_firstOfRest_59 : decode cX7_firstOfRest 59 = .ok (.isub, 1) := by decide +kernel
theorem dX7_firstOfRest_60 : decode cX7_firstOfRest 60 = .ok (.iconst 1, 1) := by decide +kernel
theorem dX7_firstOfRest_61 : decode cX7_firstOfRest 61 = .ok (.iadd, 1) := by decide +kernel
theorem dX7_firstOfRest_62 : decode cX7_firstOfRest 62 = .ok (.istore_n 3, 1) := by decide +kernel
theorem dX7_firstOfRest_63 : decode cX7_firstOfRest 63 = .ok (.iload_n 3, 1) := by decide +kernel
theorem dX7_firstOfRest_64 : decode cX7_firstOfRest 64 = .ok (.bipush (-4), 2) := by decide +kernel
theorem dX7_firstOfRest_66 : decode cX7_firstOfRest 66 = .ok (.if_icmp .ne 19, 3) := by decide +kernel
theorem dX7_firstOfRest_69 : decode cX7_firstOfRest 69 = .ok (.iload 4, 2) := by decide +kernel
theorem dX7_firstOfRest_71 : decode cX7_firstOfRest 71 = .ok (.iload_n 1, 1) := by decide +kernel
theorem dX7_firstOfRest_72 : decode cX7_firstOfRest 72 = .ok (.iadd, 1) := by decide +kernel
theorem dX7_firstOfRest_73 : decode cX7_firstOfRest 73 = .ok (.iload 5, 2) := by decide +kernel
theorem dX7_firstOfRest_75 : decode cX7_firstOfRest 75 = .ok (.isub, 1) := by decide +kernel
theorem dX7_firstOfRest_76 : decode cX7_firstOfRest 76 = .ok (.bipush 24, 2) := by decide +kernel
theorem dX7_firstOfRest_78 : decode cX7_firstOfRest 78 = .ok (.if_icmp .ge 7, 3) := by decide +kernel
theorem dX7_firstOfRest_81 : decode cX7_firstOfRest 81 = .ok (.iconst 1, 1) := by decide +kernel
theorem dX7_firstOfRest_82 : decode cX7_firstOfRest 82 = .ok (.goto 4, 3) := by decide +kernel
theorem dX7_firstOfRest_85 : decode cX7_firstOfRest 85 = .ok (.iconst 0, 1) := by decide +kernel
theorem dX7_firstOfRest_86 : decode cX7_firstOfRest 86 = .ok (.istore 6, 2) := by decide +kernel
theorem dX7_firstOfRest_88 : decode cX7_firstOfRest 88 = .ok (.iload 6, 2) := by decide +kernel
theorem dX7_firstOfRest_90 : decode cX7_firstOfRest 90 = .ok (.ifCond .ne 13, 3) := by decide +kernel
theorem dX7_firstOfRest_93 : decode cX7_firstOfRest 93 = .ok (.iload_n 3, 1) := by decide +kernel
theorem dX7_firstOfRest_94 : decode cX7_firstOfRest 94 = .ok (.bipush (-4), 2) := by decide +kernel
theorem dX7_firstOfRest_96 : decode cX7_firstOfRest 96 = .ok (.if_icmp .eq 9, 3) := by decide +kernel
theorem dX7_firstOfRest_99 : decode cX7_firstOfRest 99 = .ok (.iload_n 2, 1) := by decide +kernel
theorem dX7_firstOfRest_100 : decode cX7_firstOfRest 100 = .ok (.ifCond .ne 5, 3) := by decide +kernel
theorem dX7_firstOfRest_103 : decode cX7_firstOfRest 103 = .ok (.iload_n 3, 1) := by decide +kernel
theorem dX7_firstOfRest_104 : decode cX7_firstOfRest 104 = .ok (.ireturn, 1) := by decide +kernel
theorem dX7_firstOfRest_105 : decode cX7_firstOfRest 105 = .ok (.iinc 5 1, 3) := by decide +kernel
theorem dX7_firstOfRest_108 : decode cX7_firstOfRest 108 = .ok (.goto (-99), 3) := by decide +kernel
theorem dX7_firstOfRest_111 : decode cX7_firstOfRest 111 = .ok (.iload_n 3, 1) := by decide +kernel
theorem dX7_firstOfRest_112 : decode cX7_firstOfRest 112 = .ok (.ireturn, 1) := by decide +kernel
theorem dX7_trialPrice_0 : decode cX7_trialPrice 0 = .ok (.aload_n 0, 1) := by decide +kernel
theorem dX7_trialPrice_1 : decode cX7_trialPrice 1 = .ok (.getfield 16, 3) := by decide +kernel
theorem dX7_trialPrice_4 : decode cX7_trialPrice 4 = .ok (.getfield 55, 3) := by decide +kernel
theorem dX7_trialPrice_7 : decode cX7_trialPrice 7 = .ok (.getfield 187, 3) := by decide +kernel
theorem dX7_trialPrice_10 : decode cX7_trialPrice 10 = .ok (.aload_n 0, 1) := by decide +kernel
theorem dX7_trialPrice_11 : decode cX7_trialPrice 11 = .ok (.getfield 10, 3) := by decide +kernel
theorem dX7_trialPrice_14 : decode cX7_trialPrice 14 = .ok (.getfield 55, 3) := by decide +kernel
theorem dX7_trialPrice_17 : decode cX7_trialPrice 17 = .ok (.getfield 187, 3) := by decide +kernel
theorem dX7_trialPrice_20 : decode cX7_trialPrice 20 = .ok (.isub, 1) := by decide +kernel
theorem dX7_trialPrice_21 : decode cX7_trialPrice 21 = .ok (.aload_n 0, 1) := by decide +kernel
theorem dX7_trialPrice_22 : decode cX7_trialPrice 22 = .ok (.getfield 16, 3) := by decide +kernel
theorem dX7_trialPrice_25 : decode cX7_trialPrice 25 = .ok (.getfield 193, 3) := by decide +kernel
theorem dX7_trialPrice_28 : decode cX7_trialPrice 28 = .ok (.iadd, 1) := by decide +kernel
theorem dX7_trialPrice_29 : decode cX7_trialPrice 29 = .ok (.aload_n 0, 1) := by decide +kernel
theorem dX7_trialPrice_30 : decode cX7_trialPrice 30 = .ok (.getfield 10, 3) := by decide +kernel
theorem dX7_trialPrice_33 : decode cX7_trialPrice 33 = .ok (.getfield 193, 3) := by decide +kernel
theorem dX7_trialPrice_36 : decode cX7_trialPrice 36 = .ok (.isub, 1) := by decide +kernel
theorem dX7_trialPrice_37 : decode cX7_trialPrice 37 = .ok (.ireturn, 1) := by decide +kernel
theorem dX7_callerOf_0 : decode cX7_callerOf 0 = .ok (.aload_n 0, 1) := by decide +kernel
theorem dX7_callerOf_1 : decode cX7_callerOf 1 = .ok (.getfield 10, 3) := by decide +kernel
theorem dX7_callerOf_4 : decode cX7_callerOf 4 = .ok (.getfield 118, 3) := by decide +kernel
theorem dX7_callerOf_7 : decode cX7_callerOf 7 = .ok (.getfield 220, 3) := by decide +kernel
theorem dX7_callerOf_10 : decode cX7_callerOf 10 = .ok (.iload_n 1, 1) := by decide +kernel
theorem dX7_callerOf_11 : decode cX7_callerOf 11 = .ok (.iaload, 1) := by decide +kernel
theorem dX7_callerOf_12 : decode cX7_callerOf 12 = .ok (.istore_n 2, 1) := by decide +kernel
theorem dX7_callerOf_13 : decode cX7_callerOf 13 = .ok (.iload_n 2, 1) := by decide +kernel
theorem dX7_callerOf_14 : decode cX7_callerOf 14 = .ok (.iconst (-1), 1) := by decide +kernel
theorem dX7_callerOf_15 : decode cX7_callerOf 15 = .ok (.if_icmp .ne 6, 3) := by decide +kernel
theorem dX7_callerOf_18 : decode cX7_callerOf 18 = .ok (.bipush (-3), 2) := by decide +kernel
theorem dX7_callerOf_20 : decode cX7_callerOf 20 = .ok (.ireturn, 1) := by decide +kernel
theorem dX7_callerOf_21 : decode cX7_callerOf 21 = .ok (.iload_n 2, 1) := by decide +kernel
theorem dX7_callerOf_22 : decode cX7_callerOf 22 = .ok (.sipush 1000, 3) := by decide +kernel
theorem dX7_callerOf_25 : decode cX7_callerOf 25 = .ok (.if_icmp .lt 8, 3) := by decide +kernel
theorem dX7_callerOf_28 : decode cX7_callerOf 28 = .ok (.bipush (-4), 2) := by decide +kernel
theorem dX7_callerOf_30 : decode cX7_callerOf 30 = .ok (.goto 15, 3) := by decide +kernel
theorem dX7_callerOf_33 : decode cX7_callerOf 33 = .ok (.aload_n 0, 1) := by decide +kernel
theorem dX7_callerOf_34 : decode cX7_callerOf 34 = .ok (.getfield 10, 3) := by decide +kernel
theorem dX7_callerOf_37 : decode cX7_callerOf 37 = .ok (.getfield 118, 3) := by decide +kernel
theorem dX7_callerOf_40 : decode cX7_callerOf 40 = .ok (.getfield 144, 3) := by decide +kernel
theorem dX7_callerOf_43 : decode cX7_callerOf 43 = .ok (.iload_n 2, 1) := by decide +kernel
theorem dX7_callerOf_44 : decode cX7_callerOf 44 = .ok (.iaload, 1) := by decide +kernel
theorem dX7_callerOf_45 : decode cX7_callerOf 45 = .ok (.ireturn, 1) := by decide +kernel
theorem dX7_isService_0 : decode cX7_isService 0 = .ok (.iload_n 1, 1) := by decide +kernel
theorem dX7_isService_1 : decode cX7_isService 1 = .ok (.iconst 0, 1) := by decide +kernel
theorem dX7_isService_2 : decode cX7_isService 2 = .ok (.aload_n 0, 1) := by decide +kernel
theorem dX7_isService_3 : decode cX7_isService 3 = .ok (.getfield 10, 3) := by decide +kernel
theorem dX7_isService_6 : decode cX7_isService 6 = .ok (.getfield 27, 3) := by decide +kernel
theorem dX7_isService_9 : decode cX7_isService 9 = .ok (.iconst 1, 1) := by decide +kernel
theorem dX7_isService_10 : decode cX7_isService 10 = .ok (.isub, 1) := by decide +kernel
theorem dX7_isService_11 : decode cX7_isService 11 = .ok (.invokestatic 41, 3) := by decide +kernel
theorem dX7_isService_14 : decode cX7_isService 14 = .ok (.ireturn, 1) := by decide +kernel
theorem dX7_isKey_0 : decode cX7_isKey 0 = .ok (.iload_n 0, 1) := by decide +kernel
theorem dX7_isKey_1 : decode cX7_isKey 1 = .ok (.iconst 0, 1) := by decide +kernel
theorem dX7_isKey_2 : decode cX7_isKey 2 = .ok (.bipush 7, 2) := by decide +kernel
theorem dX7_isKey_4 : decode cX7_isKey 4 = .ok (.invokestatic 41, 3) := by decide +kernel
theorem dX7_isKey_7 : decode cX7_isKey 7 = .ok (.ireturn, 1) := by decide +kernel
theorem dX7_isTriable_0 : decode cX7_isTriable 0 = .ok (.iload_n 0, 1) := by decide +kernel
theorem dX7_isTriable_1 : decode cX7_isTriable 1 = .ok (.bipush 24, 2) := by decide +kernel
theorem dX7_isTriable_3 : decode cX7_isTriable 3 = .ok (.sipush 400, 3) := by decide +kernel
theorem dX7_isTriable_6 : decode cX7_isTriable 6 = .ok (.invokestatic 41, 3) := by decide +kernel
theorem dX7_isTriable_9 : decode cX7_isTriable 9 = .ok (.ireturn, 1) := by decide +kernel
theorem dX7_isRule_0 : decode cX7_isRule 0 = .ok (.iload_n 0, 1) := by decide +kernel
theorem dX7_isRule_1 : decode cX7_isRule 1 = .ok (.iconst 0, 1) := by decide +kernel
theorem dX7_isRule_2 : decode cX7_isRule 2 = .ok (.bipush 9, 2) := by decide +kernel
theorem dX7_isRule_4 : decode cX7_isRule 4 = .ok (.invokestatic 41, 3) := by decide +kernel
theorem dX7_isRule_7 : decode cX7_isRule 7 = .ok (.ifCond .eq 24, 3) := by decide +kernel
theorem dX7_isRule_10 : decode cX7_isRule 10 = .ok (.iload_n 1, 1) := by decide +kernel
theorem dX7_isRule_11 : decode cX7_isRule 11 = .ok (.getstatic 223, 3) := by decide +kernel
theorem dX7_isRule_14 : decode cX7_isRule 14 = .ok (.iload_n 0, 1) := by decide +kernel
theorem dX7_isRule_15 : decode cX7_isRule 15 = .ok (.iaload, 1) := by decide +kernel
theorem dX7_isRule_16 : decode cX7_isRule 16 = .ok (.getstatic 226, 3) := by decide +kernel
theorem dX7_isRule_19 : decode cX7_isRule 19 = .ok (.iload_n 0, 1) := by decide +kernel
theorem dX7_isRule_20 : decode cX7_isRule 20 = .ok (.iaload, 1) := by decide +kernel
theorem dX7_isRule_21 : decode cX7_isRule 21 = .ok (.invokestatic 41, 3) := by decide +kernel
theorem dX7_isRule_24 : decode cX7_isRule 24 = .ok (.ifCond .eq 7, 3) := by decide +kernel
theorem dX7_isRule_27 : decode cX7_isRule 27 = .ok (.iconst 1, 1) := by decide +kernel
theorem dX7_isRule_28 : decode cX7_isRule 28 = .ok (.goto 4, 3) := by decide +kernel
theorem dX7_isRule_31 : decode cX7_isRule 31 = .ok (.iconst 0, 1) := by decide +kernel
theorem dX7_isRule_32 : decode cX7_isRule 32 = .ok (.ireturn, 1) := by decide +kernel
theorem dX7_within_0 : decode cX7_within 0 = .ok (.iload_n 0, 1) := by decide +kernel
theorem dX7_within_1 : decode cX7_within 1 = .ok (.iload_n 1, 1) := by decide +kernel
theorem dX7_within_2 : decode cX7_within 2 = .ok (.if_icmp .lt 12, 3) := by decide +kernel
theorem dX7_within_5 : decode cX7_within 5 = .ok (.iload_n 0, 1) := by decide +kernel
theorem dX7_within_6 : decode cX7_within 6 = .ok (.iload_n 2, 1) := by decide +kernel
theorem dX7_within_7 : decode cX7_within 7 = .ok (.if_icmp .gt 7, 3) := by decide +kernel
theorem dX7_within_10 : decode cX7_within 10 = .ok (.iconst 1, 1) := by decide +kernel
theorem dX7_within_11 : decode cX7_within 11 = .ok (.goto 4, 3) := by decide +kernel
theorem dX7_within_14 : decode cX7_within 14 = .ok (.iconst 0, 1) := by decide +kernel
theorem dX7_within_15 : decode cX7_within 15 = .ok (.ireturn, 1) := by decide +kernel
theorem dX8_init_0 : decode cX8_init 0 = .ok (.aload_n 0, 1) := by decide +kernel
theorem dX8_init_1 : decode cX8_init 1 = .ok (.invokespecial 3, 3) := by decide +kernel
theorem dX8_init_4 : decode cX8_init 4 = .ok (.aload_n 0, 1) := by decide +kernel
theorem dX8_init_5 : decode cX8_init 5 = .ok (.bipush 6, 2) := by decide +kernel
theorem dX8_init_7 : decode cX8_init 7 = .ok (.newarray .int, 2) := by decide +kernel
theorem dX8_init_9 : decode cX8_init 9 = .ok (.putfield 9, 3) := by decide +kernel
theorem dX8_init_12 : decode cX8_init 12 = .ok (.aload_n 0, 1) := by decide +kernel
theorem dX8_init_13 : decode cX8_init 13 = .ok (.bipush 6, 2) := by decide +kernel
theorem dX8_init_15 : decode cX8_init 15 = .ok (.newarray .int, 2) := by decide +kernel
theorem dX8_init_17 : decode cX8_init 17 = .ok (.putfield 15, 3) := by decide +kernel
theorem dX8_init_20 : decode cX8_init 20 = .ok (.aload_n 0, 1) := by decide +kernel
theorem dX8_init_21 : decode cX8_init 21 = .ok (.bipush 78, 2) := by decide +kernel
theorem dX8_init_23 : decode cX8_init 23 = .ok (.newarray .int, 2) := by decide +kernel
theorem dX8_init_25 : decode cX8_init 25 = .ok (.putfield 18, 3) := by decide +kernel
theorem dX8_init_28 : decode cX8_init 28 = .ok (.aload_n 0, 1) := by decide +kernel
theorem dX8_init_29 : decode cX8_init 29 = .ok (.bipush 48, 2) := by decide +kernel
theorem dX8_init_31 : decode cX8_init 31 = .ok (.newarray .int, 2) := by decide +kernel
theorem dX8_init_33 : decode cX8_init 33 = .ok (.putfield 21, 3) := by decide +kernel
theorem dX8_init_36 : decode cX8_init 36 = .ok (.aload_n 0, 1) := by decide +kernel
theorem dX8_init_37 : decode cX8_init 37 = .ok (.bipush 120, 2) := by decide +kernel
theorem dX8_init_39 : decode cX8_init 39 = .ok (.newarray .int, 2) := by decide +kernel
theorem dX8_init_41 : decode cX8_init 41 = .ok (.putfield 24, 3) := by decide +kernel
theorem dX8_init_44 : decode cX8_init 44 = .ok (.aload_n 0, 1) := by decide +kernel
theorem dX8_init_45 : decode cX8_init 45 = .ok (.bipush 6, 2) := by decide +kernel
theorem dX8_init_47 : decode cX8_init 47 = .ok (.newarray .int, 2) := by decide +kernel
theorem dX8_init_49 : decode cX8_init 49 = .ok (.putfield 27, 3) := by decide +kernel
theorem dX8_init_52 : decode cX8_init 52 = .ok (.aload_n 0, 1) := by decide +kernel
theorem dX8_init_53 : decode cX8_init 53 = .ok (.bipush 120, 2) := by decide +kernel
theorem dX8_init_55 : decode cX8_init 55 = .ok (.newarray .int, 2) := by decide +kernel
theorem dX8_init_57 : decode cX8_init 57 = .ok (.putfield 30, 3) := by decide +kernel
theorem dX8_init_60 : decode cX8_init 60 = .ok (.aload_n 0, 1) := by decide +kernel
theorem dX8_init_61 : decode cX8_init 61 = .ok (.bipush 120, 2) := by decide +kernel
theorem dX8_init_63 : decode cX8_init 63 = .ok (.newarray .int, 2) := by decide +kernel
theorem dX8_init_65 : decode cX8_init 65 = .ok (.putfield 33, 3) := by decide +kernel
theorem dX8_init_68 : decode cX8_init 68 = .ok (.aload_n 0, 1) := by decide +kernel
theorem dX8_init_69 : decode cX8_init 69 = .ok (.bipush 120, 2) := by decide +kernel
theorem dX8_init_71 : decode cX8_init 71 = .ok (.newarray .int, 2) := by decide +kernel
theorem dX8_init_73 : decode cX8_init 73 = .ok (.putfield 36, 3) := by decide +kernel
theorem dX8_init_76 : decode cX8_init 76 = .ok (.aload_n 0, 1) := by decide +kernel
theorem dX8_init_77 : decode cX8_init 77 = .ok (.bipush 120, 2) := by decide +kernel
theorem dX8_init_79 : decode cX8_init 79 = .ok (.newarray .int, 2) := by decide +kernel
theorem dX8_init_81 : decode cX8_init 81 = .ok (.putfield 39, 3) := by decide +kernel
theorem dX8_init_84 : decode cX8_init 84 = .ok (.aload_n 0, 1) := by decide +kernel
theorem dX8_init_85 : decode cX8_init 85 = .ok (.bipush 120, 2) := by decide +kernel
theorem dX8_init_87 : decode cX8_init 87 = .ok (.newarray .int, 2) := by decide +kernel
theorem dX8_init_89 : decode cX8_init 89 = .ok (.putfield 42, 3) := by decide +kernel
theorem dX8_init_92 : decode cX8_init 92 = .ok (.aload_n 0, 1) := by decide +kernel
theorem dX8_init_93 : decode cX8_init 93 = .ok (.bipush 120, 2) := by decide +kernel
theorem dX8_init_95 : decode cX8_init 95 = .ok (.newarray .int, 2) := by decide +kernel
theorem dX8_init_97 : decode cX8_init 97 = .ok (.putfield 45, 3) := by decide +kernel
theorem dX8_init_100 : decode cX8_init 100 = .ok (.aload_n 0, 1) := by decide +kernel
theorem dX8_init_101 : decode cX8_init 101 = .ok (.bipush 120, 2) := by decide +kernel
theorem dX8_init_103 : decode cX8_init 103 = .ok (.newarray .int, 2) := by decide +kernel
theorem dX8_init_105 : decode cX8_init 105 = .ok (.putfield 48, 3) := by decide +kernel
theorem dX8_init_108 : decode cX8_init 108 = .ok (.aload_n 0, 1) := by decide +kernel
theorem dX8_init_109 : decode cX8_init 109 = .ok (.bipush 120, 2) := by decide +kernel
theorem dX8_init_111 : decode cX8_init 111 = .ok (.newarray .int, 2) := by decide +kernel
theorem dX8_init_113 : decode cX8_init 113 = .ok (.putfield 51, 3) := by decide +kernel
theorem dX8_init_116 : decode cX8_init 116 = .ok (.aload_n 0, 1) := by decide +kernel
theorem dX8_init_117 : decode cX8_init 117 = .ok (.bipush 100, 2) := by decide +kernel
theorem dX8_init_119 : decode cX8_init 119 = .ok (.newarray .int, 2) := by decide +kernel
theorem dX8_init_121 : decode cX8_init 121 = .ok (.putfield 54, 3) := by decide +kernel
theorem dX8_init_124 : decode cX8_init 124 = .ok (.aload_n 0, 1) := by decide +kernel
theorem dX8_init_125 : decode cX8_init 125 = .ok (.bipush 100, 2) := by decide +kernel
theorem dX8_init_127 : decode cX8_init 127 = .ok (.newarray .int, 2) := by decide +kernel
theorem dX8_init_129 : decode cX8_init 129 = .ok (.putfield 57, 3) := by decide +kernel
theorem dX8_init_132 : decode cX8_init 132 = .ok (.aload_n 0, 1) := by decide +kernel
theorem dX8_init_133 : decode cX8_init 133 = .ok (.bipush 100, 2) := by decide +kernel
theorem dX8_init_135 : decode cX8_init 135 = .ok (.newarray .int, 2) := by decide +kernel
theorem dX8_init_137 : decode cX8_init 137 = .ok (.putfield 60, 3) := by decide +kernel
theorem dX8_init_140 : decode cX8_init 140 = .ok (.aload_n 0, 1) := by decide +kernel
theorem dX8_init_141 : decode cX8_init 141 = .ok (.bipush 100, 2) := by decide +kernel
theorem dX8_init_143 : decode cX8_init 143 = .ok (.newarray .int, 2) := by decide +kernel
theorem dX8_init_145 : decode cX8_init 145 = .ok (.putfield 63, 3) := by decide +kernel
theorem dX8_init_148 : decode cX8_init 148 = .ok (.aload_n 0, 1) := by decide +kernel
theorem dX8_init_149 : decode cX8_init 149 = .ok (.bipush 100, 2) := by decide +kernel
theorem dX8_init_151 : decode cX8_init 151 = .ok (.newarray .int, 2) := by decide +kernel
theorem dX8_init_153 : decode cX8_init 153 = .ok (.putfield 66, 3) := by decide +kernel
theorem dX8_init_156 : decode cX8_init 156 = .ok (.return_, 1) := by decide +kernel
theorem dX8_copy_0 : decode cX8_copy 0 = .ok (.aload_n 0, 1) := by decide +kernel
theorem dX8_copy_1 : decode cX8_copy 1 = .ok (.aload_n 1, 1) := by decide +kernel
theorem dX8_copy_2 : decode cX8_copy 2 = .ok (.getfield 69, 3) := by decide +kernel
theorem dX8_copy_5 : decode cX8_copy 5 = .ok (.putfield 69, 3) := by decide +kernel
theorem dX8_copy_8 : decode cX8_copy 8 = .ok (.aload_n 0, 1) := by decide +kernel
theorem dX8_copy_9 : decode cX8_copy 9 = .ok (.aload_n 1, 1) := by decide +kernel
theorem dX8_copy_10 : decode cX8_copy 10 = .ok (.getfield 73, 3) := by decide +kernel
theorem dX8_copy_13 : decode cX8_copy 13 = .ok (.putfield 73, 3) := by decide +kernel
theorem dX8_copy_16 : decode cX8_copy 16 = .ok (.aload_n 0, 1) := by decide +kernel
theorem dX8_copy_17 : decode cX8_copy 17 = .ok (.aload_n 1, 1) := by decide +kernel
theorem dX8_copy_18 : decode cX8_copy 18 = .ok (.getfield 76, 3) := by decide +kernel
theorem dX8_copy_21 : decode cX8_copy 21 = .ok (.putfield 76, 3) := by decide +kernel
theorem dX8_copy_24 : decode cX8_copy 24 = .ok (.aload_n 0, 1) := by decide +kernel
theorem dX8_copy_25 : decode cX8_copy 25 = .ok (.aload_n 1, 1) := by decide +kernel
theorem dX8_copy_26 : decode cX8_copy 26 = .ok (.getfield 79, 3) := by decide +kernel
theorem dX8_copy_29 : decode cX8_copy 29 = .ok (.putfield 79, 3) := by decide +kernel
theorem dX8_copy_32 : decode cX8_copy 32 = .ok (.aload_n 0, 1) := by decide +kernel
theorem dX8_copy_33 : decode cX8_copy 33 = .ok (.aload_n 1, 1) := by decide +kernel
theorem dX8_copy_34 : decode cX8_copy 34 = .ok (.getfield 82, 3) := by decide +kernel
theorem dX8_copy_37 : decode cX8_copy 37 = .ok (.putfield 82, 3) := by decide +kernel
theorem dX8_copy_40 : decode cX8_copy 40 = .ok (.aload_n 0, 1) := by decide +kernel
theorem dX8_copy_41 : decode cX8_copy 41 = .ok (.aload_n 1, 1) := by decide +kernel
theorem dX8_copy_42 : decode cX8_copy 42 = .ok (.getfield 85, 3) := by decide +kernel
theorem dX8_copy_45 : decode cX8_copy 45 = .ok (.putfield 85, 3) := by decide +kernel
theorem dX8_copy_48 : decode cX8_copy 48 = .ok (.aload_n 0, 1) := by decide +kernel
theorem dX8_copy_49 : decode cX8_copy 49 = .ok (.aload_n 1, 1) := by decide +kernel
theorem dX8_copy_50 : decode cX8_copy 50 = .ok (.getfield 88, 3) := by decide +kernel
theorem dX8_copy_53 : decode cX8_copy 53 = .ok (.putfield 88, 3) := by decide +kernel
theorem dX8_copy_56 : decode cX8_copy 56 = .ok (.aload_n 0, 1) := by decide +kernel
theorem dX8_copy_57 : decode cX8_copy 57 = .ok (.aload_n 1, 1) := by decide +kernel
theorem dX8_copy_58 : decode cX8_copy 58 = .ok (.getfield 91, 3) := by decide +kernel
theorem dX8_copy_61 : decode cX8_copy 61 = .ok (.putfield 91, 3) := by decide +kernel
theorem dX8_copy_64 : decode cX8_copy 64 = .ok (.aload_n 0, 1) := by decide +kernel
theorem dX8_copy_65 : decode cX8_copy 65 = .ok (.aload_n 1, 1) := by decide +kernel
theorem dX8_copy_66 : decode cX8_copy 66 = .ok (.getfield 94, 3) := by decide +kernel
theorem dX8_copy_69 : decode cX8_copy 69 = .ok (.putfield 94, 3) := by decide +kernel
theorem dX8_copy_72 : decode cX8_copy 72 = .ok (.aload_n 0, 1) := by decide +kernel
theorem dX8_copy_73 : decode cX8_copy 73 = .ok (.aload_n 1, 1) := by decide +kernel
theorem dX8_copy_74 : decode cX8_copy 74 = .ok (.getfield 97, 3) := by decide +kernel
theorem dX8_copy_77 : decode cX8_copy 77 = .ok (.putfield 97, 3) := by decide +kernel
theorem dX8_copy_80 : decode cX8_copy 80 = .ok (.iconst 0, 1) := by decide +kernel
theorem dX8_copy_81 : decode cX8_copy 81 = .ok (.istore_n 2, 1) := by decide +kernel
theorem dX8_copy_82 : decode cX8_copy 82 = .ok (.iload_n 2, 1) := by decide +kernel
theorem dX8_copy_83 : decode cX8_copy 83 = .ok (.bipush 6, 2) := by decide +kernel
theorem dX8_copy_85 : decode cX8_copy 85 = .ok (.if_icmp .ge 45, 3) := by decide +kernel
theorem dX8_copy_88 : decode cX8_copy 88 = .ok (.aload_n 0, 1) := by decide +kernel
theorem dX8_copy_89 : decode cX8_copy 89 = .ok (.getfield 9, 3) := by decide +kernel
theorem dX8_copy_92 : decode cX8_copy 92 = .ok (.iload_n 2, 1) := by decide +kernel
theorem dX8_copy_93 : decode cX8_copy 93 = .ok (.aload_n 1, 1) := by decide +kernel
theorem dX8_copy_94 : decode cX8_copy 94 = .ok (.getfield 9, 3) := by decide +kernel
theorem dX8_copy_97 : decode cX8_copy 97 = .ok (.iload_n 2, 1) := by decide +kernel
theorem dX8_copy_98 : decode cX8_copy 98 = .ok (.iaload, 1) := by decide +kernel
theorem dX8_copy_99 : decode cX8_copy 99 = .ok (.iastore, 1) := by decide +kernel
theorem dX8_copy_100 : decode cX8_copy 100 = .ok (.aload_n 0, 1) := by decide +kernel
theorem dX8_copy_101 : decode cX8_copy 101 = .ok (.getfield 15, 3) := by decide +kernel
theorem dX8_copy_104 : decode cX8_copy 104 = .ok (.iload_n 2, 1) := by decide +kernel
theorem dX8_copy_105 : decode cX8_copy 105 = .ok (.aload_n 1, 1) := by decide +kernel
theorem dX8_copy_106 : decode cX8_copy 106 = .ok (.getfield 15, 3) := by decide +kernel
theorem dX8_copy_109 : decode cX8_copy 109 = .ok (.iload_n 2, 1) := by decide +kernel
theorem dX8_copy_110 : decode cX8_copy 110 = .ok (.iaload, 1) := by decide +kernel
theorem dX8_copy_111 : decode cX8_copy 111 = .ok (.iastore, 1) := by decide +kernel
theorem dX8_copy_112 : decode cX8_copy 112 = .ok (.aload_n 0, 1) := by decide +kernel
theorem dX8_copy_113 : decode cX8_copy 113 = .ok (.getfield 27, 3) := by decide +kernel
theorem dX8_copy_116 : decode cX8_copy 116 = .ok (.iload_n 2, 1) := by decide +kernel
theorem dX8_copy_117 : decode cX8_copy 117 = .ok (.aload_n 1, 1) := by decide +kernel
theorem dX8_copy_118 : decode cX8_copy 118 = .ok (.getfield 27, 3) := by decide +kernel
theorem dX8_copy_121 : decode cX8_copy 121 = .ok (.iload_n 2, 1) := by decide +kernel
theorem dX8_copy_122 : decode cX8_copy 122 = .ok (.iaload, 1) := by decide +kernel
theorem dX8_copy_123 : decode cX8_copy 123 = .ok (.iastore, 1) := by decide +kernel
theorem dX8_copy_124 : decode cX8_copy 124 = .ok (.iinc 2 1, 3) := by decide +kernel
theorem dX8_copy_127 : decode cX8_copy 127 = .ok (.goto (-45), 3) := by decide +kernel
theorem dX8_copy_130 : decode cX8_copy 130 = .ok (.iconst 0, 1) := by decide +kernel
theorem dX8_copy_131 : decode cX8_copy 131 = .ok (.istore_n 2, 1) := by decide +kernel
theorem dX8_copy_132 : decode cX8_copy 132 = .ok (.iload_n 2, 1) := by decide +kernel
theorem dX8_copy_133 : decode cX8_copy 133 = .ok (.bipush 78, 2) := by decide +kernel
theorem dX8_copy_135 : decode cX8_copy 135 = .ok (.if_icmp .ge 21, 3) := by decide +kernel
theorem dX8_copy_138 : decode cX8_copy 138 = .ok (.aload_n 0, 1) := by decide +kernel
theorem dX8_copy_139 : decode cX8_copy 139 = .ok (.getfield 18, 3) := by decide +kernel
theorem dX8_copy_142 : decode cX8_copy 142 = .ok (.iload_n 2, 1) := by decide +kernel
theorem dX8_copy_143 : decode cX8_copy 143 = .ok (.aload_n 1, 1) := by decide +kernel
theorem dX8_copy_144 : decode cX8_copy 144 = .ok (.getfield 18, 3) := by decide +kernel
theorem dX8_copy_147 : decode cX8_copy 147 = .ok (.iload_n 2, 1) := by decide +kernel
theorem dX8_copy_148 : decode cX8_copy 148 = .ok (.iaload, 1) := by decide +kernel
theorem dX8_copy_149 : decode cX8_copy 149 = .ok (.iastore, 1) := by decide +kernel
theorem dX8_copy_150 : decode cX8_copy 150 = .ok (.iinc 2 1, 3) := by decide +kernel
theorem dX8_copy_153 : decode cX8_copy 153 = .ok (.goto (-21), 3) := by decide +kernel
theorem dX8_copy_156 : decode cX8_copy 156 = .ok (.iconst 0, 1) := by decide +kernel
theorem dX8_copy_157 : decode cX8_copy 157 = .ok (.istore_n 2, 1) := by decide +kernel
theorem dX8_copy_158 : decode cX8_copy 158 = .ok (.iload_n 2, 1) := by decide +kernel
theorem dX8_copy_159 : decode cX8_copy 159 = .ok (.bipush 48, 2) := by decide +kernel
theorem dX8_copy_161 : decode cX8_copy 161 = .ok (.if_icmp .ge 21, 3) := by decide +kernel
theorem dX8_copy_164 : decode cX8_copy 164 = .ok (.aload_n 0, 1) := by decide +kernel
theorem dX8_copy_165 : decode cX8_copy 165 = .ok (.getfield 21, 3) := by decide +kernel
theorem dX8_copy_168 : decode cX8_copy 168 = .ok (.iload_n 2, 1) := by decide +kernel
theorem dX8_copy_169 : decode cX8_copy 169 = .ok (.aload_n 1, 1) := by decide +kernel
theorem dX8_copy_170 : decode cX8_copy 170 = .ok (.getfield 21, 3) := by decide +kernel
theorem dX8_copy_173 : decode cX8_copy 173 = .ok (.iload_n 2, 1) := by decide +kernel
theorem dX8_copy_174 : decode cX8_copy 174 = .ok (.iaload, 1) := by decide +kernel
theorem dX8_copy_175 : decode cX8_copy 175 = .ok (.iastore, 1) := by decide +kernel
theorem dX8_copy_176 : decode cX8_copy 176 = .ok (.iinc 2 1, 3) := by decide +kernel
theorem dX8_copy_179 : decode cX8_copy 179 = .ok (.goto (-21), 3) := by decide +kernel
theorem dX8_copy_182 : decode cX8_copy 182 = .ok (.iconst 0, 1) := by decide +kernel
theorem dX8_copy_183 : decode cX8_copy 183 = .ok (.istore_n 2, 1) := by decide +kernel
theorem dX8_copy_184 : decode cX8_copy 184 = .ok (.iload_n 2, 1) := by decide +kernel
theorem dX8_copy_185 : decode cX8_copy 185 = .ok (.bipush 120, 2) := by decide +kernel
theorem dX8_copy_187 : decode cX8_copy 187 = .ok (.if_icmp .ge 21, 3) := by decide +kernel
theorem dX8_copy_190 : decode cX8_copy 190 = .ok (.aload_n 0, 1) := by decide +kernel
theorem dX8_copy_191 : decode cX8_copy 191 = .ok (.getfield 24, 3) := by decide +kernel
theorem dX8_copy_194 : decode cX8_copy 194 = .ok (.iload_n 2, 1) := by decide +kernel
theorem dX8_copy_195 : decode cX8_copy 195 = .ok (.aload_n 1, 1) := by decide +kernel
theorem dX8_copy_196 : decode cX8_copy 196 = .ok (.getfield 24, 3) := by decide +kernel
theorem dX8_copy_199 : decode cX8_copy 199 = .ok (.iload_n 2, 1) := by decide +kernel
theorem dX8_copy_200 : decode cX8_copy 200 = .ok (.iaload, 1) := by decide +kernel
theorem dX8_copy_201 : decode cX8_copy 201 = .ok (.iastore, 1) := by decide +kernel
theorem dX8_copy_202 : decode cX8_copy 202 = .ok (.iinc 2 1, 3) := by decide +kernel
theorem dX8_copy_205 : decode cX8_copy 205 = .ok (.goto (-21), 3) := by decide +kernel
theorem dX8_copy_208 : decode cX8_copy 208 = .ok (.iconst 0, 1) := by decide +kernel
theorem dX8_copy_209 : decode cX8_copy 209 = .ok (.istore_n 2, 1) := by decide +kernel
theorem dX8_copy_210 : decode cX8_copy 210 = .ok (.iload_n 2, 1) := by decide +kernel
theorem dX8_copy_211 : decode cX8_copy 211 = .ok (.aload_n 1, 1) := by decide +kernel
theorem dX8_copy_212 : decode cX8_copy 212 = .ok (.getfield 73, 3) := by decide +kernel
theorem dX8_copy_215 : decode cX8_copy 215 = .ok (.if_icmp .ge 105, 3) := by decide +kernel
theorem dX8_copy_218 : decode cX8_copy 218 = .ok (.aload_n 0, 1) := by decide +kernel
theorem dX8_copy_219 : decode cX8_copy 219 = .ok (.getfield 30, 3) := by decide +kernel
theorem dX8_copy_222 : decode cX8_copy 222 = .ok (.iload_n 2, 1) := by decide +kernel
theorem dX8_copy_223 : decode cX8_copy 223 = .ok (.aload_n 1, 1) := by decide +kernel
theorem dX8_copy_224 : decode cX8_copy 224 = .ok (.getfield 30, 3) := by decide +kernel
theorem dX8_copy_227 : decode cX8_copy 227 = .ok (.iload_n 2, 1) := by decide +kernel
theorem dX8_copy_228 : decode cX8_copy 228 = .ok (.iaload, 1) := by decide +kernel
theorem dX8_copy_229 : decode cX8_copy 229 = .ok (.iastore, 1) := by decide +kernel
theorem dX8_copy_230 : decode cX8_copy 230 = .ok (.aload_n 0, 1) := by decide +kernel
theorem dX8_copy_231 : decode cX8_copy 231 = .ok (.getfield 33, 3) := by decide +kernel
theorem dX8_copy_234 : decode cX8_copy 234 = .ok (.iload_n 2, 1) := by decide +kernel
theorem dX8_copy_235 : decode cX8_copy 235 = .ok (.aload_n 1, 1) := by decide +kernel
theorem dX8_copy_236 : decode cX8_copy 236 = .ok (.getfield 33, 3) := by decide +kernel
theorem dX8_copy_239 : decode cX8_copy 239 = .ok (.iload_n 2, 1) := by decide +kernel
theorem dX8_copy_240 : decode cX8_copy 240 = .ok (.iaload, 1) := by decide +kernel
theorem dX8_copy_241 : decode cX8_copy 241 = .ok (.iastore, 1) := by decide +kernel
theorem dX8_copy_242 : decode cX8_copy 242 = .ok (.aload_n 0, 1) := by decide +kernel
theorem dX8_copy_243 : decode cX8_copy 243 = .ok (.getfield 36, 3) := by decide +kernel
theorem dX8_copy_246 : decode cX8_copy 246 = .ok (.iload_n 2, 1) := by decide +kernel
theorem dX8_copy_247 : decode cX8_copy 247 = .ok (.aload_n 1, 1) := by decide +kernel
theorem dX8_copy_248 : decode cX8_copy 248 = .ok (.getfield 36, 3) := by decide +kernel
theorem dX8_copy_251 : decode cX8_copy 251 = .ok (.iload_n 2, 1) := by decide +kernel
theorem dX8_copy_252 : decode cX8_copy 252 = .ok (.iaload, 1) := by decide +kernel
theorem dX8_copy_253 : decode cX8_copy 253 = .ok (.iastore, 1) := by decide +kernel
theorem dX8_copy_254 : decode cX8_copy 254 = .ok (.aload_n 0, 1) := by decide +kernel
theorem dX8_copy_255 : decode cX8_copy 255 = .ok (.getfield 39, 3) := by decide +kernel
theorem dX8_copy_258 : decode cX8_copy 258 = .ok (.iload_n 2, 1) := by decide +kernel
theorem dX8_copy_259 : decode cX8_copy 259 = .ok (.aload_n 1, 1) := by decide +kernel
theorem dX8_copy_260 : decode cX8_copy 260 = .ok (.getfield 39, 3) := by decide +kernel
theorem dX8_copy_263 : decode cX8_copy 263 = .ok (.iload_n 2, 1) := by decide +kernel
theorem dX8_copy_264 : decode cX8_copy 264 = .ok (.iaload, 1) := by decide +kernel
theorem dX8_copy_265 : decode cX8_copy 265 = .ok (.iastore, 1) := by decide +kernel
theorem dX8_copy_266 : decode cX8_copy 266 = .ok (.aload_n 0, 1) := by decide +kernel
theorem dX8_copy_267 : decode cX8_copy 267 = .ok (.getfield 42, 3) := by decide +kernel
theorem dX8_copy_270 : decode cX8_copy 270 = .ok (.iload_n 2, 1) := by decide +kernel
theorem dX8_copy_271 : decode cX8_copy 271 = .ok (.aload_n 1, 1) := by decide +kernel
theorem dX8_copy_272 : decode cX8_copy 272 = .ok (.getfield 42, 3) := by decide +kernel
theorem dX8_copy_275 : decode cX8_copy 275 = .ok (.iload_n 2, 1) := by decide +kernel
theorem dX8_copy_276 : decode cX8_copy 276 = .ok (.iaload, 1) := by decide +kernel
theorem dX8_copy_277 : decode cX8_copy 277 = .ok (.iastore, 1) := by decide +kernel
theorem dX8_copy_278 : decode cX8_copy 278 = .ok (.aload_n 0, 1) := by decide +kernel
theorem dX8_copy_279 : decode cX8_copy 279 = .ok (.getfield 45, 3) := by decide +kernel
theorem dX8_copy_282 : decode cX8_copy 282 = .ok (.iload_n 2, 1) := by decide +kernel
theorem dX8_copy_283 : decode cX8_copy 283 = .ok (.aload_n 1, 1) := by decide +kernel
theorem dX8_copy_284 : decode cX8_copy 284 = .ok (.getfield 45, 3) := by decide +kernel
theorem dX8_copy_287 : decode cX8_copy 287 = .ok (.iload_n 2, 1) := by decide +kernel
theorem dX8_copy_288 : decode cX8_copy 288 = .ok (.iaload, 1) := by decide +kernel
theorem dX8_copy_289 : decode cX8_copy 289 = .ok (.iastore, 1) := by decide +kernel
theorem dX8_copy_290 : decode cX8_copy 290 = .ok (.aload_n 0, 1) := by decide +kernel
theorem dX8_copy_291 : decode cX8_copy 291 = .ok (.getfield 48, 3) := by decide +kernel
theorem dX8_copy_294 : decode cX8_copy 294 = .ok (.iload_n 2, 1) := by decide +kernel
theorem dX8_copy_295 : decode cX8_copy 295 = .ok (.aload_n 1, 1) := by decide +kernel
theorem dX8_copy_296 : decode cX8_copy 296 = .ok (.getfield 48, 3) := by decide +kernel
theorem dX8_copy_299 : decode cX8_copy 299 = .ok (.iload_n 2, 1) := by decide +kernel
theorem dX8_copy_300 : decode cX8_copy 300 = .ok (.iaload, 1) := by decide +kernel
theorem dX8_copy_301 : decode cX8_copy 301 = .ok (.iastore, 1) := by decide +kernel
theorem dX8_copy_302 : decode cX8_copy 302 = .ok (.aload_n 0, 1) := by decide +kernel
theorem dX8_copy_303 : decode cX8_copy 303 = .ok (.getfield 51, 3) := by decide +kernel
theorem dX8_copy_306 : decode cX8_copy 306 = .ok (.iload_n 2, 1) := by decide +kernel
theorem dX8_copy_307 : decode cX8_copy 307 = .ok (.aload_n 1, 1) := by decide +kernel
theorem dX8_copy_308 : decode cX8_copy 308 = .ok (.getfield 51, 3) := by decide +kernel
theorem dX8_copy_311 : decode cX8_copy 311 = .ok (.iload_n 2, 1) := by decide +kernel
theorem dX8_copy_312 : decode cX8_copy 312 = .ok (.iaload, 1) := by decide +kernel
theorem dX8_copy_313 : decode cX8_copy 313 = .ok (.iastore, 1) := by decide +kernel
theorem dX8_copy_314 : decode cX8_copy 314 = .ok (.iinc 2 1, 3) := by decide +kernel
theorem dX8_copy_317 : decode cX8_copy 317 = .ok (.goto (-107), 3) := by decide +kernel
theorem dX8_copy_320 : decode cX8_copy 320 = .ok (.iconst 0, 1) := by decide +kernel
theorem dX8_copy_321 : decode cX8_copy 321 = .ok (.istore_n 2, 1) := by decide +kernel
theorem dX8_copy_322 : decode cX8_copy 322 = .ok (.iload_n 2, 1) := by decide +kernel
theorem dX8_copy_323 : decode cX8_copy 323 = .ok (.aload_n 1, 1) := by decide +kernel
theorem dX8_copy_324 : decode cX8_copy 324 = .ok (.getfield 79, 3) := by decide +kernel
theorem dX8_copy_327 : decode cX8_copy 327 = .ok (.if_icmp .ge 69, 3) := by decide +kernel
theorem dX8_copy_330 : decode cX8_copy 330 = .ok (.aload_n 0, 1) := by decide +kernel
theorem dX8_copy_331 : decode cX8_copy 331 = .ok (.getfield 54, 3) := by decide +kernel
theorem dX8_copy_334 : decode cX8_copy 334 = .ok (.iload_n 2, 1) := by decide +kernel
theorem dX8_copy_335 : decode cX8_copy 335 = .ok (.aload_n 1, 1) := by decide +kernel
theorem dX8_copy_336 : decode cX8_copy 336 = .ok (.getfield 54, 3) := by decide +kernel
theorem dX8_copy_339 : decode cX8_copy 339 = .ok (.iload_n 2, 1) := by decide +kernel
theorem dX8_copy_340 : decode cX8_copy 340 = .ok (.iaload, 1) := by decide +kernel
theorem dX8_copy_341 : decode cX8_copy 341 = .ok (.iastore, 1) := by decide +kernel
theorem dX8_copy_342 : decode cX8_copy 342 = .ok (.aload_n 0, 1) := by decide +kernel
theorem dX8_copy_343 : decode cX8_copy 343 = .ok (.getfield 57, 3) := by decide +kernel
theorem dX8_copy_346 : decode cX8_copy 346 = .ok (.iload_n 2, 1) := by decide +kernel
theorem dX8_copy_347 : decode cX8_copy 347 = .ok (.aload_n 1, 1) := by decide +kernel
theorem dX8_copy_348 : decode cX8_copy 348 = .ok (.getfield 57, 3) := by decide +kernel
theorem dX8_copy_351 : decode cX8_copy 351 = .ok (.iload_n 2, 1) := by decide +kernel
theorem dX8_copy_352 : decode cX8_copy 352 = .ok (.iaload, 1) := by decide +kernel
theorem dX8_copy_353 : decode cX8_copy 353 = .ok (.iastore, 1) := by decide +kernel
theorem dX8_copy_354 : decode cX8_copy 354 = .ok (.aload_n 0, 1) := by decide +kernel
theorem dX8_copy_355 : decode cX8_copy 355 = .ok (.getfield 60, 3) := by decide +kernel
theorem dX8_copy_358 : decode cX8_copy 358 = .ok (.iload_n 2, 1) := by decide +kernel
theorem dX8_copy_359 : decode cX8_copy 359 = .ok (.aload_n 1, 1) := by decide +kernel
theorem dX8_copy_360 : decode cX8_copy 360 = .ok (.getfield 60, 3) := by decide +kernel
theorem dX8_copy_363 : decode cX8_copy 363 = .ok (.iload_n 2, 1) := by decide +kernel
theorem dX8_copy_364 : decode cX8_copy 364 = .ok (.iaload, 1) := by decide +kernel
theorem dX8_copy_365 : decode cX8_copy 365 = .ok (.iastore, 1) := by decide +kernel
theorem dX8_copy_366 : decode cX8_copy 366 = .ok (.aload_n 0, 1) := by decide +kernel
theorem dX8_copy_367 : decode cX8_copy 367 = .ok (.getfield 63, 3) := by decide +kernel
theorem dX8_copy_370 : decode cX8_copy 370 = .ok (.iload_n 2, 1) := by decide +kernel
theorem dX8_copy_371 : decode cX8_copy 371 = .ok (.aload_n 1, 1) := by decide +kernel
theorem dX8_copy_372 : decode cX8_copy 372 = .ok (.getfield 63, 3) := by decide +kernel
theorem dX8_copy_375 : decode cX8_copy 375 = .ok (.iload_n 2, 1) := by decide +kernel
theorem dX8_copy_376 : decode cX8_copy 376 = .ok (.iaload, 1) := by decide +kernel
theorem dX8_copy_377 : decode cX8_copy 377 = .ok (.iastore, 1) := by decide +kernel
theorem dX8_copy_378 : decode cX8_copy 378 = .ok (.aload_n 0, 1) := by decide +kernel
theorem dX8_copy_379 : decode cX8_copy 379 = .ok (.getfield 66, 3) := by decide +kernel
theorem dX8_copy_382 : decode cX8_copy 382 = .ok (.iload_n 2, 1) := by decide +kernel
theorem dX8_copy_383 : decode cX8_copy 383 = .ok (.aload_n 1, 1) := by decide +kernel
theorem dX8_copy_384 : decode cX8_copy 384 = .ok (.getfield 66, 3) := by decide +kernel
theorem dX8_copy_387 : decode cX8_copy 387 = .ok (.iload_n 2, 1) := by decide +kernel
theorem dX8_copy_388 : decode cX8_copy 388 = .ok (.iaload, 1) := by decide +kernel
theorem dX8_copy_389 : decode cX8_copy 389 = .ok (.iastore, 1) := by decide +kernel
theorem dX8_copy_390 : decode cX8_copy 390 = .ok (.iinc 2 1, 3) := by decide +kernel
theorem dX8_copy_393 : decode cX8_copy 393 = .ok (.goto (-71), 3) := by decide +kernel
theorem dX8_copy_396 : decode cX8_copy 396 = .ok (.return_, 1) := by decide +kernel
theorem dX9_init_0 : decode cX9_init 0 = .ok (.aload_n 0, 1) := by decide +kernel
theorem dX9_init_1 : decode cX9_init 1 = .ok (.invokespecial 1, 3) := by decide +kernel
theorem dX9_init_4 : decode cX9_init 4 = .ok (.aload_n 0, 1) := by decide +kernel
theorem dX9_init_5 : decode cX9_init 5 = .ok (.bipush 54, 2) := by decide +kernel
theorem dX9_init_7 : decode cX9_init 7 = .ok (.newarray .int, 2) := by decide +kernel
theorem dX9_init_9 : decode cX9_init 9 = .ok (.putfield 9, 3) := by decide +kernel
theorem dX9_init_12 : decode cX9_init 12 = .ok (.aload_n 0, 1) := by decide +kernel
theorem dX9_init_13 : decode cX9_init 13 = .ok (.bipush 6, 2) := by decide +kernel
theorem dX9_init_15 : decode cX9_init 15 = .ok (.newarray .int, 2) := by decide +kernel
theorem dX9_init_17 : decode cX9_init 17 = .ok (.putfield 13, 3) := by decide +kernel
theorem dX9_init_20 : decode cX9_init 20 = .ok (.aload_n 0, 1) := by decide +kernel
theorem dX9_init_21 : decode cX9_init 21 = .ok (.bipush 20, 2) := by decide +kernel
theorem dX9_init_23 : decode cX9_init 23 = .ok (.putfield 16, 3) := by decide +kernel
theorem dX9_init_26 : decode cX9_init 26 = .ok (.aload_n 0, 1) := by decide +kernel
theorem dX9_init_27 : decode cX9_init 27 = .ok (.bipush 40, 2) := by decide +kernel
theorem dX9_init_29 : decode cX9_init 29 = .ok (.newarray .int, 2) := by decide +kernel
theorem dX9_init_31 : decode cX9_init 31 = .ok (.putfield 20, 3) := by decide +kernel
theorem dX9_init_34 : decode cX9_init 34 = .ok (.aload_n 0, 1) := by decide +kernel
theorem dX9_init_35 : decode cX9_init 35 = .ok (.bipush 40, 2) := by decide +kernel
theorem dX9_init_37 : decode cX9_init 37 = .ok (.newarray .int, 2) := by decide +kernel
theorem dX9_init_39 : decode cX9_init 39 = .ok (.putfield 23, 3) := by decide +kernel
theorem dX9_init_42 : decode cX9_init 42 = .ok (.aload_n 0, 1) := by decide +kernel
theorem dX9_init_43 : decode cX9_init 43 = .ok (.bipush 40, 2) := by decide +kernel
theorem dX9_init_45 : decode cX9_init 45 = .ok (.newarray .int, 2) := by decide +kernel
theorem dX9_init_47 : decode cX9_init 47 = .ok (.putfield 26, 3) := by decide +kernel
theorem dX9_init_50 : decode cX9_init 50 = .ok (.aload_n 0, 1) := by decide +kernel
theorem dX9_init_51 : decode cX9_init 51 = .ok (.bipush 12, 2) := by decide +kernel
theorem dX9_init_53 : decode cX9_init 53 = .ok (.newarray .int, 2) := by decide +kernel
theorem dX9_init_55 : decode cX9_init 55 = .ok (.putfield 29, 3) := by decide +kernel
theorem dX9_init_58 : decode cX9_init 58 = .ok (.aload_n 0, 1) := by decide +kernel
theorem dX9_init_59 : decode cX9_init 59 = .ok (.bipush 12, 2) := by decide +kernel
theorem dX9_init_61 : decode cX9_init 61 = .ok (.newarray .int, 2) := by decide +kernel
theorem dX9_init_63 : decode cX9_init 63 = .ok (.putfield 32, 3) := by decide +kernel
theorem dX9_init_66 : decode cX9_init 66 = .ok (.aload_n 0, 1) := by decide +kernel
theorem dX9_init_67 : decode cX9_init 67 = .ok (.new 35, 3) := by decide +kernel
theorem dX9_init_70 : decode cX9_init 70 = .ok (.dup, 1) := by decide +kernel
theorem dX9_init_71 : decode cX9_init 71 = .ok (.invokespecial 37, 3) := by decide +kernel
theorem dX9_init_74 : decode cX9_init 74 = .ok (.putfield 38, 3) := by decide +kernel
theorem dX9_init_77 : decode cX9_init 77 = .ok (.aload_n 0, 1) := by decide +kernel
theorem dX9_init_78 : decode cX9_init 78 = .ok (.new 35, 3) := by decide +kernel
theorem dX9_init_81 : decode cX9_init 81 = .ok (.dup, 1) := by decide +kernel
theorem dX9_init_82 : decode cX9_init 82 = .ok (.invokespecial 37, 3) := by decide +kernel
theorem dX9_init_85 : decode cX9_init 85 = .ok (.putfield 42, 3) := by decide +kernel
theorem dX9_init_88 : decode cX9_init 88 = .ok (.aload_n 0, 1) := by decide +kernel
theorem dX9_init_89 : decode cX9_init 89 = .ok (.bipush 120, 2) := by decide +kernel
theorem dX9_init_91 : decode cX9_init 91 = .ok (.newarray .int, 2) := by decide +kernel
theorem dX9_init_93 : decode cX9_init 93 = .ok (.putfield 45, 3) := by decide +kernel
theorem dX9_init_96 : decode cX9_init 96 = .ok (.aload_n 0, 1) := by decide +kernel
theorem dX9_init_97 : decode cX9_init 97 = .ok (.bipush 100, 2) := by decide +kernel
theorem dX9_init_99 : decode cX9_init 99 = .ok (.newarray .int, 2) := by decide +kernel
theorem dX9_init_101 : decode cX9_init 101 = .ok (.putfield 48, 3) := by decide +kernel
theorem dX9_init_104 : decode cX9_init 104 = .ok (.aload_n 0, 1) := by decide +kernel
theorem dX9_init_105 : decode cX9_init 105 = .ok (.getfield 38, 3) := by decide +kernel
theorem dX9_init_108 : decode cX9_init 108 = .ok (.iconst 1, 1) := by decide +kernel
theorem dX9_init_109 : decode cX9_init 109 = .ok (.putfield 51, 3) := by decide +kernel
theorem dX9_init_112 : decode cX9_init 112 = .ok (.iconst 0, 1) := by decide +kernel
theorem dX9_init_113 : decode cX9_init 113 = .ok (.istore_n 1, 1) := by decide +kernel
theorem dX9_init_114 : decode cX9_init 114 = .ok (.iload_n 1, 1) := by decide +kernel
theorem dX9_init_115 : decode cX9_init 115 = .ok (.bipush 48, 2) := by decide +kernel
theorem dX9_init_117 : decode cX9_init 117 = .ok (.if_icmp .ge 20, 3) := by decide +kernel
theorem dX9_init_120 : decode cX9_init 120 = .ok (.aload_n 0, 1) := by decide +kernel
theorem dX9_init_121 : decode cX9_init 121 = .ok (.getfield 38, 3) := by decide +kernel
theorem dX9_init_124 : decode cX9_init 124 = .ok (.getfield 55, 3) := by decide +kernel
theorem dX9_init_127 : decode cX9_init 127 = .ok (.iload_n 1, 1) := by decide +kernel
theorem dX9_init_128 : decode cX9_init 128 = .ok (.bipush (-4), 2) := by decide +kernel
theorem dX9_init_130 : decode cX9_init 130 = .ok (.iastore, 1) := by decide +kernel
theorem dX9_init_131 : decode cX9_init 131 = .ok (.iinc 1 1, 3) := by decide +kernel
theorem dX9_init_134 : decode cX9_init 134 = .ok (.goto (-20), 3) := by decide +kernel
theorem dX9_init_137 : decode cX9_init 137 = .ok (.iconst 0, 1) := by decide +kernel
theorem dX9_init_138 : decode cX9_init 138 = .ok (.istore_n 1, 1) := by decide +kernel
theorem dX9_init_139 : decode cX9_init 139 = .ok (.iload_n 1, 1) := by decide +kernel
theorem dX9_init_140 : decode cX9_init 140 = .ok (.bipush 6, 2) := by decide +kernel
theorem dX9_init_142 : decode cX9_init 142 = .ok (.if_icmp .ge 19, 3) := by decide +kernel
theorem dX9_init_145 : decode cX9_init 145 = .ok (.aload_n 0, 1) := by decide +kernel
theorem dX9_init_146 : decode cX9_init 146 = .ok (.getfield 38, 3) := by decide +kernel
theorem dX9_init_149 : decode cX9_init 149 = .ok (.getfield 58, 3) := by decide +kernel
theorem dX9_init_152 : decode cX9_init 152 = .ok (.iload_n 1, 1) := by decide +kernel
theorem dX9_init_153 : decode cX9_init 153 = .ok (.iconst (-1), 1) := by decide +kernel
theorem dX9_init_154 : decode cX9_init 154 = .ok (.iastore, 1) := by decide +kernel
theorem dX9_init_155 : decode cX9_init 155 = .ok (.iinc 1 1, 3) := by decide +kernel
theorem dX9_init_158 : decode cX9_init 158 = .ok (.goto (-19), 3) := by decide +kernel
theorem dX9_init_161 : decode cX9_init 161 = .ok (.return_, 1) := by decide +kernel
theorem dX9_within_0 : decode cX9_within 0 = .ok (.iload_n 0, 1) := by decide +kernel
theorem dX9_within_1 : decode cX9_within 1 = .ok (.iload_n 1, 1) := by decide +kernel
theorem dX9_within_2 : decode cX9_within 2 = .ok (.if_icmp .lt 12, 3) := by decide +kernel
theorem dX9_within_5 : decode cX9_within 5 = .ok (.iload_n 0, 1) := by decide +kernel
theorem dX9_within_6 : decode cX9_within 6 = .ok (.iload_n 2, 1) := by decide +kernel
theorem dX9_within_7 : decode cX9_within 7 = .ok (.if_icmp .gt 7, 3) := by decide +kernel
theorem dX9_within_10 : decode cX9_within 10 = .ok (.iconst 1, 1) := by decide +kernel
theorem dX9_within_11 : decode cX9_within 11 = .ok (.goto 4, 3) := by decide +kernel
theorem dX9_within_14 : decode cX9_within 14 = .ok (.iconst 0, 1) := by decide +kernel
theorem dX9_within_15 : decode cX9_within 15 = .ok (.ireturn, 1) := by decide +kernel
theorem dX9_isService_0 : decode cX9_isService 0 = .ok (.iload_n 1, 1) := by decide +kernel
theorem dX9_isService_1 : decode cX9_isService 1 = .ok (.ifCond .lt 15, 3) := by decide +kernel
theorem dX9_isService_4 : decode cX9_isService 4 = .ok (.iload_n 1, 1) := by decide +kernel
theorem dX9_isService_5 : decode cX9_isService 5 = .ok (.aload_n 0, 1) := by decide +kernel
theorem dX9_isService_6 : decode cX9_isService 6 = .ok (.getfield 61, 3) := by decide +kernel
theorem dX9_isService_9 : decode cX9_isService 9 = .ok (.if_icmp .ge 7, 3) := by decide +kernel
theorem dX9_isService_12 : decode cX9_isService 12 = .ok (.iconst 1, 1) := by decide +kernel
theorem dX9_isService_13 : decode cX9_isService 13 = .ok (.goto 4, 3) := by decide +kernel
theorem dX9_isService_16 : decode cX9_isService 16 = .ok (.iconst 0, 1) := by decide +kernel
theorem dX9_isService_17 : decode cX9_isService 17 = .ok (.ireturn, 1) := by decide +kernel
theorem dX9_isKey_0 : decode cX9_isKey 0 = .ok (.iload_n 0, 1) := by decide +kernel
theorem dX9_isKey_1 : decode cX9_isKey 1 = .ok (.iconst 0, 1) := by decide +kernel
theorem dX9_isKey_2 : decode cX9_isKey 2 = .ok (.bipush 7, 2) := by decide +kernel
theorem dX9_isKey_4 : decode cX9_isKey 4 = .ok (.invokestatic 64, 3) := by decide +kernel
theorem dX9_isKey_7 : decode cX9_isKey 7 = .ok (.ireturn, 1) := by decide +kernel
theorem dX9_ruled_0 : decode cX9_ruled 0 = .ok (.aload_n 0, 1) := by decide +kernel
theorem dX9_ruled_1 : decode cX9_ruled 1 = .ok (.getfield 9, 3) := by decide +kernel
theorem dX9_ruled_4 : decode cX9_ruled 4 = .ok (.bipush 9, 2) := by decide +kernel
theorem dX9_ruled_6 : decode cX9_ruled 6 = .ok (.iload_n 1, 1) := by decide +kernel
theorem dX9_ruled_7 : decode cX9_ruled 7 = .ok (.imul, 1) := by decide +kernel
theorem dX9_ruled_8 : decode cX9_ruled 8 = .ok (.iload_n 2, 1) := by decide +kernel
theorem dX9_ruled_9 : decode cX9_ruled 9 = .ok (.iadd, 1) := by decide +kernel
theorem dX9_ruled_10 : decode cX9_ruled 10 = .ok (.iaload, 1) := by decide +kernel
theorem dX9_ruled_11 : decode cX9_ruled 11 = .ok (.ireturn, 1) := by decide +kernel
theorem dX9_service_0 : decode cX9_service 0 = .ok (.iload_n 1, 1) := by decide +kernel
theorem dX9_service_1 : decode cX9_service 1 = .ok (.iconst 1, 1) := by decide +kernel
theorem dX9_service_2 : decode cX9_service 2 = .ok (.bipush 9, 2) := by decide +kernel
theorem dX9_service_4 : decode cX9_service 4 = .ok (.invokestatic 64, 3) := by decide +kernel
theorem dX9_service_7 : decode cX9_service 7 = .ok (.ifCond .eq 23, 3) := by decide +kernel
theorem dX9_service_10 : decode cX9_service 10 = .ok (.iload_n 2, 1) := by decide +kernel
theorem dX9_service_11 : decode cX9_service 11 = .ok (.iconst 0, 1) := by decide +kernel
theorem dX9_service_12 : decode cX9_service 12 = .ok (.bipush 20, 2) := by decide +kernel
theorem dX9_service_14 : decode cX9_service 14 = .ok (.invokestatic 64, 3) := by decide +kernel
theorem dX9_service_17 : decode cX9_service 17 = .ok (.ifCond .eq 13, 3) := by decide +kernel
theorem dX9_service_20 : decode cX9_service 20 = .ok (.iload_n 3, 1) := by decide +kernel
theorem dX9_service_21 : decode cX9_service 21 = .ok (.iconst 1, 1) := by decide +kernel
theorem dX9_service_22 : decode cX9_service 22 = .ok (.bipush 9, 2) := by decide +kernel
theorem dX9_service_24 : decode cX9_service 24 = .ok (.invokestatic 64, 3) := by decide +kernel
theorem dX9_service_27 : decode cX9_service 27 = .ok (.ifCond .ne 5, 3) := by decide +kernel
theorem dX9_service_30 : decode cX9_service 30 = .ok (.iconst (-1), 1) := by decide +kernel
theorem dX9_service_31 : decode cX9_service 31 = .ok (.ireturn, 1) := by decide +kernel
theorem dX9_service_32 : decode cX9_service 32 = .ok (.aload_n 0, 1) := by decide +kernel
theorem dX9_service_33 : decode cX9_service 33 = .ok (.getfield 61, 3) := by decide +kernel
theorem dX9_service_36 : decode cX9_service 36 = .ok (.bipush 6, 2) := by decide +kernel
theorem dX9_service_38 : decode cX9_service 38 = .ok (.if_icmp .ne 6, 3) := by decide +kernel
theorem dX9_service_41 : decode cX9_service 41 = .ok (.bipush (-2), 2) := by decide +kernel
theorem dX9_service_43 : decode cX9_service 43 = .ok (.ireturn, 1) := by decide +kernel
theorem dX9_service_44 : decode cX9_service 44 = .ok (.aload_n 0, 1) := by decide +kernel
theorem dX9_service_45 : decode cX9_service 45 = .ok (.getfield 38, 3) := by decide +kernel
theorem dX9_service_48 : decode cX9_service 48 = .ok (.getfield 68, 3) := by decide +kernel
theorem dX9_service_51 : decode cX9_service 51 = .ok (.ifCond .eq 6, 3) := by decide +kernel
theorem dX9_service_54 : decode cX9_service 54 = .ok (.bipush (-3), 2) := by decide +kernel
theorem dX9_service_56 : decode cX9_service 56 = .ok (.ireturn, 1) := by decide +kernel
theorem dX9_service_57 : decode cX9_service 57 = .ok (.bipush 9, 2) := by decide +kernel
theorem dX9_service_59 : decode cX9_service 59 = .ok (.aload_n 0, 1) := by decide +kernel
theorem dX9_service_60 : decode cX9_service 60 = .ok (.getfield 61, 3) := by decide +kernel
theorem dX9_service_63 : decode cX9_service 63 = .ok (.imul, 1) := by decide +kernel
theorem dX9_service_64 : decode cX9_service 64 = .ok (.istore 4, 2) := by decide +kernel
theorem dX9_service_66 : decode cX9_service 66 = .ok (.aload_n 0, 1) := by decide +kernel
theorem dX9_service_67 : decode cX9_service 67 = .ok (.getfield 9, 3) := by decide +kernel
theorem dX9_service_70 : decode cX9_service 70 = .ok (.iload 4, 2) := by decide +kernel
theorem dX9_service_72 : decode cX9_service 72 = .ok (.iconst 0, 1) := by decide +kernel
theorem dX9_service_73 : decode cX9_service 73 = .ok (.iadd, 1) := by decide +kernel
theorem dX9_service_74 : decode cX9_service 74 = .ok (.bipush 10, 2) := by decide +kernel
theorem dX9_service_76 : decode cX9_service 76 = .ok (.iastore, 1) := by decide +kernel
theorem dX9_service_77 : decode cX9_service 77 = .ok (.aload_n 0, 1) := by decide +kernel
theorem dX9_service_78 : decode cX9_service 78 = .ok (.getfield 9, 3) := by decide +kernel
theorem dX9_service_81 : decode cX9_service 81 = .ok (.iload 4, 2) := by decide +kernel
theorem dX9_service_83 : decode cX9_service 83 = .ok (.iconst 2, 1) := by decide +kernel
theorem dX9_service_84 : decode cX9_service 84 = .ok (.iadd, 1) := by decide +kernel
theorem dX9_service_85 : decode cX9_service 85 = .ok (.iconst 1, 1) := by decide +kernel
theorem dX9_service_86 : decode cX9_service 86 = .ok (.iastore, 1) := by decide +kernel
theorem dX9_service_87 : decode cX9_service 87 = .ok (.aload_n 0, 1) := by decide +kernel
theorem dX9_service_88 : decode cX9_service 88 = .ok (.getfield 9, 3) := by decide +kernel
theorem dX9_service_91 : decode cX9_service 91 = .ok (.iload 4, 2) := by decide +kernel
theorem dX9_service_93 : decode cX9_service 93 = .ok (.iconst 5, 1) := by decide +kernel
theorem dX9_service_94 : decode cX9_service 94 = .ok (.iadd, 1) := by decide +kernel
theorem dX9_service_95 : decode cX9_service 95 = .ok (.bipush 10, 2) := by decide +kernel
theorem dX9_service_97 : decode cX9_service 97 = .ok (.iastore, 1) := by decide +kernel
theorem dX9_service_98 : decode cX9_service 98 = .ok (.aload_n 0, 1) := by decide +kernel
theorem dX9_service_99 : decode cX9_service 99 = .ok (.getfield 9, 3) := by decide +kernel
theorem dX9_service_102 : decode cX9_service 102 = .ok (.iload 4, 2) := by decide +kernel
theorem dX9_service_104 : decode cX9_service 104 = .ok (.bipush 7, 2) := by decide +kernel
theorem dX9_service_106 : decode cX9_service 106 = .ok (.iadd, 1) := by decide +kernel
theorem dX9_service_107 : decode cX9_service 107 = .ok (.iload_n 1, 1) := by decide +kernel
theorem dX9_service_108 : decode cX9_service 108 = .ok (.iastore, 1) := by decide +kernel
theorem dX9_service_109 : decode cX9_service 109 = .ok (.aload_n 0, 1) := by decide +kernel
theorem dX9_service_110 : decode cX9_service 110 = .ok (.getfield 9, 3) := by decide +kernel
theorem dX9_service_113 : decode cX9_service 113 = .ok (.iload 4, 2) := by decide +kernel
theorem dX9_service_115 : decode cX9_service 115 = .ok (.bipush 8, 2) := by decide +kernel
theorem dX9_service_117 : decode cX9_service 117 = .ok (.iadd, 1) := by decide +kernel
theorem dX9_service_118 : decode cX9_service 118 = .ok (.iload_n 3, 1) := by decide +kernel
theorem dX9_service_119 : decode cX9_service 119 = .ok (.iastore, 1) := by decide +kernel
theorem dX9_service_120 : decode cX9_service 120 = .ok (.aload_n 0, 1) := by decide +kernel
theorem dX9_service_121 : decode cX9_service 121 = .ok (.getfield 13, 3) := by decide +kernel
theorem dX9_service_124 : decode cX9_service 124 = .ok (.aload_n 0, 1) := by decide +kernel
theorem dX9_service_125 : decode cX9_service 125 = .ok (.getfield 61, 3) := by decide +kernel
theorem dX9_service_128 : decode cX9_service 128 = .ok (.iload_n 2, 1) := by decide +kernel
theorem dX9_service_129 : decode cX9_service 129 = .ok (.iastore, 1) := by decide +kernel
theorem dX9_service_130 : decode cX9_service 130 = .ok (.aload_n 0, 1) := by decide +kernel
theorem dX9_service_131 : decode cX9_service 131 = .ok (.dup, 1) := by decide +kernel
theorem dX9_service_132 : decode cX9_service 132 = .ok (.getfield 61, 3) := by decide +kernel
theorem dX9_service_135 : decode cX9_service 135 = .ok (.iconst 1, 1) := by decide +kernel
theorem dX9_service_136 : decode cX9_service 136 = .ok (.iadd, 1) := by decide +kernel
theorem dX9_service_137 : decode cX9_service 137 = .ok (.putfield 61, 3) := by decide +kernel
theorem dX9_service_140 : decode cX9_service 140 = .ok (.aload_n 0, 1) := by decide +kernel
theorem dX9_service_141 : decode cX9_service 141 = .ok (.getfield 61, 3) := by decide +kernel
theorem dX9_service_144 : decode cX9_service 144 = .ok (.iconst 1, 1) := by decide +kernel
theorem dX9_service_145 : decode cX9_service 145 = .ok (.isub, 1) := by decide +kernel
theorem dX9_service_146 : decode cX9_service 146 = .ok (.ireturn, 1) := by decide +kernel
theorem dX9_isRule_0 : decode cX9_isRule 0 = .ok (.iload_n 0, 1) := by decide +kernel
theorem dX9_isRule_1 : decode cX9_isRule 1 = .ok (.tableswitch 105 0 8 #[51, 59, 66, 74, 66, 82, 90, 97, 97], 51) := by decide +kernel
theorem dX9_isRule_52 : decode cX9_isRule 52 = .ok (.iload_n 1, 1) := by decide +kernel
theorem dX9_isRule_53 : decode cX9_isRule 53 = .ok (.iconst 1, 1) := by decide +kernel
theorem dX9_isRule_54 : decode cX9_isRule 54 = .ok (.bipush 40, 2) := by decide +kernel
theorem dX9_isRule_56 : decode cX9_isRule 56 = .ok (.invokestatic 64, 3) := by decide +kernel
theorem dX9_isRule_59 : decode cX9_isRule 59 = .ok (.ireturn, 1) := by decide +kernel
theorem dX9_isRule_60 : decode cX9_isRule 60 = .ok (.iload_n 1, 1) := by decide +kernel
theorem dX9_isRule_61 : decode cX9_isRule 61 = .ok (.iconst 0, 1) := by decide +kernel
theorem dX9_isRule_62 : decode cX9_isRule 62 = .ok (.iconst 4, 1) := by decide +kernel
theorem dX9_isRule_63 : decode cX9_isRule 63 = .ok (.invokestatic 64, 3) := by decide +kernel
theorem dX9_isRule_66 : decode cX9_isRule 66 = .ok (.ireturn, 1) := by decide +kernel
theorem dX9_isRule_67 : decode cX9_isRule 67 = .ok (.iload_n 1, 1) := by decide +kernel
theorem dX9_isRule_68 : decode cX9_isRule 68 = .ok (.iconst 0, 1) := by decide +kernel
theorem dX9_isRule_69 : decode cX9_isRule 69 = .ok (.bipush 9, 2) := by decide +kernel
theorem dX9_isRule_71 : decode cX9_isRule 71 = .ok (.invokestatic 64, 3) := by decide +kernel
theorem dX9_isRule_74 : decode cX9_isRule 74 = .ok (.ireturn, 1) := by decide +kernel
theorem dX9_isRule_75 : decode cX9_isRule 75 = .ok (.iload_n 1, 1) := by decide +kernel
theorem dX9_isRule_76 : decode cX9_isRule 76 = .ok (.iconst 0, 1) := by decide +kernel
theorem dX9_isRule_77 : decode cX9_isRule 77 = .ok (.bipush 60, 2) := by decide +kernel
theorem dX9_isRule_79 : decode cX9_isRule 79 = .ok (.invokestatic 64, 3) := by decide +kernel
theorem dX9_isRule_82 : decode cX9_isRule 82 = .ok (.ireturn, 1) := by decide +kernel
theorem dX9_isRule_83 : decode cX9_isRule 83 = .ok (.iload_n 1, 1) := by decide +kernel
theorem dX9_isRule_84 : decode cX9_isRule 84 = .ok (.iconst 1, 1) := by decide +kernel
theorem dX9_isRule_85 : decode cX9_isRule 85 = .ok (.bipush 60, 2) := by decide +kernel
theorem dX9_isRule_87 : decode cX9_isRule 87 = .ok (.invokestatic 64, 3) := by decide +kernel
theorem dX9_isRule_90 : decode cX9_isRule 90 = .ok (.ireturn, 1) := by decide +kernel
theorem dX9_isRule_91 : decode cX9_isRule 91 = .ok (.iload_n 1, 1) := by decide +kernel
theorem dX9_isRule_92 : decode cX9_isRule 92 = .ok (.iconst 0, 1) := by decide +kernel
theorem dX9_isRule_93 : decode cX9_isRule 93 = .ok (.iconst 1, 1) := by decide +kernel
theorem dX9_isRule_94 : decode cX9_isRule 94 = .ok (.invokestatic 64, 3) := by decide +kernel
theorem dX9_isRule_97 : decode cX9_isRule 97 = .ok (.ireturn, 1) := by decide +kernel
theorem dX9_isRule_98 : decode cX9_isRule 98 = .ok (.iload_n 1, 1) := by decide +kernel
theorem dX9_isRule_99 : decode cX9_isRule 99 = .ok (.iconst 1, 1) := by decide +kernel
theorem dX9_isRule_100 : decode cX9_isRule 100 = .ok (.bipush 9, 2) := by decide +kernel
theorem dX9_isRule_102 : decode cX9_isRule 102 = .ok (.invokestatic 64, 3) := by decide +kernel
theorem dX9_isRule_105 : decode cX9_isRule 105 = .ok (.ireturn, 1) := by decide +kernel
theorem dX9_isRule_106 : decode cX9_isRule 106 = .ok (.iconst 0, 1) := by decide +kernel
theorem dX9_isRule_107 : decode cX9_isRule 107 = .ok (.ireturn, 1) := by decide +kernel
theorem dX9_rule_0 : decode cX9_rule 0 = .ok (.aload_n 0, 1) := by decide +kernel
theorem dX9_rule_1 : decode cX9_rule 1 = .ok (.iload_n 1, 1) := by decide +kernel
theorem dX9_rule_2 : decode cX9_rule 2 = .ok (.invokevirtual 71, 3) := by decide +kernel
theorem dX9_rule_5 : decode cX9_rule 5 = .ok (.ifCond .eq 11, 3) := by decide +kernel
theorem dX9_rule_8 : decode cX9_rule 8 = .ok (.iload_n 2, 1) := by decide +kernel
theorem dX9_rule_9 : decode cX9_rule 9 = .ok (.iload_n 3, 1) := by decide +kernel
theorem dX9_rule_10 : decode cX9_rule 10 = .ok (.invokestatic 75, 3) := by decide +kernel
theorem dX9_rule_13 : decode cX9_rule 13 = .ok (.ifCond .ne 5, 3) := by decide +kernel
theorem dX9_rule_16 : decode cX9_rule 16 = .ok (.iconst (-1), 1) := by decide +kernel
theorem dX9_rule_17 : decode cX9_rule 17 = .ok (.ireturn, 1) := by decide +kernel
theorem dX9_rule_18 : decode cX9_rule 18 = .ok (.aload_n 0, 1) := by decide +kernel
theorem dX9_rule_19 : decode cX9_rule 19 = .ok (.iload_n 1, 1) := by decide +kernel
theorem dX9_rule_20 : decode cX9_rule 20 = .ok (.iload_n 2, 1) := by decide +kernel
theorem dX9_rule_21 : decode cX9_rule 21 = .ok (.invokevirtual 79, 3) := by decide +kernel
theorem dX9_rule_24 : decode cX9_rule 24 = .ok (.istore 4, 2) := by decide +kernel
theorem dX9_rule_26 : decode cX9_rule 26 = .ok (.aload_n 0, 1) := by decide +kernel
theorem dX9_rule_27 : decode cX9_rule 27 = .ok (.getfield 9, 3) := by decide +kernel
theorem dX9_rule_30 : decode cX9_rule 30 = .ok (.bipush 9, 2) := by decide +kernel
theorem dX9_rule_32 : decode cX9_rule 32 = .ok (.iload_n 1, 1) := by decide +kernel
theorem dX9_rule_33 : decode cX9_rule 33 = .ok (.imul, 1) := by decide +kernel
theorem dX9_rule_34 : decode cX9_rule 34 = .ok (.iload_n 2, 1) := by decide +kernel
theorem dX9_rule_35 : decode cX9_rule 35 = .ok (.iadd, 1) := by decide +kernel
theorem dX9_rule_36 : decode cX9_rule 36 = .ok (.iload_n 3, 1) := by decide +kernel
theorem dX9_rule_37 : decode cX9_rule 37 = .ok (.iastore, 1) := by decide +kernel
theorem dX9_rule_38 : decode cX9_rule 38 = .ok (.iload 4, 2) := by decide +kernel
theorem dX9_rule_40 : decode cX9_rule 40 = .ok (.ireturn, 1) := by decide +kernel
theorem dX9_guests_0 : decode cX9_guests 0 = .ok (.iload_n 1, 1) := by decide +kernel
theorem dX9_guests_1 : decode cX9_guests 1 = .ok (.iconst 0, 1) := by decide +kernel
theorem dX9_guests_2 : decode cX9_guests 2 = .ok (.iconst 1, 1) := by decide +kernel
theorem dX9_guests_3 : decode cX9_guests 3 = .ok (.invokestatic 64, 3) := by decide +kernel
theorem dX9_guests_6 : decode cX9_guests 6 = .ok (.ifCond .eq 29, 3) := by decide +kernel
theorem dX9_guests_9 : decode cX9_guests 9 = .ok (.iload_n 2, 1) := by decide +kernel
theorem dX9_guests_10 : decode cX9_guests 10 = .ok (.iload_n 1, 1) := by decide +kernel
theorem dX9_guests_11 : decode cX9_guests 11 = .ok (.ifCond .ne 7, 3) := by decide +kernel
theorem dX9_guests_14 : decode cX9_guests 14 = .ok (.iconst 1, 1) := by decide +kernel
theorem dX9_guests_15 : decode cX9_guests 15 = .ok (.goto 4, 3) := by decide +kernel
theorem dX9_guests_18 : decode cX9_guests 18 = .ok (.iconst 0, 1) := by decide +kernel
theorem dX9_guests_19 : decode cX9_guests 19 = .ok (.iload_n 1, 1) := by decide +kernel
theorem dX9_guests_20 : decode cX9_guests 20 = .ok (.ifCond .ne 8, 3) := by decide +kernel
theorem dX9_guests_23 : decode cX9_guests 23 = .ok (.bipush 60, 2) := by decide +kernel
theorem dX9_guests_25 : decode cX9_guests 25 = .ok (.goto 4, 3) := by decide +kernel
theorem dX9_guests_28 : decode cX9_guests 28 = .ok (.iconst 3, 1) := by decide +kernel
theorem dX9_guests_29 : decode cX9_guests 29 = .ok (.invokestatic 64, 3) := by decide +kernel
theorem dX9_guests_32 : decode cX9_guests 32 = .ok (.ifCond .ne 5, 3) := by decide +kernel
theorem dX9_guests_35 : decode cX9_guests 35 = .ok (.iconst (-1), 1) := by decide +kernel
theorem dX9_guests_36 : decode cX9_guests 36 = .ok (.ireturn, 1) := by decide +kernel
theorem dX9_guests_37 : decode cX9_guests 37 = .ok (.iload_n 1, 1) := by decide +kernel
theorem dX9_guests_38 : decode cX9_guests 38 = .ok (.ifCond .ne 10, 3) := by decide +kernel
theorem dX9_guests_41 : decode cX9_guests 41 = .ok (.aload_n 0, 1) := by decide +kernel
theorem dX9_guests_42 : decode cX9_guests 42 = .ok (.getfield 16, 3) := by decide +kernel
theorem dX9_guests_45 : decode cX9_guests 45 = .ok (.goto 7, 3) := by decide +kernel
theorem dX9_guests_48 : decode cX9_guests 48 = .ok (.aload_n 0, 1) := by decide +kernel
theorem dX9_guests_49 : decode cX9_guests 49 = .ok (.getfield 83, 3) := by decide +kernel
theorem dX9_guests_52 : decode cX9_guests 52 = .ok (.istore_n 3, 1) := by decide +kernel
theorem dX9_guests_53 : decode cX9_guests 53 = .ok (.iload_n 1, 1) := by decide +kernel
theorem dX9_guests_54 : decode cX9_guests 54 = .ok (.ifCond .ne 11, 3) := by decide +kernel
theorem dX9_guests_57 : decode cX9_guests 57 = .ok (.aload_n 0, 1) := by decide +kernel
theorem dX9_guests_58 : decode cX9_guests 58 = .ok (.iload_n 2, 1) := by decide +kernel
theorem dX9_guests_59 : decode cX9_guests 59 = .ok (.putfield 16, 3) := by decide +kernel
theorem dX9_guests_62 : decode cX9_guests 62 = .ok (.goto 8, 3) := by decide +kernel
theorem dX9_guests_65 : decode cX9_guests 65 = .ok (.aload_n 0, 1) := by decide +kernel
theorem dX9_guests_66 : decode cX9_guests 66 = .ok (.iload_n 2, 1) := by decide +kernel
theorem dX9_guests_67 : decode cX9_guests 67 = .ok (.putfield 83, 3) := by decide +kernel
theorem dX9_guests_70 : decode cX9_guests 70 = .ok (.iload_n 3, 1) := by decide +kernel
theorem dX9_guests_71 : decode cX9_guests 71 = .ok (.ireturn, 1) := by decide +kernel
theorem dX9_crowd_0 : decode cX9_crowd 0 = .ok (.iload_n 1, 1) := by decide +kernel
theorem dX9_crowd_1 : decode cX9_crowd 1 = .ok (.aload_n 0, 1) := by decide +kernel
theorem dX9_crowd_2 : decode cX9_crowd 2 = .ok (.getfield 38, 3) := by decide +kernel
theorem dX9_crowd_5 : decode cX9_crowd 5 = .ok (.getfield 68, 3) := by decide +kernel
theorem dX9_crowd_8 : decode cX9_crowd 8 = .ok (.iconst 1, 1) := by decide +kernel
theorem dX9_crowd_9 : decode cX9_crowd 9 = .ok (.iadd, 1) := by decide +kernel
theorem dX9_crowd_10 : decode cX9_crowd 10 = .ok (.ldc 86, 2) := by decide +kernel
theorem dX9_crowd_12 : decode cX9_crowd 12 = .ok (.invokestatic 64, 3) := by decide +kernel
theorem dX9_crowd_15 : decode cX9_crowd 15 = .ok (.ifCond .eq 20, 3) := by decide +kernel
theorem dX9_crowd_18 : decode cX9_crowd 18 = .ok (.iload_n 2, 1) := by decide +kernel
theorem dX9_crowd_19 : decode cX9_crowd 19 = .ok (.invokestatic 87, 3) := by decide +kernel
theorem dX9_crowd_22 : decode cX9_crowd 22 = .ok (.ifCond .eq 13, 3) := by decide +kernel
theorem dX9_crowd_25 : decode cX9_crowd 25 = .ok (.iload_n 3, 1) := by decide +kernel
theorem dX9_crowd_26 : decode cX9_crowd 26 = .ok (.iconst 1, 1) := by decide +kernel
theorem dX9_crowd_27 : decode cX9_crowd 27 = .ok (.bipush 30, 2) := by decide +kernel
theorem dX9_crowd_29 : decode cX9_crowd 29 = .ok (.invokestatic 64, 3) := by decide +kernel
theorem dX9_crowd_32 : decode cX9_crowd 32 = .ok (.ifCond .ne 5, 3) := by decide +kernel
theorem dX9_crowd_35 : decode cX9_crowd 35 = .ok (.iconst (-1), 1) := by decide +kernel
theorem dX9_crowd_36 : decode cX9_crowd 36 = .ok (.ireturn, 1) := by decide +kernel
theorem dX9_crowd_37 : decode cX9_crowd 37 = .ok (.aload_n 0, 1) := by decide +kernel
theorem dX9_crowd_38 : decode cX9_crowd 38 = .ok (.getfield 90, 3) := by decide +kernel
theorem dX9_crowd_41 : decode cX9_crowd 41 = .ok (.bipush 40, 2) := by decide +kernel
theorem dX9_crowd_43 : decode cX9_crowd 43 = .ok (.if_icmp .ne 6, 3) := by decide +kernel
theorem dX9_crowd_46 : decode cX9_crowd 46 = .ok (.bipush (-2), 2) := by decide +kernel
theorem dX9_crowd_48 : decode cX9_crowd 48 = .ok (.ireturn, 1) := by decide +kernel
theorem dX9_crowd_49 : decode cX9_crowd 49 = .ok (.aload_n 0, 1) := by decide +kernel
theorem dX9_crowd_50 : decode cX9_crowd 50 = .ok (.getfield 20, 3) := by decide +kernel
theorem dX9_crowd_53 : decode cX9_crowd 53 = .ok (.aload_n 0, 1) := by decide +kernel
theorem dX9_crowd_54 : decode cX9_crowd 54 = .ok (.getfield 90, 3) := by decide +kernel
theorem dX9_crowd_57 : decode cX9_crowd 57 = .ok (.iload_n 1, 1) := by decide +kernel
theorem dX9_crowd_58 : decode cX9_crowd 58 = .ok (.iastore, 1) := by decide +kernel
theorem dX9_crowd_59 : decode cX9_crowd 59 = .ok (.aload_n 0, 1) := by decide +kernel
theorem dX9_crowd_60 : decode cX9_crowd 60 = .ok (.getfield 23, 3) := by decide +kernel
theorem dX9_crowd_63 : decode cX9_crowd 63 = .ok (.aload_n 0, 1) := by decide +kernel
theorem dX9_crowd_64 : decode cX9_crowd 64 = .ok (.getfield 90, 3) := by decide +kernel
theorem dX9_crowd_67 : decode cX9_crowd 67 = .ok (.iload_n 2, 1) := by decide +kernel
theorem dX9_crowd_68 : decode cX9_crowd 68 = .ok (.iastore, 1) := by decide +kernel
theorem dX9_crowd_69 : decode cX9_crowd 69 = .ok (.aload_n 0, 1) := by decide +kernel
theorem dX9_crowd_70 : decode cX9_crowd 70 = .ok (.getfield 26, 3) := by decide +kernel
theorem dX9_crowd_73 : decode cX9_crowd 73 = .ok (.aload_n 0, 1) := by decide +kernel
theorem dX9_crowd_74 : decode cX9_crowd 74 = .ok (.getfield 90, 3) := by decide +kernel
theorem dX9_crowd_77 : decode cX9_crowd 77 = .ok (.iload_n 3, 1) := by decide +kernel
theorem dX9_crowd_78 : decode cX9_crowd 78 = .ok (.iastore, 1) := by decide +kernel
theorem dX9_crowd_79 : decode cX9_crowd 79 = .ok (.aload_n 0, 1) := by decide +kernel
theorem dX9_crowd_80 : decode cX9_crowd 80 = .ok (.dup, 1) := by decide +kernel
theorem dX9_crowd_81 : decode cX9_crowd 81 = .ok (.getfield 90, 3) := by decide +kernel
theorem dX9_crowd_84 : decode cX9_crowd 84 = .ok (.iconst 1, 1) := by decide +kernel
theorem dX9_crowd_85 : decode cX9_crowd 85 = .ok (.iadd, 1) := by decide +kernel
theorem dX9_crowd_86 : decode cX9_crowd 86 = .ok (.putfield 90, 3) := by decide +kernel
theorem dX9_crowd_89 : decode cX9_crowd 89 = .ok (.aload_n 0, 1) := by decide +kernel
theorem dX9_crowd_90 : decode cX9_crowd 90 = .ok (.getfield 90, 3) := by decide +kernel
theorem dX9_crowd_93 : decode cX9_crowd 93 = .ok (.ireturn, 1) := by decide +kernel
theorem dX9_usual_0 : decode cX9_usual 0 = .ok (.iload_n 1, 1) := by decide +kernel
theorem dX9_usual_1 : decode cX9_usual 1 = .ok (.iconst 1, 1) := by decide +kernel
theorem dX9_usual_2 : decode cX9_usual 2 = .ok (.bipush 12, 2) := by decide +kernel
theorem dX9_usual_4 : decode cX9_usual 4 = .ok (.invokestatic 64, 3) := by decide +kernel
theorem dX9_usual_7 : decode cX9_usual 7 = .ok (.ifCond .ne 5, 3) := by decide +kernel
theorem dX9_usual_10 : decode cX9_usual 10 = .ok (.iconst (-1), 1) := by decide +kernel
theorem dX9_usual_11 : decode cX9_usual 11 = .ok (.ireturn, 1) := by decide +kernel
theorem dX9_usual_12 : decode cX9_usual 12 = .ok (.aload_n 0, 1) := by decide +kernel
theorem dX9_usual_13 : decode cX9_usual 13 = .ok (.iload_n 1, 1) := by decide +kernel
theorem dX9_usual_14 : decode cX9_usual 14 = .ok (.putfield 93, 3) := by decide +kernel
theorem dX9_usual_17 : decode cX9_usual 17 = .ok (.iconst 0, 1) := by decide +kernel
theorem dX9_usual_18 : decode cX9_usual 18 = .ok (.istore_n 2, 1) := by decide +kernel
theorem dX9_usual_19 : decode cX9_usual 19 = .ok (.iload_n 2, 1) := by decide +kernel
theorem dX9_usual_20 : decode cX9_usual 20 = .ok (.bipush 12, 2) := by decide +kernel
theorem dX9_usual_22 : decode cX9_usual 22 = .ok (.if_icmp .ge 16, 3) := by decide +kernel
theorem dX9_usual_25 : decode cX9_usual 25 = .ok (.aload_n 0, 1) := by decide +kernel
theorem dX9_usual_26 : decode cX9_usual 26 = .ok (.getfield 32, 3) := by decide +kernel
theorem dX9_usual_29 : decode cX9_usual 29 = .ok (.iload_n 2, 1) := by decide +kernel
theorem dX9_usual_30 : decode cX9_usual 30 = .ok (.iconst 0, 1) := by decide +kernel
theorem dX9_usual_31 : decode cX9_usual 31 = .ok (.iastore, 1) := by decide +kernel
theorem dX9_usual_32 : decode cX9_usual 32 = .ok (.iinc 2 1, 3) := by decide +kernel
theorem dX9_usual_35 : decode cX9_usual 35 = .ok (.goto (-16), 3) := by decide +kernel
theorem dX9_usual_38 : decode cX9_usual 38 = .ok (.iconst 1, 1) := by decide +kernel
theorem dX9_usual_39 : decode cX9_usual 39 = .ok (.ireturn, 1) := by decide +kernel
theorem dX9_place_0 : decode cX9_place 0 = .ok (.iload_n 1, 1) := by decide +kernel
theorem dX9_place_1 : decode cX9_place 1 = .ok (.ifCond .lt 27, 3) := by decide +kernel
theorem dX9_place_4 : decode cX9_place 4 = .ok (.iload_n 1, 1) := by decide +kernel
theorem dX9_place_5 : decode cX9_place 5 = .ok (.aload_n 0, 1) := by decide +kernel
theorem dX9_place_6 : decode cX9_place 6 = .ok (.getfield 93, 3) := by decide +kernel
theorem dX9_place_9 : decode cX9_place 9 = .ok (.if_icmp .ge 19, 3) := by decide +kernel
theorem dX9_place_12 : decode cX9_place 12 = .ok (.iload_n 2, 1) := by decide +kernel
theorem dX9_place_13 : decode cX9_place 13 = .ok (.invokestatic 87, 3) := by decide +kernel
theorem dX9_place_16 : decode cX9_place 16 = .ok (.ifCond .eq 12, 3) := by decide +kernel
theorem dX9_place_19 : decode cX9_place 19 = .ok (.iload_n 3, 1) := by decide +kernel
theorem dX9_place_20 : decode cX9_place 20 = .ok (.iconst 0, 1) := by decide +kernel
theorem dX9_place_21 : decode cX9_place 21 = .ok (.iconst 5, 1) := by decide +kernel
theorem dX9_place_22 : decode cX9_place 22 = .ok (.invokestatic 64, 3) := by decide +kernel
theorem dX9_place_25 : decode cX9_place 25 = .ok (.ifCond .ne 5, 3) := by decide +kernel
theorem dX9_place_28 : decode cX9_place 28 = .ok (.iconst (-1), 1) := by decide +kernel
theorem dX9_place_29 : decode cX9_place 29 = .ok (.ireturn, 1) := by decide +kernel
theorem dX9_place_30 : decode cX9_place 30 = .ok (.aload_n 0, 1) := by decide +kernel
theorem dX9_place_31 : decode cX9_place 31 = .ok (.getfield 29, 3) := by decide +kernel
theorem dX9_place_34 : decode cX9_place 34 = .ok (.iload_n 1, 1) := by decide +kernel
theorem dX9_place_35 : decode cX9_place 35 = .ok (.iload_n 2, 1) := by decide +kernel
theorem dX9_place_36 : decode cX9_place 36 = .ok (.iastore, 1) := by decide +kernel
theorem dX9_place_37 : decode cX9_place 37 = .ok (.aload_n 0, 1) := by decide +kernel
theorem dX9_place_38 : decode cX9_place 38 = .ok (.getfield 32, 3) := by decide +kernel
theorem dX9_place_41 : decode cX9_place 41 = .ok (.iload_n 1, 1) := by decide +kernel
theorem dX9_place_42 : decode cX9_place 42 = .ok (.iload_n 3, 1) := by decide +kernel
theorem dX9_place_43 : decode cX9_place 43 = .ok (.iastore, 1) := by decide +kernel
theorem dX9_place_44 : decode cX9_place 44 = .ok (.iconst 1, 1) := by decide +kernel
theorem dX9_place_45 : decode cX9_place 45 = .ok (.ireturn, 1) := by decide +kernel
theorem dX9_placeOf_0 : decode cX9_placeOf 0 = .ok (.iconst 0, 1) := by decide +kernel
theorem dX9_placeOf_1 : decode cX9_placeOf 1 = .ok (.istore_n 2, 1) := by decide +kernel
theorem dX9_placeOf_2 : decode cX9_placeOf 2 = .ok (.iload_n 2, 1) := by decide +kernel
theorem dX9_placeOf_3 : decode cX9_placeOf 3 = .ok (.aload_n 0, 1) := by decide +kernel
theorem dX9_placeOf_4 : decode cX9_placeOf 4 = .ok (.getfield 38, 3) := by decide +kernel
theorem dX9_placeOf_7 : decode cX9_placeOf 7 = .ok (.getfield 96, 3) := by decide +kernel
theorem dX9_placeOf_10 : decode cX9_placeOf 10 = .ok (.if_icmp .ge 24, 3) := by decide +kernel
theorem dX9_placeOf_13 : decode cX9_placeOf 13 = .ok (.aload_n 0, 1) := by decide +kernel
theorem dX9_placeOf_14 : decode cX9_placeOf 14 = .ok (.getfield 38, 3) := by decide +kernel
theorem dX9_placeOf_17 : decode cX9_placeOf 17 = .ok (.getfield 99, 3) := by decide +kernel
theorem dX9_placeOf_20 : decode cX9_placeOf 20 = .ok (.iload_n 2, 1) := by decide +kernel
theorem dX9_placeOf_21 : decode cX9_placeOf 21 = .ok (.iaload, 1) := by decide +kernel
theorem dX9_placeOf_22 : decode cX9_placeOf 22 = .ok (.iload_n 1, 1) := by decide +kernel
theorem dX9_placeOf_23 : decode cX9_placeOf 23 = .ok (.if_icmp .ne 5, 3) := by decide +kernel
theorem dX9_placeOf_26 : decode cX9_placeOf 26 = .ok (.iload_n 2, 1) := by decide +kernel
theorem dX9_placeOf_27 : decode cX9_placeOf 27 = .ok (.ireturn, 1) := by decide +kernel
theorem dX9_placeOf_28 : decode cX9_placeOf 28 = .ok (.iinc 2 1, 3) := by decide +kernel
theorem dX9_placeOf_31 : decode cX9_placeOf 31 = .ok (.goto (-29), 3) := by decide +kernel
theorem dX9_placeOf_34 : decode cX9_placeOf 34 = .ok (.iconst (-1), 1) := by decide +kernel
theorem dX9_placeOf_35 : decode cX9_placeOf 35 = .ok (.ireturn, 1) := by decide +kernel
theorem dX9_guestOf_0 : decode cX9_guestOf 0 = .ok (.iconst 0, 1) := by decide +kernel
theorem dX9_guestOf_1 : decode cX9_guestOf 1 = .ok (.istore_n 2, 1) := by decide +kernel
theorem dX9_guestOf_2 : decode cX9_guestOf 2 = .ok (.iload_n 2, 1) := by decide +kernel
theorem dX9_guestOf_3 : decode cX9_guestOf 3 = .ok (.aload_n 0, 1) := by decide +kernel
theorem dX9_guestOf_4 : decode cX9_guestOf 4 = .ok (.getfield 38, 3) := by decide +kernel
theorem dX9_guestOf_7 : decode cX9_guestOf 7 = .ok (.getfield 102, 3) := by decide +kernel
theorem dX9_guestOf_10 : decode cX9_guestOf 10 = .ok (.if_icmp .ge 24, 3) := by decide +kernel
theorem dX9_guestOf_13 : decode cX9_guestOf 13 = .ok (.aload_n 0, 1) := by decide +kernel
theorem dX9_guestOf_14 : decode cX9_guestOf 14 = .ok (.getfield 38, 3) := by decide +kernel
theorem dX9_guestOf_17 : decode cX9_guestOf 17 = .ok (.getfield 105, 3) := by decide +kernel
theorem dX9_guestOf_20 : decode cX9_guestOf 20 = .ok (.iload_n 2, 1) := by decide +kernel
theorem dX9_guestOf_21 : decode cX9_guestOf 21 = .ok (.iaload, 1) := by decide +kernel
theorem dX9_guestOf_22 : decode cX9_guestOf 22 = .ok (.iload_n 1, 1) := by decide +kernel
theorem dX9_guestOf_23 : decode cX9_guestOf 23 = .ok (.if_icmp .ne 5, 3) := by decide +kernel
theorem dX9_guestOf_26 : decode cX9_guestOf 26 = .ok (.iload_n 2, 1) := by decide +kernel
theorem dX9_guestOf_27 : decode cX9_guestOf 27 = .ok (.ireturn, 1) := by decide +kernel
theorem dX9_guestOf_28 : decode cX9_guestOf 28 = .ok (.iinc 2 1, 3) := by decide +kernel
theorem dX9_guestOf_31 : decode cX9_guestOf 31 = .ok (.goto (-29), 3) := by decide +kernel
theorem dX9_guestOf_34 : decode cX9_guestOf 34 = .ok (.iconst (-1), 1) := by decide +kernel
theorem dX9_guestOf_35 : decode cX9_guestOf 35 = .ok (.ireturn, 1) := by decide +kernel
theorem dX9_add_0 : decode cX9_add 0 = .ok (.aload_n 0, 1) := by decide +kernel
theorem dX9_add_1 : decode cX9_add 1 = .ok (.getfield 38, 3) := by decide +kernel
theorem dX9_add_4 : decode cX9_add 4 = .ok (.getfield 108, 3) := by decide +kernel
theorem dX9_add_7 : decode cX9_add 7 = .ok (.bipush 13, 2) := by decide +kernel
theorem dX9_add_9 : decode cX9_add 9 = .ok (.iload_n 1, 1) := by decide +kernel
theorem dX9_add_10 : decode cX9_add 10 = .ok (.imul, 1) := by decide +kernel
theorem dX9_add_11 : decode cX9_add 11 = .ok (.iload_n 2, 1) := by decide +kernel
theorem dX9_add_12 : decode cX9_add 12 = .ok (.iadd, 1) := by decide +kernel
theorem dX9_add_13 : decode cX9_add 13 = .ok (.dup2, 1) := by decide +kernel
theorem dX9_add_14 : decode cX9_add 14 = .ok (.iaload, 1) := by decide +kernel
theorem dX9_add_15 : decode cX9_add 15 = .ok (.iconst 1, 1) := by decide +kernel
theorem dX9_add_16 : decode cX9_add 16 = .ok (.iadd, 1) := by decide +kernel
theorem dX9_add_17 : decode cX9_add 17 = .ok (.iastore, 1) := by decide +kernel
theorem dX9_add_18 : decode cX9_add 18 = .ok (.return_, 1) := by decide +kernel
theorem dX9_handsInUse_0 : decode cX9_handsInUse 0 = .ok (.iconst 0, 1) := by decide +kernel
theorem dX9_handsInUse_1 : decode cX9_handsInUse 1 = .ok (.istore_n 2, 1) := by decide +kernel
theorem dX9_handsInUse_2 : decode cX9_handsInUse 2 = .ok (.iconst 0, 1) := by decide +kernel
theorem dX9_handsInUse_3 : decode cX9_handsInUse 3 = .ok (.istore_n 3, 1) := by decide +kernel
theorem dX9_handsInUse_4 : decode cX9_handsInUse 4 = .ok (.iload_n 3, 1) := by decide +kernel
theorem dX9_handsInUse_5 : decode cX9_handsInUse 5 = .ok (.aload_n 0, 1) := by decide +kernel
theorem dX9_handsInUse_6 : decode cX9_handsInUse 6 = .ok (.getfield 38, 3) := by decide +kernel
theorem dX9_handsInUse_9 : decode cX9_handsInUse 9 = .ok (.getfield 96, 3) := by decide +kernel
theorem dX9_handsInUse_12 : decode cX9_handsInUse 12 = .ok (.if_icmp .ge 42, 3) := by decide +kernel
theorem dX9_handsInUse_15 : decode cX9_handsInUse 15 = .ok (.iload_n 2, 1) := by decide +kernel
theorem dX9_handsInUse_16 : decode cX9_handsInUse 16 = .ok (.aload_n 0, 1) := by decide +kernel
theorem dX9_handsInUse_17 : decode cX9_handsInUse 17 = .ok (.getfield 38, 3) := by decide +kernel
theorem dX9_handsInUse_20 : decode cX9_handsInUse 20 = .ok (.getfield 111, 3) := by decide +kernel
theorem dX9_handsInUse_23 : decode cX9_handsInUse 23 = .ok (.iload_n 3, 1) := by decide +kernel
theorem dX9_handsInUse_24 : decode cX9_handsInUse 24 = .ok (.iaload, 1) := by decide +kernel
theorem dX9_handsInUse_25 : decode cX9_handsInUse 25 = .ok (.iload_n 1, 1) := by decide +kernel
theorem dX9_handsInUse_26 : decode cX9_handsInUse 26 = .ok (.if_icmp .ne 19, 3) := by decide +kernel
theorem dX9_handsInUse_29 : decode cX9_handsInUse 29 = .ok (.aload_n 0, 1) := by decide +kernel
theorem dX9_handsInUse_30 : decode cX9_handsInUse 30 = .ok (.getfield 38, 3) := by decide +kernel
theorem dX9_handsInUse_33 : decode cX9_handsInUse 33 = .ok (.getfield 114, 3) := by decide +kernel
theorem dX9_handsInUse_36 : decode cX9_handsInUse 36 = .ok (.iload_n 3, 1) := by decide +kernel
theorem dX9_handsInUse_37 : decode cX9_handsInUse 37 = .ok (.iaload, 1) := by decide +kernel
theorem dX9_handsInUse_38 : decode cX9_handsInUse 38 = .ok (.ifCond .eq 7, 3) := by decide +kernel
theorem dX9_handsInUse_41 : decode cX9_handsInUse 41 = .ok (.iconst 1, 1) := by decide +kernel
theorem dX9_handsInUse_42 : decode cX9_handsInUse 42 = .ok (.goto 4, 3) := by decide +kernel
theorem dX9_handsInUse_45 : decode cX9_handsInUse 45 = .ok (.iconst 0, 1) := by decide +kernel
theorem dX9_handsInUse_46 : decode cX9_handsInUse 46 = .ok (.iadd, 1) := by decide +kernel
theorem dX9_handsInUse_47 : decode cX9_handsInUse 47 = .ok (.istore_n 2, 1) := by decide +kernel
theorem dX9_handsInUse_48 : decode cX9_handsInUse 48 = .ok (.iinc 3 1, 3) := by decide +kernel
theorem dX9_handsInUse_51 : decode cX9_handsInUse 51 = .ok (.goto (-47), 3) := by decide +kernel
theorem dX9_handsInUse_54 : decode cX9_handsInUse 54 = .ok (.iload_n 2, 1) := by decide +kernel
theorem dX9_handsInUse_55 : decode cX9_handsInUse 55 = .ok (.ireturn, 1) := by decide +kernel
theorem dX9_takeOut_0 : decode cX9_takeOut 0 = .ok (.aload_n 0, 1) := by decide +kernel
theorem dX9_takeOut_1 : decode cX9_takeOut 1 = .ok (.iload_n 1, 1) := by decide +kernel
theorem dX9_takeOut_2 : decode cX9_takeOut 2 = .ok (.invokevirtual 117, 3) := by decide +kernel
theorem dX9_takeOut_5 : decode cX9_takeOut 5 = .ok (.istore_n 2, 1) := by decide +kernel
theorem dX9_takeOut_6 : decode cX9_takeOut 6 = .ok (.aload_n 0, 1) := by decide +kernel
theorem dX9_takeOut_7 : decode cX9_takeOut 7 = .ok (.getfield 38, 3) := by decide +kernel
theorem dX9_takeOut_10 : decode cX9_takeOut 10 = .ok (.dup, 1) := by decide +kernel
theorem dX9_takeOut_11 : decode cX9_takeOut 11 = .ok (.getfield 96, 3) := by decide +kernel
theorem dX9_takeOut_14 : decode cX9_takeOut 14 = .ok (.iconst 1, 1) := by decide +kernel
theorem dX9_takeOut_15 : decode cX9_takeOut 15 = .ok (.isub, 1) := by decide +kernel
theorem dX9_takeOut_16 : decode cX9_takeOut 16 = .ok (.putfield 96, 3) := by decide +kernel
theorem dX9_takeOut_19 : decode cX9_takeOut 19 = .ok (.iload_n 2, 1) := by decide +kernel
theorem dX9_takeOut_20 : decode cX9_takeOut 20 = .ok (.istore_n 3, 1) := by decide +kernel
theorem dX9_takeOut_21 : decode cX9_takeOut 21 = .ok (.iload_n 3, 1) := by decide +kernel
theorem dX9_takeOut_22 : decode cX9_takeOut 22 = .ok (.aload_n 0, 1) := by decide +kernel
theorem dX9_takeOut_23 : decode cX9_takeOut 23 = .ok (.getfield 38, 3) := by decide +kernel
theorem dX9_takeOut_26 : decode cX9_takeOut 26 = .ok (.getfield 96, 3) := by decide +kernel
theorem dX9_takeOut_29 : decode cX9_takeOut 29 = .ok (.if_icmp .ge 169, 3) := by decide +kernel
theorem dX9_takeOut_32 : decode cX9_takeOut 32 = .ok (.aload_n 0, 1) := by decide +kernel
theorem dX9_takeOut_33 : decode cX9_takeOut 33 = .ok (.getfield 38, 3) := by decide +kernel
theorem dX9_takeOut_36 : decode cX9_takeOut 36 = .ok (.getfield 99, 3) := by decide +kernel
theorem dX9_takeOut_39 : decode cX9_takeOut 39 = .ok (.iload_n 3, 1) := by decide +kernel
theorem dX9_takeOut_40 : decode cX9_takeOut 40 = .ok (.aload_n 0, 1) := by decide +kernel
theorem dX9_takeOut_41 : decode cX9_takeOut 41 = .ok (.getfield 38, 3) := by decide +kernel
theorem dX9_takeOut_44 : decode cX9_takeOut 44 = .ok (.getfield 99, 3) := by decide +kernel
theorem dX9_takeOut_47 : decode cX9_takeOut 47 = .ok (.iload_n 3, 1) := by decide +kernel
theorem dX9_takeOut_48 : decode cX9_takeOut 48 = .ok (.iconst 1, 1) := by decide +kernel
theorem dX9_takeOut_49 : decode cX9_takeOut 49 = .ok (.iadd, 1) := by decide +kernel
theorem dX9_takeOut_50 : decode cX9_takeOut 50 = .ok (.iaload, 1) := by decide +kernel
theorem dX9_takeOut_51 : decode cX9_takeOut 51 = .ok (.iastore, 1) := by decide +kernel
theorem dX9_takeOut_52 : decode cX9_takeOut 52 = .ok (.aload_n 0, 1) := by decide +kernel
theorem dX9_takeOut_53 : decode cX9_takeOut 53 = .ok (.getfield 38, 3) := by decide +kernel
theorem dX9_takeOut_56 : decode cX9_takeOut 56 = .ok (.getfield 111, 3) := by decide +kernel
theorem dX9_takeOut_59 : decode cX9_takeOut 59 = .ok (.iload_n 3, 1) := by decide +kernel
theorem dX9_takeOut_60 : decode cX9_takeOut 60 = .ok (.aload_n 0, 1) := by decide +kernel
theorem dX9_takeOut_61 : decode cX9_takeOut 61 = .ok (.getfield 38, 3) := by decide +kernel
theorem dX9_takeOut_64 : decode cX9_takeOut 64 = .ok (.getfield 111, 3) := by decide +kernel
theorem dX9_takeOut_67 : decode cX9_takeOut 67 = .ok (.iload_n 3, 1) := by decide +kernel
theorem dX9_takeOut_68 : decode cX9_takeOut 68 = .ok (.iconst 1, 1) := by decide +kernel
theorem dX9_takeOut_69 : decode cX9_takeOut 69 = .ok (.iadd, 1) := by decide +kernel
theorem dX9_takeOut_70 : decode cX9_takeOut 70 = .ok (.iaload, 1) := by decide +kernel
theorem dX9_takeOut_71 : decode cX9_takeOut 71 = .ok (.iastore, 1) := by decide +kernel
theorem dX9_takeOut_72 : decode cX9_takeOut 72 = .ok (.aload_n 0, 1) := by decide +kernel
theorem dX9_takeOut_73 : decode cX9_takeOut 73 = .ok (.getfield 38, 3) := by decide +kernel
theorem dX9_takeOut_76 : decode cX9_takeOut 76 = .ok (.getfield 121, 3) := by decide +kernel
theorem dX9_takeOut_79 : decode cX9_takeOut 79 = .ok (.iload_n 3, 1) := by decide +kernel
theorem dX9_takeOut_80 : decode cX9_takeOut 80 = .ok (.aload_n 0, 1) := by decide +kernel
theorem dX9_takeOut_81 : decode cX9_takeOut 81 = .ok (.getfield 38, 3) := by decide +kernel
theorem dX9_takeOut_84 : decode cX9_takeOut 84 = .ok (.getfield 121, 3) := by decide +kernel
theorem dX9_takeOut_87 : decode cX9_takeOut 87 = .ok (.iload_n 3, 1) := by decide +kernel
theorem dX9_takeOut_88 : decode cX9_takeOut 88 = .ok (.iconst 1, 1) := by decide +kernel
theorem dX9_takeOut_89 : decode cX9_takeOut 89 = .ok (.iadd, 1) := by decide +kernel
theorem dX9_takeOut_90 : decode cX9_takeOut 90 = .ok (.iaload, 1) := by decide +kernel
theorem dX9_takeOut_91 : decode cX9_takeOut 91 = .ok (.iastore, 1) := by decide +kernel
theorem dX9_takeOut_92 : decode cX9_takeOut 92 = .ok (.aload_n 0, 1) := by decide +kernel
theorem dX9_takeOut_93 : decode cX9_takeOut 93 = .ok (.getfield 38, 3) := by decide +kernel
theorem dX9_takeOut_96 : decode cX9_takeOut 96 = .ok (.getfield 114, 3) := by decide +kernel
theorem dX9_takeOut_99 : decode cX9_takeOut 99 = .ok (.iload_n 3, 1) := by decide +kernel
theorem dX9_takeOut_100 : decode cX9_takeOut 100 = .ok (.aload_n 0, 1) := by decide +kernel
theorem dX9_takeOut_101 : decode cX9_takeOut 101 = .ok (.getfield 38, 3) := by decide +kernel
theorem dX9_takeOut_104 : decode cX9_takeOut 104 = .ok (.getfield 114, 3) := by decide +kernel
theorem dX9_takeOut_107 : decode cX9_takeOut 107 = .ok (.iload_n 3, 1) := by decide +kernel
theorem dX9_takeOut_108 : decode cX9_takeOut 108 = .ok (.iconst 1, 1) := by decide +kernel
theorem dX9_takeOut_109 : decode cX9_takeOut 109 = .ok (.iadd, 1) := by decide +kernel
theorem dX9_takeOut_110 : decode cX9_takeOut 110 = .ok (.iaload, 1) := by decide +kernel
theorem dX9_takeOut_111 : decode cX9_takeOut 111 = .ok (.iastore, 1) := by decide +kernel
theorem dX9_takeOut_112 : decode cX9_takeOut 112 = .ok (.aload_n 0, 1) := by decide +kernel
theorem dX9_takeOut_113 : decode cX9_takeOut 113 = .ok (.getfield 38, 3) := by decide +kernel
theorem dX9_takeOut_116 : decode cX9_takeOut 116 = .ok (.getfield 124, 3) := by decide +kernel
theorem dX9_takeOut_119 : decode cX9_takeOut 119 = .ok (.iload_n 3, 1) := by decide +kernel
theorem dX9_takeOut_120 : decode cX9_takeOut 120 = .ok (.aload_n 0, 1) := by decide +kernel
theorem dX9_takeOut_121 : decode cX9_takeOut 121 = .ok (.getfield 38, 3) := by decide +kernel
theorem dX9_takeOut_124 : decode cX9_takeOut 124 = .ok (.getfield 124, 3) := by decide +kernel
theorem dX9_takeOut_127 : decode cX9_takeOut 127 = .ok (.iload_n 3, 1) := by decide +kernel
theorem dX9_takeOut_128 : decode cX9_takeOut 128 = .ok (.iconst 1, 1) := by decide +kernel
theorem dX9_takeOut_129 : decode cX9_takeOut 129 = .ok (.iadd, 1) := by decide +kernel
theorem dX9_takeOut_130 : decode cX9_takeOut 130 = .ok (.iaload, 1) := by decide +kernel
theorem dX9_takeOut_131 : decode cX9_takeOut 131 = .ok (.iastore, 1) := by decide +kernel
theorem dX9_takeOut_132 : decode cX9_takeOut 132 = .ok (.aload_n 0, 1) := by decide +kernel
theorem dX9_takeOut_133 : decode cX9_takeOut 133 = .ok (.getfield 38, 3) := by decide +kernel
theorem dX9_takeOut_136 : decode cX9_takeOut 136 = .ok (.getfield 127, 3) := by decide +kernel
theorem dX9_takeOut_139 : decode cX9_takeOut 139 = .ok (.iload_n 3, 1) := by decide +kernel
theorem dX9_takeOut_140 : decode cX9_takeOut 140 = .ok (.aload_n 0, 1) := by decide +kernel
theorem dX9_takeOut_141 : decode cX9_takeOut 141 = .ok (.getfield 38, 3) := by decide +kernel
theorem dX9_takeOut_144 : decode cX9_takeOut 144 = .ok (.getfield 127, 3) := by decide +kernel
theorem dX9_takeOut_147 : decode cX9_takeOut 147 = .ok (.iload_n 3, 1) := by decide +kernel
theorem dX9_takeOut_148 : decode cX9_takeOut 148 = .ok (.iconst 1, 1) := by decide +kernel
theorem dX9_takeOut_149 : decode cX9_takeOut 149 = .ok (.iadd, 1) := by decide +kernel
theorem dX9_takeOut_150 : decode cX9_takeOut 150 = .ok (.iaload, 1) := by decide +kernel
theorem dX9_takeOut_151 : decode cX9_takeOut 151 = .ok (.iastore, 1) := by decide +kernel
theorem dX9_takeOut_152 : decode cX9_takeOut 152 = .ok (.aload_n 0, 1) := by decide +kernel
theorem dX9_takeOut_153 : decode cX9_takeOut 153 = .ok (.getfield 38, 3) := by decide +kernel
theorem dX9_takeOut_156 : decode cX9_takeOut 156 = .ok (.getfield 130, 3) := by decide +kernel
theorem dX9_takeOut_159 : decode cX9_takeOut 159 = .ok (.iload_n 3, 1) := by decide +kernel
theorem dX9_takeOut_160 : decode cX9_takeOut 160 = .ok (.aload_n 0, 1) := by decide +kernel
theorem dX9_takeOut_161 : decode cX9_takeOut 161 = .ok (.getfield 38, 3) := by decide +kernel
theorem dX9_takeOut_164 : decode cX9_takeOut 164 = .ok (.getfield 130, 3) := by decide +kernel
theorem dX9_takeOut_167 : decode cX9_takeOut 167 = .ok (.iload_n 3, 1) := by decide +kernel
theorem dX9_takeOut_168 : decode cX9_takeOut 168 = .ok (.iconst 1, 1) := by decide +kernel
theorem dX9_takeOut_169 : decode cX9_takeOut 169 = .ok (.iadd, 1) := by decide +kernel
theorem dX9_takeOut_170 : decode cX9_takeOut 170 = .ok (.iaload, 1) := by decide +kernel
theorem dX9_takeOut_171 : decode cX9_takeOut 171 = .ok (.iastore, 1) := by decide +kernel
theorem dX9_takeOut_172 : decode cX9_takeOut 172 = .ok (.aload_n 0, 1) := by decide +kernel
theorem dX9_takeOut_173 : decode cX9_takeOut 173 = .ok (.getfield 38, 3) := by decide +kernel
theorem dX9_takeOut_176 : decode cX9_takeOut 176 = .ok (.getfield 133, 3) := by decide +kernel
theorem dX9_takeOut_179 : decode cX9_takeOut 179 = .ok (.iload_n 3, 1) := by decide +kernel
theorem dX9_takeOut_180 : decode cX9_takeOut 180 = .ok (.aload_n 0, 1) := by decide +kernel
theorem dX9_takeOut_181 : decode cX9_takeOut 181 = .ok (.getfield 38, 3) := by decide +kernel
theorem dX9_takeOut_184 : decode cX9_takeOut 184 = .ok (.getfield 133, 3) := by decide +kernel
theorem dX9_takeOut_187 : decode cX9_takeOut 187 = .ok (.iload_n 3, 1) := by decide +kernel
theorem dX9_takeOut_188 : decode cX9_takeOut 188 = .ok (.iconst 1, 1) := by decide +kernel
theorem dX9_takeOut_189 : decode cX9_takeOut 189 = .ok (.iadd, 1) := by decide +kernel
theorem dX9_takeOut_190 : decode cX9_takeOut 190 = .ok (.iaload, 1) := by decide +kernel
theorem dX9_takeOut_191 : decode cX9_takeOut 191 = .ok (.iastore, 1) := by decide +kernel
theorem dX9_takeOut_192 : decode cX9_takeOut 192 = .ok (.iinc 3 1, 3) := by decide +kernel
theorem dX9_takeOut_195 : decode cX9_takeOut 195 = .ok (.goto (-174), 3) := by decide +kernel
theorem dX9_takeOut_198 : decode cX9_takeOut 198 = .ok (.return_, 1) := by decide +kernel
theorem dX9_begin_0 : decode cX9_begin 0 = .ok (.aload_n 0, 1) := by decide +kernel
theorem dX9_begin_1 : decode cX9_begin 1 = .ok (.iload_n 1, 1) := by decide +kernel
theorem dX9_begin_2 : decode cX9_begin 2 = .ok (.invokevirtual 117, 3) := by decide +kernel
theorem dX9_begin_5 : decode cX9_begin 5 = .ok (.istore_n 2, 1) := by decide +kernel
theorem dX9_begin_6 : decode cX9_begin 6 = .ok (.aload_n 0, 1) := by decide +kernel
theorem dX9_begin_7 : decode cX9_begin 7 = .ok (.getfield 38, 3) := by decide +kernel
theorem dX9_begin_10 : decode cX9_begin 10 = .ok (.getfield 111, 3) := by decide +kernel
theorem dX9_begin_13 : decode cX9_begin 13 = .ok (.iload_n 2, 1) := by decide +kernel
theorem dX9_begin_14 : decode cX9_begin 14 = .ok (.iaload, 1) := by decide +kernel
theorem dX9_begin_15 : decode cX9_begin 15 = .ok (.istore_n 3, 1) := by decide +kernel
theorem dX9_begin_16 : decode cX9_begin 16 = .ok (.aload_n 0, 1) := by decide +kernel
theorem dX9_begin_17 : decode cX9_begin 17 = .ok (.getfield 38, 3) := by decide +kernel
theorem dX9_begin_20 : decode cX9_begin 20 = .ok (.getfield 114, 3) := by decide +kernel
theorem dX9_begin_23 : decode cX9_begin 23 = .ok (.iload_n 2, 1) := by decide +kernel
theorem dX9_begin_24 : decode cX9_begin 24 = .ok (.iconst 1, 1) := by decide +kernel
theorem dX9_begin_25 : decode cX9_begin 25 = .ok (.iastore, 1) := by decide +kernel
theorem dX9_begin_26 : decode cX9_begin 26 = .ok (.aload_n 0, 1) := by decide +kernel
theorem dX9_begin_27 : decode cX9_begin 27 = .ok (.getfield 38, 3) := by decide +kernel
theorem dX9_begin_30 : decode cX9_begin 30 = .ok (.getfield 127, 3) := by decide +kernel
theorem dX9_begin_33 : decode cX9_begin 33 = .ok (.iload_n 2, 1) := by decide +kernel
theorem dX9_begin_34 : decode cX9_begin 34 = .ok (.aload_n 0, 1) := by decide +kernel
theorem dX9_begin_35 : decode cX9_begin 35 = .ok (.getfield 38, 3) := by decide +kernel
theorem dX9_begin_38 : decode cX9_begin 38 = .ok (.getfield 68, 3) := by decide +kernel
theorem dX9_begin_41 : decode cX9_begin 41 = .ok (.aload_n 0, 1) := by decide +kernel
theorem dX9_begin_42 : decode cX9_begin 42 = .ok (.iload_n 3, 1) := by decide +kernel
theorem dX9_begin_43 : decode cX9_begin 43 = .ok (.bipush 8, 2) := by decide +kernel
theorem dX9_begin_45 : decode cX9_begin 45 = .ok (.invokevirtual 79, 3) := by decide +kernel
theorem dX9_begin_48 : decode cX9_begin 48 = .ok (.iadd, 1) := by decide +kernel
theorem dX9_begin_49 : decode cX9_begin 49 = .ok (.iastore, 1) := by decide +kernel
theorem dX9_begin_50 : decode cX9_begin 50 = .ok (.aload_n 0, 1) := by decide +kernel
theorem dX9_begin_51 : decode cX9_begin 51 = .ok (.iload_n 3, 1) := by decide +kernel
theorem dX9_begin_52 : decode cX9_begin 52 = .ok (.bipush 7, 2) := by decide +kernel
theorem dX9_begin_54 : decode cX9_begin 54 = .ok (.invokevirtual 136, 3) := by decide +kernel
theorem dX9_begin_57 : decode cX9_begin 57 = .ok (.return_, 1) := by decide +kernel
theorem dX9_leaveRow_0 : decode cX9_leaveRow 0 = .ok (.aload_n 0, 1) := by decide +kernel
theorem dX9_leaveRow_1 : decode cX9_leaveRow 1 = .ok (.getfield 38, 3) := by decide +kernel
theorem dX9_leaveRow_4 : decode cX9_leaveRow 4 = .ok (.getfield 140, 3) := by decide +kernel
theorem dX9_leaveRow_7 : decode cX9_leaveRow 7 = .ok (.iload_n 1, 1) := by decide +kernel
theorem dX9_leaveRow_8 : decode cX9_leaveRow 8 = .ok (.dup2, 1) := by decide +kernel
theorem dX9_leaveRow_9 : decode cX9_leaveRow 9 = .ok (.iaload, 1) := by decide +kernel
theorem dX9_leaveRow_10 : decode cX9_leaveRow 10 = .ok (.iconst 1, 1) := by decide +kernel
theorem dX9_leaveRow_11 : decode cX9_leaveRow 11 = .ok (.isub, 1) := by decide +kernel
theorem dX9_leaveRow_12 : decode cX9_leaveRow 12 = .ok (.iastore, 1) := by decide +kernel
theorem dX9_leaveRow_13 : decode cX9_leaveRow 13 = .ok (.iconst 0, 1) := by decide +kernel
theorem dX9_leaveRow_14 : decode cX9_leaveRow 14 = .ok (.istore_n 2, 1) := by decide +kernel
theorem dX9_leaveRow_15 : decode cX9_leaveRow 15 = .ok (.iload_n 2, 1) := by decide +kernel
theorem dX9_leaveRow_16 : decode cX9_leaveRow 16 = .ok (.aload_n 0, 1) := by decide +kernel
theorem dX9_leaveRow_17 : decode cX9_leaveRow 17 = .ok (.getfield 38, 3) := by decide +kernel
theorem dX9_leaveRow_20 : decode cX9_leaveRow 20 = .ok (.getfield 140, 3) := by decide +kernel
theorem dX9_leaveRow_23 : decode cX9_leaveRow 23 = .ok (.iload_n 1, 1) := by decide +kernel
theorem dX9_leaveRow_24 : decode cX9_leaveRow 24 = .ok (.iaload, 1) := by decide +kernel
theorem dX9_leaveRow_25 : decode cX9_leaveRow 25 = .ok (.if_icmp .ge 39, 3) := by decide +kernel
theorem dX9_leaveRow_28 : decode cX9_leaveRow 28 = .ok (.aload_n 0, 1) := by decide +kernel
theorem dX9_leaveRow_29 : decode cX9_leaveRow 29 = .ok (.getfield 38, 3) := by decide +kernel
theorem dX9_leaveRow_32 : decode cX9_leaveRow 32 = .ok (.getfield 143, 3) := by decide +kernel
theorem dX9_leaveRow_35 : decode cX9_leaveRow 35 = .ok (.bipush 20, 2) := by decide +kernel
theorem dX9_leaveRow_37 : decode cX9_leaveRow 37 = .ok (.iload_n 1, 1) := by decide +kernel
theorem dX9_leaveRow_38 : decode cX9_leaveRow 38 = .ok (.imul, 1) := by decide +kernel
theorem dX9_leaveRow_39 : decode cX9_leaveRow 39 = .ok (.iload_n 2, 1) := by decide +kernel
theorem dX9_leaveRow_40 : decode cX9_leaveRow 40 = .ok (.iadd, 1) := by decide +kernel
theorem dX9_leaveRow_41 : decode cX9_leaveRow 41 = .ok (.aload_n 0, 1) := by decide +kernel
theorem dX9_leaveRow_42 : decode cX9_leaveRow 42 = .ok (.getfield 38, 3) := by decide +kernel
theorem dX9_leaveRow_45 : decode cX9_leaveRow 45 = .ok (.getfield 143, 3) := by decide +kernel
theorem dX9_leaveRow_48 : decode cX9_leaveRow 48 = .ok (.bipush 20, 2) := by decide +kernel
theorem dX9_leaveRow_50 : decode cX9_leaveRow 50 = .ok (.iload_n 1, 1) := by decide +kernel
theorem dX9_leaveRow_51 : decode cX9_leaveRow 51 = .ok (.imul, 1) := by decide +kernel
theorem dX9_leaveRow_52 : decode cX9_leaveRow 52 = .ok (.iload_n 2, 1) := by decide +kernel
theorem dX9_leaveRow_53 : decode cX9_leaveRow 53 = .ok (.iadd, 1) := by decide +kernel
theorem dX9_leaveRow_54 : decode cX9_leaveRow 54 = .ok (.iconst 1, 1) := by decide +kernel
theorem dX9_leaveRow_55 : decode cX9_leaveRow 55 = .ok (.iadd, 1) := by decide +kernel
theorem dX9_leaveRow_56 : decode cX9_leaveRow 56 = .ok (.iaload, 1) := by decide +kernel
theorem dX9_leaveRow_57 : decode cX9_leaveRow 57 = .ok (.iastore, 1) := by decide +kernel
theorem dX9_leaveRow_58 : decode cX9_leaveRow 58 = .ok (.iinc 2 1, 3) := by decide +kernel
theorem dX9_leaveRow_61 : decode cX9_leaveRow 61 = .ok (.goto (-46), 3) := by decide +kernel
theorem dX9_leaveRow_64 : decode cX9_leaveRow 64 = .ok (.return_, 1) := by decide +kernel
theorem dX9_comes_0 : decode cX9_comes 0 = .ok (.aload_n 0, 1) := by decide +kernel
theorem dX9_comes_1 : decode cX9_comes 1 = .ok (.getfield 38, 3) := by decide +kernel
theorem dX9_comes_4 : decode cX9_comes 4 = .ok (.getfield 55, 3) := by decide +kernel
theorem dX9_comes_7 : decode cX9_comes 7 = .ok (.bipush 8, 2) := by decide +kernel
theorem dX9_comes_9 : decode cX9_comes 9 = .ok (.iload_n 1, 1) := by decide +kernel
theorem dX9_comes_10 : decode cX9_comes 10 = .ok (.imul, 1) := by decide +kernel
theorem dX9_comes_11 : decode cX9_comes 11 = .ok (.iload_n 2, 1) := by decide +kernel
theorem dX9_comes_12 : decode cX9_comes 12 = .ok (.iadd, 1) := by decide +kernel
theorem dX9_comes_13 : decode cX9_comes 13 = .ok (.iaload, 1) := by decide +kernel
theorem dX9_comes_14 : decode cX9_comes 14 = .ok (.aload_n 0, 1) := by decide +kernel
theorem dX9_comes_15 : decode cX9_comes 15 = .ok (.getfield 38, 3) := by decide +kernel
theorem dX9_comes_18 : decode cX9_comes 18 = .ok (.getfield 68, 3) := by decide +kernel
theorem dX9_comes_21 : decode cX9_comes 21 = .ok (.if_icmp .lt 12, 3) := by decide +kernel
theorem dX9_comes_24 : decode cX9_comes 24 = .ok (.aload_n 0, 1) := by decide +kernel
theorem dX9_comes_25 : decode cX9_comes 25 = .ok (.iload_n 1, 1) := by decide +kernel
theorem dX9_comes_26 : decode cX9_comes 26 = .ok (.bipush 6, 2) := by decide +kernel
theorem dX9_comes_28 : decode cX9_comes 28 = .ok (.invokevirtual 136, 3) := by decide +kernel
theorem dX9_comes_31 : decode cX9_comes 31 = .ok (.iconst (-1), 1) := by decide +kernel
theorem dX9_comes_32 : decode cX9_comes 32 = .ok (.ireturn, 1) := by decide +kernel
theorem dX9_comes_33 : decode cX9_comes 33 = .ok (.aload_n 0, 1) := by decide +kernel
theorem dX9_comes_34 : decode cX9_comes 34 = .ok (.iload_n 1, 1) := by decide +kernel
theorem dX9_comes_35 : decode cX9_comes 35 = .ok (.invokevirtual 146, 3) := by decide +kernel
theorem dX9_comes_38 : decode cX9_comes 38 = .ok (.aload_n 0, 1) := by decide +kernel
theorem dX9_comes_39 : decode cX9_comes 39 = .ok (.iload_n 1, 1) := by decide +kernel
theorem dX9_comes_40 : decode cX9_comes 40 = .ok (.bipush 7, 2) := by decide +kernel
theorem dX9_comes_42 : decode cX9_comes 42 = .ok (.invokevirtual 79, 3) := by decide +kernel
theorem dX9_comes_45 : decode cX9_comes 45 = .ok (.if_icmp .ge 19, 3) := by decide +kernel
theorem dX9_comes_48 : decode cX9_comes 48 = .ok (.aload_n 0, 1) := by decide +kernel
theorem dX9_comes_49 : decode cX9_comes 49 = .ok (.getfield 38, 3) := by decide +kernel
theorem dX9_comes_52 : decode cX9_comes 52 = .ok (.getfield 140, 3) := by decide +kernel
theorem dX9_comes_55 : decode cX9_comes 55 = .ok (.iload_n 1, 1) := by decide +kernel
theorem dX9_comes_56 : decode cX9_comes 56 = .ok (.iaload, 1) := by decide +kernel
theorem dX9_comes_57 : decode cX9_comes 57 = .ok (.ifCond .ne 7, 3) := by decide +kernel
theorem dX9_comes_60 : decode cX9_comes 60 = .ok (.iconst 1, 1) := by decide +kernel
theorem dX9_comes_61 : decode cX9_comes 61 = .ok (.goto 4, 3) := by decide +kernel
theorem dX9_comes_64 : decode cX9_comes 64 = .ok (.iconst 0, 1) := by decide +kernel
theorem dX9_comes_65 : decode cX9_comes 65 = .ok (.istore 5, 2) := by decide +kernel
theorem dX9_comes_67 : decode cX9_comes 67 = .ok (.aload_n 0, 1) := by decide +kernel
theorem dX9_comes_68 : decode cX9_comes 68 = .ok (.iload_n 1, 1) := by decide +kernel
theorem dX9_comes_69 : decode cX9_comes 69 = .ok (.bipush 6, 2) := by decide +kernel
theorem dX9_comes_71 : decode cX9_comes 71 = .ok (.invokevirtual 79, 3) := by decide +kernel
theorem dX9_comes_74 : decode cX9_comes 74 = .ok (.iconst 1, 1) := by decide +kernel
theorem dX9_comes_75 : decode cX9_comes 75 = .ok (.if_icmp .ne 16, 3) := by decide +kernel
theorem dX9_comes_78 : decode cX9_comes 78 = .ok (.aload_n 0, 1) := by decide +kernel
theorem dX9_comes_79 : decode cX9_comes 79 = .ok (.getfield 13, 3) := by decide +kernel
theorem dX9_comes_82 : decode cX9_comes 82 = .ok (.iload_n 1, 1) := by decide +kernel
theorem dX9_comes_83 : decode cX9_comes 83 = .ok (.iaload, 1) := by decide +kernel
theorem dX9_comes_84 : decode cX9_comes 84 = .ok (.ifCond .le 7, 3) := by decide +kernel
theorem dX9_comes_87 : decode cX9_comes 87 = .ok (.iconst 1, 1) := by decide +kernel
theorem dX9_comes_88 : decode cX9_comes 88 = .ok (.goto 4, 3) := by decide +kernel
theorem dX9_comes_91 : decode cX9_comes 91 = .ok (.iconst 0, 1) := by decide +kernel
theorem dX9_comes_92 : decode cX9_comes 92 = .ok (.istore 6, 2) := by decide +kernel
theorem dX9_comes_94 : decode cX9_comes 94 = .ok (.aload_n 0, 1) := by decide +kernel
theorem dX9_comes_95 : decode cX9_comes 95 = .ok (.getfield 38, 3) := by decide +kernel
theorem dX9_comes_98 : decode cX9_comes 98 = .ok (.getfield 96, 3) := by decide +kernel
theorem dX9_comes_101 : decode cX9_comes 101 = .ok (.bipush 120, 2) := by decide +kernel
theorem dX9_comes_103 : decode cX9_comes 103 = .ok (.if_icmp .eq 31, 3) := by decide +kernel
theorem dX9_comes_106 : decode cX9_comes 106 = .ok (.iload 5, 2) := by decide +kernel
theorem dX9_comes_108 : decode cX9_comes 108 = .ok (.ifCond .ne 44, 3) := by decide +kernel
theorem dX9_comes_111 : decode cX9_comes 111 = .ok (.aload_n 0, 1) := by decide +kernel
theorem dX9_comes_112 : decode cX9_comes 112 = .ok (.getfield 38, 3) := by decide +kernel
theorem dX9_comes_115 : decode cX9_comes 115 = .ok (.getfield 140, 3) := by decide +kernel
theorem dX9_comes_118 : decode cX9_comes 118 = .ok (.iload_n 1, 1) := by decide +kernel
theorem dX9_comes_119 : decode cX9_comes 119 = .ok (.iaload, 1) := by decide +kernel
theorem dX9_comes_120 : decode cX9_comes 120 = .ok (.aload_n 0, 1) := by decide +kernel
theorem dX9_comes_121 : decode cX9_comes 121 = .ok (.getfield 13, 3) := by decide +kernel
theorem dX9_comes_124 : decode cX9_comes 124 = .ok (.iload_n 1, 1) := by decide +kernel
theorem dX9_comes_125 : decode cX9_comes 125 = .ok (.iaload, 1) := by decide +kernel
theorem dX9_comes_126 : decode cX9_comes 126 = .ok (.if_icmp .lt 26, 3) := by decide +kernel
theorem dX9_comes_129 : decode cX9_comes 129 = .ok (.iload 6, 2) := by decide +kernel
theorem dX9_comes_131 : decode cX9_comes 131 = .ok (.ifCond .ne 21, 3) := by decide +kernel
theorem dX9_comes_134 : decode cX9_comes 134 = .ok (.aload_n 0, 1) := by decide +kernel
theorem dX9_comes_135 : decode cX9_comes 135 = .ok (.iload_n 1, 1) := by decide +kernel
theorem dX9_comes_136 : decode cX9_comes 136 = .ok (.bipush 10, 2) := by decide +kernel
theorem dX9_comes_138 : decode cX9_comes 138 = .ok (.invokevirtual 136, 3) := by decide +kernel
theorem dX9_comes_141 : decode cX9_comes 141 = .ok (.aload_n 0, 1) := by decide +kernel
theorem dX9_comes_142 : decode cX9_comes 142 = .ok (.getfield 38, 3) := by decide +kernel
theorem dX9_comes_145 : decode cX9_comes 145 = .ok (.iconst 0, 1) := by decide +kernel
theorem dX9_comes_146 : decode cX9_comes 146 = .ok (.putfield 51, 3) := by decide +kernel
theorem dX9_comes_149 : decode cX9_comes 149 = .ok (.bipush (-2), 2) := by decide +kernel
theorem dX9_comes_151 : decode cX9_comes 151 = .ok (.ireturn, 1) := by decide +kernel
theorem dX9_comes_152 : decode cX9_comes 152 = .ok (.aload_n 0, 1) := by decide +kernel
theorem dX9_comes_153 : decode cX9_comes 153 = .ok (.getfield 38, 3) := by decide +kernel
theorem dX9_comes_156 : decode cX9_comes 156 = .ok (.getfield 149, 3) := by decide +kernel
theorem dX9_comes_159 : decode cX9_comes 159 = .ok (.istore 7, 2) := by decide +kernel
theorem dX9_comes_161 : decode cX9_comes 161 = .ok (.aload_n 0, 1) := by decide +kernel
theorem dX9_comes_162 : decode cX9_comes 162 = .ok (.getfield 38, 3) := by decide +kernel
theorem dX9_comes_165 : decode cX9_comes 165 = .ok (.getfield 96, 3) := by decide +kernel
theorem dX9_comes_168 : decode cX9_comes 168 = .ok (.istore 8, 2) := by decide +kernel
theorem dX9_comes_170 : decode cX9_comes 170 = .ok (.aload_n 0, 1) := by decide +kernel
theorem dX9_comes_171 : decode cX9_comes 171 = .ok (.getfield 38, 3) := by decide +kernel
theorem dX9_comes_174 : decode cX9_comes 174 = .ok (.getfield 99, 3) := by decide +kernel
theorem dX9_comes_177 : decode cX9_comes 177 = .ok (.iload 8, 2) := by decide +kernel
theorem dX9_comes_179 : decode cX9_comes 179 = .ok (.iload 7, 2) := by decide +kernel
theorem dX9_comes_181 : decode cX9_comes 181 = .ok (.iastore, 1) := by decide +kernel
theorem dX9_comes_182 : decode cX9_comes 182 = .ok (.aload_n 0, 1) := by decide +kernel
theorem dX9_comes_183 : decode cX9_comes 183 = .ok (.getfield 38, 3) := by decide +kernel
theorem dX9_comes_186 : decode cX9_comes 186 = .ok (.getfield 111, 3) := by decide +kernel
theorem dX9_comes_189 : decode cX9_comes 189 = .ok (.iload 8, 2) := by decide +kernel
theorem dX9_comes_191 : decode cX9_comes 191 = .ok (.iload_n 1, 1) := by decide +kernel
theorem dX9_comes_192 : decode cX9_comes 192 = .ok (.iastore, 1) := by decide +kernel
theorem dX9_comes_193 : decode cX9_comes 193 = .ok (.aload_n 0, 1) := by decide +kernel
theorem dX9_comes_194 : decode cX9_comes 194 = .ok (.getfield 38, 3) := by decide +kernel
theorem dX9_comes_197 : decode cX9_comes 197 = .ok (.getfield 121, 3) := by decide +kernel
theorem dX9_comes_200 : decode cX9_comes 200 = .ok (.iload 8, 2) := by decide +kernel
theorem dX9_comes_202 : decode cX9_comes 202 = .ok (.iload_n 2, 1) := by decide +kernel
theorem dX9_comes_203 : decode cX9_comes 203 = .ok (.iastore, 1) := by decide +kernel
theorem dX9_comes_204 : decode cX9_comes 204 = .ok (.aload_n 0, 1) := by decide +kernel
theorem dX9_comes_205 : decode cX9_comes 205 = .ok (.getfield 38, 3) := by decide +kernel
theorem dX9_comes_208 : decode cX9_comes 208 = .ok (.getfield 114, 3) := by decide +kernel
theorem dX9_comes_211 : decode cX9_comes 211 = .ok (.iload 8, 2) := by decide +kernel
theorem dX9_comes_213 : decode cX9_comes 213 = .ok (.iconst 0, 1) := by decide +kernel
theorem dX9_comes_214 : decode cX9_comes 214 = .ok (.iastore, 1) := by decide +kernel
theorem dX9_comes_215 : decode cX9_comes 215 = .ok (.aload_n 0, 1) := by decide +kernel
theorem dX9_comes_216 : decode cX9_comes 216 = .ok (.getfield 38, 3) := by decide +kernel
theorem dX9_comes_219 : decode cX9_comes 219 = .ok (.getfield 124, 3) := by decide +kernel
theorem dX9_comes_222 : decode cX9_comes 222 = .ok (.iload 8, 2) := by decide +kernel
theorem dX9_comes_224 : decode cX9_comes 224 = .ok (.iload_n 3, 1) := by decide +kernel
theorem dX9_comes_225 : decode cX9_comes 225 = .ok (.iastore, 1) := by decide +kernel
theorem dX9_comes_226 : decode cX9_comes 226 = .ok (.aload_n 0, 1) := by decide +kernel
theorem dX9_comes_227 : decode cX9_comes 227 = .ok (.getfield 38, 3) := by decide +kernel
theorem dX9_comes_230 : decode cX9_comes 230 = .ok (.getfield 127, 3) := by decide +kernel
theorem dX9_comes_233 : decode cX9_comes 233 = .ok (.iload 8, 2) := by decide +kernel
theorem dX9_comes_235 : decode cX9_comes 235 = .ok (.bipush (-4), 2) := by decide +kernel
theorem dX9_comes_237 : decode cX9_comes 237 = .ok (.iastore, 1) := by decide +kernel
theorem dX9_comes_238 : decode cX9_comes 238 = .ok (.aload_n 0, 1) := by decide +kernel
theorem dX9_comes_239 : decode cX9_comes 239 = .ok (.getfield 38, 3) := by decide +kernel
theorem dX9_comes_242 : decode cX9_comes 242 = .ok (.getfield 130, 3) := by decide +kernel
theorem dX9_comes_245 : decode cX9_comes 245 = .ok (.iload 8, 2) := by decide +kernel
theorem dX9_comes_247 : decode cX9_comes 247 = .ok (.iconst 0, 1) := by decide +kernel
theorem dX9_comes_248 : decode cX9_comes 248 = .ok (.iastore, 1) := by decide +kernel
theorem dX9_comes_249 : decode cX9_comes 249 = .ok (.aload_n 0, 1) := by decide +kernel
theorem dX9_comes_250 : decode cX9_comes 250 = .ok (.getfield 38, 3) := by decide +kernel
theorem dX9_comes_253 : decode cX9_comes 253 = .ok (.getfield 133, 3) := by decide +kernel
theorem dX9_comes_256 : decode cX9_comes 256 = .ok (.iload 8, 2) := by decide +kernel
theorem dX9_comes_258 : decode cX9_comes 258 = .ok (.iconst (-1), 1) := by decide +kernel
theorem dX9_comes_259 : decode cX9_comes 259 = .ok (.iastore, 1) := by decide +kernel
theorem dX9_comes_260 : decode cX9_comes 260 = .ok (.aload_n 0, 1) := by decide +kernel
theorem dX9_comes_261 : decode cX9_comes 261 = .ok (.getfield 38, 3) := by decide +kernel
theorem dX9_comes_264 : decode cX9_comes 264 = .ok (.dup, 1) := by decide +kernel
theorem dX9_comes_265 : decode cX9_comes 265 = .ok (.getfield 96, 3) := by decide +kernel
theorem dX9_comes_268 : decode cX9_comes 268 = .ok (.iconst 1, 1) := by decide +kernel
theorem dX9_comes_269 : decode cX9_comes 269 = .ok (.iadd, 1) := by decide +kernel
theorem dX9_comes_270 : decode cX9_comes 270 = .ok (.putfield 96, 3) := by decide +kernel
theorem dX9_comes_273 : decode cX9_comes 273 = .ok (.aload_n 0, 1) := by decide +kernel
theorem dX9_comes_274 : decode cX9_comes 274 = .ok (.getfield 38, 3) := by decide +kernel
theorem dX9_comes_277 : decode cX9_comes 277 = .ok (.dup, 1) := by decide +kernel
theorem dX9_comes_278 : decode cX9_comes 278 = .ok (.getfield 149, 3) := by decide +kernel
theorem dX9_comes_281 : decode cX9_comes 281 = .ok (.iconst 1, 1) := by decide +kernel
theorem dX9_comes_282 : decode cX9_comes 282 = .ok (.iadd, 1) := by decide +kernel
theorem dX9_comes_283 : decode cX9_comes 283 = .ok (.putfield 149, 3) := by decide +kernel
theorem dX9_comes_286 : decode cX9_comes 286 = .ok (.iload_n 3, 1) := by decide +kernel
theorem dX9_comes_287 : decode cX9_comes 287 = .ok (.ifCond .lt 21, 3) := by decide +kernel
theorem dX9_comes_290 : decode cX9_comes 290 = .ok (.aload_n 0, 1) := by decide +kernel
theorem dX9_comes_291 : decode cX9_comes 291 = .ok (.getfield 38, 3) := by decide +kernel
theorem dX9_comes_294 : decode cX9_comes 294 = .ok (.getfield 133, 3) := by decide +kernel
theorem dX9_comes_297 : decode cX9_comes 297 = .ok (.aload_n 0, 1) := by decide +kernel
theorem dX9_comes_298 : decode cX9_comes 298 = .ok (.iload_n 3, 1) := by decide +kernel
theorem dX9_comes_299 : decode cX9_comes 299 = .ok (.invokevirtual 117, 3) := by decide +kernel
theorem dX9_comes_302 : decode cX9_comes 302 = .ok (.iload 7, 2) := by decide +kernel
theorem dX9_comes_304 : decode cX9_comes 304 = .ok (.iastore, 1) := by decide +kernel
theorem dX9_comes_305 : decode cX9_comes 305 = .ok (.goto 15, 3) := by decide +kernel
theorem dX9_comes_308 : decode cX9_comes 308 = .ok (.aload_n 0, 1) := by decide +kernel
theorem dX9_comes_309 : decode cX9_comes 309 = .ok (.getfield 38, 3) := by decide +kernel
theorem dX9_comes_312 : decode cX9_comes 312 = .ok (.getfield 105, 3) := by decide +kernel
theorem dX9_comes_315 : decode cX9_comes 315 = .ok (.iload 4, 2) := by decide +kernel
theorem dX9_comes_317 : decode cX9_comes 317 = .ok (.iload 7, 2) := by decide +kernel
theorem dX9_comes_319 : decode cX9_comes 319 = .ok (.iastore, 1) := by decide +kernel
theorem dX9_comes_320 : decode cX9_comes 320 = .ok (.iload 5, 2) := by decide +kernel
theorem dX9_comes_322 : decode cX9_comes 322 = .ok (.ifCond .eq 12, 3) := by decide +kernel
theorem dX9_comes_325 : decode cX9_comes 325 = .ok (.aload_n 0, 1) := by decide +kernel
theorem dX9_comes_326 : decode cX9_comes 326 = .ok (.iload 7, 2) := by decide +kernel
theorem dX9_comes_328 : decode cX9_comes 328 = .ok (.invokevirtual 152, 3) := by decide +kernel
theorem dX9_comes_331 : decode cX9_comes 331 = .ok (.iload 7, 2) := by decide +kernel
theorem dX9_comes_333 : decode cX9_comes 333 = .ok (.ireturn, 1) := by decide +kernel
theorem dX9_comes_334 : decode cX9_comes 334 = .ok (.aload_n 0, 1) := by decide +kernel
theorem dX9_comes_335 : decode cX9_comes 335 = .ok (.getfield 38, 3) := by decide +kernel
theorem dX9_comes_338 : decode cX9_comes 338 = .ok (.getfield 140, 3) := by decide +kernel
theorem dX9_comes_341 : decode cX9_comes 341 = .ok (.iload_n 1, 1) := by decide +kernel
theorem dX9_comes_342 : decode cX9_comes 342 = .ok (.iaload, 1) := by decide +kernel
theorem dX9_comes_343 : decode cX9_comes 343 = .ok (.aload_n 0, 1) := by decide +kernel
theorem dX9_comes_344 : decode cX9_comes 344 = .ok (.getfield 13, 3) := by decide +kernel
theorem dX9_comes_347 : decode cX9_comes 347 = .ok (.iload_n 1, 1) := by decide +kernel
theorem dX9_comes_348 : decode cX9_comes 348 = .ok (.iaload, 1) := by decide +kernel
theorem dX9_comes_349 : decode cX9_comes 349 = .ok (.if_icmp .lt 18, 3) := by decide +kernel
theorem dX9_comes_352 : decode cX9_comes 352 = .ok (.aload_n 0, 1) := by decide +kernel
theorem dX9_comes_353 : decode cX9_comes 353 = .ok (.getfield 38, 3) := by decide +kernel
theorem dX9_comes_356 : decode cX9_comes 356 = .ok (.getfield 143, 3) := by decide +kernel
theorem dX9_comes_359 : decode cX9_comes 359 = .ok (.bipush 20, 2) := by decide +kernel
theorem dX9_comes_361 : decode cX9_comes 361 = .ok (.iload_n 1, 1) := by decide +kernel
theorem dX9_comes_362 : decode cX9_comes 362 = .ok (.imul, 1) := by decide +kernel
theorem dX9_comes_363 : decode cX9_comes 363 = .ok (.iaload, 1) := by decide +kernel
theorem dX9_comes_364 : decode cX9_comes 364 = .ok (.goto 4, 3) := by decide +kernel
theorem dX9_comes_367 : decode cX9_comes 367 = .ok (.iconst (-1), 1) := by decide +kernel
theorem dX9_comes_368 : decode cX9_comes 368 = .ok (.istore 9, 2) := by decide +kernel
theorem dX9_comes_370 : decode cX9_comes 370 = .ok (.iload 9, 2) := by decide +kernel
theorem dX9_comes_372 : decode cX9_comes 372 = .ok (.ifCond .lt 8, 3) := by decide +kernel
theorem dX9_comes_375 : decode cX9_comes 375 = .ok (.aload_n 0, 1) := by decide +kernel
theorem dX9_comes_376 : decode cX9_comes 376 = .ok (.iload_n 1, 1) := by decide +kernel
theorem dX9_comes_377 : decode cX9_comes 377 = .ok (.invokevirtual 156, 3) := by decide +kernel
theorem dX9_comes_380 : decode cX9_comes 380 = .ok (.aload_n 0, 1) := by decide +kernel
theorem dX9_comes_381 : decode cX9_comes 381 = .ok (.getfield 38, 3) := by decide +kernel
theorem dX9_comes_384 : decode cX9_comes 384 = .ok (.getfield 143, 3) := by decide +kernel
theorem dX9_comes_387 : decode cX9_comes 387 = .ok (.bipush 20, 2) := by decide +kernel
theorem dX9_comes_389 : decode cX9_comes 389 = .ok (.iload_n 1, 1) := by decide +kernel
theorem dX9_comes_390 : decode cX9_comes 390 = .ok (.imul, 1) := by decide +kernel
theorem dX9_comes_391 : decode cX9_comes 391 = .ok (.aload_n 0, 1) := by decide +kernel
theorem dX9_comes_392 : decode cX9_comes 392 = .ok (.getfield 38, 3) := by decide +kernel
theorem dX9_comes_395 : decode cX9_comes 395 = .ok (.getfield 140, 3) := by decide +kernel
theorem dX9_comes_398 : decode cX9_comes 398 = .ok (.iload_n 1, 1) := by decide +kernel
theorem dX9_comes_399 : decode cX9_comes 399 = .ok (.iaload, 1) := by decide +kernel
theorem dX9_comes_400 : decode cX9_comes 400 = .ok (.iadd, 1) := by decide +kernel
theorem dX9_comes_401 : decode cX9_comes 401 = .ok (.iload 7, 2) := by decide +kernel
theorem dX9_comes_403 : decode cX9_comes 403 = .ok (.iastore, 1) := by decide +kernel
theorem dX9_comes_404 : decode cX9_comes 404 = .ok (.aload_n 0, 1) := by decide +kernel
theorem dX9_comes_405 : decode cX9_comes 405 = .ok (.getfield 38, 3) := by decide +kernel
theorem dX9_comes_408 : decode cX9_comes 408 = .ok (.getfield 140, 3) := by decide +kernel
theorem dX9_comes_411 : decode cX9_comes 411 = .ok (.iload_n 1, 1) := by decide +kernel
theorem dX9_comes_412 : decode cX9_comes 412 = .ok (.dup2, 1) := by decide +kernel
theorem dX9_comes_413 : decode cX9_comes 413 = .ok (.iaload, 1) := by decide +kernel
theorem dX9_comes_414 : decode cX9_comes 414 = .ok (.iconst 1, 1) := by decide +kernel
theorem dX9_comes_415 : decode cX9_comes 415 = .ok (.iadd, 1) := by decide +kernel
theorem dX9_comes_416 : decode cX9_comes 416 = .ok (.iastore, 1) := by decide +kernel
theorem dX9_comes_417 : decode cX9_comes 417 = .ok (.iload 9, 2) := by decide +kernel
theorem dX9_comes_419 : decode cX9_comes 419 = .ok (.ifCond .lt 9, 3) := by decide +kernel
theorem dX9_comes_422 : decode cX9_comes 422 = .ok (.aload_n 0, 1) := by decide +kernel
theorem dX9_comes_423 : decode cX9_comes 423 = .ok (.iload 9, 2) := by decide +kernel
theorem dX9_comes_425 : decode cX9_comes 425 = .ok (.invokevirtual 159, 3) := by decide +kernel
theorem dX9_comes_428 : decode cX9_comes 428 = .ok (.iload 7, 2) := by decide +kernel
theorem dX9_comes_430 : decode cX9_comes 430 = .ok (.ireturn, 1) := by decide +kernel
theorem dX9_refuse_0 : decode cX9_refuse 0 = .ok (.aload_n 0, 1) := by decide +kernel
theorem dX9_refuse_1 : decode cX9_refuse 1 = .ok (.iload_n 1, 1) := by decide +kernel
theorem dX9_refuse_2 : decode cX9_refuse 2 = .ok (.invokevirtual 117, 3) := by decide +kernel
theorem dX9_refuse_5 : decode cX9_refuse 5 = .ok (.istore_n 2, 1) := by decide +kernel
theorem dX9_refuse_6 : decode cX9_refuse 6 = .ok (.aload_n 0, 1) := by decide +kernel
theorem dX9_refuse_7 : decode cX9_refuse 7 = .ok (.getfield 38, 3) := by decide +kernel
theorem dX9_refuse_10 : decode cX9_refuse 10 = .ok (.getfield 124, 3) := by decide +kernel
theorem dX9_refuse_13 : decode cX9_refuse 13 = .ok (.iload_n 2, 1) := by decide +kernel
theorem dX9_refuse_14 : decode cX9_refuse 14 = .ok (.iaload, 1) := by decide +kernel
theorem dX9_refuse_15 : decode cX9_refuse 15 = .ok (.istore_n 3, 1) := by decide +kernel
theorem dX9_refuse_16 : decode cX9_refuse 16 = .ok (.aload_n 0, 1) := by decide +kernel
theorem dX9_refuse_17 : decode cX9_refuse 17 = .ok (.aload_n 0, 1) := by decide +kernel
theorem dX9_refuse_18 : decode cX9_refuse 18 = .ok (.getfield 38, 3) := by decide +kernel
theorem dX9_refuse_21 : decode cX9_refuse 21 = .ok (.getfield 111, 3) := by decide +kernel
theorem dX9_refuse_24 : decode cX9_refuse 24 = .ok (.iload_n 2, 1) := by decide +kernel
theorem dX9_refuse_25 : decode cX9_refuse 25 = .ok (.iaload, 1) := by decide +kernel
theorem dX9_refuse_26 : decode cX9_refuse 26 = .ok (.bipush 10, 2) := by decide +kernel
theorem dX9_refuse_28 : decode cX9_refuse 28 = .ok (.invokevirtual 136, 3) := by decide +kernel
theorem dX9_refuse_31 : decode cX9_refuse 31 = .ok (.aload_n 0, 1) := by decide +kernel
theorem dX9_refuse_32 : decode cX9_refuse 32 = .ok (.getfield 38, 3) := by decide +kernel
theorem dX9_refuse_35 : decode cX9_refuse 35 = .ok (.iconst 0, 1) := by decide +kernel
theorem dX9_refuse_36 : decode cX9_refuse 36 = .ok (.putfield 51, 3) := by decide +kernel
theorem dX9_refuse_39 : decode cX9_refuse 39 = .ok (.aload_n 0, 1) := by decide +kernel
theorem dX9_refuse_40 : decode cX9_refuse 40 = .ok (.iload_n 1, 1) := by decide +kernel
theorem dX9_refuse_41 : decode cX9_refuse 41 = .ok (.invokevirtual 162, 3) := by decide +kernel
theorem dX9_refuse_44 : decode cX9_refuse 44 = .ok (.aload_n 0, 1) := by decide +kernel
theorem dX9_refuse_45 : decode cX9_refuse 45 = .ok (.iload_n 1, 1) := by decide +kernel
theorem dX9_refuse_46 : decode cX9_refuse 46 = .ok (.iload_n 3, 1) := by decide +kernel
theorem dX9_refuse_47 : decode cX9_refuse 47 = .ok (.iconst 0, 1) := by decide +kernel
theorem dX9_refuse_48 : decode cX9_refuse 48 = .ok (.invokevirtual 165, 3) := by decide +kernel
theorem dX9_refuse_51 : decode cX9_refuse 51 = .ok (.pop, 1) := by decide +kernel
theorem dX9_refuse_52 : decode cX9_refuse 52 = .ok (.return_, 1) := by decide +kernel
theorem dX9_tell_0 : decode cX9_tell 0 = .ok (.iload_n 2, 1) := by decide +kernel
theorem dX9_tell_1 : decode cX9_tell 1 = .ok (.ifCond .lt 53, 3) := by decide +kernel
theorem dX9_tell_4 : decode cX9_tell 4 = .ok (.aload_n 0, 1) := by decide +kernel
theorem dX9_tell_5 : decode cX9_tell 5 = .ok (.iload_n 2, 1) := by decide +kernel
theorem dX9_tell_6 : decode cX9_tell 6 = .ok (.invokevirtual 117, 3) := by decide +kernel
theorem dX9_tell_9 : decode cX9_tell 9 = .ok (.istore 4, 2) := by decide +kernel
theorem dX9_tell_11 : decode cX9_tell 11 = .ok (.iload 4, 2) := by decide +kernel
theorem dX9_tell_13 : decode cX9_tell 13 = .ok (.ifCond .lt 31, 3) := by decide +kernel
theorem dX9_tell_16 : decode cX9_tell 16 = .ok (.aload_n 0, 1) := by decide +kernel
theorem dX9_tell_17 : decode cX9_tell 17 = .ok (.getfield 38, 3) := by decide +kernel
theorem dX9_tell_20 : decode cX9_tell 20 = .ok (.getfield 114, 3) := by decide +kernel
theorem dX9_tell_23 : decode cX9_tell 23 = .ok (.iload 4, 2) := by decide +kernel
theorem dX9_tell_25 : decode cX9_tell 25 = .ok (.iaload, 1) := by decide +kernel
theorem dX9_tell_26 : decode cX9_tell 26 = .ok (.iconst 2, 1) := by decide +kernel
theorem dX9_tell_27 : decode cX9_tell 27 = .ok (.if_icmp .ne 17, 3) := by decide +kernel
theorem dX9_tell_30 : decode cX9_tell 30 = .ok (.aload_n 0, 1) := by decide +kernel
theorem dX9_tell_31 : decode cX9_tell 31 = .ok (.getfield 38, 3) := by decide +kernel
theorem dX9_tell_34 : decode cX9_tell 34 = .ok (.getfield 133, 3) := by decide +kernel
theorem dX9_tell_37 : decode cX9_tell 37 = .ok (.iload 4, 2) := by decide +kernel
theorem dX9_tell_39 : decode cX9_tell 39 = .ok (.iaload, 1) := by decide +kernel
theorem dX9_tell_40 : decode cX9_tell 40 = .ok (.iload_n 1, 1) := by decide +kernel
theorem dX9_tell_41 : decode cX9_tell 41 = .ok (.if_icmp .eq 5, 3) := by decide +kernel
theorem dX9_tell_44 : decode cX9_tell 44 = .ok (.iconst 0, 1) := by decide +kernel
theorem dX9_tell_45 : decode cX9_tell 45 = .ok (.ireturn, 1) := by decide +kernel
theorem dX9_tell_46 : decode cX9_tell 46 = .ok (.aload_n 0, 1) := by decide +kernel
theorem dX9_tell_47 : decode cX9_tell 47 = .ok (.iload_n 2, 1) := by decide +kernel
theorem dX9_tell_48 : decode cX9_tell 48 = .ok (.iload_n 3, 1) := by decide +kernel
theorem dX9_tell_49 : decode cX9_tell 49 = .ok (.invokevirtual 169, 3) := by decide +kernel
theorem dX9_tell_52 : decode cX9_tell 52 = .ok (.iconst 1, 1) := by decide +kernel
theorem dX9_tell_53 : decode cX9_tell 53 = .ok (.ireturn, 1) := by decide +kernel
theorem dX9_tell_54 : decode cX9_tell 54 = .ok (.aload_n 0, 1) := by decide +kernel
theorem dX9_tell_55 : decode cX9_tell 55 = .ok (.iload_n 1, 1) := by decide +kernel
theorem dX9_tell_56 : decode cX9_tell 56 = .ok (.invokevirtual 173, 3) := by decide +kernel
theorem dX9_tell_59 : decode cX9_tell 59 = .ok (.istore 4, 2) := by decide +kernel
theorem dX9_tell_61 : decode cX9_tell 61 = .ok (.iload 4, 2) := by decide +kernel
theorem dX9_tell_63 : decode cX9_tell 63 = .ok (.ifCond .ge 5, 3) := by decide +kernel
theorem dX9_tell_66 : decode cX9_tell 66 = .ok (.iconst 0, 1) := by decide +kernel
theorem dX9_tell_67 : decode cX9_tell 67 = .ok (.ireturn, 1) := by decide +kernel
theorem dX9_tell_68 : decode cX9_tell 68 = .ok (.aload_n 0, 1) := by decide +kernel
theorem dX9_tell_69 : decode cX9_tell 69 = .ok (.iload 4, 2) := by decide +kernel
theorem dX9_tell_71 : decode cX9_tell 71 = .ok (.iload_n 3, 1) := by decide +kernel
theorem dX9_tell_72 : decode cX9_tell 72 = .ok (.invokevirtual 176, 3) := by decide +kernel
theorem dX9_tell_75 : decode cX9_tell 75 = .ok (.iconst 1, 1) := by decide +kernel
theorem dX9_tell_76 : decode cX9_tell 76 = .ok (.ireturn, 1) := by decide +kernel
theorem dX9_answerGuest_0 : decode cX9_answerGuest 0 = .ok (.iload_n 2, 1) := by decide +kernel
theorem dX9_answerGuest_1 : decode cX9_answerGuest 1 = .ok (.ifCond .eq 24, 3) := by decide +kernel
theorem dX9_answerGuest_4 : decode cX9_answerGuest 4 = .ok (.aload_n 0, 1) := by decide +kernel
theorem dX9_answerGuest_5 : decode cX9_answerGuest 5 = .ok (.getfield 38, 3) := by decide +kernel
theorem dX9_answerGuest_8 : decode cX9_answerGuest 8 = .ok (.dup, 1) := by decide +kernel
theorem dX9_answerGuest_9 : decode cX9_answerGuest 9 = .ok (.getfield 179, 3) := by decide +kernel
theorem dX9_answerGuest_12 : decode cX9_answerGuest 12 = .ok (.iconst 1, 1) := by decide +kernel
theorem dX9_answerGuest_13 : decode cX9_answerGuest 13 = .ok (.iadd, 1) := by decide +kernel
theorem dX9_answerGuest_14 : decode cX9_answerGuest 14 = .ok (.putfield 179, 3) := by decide +kernel
theorem dX9_answerGuest_17 : decode cX9_answerGuest 17 = .ok (.aload_n 0, 1) := by decide +kernel
theorem dX9_answerGuest_18 : decode cX9_answerGuest 18 = .ok (.iload_n 1, 1) := by decide +kernel
theorem dX9_answerGuest_19 : decode cX9_answerGuest 19 = .ok (.invokevirtual 182, 3) := by decide +kernel
theorem dX9_answerGuest_22 : decode cX9_answerGuest 22 = .ok (.goto 32, 3) := by decide +kernel
theorem dX9_answerGuest_25 : decode cX9_answerGuest 25 = .ok (.aload_n 0, 1) := by decide +kernel
theorem dX9_answerGuest_26 : decode cX9_answerGuest 26 = .ok (.getfield 38, 3) := by decide +kernel
theorem dX9_answerGuest_29 : decode cX9_answerGuest 29 = .ok (.getfield 105, 3) := by decide +kernel
theorem dX9_answerGuest_32 : decode cX9_answerGuest 32 = .ok (.iload_n 1, 1) := by decide +kernel
theorem dX9_answerGuest_33 : decode cX9_answerGuest 33 = .ok (.bipush (-3), 2) := by decide +kernel
theorem dX9_answerGuest_35 : decode cX9_answerGuest 35 = .ok (.iastore, 1) := by decide +kernel
theorem dX9_answerGuest_36 : decode cX9_answerGuest 36 = .ok (.aload_n 0, 1) := by decide +kernel
theorem dX9_answerGuest_37 : decode cX9_answerGuest 37 = .ok (.getfield 38, 3) := by decide +kernel
theorem dX9_answerGuest_40 : decode cX9_answerGuest 40 = .ok (.getfield 185, 3) := by decide +kernel
theorem dX9_answerGuest_43 : decode cX9_answerGuest 43 = .ok (.iload_n 1, 1) := by decide +kernel
theorem dX9_answerGuest_44 : decode cX9_answerGuest 44 = .ok (.aload_n 0, 1) := by decide +kernel
theorem dX9_answerGuest_45 : decode cX9_answerGuest 45 = .ok (.getfield 38, 3) := by decide +kernel
theorem dX9_answerGuest_48 : decode cX9_answerGuest 48 = .ok (.getfield 68, 3) := by decide +kernel
theorem dX9_answerGuest_51 : decode cX9_answerGuest 51 = .ok (.iconst 1, 1) := by decide +kernel
theorem dX9_answerGuest_52 : decode cX9_answerGuest 52 = .ok (.iadd, 1) := by decide +kernel
theorem dX9_answerGuest_53 : decode cX9_answerGuest 53 = .ok (.iastore, 1) := by decide +kernel
theorem dX9_answerGuest_54 : decode cX9_answerGuest 54 = .ok (.return_, 1) := by decide +kernel
theorem dX9_guestGoes_0 : decode cX9_guestGoes 0 = .ok (.aload_n 0, 1) := by decide +kernel
theorem dX9_guestGoes_1 : decode cX9_guestGoes 1 = .ok (.getfield 38, 3) := by decide +kernel
theorem dX9_guestGoes_4 : decode cX9_guestGoes 4 = .ok (.dup, 1) := by decide +kernel
theorem dX9_guestGoes_5 : decode cX9_guestGoes 5 = .ok (.getfield 102, 3) := by decide +kernel
theorem dX9_guestGoes_8 : decode cX9_guestGoes 8 = .ok (.iconst 1, 1) := by decide +kernel
theorem dX9_guestGoes_9 : decode cX9_guestGoes 9 = .ok (.isub, 1) := by decide +kernel
theorem dX9_guestGoes_10 : decode cX9_guestGoes 10 = .ok (.putfield 102, 3) := by decide +kernel
theorem dX9_guestGoes_13 : decode cX9_guestGoes 13 = .ok (.iload_n 1, 1) := by decide +kernel
theorem dX9_guestGoes_14 : decode cX9_guestGoes 14 = .ok (.istore_n 2, 1) := by decide +kernel
theorem dX9_guestGoes_15 : decode cX9_guestGoes 15 = .ok (.iload_n 2, 1) := by decide +kernel
theorem dX9_guestGoes_16 : decode cX9_guestGoes 16 = .ok (.aload_n 0, 1) := by decide +kernel
theorem dX9_guestGoes_17 : decode cX9_guestGoes 17 = .ok (.getfield 38, 3) := by decide +kernel
theorem dX9_guestGoes_20 : decode cX9_guestGoes 20 = .ok (.getfield 102, 3) := by decide +kernel
theorem dX9_guestGoes_23 : decode cX9_guestGoes 23 = .ok (.if_icmp .ge 109, 3) := by decide +kernel
theorem dX9_guestGoes_26 : decode cX9_guestGoes 26 = .ok (.aload_n 0, 1) := by decide +kernel
theorem dX9_guestGoes_27 : decode cX9_guestGoes 27 = .ok (.getfield 38, 3) := by decide +kernel
theorem dX9_guestGoes_30 : decode cX9_guestGoes 30 = .ok (.getfield 188, 3) := by decide +kernel
theorem dX9_guestGoes_33 : decode cX9_guestGoes 33 = .ok (.iload_n 2, 1) := by decide +kernel
theorem dX9_guestGoes_34 : decode cX9_guestGoes 34 = .ok (.aload_n 0, 1) := by decide +kernel
theorem dX9_guestGoes_35 : decode cX9_guestGoes 35 = .ok (.getfield 38, 3) := by decide +kernel
theorem dX9_guestGoes_38 : decode cX9_guestGoes 38 = .ok (.getfield 188, 3) := by decide +kernel
theorem dX9_guestGoes_41 : decode cX9_guestGoes 41 = .ok (.iload_n 2, 1) := by decide +kernel
theorem dX9_guestGoes_42 : decode cX9_guestGoes 42 = .ok (.iconst 1, 1) := by decide +kernel
theorem dX9_guestGoes_43 : decode cX9_guestGoes 43 = .ok (.iadd, 1) := by decide +kernel
theorem dX9_guestGoes_44 : decode cX9_guestGoes 44 = .ok (.iaload, 1) := by decide +kernel
theorem dX9_guestGoes_45 : decode cX9_guestGoes 45 = .ok (.iastore, 1) := by decide +kernel
theorem dX9_guestGoes_46 : decode cX9_guestGoes 46 = .ok (.aload_n 0, 1) := by decide +kernel
theorem dX9_guestGoes_47 : decode cX9_guestGoes 47 = .ok (.getfield 38, 3) := by decide +kernel
theorem dX9_guestGoes_50 : decode cX9_guestGoes 50 = .ok (.getfield 105, 3) := by decide +kernel
theorem dX9_guestGoes_53 : decode cX9_guestGoes 53 = .ok (.iload_n 2, 1) := by decide +kernel
theorem dX9_guestGoes_54 : decode cX9_guestGoes 54 = .ok (.aload_n 0, 1) := by decide +kernel
theorem dX9_guestGoes_55 : decode cX9_guestGoes 55 = .ok (.getfield 38, 3) := by decide +kernel
theorem dX9_guestGoes_58 : decode cX9_guestGoes 58 = .ok (.getfield 105, 3) := by decide +kernel
theorem dX9_guestGoes_61 : decode cX9_guestGoes 61 = .ok (.iload_n 2, 1) := by decide +kernel
theorem dX9_guestGoes_62 : decode cX9_guestGoes 62 = .ok (.iconst 1, 1) := by decide +kernel
theorem dX9_guestGoes_63 : decode cX9_guestGoes 63 = .ok (.iadd, 1) := by decide +kernel
theorem dX9_guestGoes_64 : decode cX9_guestGoes 64 = .ok (.iaload, 1) := by decide +kernel
theorem dX9_guestGoes_65 : decode cX9_guestGoes 65 = .ok (.iastore, 1) := by decide +kernel
theorem dX9_guestGoes_66 : decode cX9_guestGoes 66 = .ok (.aload_n 0, 1) := by decide +kernel
theorem dX9_guestGoes_67 : decode cX9_guestGoes 67 = .ok (.getfield 38, 3) := by decide +kernel
theorem dX9_guestGoes_70 : decode cX9_guestGoes 70 = .ok (.getfield 185, 3) := by decide +kernel
theorem dX9_guestGoes_73 : decode cX9_guestGoes 73 = .ok (.iload_n 2, 1) := by decide +kernel
theorem dX9_guestGoes_74 : decode cX9_guestGoes 74 = .ok (.aload_n 0, 1) := by decide +kernel
theorem dX9_guestGoes_75 : decode cX9_guestGoes 75 = .ok (.getfield 38, 3) := by decide +kernel
theorem dX9_guestGoes_78 : decode cX9_guestGoes 78 = .ok (.getfield 185, 3) := by decide +kernel
theorem dX9_guestGoes_81 : decode cX9_guestGoes 81 = .ok (.iload_n 2, 1) := by decide +kernel
theorem dX9_guestGoes_82 : decode cX9_guestGoes 82 = .ok (.iconst 1, 1) := by decide +kernel
theorem dX9_guestGoes_83 : decode cX9_guestGoes 83 = .ok (.iadd, 1) := by decide +kernel
theorem dX9_guestGoes_84 : decode cX9_guestGoes 84 = .ok (.iaload, 1) := by decide +kernel
theorem dX9_guestGoes_85 : decode cX9_guestGoes 85 = .ok (.iastore, 1) := by decide +kernel
theorem dX9_guestGoes_86 : decode cX9_guestGoes 86 = .ok (.aload_n 0, 1) := by decide +kernel
theorem dX9_guestGoes_87 : decode cX9_guestGoes 87 = .ok (.getfield 38, 3) := by decide +kernel
theorem dX9_guestGoes_90 : decode cX9_guestGoes 90 = .ok (.getfield 191, 3) := by decide +kernel
theorem dX9_guestGoes_93 : decode cX9_guestGoes 93 = .ok (.iload_n 2, 1) := by decide +kernel
theorem dX9_guestGoes_94 : decode cX9_guestGoes 94 = .ok (.aload_n 0, 1) := by decide +kernel
theorem dX9_guestGoes_95 : decode cX9_guestGoes 95 = .ok (.getfield 38, 3) := by decide +kernel
theorem dX9_guestGoes_98 : decode cX9_guestGoes 98 = .ok (.getfield 191, 3) := by decide +kernel
theorem dX9_guestGoes_101 : decode cX9_guestGoes 101 = .ok (.iload_n 2, 1) := by decide +kernel
theorem dX9_guestGoes_102 : decode cX9_guestGoes 102 = .ok (.iconst 1, 1) := by decide +kernel
theorem dX9_guestGoes_103 : decode cX9_guestGoes 103 = .ok (.iadd, 1) := by decide +kernel
theorem dX9_guestGoes_104 : decode cX9_guestGoes 104 = .ok (.iaload, 1) := by decide +kernel
theorem dX9_guestGoes_105 : decode cX9_guestGoes 105 = .ok (.iastore, 1) := by decide +kernel
theorem dX9_guestGoes_106 : decode cX9_guestGoes 106 = .ok (.aload_n 0, 1) := by decide +kernel
theorem dX9_guestGoes_107 : decode cX9_guestGoes 107 = .ok (.getfield 38, 3) := by decide +kernel
theorem dX9_guestGoes_110 : decode cX9_guestGoes 110 = .ok (.getfield 194, 3) := by decide +kernel
theorem dX9_guestGoes_113 : decode cX9_guestGoes 113 = .ok (.iload_n 2, 1) := by decide +kernel
theorem dX9_guestGoes_114 : decode cX9_guestGoes 114 = .ok (.aload_n 0, 1) := by decide +kernel
theorem dX9_guestGoes_115 : decode cX9_guestGoes 115 = .ok (.getfield 38, 3) := by decide +kernel
theorem dX9_guestGoes_118 : decode cX9_guestGoes 118 = .ok (.getfield 194, 3) := by decide +kernel
theorem dX9_guestGoes_121 : decode cX9_guestGoes 121 = .ok (.iload_n 2, 1) := by decide +kernel
theorem dX9_guestGoes_122 : decode cX9_guestGoes 122 = .ok (.iconst 1, 1) := by decide +kernel
theorem dX9_guestGoes_123 : decode cX9_guestGoes 123 = .ok (.iadd, 1) := by decide +kernel
theorem dX9_guestGoes_124 : decode cX9_guestGoes 124 = .ok (.iaload, 1) := by decide +kernel
theorem dX9_guestGoes_125 : decode cX9_guestGoes 125 = .ok (.iastore, 1) := by decide +kernel
theorem dX9_guestGoes_126 : decode cX9_guestGoes 126 = .ok (.iinc 2 1, 3) := by decide +kernel
theorem dX9_guestGoes_129 : decode cX9_guestGoes 129 = .ok (.goto (-114), 3) := by decide +kernel
theorem dX9_guestGoes_132 : decode cX9_guestGoes 132 = .ok (.return_, 1) := by decide +kernel
theorem dX9_over_0 : decode cX9_over 0 = .ok (.aload_n 0, 1) := by decide +kernel
theorem dX9_over_1 : decode cX9_over 1 = .ok (.iload_n 1, 1) := by decide +kernel
theorem dX9_over_2 : decode cX9_over 2 = .ok (.invokevirtual 117, 3) := by decide +kernel
theorem dX9_over_5 : decode cX9_over 5 = .ok (.istore_n 3, 1) := by decide +kernel
theorem dX9_over_6 : decode cX9_over 6 = .ok (.aload_n 0, 1) := by decide +kernel
theorem dX9_over_7 : decode cX9_over 7 = .ok (.getfield 38, 3) := by decide +kernel
theorem dX9_over_10 : decode cX9_over 10 = .ok (.getfield 111, 3) := by decide +kernel
theorem dX9_over_13 : decode cX9_over 13 = .ok (.iload_n 3, 1) := by decide +kernel
theorem dX9_over_14 : decode cX9_over 14 = .ok (.iaload, 1) := by decide +kernel
theorem dX9_over_15 : decode cX9_over 15 = .ok (.istore 4, 2) := by decide +kernel
theorem dX9_over_17 : decode cX9_over 17 = .ok (.aload_n 0, 1) := by decide +kernel
theorem dX9_over_18 : decode cX9_over 18 = .ok (.getfield 38, 3) := by decide +kernel
theorem dX9_over_21 : decode cX9_over 21 = .ok (.getfield 124, 3) := by decide +kernel
theorem dX9_over_24 : decode cX9_over 24 = .ok (.iload_n 3, 1) := by decide +kernel
theorem dX9_over_25 : decode cX9_over 25 = .ok (.iaload, 1) := by decide +kernel
theorem dX9_over_26 : decode cX9_over 26 = .ok (.istore 5, 2) := by decide +kernel
theorem dX9_over_28 : decode cX9_over 28 = .ok (.aload_n 0, 1) := by decide +kernel
theorem dX9_over_29 : decode cX9_over 29 = .ok (.iload 4, 2) := by decide +kernel
theorem dX9_over_31 : decode cX9_over 31 = .ok (.iload_n 2, 1) := by decide +kernel
theorem dX9_over_32 : decode cX9_over 32 = .ok (.ifCond .eq 8, 3) := by decide +kernel
theorem dX9_over_35 : decode cX9_over 35 = .ok (.bipush 8, 2) := by decide +kernel
theorem dX9_over_37 : decode cX9_over 37 = .ok (.goto 5, 3) := by decide +kernel
theorem dX9_over_40 : decode cX9_over 40 = .ok (.bipush 9, 2) := by decide +kernel
theorem dX9_over_42 : decode cX9_over 42 = .ok (.invokevirtual 136, 3) := by decide +kernel
theorem dX9_over_45 : decode cX9_over 45 = .ok (.iload_n 2, 1) := by decide +kernel
theorem dX9_over_46 : decode cX9_over 46 = .ok (.ifCond .eq 51, 3) := by decide +kernel
theorem dX9_over_49 : decode cX9_over 49 = .ok (.aload_n 0, 1) := by decide +kernel
theorem dX9_over_50 : decode cX9_over 50 = .ok (.iload 4, 2) := by decide +kernel
theorem dX9_over_52 : decode cX9_over 52 = .ok (.iconst 3, 1) := by decide +kernel
theorem dX9_over_53 : decode cX9_over 53 = .ok (.invokevirtual 79, 3) := by decide +kernel
theorem dX9_over_56 : decode cX9_over 56 = .ok (.ifCond .le 41, 3) := by decide +kernel
theorem dX9_over_59 : decode cX9_over 59 = .ok (.aload_n 0, 1) := by decide +kernel
theorem dX9_over_60 : decode cX9_over 60 = .ok (.getfield 38, 3) := by decide +kernel
theorem dX9_over_63 : decode cX9_over 63 = .ok (.getfield 55, 3) := by decide +kernel
theorem dX9_over_66 : decode cX9_over 66 = .ok (.bipush 8, 2) := by decide +kernel
theorem dX9_over_68 : decode cX9_over 68 = .ok (.iload 4, 2) := by decide +kernel
theorem dX9_over_70 : decode cX9_over 70 = .ok (.imul, 1) := by decide +kernel
theorem dX9_over_71 : decode cX9_over 71 = .ok (.aload_n 0, 1) := by decide +kernel
theorem dX9_over_72 : decode cX9_over 72 = .ok (.getfield 38, 3) := by decide +kernel
theorem dX9_over_75 : decode cX9_over 75 = .ok (.getfield 121, 3) := by decide +kernel
theorem dX9_over_78 : decode cX9_over 78 = .ok (.iload_n 3, 1) := by decide +kernel
theorem dX9_over_79 : decode cX9_over 79 = .ok (.iaload, 1) := by decide +kernel
theorem dX9_over_80 : decode cX9_over 80 = .ok (.iadd, 1) := by decide +kernel
theorem dX9_over_81 : decode cX9_over 81 = .ok (.aload_n 0, 1) := by decide +kernel
theorem dX9_over_82 : decode cX9_over 82 = .ok (.getfield 38, 3) := by decide +kernel
theorem dX9_over_85 : decode cX9_over 85 = .ok (.getfield 68, 3) := by decide +kernel
theorem dX9_over_88 : decode cX9_over 88 = .ok (.aload_n 0, 1) := by decide +kernel
theorem dX9_over_89 : decode cX9_over 89 = .ok (.iload 4, 2) := by decide +kernel
theorem dX9_over_91 : decode cX9_over 91 = .ok (.iconst 3, 1) := by decide +kernel
theorem dX9_over_92 : decode cX9_over 92 = .ok (.invokevirtual 79, 3) := by decide +kernel
theorem dX9_over_95 : decode cX9_over 95 = .ok (.iadd, 1) := by decide +kernel
theorem dX9_over_96 : decode cX9_over 96 = .ok (.iastore, 1) := by decide +kernel
theorem dX9_over_97 : decode cX9_over 97 = .ok (.aload_n 0, 1) := by decide +kernel
theorem dX9_over_98 : decode cX9_over 98 = .ok (.iload_n 1, 1) := by decide +kernel
theorem dX9_over_99 : decode cX9_over 99 = .ok (.invokevirtual 162, 3) := by decide +kernel
theorem dX9_over_102 : decode cX9_over 102 = .ok (.aload_n 0, 1) := by decide +kernel
theorem dX9_over_103 : decode cX9_over 103 = .ok (.iload_n 1, 1) := by decide +kernel
theorem dX9_over_104 : decode cX9_over 104 = .ok (.iload 5, 2) := by decide +kernel
theorem dX9_over_106 : decode cX9_over 106 = .ok (.iload_n 2, 1) := by decide +kernel
theorem dX9_over_107 : decode cX9_over 107 = .ok (.invokevirtual 165, 3) := by decide +kernel
theorem dX9_over_110 : decode cX9_over 110 = .ok (.ifCond .ne 24, 3) := by decide +kernel
theorem dX9_over_113 : decode cX9_over 113 = .ok (.aload_n 0, 1) := by decide +kernel
theorem dX9_over_114 : decode cX9_over 114 = .ok (.iload 4, 2) := by decide +kernel
theorem dX9_over_116 : decode cX9_over 116 = .ok (.bipush 11, 2) := by decide +kernel
theorem dX9_over_118 : decode cX9_over 118 = .ok (.invokevirtual 136, 3) := by decide +kernel
theorem dX9_over_121 : decode cX9_over 121 = .ok (.aload_n 0, 1) := by decide +kernel
theorem dX9_over_122 : decode cX9_over 122 = .ok (.getfield 38, 3) := by decide +kernel
theorem dX9_over_125 : decode cX9_over 125 = .ok (.dup, 1) := by decide +kernel
theorem dX9_over_126 : decode cX9_over 126 = .ok (.getfield 197, 3) := by decide +kernel
theorem dX9_over_129 : decode cX9_over 129 = .ok (.iconst 1, 1) := by decide +kernel
theorem dX9_over_130 : decode cX9_over 130 = .ok (.iadd, 1) := by decide +kernel
theorem dX9_over_131 : decode cX9_over 131 = .ok (.putfield 197, 3) := by decide +kernel
theorem dX9_over_134 : decode cX9_over 134 = .ok (.return_, 1) := by decide +kernel
theorem dX9_answered_0 : decode cX9_answered 0 = .ok (.iload_n 2, 1) := by decide +kernel
theorem dX9_answered_1 : decode cX9_answered 1 = .ok (.ifCond .eq 34, 3) := by decide +kernel
theorem dX9_answered_4 : decode cX9_answered 4 = .ok (.aload_n 0, 1) := by decide +kernel
theorem dX9_answered_5 : decode cX9_answered 5 = .ok (.getfield 38, 3) := by decide +kernel
theorem dX9_answered_8 : decode cX9_answered 8 = .ok (.getfield 200, 3) := by decide +kernel
theorem dX9_answered_11 : decode cX9_answered 11 = .ok (.aload_n 0, 1) := by decide +kernel
theorem dX9_answered_12 : decode cX9_answered 12 = .ok (.getfield 38, 3) := by decide +kernel
theorem dX9_answered_15 : decode cX9_answered 15 = .ok (.getfield 111, 3) := by decide +kernel
theorem dX9_answered_18 : decode cX9_answered 18 = .ok (.aload_n 0, 1) := by decide +kernel
theorem dX9_answered_19 : decode cX9_answered 19 = .ok (.iload_n 1, 1) := by decide +kernel
theorem dX9_answered_20 : decode cX9_answered 20 = .ok (.invokevirtual 117, 3) := by decide +kernel
theorem dX9_answered_23 : decode cX9_answered 23 = .ok (.iaload, 1) := by decide +kernel
theorem dX9_answered_24 : decode cX9_answered 24 = .ok (.iconst 0, 1) := by decide +kernel
theorem dX9_answered_25 : decode cX9_answered 25 = .ok (.iastore, 1) := by decide +kernel
theorem dX9_answered_26 : decode cX9_answered 26 = .ok (.aload_n 0, 1) := by decide +kernel
theorem dX9_answered_27 : decode cX9_answered 27 = .ok (.iload_n 1, 1) := by decide +kernel
theorem dX9_answered_28 : decode cX9_answered 28 = .ok (.iconst 1, 1) := by decide +kernel
theorem dX9_answered_29 : decode cX9_answered 29 = .ok (.invokevirtual 203, 3) := by decide +kernel
theorem dX9_answered_32 : decode cX9_answered 32 = .ok (.goto 8, 3) := by decide +kernel
theorem dX9_answered_35 : decode cX9_answered 35 = .ok (.aload_n 0, 1) := by decide +kernel
theorem dX9_answered_36 : decode cX9_answered 36 = .ok (.iload_n 1, 1) := by decide +kernel
theorem dX9_answered_37 : decode cX9_answered 37 = .ok (.invokevirtual 206, 3) := by decide +kernel
theorem dX9_answered_40 : decode cX9_answered 40 = .ok (.return_, 1) := by decide +kernel
theorem dX9_fail_0 : decode cX9_fail 0 = .ok (.aload_n 0, 1) := by decide +kernel
theorem dX9_fail_1 : decode cX9_fail 1 = .ok (.iload_n 1, 1) := by decide +kernel
theorem dX9_fail_2 : decode cX9_fail 2 = .ok (.invokevirtual 117, 3) := by decide +kernel
theorem dX9_fail_5 : decode cX9_fail 5 = .ok (.istore_n 2, 1) := by decide +kernel
theorem dX9_fail_6 : decode cX9_fail 6 = .ok (.aload_n 0, 1) := by decide +kernel
theorem dX9_fail_7 : decode cX9_fail 7 = .ok (.getfield 38, 3) := by decide +kernel
theorem dX9_fail_10 : decode cX9_fail 10 = .ok (.getfield 111, 3) := by decide +kernel
theorem dX9_fail_13 : decode cX9_fail 13 = .ok (.iload_n 2, 1) := by decide +kernel
theorem dX9_fail_14 : decode cX9_fail 14 = .ok (.iaload, 1) := by decide +kernel
theorem dX9_fail_15 : decode cX9_fail 15 = .ok (.istore_n 3, 1) := by decide +kernel
theorem dX9_fail_16 : decode cX9_fail 16 = .ok (.aload_n 0, 1) := by decide +kernel
theorem dX9_fail_17 : decode cX9_fail 17 = .ok (.getfield 38, 3) := by decide +kernel
theorem dX9_fail_20 : decode cX9_fail 20 = .ok (.getfield 133, 3) := by decide +kernel
theorem dX9_fail_23 : decode cX9_fail 23 = .ok (.iload_n 2, 1) := by decide +kernel
theorem dX9_fail_24 : decode cX9_fail 24 = .ok (.iconst (-1), 1) := by decide +kernel
theorem dX9_fail_25 : decode cX9_fail 25 = .ok (.iastore, 1) := by decide +kernel
theorem dX9_fail_26 : decode cX9_fail 26 = .ok (.aload_n 0, 1) := by decide +kernel
theorem dX9_fail_27 : decode cX9_fail 27 = .ok (.getfield 38, 3) := by decide +kernel
theorem dX9_fail_30 : decode cX9_fail 30 = .ok (.iconst 0, 1) := by decide +kernel
theorem dX9_fail_31 : decode cX9_fail 31 = .ok (.putfield 51, 3) := by decide +kernel
theorem dX9_fail_34 : decode cX9_fail 34 = .ok (.aload_n 0, 1) := by decide +kernel
theorem dX9_fail_35 : decode cX9_fail 35 = .ok (.iload_n 3, 1) := by decide +kernel
theorem dX9_fail_36 : decode cX9_fail 36 = .ok (.bipush 12, 2) := by decide +kernel
theorem dX9_fail_38 : decode cX9_fail 38 = .ok (.invokevirtual 136, 3) := by decide +kernel
theorem dX9_fail_41 : decode cX9_fail 41 = .ok (.aload_n 0, 1) := by decide +kernel
theorem dX9_fail_42 : decode cX9_fail 42 = .ok (.getfield 38, 3) := by decide +kernel
theorem dX9_fail_45 : decode cX9_fail 45 = .ok (.getfield 200, 3) := by decide +kernel
theorem dX9_fail_48 : decode cX9_fail 48 = .ok (.iload_n 3, 1) := by decide +kernel
theorem dX9_fail_49 : decode cX9_fail 49 = .ok (.dup2, 1) := by decide +kernel
theorem dX9_fail_50 : decode cX9_fail 50 = .ok (.iaload, 1) := by decide +kernel
theorem dX9_fail_51 : decode cX9_fail 51 = .ok (.iconst 1, 1) := by decide +kernel
theorem dX9_fail_52 : decode cX9_fail 52 = .ok (.iadd, 1) := by decide +kernel
theorem dX9_fail_53 : decode cX9_fail 53 = .ok (.iastore, 1) := by decide +kernel
theorem dX9_fail_54 : decode cX9_fail 54 = .ok (.aload_n 0, 1) := by decide +kernel
theorem dX9_fail_55 : decode cX9_fail 55 = .ok (.iload_n 3, 1) := by decide +kernel
theorem dX9_fail_56 : decode cX9_fail 56 = .ok (.iconst 4, 1) := by decide +kernel
theorem dX9_fail_57 : decode cX9_fail 57 = .ok (.invokevirtual 79, 3) := by decide +kernel
theorem dX9_fail_60 : decode cX9_fail 60 = .ok (.ifCond .le 54, 3) := by decide +kernel
theorem dX9_fail_63 : decode cX9_fail 63 = .ok (.aload_n 0, 1) := by decide +kernel
theorem dX9_fail_64 : decode cX9_fail 64 = .ok (.getfield 38, 3) := by decide +kernel
theorem dX9_fail_67 : decode cX9_fail 67 = .ok (.getfield 200, 3) := by decide +kernel
theorem dX9_fail_70 : decode cX9_fail 70 = .ok (.iload_n 3, 1) := by decide +kernel
theorem dX9_fail_71 : decode cX9_fail 71 = .ok (.iaload, 1) := by decide +kernel
theorem dX9_fail_72 : decode cX9_fail 72 = .ok (.aload_n 0, 1) := by decide +kernel
theorem dX9_fail_73 : decode cX9_fail 73 = .ok (.iload_n 3, 1) := by decide +kernel
theorem dX9_fail_74 : decode cX9_fail 74 = .ok (.iconst 4, 1) := by decide +kernel
theorem dX9_fail_75 : decode cX9_fail 75 = .ok (.invokevirtual 79, 3) := by decide +kernel
theorem dX9_fail_78 : decode cX9_fail 78 = .ok (.if_icmp .lt 36, 3) := by decide +kernel
theorem dX9_fail_81 : decode cX9_fail 81 = .ok (.aload_n 0, 1) := by decide +kernel
theorem dX9_fail_82 : decode cX9_fail 82 = .ok (.getfield 38, 3) := by decide +kernel
theorem dX9_fail_85 : decode cX9_fail 85 = .ok (.getfield 58, 3) := by decide +kernel
theorem dX9_fail_88 : decode cX9_fail 88 = .ok (.iload_n 3, 1) := by decide +kernel
theorem dX9_fail_89 : decode cX9_fail 89 = .ok (.aload_n 0, 1) := by decide +kernel
theorem dX9_fail_90 : decode cX9_fail 90 = .ok (.getfield 38, 3) := by decide +kernel
theorem dX9_fail_93 : decode cX9_fail 93 = .ok (.getfield 68, 3) := by decide +kernel
theorem dX9_fail_96 : decode cX9_fail 96 = .ok (.aload_n 0, 1) := by decide +kernel
theorem dX9_fail_97 : decode cX9_fail 97 = .ok (.iload_n 3, 1) := by decide +kernel
theorem dX9_fail_98 : decode cX9_fail 98 = .ok (.iconst 5, 1) := by decide +kernel
theorem dX9_fail_99 : decode cX9_fail 99 = .ok (.invokevirtual 79, 3) := by decide +kernel
theorem dX9_fail_102 : decode cX9_fail 102 = .ok (.iadd, 1) := by decide +kernel
theorem dX9_fail_103 : decode cX9_fail 103 = .ok (.iastore, 1) := by decide +kernel
theorem dX9_fail_104 : decode cX9_fail 104 = .ok (.aload_n 0, 1) := by decide +kernel
theorem dX9_fail_105 : decode cX9_fail 105 = .ok (.getfield 38, 3) := by decide +kernel
theorem dX9_fail_108 : decode cX9_fail 108 = .ok (.getfield 200, 3) := by decide +kernel
theorem dX9_fail_111 : decode cX9_fail 111 = .ok (.iload_n 3, 1) := by decide +kernel
theorem dX9_fail_112 : decode cX9_fail 112 = .ok (.iconst 0, 1) := by decide +kernel
theorem dX9_fail_113 : decode cX9_fail 113 = .ok (.iastore, 1) := by decide +kernel
theorem dX9_fail_114 : decode cX9_fail 114 = .ok (.aload_n 0, 1) := by decide +kernel
theorem dX9_fail_115 : decode cX9_fail 115 = .ok (.getfield 38, 3) := by decide +kernel
theorem dX9_fail_118 : decode cX9_fail 118 = .ok (.getfield 130, 3) := by decide +kernel
theorem dX9_fail_121 : decode cX9_fail 121 = .ok (.iload_n 2, 1) := by decide +kernel
theorem dX9_fail_122 : decode cX9_fail 122 = .ok (.iaload, 1) := by decide +kernel
theorem dX9_fail_123 : decode cX9_fail 123 = .ok (.aload_n 0, 1) := by decide +kernel
theorem dX9_fail_124 : decode cX9_fail 124 = .ok (.iload_n 3, 1) := by decide +kernel
theorem dX9_fail_125 : decode cX9_fail 125 = .ok (.iconst 1, 1) := by decide +kernel
theorem dX9_fail_126 : decode cX9_fail 126 = .ok (.invokevirtual 79, 3) := by decide +kernel
theorem dX9_fail_129 : decode cX9_fail 129 = .ok (.if_icmp .ge 51, 3) := by decide +kernel
theorem dX9_fail_132 : decode cX9_fail 132 = .ok (.aload_n 0, 1) := by decide +kernel
theorem dX9_fail_133 : decode cX9_fail 133 = .ok (.getfield 38, 3) := by decide +kernel
theorem dX9_fail_136 : decode cX9_fail 136 = .ok (.getfield 114, 3) := by decide +kernel
theorem dX9_fail_139 : decode cX9_fail 139 = .ok (.iload_n 2, 1) := by decide +kernel
theorem dX9_fail_140 : decode cX9_fail 140 = .ok (.iconst 3, 1) := by decide +kernel
theorem dX9_fail_141 : decode cX9_fail 141 = .ok (.iastore, 1) := by decide +kernel
theorem dX9_fail_142 : decode cX9_fail 142 = .ok (.aload_n 0, 1) := by decide +kernel
theorem dX9_fail_143 : decode cX9_fail 143 = .ok (.getfield 38, 3) := by decide +kernel
theorem dX9_fail_146 : decode cX9_fail 146 = .ok (.getfield 127, 3) := by decide +kernel
theorem dX9_fail_149 : decode cX9_fail 149 = .ok (.iload_n 2, 1) := by decide +kernel
theorem dX9_fail_150 : decode cX9_fail 150 = .ok (.aload_n 0, 1) := by decide +kernel
theorem dX9_fail_151 : decode cX9_fail 151 = .ok (.getfield 38, 3) := by decide +kernel
theorem dX9_fail_154 : decode cX9_fail 154 = .ok (.getfield 68, 3) := by decide +kernel
theorem dX9_fail_157 : decode cX9_fail 157 = .ok (.iconst 1, 1) := by decide +kernel
theorem dX9_fail_158 : decode cX9_fail 158 = .ok (.iadd, 1) := by decide +kernel
theorem dX9_fail_159 : decode cX9_fail 159 = .ok (.aload_n 0, 1) := by decide +kernel
theorem dX9_fail_160 : decode cX9_fail 160 = .ok (.iload_n 3, 1) := by decide +kernel
theorem dX9_fail_161 : decode cX9_fail 161 = .ok (.iconst 2, 1) := by decide +kernel
theorem dX9_fail_162 : decode cX9_fail 162 = .ok (.invokevirtual 79, 3) := by decide +kernel
theorem dX9_fail_165 : decode cX9_fail 165 = .ok (.aload_n 0, 1) := by decide +kernel
theorem dX9_fail_166 : decode cX9_fail 166 = .ok (.getfield 38, 3) := by decide +kernel
theorem dX9_fail_169 : decode cX9_fail 169 = .ok (.getfield 130, 3) := by decide +kernel
theorem dX9_fail_172 : decode cX9_fail 172 = .ok (.iload_n 2, 1) := by decide +kernel
theorem dX9_fail_173 : decode cX9_fail 173 = .ok (.iaload, 1) := by decide +kernel
theorem dX9_fail_174 : decode cX9_fail 174 = .ok (.ishl, 1) := by decide +kernel
theorem dX9_fail_175 : decode cX9_fail 175 = .ok (.iadd, 1) := by decide +kernel
theorem dX9_fail_176 : decode cX9_fail 176 = .ok (.iastore, 1) := by decide +kernel
theorem dX9_fail_177 : decode cX9_fail 177 = .ok (.goto 9, 3) := by decide +kernel
theorem dX9_fail_180 : decode cX9_fail 180 = .ok (.aload_n 0, 1) := by decide +kernel
theorem dX9_fail_181 : decode cX9_fail 181 = .ok (.iload_n 1, 1) := by decide +kernel
theorem dX9_fail_182 : decode cX9_fail 182 = .ok (.iconst 0, 1) := by decide +kernel
theorem dX9_fail_183 : decode cX9_fail 183 = .ok (.invokevirtual 203, 3) := by decide +kernel
theorem dX9_fail_186 : decode cX9_fail 186 = .ok (.return_, 1) := by decide +kernel
theorem dX9_rests_0 : decode cX9_rests 0 = .ok (.aload_n 0, 1) := by decide +kernel
theorem dX9_rests_1 : decode cX9_rests 1 = .ok (.getfield 38, 3) := by decide +kernel
theorem dX9_rests_4 : decode cX9_rests 4 = .ok (.getfield 58, 3) := by decide +kernel
theorem dX9_rests_7 : decode cX9_rests 7 = .ok (.iload_n 1, 1) := by decide +kernel
theorem dX9_rests_8 : decode cX9_rests 8 = .ok (.iaload, 1) := by decide +kernel
theorem dX9_rests_9 : decode cX9_rests 9 = .ok (.aload_n 0, 1) := by decide +kernel
theorem dX9_rests_10 : decode cX9_rests 10 = .ok (.getfield 38, 3) := by decide +kernel
theorem dX9_rests_13 : decode cX9_rests 13 = .ok (.getfield 68, 3) := by decide +kernel
theorem dX9_rests_16 : decode cX9_rests 16 = .ok (.if_icmp .lt 7, 3) := by decide +kernel
theorem dX9_rests_19 : decode cX9_rests 19 = .ok (.iconst 1, 1) := by decide +kernel
theorem dX9_rests_20 : decode cX9_rests 20 = .ok (.goto 4, 3) := by decide +kernel
theorem dX9_rests_23 : decode cX9_rests 23 = .ok (.iconst 0, 1) := by decide +kernel
theorem dX9_rests_24 : decode cX9_rests 24 = .ok (.ireturn, 1) := by decide +kernel
theorem dX9_ask_0 : decode cX9_ask 0 = .ok (.aload_n 0, 1) := by decide +kernel
theorem dX9_ask_1 : decode cX9_ask 1 = .ok (.iload_n 1, 1) := by decide +kernel
theorem dX9_ask_2 : decode cX9_ask 2 = .ok (.invokevirtual 117, 3) := by decide +kernel
theorem dX9_ask_5 : decode cX9_ask 5 = .ok (.istore_n 2, 1) := by decide +kernel
theorem dX9_ask_6 : decode cX9_ask 6 = .ok (.aload_n 0, 1) := by decide +kernel
theorem dX9_ask_7 : decode cX9_ask 7 = .ok (.getfield 38, 3) := by decide +kernel
theorem dX9_ask_10 : decode cX9_ask 10 = .ok (.getfield 111, 3) := by decide +kernel
theorem dX9_ask_13 : decode cX9_ask 13 = .ok (.iload_n 2, 1) := by decide +kernel
theorem dX9_ask_14 : decode cX9_ask 14 = .ok (.iaload, 1) := by decide +kernel
theorem dX9_ask_15 : decode cX9_ask 15 = .ok (.istore_n 3, 1) := by decide +kernel
theorem dX9_ask_16 : decode cX9_ask 16 = .ok (.aload_n 0, 1) := by decide +kernel
theorem dX9_ask_17 : decode cX9_ask 17 = .ok (.iload_n 3, 1) := by decide +kernel
theorem dX9_ask_18 : decode cX9_ask 18 = .ok (.invokevirtual 209, 3) := by decide +kernel
theorem dX9_ask_21 : decode cX9_ask 21 = .ok (.ifCond .eq 10, 3) := by decide +kernel
theorem dX9_ask_24 : decode cX9_ask 24 = .ok (.aload_n 0, 1) := by decide +kernel
theorem dX9_ask_25 : decode cX9_ask 25 = .ok (.iload_n 1, 1) := by decide +kernel
theorem dX9_ask_26 : decode cX9_ask 26 = .ok (.iconst 0, 1) := by decide +kernel
theorem dX9_ask_27 : decode cX9_ask 27 = .ok (.invokevirtual 203, 3) := by decide +kernel
theorem dX9_ask_30 : decode cX9_ask 30 = .ok (.return_, 1) := by decide +kernel
theorem dX9_ask_31 : decode cX9_ask 31 = .ok (.aload_n 0, 1) := by decide +kernel
theorem dX9_ask_32 : decode cX9_ask 32 = .ok (.getfield 38, 3) := by decide +kernel
theorem dX9_ask_35 : decode cX9_ask 35 = .ok (.getfield 114, 3) := by decide +kernel
theorem dX9_ask_38 : decode cX9_ask 38 = .ok (.iload_n 2, 1) := by decide +kernel
theorem dX9_ask_39 : decode cX9_ask 39 = .ok (.iconst 2, 1) := by decide +kernel
theorem dX9_ask_40 : decode cX9_ask 40 = .ok (.iastore, 1) := by decide +kernel
theorem dX9_ask_41 : decode cX9_ask 41 = .ok (.aload_n 0, 1) := by decide +kernel
theorem dX9_ask_42 : decode cX9_ask 42 = .ok (.getfield 38, 3) := by decide +kernel
theorem dX9_ask_45 : decode cX9_ask 45 = .ok (.getfield 127, 3) := by decide +kernel
theorem dX9_ask_48 : decode cX9_ask 48 = .ok (.iload_n 2, 1) := by decide +kernel
theorem dX9_ask_49 : decode cX9_ask 49 = .ok (.aload_n 0, 1) := by decide +kernel
theorem dX9_ask_50 : decode cX9_ask 50 = .ok (.getfield 38, 3) := by decide +kernel
theorem dX9_ask_53 : decode cX9_ask 53 = .ok (.getfield 68, 3) := by decide +kernel
theorem dX9_ask_56 : decode cX9_ask 56 = .ok (.aload_n 0, 1) := by decide +kernel
theorem dX9_ask_57 : decode cX9_ask 57 = .ok (.iload_n 3, 1) := by decide +kernel
theorem dX9_ask_58 : decode cX9_ask 58 = .ok (.iconst 0, 1) := by decide +kernel
theorem dX9_ask_59 : decode cX9_ask 59 = .ok (.invokevirtual 79, 3) := by decide +kernel
theorem dX9_ask_62 : decode cX9_ask 62 = .ok (.iadd, 1) := by decide +kernel
theorem dX9_ask_63 : decode cX9_ask 63 = .ok (.iastore, 1) := by decide +kernel
theorem dX9_ask_64 : decode cX9_ask 64 = .ok (.aload_n 0, 1) := by decide +kernel
theorem dX9_ask_65 : decode cX9_ask 65 = .ok (.getfield 38, 3) := by decide +kernel
theorem dX9_ask_68 : decode cX9_ask 68 = .ok (.getfield 133, 3) := by decide +kernel
theorem dX9_ask_71 : decode cX9_ask 71 = .ok (.iload_n 2, 1) := by decide +kernel
theorem dX9_ask_72 : decode cX9_ask 72 = .ok (.iconst (-1), 1) := by decide +kernel
theorem dX9_ask_73 : decode cX9_ask 73 = .ok (.iastore, 1) := by decide +kernel
theorem dX9_ask_74 : decode cX9_ask 74 = .ok (.aload_n 0, 1) := by decide +kernel
theorem dX9_ask_75 : decode cX9_ask 75 = .ok (.iload_n 3, 1) := by decide +kernel
theorem dX9_ask_76 : decode cX9_ask 76 = .ok (.iconst 1, 1) := by decide +kernel
theorem dX9_ask_77 : decode cX9_ask 77 = .ok (.iadd, 1) := by decide +kernel
theorem dX9_ask_78 : decode cX9_ask 78 = .ok (.aload_n 0, 1) := by decide +kernel
theorem dX9_ask_79 : decode cX9_ask 79 = .ok (.getfield 38, 3) := by decide +kernel
theorem dX9_ask_82 : decode cX9_ask 82 = .ok (.getfield 121, 3) := by decide +kernel
theorem dX9_ask_85 : decode cX9_ask 85 = .ok (.iload_n 2, 1) := by decide +kernel
theorem dX9_ask_86 : decode cX9_ask 86 = .ok (.iaload, 1) := by decide +kernel
theorem dX9_ask_87 : decode cX9_ask 87 = .ok (.iload_n 1, 1) := by decide +kernel
theorem dX9_ask_88 : decode cX9_ask 88 = .ok (.iconst (-1), 1) := by decide +kernel
theorem dX9_ask_89 : decode cX9_ask 89 = .ok (.invokevirtual 212, 3) := by decide +kernel
theorem dX9_ask_92 : decode cX9_ask 92 = .ok (.istore 4, 2) := by decide +kernel
theorem dX9_ask_94 : decode cX9_ask 94 = .ok (.iload 4, 2) := by decide +kernel
theorem dX9_ask_96 : decode cX9_ask 96 = .ok (.ifCond .ge 19, 3) := by decide +kernel
theorem dX9_ask_99 : decode cX9_ask 99 = .ok (.aload_n 0, 1) := by decide +kernel
theorem dX9_ask_100 : decode cX9_ask 100 = .ok (.iload_n 1, 1) := by decide +kernel
theorem dX9_ask_101 : decode cX9_ask 101 = .ok (.iload 4, 2) := by decide +kernel
theorem dX9_ask_103 : decode cX9_ask 103 = .ok (.iconst (-1), 1) := by decide +kernel
theorem dX9_ask_104 : decode cX9_ask 104 = .ok (.if_icmp .ne 7, 3) := by decide +kernel
theorem dX9_ask_107 : decode cX9_ask 107 = .ok (.iconst 1, 1) := by decide +kernel
theorem dX9_ask_108 : decode cX9_ask 108 = .ok (.goto 4, 3) := by decide +kernel
theorem dX9_ask_111 : decode cX9_ask 111 = .ok (.iconst 0, 1) := by decide +kernel
theorem dX9_ask_112 : decode cX9_ask 112 = .ok (.invokevirtual 169, 3) := by decide +kernel
theorem dX9_ask_115 : decode cX9_ask 115 = .ok (.return_, 1) := by decide +kernel
theorem dX9_guestAsks_0 : decode cX9_guestAsks 0 = .ok (.aload_n 0, 1) := by decide +kernel
theorem dX9_guestAsks_1 : decode cX9_guestAsks 1 = .ok (.getfield 38, 3) := by decide +kernel
theorem dX9_guestAsks_4 : decode cX9_guestAsks 4 = .ok (.getfield 105, 3) := by decide +kernel
theorem dX9_guestAsks_7 : decode cX9_guestAsks 7 = .ok (.iload_n 1, 1) := by decide +kernel
theorem dX9_guestAsks_8 : decode cX9_guestAsks 8 = .ok (.bipush (-3), 2) := by decide +kernel
theorem dX9_guestAsks_10 : decode cX9_guestAsks 10 = .ok (.iastore, 1) := by decide +kernel
theorem dX9_guestAsks_11 : decode cX9_guestAsks 11 = .ok (.aload_n 0, 1) := by decide +kernel
theorem dX9_guestAsks_12 : decode cX9_guestAsks 12 = .ok (.getfield 38, 3) := by decide +kernel
theorem dX9_guestAsks_15 : decode cX9_guestAsks 15 = .ok (.getfield 185, 3) := by decide +kernel
theorem dX9_guestAsks_18 : decode cX9_guestAsks 18 = .ok (.iload_n 1, 1) := by decide +kernel
theorem dX9_guestAsks_19 : decode cX9_guestAsks 19 = .ok (.aload_n 0, 1) := by decide +kernel
theorem dX9_guestAsks_20 : decode cX9_guestAsks 20 = .ok (.getfield 38, 3) := by decide +kernel
theorem dX9_guestAsks_23 : decode cX9_guestAsks 23 = .ok (.getfield 68, 3) := by decide +kernel
theorem dX9_guestAsks_26 : decode cX9_guestAsks 26 = .ok (.aload_n 0, 1) := by decide +kernel
theorem dX9_guestAsks_27 : decode cX9_guestAsks 27 = .ok (.getfield 16, 3) := by decide +kernel
theorem dX9_guestAsks_30 : decode cX9_guestAsks 30 = .ok (.iadd, 1) := by decide +kernel
theorem dX9_guestAsks_31 : decode cX9_guestAsks 31 = .ok (.iastore, 1) := by decide +kernel
theorem dX9_guestAsks_32 : decode cX9_guestAsks 32 = .ok (.aload_n 0, 1) := by decide +kernel
theorem dX9_guestAsks_33 : decode cX9_guestAsks 33 = .ok (.iconst 0, 1) := by decide +kernel
theorem dX9_guestAsks_34 : decode cX9_guestAsks 34 = .ok (.aload_n 0, 1) := by decide +kernel
theorem dX9_guestAsks_35 : decode cX9_guestAsks 35 = .ok (.getfield 38, 3) := by decide +kernel
theorem dX9_guestAsks_38 : decode cX9_guestAsks 38 = .ok (.getfield 188, 3) := by decide +kernel
theorem dX9_guestAsks_41 : decode cX9_guestAsks 41 = .ok (.iload_n 1, 1) := by decide +kernel
theorem dX9_guestAsks_42 : decode cX9_guestAsks 42 = .ok (.iaload, 1) := by decide +kernel
theorem dX9_guestAsks_43 : decode cX9_guestAsks 43 = .ok (.bipush (-4), 2) := by decide +kernel
theorem dX9_guestAsks_45 : decode cX9_guestAsks 45 = .ok (.iload_n 1, 1) := by decide +kernel
theorem dX9_guestAsks_46 : decode cX9_guestAsks 46 = .ok (.invokevirtual 212, 3) := by decide +kernel
theorem dX9_guestAsks_49 : decode cX9_guestAsks 49 = .ok (.istore_n 2, 1) := by decide +kernel
theorem dX9_guestAsks_50 : decode cX9_guestAsks 50 = .ok (.iload_n 2, 1) := by decide +kernel
theorem dX9_guestAsks_51 : decode cX9_guestAsks 51 = .ok (.ifCond .ge 18, 3) := by decide +kernel
theorem dX9_guestAsks_54 : decode cX9_guestAsks 54 = .ok (.aload_n 0, 1) := by decide +kernel
theorem dX9_guestAsks_55 : decode cX9_guestAsks 55 = .ok (.iload_n 1, 1) := by decide +kernel
theorem dX9_guestAsks_56 : decode cX9_guestAsks 56 = .ok (.iload_n 2, 1) := by decide +kernel
theorem dX9_guestAsks_57 : decode cX9_guestAsks 57 = .ok (.iconst (-1), 1) := by decide +kernel
theorem dX9_guestAsks_58 : decode cX9_guestAsks 58 = .ok (.if_icmp .ne 7, 3) := by decide +kernel
theorem dX9_guestAsks_61 : decode cX9_guestAsks 61 = .ok (.iconst 1, 1) := by decide +kernel
theorem dX9_guestAsks_62 : decode cX9_guestAsks 62 = .ok (.goto 4, 3) := by decide +kernel
theorem dX9_guestAsks_65 : decode cX9_guestAsks 65 = .ok (.iconst 0, 1) := by decide +kernel
theorem dX9_guestAsks_66 : decode cX9_guestAsks 66 = .ok (.invokevirtual 176, 3) := by decide +kernel
theorem dX9_guestAsks_69 : decode cX9_guestAsks 69 = .ok (.return_, 1) := by decide +kernel
theorem dX9_guestComes_0 : decode cX9_guestComes 0 = .ok (.aload_n 0, 1) := by decide +kernel
theorem dX9_guestComes_1 : decode cX9_guestComes 1 = .ok (.getfield 38, 3) := by decide +kernel
theorem dX9_guestComes_4 : decode cX9_guestComes 4 = .ok (.dup, 1) := by decide +kernel
theorem dX9_guestComes_5 : decode cX9_guestComes 5 = .ok (.getfield 216, 3) := by decide +kernel
theorem dX9_guestComes_8 : decode cX9_guestComes 8 = .ok (.iconst 1, 1) := by decide +kernel
theorem dX9_guestComes_9 : decode cX9_guestComes 9 = .ok (.iadd, 1) := by decide +kernel
theorem dX9_guestComes_10 : decode cX9_guestComes 10 = .ok (.putfield 216, 3) := by decide +kernel
theorem dX9_guestComes_13 : decode cX9_guestComes 13 = .ok (.aload_n 0, 1) := by decide +kernel
theorem dX9_guestComes_14 : decode cX9_guestComes 14 = .ok (.getfield 38, 3) := by decide +kernel
theorem dX9_guestComes_17 : decode cX9_guestComes 17 = .ok (.getfield 102, 3) := by decide +kernel
theorem dX9_guestComes_20 : decode cX9_guestComes 20 = .ok (.bipush 100, 2) := by decide +kernel
theorem dX9_guestComes_22 : decode cX9_guestComes 22 = .ok (.if_icmp .ne 25, 3) := by decide +kernel
theorem dX9_guestComes_25 : decode cX9_guestComes 25 = .ok (.aload_n 0, 1) := by decide +kernel
theorem dX9_guestComes_26 : decode cX9_guestComes 26 = .ok (.getfield 38, 3) := by decide +kernel
theorem dX9_guestComes_29 : decode cX9_guestComes 29 = .ok (.dup, 1) := by decide +kernel
theorem dX9_guestComes_30 : decode cX9_guestComes 30 = .ok (.getfield 219, 3) := by decide +kernel
theorem dX9_guestComes_33 : decode cX9_guestComes 33 = .ok (.iconst 1, 1) := by decide +kernel
theorem dX9_guestComes_34 : decode cX9_guestComes 34 = .ok (.iadd, 1) := by decide +kernel
theorem dX9_guestComes_35 : decode cX9_guestComes 35 = .ok (.putfield 219, 3) := by decide +kernel
theorem dX9_guestComes_38 : decode cX9_guestComes 38 = .ok (.aload_n 0, 1) := by decide +kernel
theorem dX9_guestComes_39 : decode cX9_guestComes 39 = .ok (.getfield 38, 3) := by decide +kernel
theorem dX9_guestComes_42 : decode cX9_guestComes 42 = .ok (.iconst 0, 1) := by decide +kernel
theorem dX9_guestComes_43 : decode cX9_guestComes 43 = .ok (.putfield 51, 3) := by decide +kernel
theorem dX9_guestComes_46 : decode cX9_guestComes 46 = .ok (.return_, 1) := by decide +kernel
theorem dX9_guestComes_47 : decode cX9_guestComes 47 = .ok (.aload_n 0, 1) := by decide +kernel
theorem dX9_guestComes_48 : decode cX9_guestComes 48 = .ok (.getfield 38, 3) := by decide +kernel
theorem dX9_guestComes_51 : decode cX9_guestComes 51 = .ok (.getfield 188, 3) := by decide +kernel
theorem dX9_guestComes_54 : decode cX9_guestComes 54 = .ok (.aload_n 0, 1) := by decide +kernel
theorem dX9_guestComes_55 : decode cX9_guestComes 55 = .ok (.getfield 38, 3) := by decide +kernel
theorem dX9_guestComes_58 : decode cX9_guestComes 58 = .ok (.getfield 102, 3) := by decide +kernel
theorem dX9_guestComes_61 : decode cX9_guestComes 61 = .ok (.iload_n 1, 1) := by decide +kernel
theorem dX9_guestComes_62 : decode cX9_guestComes 62 = .ok (.iastore, 1) := by decide +kernel
theorem dX9_guestComes_63 : decode cX9_guestComes 63 = .ok (.aload_n 0, 1) := by decide +kernel
theorem dX9_guestComes_64 : decode cX9_guestComes 64 = .ok (.getfield 38, 3) := by decide +kernel
theorem dX9_guestComes_67 : decode cX9_guestComes 67 = .ok (.getfield 191, 3) := by decide +kernel
theorem dX9_guestComes_70 : decode cX9_guestComes 70 = .ok (.aload_n 0, 1) := by decide +kernel
theorem dX9_guestComes_71 : decode cX9_guestComes 71 = .ok (.getfield 38, 3) := by decide +kernel
theorem dX9_guestComes_74 : decode cX9_guestComes 74 = .ok (.getfield 102, 3) := by decide +kernel
theorem dX9_guestComes_77 : decode cX9_guestComes 77 = .ok (.iconst 0, 1) := by decide +kernel
theorem dX9_guestComes_78 : decode cX9_guestComes 78 = .ok (.iastore, 1) := by decide +kernel
theorem dX9_guestComes_79 : decode cX9_guestComes 79 = .ok (.aload_n 0, 1) := by decide +kernel
theorem dX9_guestComes_80 : decode cX9_guestComes 80 = .ok (.getfield 38, 3) := by decide +kernel
theorem dX9_guestComes_83 : decode cX9_guestComes 83 = .ok (.getfield 194, 3) := by decide +kernel
theorem dX9_guestComes_86 : decode cX9_guestComes 86 = .ok (.aload_n 0, 1) := by decide +kernel
theorem dX9_guestComes_87 : decode cX9_guestComes 87 = .ok (.getfield 38, 3) := by decide +kernel
theorem dX9_guestComes_90 : decode cX9_guestComes 90 = .ok (.getfield 102, 3) := by decide +kernel
theorem dX9_guestComes_93 : decode cX9_guestComes 93 = .ok (.aload_n 0, 1) := by decide +kernel
theorem dX9_guestComes_94 : decode cX9_guestComes 94 = .ok (.getfield 38, 3) := by decide +kernel
theorem dX9_guestComes_97 : decode cX9_guestComes 97 = .ok (.getfield 216, 3) := by decide +kernel
theorem dX9_guestComes_100 : decode cX9_guestComes 100 = .ok (.iastore, 1) := by decide +kernel
theorem dX9_guestComes_101 : decode cX9_guestComes 101 = .ok (.aload_n 0, 1) := by decide +kernel
theorem dX9_guestComes_102 : decode cX9_guestComes 102 = .ok (.getfield 38, 3) := by decide +kernel
theorem dX9_guestComes_105 : decode cX9_guestComes 105 = .ok (.dup, 1) := by decide +kernel
theorem dX9_guestComes_106 : decode cX9_guestComes 106 = .ok (.getfield 102, 3) := by decide +kernel
theorem dX9_guestComes_109 : decode cX9_guestComes 109 = .ok (.iconst 1, 1) := by decide +kernel
theorem dX9_guestComes_110 : decode cX9_guestComes 110 = .ok (.iadd, 1) := by decide +kernel
theorem dX9_guestComes_111 : decode cX9_guestComes 111 = .ok (.putfield 102, 3) := by decide +kernel
theorem dX9_guestComes_114 : decode cX9_guestComes 114 = .ok (.aload_n 0, 1) := by decide +kernel
theorem dX9_guestComes_115 : decode cX9_guestComes 115 = .ok (.aload_n 0, 1) := by decide +kernel
theorem dX9_guestComes_116 : decode cX9_guestComes 116 = .ok (.getfield 38, 3) := by decide +kernel
theorem dX9_guestComes_119 : decode cX9_guestComes 119 = .ok (.getfield 102, 3) := by decide +kernel
theorem dX9_guestComes_122 : decode cX9_guestComes 122 = .ok (.iconst 1, 1) := by decide +kernel
theorem dX9_guestComes_123 : decode cX9_guestComes 123 = .ok (.isub, 1) := by decide +kernel
theorem dX9_guestComes_124 : decode cX9_guestComes 124 = .ok (.invokevirtual 222, 3) := by decide +kernel
theorem dX9_guestComes_127 : decode cX9_guestComes 127 = .ok (.return_, 1) := by decide +kernel
theorem dX9_mean_0 : decode cX9_mean 0 = .ok (.aload_n 0, 1) := by decide +kernel
theorem dX9_mean_1 : decode cX9_mean 1 = .ok (.iconst 0, 1) := by decide +kernel
theorem dX9_mean_2 : decode cX9_mean 2 = .ok (.putfield 225, 3) := by decide +kernel
theorem dX9_mean_5 : decode cX9_mean 5 = .ok (.iconst 0, 1) := by decide +kernel
theorem dX9_mean_6 : decode cX9_mean 6 = .ok (.istore_n 2, 1) := by decide +kernel
theorem dX9_mean_7 : decode cX9_mean 7 = .ok (.iload_n 2, 1) := by decide +kernel
theorem dX9_mean_8 : decode cX9_mean 8 = .ok (.aload_n 0, 1) := by decide +kernel
theorem dX9_mean_9 : decode cX9_mean 9 = .ok (.getfield 38, 3) := by decide +kernel
theorem dX9_mean_12 : decode cX9_mean 12 = .ok (.getfield 96, 3) := by decide +kernel
theorem dX9_mean_15 : decode cX9_mean 15 = .ok (.if_icmp .ge 69, 3) := by decide +kernel
theorem dX9_mean_18 : decode cX9_mean 18 = .ok (.aload_n 0, 1) := by decide +kernel
theorem dX9_mean_19 : decode cX9_mean 19 = .ok (.getfield 38, 3) := by decide +kernel
theorem dX9_mean_22 : decode cX9_mean 22 = .ok (.getfield 114, 3) := by decide +kernel
theorem dX9_mean_25 : decode cX9_mean 25 = .ok (.iload_n 2, 1) := by decide +kernel
theorem dX9_mean_26 : decode cX9_mean 26 = .ok (.iaload, 1) := by decide +kernel
theorem dX9_mean_27 : decode cX9_mean 27 = .ok (.iload_n 1, 1) := by decide +kernel
theorem dX9_mean_28 : decode cX9_mean 28 = .ok (.if_icmp .ne 50, 3) := by decide +kernel
theorem dX9_mean_31 : decode cX9_mean 31 = .ok (.aload_n 0, 1) := by decide +kernel
theorem dX9_mean_32 : decode cX9_mean 32 = .ok (.getfield 38, 3) := by decide +kernel
theorem dX9_mean_35 : decode cX9_mean 35 = .ok (.getfield 127, 3) := by decide +kernel
theorem dX9_mean_38 : decode cX9_mean 38 = .ok (.iload_n 2, 1) := by decide +kernel
theorem dX9_mean_39 : decode cX9_mean 39 = .ok (.iaload, 1) := by decide +kernel
theorem dX9_mean_40 : decode cX9_mean 40 = .ok (.aload_n 0, 1) := by decide +kernel
theorem dX9_mean_41 : decode cX9_mean 41 = .ok (.getfield 38, 3) := by decide +kernel
theorem dX9_mean_44 : decode cX9_mean 44 = .ok (.getfield 68, 3) := by decide +kernel
theorem dX9_mean_47 : decode cX9_mean 47 = .ok (.if_icmp .ne 31, 3) := by decide +kernel
theorem dX9_mean_50 : decode cX9_mean 50 = .ok (.aload_n 0, 1) := by decide +kernel
theorem dX9_mean_51 : decode cX9_mean 51 = .ok (.getfield 45, 3) := by decide +kernel
theorem dX9_mean_54 : decode cX9_mean 54 = .ok (.aload_n 0, 1) := by decide +kernel
theorem dX9_mean_55 : decode cX9_mean 55 = .ok (.getfield 225, 3) := by decide +kernel
theorem dX9_mean_58 : decode cX9_mean 58 = .ok (.aload_n 0, 1) := by decide +kernel
theorem dX9_mean_59 : decode cX9_mean 59 = .ok (.getfield 38, 3) := by decide +kernel
theorem dX9_mean_62 : decode cX9_mean 62 = .ok (.getfield 99, 3) := by decide +kernel
theorem dX9_mean_65 : decode cX9_mean 65 = .ok (.iload_n 2, 1) := by decide +kernel
theorem dX9_mean_66 : decode cX9_mean 66 = .ok (.iaload, 1) := by decide +kernel
theorem dX9_mean_67 : decode cX9_mean 67 = .ok (.iastore, 1) := by decide +kernel
theorem dX9_mean_68 : decode cX9_mean 68 = .ok (.aload_n 0, 1) := by decide +kernel
theorem dX9_mean_69 : decode cX9_mean 69 = .ok (.dup, 1) := by decide +kernel
theorem dX9_mean_70 : decode cX9_mean 70 = .ok (.getfield 225, 3) := by decide +kernel
theorem dX9_mean_73 : decode cX9_mean 73 = .ok (.iconst 1, 1) := by decide +kernel
theorem dX9_mean_74 : decode cX9_mean 74 = .ok (.iadd, 1) := by decide +kernel
theorem dX9_mean_75 : decode cX9_mean 75 = .ok (.putfield 225, 3) := by decide +kernel
theorem dX9_mean_78 : decode cX9_mean 78 = .ok (.iinc 2 1, 3) := by decide +kernel
theorem dX9_mean_81 : decode cX9_mean 81 = .ok (.goto (-74), 3) := by decide +kernel
theorem dX9_mean_84 : decode cX9_mean 84 = .ok (.return_, 1) := by decide +kernel
theorem dX9_isSo_0 : decode cX9_isSo 0 = .ok (.aload_n 0, 1) := by decide +kernel
theorem dX9_isSo_1 : decode cX9_isSo 1 = .ok (.iload_n 1, 1) := by decide +kernel
theorem dX9_isSo_2 : decode cX9_isSo 2 = .ok (.invokevirtual 117, 3) := by decide +kernel
theorem dX9_isSo_5 : decode cX9_isSo 5 = .ok (.istore_n 3, 1) := by decide +kernel
theorem dX9_isSo_6 : decode cX9_isSo 6 = .ok (.iload_n 3, 1) := by decide +kernel
theorem dX9_isSo_7 : decode cX9_isSo 7 = .ok (.ifCond .lt 39, 3) := by decide +kernel
theorem dX9_isSo_10 : decode cX9_isSo 10 = .ok (.aload_n 0, 1) := by decide +kernel
theorem dX9_isSo_11 : decode cX9_isSo 11 = .ok (.getfield 38, 3) := by decide +kernel
theorem dX9_isSo_14 : decode cX9_isSo 14 = .ok (.getfield 114, 3) := by decide +kernel
theorem dX9_isSo_17 : decode cX9_isSo 17 = .ok (.iload_n 3, 1) := by decide +kernel
theorem dX9_isSo_18 : decode cX9_isSo 18 = .ok (.iaload, 1) := by decide +kernel
theorem dX9_isSo_19 : decode cX9_isSo 19 = .ok (.iload_n 2, 1) := by decide +kernel
theorem dX9_isSo_20 : decode cX9_isSo 20 = .ok (.if_icmp .ne 26, 3) := by decide +kernel
theorem dX9_isSo_23 : decode cX9_isSo 23 = .ok (.aload_n 0, 1) := by decide +kernel
theorem dX9_isSo_24 : decode cX9_isSo 24 = .ok (.getfield 38, 3) := by decide +kernel
theorem dX9_isSo_27 : decode cX9_isSo 27 = .ok (.getfield 127, 3) := by decide +kernel
theorem dX9_isSo_30 : decode cX9_isSo 30 = .ok (.iload_n 3, 1) := by decide +kernel
theorem dX9_isSo_31 : decode cX9_isSo 31 = .ok (.iaload, 1) := by decide +kernel
theorem dX9_isSo_32 : decode cX9_isSo 32 = .ok (.aload_n 0, 1) := by decide +kernel
theorem dX9_isSo_33 : decode cX9_isSo 33 = .ok (.getfield 38, 3) := by decide +kernel
theorem dX9_isSo_36 : decode cX9_isSo 36 = .ok (.getfield 68, 3) := by decide +kernel
theorem dX9_isSo_39 : decode cX9_isSo 39 = .ok (.if_icmp .ne 7, 3) := by decide +kernel
theorem dX9_isSo_42 : decode cX9_isSo 42 = .ok (.iconst 1, 1) := by decide +kernel
theorem dX9_isSo_43 : decode cX9_isSo 43 = .ok (.goto 4, 3) := by decide +kernel
theorem dX9_isSo_46 : decode cX9_isSo 46 = .ok (.iconst 0, 1) := by decide +kernel
theorem dX9_isSo_47 : decode cX9_isSo 47 = .ok (.ireturn, 1) := by decide +kernel
theorem dX9_workEnds_0 : decode cX9_workEnds 0 = .ok (.aload_n 0, 1) := by decide +kernel
theorem dX9_workEnds_1 : decode cX9_workEnds 1 = .ok (.iconst 1, 1) := by decide +kernel
theorem dX9_workEnds_2 : decode cX9_workEnds 2 = .ok (.invokevirtual 228, 3) := by decide +kernel
theorem dX9_workEnds_5 : decode cX9_workEnds 5 = .ok (.iconst 0, 1) := by decide +kernel
theorem dX9_workEnds_6 : decode cX9_workEnds 6 = .ok (.istore_n 1, 1) := by decide +kernel
theorem dX9_workEnds_7 : decode cX9_workEnds 7 = .ok (.iload_n 1, 1) := by decide +kernel
theorem dX9_workEnds_8 : decode cX9_workEnds 8 = .ok (.aload_n 0, 1) := by decide +kernel
theorem dX9_workEnds_9 : decode cX9_workEnds 9 = .ok (.getfield 225, 3) := by decide +kernel
theorem dX9_workEnds_12 : decode cX9_workEnds 12 = .ok (.if_icmp .ge 61, 3) := by decide +kernel
theorem dX9_workEnds_15 : decode cX9_workEnds 15 = .ok (.aload_n 0, 1) := by decide +kernel
theorem dX9_workEnds_16 : decode cX9_workEnds 16 = .ok (.getfield 45, 3) := by decide +kernel
theorem dX9_workEnds_19 : decode cX9_workEnds 19 = .ok (.iload_n 1, 1) := by decide +kernel
theorem dX9_workEnds_20 : decode cX9_workEnds 20 = .ok (.iaload, 1) := by decide +kernel
theorem dX9_workEnds_21 : decode cX9_workEnds 21 = .ok (.istore_n 2, 1) := by decide +kernel
theorem dX9_workEnds_22 : decode cX9_workEnds 22 = .ok (.aload_n 0, 1) := by decide +kernel
theorem dX9_workEnds_23 : decode cX9_workEnds 23 = .ok (.iload_n 2, 1) := by decide +kernel
theorem dX9_workEnds_24 : decode cX9_workEnds 24 = .ok (.iconst 1, 1) := by decide +kernel
theorem dX9_workEnds_25 : decode cX9_workEnds 25 = .ok (.invokevirtual 231, 3) := by decide +kernel
theorem dX9_workEnds_28 : decode cX9_workEnds 28 = .ok (.ifCond .eq 39, 3) := by decide +kernel
theorem dX9_workEnds_31 : decode cX9_workEnds 31 = .ok (.aload_n 0, 1) := by decide +kernel
theorem dX9_workEnds_32 : decode cX9_workEnds 32 = .ok (.getfield 38, 3) := by decide +kernel
theorem dX9_workEnds_35 : decode cX9_workEnds 35 = .ok (.getfield 111, 3) := by decide +kernel
theorem dX9_workEnds_38 : decode cX9_workEnds 38 = .ok (.aload_n 0, 1) := by decide +kernel
theorem dX9_workEnds_39 : decode cX9_workEnds 39 = .ok (.iload_n 2, 1) := by decide +kernel
theorem dX9_workEnds_40 : decode cX9_workEnds 40 = .ok (.invokevirtual 117, 3) := by decide +kernel
theorem dX9_workEnds_43 : decode cX9_workEnds 43 = .ok (.iaload, 1) := by decide +kernel
theorem dX9_workEnds_44 : decode cX9_workEnds 44 = .ok (.aload_n 0, 1) := by decide +kernel
theorem dX9_workEnds_45 : decode cX9_workEnds 45 = .ok (.getfield 61, 3) := by decide +kernel
theorem dX9_workEnds_48 : decode cX9_workEnds 48 = .ok (.iconst 1, 1) := by decide +kernel
theorem dX9_workEnds_49 : decode cX9_workEnds 49 = .ok (.isub, 1) := by decide +kernel
theorem dX9_workEnds_50 : decode cX9_workEnds 50 = .ok (.if_icmp .ge 11, 3) := by decide +kernel
theorem dX9_workEnds_53 : decode cX9_workEnds 53 = .ok (.aload_n 0, 1) := by decide +kernel
theorem dX9_workEnds_54 : decode cX9_workEnds 54 = .ok (.iload_n 2, 1) := by decide +kernel
theorem dX9_workEnds_55 : decode cX9_workEnds 55 = .ok (.invokevirtual 234, 3) := by decide +kernel
theorem dX9_workEnds_58 : decode cX9_workEnds 58 = .ok (.goto 9, 3) := by decide +kernel
theorem dX9_workEnds_61 : decode cX9_workEnds 61 = .ok (.aload_n 0, 1) := by decide +kernel
theorem dX9_workEnds_62 : decode cX9_workEnds 62 = .ok (.iload_n 2, 1) := by decide +kernel
theorem dX9_workEnds_63 : decode cX9_workEnds 63 = .ok (.iconst 1, 1) := by decide +kernel
theorem dX9_workEnds_64 : decode cX9_workEnds 64 = .ok (.invokevirtual 203, 3) := by decide +kernel
theorem dX9_workEnds_67 : decode cX9_workEnds 67 = .ok (.iinc 1 1, 3) := by decide +kernel
theorem dX9_workEnds_70 : decode cX9_workEnds 70 = .ok (.goto (-63), 3) := by decide +kernel
theorem dX9_workEnds_73 : decode cX9_workEnds 73 = .ok (.return_, 1) := by decide +kernel
theorem dX9_pausesEnd_0 : decode cX9_pausesEnd 0 = .ok (.aload_n 0, 1) := by decide +kernel
theorem dX9_pausesEnd_1 : decode cX9_pausesEnd 1 = .ok (.iconst 3, 1) := by decide +kernel
theorem dX9_pausesEnd_2 : decode cX9_pausesEnd 2 = .ok (.invokevirtual 228, 3) := by decide +kernel
theorem dX9_pausesEnd_5 : decode cX9_pausesEnd 5 = .ok (.iconst 0, 1) := by decide +kernel
theorem dX9_pausesEnd_6 : decode cX9_pausesEnd 6 = .ok (.istore_n 1, 1) := by decide +kernel
theorem dX9_pausesEnd_7 : decode cX9_pausesEnd 7 = .ok (.iload_n 1, 1) := by decide +kernel
theorem dX9_pausesEnd_8 : decode cX9_pausesEnd 8 = .ok (.aload_n 0, 1) := by decide +kernel
theorem dX9_pausesEnd_9 : decode cX9_pausesEnd 9 = .ok (.getfield 225, 3) := by decide +kernel
theorem dX9_pausesEnd_12 : decode cX9_pausesEnd 12 = .ok (.if_icmp .ge 55, 3) := by decide +kernel
theorem dX9_pausesEnd_15 : decode cX9_pausesEnd 15 = .ok (.aload_n 0, 1) := by decide +kernel
theorem dX9_pausesEnd_16 : decode cX9_pausesEnd 16 = .ok (.aload_n 0, 1) := by decide +kernel
theorem dX9_pausesEnd_17 : decode cX9_pausesEnd 17 = .ok (.getfield 45, 3) := by decide +kernel
theorem dX9_pausesEnd_20 : decode cX9_pausesEnd 20 = .ok (.iload_n 1, 1) := by decide +kernel
theorem dX9_pausesEnd_21 : decode cX9_pausesEnd 21 = .ok (.iaload, 1) := by decide +kernel
theorem dX9_pausesEnd_22 : decode cX9_pausesEnd 22 = .ok (.iconst 3, 1) := by decide +kernel
theorem dX9_pausesEnd_23 : decode cX9_pausesEnd 23 = .ok (.invokevirtual 231, 3) := by decide +kernel
theorem dX9_pausesEnd_26 : decode cX9_pausesEnd 26 = .ok (.ifCond .eq 35, 3) := by decide +kernel
theorem dX9_pausesEnd_29 : decode cX9_pausesEnd 29 = .ok (.aload_n 0, 1) := by decide +kernel
theorem dX9_pausesEnd_30 : decode cX9_pausesEnd 30 = .ok (.getfield 38, 3) := by decide +kernel
theorem dX9_pausesEnd_33 : decode cX9_pausesEnd 33 = .ok (.getfield 130, 3) := by decide +kernel
theorem dX9_pausesEnd_36 : decode cX9_pausesEnd 36 = .ok (.aload_n 0, 1) := by decide +kernel
theorem dX9_pausesEnd_37 : decode cX9_pausesEnd 37 = .ok (.aload_n 0, 1) := by decide +kernel
theorem dX9_pausesEnd_38 : decode cX9_pausesEnd 38 = .ok (.getfield 45, 3) := by decide +kernel
theorem dX9_pausesEnd_41 : decode cX9_pausesEnd 41 = .ok (.iload_n 1, 1) := by decide +kernel
theorem dX9_pausesEnd_42 : decode cX9_pausesEnd 42 = .ok (.iaload, 1) := by decide +kernel
theorem dX9_pausesEnd_43 : decode cX9_pausesEnd 43 = .ok (.invokevirtual 117, 3) := by decide +kernel
theorem dX9_pausesEnd_46 : decode cX9_pausesEnd 46 = .ok (.dup2, 1) := by decide +kernel
theorem dX9_pausesEnd_47 : decode cX9_pausesEnd 47 = .ok (.iaload, 1) := by decide +kernel
theorem dX9_pausesEnd_48 : decode cX9_pausesEnd 48 = .ok (.iconst 1, 1) := by decide +kernel
theorem dX9_pausesEnd_49 : decode cX9_pausesEnd 49 = .ok (.iadd, 1) := by decide +kernel
theorem dX9_pausesEnd_50 : decode cX9_pausesEnd 50 = .ok (.iastore, 1) := by decide +kernel
theorem dX9_pausesEnd_51 : decode cX9_pausesEnd 51 = .ok (.aload_n 0, 1) := by decide +kernel
theorem dX9_pausesEnd_52 : decode cX9_pausesEnd 52 = .ok (.aload_n 0, 1) := by decide +kernel
theorem dX9_pausesEnd_53 : decode cX9_pausesEnd 53 = .ok (.getfield 45, 3) := by decide +kernel
theorem dX9_pausesEnd_56 : decode cX9_pausesEnd 56 = .ok (.iload_n 1, 1) := by decide +kernel
theorem dX9_pausesEnd_57 : decode cX9_pausesEnd 57 = .ok (.iaload, 1) := by decide +kernel
theorem dX9_pausesEnd_58 : decode cX9_pausesEnd 58 = .ok (.invokevirtual 234, 3) := by decide +kernel
theorem dX9_pausesEnd_61 : decode cX9_pausesEnd 61 = .ok (.iinc 1 1, 3) := by decide +kernel
theorem dX9_pausesEnd_64 : decode cX9_pausesEnd 64 = .ok (.goto (-57), 3) := by decide +kernel
theorem dX9_pausesEnd_67 : decode cX9_pausesEnd 67 = .ok (.return_, 1) := by decide +kernel
theorem dX9_deadlines_0 : decode cX9_deadlines 0 = .ok (.aload_n 0, 1) := by decide +kernel
theorem dX9_deadlines_1 : decode cX9_deadlines 1 = .ok (.iconst 2, 1) := by decide +kernel
theorem dX9_deadlines_2 : decode cX9_deadlines 2 = .ok (.invokevirtual 228, 3) := by decide +kernel
theorem dX9_deadlines_5 : decode cX9_deadlines 5 = .ok (.iconst 0, 1) := by decide +kernel
theorem dX9_deadlines_6 : decode cX9_deadlines 6 = .ok (.istore_n 1, 1) := by decide +kernel
theorem dX9_deadlines_7 : decode cX9_deadlines 7 = .ok (.iload_n 1, 1) := by decide +kernel
theorem dX9_deadlines_8 : decode cX9_deadlines 8 = .ok (.aload_n 0, 1) := by decide +kernel
theorem dX9_deadlines_9 : decode cX9_deadlines 9 = .ok (.getfield 225, 3) := by decide +kernel
theorem dX9_deadlines_12 : decode cX9_deadlines 12 = .ok (.if_icmp .ge 33, 3) := by decide +kernel
theorem dX9_deadlines_15 : decode cX9_deadlines 15 = .ok (.aload_n 0, 1) := by decide +kernel
theorem dX9_deadlines_16 : decode cX9_deadlines 16 = .ok (.aload_n 0, 1) := by decide +kernel
theorem dX9_deadlines_17 : decode cX9_deadlines 17 = .ok (.getfield 45, 3) := by decide +kernel
theorem dX9_deadlines_20 : decode cX9_deadlines 20 = .ok (.iload_n 1, 1) := by decide +kernel
theorem dX9_deadlines_21 : decode cX9_deadlines 21 = .ok (.iaload, 1) := by decide +kernel
theorem dX9_deadlines_22 : decode cX9_deadlines 22 = .ok (.iconst 2, 1) := by decide +kernel
theorem dX9_deadlines_23 : decode cX9_deadlines 23 = .ok (.invokevirtual 231, 3) := by decide +kernel
theorem dX9_deadlines_26 : decode cX9_deadlines 26 = .ok (.ifCond .eq 13, 3) := by decide +kernel
theorem dX9_deadlines_29 : decode cX9_deadlines 29 = .ok (.aload_n 0, 1) := by decide +kernel
theorem dX9_deadlines_30 : decode cX9_deadlines 30 = .ok (.aload_n 0, 1) := by decide +kernel
theorem dX9_deadlines_31 : decode cX9_deadlines 31 = .ok (.getfield 45, 3) := by decide +kernel
theorem dX9_deadlines_34 : decode cX9_deadlines 34 = .ok (.iload_n 1, 1) := by decide +kernel
theorem dX9_deadlines_35 : decode cX9_deadlines 35 = .ok (.iaload, 1) := by decide +kernel
theorem dX9_deadlines_36 : decode cX9_deadlines 36 = .ok (.invokevirtual 206, 3) := by decide +kernel
theorem dX9_deadlines_39 : decode cX9_deadlines 39 = .ok (.iinc 1 1, 3) := by decide +kernel
theorem dX9_deadlines_42 : decode cX9_deadlines 42 = .ok (.goto (-35), 3) := by decide +kernel
theorem dX9_deadlines_45 : decode cX9_deadlines 45 = .ok (.return_, 1) := by decide +kernel
theorem dX9_guestDeadlines_0 : decode cX9_guestDeadlines 0 = .ok (.iconst 0, 1) := by decide +kernel
theorem dX9_guestDeadlines_1 : decode cX9_guestDeadlines 1 = .ok (.istore_n 1, 1) := by decide +kernel
theorem dX9_guestDeadlines_2 : decode cX9_guestDeadlines 2 = .ok (.iconst 0, 1) := by decide +kernel
theorem dX9_guestDeadlines_3 : decode cX9_guestDeadlines 3 = .ok (.istore_n 2, 1) := by decide +kernel
theorem dX9_guestDeadlines_4 : decode cX9_guestDeadlines 4 = .ok (.iload_n 2, 1) := by decide +kernel
theorem dX9_guestDeadlines_5 : decode cX9_guestDeadlines 5 = .ok (.aload_n 0, 1) := by decide +kernel
theorem dX9_guestDeadlines_6 : decode cX9_guestDeadlines 6 = .ok (.getfield 38, 3) := by decide +kernel
theorem dX9_guestDeadlines_9 : decode cX9_guestDeadlines 9 = .ok (.getfield 102, 3) := by decide +kernel
theorem dX9_guestDeadlines_12 : decode cX9_guestDeadlines 12 = .ok (.if_icmp .ge 46, 3) := by decide +kernel
theorem dX9_guestDeadlines_15 : decode cX9_guestDeadlines 15 = .ok (.aload_n 0, 1) := by decide +kernel
theorem dX9_guestDeadlines_16 : decode cX9_guestDeadlines 16 = .ok (.getfield 38, 3) := by decide +kernel
theorem dX9_guestDeadlines_19 : decode cX9_guestDeadlines 19 = .ok (.getfield 185, 3) := by decide +kernel
theorem dX9_guestDeadlines_22 : decode cX9_guestDeadlines 22 = .ok (.iload_n 2, 1) := by decide +kernel
theorem dX9_guestDeadlines_23 : decode cX9_guestDeadlines 23 = .ok (.iaload, 1) := by decide +kernel
theorem dX9_guestDeadlines_24 : decode cX9_guestDeadlines 24 = .ok (.aload_n 0, 1) := by decide +kernel
theorem dX9_guestDeadlines_25 : decode cX9_guestDeadlines 25 = .ok (.getfield 38, 3) := by decide +kernel
theorem dX9_guestDeadlines_28 : decode cX9_guestDeadlines 28 = .ok (.getfield 68, 3) := by decide +kernel
theorem dX9_guestDeadlines_31 : decode cX9_guestDeadlines 31 = .ok (.if_icmp .ne 21, 3) := by decide +kernel
theorem dX9_guestDeadlines_34 : decode cX9_guestDeadlines 34 = .ok (.aload_n 0, 1) := by decide +kernel
theorem dX9_guestDeadlines_35 : decode cX9_guestDeadlines 35 = .ok (.getfield 48, 3) := by decide +kernel
theorem dX9_guestDeadlines_38 : decode cX9_guestDeadlines 38 = .ok (.iload_n 1, 1) := by decide +kernel
theorem dX9_guestDeadlines_39 : decode cX9_guestDeadlines 39 = .ok (.aload_n 0, 1) := by decide +kernel
theorem dX9_guestDeadlines_40 : decode cX9_guestDeadlines 40 = .ok (.getfield 38, 3) := by decide +kernel
theorem dX9_guestDeadlines_43 : decode cX9_guestDeadlines 43 = .ok (.getfield 194, 3) := by decide +kernel
theorem dX9_guestDeadlines_46 : decode cX9_guestDeadlines 46 = .ok (.iload_n 2, 1) := by decide +kernel
theorem dX9_guestDeadlines_47 : decode cX9_guestDeadlines 47 = .ok (.iaload, 1) := by decide +kernel
theorem dX9_guestDeadlines_48 : decode cX9_guestDeadlines 48 = .ok (.iastore, 1) := by decide +kernel
theorem dX9_guestDeadlines_49 : decode cX9_guestDeadlines 49 = .ok (.iinc 1 1, 3) := by decide +kernel
theorem dX9_guestDeadlines_52 : decode cX9_guestDeadlines 52 = .ok (.iinc 2 1, 3) := by decide +kernel
theorem dX9_guestDeadlines_55 : decode cX9_guestDeadlines 55 = .ok (.goto (-51), 3) := by decide +kernel
theorem dX9_guestDeadlines_58 : decode cX9_guestDeadlines 58 = .ok (.iconst 0, 1) := by decide +kernel
theorem dX9_guestDeadlines_59 : decode cX9_guestDeadlines 59 = .ok (.istore_n 2, 1) := by decide +kernel
theorem dX9_guestDeadlines_60 : decode cX9_guestDeadlines 60 = .ok (.iload_n 2, 1) := by decide +kernel
theorem dX9_guestDeadlines_61 : decode cX9_guestDeadlines 61 = .ok (.iload_n 1, 1) := by decide +kernel
theorem dX9_guestDeadlines_62 : decode cX9_guestDeadlines 62 = .ok (.if_icmp .ge 152, 3) := by decide +kernel
theorem dX9_guestDeadlines_65 : decode cX9_guestDeadlines 65 = .ok (.iconst 0, 1) := by decide +kernel
theorem dX9_guestDeadlines_66 : decode cX9_guestDeadlines 66 = .ok (.istore_n 3, 1) := by decide +kernel
theorem dX9_guestDeadlines_67 : decode cX9_guestDeadlines 67 = .ok (.iload_n 3, 1) := by decide +kernel
theorem dX9_guestDeadlines_68 : decode cX9_guestDeadlines 68 = .ok (.aload_n 0, 1) := by decide +kernel
theorem dX9_guestDeadlines_69 : decode cX9_guestDeadlines 69 = .ok (.getfield 38, 3) := by decide +kernel
theorem dX9_guestDeadlines_72 : decode cX9_guestDeadlines 72 = .ok (.getfield 102, 3) := by decide +kernel
theorem dX9_guestDeadlines_75 : decode cX9_guestDeadlines 75 = .ok (.if_icmp .ge 27, 3) := by decide +kernel
theorem dX9_guestDeadlines_78 : decode cX9_guestDeadlines 78 = .ok (.aload_n 0, 1) := by decide +kernel
theorem dX9_guestDeadlines_79 : decode cX9_guestDeadlines 79 = .ok (.getfield 38, 3) := by decide +kernel
theorem dX9_guestDeadlines_82 : decode cX9_guestDeadlines 82 = .ok (.getfield 194, 3) := by decide +kernel
theorem dX9_guestDeadlines_85 : decode cX9_guestDeadlines 85 = .ok (.iload_n 3, 1) := by decide +kernel
theorem dX9_guestDeadlines_86 : decode cX9_guestDeadlines 86 = .ok (.iaload, 1) := by decide +kernel
theorem dX9_guestDeadlines_87 : decode cX9_guestDeadlines 87 = .ok (.aload_n 0, 1) := by decide +kernel
theorem dX9_guestDeadlines_88 : decode cX9_guestDeadlines 88 = .ok (.getfield 48, 3) := by decide +kernel
theorem dX9_guestDeadlines_91 : decode cX9_guestDeadlines 91 = .ok (.iload_n 2, 1) := by decide +kernel
theorem dX9_guestDeadlines_92 : decode cX9_guestDeadlines 92 = .ok (.iaload, 1) := by decide +kernel
theorem dX9_guestDeadlines_93 : decode cX9_guestDeadlines 93 = .ok (.if_icmp .eq 9, 3) := by decide +kernel
theorem dX9_guestDeadlines_96 : decode cX9_guestDeadlines 96 = .ok (.iinc 3 1, 3) := by decide +kernel
theorem dX9_guestDeadlines_99 : decode cX9_guestDeadlines 99 = .ok (.goto (-32), 3) := by decide +kernel
theorem dX9_guestDeadlines_102 : decode cX9_guestDeadlines 102 = .ok (.iload_n 3, 1) := by decide +kernel
theorem dX9_guestDeadlines_103 : decode cX9_guestDeadlines 103 = .ok (.aload_n 0, 1) := by decide +kernel
theorem dX9_guestDeadlines_104 : decode cX9_guestDeadlines 104 = .ok (.getfield 38, 3) := by decide +kernel
theorem dX9_guestDeadlines_107 : decode cX9_guestDeadlines 107 = .ok (.getfield 102, 3) := by decide +kernel
theorem dX9_guestDeadlines_110 : decode cX9_guestDeadlines 110 = .ok (.if_icmp .ge 98, 3) := by decide +kernel
theorem dX9_guestDeadlines_113 : decode cX9_guestDeadlines 113 = .ok (.aload_n 0, 1) := by decide +kernel
theorem dX9_guestDeadlines_114 : decode cX9_guestDeadlines 114 = .ok (.getfield 38, 3) := by decide +kernel
theorem dX9_guestDeadlines_117 : decode cX9_guestDeadlines 117 = .ok (.getfield 185, 3) := by decide +kernel
theorem dX9_guestDeadlines_120 : decode cX9_guestDeadlines 120 = .ok (.iload_n 3, 1) := by decide +kernel
theorem dX9_guestDeadlines_121 : decode cX9_guestDeadlines 121 = .ok (.iaload, 1) := by decide +kernel
theorem dX9_guestDeadlines_122 : decode cX9_guestDeadlines 122 = .ok (.aload_n 0, 1) := by decide +kernel
theorem dX9_guestDeadlines_123 : decode cX9_guestDeadlines 123 = .ok (.getfield 38, 3) := by decide +kernel
theorem dX9_guestDeadlines_126 : decode cX9_guestDeadlines 126 = .ok (.getfield 68, 3) := by decide +kernel
theorem dX9_guestDeadlines_129 : decode cX9_guestDeadlines 129 = .ok (.if_icmp .ne 79, 3) := by decide +kernel
theorem dX9_guestDeadlines_132 : decode cX9_guestDeadlines 132 = .ok (.aload_n 0, 1) := by decide +kernel
theorem dX9_guestDeadlines_133 : decode cX9_guestDeadlines 133 = .ok (.getfield 38, 3) := by decide +kernel
theorem dX9_guestDeadlines_136 : decode cX9_guestDeadlines 136 = .ok (.iconst 0, 1) := by decide +kernel
theorem dX9_guestDeadlines_137 : decode cX9_guestDeadlines 137 = .ok (.putfield 51, 3) := by decide +kernel
theorem dX9_guestDeadlines_140 : decode cX9_guestDeadlines 140 = .ok (.aload_n 0, 1) := by decide +kernel
theorem dX9_guestDeadlines_141 : decode cX9_guestDeadlines 141 = .ok (.getfield 38, 3) := by decide +kernel
theorem dX9_guestDeadlines_144 : decode cX9_guestDeadlines 144 = .ok (.getfield 191, 3) := by decide +kernel
theorem dX9_guestDeadlines_147 : decode cX9_guestDeadlines 147 = .ok (.iload_n 3, 1) := by decide +kernel
theorem dX9_guestDeadlines_148 : decode cX9_guestDeadlines 148 = .ok (.iaload, 1) := by decide +kernel
theorem dX9_guestDeadlines_149 : decode cX9_guestDeadlines 149 = .ok (.aload_n 0, 1) := by decide +kernel
theorem dX9_guestDeadlines_150 : decode cX9_guestDeadlines 150 = .ok (.getfield 83, 3) := by decide +kernel
theorem dX9_guestDeadlines_153 : decode cX9_guestDeadlines 153 = .ok (.if_icmp .ge 37, 3) := by decide +kernel
theorem dX9_guestDeadlines_156 : decode cX9_guestDeadlines 156 = .ok (.aload_n 0, 1) := by decide +kernel
theorem dX9_guestDeadlines_157 : decode cX9_guestDeadlines 157 = .ok (.getfield 38, 3) := by decide +kernel
theorem dX9_guestDeadlines_160 : decode cX9_guestDeadlines 160 = .ok (.getfield 191, 3) := by decide +kernel
theorem dX9_guestDeadlines_163 : decode cX9_guestDeadlines 163 = .ok (.iload_n 3, 1) := by decide +kernel
theorem dX9_guestDeadlines_164 : decode cX9_guestDeadlines 164 = .ok (.dup2, 1) := by decide +kernel
theorem dX9_guestDeadlines_165 : decode cX9_guestDeadlines 165 = .ok (.iaload, 1) := by decide +kernel
theorem dX9_guestDeadlines_166 : decode cX9_guestDeadlines 166 = .ok (.iconst 1, 1) := by decide +kernel
theorem dX9_guestDeadlines_167 : decode cX9_guestDeadlines 167 = .ok (.iadd, 1) := by decide +kernel
theorem dX9_guestDeadlines_168 : decode cX9_guestDeadlines 168 = .ok (.iastore, 1) := by decide +kernel
theorem dX9_guestDeadlines_169 : decode cX9_guestDeadlines 169 = .ok (.aload_n 0, 1) := by decide +kernel
theorem dX9_guestDeadlines_170 : decode cX9_guestDeadlines 170 = .ok (.getfield 38, 3) := by decide +kernel
theorem dX9_guestDeadlines_173 : decode cX9_guestDeadlines 173 = .ok (.dup, 1) := by decide +kernel
theorem dX9_guestDeadlines_174 : decode cX9_guestDeadlines 174 = .ok (.getfield 237, 3) := by decide +kernel
theorem dX9_guestDeadlines_177 : decode cX9_guestDeadlines 177 = .ok (.iconst 1, 1) := by decide +kernel
theorem dX9_guestDeadlines_178 : decode cX9_guestDeadlines 178 = .ok (.iadd, 1) := by decide +kernel
theorem dX9_guestDeadlines_179 : decode cX9_guestDeadlines 179 = .ok (.putfield 237, 3) := by decide +kernel
theorem dX9_guestDeadlines_182 : decode cX9_guestDeadlines 182 = .ok (.aload_n 0, 1) := by decide +kernel
theorem dX9_guestDeadlines_183 : decode cX9_guestDeadlines 183 = .ok (.iload_n 3, 1) := by decide +kernel
theorem dX9_guestDeadlines_184 : decode cX9_guestDeadlines 184 = .ok (.invokevirtual 222, 3) := by decide +kernel
theorem dX9_guestDeadlines_187 : decode cX9_guestDeadlines 187 = .ok (.goto 21, 3) := by decide +kernel
theorem dX9_guestDeadlines_190 : decode cX9_guestDeadlines 190 = .ok (.aload_n 0, 1) := by decide +kernel
theorem dX9_guestDeadlines_191 : decode cX9_guestDeadlines 191 = .ok (.getfield 38, 3) := by decide +kernel
theorem dX9_guestDeadlines_194 : decode cX9_guestDeadlines 194 = .ok (.dup, 1) := by decide +kernel
theorem dX9_guestDeadlines_195 : decode cX9_guestDeadlines 195 = .ok (.getfield 219, 3) := by decide +kernel
theorem dX9_guestDeadlines_198 : decode cX9_guestDeadlines 198 = .ok (.iconst 1, 1) := by decide +kernel
theorem dX9_guestDeadlines_199 : decode cX9_guestDeadlines 199 = .ok (.iadd, 1) := by decide +kernel
theorem dX9_guestDeadlines_200 : decode cX9_guestDeadlines 200 = .ok (.putfield 219, 3) := by decide +kernel
theorem dX9_guestDeadlines_203 : decode cX9_guestDeadlines 203 = .ok (.aload_n 0, 1) := by decide +kernel
theorem dX9_guestDeadlines_204 : decode cX9_guestDeadlines 204 = .ok (.iload_n 3, 1) := by decide +kernel
theorem dX9_guestDeadlines_205 : decode cX9_guestDeadlines 205 = .ok (.invokevirtual 182, 3) := by decide +kernel
theorem dX9_guestDeadlines_208 : decode cX9_guestDeadlines 208 = .ok (.iinc 2 1, 3) := by decide +kernel
theorem dX9_guestDeadlines_211 : decode cX9_guestDeadlines 211 = .ok (.goto (-151), 3) := by decide +kernel
theorem dX9_guestDeadlines_214 : decode cX9_guestDeadlines 214 = .ok (.return_, 1) := by decide +kernel
theorem dX9_handsTake_0 : decode cX9_handsTake 0 = .ok (.iconst 0, 1) := by decide +kernel
theorem dX9_handsTake_1 : decode cX9_handsTake 1 = .ok (.istore_n 1, 1) := by decide +kernel
theorem dX9_handsTake_2 : decode cX9_handsTake 2 = .ok (.iload_n 1, 1) := by decide +kernel
theorem dX9_handsTake_3 : decode cX9_handsTake 3 = .ok (.aload_n 0, 1) := by decide +kernel
theorem dX9_handsTake_4 : decode cX9_handsTake 4 = .ok (.getfield 61, 3) := by decide +kernel
theorem dX9_handsTake_7 : decode cX9_handsTake 7 = .ok (.if_icmp .ge 62, 3) := by decide +kernel
theorem dX9_handsTake_10 : decode cX9_handsTake 10 = .ok (.aload_n 0, 1) := by decide +kernel
theorem dX9_handsTake_11 : decode cX9_handsTake 11 = .ok (.getfield 38, 3) := by decide +kernel
theorem dX9_handsTake_14 : decode cX9_handsTake 14 = .ok (.getfield 140, 3) := by decide +kernel
theorem dX9_handsTake_17 : decode cX9_handsTake 17 = .ok (.iload_n 1, 1) := by decide +kernel
theorem dX9_handsTake_18 : decode cX9_handsTake 18 = .ok (.iaload, 1) := by decide +kernel
theorem dX9_handsTake_19 : decode cX9_handsTake 19 = .ok (.ifCond .le 44, 3) := by decide +kernel
theorem dX9_handsTake_22 : decode cX9_handsTake 22 = .ok (.aload_n 0, 1) := by decide +kernel
theorem dX9_handsTake_23 : decode cX9_handsTake 23 = .ok (.iload_n 1, 1) := by decide +kernel
theorem dX9_handsTake_24 : decode cX9_handsTake 24 = .ok (.invokevirtual 146, 3) := by decide +kernel
theorem dX9_handsTake_27 : decode cX9_handsTake 27 = .ok (.aload_n 0, 1) := by decide +kernel
theorem dX9_handsTake_28 : decode cX9_handsTake 28 = .ok (.iload_n 1, 1) := by decide +kernel
theorem dX9_handsTake_29 : decode cX9_handsTake 29 = .ok (.bipush 7, 2) := by decide +kernel
theorem dX9_handsTake_31 : decode cX9_handsTake 31 = .ok (.invokevirtual 79, 3) := by decide +kernel
theorem dX9_handsTake_34 : decode cX9_handsTake 34 = .ok (.if_icmp .ge 29, 3) := by decide +kernel
theorem dX9_handsTake_37 : decode cX9_handsTake 37 = .ok (.aload_n 0, 1) := by decide +kernel
theorem dX9_handsTake_38 : decode cX9_handsTake 38 = .ok (.getfield 38, 3) := by decide +kernel
theorem dX9_handsTake_41 : decode cX9_handsTake 41 = .ok (.getfield 143, 3) := by decide +kernel
theorem dX9_handsTake_44 : decode cX9_handsTake 44 = .ok (.bipush 20, 2) := by decide +kernel
theorem dX9_handsTake_46 : decode cX9_handsTake 46 = .ok (.iload_n 1, 1) := by decide +kernel
theorem dX9_handsTake_47 : decode cX9_handsTake 47 = .ok (.imul, 1) := by decide +kernel
theorem dX9_handsTake_48 : decode cX9_handsTake 48 = .ok (.iaload, 1) := by decide +kernel
theorem dX9_handsTake_49 : decode cX9_handsTake 49 = .ok (.istore_n 2, 1) := by decide +kernel
theorem dX9_handsTake_50 : decode cX9_handsTake 50 = .ok (.aload_n 0, 1) := by decide +kernel
theorem dX9_handsTake_51 : decode cX9_handsTake 51 = .ok (.iload_n 1, 1) := by decide +kernel
theorem dX9_handsTake_52 : decode cX9_handsTake 52 = .ok (.invokevirtual 156, 3) := by decide +kernel
theorem dX9_handsTake_55 : decode cX9_handsTake 55 = .ok (.aload_n 0, 1) := by decide +kernel
theorem dX9_handsTake_56 : decode cX9_handsTake 56 = .ok (.iload_n 2, 1) := by decide +kernel
theorem dX9_handsTake_57 : decode cX9_handsTake 57 = .ok (.invokevirtual 152, 3) := by decide +kernel
theorem dX9_handsTake_60 : decode cX9_handsTake 60 = .ok (.goto (-50), 3) := by decide +kernel
theorem dX9_handsTake_63 : decode cX9_handsTake 63 = .ok (.iinc 1 1, 3) := by decide +kernel
theorem dX9_handsTake_66 : decode cX9_handsTake 66 = .ok (.goto (-64), 3) := by decide +kernel
theorem dX9_handsTake_69 : decode cX9_handsTake 69 = .ok (.return_, 1) := by decide +kernel
theorem dX9_guestsCome_0 : decode cX9_guestsCome 0 = .ok (.aload_n 0, 1) := by decide +kernel
theorem dX9_guestsCome_1 : decode cX9_guestsCome 1 = .ok (.getfield 240, 3) := by decide +kernel
theorem dX9_guestsCome_4 : decode cX9_guestsCome 4 = .ok (.ifCond .eq 35, 3) := by decide +kernel
theorem dX9_guestsCome_7 : decode cX9_guestsCome 7 = .ok (.iconst 0, 1) := by decide +kernel
theorem dX9_guestsCome_8 : decode cX9_guestsCome 8 = .ok (.istore_n 1, 1) := by decide +kernel
theorem dX9_guestsCome_9 : decode cX9_guestsCome 9 = .ok (.iload_n 1, 1) := by decide +kernel
theorem dX9_guestsCome_10 : decode cX9_guestsCome 10 = .ok (.aload_n 0, 1) := by decide +kernel
theorem dX9_guestsCome_11 : decode cX9_guestsCome 11 = .ok (.getfield 243, 3) := by decide +kernel
theorem dX9_guestsCome_14 : decode cX9_guestsCome 14 = .ok (.if_icmp .ge 17, 3) := by decide +kernel
theorem dX9_guestsCome_17 : decode cX9_guestsCome 17 = .ok (.aload_n 0, 1) := by decide +kernel
theorem dX9_guestsCome_18 : decode cX9_guestsCome 18 = .ok (.aload_n 0, 1) := by decide +kernel
theorem dX9_guestsCome_19 : decode cX9_guestsCome 19 = .ok (.getfield 246, 3) := by decide +kernel
theorem dX9_guestsCome_22 : decode cX9_guestsCome 22 = .ok (.invokevirtual 249, 3) := by decide +kernel
theorem dX9_guestsCome_25 : decode cX9_guestsCome 25 = .ok (.iinc 1 1, 3) := by decide +kernel
theorem dX9_guestsCome_28 : decode cX9_guestsCome 28 = .ok (.goto (-19), 3) := by decide +kernel
theorem dX9_guestsCome_31 : decode cX9_guestsCome 31 = .ok (.aload_n 0, 1) := by decide +kernel
theorem dX9_guestsCome_32 : decode cX9_guestsCome 32 = .ok (.iconst 0, 1) := by decide +kernel
theorem dX9_guestsCome_33 : decode cX9_guestsCome 33 = .ok (.putfield 243, 3) := by decide +kernel
theorem dX9_guestsCome_36 : decode cX9_guestsCome 36 = .ok (.goto 112, 3) := by decide +kernel
theorem dX9_guestsCome_39 : decode cX9_guestsCome 39 = .ok (.iconst 0, 1) := by decide +kernel
theorem dX9_guestsCome_40 : decode cX9_guestsCome 40 = .ok (.istore_n 1, 1) := by decide +kernel
theorem dX9_guestsCome_41 : decode cX9_guestsCome 41 = .ok (.iconst 0, 1) := by decide +kernel
theorem dX9_guestsCome_42 : decode cX9_guestsCome 42 = .ok (.istore_n 2, 1) := by decide +kernel
theorem dX9_guestsCome_43 : decode cX9_guestsCome 43 = .ok (.iload_n 2, 1) := by decide +kernel
theorem dX9_guestsCome_44 : decode cX9_guestsCome 44 = .ok (.aload_n 0, 1) := by decide +kernel
theorem dX9_guestsCome_45 : decode cX9_guestsCome 45 = .ok (.getfield 90, 3) := by decide +kernel
theorem dX9_guestsCome_48 : decode cX9_guestsCome 48 = .ok (.if_icmp .ge 95, 3) := by decide +kernel
theorem dX9_guestsCome_51 : decode cX9_guestsCome 51 = .ok (.aload_n 0, 1) := by decide +kernel
theorem dX9_guestsCome_52 : decode cX9_guestsCome 52 = .ok (.getfield 20, 3) := by decide +kernel
theorem dX9_guestsCome_55 : decode cX9_guestsCome 55 = .ok (.iload_n 2, 1) := by decide +kernel
theorem dX9_guestsCome_56 : decode cX9_guestsCome 56 = .ok (.iaload, 1) := by decide +kernel
theorem dX9_guestsCome_57 : decode cX9_guestsCome 57 = .ok (.aload_n 0, 1) := by decide +kernel
theorem dX9_guestsCome_58 : decode cX9_guestsCome 58 = .ok (.getfield 38, 3) := by decide +kernel
theorem dX9_guestsCome_61 : decode cX9_guestsCome 61 = .ok (.getfield 68, 3) := by decide +kernel
theorem dX9_guestsCome_64 : decode cX9_guestsCome 64 = .ok (.if_icmp .ne 34, 3) := by decide +kernel
theorem dX9_guestsCome_67 : decode cX9_guestsCome 67 = .ok (.iconst 0, 1) := by decide +kernel
theorem dX9_guestsCome_68 : decode cX9_guestsCome 68 = .ok (.istore_n 3, 1) := by decide +kernel
theorem dX9_guestsCome_69 : decode cX9_guestsCome 69 = .ok (.iload_n 3, 1) := by decide +kernel
theorem dX9_guestsCome_70 : decode cX9_guestsCome 70 = .ok (.aload_n 0, 1) := by decide +kernel
theorem dX9_guestsCome_71 : decode cX9_guestsCome 71 = .ok (.getfield 26, 3) := by decide +kernel
theorem dX9_guestsCome_74 : decode cX9_guestsCome 74 = .ok (.iload_n 2, 1) := by decide +kernel
theorem dX9_guestsCome_75 : decode cX9_guestsCome 75 = .ok (.iaload, 1) := by decide +kernel
theorem dX9_guestsCome_76 : decode cX9_guestsCome 76 = .ok (.if_icmp .ge 19, 3) := by decide +kernel
theorem dX9_guestsCome_79 : decode cX9_guestsCome 79 = .ok (.aload_n 0, 1) := by decide +kernel
theorem dX9_guestsCome_80 : decode cX9_guestsCome 80 = .ok (.aload_n 0, 1) := by decide +kernel
theorem dX9_guestsCome_81 : decode cX9_guestsCome 81 = .ok (.getfield 23, 3) := by decide +kernel
theorem dX9_guestsCome_84 : decode cX9_guestsCome 84 = .ok (.iload_n 2, 1) := by decide +kernel
theorem dX9_guestsCome_85 : decode cX9_guestsCome 85 = .ok (.iaload, 1) := by decide +kernel
theorem dX9_guestsCome_86 : decode cX9_guestsCome 86 = .ok (.invokevirtual 249, 3) := by decide +kernel
theorem dX9_guestsCome_89 : decode cX9_guestsCome 89 = .ok (.iinc 3 1, 3) := by decide +kernel
theorem dX9_guestsCome_92 : decode cX9_guestsCome 92 = .ok (.goto (-23), 3) := by decide +kernel
theorem dX9_guestsCome_95 : decode cX9_guestsCome 95 = .ok (.goto 42, 3) := by decide +kernel
theorem dX9_guestsCome_98 : decode cX9_guestsCome 98 = .ok (.aload_n 0, 1) := by decide +kernel
theorem dX9_guestsCome_99 : decode cX9_guestsCome 99 = .ok (.getfield 20, 3) := by decide +kernel
theorem dX9_guestsCome_102 : decode cX9_guestsCome 102 = .ok (.iload_n 1, 1) := by decide +kernel
theorem dX9_guestsCome_103 : decode cX9_guestsCome 103 = .ok (.aload_n 0, 1) := by decide +kernel
theorem dX9_guestsCome_104 : decode cX9_guestsCome 104 = .ok (.getfield 20, 3) := by decide +kernel
theorem dX9_guestsCome_107 : decode cX9_guestsCome 107 = .ok (.iload_n 2, 1) := by decide +kernel
theorem dX9_guestsCome_108 : decode cX9_guestsCome 108 = .ok (.iaload, 1) := by decide +kernel
theorem dX9_guestsCome_109 : decode cX9_guestsCome 109 = .ok (.iastore, 1) := by decide +kernel
theorem dX9_guestsCome_110 : decode cX9_guestsCome 110 = .ok (.aload_n 0, 1) := by decide +kernel
theorem dX9_guestsCome_111 : decode cX9_guestsCome 111 = .ok (.getfield 23, 3) := by decide +kernel
theorem dX9_guestsCome_114 : decode cX9_guestsCome 114 = .ok (.iload_n 1, 1) := by decide +kernel
theorem dX9_guestsCome_115 : decode cX9_guestsCome 115 = .ok (.aload_n 0, 1) := by decide +kernel
theorem dX9_guestsCome_116 : decode cX9_guestsCome 116 = .ok (.getfield 23, 3) := by decide +kernel
theorem dX9_guestsCome_119 : decode cX9_guestsCome 119 = .ok (.iload_n 2, 1) := by decide +kernel
theorem dX9_guestsCome_120 : decode cX9_guestsCome 120 = .ok (.iaload, 1) := by decide +kernel
theorem dX9_guestsCome_121 : decode cX9_guestsCome 121 = .ok (.iastore, 1) := by decide +kernel
theorem dX9_guestsCome_122 : decode cX9_guestsCome 122 = .ok (.aload_n 0, 1) := by decide +kernel
theorem dX9_guestsCome_123 : decode cX9_guestsCome 123 = .ok (.getfield 26, 3) := by decide +kernel
theorem dX9_guestsCome_126 : decode cX9_guestsCome 126 = .ok (.iload_n 1, 1) := by decide +kernel
theorem dX9_guestsCome_127 : decode cX9_guestsCome 127 = .ok (.aload_n 0, 1) := by decide +kernel
theorem dX9_guestsCome_128 : decode cX9_guestsCome 128 = .ok (.getfield 26, 3) := by decide +kernel
theorem dX9_guestsCome_131 : decode cX9_guestsCome 131 = .ok (.iload_n 2, 1) := by decide +kernel
theorem dX9_guestsCome_132 : decode cX9_guestsCome 132 = .ok (.iaload, 1) := by decide +kernel
theorem dX9_guestsCome_133 : decode cX9_guestsCome 133 = .ok (.iastore, 1) := by decide +kernel
theorem dX9_guestsCome_134 : decode cX9_guestsCome 134 = .ok (.iinc 1 1, 3) := by decide +kernel
theorem dX9_guestsCome_137 : decode cX9_guestsCome 137 = .ok (.iinc 2 1, 3) := by decide +kernel
theorem dX9_guestsCome_140 : decode cX9_guestsCome 140 = .ok (.goto (-97), 3) := by decide +kernel
theorem dX9_guestsCome_143 : decode cX9_guestsCome 143 = .ok (.aload_n 0, 1) := by decide +kernel
theorem dX9_guestsCome_144 : decode cX9_guestsCome 144 = .ok (.iload_n 1, 1) := by decide +kernel
theorem dX9_guestsCome_145 : decode cX9_guestsCome 145 = .ok (.putfield 90, 3) := by decide +kernel
theorem dX9_guestsCome_148 : decode cX9_guestsCome 148 = .ok (.iconst 0, 1) := by decide +kernel
theorem dX9_guestsCome_149 : decode cX9_guestsCome 149 = .ok (.istore_n 1, 1) := by decide +kernel
theorem dX9_guestsCome_150 : decode cX9_guestsCome 150 = .ok (.aload_n 0, 1) := by decide +kernel
theorem dX9_guestsCome_151 : decode cX9_guestsCome 151 = .ok (.getfield 93, 3) := by decide +kernel
theorem dX9_guestsCome_154 : decode cX9_guestsCome 154 = .ok (.ifCond .le 51, 3) := by decide +kernel
theorem dX9_guestsCome_157 : decode cX9_guestsCome 157 = .ok (.iload_n 1, 1) := by decide +kernel
theorem dX9_guestsCome_158 : decode cX9_guestsCome 158 = .ok (.aload_n 0, 1) := by decide +kernel
theorem dX9_guestsCome_159 : decode cX9_guestsCome 159 = .ok (.getfield 32, 3) := by decide +kernel
theorem dX9_guestsCome_162 : decode cX9_guestsCome 162 = .ok (.aload_n 0, 1) := by decide +kernel
theorem dX9_guestsCome_163 : decode cX9_guestsCome 163 = .ok (.getfield 38, 3) := by decide +kernel
theorem dX9_guestsCome_166 : decode cX9_guestsCome 166 = .ok (.getfield 68, 3) := by decide +kernel
theorem dX9_guestsCome_169 : decode cX9_guestsCome 169 = .ok (.aload_n 0, 1) := by decide +kernel
theorem dX9_guestsCome_170 : decode cX9_guestsCome 170 = .ok (.getfield 93, 3) := by decide +kernel
theorem dX9_guestsCome_173 : decode cX9_guestsCome 173 = .ok (.irem, 1) := by decide +kernel
theorem dX9_guestsCome_174 : decode cX9_guestsCome 174 = .ok (.iaload, 1) := by decide +kernel
theorem dX9_guestsCome_175 : decode cX9_guestsCome 175 = .ok (.if_icmp .ge 30, 3) := by decide +kernel
theorem dX9_guestsCome_178 : decode cX9_guestsCome 178 = .ok (.aload_n 0, 1) := by decide +kernel
theorem dX9_guestsCome_179 : decode cX9_guestsCome 179 = .ok (.aload_n 0, 1) := by decide +kernel
theorem dX9_guestsCome_180 : decode cX9_guestsCome 180 = .ok (.getfield 29, 3) := by decide +kernel
theorem dX9_guestsCome_183 : decode cX9_guestsCome 183 = .ok (.aload_n 0, 1) := by decide +kernel
theorem dX9_guestsCome_184 : decode cX9_guestsCome 184 = .ok (.getfield 38, 3) := by decide +kernel
theorem dX9_guestsCome_187 : decode cX9_guestsCome 187 = .ok (.getfield 68, 3) := by decide +kernel
theorem dX9_guestsCome_190 : decode cX9_guestsCome 190 = .ok (.aload_n 0, 1) := by decide +kernel
theorem dX9_guestsCome_191 : decode cX9_guestsCome 191 = .ok (.getfield 93, 3) := by decide +kernel
theorem dX9_guestsCome_194 : decode cX9_guestsCome 194 = .ok (.irem, 1) := by decide +kernel
theorem dX9_guestsCome_195 : decode cX9_guestsCome 195 = .ok (.iaload, 1) := by decide +kernel
theorem dX9_guestsCome_196 : decode cX9_guestsCome 196 = .ok (.invokevirtual 249, 3) := by decide +kernel
theorem dX9_guestsCome_199 : decode cX9_guestsCome 199 = .ok (.iinc 1 1, 3) := by decide +kernel
theorem dX9_guestsCome_202 : decode cX9_guestsCome 202 = .ok (.goto (-52), 3) := by decide +kernel
theorem dX9_guestsCome_205 : decode cX9_guestsCome 205 = .ok (.return_, 1) := by decide +kernel
theorem dX9_oneTick_0 : decode cX9_oneTick 0 = .ok (.aload_n 0, 1) := by decide +kernel
theorem dX9_oneTick_1 : decode cX9_oneTick 1 = .ok (.getfield 38, 3) := by decide +kernel
theorem dX9_oneTick_4 : decode cX9_oneTick 4 = .ok (.dup, 1) := by decide +kernel
theorem dX9_oneTick_5 : decode cX9_oneTick 5 = .ok (.getfield 68, 3) := by decide +kernel
theorem dX9_oneTick_8 : decode cX9_oneTick 8 = .ok (.iconst 1, 1) := by decide +kernel
theorem dX9_oneTick_9 : decode cX9_oneTick 9 = .ok (.iadd, 1) := by decide +kernel
theorem dX9_oneTick_10 : decode cX9_oneTick 10 = .ok (.putfield 68, 3) := by decide +kernel
theorem dX9_oneTick_13 : decode cX9_oneTick 13 = .ok (.aload_n 0, 1) := by decide +kernel
theorem dX9_oneTick_14 : decode cX9_oneTick 14 = .ok (.getfield 38, 3) := by decide +kernel
theorem dX9_oneTick_17 : decode cX9_oneTick 17 = .ok (.iconst 1, 1) := by decide +kernel
theorem dX9_oneTick_18 : decode cX9_oneTick 18 = .ok (.putfield 51, 3) := by decide +kernel
theorem dX9_oneTick_21 : decode cX9_oneTick 21 = .ok (.aload_n 0, 1) := by decide +kernel
theorem dX9_oneTick_22 : decode cX9_oneTick 22 = .ok (.invokevirtual 252, 3) := by decide +kernel
theorem dX9_oneTick_25 : decode cX9_oneTick 25 = .ok (.aload_n 0, 1) := by decide +kernel
theorem dX9_oneTick_26 : decode cX9_oneTick 26 = .ok (.invokevirtual 255, 3) := by decide +kernel
theorem dX9_oneTick_29 : decode cX9_oneTick 29 = .ok (.aload_n 0, 1) := by decide +kernel
theorem dX9_oneTick_30 : decode cX9_oneTick 30 = .ok (.invokevirtual 258, 3) := by decide +kernel
theorem dX9_oneTick_33 : decode cX9_oneTick 33 = .ok (.aload_n 0, 1) := by decide +kernel
theorem dX9_oneTick_34 : decode cX9_oneTick 34 = .ok (.invokevirtual 261, 3) := by decide +kernel
theorem dX9_oneTick_37 : decode cX9_oneTick 37 = .ok (.aload_n 0, 1) := by decide +kernel
theorem dX9_oneTick_38 : decode cX9_oneTick 38 = .ok (.invokevirtual 264, 3) := by decide +kernel
theorem dX9_oneTick_41 : decode cX9_oneTick 41 = .ok (.aload_n 0, 1) := by decide +kernel
theorem dX9_oneTick_42 : decode cX9_oneTick 42 = .ok (.invokevirtual 267, 3) := by decide +kernel
theorem dX9_oneTick_45 : decode cX9_oneTick 45 = .ok (.return_, 1) := by decide +kernel
theorem dX9_ticks_0 : decode cX9_ticks 0 = .ok (.iload_n 1, 1) := by decide +kernel
theorem dX9_ticks_1 : decode cX9_ticks 1 = .ok (.iconst 1, 1) := by decide +kernel
theorem dX9_ticks_2 : decode cX9_ticks 2 = .ok (.sipush 500, 3) := by decide +kernel
theorem dX9_ticks_5 : decode cX9_ticks 5 = .ok (.invokestatic 64, 3) := by decide +kernel
theorem dX9_ticks_8 : decode cX9_ticks 8 = .ok (.ifCond .eq 17, 3) := by decide +kernel
theorem dX9_ticks_11 : decode cX9_ticks 11 = .ok (.aload_n 0, 1) := by decide +kernel
theorem dX9_ticks_12 : decode cX9_ticks 12 = .ok (.getfield 38, 3) := by decide +kernel
theorem dX9_ticks_15 : decode cX9_ticks 15 = .ok (.getfield 68, 3) := by decide +kernel
theorem dX9_ticks_18 : decode cX9_ticks 18 = .ok (.iload_n 1, 1) := by decide +kernel
theorem dX9_ticks_19 : decode cX9_ticks 19 = .ok (.iadd, 1) := by decide +kernel
theorem dX9_ticks_20 : decode cX9_ticks 20 = .ok (.ldc 86, 2) := by decide +kernel
theorem dX9_ticks_22 : decode cX9_ticks 22 = .ok (.if_icmp .le 5, 3) := by decide +kernel
theorem dX9_ticks_25 : decode cX9_ticks 25 = .ok (.iconst (-1), 1) := by decide +kernel
theorem dX9_ticks_26 : decode cX9_ticks 26 = .ok (.ireturn, 1) := by decide +kernel
theorem dX9_ticks_27 : decode cX9_ticks 27 = .ok (.aload_n 0, 1) := by decide +kernel
theorem dX9_ticks_28 : decode cX9_ticks 28 = .ok (.getfield 61, 3) := by decide +kernel
theorem dX9_ticks_31 : decode cX9_ticks 31 = .ok (.ifCond .ne 6, 3) := by decide +kernel
theorem dX9_ticks_34 : decode cX9_ticks 34 = .ok (.bipush (-3), 2) := by decide +kernel
theorem dX9_ticks_36 : decode cX9_ticks 36 = .ok (.ireturn, 1) := by decide +kernel
theorem dX9_ticks_37 : decode cX9_ticks 37 = .ok (.iconst 0, 1) := by decide +kernel
theorem dX9_ticks_38 : decode cX9_ticks 38 = .ok (.istore_n 2, 1) := by decide +kernel
theorem dX9_ticks_39 : decode cX9_ticks 39 = .ok (.iload_n 2, 1) := by decide +kernel
theorem dX9_ticks_40 : decode cX9_ticks 40 = .ok (.iload_n 1, 1) := by decide +kernel
theorem dX9_ticks_41 : decode cX9_ticks 41 = .ok (.if_icmp .ge 13, 3) := by decide +kernel
theorem dX9_ticks_44 : decode cX9_ticks 44 = .ok (.aload_n 0, 1) := by decide +kernel
theorem dX9_ticks_45 : decode cX9_ticks 45 = .ok (.invokevirtual 270, 3) := by decide +kernel
theorem dX9_ticks_48 : decode cX9_ticks 48 = .ok (.iinc 2 1, 3) := by decide +kernel
theorem dX9_ticks_51 : decode cX9_ticks 51 = .ok (.goto (-12), 3) := by decide +kernel
theorem dX9_ticks_54 : decode cX9_ticks 54 = .ok (.aload_n 0, 1) := by decide +kernel
theorem dX9_ticks_55 : decode cX9_ticks 55 = .ok (.getfield 38, 3) := by decide +kernel
theorem dX9_ticks_58 : decode cX9_ticks 58 = .ok (.getfield 68, 3) := by decide +kernel
theorem dX9_ticks_61 : decode cX9_ticks 61 = .ok (.ireturn, 1) := by decide +kernel
theorem dX9_about_0 : decode cX9_about 0 = .ok (.aload_n 0, 1) := by decide +kernel
theorem dX9_about_1 : decode cX9_about 1 = .ok (.iload_n 1, 1) := by decide +kernel
theorem dX9_about_2 : decode cX9_about 2 = .ok (.invokevirtual 71, 3) := by decide +kernel
theorem dX9_about_5 : decode cX9_about 5 = .ok (.ifCond .eq 13, 3) := by decide +kernel
theorem dX9_about_8 : decode cX9_about 8 = .ok (.iload_n 2, 1) := by decide +kernel
theorem dX9_about_9 : decode cX9_about 9 = .ok (.iconst 0, 1) := by decide +kernel
theorem dX9_about_10 : decode cX9_about 10 = .ok (.bipush 12, 2) := by decide +kernel
theorem dX9_about_12 : decode cX9_about 12 = .ok (.invokestatic 64, 3) := by decide +kernel
theorem dX9_about_15 : decode cX9_about 15 = .ok (.ifCond .ne 5, 3) := by decide +kernel
theorem dX9_about_18 : decode cX9_about 18 = .ok (.iconst (-1), 1) := by decide +kernel
theorem dX9_about_19 : decode cX9_about 19 = .ok (.ireturn, 1) := by decide +kernel
theorem dX9_about_20 : decode cX9_about 20 = .ok (.iload_n 2, 1) := by decide +kernel
theorem dX9_about_21 : decode cX9_about 21 = .ok (.iconst 4, 1) := by decide +kernel
theorem dX9_about_22 : decode cX9_about 22 = .ok (.if_icmp .ge 64, 3) := by decide +kernel
theorem dX9_about_25 : decode cX9_about 25 = .ok (.iconst 0, 1) := by decide +kernel
theorem dX9_about_26 : decode cX9_about 26 = .ok (.istore_n 3, 1) := by decide +kernel
theorem dX9_about_27 : decode cX9_about 27 = .ok (.iconst 0, 1) := by decide +kernel
theorem dX9_about_28 : decode cX9_about 28 = .ok (.istore 4, 2) := by decide +kernel
theorem dX9_about_30 : decode cX9_about 30 = .ok (.iload 4, 2) := by decide +kernel
theorem dX9_about_32 : decode cX9_about 32 = .ok (.aload_n 0, 1) := by decide +kernel
theorem dX9_about_33 : decode cX9_about 33 = .ok (.getfield 38, 3) := by decide +kernel
theorem dX9_about_36 : decode cX9_about 36 = .ok (.getfield 96, 3) := by decide +kernel
theorem dX9_about_39 : decode cX9_about 39 = .ok (.if_icmp .ge 45, 3) := by decide +kernel
theorem dX9_about_42 : decode cX9_about 42 = .ok (.iload_n 3, 1) := by decide +kernel
theorem dX9_about_43 : decode cX9_about 43 = .ok (.aload_n 0, 1) := by decide +kernel
theorem dX9_about_44 : decode cX9_about 44 = .ok (.getfield 38, 3) := by decide +kernel
theorem dX9_about_47 : decode cX9_about 47 = .ok (.getfield 111, 3) := by decide +kernel
theorem dX9_about_50 : decode cX9_about 50 = .ok (.iload 4, 2) := by decide +kernel
theorem dX9_about_52 : decode cX9_about 52 = .ok (.iaload, 1) := by decide +kernel
theorem dX9_about_53 : decode cX9_about 53 = .ok (.iload_n 1, 1) := by decide +kernel
theorem dX9_about_54 : decode cX9_about 54 = .ok (.if_icmp .ne 21, 3) := by decide +kernel
theorem dX9_about_57 : decode cX9_about 57 = .ok (.aload_n 0, 1) := by decide +kernel
theorem dX9_about_58 : decode cX9_about 58 = .ok (.getfield 38, 3) := by decide +kernel
theorem dX9_about_61 : decode cX9_about 61 = .ok (.getfield 114, 3) := by decide +kernel
theorem dX9_about_64 : decode cX9_about 64 = .ok (.iload 4, 2) := by decide +kernel
theorem dX9_about_66 : decode cX9_about 66 = .ok (.iaload, 1) := by decide +kernel
theorem dX9_about_67 : decode cX9_about 67 = .ok (.iload_n 2, 1) := by decide +kernel
theorem dX9_about_68 : decode cX9_about 68 = .ok (.if_icmp .ne 7, 3) := by decide +kernel
theorem dX9_about_71 : decode cX9_about 71 = .ok (.iconst 1, 1) := by decide +kernel
theorem dX9_about_72 : decode cX9_about 72 = .ok (.goto 4, 3) := by decide +kernel
theorem dX9_about_75 : decode cX9_about 75 = .ok (.iconst 0, 1) := by decide +kernel
theorem dX9_about_76 : decode cX9_about 76 = .ok (.iadd, 1) := by decide +kernel
theorem dX9_about_77 : decode cX9_about 77 = .ok (.istore_n 3, 1) := by decide +kernel
theorem dX9_about_78 : decode cX9_about 78 = .ok (.iinc 4 1, 3) := by decide +kernel
theorem dX9_about_81 : decode cX9_about 81 = .ok (.goto (-51), 3) := by decide +kernel
theorem dX9_about_84 : decode cX9_about 84 = .ok (.iload_n 3, 1) := by decide +kernel
theorem dX9_about_85 : decode cX9_about 85 = .ok (.ireturn, 1) := by decide +kernel
theorem dX9_about_86 : decode cX9_about 86 = .ok (.iload_n 2, 1) := by decide +kernel
theorem dX9_about_87 : decode cX9_about 87 = .ok (.iconst 4, 1) := by decide +kernel
theorem dX9_about_88 : decode cX9_about 88 = .ok (.if_icmp .ne 27, 3) := by decide +kernel
theorem dX9_about_91 : decode cX9_about 91 = .ok (.aload_n 0, 1) := by decide +kernel
theorem dX9_about_92 : decode cX9_about 92 = .ok (.iload_n 1, 1) := by decide +kernel
theorem dX9_about_93 : decode cX9_about 93 = .ok (.invokevirtual 209, 3) := by decide +kernel
theorem dX9_about_96 : decode cX9_about 96 = .ok (.ifCond .eq 15, 3) := by decide +kernel
theorem dX9_about_99 : decode cX9_about 99 = .ok (.aload_n 0, 1) := by decide +kernel
theorem dX9_about_100 : decode cX9_about 100 = .ok (.getfield 38, 3) := by decide +kernel
theorem dX9_about_103 : decode cX9_about 103 = .ok (.getfield 58, 3) := by decide +kernel
theorem dX9_about_106 : decode cX9_about 106 = .ok (.iload_n 1, 1) := by decide +kernel
theorem dX9_about_107 : decode cX9_about 107 = .ok (.iaload, 1) := by decide +kernel
theorem dX9_about_108 : decode cX9_about 108 = .ok (.goto 38, 3) := by decide +kernel
theorem dX9_about_111 : decode cX9_about 111 = .ok (.iconst (-1), 1) := by decide +kernel
theorem dX9_about_112 : decode cX9_about 112 = .ok (.goto 34, 3) := by decide +kernel
theorem dX9_about_115 : decode cX9_about 115 = .ok (.iload_n 2, 1) := by decide +kernel
theorem dX9_about_116 : decode cX9_about 116 = .ok (.iconst 5, 1) := by decide +kernel
theorem dX9_about_117 : decode cX9_about 117 = .ok (.if_icmp .ne 15, 3) := by decide +kernel
theorem dX9_about_120 : decode cX9_about 120 = .ok (.aload_n 0, 1) := by decide +kernel
theorem dX9_about_121 : decode cX9_about 121 = .ok (.getfield 38, 3) := by decide +kernel
theorem dX9_about_124 : decode cX9_about 124 = .ok (.getfield 200, 3) := by decide +kernel
theorem dX9_about_127 : decode cX9_about 127 = .ok (.iload_n 1, 1) := by decide +kernel
theorem dX9_about_128 : decode cX9_about 128 = .ok (.iaload, 1) := by decide +kernel
theorem dX9_about_129 : decode cX9_about 129 = .ok (.goto 17, 3) := by decide +kernel
theorem dX9_about_132 : decode cX9_about 132 = .ok (.aload_n 0, 1) := by decide +kernel
theorem dX9_about_133 : decode cX9_about 133 = .ok (.getfield 38, 3) := by decide +kernel
theorem dX9_about_136 : decode cX9_about 136 = .ok (.getfield 108, 3) := by decide +kernel
theorem dX9_about_139 : decode cX9_about 139 = .ok (.bipush 13, 2) := by decide +kernel
theorem dX9_about_141 : decode cX9_about 141 = .ok (.iload_n 1, 1) := by decide +kernel
theorem dX9_about_142 : decode cX9_about 142 = .ok (.imul, 1) := by decide +kernel
theorem dX9_about_143 : decode cX9_about 143 = .ok (.iload_n 2, 1) := by decide +kernel
theorem dX9_about_144 : decode cX9_about 144 = .ok (.iadd, 1) := by decide +kernel
theorem dX9_about_145 : decode cX9_about 145 = .ok (.iaload, 1) := by decide +kernel
theorem dX9_about_146 : decode cX9_about 146 = .ok (.ireturn, 1) := by decide +kernel
theorem dX9_ruleOf_0 : decode cX9_ruleOf 0 = .ok (.aload_n 0, 1) := by decide +kernel
theorem dX9_ruleOf_1 : decode cX9_ruleOf 1 = .ok (.iload_n 1, 1) := by decide +kernel
theorem dX9_ruleOf_2 : decode cX9_ruleOf 2 = .ok (.invokevirtual 71, 3) := by decide +kernel
theorem dX9_ruleOf_5 : decode cX9_ruleOf 5 = .ok (.ifCond .eq 13, 3) := by decide +kernel
theorem dX9_ruleOf_8 : decode cX9_ruleOf 8 = .ok (.iload_n 2, 1) := by decide +kernel
theorem dX9_ruleOf_9 : decode cX9_ruleOf 9 = .ok (.iconst 0, 1) := by decide +kernel
theorem dX9_ruleOf_10 : decode cX9_ruleOf 10 = .ok (.bipush 9, 2) := by decide +kernel
theorem dX9_ruleOf_12 : decode cX9_ruleOf 12 = .ok (.invokestatic 64, 3) := by decide +kernel
theorem dX9_ruleOf_15 : decode cX9_ruleOf 15 = .ok (.ifCond .ne 5, 3) := by decide +kernel
theorem dX9_ruleOf_18 : decode cX9_ruleOf 18 = .ok (.iconst (-1), 1) := by decide +kernel
theorem dX9_ruleOf_19 : decode cX9_ruleOf 19 = .ok (.ireturn, 1) := by decide +kernel
theorem dX9_ruleOf_20 : decode cX9_ruleOf 20 = .ok (.iload_n 2, 1) := by decide +kernel
theorem dX9_ruleOf_21 : decode cX9_ruleOf 21 = .ok (.bipush 9, 2) := by decide +kernel
theorem dX9_ruleOf_23 : decode cX9_ruleOf 23 = .ok (.if_icmp .ne 12, 3) := by decide +kernel
theorem dX9_ruleOf_26 : decode cX9_ruleOf 26 = .ok (.aload_n 0, 1) := by decide +kernel
theorem dX9_ruleOf_27 : decode cX9_ruleOf 27 = .ok (.getfield 13, 3) := by decide +kernel
theorem dX9_ruleOf_30 : decode cX9_ruleOf 30 = .ok (.iload_n 1, 1) := by decide +kernel
theorem dX9_ruleOf_31 : decode cX9_ruleOf 31 = .ok (.iaload, 1) := by decide +kernel
theorem dX9_ruleOf_32 : decode cX9_ruleOf 32 = .ok (.goto 9, 3) := by decide +kernel
theorem dX9_ruleOf_35 : decode cX9_ruleOf 35 = .ok (.aload_n 0, 1) := by decide +kernel
theorem dX9_ruleOf_36 : decode cX9_ruleOf 36 = .ok (.iload_n 1, 1) := by decide +kernel
theorem dX9_ruleOf_37 : decode cX9_ruleOf 37 = .ok (.iload_n 2, 1) := by decide +kernel
theorem dX9_ruleOf_38 : decode cX9_ruleOf 38 = .ok (.invokevirtual 79, 3) := by decide +kernel
theorem dX9_ruleOf_41 : decode cX9_ruleOf 41 = .ok (.ireturn, 1) := by decide +kernel
theorem dX9_kept_0 : decode cX9_kept 0 = .ok (.aload_n 0, 1) := by decide +kernel
theorem dX9_kept_1 : decode cX9_kept 1 = .ok (.iload_n 1, 1) := by decide +kernel
theorem dX9_kept_2 : decode cX9_kept 2 = .ok (.invokevirtual 71, 3) := by decide +kernel
theorem dX9_kept_5 : decode cX9_kept 5 = .ok (.ifCond .eq 10, 3) := by decide +kernel
theorem dX9_kept_8 : decode cX9_kept 8 = .ok (.iload_n 2, 1) := by decide +kernel
theorem dX9_kept_9 : decode cX9_kept 9 = .ok (.invokestatic 87, 3) := by decide +kernel
theorem dX9_kept_12 : decode cX9_kept 12 = .ok (.ifCond .ne 5, 3) := by decide +kernel
theorem dX9_kept_15 : decode cX9_kept 15 = .ok (.iconst (-1), 1) := by decide +kernel
theorem dX9_kept_16 : decode cX9_kept 16 = .ok (.ireturn, 1) := by decide +kernel
theorem dX9_kept_17 : decode cX9_kept 17 = .ok (.aload_n 0, 1) := by decide +kernel
theorem dX9_kept_18 : decode cX9_kept 18 = .ok (.getfield 38, 3) := by decide +kernel
theorem dX9_kept_21 : decode cX9_kept 21 = .ok (.getfield 55, 3) := by decide +kernel
theorem dX9_kept_24 : decode cX9_kept 24 = .ok (.bipush 8, 2) := by decide +kernel
theorem dX9_kept_26 : decode cX9_kept 26 = .ok (.iload_n 1, 1) := by decide +kernel
theorem dX9_kept_27 : decode cX9_kept 27 = .ok (.imul, 1) := by decide +kernel
theorem dX9_kept_28 : decode cX9_kept 28 = .ok (.iload_n 2, 1) := by decide +kernel
theorem dX9_kept_29 : decode cX9_kept 29 = .ok (.iadd, 1) := by decide +kernel
theorem dX9_kept_30 : decode cX9_kept 30 = .ok (.iaload, 1) := by decide +kernel
theorem dX9_kept_31 : decode cX9_kept 31 = .ok (.istore_n 3, 1) := by decide +kernel
theorem dX9_kept_32 : decode cX9_kept 32 = .ok (.iload_n 3, 1) := by decide +kernel
theorem dX9_kept_33 : decode cX9_kept 33 = .ok (.aload_n 0, 1) := by decide +kernel
theorem dX9_kept_34 : decode cX9_kept 34 = .ok (.getfield 38, 3) := by decide +kernel
theorem dX9_kept_37 : decode cX9_kept 37 = .ok (.getfield 68, 3) := by decide +kernel
theorem dX9_kept_40 : decode cX9_kept 40 = .ok (.if_icmp .lt 7, 3) := by decide +kernel
theorem dX9_kept_43 : decode cX9_kept 43 = .ok (.iload_n 3, 1) := by decide +kernel
theorem dX9_kept_44 : decode cX9_kept 44 = .ok (.goto 5, 3) := by decide +kernel
theorem dX9_kept_47 : decode cX9_kept 47 = .ok (.bipush (-4), 2) := by decide +kernel
theorem dX9_kept_49 : decode cX9_kept 49 = .ok (.ireturn, 1) := by decide +kernel
theorem dX9_callerOf_0 : decode cX9_callerOf 0 = .ok (.aload_n 0, 1) := by decide +kernel
theorem dX9_callerOf_1 : decode cX9_callerOf 1 = .ok (.getfield 38, 3) := by decide +kernel
theorem dX9_callerOf_4 : decode cX9_callerOf 4 = .ok (.getfield 99, 3) := by decide +kernel
theorem dX9_callerOf_7 : decode cX9_callerOf 7 = .ok (.iload_n 1, 1) := by decide +kernel
theorem dX9_callerOf_8 : decode cX9_callerOf 8 = .ok (.iaload, 1) := by decide +kernel
theorem dX9_callerOf_9 : decode cX9_callerOf 9 = .ok (.istore_n 2, 1) := by decide +kernel
theorem dX9_callerOf_10 : decode cX9_callerOf 10 = .ok (.aload_n 0, 1) := by decide +kernel
theorem dX9_callerOf_11 : decode cX9_callerOf 11 = .ok (.getfield 38, 3) := by decide +kernel
theorem dX9_callerOf_14 : decode cX9_callerOf 14 = .ok (.getfield 124, 3) := by decide +kernel
theorem dX9_callerOf_17 : decode cX9_callerOf 17 = .ok (.iload_n 1, 1) := by decide +kernel
theorem dX9_callerOf_18 : decode cX9_callerOf 18 = .ok (.iaload, 1) := by decide +kernel
theorem dX9_callerOf_19 : decode cX9_callerOf 19 = .ok (.ifCond .ge 19, 3) := by decide +kernel
theorem dX9_callerOf_22 : decode cX9_callerOf 22 = .ok (.aload_n 0, 1) := by decide +kernel
theorem dX9_callerOf_23 : decode cX9_callerOf 23 = .ok (.iload_n 2, 1) := by decide +kernel
theorem dX9_callerOf_24 : decode cX9_callerOf 24 = .ok (.invokevirtual 173, 3) := by decide +kernel
theorem dX9_callerOf_27 : decode cX9_callerOf 27 = .ok (.ifCond .lt 8, 3) := by decide +kernel
theorem dX9_callerOf_30 : decode cX9_callerOf 30 = .ok (.bipush (-4), 2) := by decide +kernel
theorem dX9_callerOf_32 : decode cX9_callerOf 32 = .ok (.goto 5, 3) := by decide +kernel
theorem dX9_callerOf_35 : decode cX9_callerOf 35 = .ok (.bipush (-3), 2) := by decide +kernel
theorem dX9_callerOf_37 : decode cX9_callerOf 37 = .ok (.ireturn, 1) := by decide +kernel
theorem dX9_callerOf_38 : decode cX9_callerOf 38 = .ok (.aload_n 0, 1) := by decide +kernel
theorem dX9_callerOf_39 : decode cX9_callerOf 39 = .ok (.aload_n 0, 1) := by decide +kernel
theorem dX9_callerOf_40 : decode cX9_callerOf 40 = .ok (.getfield 38, 3) := by decide +kernel
theorem dX9_callerOf_43 : decode cX9_callerOf 43 = .ok (.getfield 124, 3) := by decide +kernel
theorem dX9_callerOf_46 : decode cX9_callerOf 46 = .ok (.iload_n 1, 1) := by decide +kernel
theorem dX9_callerOf_47 : decode cX9_callerOf 47 = .ok (.iaload, 1) := by decide +kernel
theorem dX9_callerOf_48 : decode cX9_callerOf 48 = .ok (.invokevirtual 117, 3) := by decide +kernel
theorem dX9_callerOf_51 : decode cX9_callerOf 51 = .ok (.istore_n 3, 1) := by decide +kernel
theorem dX9_callerOf_52 : decode cX9_callerOf 52 = .ok (.iload_n 3, 1) := by decide +kernel
theorem dX9_callerOf_53 : decode cX9_callerOf 53 = .ok (.ifCond .lt 41, 3) := by decide +kernel
theorem dX9_callerOf_56 : decode cX9_callerOf 56 = .ok (.aload_n 0, 1) := by decide +kernel
theorem dX9_callerOf_57 : decode cX9_callerOf 57 = .ok (.getfield 38, 3) := by decide +kernel
theorem dX9_callerOf_60 : decode cX9_callerOf 60 = .ok (.getfield 114, 3) := by decide +kernel
theorem dX9_callerOf_63 : decode cX9_callerOf 63 = .ok (.iload_n 3, 1) := by decide +kernel
theorem dX9_callerOf_64 : decode cX9_callerOf 64 = .ok (.iaload, 1) := by decide +kernel
theorem dX9_callerOf_65 : decode cX9_callerOf 65 = .ok (.iconst 2, 1) := by decide +kernel
theorem dX9_callerOf_66 : decode cX9_callerOf 66 = .ok (.if_icmp .ne 28, 3) := by decide +kernel
theorem dX9_callerOf_69 : decode cX9_callerOf 69 = .ok (.aload_n 0, 1) := by decide +kernel
theorem dX9_callerOf_70 : decode cX9_callerOf 70 = .ok (.getfield 38, 3) := by decide +kernel
theorem dX9_callerOf_73 : decode cX9_callerOf 73 = .ok (.getfield 133, 3) := by decide +kernel
theorem dX9_callerOf_76 : decode cX9_callerOf 76 = .ok (.iload_n 3, 1) := by decide +kernel
theorem dX9_callerOf_77 : decode cX9_callerOf 77 = .ok (.iaload, 1) := by decide +kernel
theorem dX9_callerOf_78 : decode cX9_callerOf 78 = .ok (.iload_n 2, 1) := by decide +kernel
theorem dX9_callerOf_79 : decode cX9_callerOf 79 = .ok (.if_icmp .ne 15, 3) := by decide +kernel
theorem dX9_callerOf_82 : decode cX9_callerOf 82 = .ok (.aload_n 0, 1) := by decide +kernel
theorem dX9_callerOf_83 : decode cX9_callerOf 83 = .ok (.getfield 38, 3) := by decide +kernel
theorem dX9_callerOf_86 : decode cX9_callerOf 86 = .ok (.getfield 124, 3) := by decide +kernel
theorem dX9_callerOf_89 : decode cX9_callerOf 89 = .ok (.iload_n 1, 1) := by decide +kernel
theorem dX9_callerOf_90 : decode cX9_callerOf 90 = .ok (.iaload, 1) := by decide +kernel
theorem dX9_callerOf_91 : decode cX9_callerOf 91 = .ok (.goto 5, 3) := by decide +kernel
theorem dX9_callerOf_94 : decode cX9_callerOf 94 = .ok (.bipush (-3), 2) := by decide +kernel
theorem dX9_callerOf_96 : decode cX9_callerOf 96 = .ok (.ireturn, 1) := by decide +kernel
theorem dX9_job_0 : decode cX9_job 0 = .ok (.iload_n 1, 1) := by decide +kernel
theorem dX9_job_1 : decode cX9_job 1 = .ok (.ifCond .lt 14, 3) := by decide +kernel
theorem dX9_job_4 : decode cX9_job 4 = .ok (.iload_n 1, 1) := by decide +kernel
theorem dX9_job_5 : decode cX9_job 5 = .ok (.aload_n 0, 1) := by decide +kernel
theorem dX9_job_6 : decode cX9_job 6 = .ok (.getfield 38, 3) := by decide +kernel
theorem dX9_job_9 : decode cX9_job 9 = .ok (.getfield 96, 3) := by decide +kernel
theorem dX9_job_12 : decode cX9_job 12 = .ok (.if_icmp .lt 5, 3) := by decide +kernel
theorem dX9_job_15 : decode cX9_job 15 = .ok (.iconst (-1), 1) := by decide +kernel
theorem dX9_job_16 : decode cX9_job 16 = .ok (.ireturn, 1) := by decide +kernel
theorem dX9_job_17 : decode cX9_job 17 = .ok (.iload_n 2, 1) := by decide +kernel
theorem dX9_job_18 : decode cX9_job 18 = .ok (.tableswitch 125 0 6 #[42, 52, 62, 72, 82, 88, 115], 42) := by decide +kernel
theorem dX9_job_60 : decode cX9_job 60 = .ok (.aload_n 0, 1) := by decide +kernel
theorem dX9_job_61 : decode cX9_job 61 = .ok (.getfield 38, 3) := by decide +kernel
theorem dX9_job_64 : decode cX9_job 64 = .ok (.getfield 99, 3) := by decide +kernel
theorem dX9_job_67 : decode cX9_job 67 = .ok (.iload_n 1, 1) := by decide +kernel
theorem dX9_job_68 : decode cX9_job 68 = .ok (.iaload, 1) := by decide +kernel
theorem dX9_job_69 : decode cX9_job 69 = .ok (.ireturn, 1) := by decide +kernel
theorem dX9_job_70 : decode cX9_job 70 = .ok (.aload_n 0, 1) := by decide +kernel
theorem dX9_job_71 : decode cX9_job 71 = .ok (.getfield 38, 3) := by decide +kernel
theorem dX9_job_74 : decode cX9_job 74 = .ok (.getfield 111, 3) := by decide +kernel
theorem dX9_job_77 : decode cX9_job 77 = .ok (.iload_n 1, 1) := by decide +kernel
theorem dX9_job_78 : decode cX9_job 78 = .ok (.iaload, 1) := by decide +kernel
theorem dX9_job_79 : decode cX9_job 79 = .ok (.ireturn, 1) := by decide +kernel
theorem dX9_job_80 : decode cX9_job 80 = .ok (.aload_n 0, 1) := by decide +kernel
theorem dX9_job_81 : decode cX9_job 81 = .ok (.getfield 38, 3) := by decide +kernel
theorem dX9_job_84 : decode cX9_job 84 = .ok (.getfield 121, 3) := by decide +kernel
theorem dX9_job_87 : decode cX9_job 87 = .ok (.iload_n 1, 1) := by decide +kernel
theorem dX9_job_88 : decode cX9_job 88 = .ok (.iaload, 1) := by decide +kernel
theorem dX9_job_89 : decode cX9_job 89 = .ok (.ireturn, 1) := by decide +kernel
theorem dX9_job_90 : decode cX9_job 90 = .ok (.aload_n 0, 1) := by decide +kernel
theorem dX9_job_91 : decode cX9_job 91 = .ok (.getfield 38, 3) := by decide +kernel
theorem dX9_job_94 : decode cX9_job 94 = .ok (.getfield 114, 3) := by decide +kernel
theorem dX9_job_97 : decode cX9_job 97 = .ok (.iload_n 1, 1) := by decide +kernel
theorem dX9_job_98 : decode cX9_job 98 = .ok (.iaload, 1) := by decide +kernel
theorem dX9_job_99 : decode cX9_job 99 = .ok (.ireturn, 1) := by decide +kernel
theorem dX9_job_100 : decode cX9_job 100 = .ok (.aload_n 0, 1) := by decide +kernel
theorem dX9_job_101 : decode cX9_job 101 = .ok (.iload_n 1, 1) := by decide +kernel
theorem dX9_job_102 : decode cX9_job 102 = .ok (.invokevirtual 273, 3) := by decide +kernel
theorem dX9_job_105 : decode cX9_job 105 = .ok (.ireturn, 1) := by decide +kernel
theorem dX9_job_106 : decode cX9_job 106 = .ok (.aload_n 0, 1) := by decide +kernel
theorem dX9_job_107 : decode cX9_job 107 = .ok (.getfield 38, 3) := by decide +kernel
theorem dX9_job_110 : decode cX9_job 110 = .ok (.getfield 114, 3) := by decide +kernel
theorem dX9_job_113 : decode cX9_job 113 = .ok (.iload_n 1, 1) := by decide +kernel
theorem dX9_job_114 : decode cX9_job 114 = .ok (.iaload, 1) := by decide +kernel
theorem dX9_job_115 : decode cX9_job 115 = .ok (.ifCond .ne 8, 3) := by decide +kernel
theorem dX9_job_118 : decode cX9_job 118 = .ok (.bipush (-4), 2) := by decide +kernel
theorem dX9_job_120 : decode cX9_job 120 = .ok (.goto 12, 3) := by decide +kernel
theorem dX9_job_123 : decode cX9_job 123 = .ok (.aload_n 0, 1) := by decide +kernel
theorem dX9_job_124 : decode cX9_job 124 = .ok (.getfield 38, 3) := by decide +kernel
theorem dX9_job_127 : decode cX9_job 127 = .ok (.getfield 127, 3) := by decide +kernel
theorem dX9_job_130 : decode cX9_job 130 = .ok (.iload_n 1, 1) := by decide +kernel
theorem dX9_job_131 : decode cX9_job 131 = .ok (.iaload, 1) := by decide +kernel
theorem dX9_job_132 : decode cX9_job 132 = .ok (.ireturn, 1) := by decide +kernel
theorem dX9_job_133 : decode cX9_job 133 = .ok (.aload_n 0, 1) := by decide +kernel
theorem dX9_job_134 : decode cX9_job 134 = .ok (.getfield 38, 3) := by decide +kernel
theorem dX9_job_137 : decode cX9_job 137 = .ok (.getfield 130, 3) := by decide +kernel
theorem dX9_job_140 : decode cX9_job 140 = .ok (.iload_n 1, 1) := by decide +kernel
theorem dX9_job_141 : decode cX9_job 141 = .ok (.iaload, 1) := by decide +kernel
theorem dX9_job_142 : decode cX9_job 142 = .ok (.ireturn, 1) := by decide +kernel
theorem dX9_job_143 : decode cX9_job 143 = .ok (.iconst (-1), 1) := by decide +kernel
theorem dX9_job_144 : decode cX9_job 144 = .ok (.ireturn, 1) := by decide +kernel
theorem dX9_row_0 : decode cX9_row 0 = .ok (.aload_n 0, 1) := by decide +kernel
theorem dX9_row_1 : decode cX9_row 1 = .ok (.iload_n 1, 1) := by decide +kernel
theorem dX9_row_2 : decode cX9_row 2 = .ok (.invokevirtual 71, 3) := by decide +kernel
theorem dX9_row_5 : decode cX9_row 5 = .ok (.ifCond .eq 37, 3) := by decide +kernel
theorem dX9_row_8 : decode cX9_row 8 = .ok (.iload_n 2, 1) := by decide +kernel
theorem dX9_row_9 : decode cX9_row 9 = .ok (.ifCond .lt 33, 3) := by decide +kernel
theorem dX9_row_12 : decode cX9_row 12 = .ok (.iload_n 2, 1) := by decide +kernel
theorem dX9_row_13 : decode cX9_row 13 = .ok (.aload_n 0, 1) := by decide +kernel
theorem dX9_row_14 : decode cX9_row 14 = .ok (.getfield 38, 3) := by decide +kernel
theorem dX9_row_17 : decode cX9_row 17 = .ok (.getfield 140, 3) := by decide +kernel
theorem dX9_row_20 : decode cX9_row 20 = .ok (.iload_n 1, 1) := by decide +kernel
theorem dX9_row_21 : decode cX9_row 21 = .ok (.iaload, 1) := by decide +kernel
theorem dX9_row_22 : decode cX9_row 22 = .ok (.if_icmp .ge 20, 3) := by decide +kernel
theorem dX9_row_25 : decode cX9_row 25 = .ok (.aload_n 0, 1) := by decide +kernel
theorem dX9_row_26 : decode cX9_row 26 = .ok (.getfield 38, 3) := by decide +kernel
theorem dX9_row_29 : decode cX9_row 29 = .ok (.getfield 143, 3) := by decide +kernel
theorem dX9_row_32 : decode cX9_row 32 = .ok (.bipush 20, 2) := by decide +kernel
theorem dX9_row_34 : decode cX9_row 34 = .ok (.iload_n 1, 1) := by decide +kernel
theorem dX9_row_35 : decode cX9_row 35 = .ok (.imul, 1) := by decide +kernel
theorem dX9_row_36 : decode cX9_row 36 = .ok (.iload_n 2, 1) := by decide +kernel
theorem dX9_row_37 : decode cX9_row 37 = .ok (.iadd, 1) := by decide +kernel
theorem dX9_row_38 : decode cX9_row 38 = .ok (.iaload, 1) := by decide +kernel
theorem dX9_row_39 : decode cX9_row 39 = .ok (.goto 4, 3) := by decide +kernel
theorem dX9_row_42 : decode cX9_row 42 = .ok (.iconst (-1), 1) := by decide +kernel
theorem dX9_row_43 : decode cX9_row 43 = .ok (.ireturn, 1) := by decide +kernel
theorem dX9_guest_0 : decode cX9_guest 0 = .ok (.iload_n 1, 1) := by decide +kernel
theorem dX9_guest_1 : decode cX9_guest 1 = .ok (.ifCond .lt 23, 3) := by decide +kernel
theorem dX9_guest_4 : decode cX9_guest 4 = .ok (.iload_n 1, 1) := by decide +kernel
theorem dX9_guest_5 : decode cX9_guest 5 = .ok (.aload_n 0, 1) := by decide +kernel
theorem dX9_guest_6 : decode cX9_guest 6 = .ok (.getfield 38, 3) := by decide +kernel
theorem dX9_guest_9 : decode cX9_guest 9 = .ok (.getfield 102, 3) := by decide +kernel
theorem dX9_guest_12 : decode cX9_guest 12 = .ok (.if_icmp .ge 12, 3) := by decide +kernel
theorem dX9_guest_15 : decode cX9_guest 15 = .ok (.iload_n 2, 1) := by decide +kernel
theorem dX9_guest_16 : decode cX9_guest 16 = .ok (.iconst 0, 1) := by decide +kernel
theorem dX9_guest_17 : decode cX9_guest 17 = .ok (.iconst 3, 1) := by decide +kernel
theorem dX9_guest_18 : decode cX9_guest 18 = .ok (.invokestatic 64, 3) := by decide +kernel
theorem dX9_guest_21 : decode cX9_guest 21 = .ok (.ifCond .ne 5, 3) := by decide +kernel
theorem dX9_guest_24 : decode cX9_guest 24 = .ok (.iconst (-1), 1) := by decide +kernel
theorem dX9_guest_25 : decode cX9_guest 25 = .ok (.ireturn, 1) := by decide +kernel
theorem dX9_guest_26 : decode cX9_guest 26 = .ok (.iload_n 2, 1) := by decide +kernel
theorem dX9_guest_27 : decode cX9_guest 27 = .ok (.ifCond .ne 15, 3) := by decide +kernel
theorem dX9_guest_30 : decode cX9_guest 30 = .ok (.aload_n 0, 1) := by decide +kernel
theorem dX9_guest_31 : decode cX9_guest 31 = .ok (.getfield 38, 3) := by decide +kernel
theorem dX9_guest_34 : decode cX9_guest 34 = .ok (.getfield 188, 3) := by decide +kernel
theorem dX9_guest_37 : decode cX9_guest 37 = .ok (.iload_n 1, 1) := by decide +kernel
theorem dX9_guest_38 : decode cX9_guest 38 = .ok (.iaload, 1) := by decide +kernel
theorem dX9_guest_39 : decode cX9_guest 39 = .ok (.goto 46, 3) := by decide +kernel
theorem dX9_guest_42 : decode cX9_guest 42 = .ok (.iload_n 2, 1) := by decide +kernel
theorem dX9_guest_43 : decode cX9_guest 43 = .ok (.iconst 1, 1) := by decide +kernel
theorem dX9_guest_44 : decode cX9_guest 44 = .ok (.if_icmp .ne 15, 3) := by decide +kernel
theorem dX9_guest_47 : decode cX9_guest 47 = .ok (.aload_n 0, 1) := by decide +kernel
theorem dX9_guest_48 : decode cX9_guest 48 = .ok (.getfield 38, 3) := by decide +kernel
theorem dX9_guest_51 : decode cX9_guest 51 = .ok (.getfield 105, 3) := by decide +kernel
theorem dX9_guest_54 : decode cX9_guest 54 = .ok (.iload_n 1, 1) := by decide +kernel
theorem dX9_guest_55 : decode cX9_guest 55 = .ok (.iaload, 1) := by decide +kernel
theorem dX9_guest_56 : decode cX9_guest 56 = .ok (.goto 29, 3) := by decide +kernel
theorem dX9_guest_59 : decode cX9_guest 59 = .ok (.iload_n 2, 1) := by decide +kernel
theorem dX9_guest_60 : decode cX9_guest 60 = .ok (.iconst 2, 1) := by decide +kernel
theorem dX9_guest_61 : decode cX9_guest 61 = .ok (.if_icmp .ne 15, 3) := by decide +kernel
theorem dX9_guest_64 : decode cX9_guest 64 = .ok (.aload_n 0, 1) := by decide +kernel
theorem dX9_guest_65 : decode cX9_guest 65 = .ok (.getfield 38, 3) := by decide +kernel
theorem dX9_guest_68 : decode cX9_guest 68 = .ok (.getfield 185, 3) := by decide +kernel
theorem dX9_guest_71 : decode cX9_guest 71 = .ok (.iload_n 1, 1) := by decide +kernel
theorem dX9_guest_72 : decode cX9_guest 72 = .ok (.iaload, 1) := by decide +kernel
theorem dX9_guest_73 : decode cX9_guest 73 = .ok (.goto 12, 3) := by decide +kernel
theorem dX9_guest_76 : decode cX9_guest 76 = .ok (.aload_n 0, 1) := by decide +kernel
theorem dX9_guest_77 : decode cX9_guest 77 = .ok (.getfield 38, 3) := by decide +kernel
theorem dX9_guest_80 : decode cX9_guest 80 = .ok (.getfield 191, 3) := by decide +kernel
theorem dX9_guest_83 : decode cX9_guest 83 = .ok (.iload_n 1, 1) := by decide +kernel
theorem dX9_guest_84 : decode cX9_guest 84 = .ok (.iaload, 1) := by decide +kernel
theorem dX9_guest_85 : decode cX9_guest 85 = .ok (.ireturn, 1) := by decide +kernel
theorem dX9_count_0 : decode cX9_count 0 = .ok (.iload_n 1, 1) := by decide +kernel
theorem dX9_count_1 : decode cX9_count 1 = .ok (.tableswitch 161 0 11 #[63, 68, 76, 84, 92, 100, 108, 116, 124, 132, 137, 145], 63) := by decide +kernel
theorem dX9_count_64 : decode cX9_count 64 = .ok (.aload_n 0, 1) := by decide +kernel
theorem dX9_count_65 : decode cX9_count 65 = .ok (.getfield 61, 3) := by decide +kernel
theorem dX9_count_68 : decode cX9_count 68 = .ok (.ireturn, 1) := by decide +kernel
theorem dX9_count_69 : decode cX9_count 69 = .ok (.aload_n 0, 1) := by decide +kernel
theorem dX9_count_70 : decode cX9_count 70 = .ok (.getfield 38, 3) := by decide +kernel
theorem dX9_count_73 : decode cX9_count 73 = .ok (.getfield 68, 3) := by decide +kernel
theorem dX9_count_76 : decode cX9_count 76 = .ok (.ireturn, 1) := by decide +kernel
theorem dX9_count_77 : decode cX9_count 77 = .ok (.aload_n 0, 1) := by decide +kernel
theorem dX9_count_78 : decode cX9_count 78 = .ok (.getfield 38, 3) := by decide +kernel
theorem dX9_count_81 : decode cX9_count 81 = .ok (.getfield 96, 3) := by decide +kernel
theorem dX9_count_84 : decode cX9_count 84 = .ok (.ireturn, 1) := by decide +kernel
theorem dX9_count_85 : decode cX9_count 85 = .ok (.aload_n 0, 1) := by decide +kernel
theorem dX9_count_86 : decode cX9_count 86 = .ok (.getfield 38, 3) := by decide +kernel
theorem dX9_count_89 : decode cX9_count 89 = .ok (.getfield 102, 3) := by decide +kernel
theorem dX9_count_92 : decode cX9_count 92 = .ok (.ireturn, 1) := by decide +kernel
theorem dX9_count_93 : decode cX9_count 93 = .ok (.aload_n 0, 1) := by decide +kernel
theorem dX9_count_94 : decode cX9_count 94 = .ok (.getfield 38, 3) := by decide +kernel
theorem dX9_count_97 : decode cX9_count 97 = .ok (.getfield 216, 3) := by decide +kernel
theorem dX9_count_100 : decode cX9_count 100 = .ok (.ireturn, 1) := by decide +kernel
theorem dX9_count_101 : decode cX9_count 101 = .ok (.aload_n 0, 1) := by decide +kernel
theorem dX9_count_102 : decode cX9_count 102 = .ok (.getfield 38, 3) := by decide +kernel
theorem dX9_count_105 : decode cX9_count 105 = .ok (.getfield 179, 3) := by decide +kernel
theorem dX9_count_108 : decode cX9_count 108 = .ok (.ireturn, 1) := by decide +kernel
theorem dX9_count_109 : decode cX9_count 109 = .ok (.aload_n 0, 1) := by decide +kernel
theorem dX9_count_110 : decode cX9_count 110 = .ok (.getfield 38, 3) := by decide +kernel
theorem dX9_count_113 : decode cX9_count 113 = .ok (.getfield 219, 3) := by decide +kernel
theorem dX9_count_116 : decode cX9_count 116 = .ok (.ireturn, 1) := by decide +kernel
theorem dX9_count_117 : decode cX9_count 117 = .ok (.aload_n 0, 1) := by decide +kernel
theorem dX9_count_118 : decode cX9_count 118 = .ok (.getfield 38, 3) := by decide +kernel
theorem dX9_count_121 : decode cX9_count 121 = .ok (.getfield 237, 3) := by decide +kernel
theorem dX9_count_124 : decode cX9_count 124 = .ok (.ireturn, 1) := by decide +kernel
theorem dX9_count_125 : decode cX9_count 125 = .ok (.aload_n 0, 1) := by decide +kernel
theorem dX9_count_126 : decode cX9_count 126 = .ok (.getfield 38, 3) := by decide +kernel
theorem dX9_count_129 : decode cX9_count 129 = .ok (.getfield 197, 3) := by decide +kernel
theorem dX9_count_132 : decode cX9_count 132 = .ok (.ireturn, 1) := by decide +kernel
theorem dX9_count_133 : decode cX9_count 133 = .ok (.aload_n 0, 1) := by decide +kernel
theorem dX9_count_134 : decode cX9_count 134 = .ok (.getfield 90, 3) := by decide +kernel
theorem dX9_count_137 : decode cX9_count 137 = .ok (.ireturn, 1) := by decide +kernel
theorem dX9_count_138 : decode cX9_count 138 = .ok (.aload_n 0, 1) := by decide +kernel
theorem dX9_count_139 : decode cX9_count 139 = .ok (.getfield 38, 3) := by decide +kernel
theorem dX9_count_142 : decode cX9_count 142 = .ok (.getfield 149, 3) := by decide +kernel
theorem dX9_count_145 : decode cX9_count 145 = .ok (.ireturn, 1) := by decide +kernel
theorem dX9_count_146 : decode cX9_count 146 = .ok (.aload_n 0, 1) := by decide +kernel
theorem dX9_count_147 : decode cX9_count 147 = .ok (.getfield 38, 3) := by decide +kernel
theorem dX9_count_150 : decode cX9_count 150 = .ok (.getfield 51, 3) := by decide +kernel
theorem dX9_count_153 : decode cX9_count 153 = .ok (.ifCond .eq 7, 3) := by decide +kernel
theorem dX9_count_156 : decode cX9_count 156 = .ok (.iconst 1, 1) := by decide +kernel
theorem dX9_count_157 : decode cX9_count 157 = .ok (.goto 4, 3) := by decide +kernel
theorem dX9_count_160 : decode cX9_count 160 = .ok (.iconst 0, 1) := by decide +kernel
theorem dX9_count_161 : decode cX9_count 161 = .ok (.ireturn, 1) := by decide +kernel
theorem dX9_count_162 : decode cX9_count 162 = .ok (.iconst (-1), 1) := by decide +kernel
theorem dX9_count_163 : decode cX9_count 163 = .ok (.ireturn, 1) := by decide +kernel
theorem dX9_tried_0 : decode cX9_tried 0 = .ok (.aload_n 0, 1) := by decide +kernel
theorem dX9_tried_1 : decode cX9_tried 1 = .ok (.getfield 42, 3) := by decide +kernel
theorem dX9_tried_4 : decode cX9_tried 4 = .ok (.aload_n 0, 1) := by decide +kernel
theorem dX9_tried_5 : decode cX9_tried 5 = .ok (.getfield 38, 3) := by decide +kernel
theorem dX9_tried_8 : decode cX9_tried 8 = .ok (.invokevirtual 276, 3) := by decide +kernel
theorem dX9_tried_11 : decode cX9_tried 11 = .ok (.aload_n 0, 1) := by decide +kernel
theorem dX9_tried_12 : decode cX9_tried 12 = .ok (.iconst 1, 1) := by decide +kernel
theorem dX9_tried_13 : decode cX9_tried 13 = .ok (.putfield 240, 3) := by decide +kernel
theorem dX9_tried_16 : decode cX9_tried 16 = .ok (.aload_n 0, 1) := by decide +kernel
theorem dX9_tried_17 : decode cX9_tried 17 = .ok (.iload_n 1, 1) := by decide +kernel
theorem dX9_tried_18 : decode cX9_tried 18 = .ok (.putfield 246, 3) := by decide +kernel
theorem dX9_tried_21 : decode cX9_tried 21 = .ok (.aload_n 0, 1) := by decide +kernel
theorem dX9_tried_22 : decode cX9_tried 22 = .ok (.iload_n 2, 1) := by decide +kernel
theorem dX9_tried_23 : decode cX9_tried 23 = .ok (.putfield 243, 3) := by decide +kernel
theorem dX9_tried_26 : decode cX9_tried 26 = .ok (.iconst 0, 1) := by decide +kernel
theorem dX9_tried_27 : decode cX9_tried 27 = .ok (.istore 5, 2) := by decide +kernel
theorem dX9_tried_29 : decode cX9_tried 29 = .ok (.bipush (-4), 2) := by decide +kernel
theorem dX9_tried_31 : decode cX9_tried 31 = .ok (.istore 6, 2) := by decide +kernel
theorem dX9_tried_33 : decode cX9_tried 33 = .ok (.iconst 1, 1) := by decide +kernel
theorem dX9_tried_34 : decode cX9_tried 34 = .ok (.istore 7, 2) := by decide +kernel
theorem dX9_tried_36 : decode cX9_tried 36 = .ok (.iload 7, 2) := by decide +kernel
theorem dX9_tried_38 : decode cX9_tried 38 = .ok (.iload_n 3, 1) := by decide +kernel
theorem dX9_tried_39 : decode cX9_tried 39 = .ok (.if_icmp .gt 69, 3) := by decide +kernel
theorem dX9_tried_42 : decode cX9_tried 42 = .ok (.iload 4, 2) := by decide +kernel
theorem dX9_tried_44 : decode cX9_tried 44 = .ok (.ifCond .ne 8, 3) := by decide +kernel
theorem dX9_tried_47 : decode cX9_tried 47 = .ok (.iload 6, 2) := by decide +kernel
theorem dX9_tried_49 : decode cX9_tried 49 = .ok (.ifCond .ge 59, 3) := by decide +kernel
theorem dX9_tried_52 : decode cX9_tried 52 = .ok (.aload_n 0, 1) := by decide +kernel
theorem dX9_tried_53 : decode cX9_tried 53 = .ok (.invokevirtual 270, 3) := by decide +kernel
theorem dX9_tried_56 : decode cX9_tried 56 = .ok (.aload_n 0, 1) := by decide +kernel
theorem dX9_tried_57 : decode cX9_tried 57 = .ok (.getfield 38, 3) := by decide +kernel
theorem dX9_tried_60 : decode cX9_tried 60 = .ok (.getfield 51, 3) := by decide +kernel
theorem dX9_tried_63 : decode cX9_tried 63 = .ok (.ifCond .eq 10, 3) := by decide +kernel
theorem dX9_tried_66 : decode cX9_tried 66 = .ok (.iload 5, 2) := by decide +kernel
theorem dX9_tried_68 : decode cX9_tried 68 = .ok (.iconst 1, 1) := by decide +kernel
theorem dX9_tried_69 : decode cX9_tried 69 = .ok (.iadd, 1) := by decide +kernel
theorem dX9_tried_70 : decode cX9_tried 70 = .ok (.goto 4, 3) := by decide +kernel
theorem dX9_tried_73 : decode cX9_tried 73 = .ok (.iconst 0, 1) := by decide +kernel
theorem dX9_tried_74 : decode cX9_tried 74 = .ok (.istore 5, 2) := by decide +kernel
theorem dX9_tried_76 : decode cX9_tried 76 = .ok (.iload 6, 2) := by decide +kernel
theorem dX9_tried_78 : decode cX9_tried 78 = .ok (.ifCond .ge 20, 3) := by decide +kernel
theorem dX9_tried_81 : decode cX9_tried 81 = .ok (.iload 5, 2) := by decide +kernel
theorem dX9_tried_83 : decode cX9_tried 83 = .ok (.bipush 24, 2) := by decide +kernel
theorem dX9_tried_85 : decode cX9_tried 85 = .ok (.if_icmp .ne 13, 3) := by decide +kernel
theorem dX9_tried_88 : decode cX9_tried 88 = .ok (.iload 7, 2) := by decide +kernel
theorem dX9_tried_90 : decode cX9_tried 90 = .ok (.bipush 24, 2) := by decide +kernel
theorem dX9_tried_92 : decode cX9_tried 92 = .ok (.isub, 1) := by decide +kernel
theorem dX9_tried_93 : decode cX9_tried 93 = .ok (.iconst 1, 1) := by decide +kernel
theorem dX9_tried_94 : decode cX9_tried 94 = .ok (.iadd, 1) := by decide +kernel
theorem dX9_tried_95 : decode cX9_tried 95 = .ok (.goto 5, 3) := by decide +kernel
theorem dX9_tried_98 : decode cX9_tried 98 = .ok (.iload 6, 2) := by decide +kernel
theorem dX9_tried_100 : decode cX9_tried 100 = .ok (.istore 6, 2) := by decide +kernel
theorem dX9_tried_102 : decode cX9_tried 102 = .ok (.iinc 7 1, 3) := by decide +kernel
theorem dX9_tried_105 : decode cX9_tried 105 = .ok (.goto (-69), 3) := by decide +kernel
theorem dX9_tried_108 : decode cX9_tried 108 = .ok (.aload_n 0, 1) := by decide +kernel
theorem dX9_tried_109 : decode cX9_tried 109 = .ok (.aload_n 0, 1) := by decide +kernel
theorem dX9_tried_110 : decode cX9_tried 110 = .ok (.getfield 38, 3) := by decide +kernel
theorem dX9_tried_113 : decode cX9_tried 113 = .ok (.getfield 219, 3) := by decide +kernel
theorem dX9_tried_116 : decode cX9_tried 116 = .ok (.aload_n 0, 1) := by decide +kernel
theorem dX9_tried_117 : decode cX9_tried 117 = .ok (.getfield 42, 3) := by decide +kernel
theorem dX9_tried_120 : decode cX9_tried 120 = .ok (.getfield 219, 3) := by decide +kernel
theorem dX9_tried_123 : decode cX9_tried 123 = .ok (.isub, 1) := by decide +kernel
theorem dX9_tried_124 : decode cX9_tried 124 = .ok (.aload_n 0, 1) := by decide +kernel
theorem dX9_tried_125 : decode cX9_tried 125 = .ok (.getfield 38, 3) := by decide +kernel
theorem dX9_tried_128 : decode cX9_tried 128 = .ok (.getfield 197, 3) := by decide +kernel
theorem dX9_tried_131 : decode cX9_tried 131 = .ok (.iadd, 1) := by decide +kernel
theorem dX9_tried_132 : decode cX9_tried 132 = .ok (.aload_n 0, 1) := by decide +kernel
theorem dX9_tried_133 : decode cX9_tried 133 = .ok (.getfield 42, 3) := by decide +kernel
theorem dX9_tried_136 : decode cX9_tried 136 = .ok (.getfield 197, 3) := by decide +kernel
theorem dX9_tried_139 : decode cX9_tried 139 = .ok (.isub, 1) := by decide +kernel
theorem dX9_tried_140 : decode cX9_tried 140 = .ok (.putfield 280, 3) := by decide +kernel
theorem dX9_tried_143 : decode cX9_tried 143 = .ok (.aload_n 0, 1) := by decide +kernel
theorem dX9_tried_144 : decode cX9_tried 144 = .ok (.iconst 0, 1) := by decide +kernel
theorem dX9_tried_145 : decode cX9_tried 145 = .ok (.putfield 240, 3) := by decide +kernel
theorem dX9_tried_148 : decode cX9_tried 148 = .ok (.aload_n 0, 1) := by decide +kernel
theorem dX9_tried_149 : decode cX9_tried 149 = .ok (.getfield 38, 3) := by decide +kernel
theorem dX9_tried_152 : decode cX9_tried 152 = .ok (.aload_n 0, 1) := by decide +kernel
theorem dX9_tried_153 : decode cX9_tried 153 = .ok (.getfield 42, 3) := by decide +kernel
theorem dX9_tried_156 : decode cX9_tried 156 = .ok (.invokevirtual 276, 3) := by decide +kernel
theorem dX9_tried_159 : decode cX9_tried 159 = .ok (.iload 6, 2) := by decide +kernel
theorem dX9_tried_161 : decode cX9_tried 161 = .ok (.ireturn, 1) := by decide +kernel
theorem dX9_rest_0 : decode cX9_rest 0 = .ok (.iload_n 1, 1) := by decide +kernel
theorem dX9_rest_1 : decode cX9_rest 1 = .ok (.bipush 24, 2) := by decide +kernel
theorem dX9_rest_3 : decode cX9_rest 3 = .ok (.sipush 400, 3) := by decide +kernel
theorem dX9_rest_6 : decode cX9_rest 6 = .ok (.invokestatic 64, 3) := by decide +kernel
theorem dX9_rest_9 : decode cX9_rest 9 = .ok (.ifCond .ne 5, 3) := by decide +kernel
theorem dX9_rest_12 : decode cX9_rest 12 = .ok (.iconst (-1), 1) := by decide +kernel
theorem dX9_rest_13 : decode cX9_rest 13 = .ok (.ireturn, 1) := by decide +kernel
theorem dX9_rest_14 : decode cX9_rest 14 = .ok (.aload_n 0, 1) := by decide +kernel
theorem dX9_rest_15 : decode cX9_rest 15 = .ok (.getfield 61, 3) := by decide +kernel
theorem dX9_rest_18 : decode cX9_rest 18 = .ok (.ifCond .ne 8, 3) := by decide +kernel
theorem dX9_rest_21 : decode cX9_rest 21 = .ok (.bipush (-3), 2) := by decide +kernel
theorem dX9_rest_23 : decode cX9_rest 23 = .ok (.goto 11, 3) := by decide +kernel
theorem dX9_rest_26 : decode cX9_rest 26 = .ok (.aload_n 0, 1) := by decide +kernel
theorem dX9_rest_27 : decode cX9_rest 27 = .ok (.iconst 0, 1) := by decide +kernel
theorem dX9_rest_28 : decode cX9_rest 28 = .ok (.iconst 0, 1) := by decide +kernel
theorem dX9_rest_29 : decode cX9_rest 29 = .ok (.iload_n 1, 1) := by decide +kernel
theorem dX9_rest_30 : decode cX9_rest 30 = .ok (.iconst 0, 1) := by decide +kernel
theorem dX9_rest_31 : decode cX9_rest 31 = .ok (.invokevirtual 283, 3) := by decide +kernel
theorem dX9_rest_34 : decode cX9_rest 34 = .ok (.ireturn, 1) := by decide +kernel
theorem dX9_bears_0 : decode cX9_bears 0 = .ok (.iload_n 1, 1) := by decide +kernel
theorem dX9_bears_1 : decode cX9_bears 1 = .ok (.invokestatic 87, 3) := by decide +kernel
theorem dX9_bears_4 : decode cX9_bears 4 = .ok (.ifCond .eq 15, 3) := by decide +kernel
theorem dX9_bears_7 : decode cX9_bears 7 = .ok (.iload_n 2, 1) := by decide +kernel
theorem dX9_bears_8 : decode cX9_bears 8 = .ok (.bipush 24, 2) := by decide +kernel
theorem dX9_bears_10 : decode cX9_bears 10 = .ok (.sipush 400, 3) := by decide +kernel
theorem dX9_bears_13 : decode cX9_bears 13 = .ok (.invokestatic 64, 3) := by decide +kernel
theorem dX9_bears_16 : decode cX9_bears 16 = .ok (.ifCond .ne 5, 3) := by decide +kernel
theorem dX9_bears_19 : decode cX9_bears 19 = .ok (.iconst (-1), 1) := by decide +kernel
theorem dX9_bears_20 : decode cX9_bears 20 = .ok (.ireturn, 1) := by decide +kernel
theorem dX9_bears_21 : decode cX9_bears 21 = .ok (.aload_n 0, 1) := by decide +kernel
theorem dX9_bears_22 : decode cX9_bears 22 = .ok (.getfield 61, 3) := by decide +kernel
theorem dX9_bears_25 : decode cX9_bears 25 = .ok (.ifCond .ne 6, 3) := by decide +kernel
theorem dX9_bears_28 : decode cX9_bears 28 = .ok (.bipush (-3), 2) := by decide +kernel
theorem dX9_bears_30 : decode cX9_bears 30 = .ok (.ireturn, 1) := by decide +kernel
theorem dX9_bears_31 : decode cX9_bears 31 = .ok (.iconst 0, 1) := by decide +kernel
theorem dX9_bears_32 : decode cX9_bears 32 = .ok (.istore_n 3, 1) := by decide +kernel
theorem dX9_bears_33 : decode cX9_bears 33 = .ok (.iload_n 3, 1) := by decide +kernel
theorem dX9_bears_34 : decode cX9_bears 34 = .ok (.bipush 30, 2) := by decide +kernel
theorem dX9_bears_36 : decode cX9_bears 36 = .ok (.if_icmp .gt 20, 3) := by decide +kernel
theorem dX9_bears_39 : decode cX9_bears 39 = .ok (.aload_n 0, 1) := by decide +kernel
theorem dX9_bears_40 : decode cX9_bears 40 = .ok (.iload_n 1, 1) := by decide +kernel
theorem dX9_bears_41 : decode cX9_bears 41 = .ok (.iload_n 3, 1) := by decide +kernel
theorem dX9_bears_42 : decode cX9_bears 42 = .ok (.iload_n 2, 1) := by decide +kernel
theorem dX9_bears_43 : decode cX9_bears 43 = .ok (.iconst 0, 1) := by decide +kernel
theorem dX9_bears_44 : decode cX9_bears 44 = .ok (.invokevirtual 283, 3) := by decide +kernel
theorem dX9_bears_47 : decode cX9_bears 47 = .ok (.ifCond .lt 9, 3) := by decide +kernel
theorem dX9_bears_50 : decode cX9_bears 50 = .ok (.iinc 3 1, 3) := by decide +kernel
theorem dX9_bears_53 : decode cX9_bears 53 = .ok (.goto (-20), 3) := by decide +kernel
theorem dX9_bears_56 : decode cX9_bears 56 = .ok (.iload_n 3, 1) := by decide +kernel
theorem dX9_bears_57 : decode cX9_bears 57 = .ok (.ifCond .ne 8, 3) := by decide +kernel
theorem dX9_bears_60 : decode cX9_bears 60 = .ok (.bipush (-4), 2) := by decide +kernel
theorem dX9_bears_62 : decode cX9_bears 62 = .ok (.goto 6, 3) := by decide +kernel
theorem dX9_bears_65 : decode cX9_bears 65 = .ok (.iload_n 3, 1) := by decide +kernel
theorem dX9_bears_66 : decode cX9_bears 66 = .ok (.iconst 1, 1) := by decide +kernel
theorem dX9_bears_67 : decode cX9_bears 67 = .ok (.isub, 1) := by decide +kernel
theorem dX9_bears_68 : decode cX9_bears 68 = .ok (.ireturn, 1) := by decide +kernel
theorem dX9_best_0 : decode cX9_best 0 = .ok (.aload_n 0, 1) := by decide +kernel
theorem dX9_best_1 : decode cX9_best 1 = .ok (.iload_n 1, 1) := by decide +kernel
theorem dX9_best_2 : decode cX9_best 2 = .ok (.invokevirtual 71, 3) := by decide +kernel
theorem dX9_best_5 : decode cX9_best 5 = .ok (.ifCond .eq 33, 3) := by decide +kernel
theorem dX9_best_8 : decode cX9_best 8 = .ok (.iload_n 2, 1) := by decide +kernel
theorem dX9_best_9 : decode cX9_best 9 = .ok (.invokestatic 87, 3) := by decide +kernel
theorem dX9_best_12 : decode cX9_best 12 = .ok (.ifCond .eq 26, 3) := by decide +kernel
theorem dX9_best_15 : decode cX9_best 15 = .ok (.iload_n 3, 1) := by decide +kernel
theorem dX9_best_16 : decode cX9_best 16 = .ok (.iconst 0, 1) := by decide +kernel
theorem dX9_best_17 : decode cX9_best 17 = .ok (.bipush 30, 2) := by decide +kernel
theorem dX9_best_19 : decode cX9_best 19 = .ok (.invokestatic 64, 3) := by decide +kernel
theorem dX9_best_22 : decode cX9_best 22 = .ok (.ifCond .eq 16, 3) := by decide +kernel
theorem dX9_best_25 : decode cX9_best 25 = .ok (.iload 4, 2) := by decide +kernel
theorem dX9_best_27 : decode cX9_best 27 = .ok (.bipush 24, 2) := by decide +kernel
theorem dX9_best_29 : decode cX9_best 29 = .ok (.sipush 400, 3) := by decide +kernel
theorem dX9_best_32 : decode cX9_best 32 = .ok (.invokestatic 64, 3) := by decide +kernel
theorem dX9_best_35 : decode cX9_best 35 = .ok (.ifCond .ne 5, 3) := by decide +kernel
theorem dX9_best_38 : decode cX9_best 38 = .ok (.iconst (-1), 1) := by decide +kernel
theorem dX9_best_39 : decode cX9_best 39 = .ok (.ireturn, 1) := by decide +kernel
theorem dX9_best_40 : decode cX9_best 40 = .ok (.aload_n 0, 1) := by decide +kernel
theorem dX9_best_41 : decode cX9_best 41 = .ok (.iload_n 1, 1) := by decide +kernel
theorem dX9_best_42 : decode cX9_best 42 = .ok (.iconst 1, 1) := by decide +kernel
theorem dX9_best_43 : decode cX9_best 43 = .ok (.invokevirtual 79, 3) := by decide +kernel
theorem dX9_best_46 : decode cX9_best 46 = .ok (.istore 5, 2) := by decide +kernel
theorem dX9_best_48 : decode cX9_best 48 = .ok (.aload_n 0, 1) := by decide +kernel
theorem dX9_best_49 : decode cX9_best 49 = .ok (.iload_n 1, 1) := by decide +kernel
theorem dX9_best_50 : decode cX9_best 50 = .ok (.iconst 2, 1) := by decide +kernel
theorem dX9_best_51 : decode cX9_best 51 = .ok (.invokevirtual 79, 3) := by decide +kernel
theorem dX9_best_54 : decode cX9_best 54 = .ok (.istore 6, 2) := by decide +kernel
theorem dX9_best_56 : decode cX9_best 56 = .ok (.bipush (-4), 2) := by decide +kernel
theorem dX9_best_58 : decode cX9_best 58 = .ok (.istore 7, 2) := by decide +kernel
theorem dX9_best_60 : decode cX9_best 60 = .ok (.iconst 0, 1) := by decide +kernel
theorem dX9_best_61 : decode cX9_best 61 = .ok (.istore 8, 2) := by decide +kernel
theorem dX9_best_63 : decode cX9_best 63 = .ok (.iconst 0, 1) := by decide +kernel
theorem dX9_best_64 : decode cX9_best 64 = .ok (.istore 9, 2) := by decide +kernel
theorem dX9_best_66 : decode cX9_best 66 = .ok (.iload 9, 2) := by decide +kernel
theorem dX9_best_68 : decode cX9_best 68 = .ok (.iconst 4, 1) := by decide +kernel
theorem dX9_best_69 : decode cX9_best 69 = .ok (.if_icmp .ge 104, 3) := by decide +kernel
theorem dX9_best_72 : decode cX9_best 72 = .ok (.iconst 0, 1) := by decide +kernel
theorem dX9_best_73 : decode cX9_best 73 = .ok (.istore 10, 2) := by decide +kernel
theorem dX9_best_75 : decode cX9_best 75 = .ok (.iload 10, 2) := by decide +kernel
theorem dX9_best_77 : decode cX9_best 77 = .ok (.iconst 4, 1) := by decide +kernel
theorem dX9_best_78 : decode cX9_best 78 = .ok (.if_icmp .ge 89, 3) := by decide +kernel
theorem dX9_best_81 : decode cX9_best 81 = .ok (.aload_n 0, 1) := by decide +kernel
theorem dX9_best_82 : decode cX9_best 82 = .ok (.getfield 9, 3) := by decide +kernel
theorem dX9_best_85 : decode cX9_best 85 = .ok (.bipush 9, 2) := by decide +kernel
theorem dX9_best_87 : decode cX9_best 87 = .ok (.iload_n 1, 1) := by decide +kernel
theorem dX9_best_88 : decode cX9_best 88 = .ok (.imul, 1) := by decide +kernel
theorem dX9_best_89 : decode cX9_best 89 = .ok (.iconst 1, 1) := by decide +kernel
theorem dX9_best_90 : decode cX9_best 90 = .ok (.iadd, 1) := by decide +kernel
theorem dX9_best_91 : decode cX9_best 91 = .ok (.iload 9, 2) := by decide +kernel
theorem dX9_best_93 : decode cX9_best 93 = .ok (.iastore, 1) := by decide +kernel
theorem dX9_best_94 : decode cX9_best 94 = .ok (.aload_n 0, 1) := by decide +kernel
theorem dX9_best_95 : decode cX9_best 95 = .ok (.getfield 9, 3) := by decide +kernel
theorem dX9_best_98 : decode cX9_best 98 = .ok (.bipush 9, 2) := by decide +kernel
theorem dX9_best_100 : decode cX9_best 100 = .ok (.iload_n 1, 1) := by decide +kernel
theorem dX9_best_101 : decode cX9_best 101 = .ok (.imul, 1) := by decide +kernel
theorem dX9_best_102 : decode cX9_best 102 = .ok (.iconst 2, 1) := by decide +kernel
theorem dX9_best_103 : decode cX9_best 103 = .ok (.iadd, 1) := by decide +kernel
theorem dX9_best_104 : decode cX9_best 104 = .ok (.iload 10, 2) := by decide +kernel
theorem dX9_best_106 : decode cX9_best 106 = .ok (.iastore, 1) := by decide +kernel
theorem dX9_best_107 : decode cX9_best 107 = .ok (.aload_n 0, 1) := by decide +kernel
theorem dX9_best_108 : decode cX9_best 108 = .ok (.iload_n 2, 1) := by decide +kernel
theorem dX9_best_109 : decode cX9_best 109 = .ok (.iload_n 3, 1) := by decide +kernel
theorem dX9_best_110 : decode cX9_best 110 = .ok (.iload 4, 2) := by decide +kernel
theorem dX9_best_112 : decode cX9_best 112 = .ok (.iconst 1, 1) := by decide +kernel
theorem dX9_best_113 : decode cX9_best 113 = .ok (.invokevirtual 283, 3) := by decide +kernel
theorem dX9_best_116 : decode cX9_best 116 = .ok (.ifCond .lt 7, 3) := by decide +kernel
theorem dX9_best_119 : decode cX9_best 119 = .ok (.iconst 1, 1) := by decide +kernel
theorem dX9_best_120 : decode cX9_best 120 = .ok (.goto 4, 3) := by decide +kernel
theorem dX9_best_123 : decode cX9_best 123 = .ok (.iconst 0, 1) := by decide +kernel
theorem dX9_best_124 : decode cX9_best 124 = .ok (.istore 11, 2) := by decide +kernel
theorem dX9_best_126 : decode cX9_best 126 = .ok (.iload 11, 2) := by decide +kernel
theorem dX9_best_128 : decode cX9_best 128 = .ok (.ifCond .eq 33, 3) := by decide +kernel
theorem dX9_best_131 : decode cX9_best 131 = .ok (.iload 7, 2) := by decide +kernel
theorem dX9_best_133 : decode cX9_best 133 = .ok (.ifCond .lt 12, 3) := by decide +kernel
theorem dX9_best_136 : decode cX9_best 136 = .ok (.aload_n 0, 1) := by decide +kernel
theorem dX9_best_137 : decode cX9_best 137 = .ok (.getfield 280, 3) := by decide +kernel
theorem dX9_best_140 : decode cX9_best 140 = .ok (.iload 8, 2) := by decide +kernel
theorem dX9_best_142 : decode cX9_best 142 = .ok (.if_icmp .ge 19, 3) := by decide +kernel
theorem dX9_best_145 : decode cX9_best 145 = .ok (.bipush 10, 2) := by decide +kernel
theorem dX9_best_147 : decode cX9_best 147 = .ok (.iload 9, 2) := by decide +kernel
theorem dX9_best_149 : decode cX9_best 149 = .ok (.imul, 1) := by decide +kernel
theorem dX9_best_150 : decode cX9_best 150 = .ok (.iload 10, 2) := by decide +kernel
theorem dX9_best_152 : decode cX9_best 152 = .ok (.iadd, 1) := by decide +kernel
theorem dX9_best_153 : decode cX9_best 153 = .ok (.istore 7, 2) := by decide +kernel
theorem dX9_best_155 : decode cX9_best 155 = .ok (.aload_n 0, 1) := by decide +kernel
theorem dX9_best_156 : decode cX9_best 156 = .ok (.getfield 280, 3) := by decide +kernel
theorem dX9_best_159 : decode cX9_best 159 = .ok (.istore 8, 2) := by decide +kernel
theorem dX9_best_161 : decode cX9_best 161 = .ok (.iinc 10 1, 3) := by decide +kernel
theorem dX9_best_164 : decode cX9_best 164 = .ok (.goto (-89), 3) := by decide +kernel
theorem dX9_best_167 : decode cX9_best 167 = .ok (.iinc 9 1, 3) := by decide +kernel
theorem dX9_best_170 : decode cX9_best 170 = .ok (.goto (-104), 3) := by decide +kernel
theorem dX9_best_173 : decode cX9_best 173 = .ok (.aload_n 0, 1) := by decide +kernel
theorem dX9_best_174 : decode cX9_best 174 = .ok (.getfield 9, 3) := by decide +kernel
theorem dX9_best_177 : decode cX9_best 177 = .ok (.bipush 9, 2) := by decide +kernel
theorem dX9_best_179 : decode cX9_best 179 = .ok (.iload_n 1, 1) := by decide +kernel
theorem dX9_best_180 : decode cX9_best 180 = .ok (.imul, 1) := by decide +kernel
theorem dX9_best_181 : decode cX9_best 181 = .ok (.iconst 1, 1) := by decide +kernel
theorem dX9_best_182 : decode cX9_best 182 = .ok (.iadd, 1) := by decide +kernel
theorem dX9_best_183 : decode cX9_best 183 = .ok (.iload 5, 2) := by decide +kernel
theorem dX9_best_185 : decode cX9_best 185 = .ok (.iastore, 1) := by decide +kernel
theorem dX9_best_186 : decode cX9_best 186 = .ok (.aload_n 0, 1) := by decide +kernel
theorem dX9_best_187 : decode cX9_best 187 = .ok (.getfield 9, 3) := by decide +kernel
theorem dX9_best_190 : decode cX9_best 190 = .ok (.bipush 9, 2) := by decide +kernel
theorem dX9_best_192 : decode cX9_best 192 = .ok (.iload_n 1, 1) := by decide +kernel
theorem dX9_best_193 : decode cX9_best 193 = .ok (.imul, 1) := by decide +kernel
theorem dX9_best_194 : decode cX9_best 194 = .ok (.iconst 2, 1) := by decide +kernel
theorem dX9_best_195 : decode cX9_best 195 = .ok (.iadd, 1) := by decide +kernel
theorem dX9_best_196 : decode cX9_best 196 = .ok (.iload 6, 2) := by decide +kernel
theorem dX9_best_198 : decode cX9_best 198 = .ok (.iastore, 1) := by decide +kernel
theorem dX9_best_199 : decode cX9_best 199 = .ok (.aload_n 0, 1) := by decide +kernel
theorem dX9_best_200 : decode cX9_best 200 = .ok (.iload 7, 2) := by decide +kernel
theorem dX9_best_202 : decode cX9_best 202 = .ok (.ifCond .ge 10, 3) := by decide +kernel
theorem dX9_best_205 : decode cX9_best 205 = .ok (.aload_n 0, 1) := by decide +kernel
theorem dX9_best_206 : decode cX9_best 206 = .ok (.getfield 287, 3) := by decide +kernel
theorem dX9_best_209 : decode cX9_best 209 = .ok (.goto 5, 3) := by decide +kernel
theorem dX9_best_212 : decode cX9_best 212 = .ok (.iload 8, 2) := by decide +kernel
theorem dX9_best_214 : decode cX9_best 214 = .ok (.putfield 287, 3) := by decide +kernel
theorem dX9_best_217 : decode cX9_best 217 = .ok (.iload 7, 2) := by decide +kernel
theorem dX9_best_219 : decode cX9_best 219 = .ok (.ireturn, 1) := by decide +kernel
theorem dX9_price_0 : decode cX9_price 0 = .ok (.aload_n 0, 1) := by decide +kernel
theorem dX9_price_1 : decode cX9_price 1 = .ok (.getfield 287, 3) := by decide +kernel
theorem dX9_price_4 : decode cX9_price 4 = .ok (.ireturn, 1) := by decide +kernel
theorem dJ9_floorMod_7cf53_0 : decode cJ9_floorMod_7cf53 0 = .ok (.iload_n 0, 1) := by decide +kernel
theorem dJ9_floorMod_7cf53_1 : decode cJ9_floorMod_7cf53 1 = .ok (.iload_n 1, 1) := by decide +kernel
theorem dJ9_floorMod_7cf53_2 : decode cJ9_floorMod_7cf53 2 = .ok (.irem, 1) := by decide +kernel
theorem dJ9_floorMod_7cf53_3 : decode cJ9_floorMod_7cf53 3 = .ok (.istore_n 2, 1) := by decide +kernel
theorem dJ9_floorMod_7cf53_4 : decode cJ9_floorMod_7cf53 4 = .ok (.iload_n 0, 1) := by decide +kernel
theorem dJ9_floorMod_7cf53_5 : decode cJ9_floorMod_7cf53 5 = .ok (.iload_n 1, 1) := by decide +kernel
theorem dJ9_floorMod_7cf53_6 : decode cJ9_floorMod_7cf53 6 = .ok (.ixor, 1) := by decide +kernel
theorem dJ9_floorMod_7cf53_7 : decode cJ9_floorMod_7cf53 7 = .ok (.ifCond .ge 11, 3) := by decide +kernel
theorem dJ9_floorMod_7cf53_10 : decode cJ9_floorMod_7cf53 10 = .ok (.iload_n 2, 1) := by decide +kernel
theorem dJ9_floorMod_7cf53_11 : decode cJ9_floorMod_7cf53 11 = .ok (.ifCond .eq 7, 3) := by decide +kernel
theorem dJ9_floorMod_7cf53_14 : decode cJ9_floorMod_7cf53 14 = .ok (.iload_n 2, 1) := by decide +kernel
theorem dJ9_floorMod_7cf53_15 : decode cJ9_floorMod_7cf53 15 = .ok (.iload_n 1, 1) := by decide +kernel
theorem dJ9_floorMod_7cf53_16 : decode cJ9_floorMod_7cf53 16 = .ok (.iadd, 1) := by decide +kernel
theorem dJ9_floorMod_7cf53_17 : decode cJ9_floorMod_7cf53 17 = .ok (.ireturn, 1) := by decide +kernel
theorem dJ9_floorMod_7cf53_18 : decode cJ9_floorMod_7cf53 18 = .ok (.iload_n 2, 1) := by decide +kernel
theorem dJ9_floorMod_7cf53_19 : decode cJ9_floorMod_7cf53 19 = .ok (.ireturn, 1) := by decide +kernel
theorem dJ9_max_7cf53_0 : decode cJ9_max_7cf53 0 = .ok (.iload_n 0, 1) := by decide +kernel
theorem dJ9_max_7cf53_1 : decode cJ9_max_7cf53 1 = .ok (.iload_n 1, 1) := by decide +kernel
theorem dJ9_max_7cf53_2 : decode cJ9_max_7cf53 2 = .ok (.if_icmp .lt 7, 3) := by decide +kernel
theorem dJ9_max_7cf53_5 : decode cJ9_max_7cf53 5 = .ok (.iload_n 0, 1) := by decide +kernel
theorem dJ9_max_7cf53_6 : decode cJ9_max_7cf53 6 = .ok (.goto 4, 3) := by decide +kernel
theorem dJ9_max_7cf53_9 : decode cJ9_max_7cf53 9 = .ok (.iload_n 1, 1) := by decide +kernel
theorem dJ9_max_7cf53_10 : decode cJ9_max_7cf53 10 = .ok (.ireturn, 1) := by decide +kernel
theorem dJ9_min_7cf53_0 : decode cJ9_min_7cf53 0 = .ok (.iload_n 0, 1) := by decide +kernel
theorem dJ9_min_7cf53_1 : decode cJ9_min_7cf53 1 = .ok (.iload_n 1, 1) := by decide +kernel
theorem dJ9_min_7cf53_2 : decode cJ9_min_7cf53 2 = .ok (.if_icmp .gt 7, 3) := by decide +kernel
theorem dJ9_min_7cf53_5 : decode cJ9_min_7cf53 5 = .ok (.iload_n 0, 1) := by decide +kernel
theorem dJ9_min_7cf53_6 : decode cJ9_min_7cf53 6 = .ok (.goto 4, 3) := by decide +kernel
theorem dJ9_min_7cf53_9 : decode cJ9_min_7cf53 9 = .ok (.iload_n 1, 1) := by decide +kernel
theorem dJ9_min_7cf53_10 : decode cJ9_min_7cf53 10 = .ok (.ireturn, 1) := by decide +kernel
theorem dJ7_fill_53178_0 : decode cJ7_fill_53178 0 = .ok (.iconst 0, 1) := by decide +kernel
theorem dJ7_fill_53178_1 : decode cJ7_fill_53178 1 = .ok (.istore_n 2, 1) := by decide +kernel
theorem dJ7_fill_53178_2 : decode cJ7_fill_53178 2 = .ok (.aload_n 0, 1) := by decide +kernel
theorem dJ7_fill_53178_3 : decode cJ7_fill_53178 3 = .ok (.arraylength, 1) := by decide +kernel
theorem dJ7_fill_53178_4 : decode cJ7_fill_53178 4 = .ok (.istore_n 3, 1) := by decide +kernel
theorem dJ7_fill_53178_5 : decode cJ7_fill_53178 5 = .ok (.iload_n 2, 1) := by decide +kernel
theorem dJ7_fill_53178_6 : decode cJ7_fill_53178 6 = .ok (.iload_n 3, 1) := by decide +kernel
theorem dJ7_fill_53178_7 : decode cJ7_fill_53178 7 = .ok (.if_icmp .ge 13, 3) := by decide +kernel
theorem dJ7_fill_53178_10 : decode cJ7_fill_53178 10 = .ok (.aload_n 0, 1) := by decide +kernel
theorem dJ7_fill_53178_11 : decode cJ7_fill_53178 11 = .ok (.iload_n 2, 1) := by decide +kernel
theorem dJ7_fill_53178_12 : decode cJ7_fill_53178 12 = .ok (.iload_n 1, 1) := by decide +kernel
theorem dJ7_fill_53178_13 : decode cJ7_fill_53178 13 = .ok (.iastore, 1) := by decide +kernel
theorem dJ7_fill_53178_14 : decode cJ7_fill_53178 14 = .ok (.iinc 2 1, 3) := by decide +kernel
theorem dJ7_fill_53178_17 : decode cJ7_fill_53178 17 = .ok (.goto (-12), 3) := by decide +kernel
theorem dJ7_fill_53178_20 : decode cJ7_fill_53178 20 = .ok (.return_, 1) := by decide +kernel
theorem dL_law_0 : decode code 0 = .ok (.new 7, 3) := by decide +kernel
theorem dL_law_3 : decode code 3 = .ok (.dup, 1) := by decide +kernel
theorem dL_law_4 : decode code 4 = .ok (.invokespecial 9, 3) := by decide +kernel
theorem dL_law_7 : decode code 7 = .ok (.astore_n 1, 1) := by decide +kernel
theorem dL_law_8 : decode code 8 = .ok (.new 10, 3) := by decide +kernel
theorem dL_law_11 : decode code 11 = .ok (.dup, 1) := by decide +kernel
theorem dL_law_12 : decode code 12 = .ok (.invokespecial 12, 3) := by decide +kernel
theorem dL_law_15 : decode code 15 = .ok (.astore_n 2, 1) := by decide +kernel
theorem dL_law_16 : decode code 16 = .ok (.iconst 0, 1) := by decide +kernel
theorem dL_law_17 : decode code 17 = .ok (.istore_n 3, 1) := by decide +kernel
theorem dL_law_18 : decode code 18 = .ok (.iload_n 3, 1) := by decide +kernel
theorem dL_law_19 : decode code 19 = .ok (.aload_n 0, 1) := by decide +kernel
theorem dL_law_20 : decode code 20 = .ok (.arraylength, 1) := by decide +kernel
theorem dL_law_21 : decode code 21 = .ok (.iconst 5, 1) := by decide +kernel
theorem dL_law_22 : decode code 22 = .ok (.isub, 1) := by decide +kernel
theorem dL_law_23 : decode code 23 = .ok (.if_icmp .gt 697, 3) := by decide +kernel
theorem dL_law_26 : decode code 26 = .ok (.aload_n 0, 1) := by decide +kernel
theorem dL_law_27 : decode code 27 = .ok (.iload_n 3, 1) := by decide +kernel
theorem dL_law_28 : decode code 28 = .ok (.iaload, 1) := by decide +kernel
theorem dL_law_29 : decode code 29 = .ok (.bipush 31, 2) := by decide +kernel
theorem dL_law_31 : decode code 31 = .ok (.iand, 1) := by decide +kernel
theorem dL_law_32 : decode code 32 = .ok (.tableswitch 682 0 17 #[88, 131, 174, 207, 250, 273, 316, 339, 372, 405, 438, 471, 504, 537, 560, 583, 616, 669], 88) := by decide +kernel
theorem dL_law_120 : decode code 120 = .ok (.aload_n 1, 1) := by decide +kernel
theorem dL_law_121 : decode code 121 = .ok (.aload_n 0, 1) := by decide +kernel
theorem dL_law_122 : decode code 122 = .ok (.iload_n 3, 1) := by decide +kernel
theorem dL_law_123 : decode code 123 = .ok (.iconst 1, 1) := by decide +kernel
theorem dL_law_124 : decode code 124 = .ok (.iadd, 1) := by decide +kernel
theorem dL_law_125 : decode code 125 = .ok (.iaload, 1) := by decide +kernel
theorem dL_law_126 : decode code 126 = .ok (.aload_n 0, 1) := by decide +kernel
theorem dL_law_127 : decode code 127 = .ok (.iload_n 3, 1) := by decide +kernel
theorem dL_law_128 : decode code 128 = .ok (.iconst 2, 1) := by decide +kernel
theorem dL_law_129 : decode code 129 = .ok (.iadd, 1) := by decide +kernel
theorem dL_law_130 : decode code 130 = .ok (.iaload, 1) := by decide +kernel
theorem dL_law_131 : decode code 131 = .ok (.aload_n 0, 1) := by decide +kernel
theorem dL_law_132 : decode code 132 = .ok (.iload_n 3, 1) := by decide +kernel
theorem dL_law_133 : decode code 133 = .ok (.iconst 3, 1) := by decide +kernel
theorem dL_law_134 : decode code 134 = .ok (.iadd, 1) := by decide +kernel
theorem dL_law_135 : decode code 135 = .ok (.iaload, 1) := by decide +kernel
theorem dL_law_136 : decode code 136 = .ok (.invokevirtual 13, 3) := by decide +kernel
theorem dL_law_139 : decode code 139 = .ok (.aload_n 2, 1) := by decide +kernel
theorem dL_law_140 : decode code 140 = .ok (.aload_n 0, 1) := by decide +kernel
theorem dL_law_141 : decode code 141 = .ok (.iload_n 3, 1) := by decide +kernel
theorem dL_law_142 : decode code 142 = .ok (.iconst 1, 1) := by decide +kernel
theorem dL_law_143 : decode code 143 = .ok (.iadd, 1) := by decide +kernel
theorem dL_law_144 : decode code 144 = .ok (.iaload, 1) := by decide +kernel
theorem dL_law_145 : decode code 145 = .ok (.aload_n 0, 1) := by decide +kernel
theorem dL_law_146 : decode code 146 = .ok (.iload_n 3, 1) := by decide +kernel
theorem dL_law_147 : decode code 147 = .ok (.iconst 2, 1) := by decide +kernel
theorem dL_law_148 : decode code 148 = .ok (.iadd, 1) := by decide +kernel
theorem dL_law_149 : decode code 149 = .ok (.iaload, 1) := by decide +kernel
theorem dL_law_150 : decode code 150 = .ok (.aload_n 0, 1) := by decide +kernel
theorem dL_law_151 : decode code 151 = .ok (.iload_n 3, 1) := by decide +kernel
theorem dL_law_152 : decode code 152 = .ok (.iconst 3, 1) := by decide +kernel
theorem dL_law_153 : decode code 153 = .ok (.iadd, 1) := by decide +kernel
theorem dL_law_154 : decode code 154 = .ok (.iaload, 1) := by decide +kernel
theorem dL_law_155 : decode code 155 = .ok (.invokevirtual 17, 3) := by decide +kernel
theorem dL_law_158 : decode code 158 = .ok (.if_icmp .eq 556, 3) := by decide +kernel
theorem dL_law_161 : decode code 161 = .ok (.iconst 0, 1) := by decide +kernel
theorem dL_law_162 : decode code 162 = .ok (.ireturn, 1) := by decide +kernel
theorem dL_law_163 : decode code 163 = .ok (.aload_n 1, 1) := by decide +kernel
theorem dL_law_164 : decode code 164 = .ok (.aload_n 0, 1) := by decide +kernel
theorem dL_law_165 : decode code 165 = .ok (.iload_n 3, 1) := by decide +kernel
theorem dL_law_166 : decode code 166 = .ok (.iconst 1, 1) := by decide +kernel
theorem dL_law_167 : decode code 167 = .ok (.iadd, 1) := by decide +kernel
theorem dL_law_168 : decode code 168 = .ok (.iaload, 1) := by decide +kernel
theorem dL_law_169 : decode code 169 = .ok (.aload_n 0, 1) := by decide +kernel
theorem dL_law_170 : decode code 170 = .ok (.iload_n 3, 1) := by decide +kernel
theorem dL_law_171 : decode code 171 = .ok (.iconst 2, 1) := by decide +kernel
theorem dL_law_172 : decode code 172 = .ok (.iadd, 1) := by decide +kernel
theorem dL_law_173 : decode code 173 = .ok (.iaload, 1) := by decide +kernel
theorem dL_law_174 : decode code 174 = .ok (.aload_n 0, 1) := by decide +kernel
theorem dL_law_175 : decode code 175 = .ok (.iload_n 3, 1) := by decide +kernel
theorem dL_law_176 : decode code 176 = .ok (.iconst 3, 1) := by decide +kernel
theorem dL_law_177 : decode code 177 = .ok (.iadd, 1) := by decide +kernel
theorem dL_law_178 : decode code 178 = .ok (.iaload, 1) := by decide +kernel
theorem dL_law_179 : decode code 179 = .ok (.invokevirtual 18, 3) := by decide +kernel
theorem dL_law_182 : decode code 182 = .ok (.aload_n 2, 1) := by decide +kernel
theorem dL_law_183 : decode code 183 = .ok (.aload_n 0, 1) := by decide +kernel
theorem dL_law_184 : decode code 184 = .ok (.iload_n 3, 1) := by decide +kernel
theorem dL_law_185 : decode code 185 = .ok (.iconst 1, 1) := by decide +kernel
theorem dL_law_186 : decode code 186 = .ok (.iadd, 1) := by decide +kernel
theorem dL_law_187 : decode code 187 = .ok (.iaload, 1) := by decide +kernel
theorem dL_law_188 : decode code 188 = .ok (.aload_n 0, 1) := by decide +kernel
theorem dL_law_189 : decode code 189 = .ok (.iload_n 3, 1) := by decide +kernel
theorem dL_law_190 : decode code 190 = .ok (.iconst 2, 1) := by decide +kernel
theorem dL_law_191 : decode code 191 = .ok (.iadd, 1) := by decide +kernel
theorem dL_law_192 : decode code 192 = .ok (.iaload, 1) := by decide +kernel
theorem dL_law_193 : decode code 193 = .ok (.aload_n 0, 1) := by decide +kernel
theorem dL_law_194 : decode code 194 = .ok (.iload_n 3, 1) := by decide +kernel
theorem dL_law_195 : decode code 195 = .ok (.iconst 3, 1) := by decide +kernel
theorem dL_law_196 : decode code 196 = .ok (.iadd, 1) := by decide +kernel
theorem dL_law_197 : decode code 197 = .ok (.iaload, 1) := by decide +kernel
theorem dL_law_198 : decode code 198 = .ok (.invokevirtual 21, 3) := by decide +kernel
theorem dL_law_201 : decode code 201 = .ok (.if_icmp .eq 513, 3) := by decide +kernel
theorem dL_law_204 : decode code 204 = .ok (.iconst 0, 1) := by decide +kernel
theorem dL_law_205 : decode code 205 = .ok (.ireturn, 1) := by decide +kernel
theorem dL_law_206 : decode code 206 = .ok (.aload_n 1, 1) := by decide +kernel
theorem dL_law_207 : decode code 207 = .ok (.aload_n 0, 1) := by decide +kernel
theorem dL_law_208 : decode code 208 = .ok (.iload_n 3, 1) := by decide +kernel
theorem dL_law_209 : decode code 209 = .ok (.iconst 1, 1) := by decide +kernel
theorem dL_law_210 : decode code 210 = .ok (.iadd, 1) := by decide +kernel
theorem dL_law_211 : decode code 211 = .ok (.iaload, 1) := by decide +kernel
theorem dL_law_212 : decode code 212 = .ok (.aload_n 0, 1) := by decide +kernel
theorem dL_law_213 : decode code 213 = .ok (.iload_n 3, 1) := by decide +kernel
theorem dL_law_214 : decode code 214 = .ok (.iconst 2, 1) := by decide +kernel
theorem dL_law_215 : decode code 215 = .ok (.iadd, 1) := by decide +kernel
theorem dL_law_216 : decode code 216 = .ok (.iaload, 1) := by decide +kernel
theorem dL_law_217 : decode code 217 = .ok (.invokevirtual 22, 3) := by decide +kernel
theorem dL_law_220 : decode code 220 = .ok (.aload_n 2, 1) := by decide +kernel
theorem dL_law_221 : decode code 221 = .ok (.aload_n 0, 1) := by decide +kernel
theorem dL_law_222 : decode code 222 = .ok (.iload_n 3, 1) := by decide +kernel
theorem dL_law_223 : decode code 223 = .ok (.iconst 1, 1) := by decide +kernel
theorem dL_law_224 : decode code 224 = .ok (.iadd, 1) := by decide +kernel
theorem dL_law_225 : decode code 225 = .ok (.iaload, 1) := by decide +kernel
theorem dL_law_226 : decode code 226 = .ok (.aload_n 0, 1) := by decide +kernel
theorem dL_law_227 : decode code 227 = .ok (.iload_n 3, 1) := by decide +kernel
theorem dL_law_228 : decode code 228 = .ok (.iconst 2, 1) := by decide +kernel
theorem dL_law_229 : decode code 229 = .ok (.iadd, 1) := by decide +kernel
theorem dL_law_230 : decode code 230 = .ok (.iaload, 1) := by decide +kernel
theorem dL_law_231 : decode code 231 = .ok (.invokevirtual 26, 3) := by decide +kernel
theorem dL_law_234 : decode code 234 = .ok (.if_icmp .eq 480, 3) := by decide +kernel
theorem dL_law_237 : decode code 237 = .ok (.iconst 0, 1) := by decide +kernel
theorem dL_law_238 : decode code 238 = .ok (.ireturn, 1) := by decide +kernel
theorem dL_law_239 : decode code 239 = .ok (.aload_n 1, 1) := by decide +kernel
theorem dL_law_240 : decode code 240 = .ok (.aload_n 0, 1) := by decide +kernel
theorem dL_law_241 : decode code 241 = .ok (.iload_n 3, 1) := by decide +kernel
theorem dL_law_242 : decode code 242 = .ok (.iconst 1, 1) := by decide +kernel
theorem dL_law_243 : decode code 243 = .ok (.iadd, 1) := by decide +kernel
theorem dL_law_244 : decode code 244 = .ok (.iaload, 1) := by decide +kernel
theorem dL_law_245 : decode code 245 = .ok (.aload_n 0, 1) := by decide +kernel
theorem dL_law_246 : decode code 246 = .ok (.iload_n 3, 1) := by decide +kernel
theorem dL_law_247 : decode code 247 = .ok (.iconst 2, 1) := by decide +kernel
theorem dL_law_248 : decode code 248 = .ok (.iadd, 1) := by decide +kernel
theorem dL_law_249 : decode code 249 = .ok (.iaload, 1) := by decide +kernel
theorem dL_law_250 : decode code 250 = .ok (.aload_n 0, 1) := by decide +kernel
theorem dL_law_251 : decode code 251 = .ok (.iload_n 3, 1) := by decide +kernel
theorem dL_law_252 : decode code 252 = .ok (.iconst 3, 1) := by decide +kernel
theorem dL_law_253 : decode code 253 = .ok (.iadd, 1) := by decide +kernel
theorem dL_law_254 : decode code 254 = .ok (.iaload, 1) := by decide +kernel
theorem dL_law_255 : decode code 255 = .ok (.invokevirtual 27, 3) := by decide +kernel
theorem dL_law_258 : decode code 258 = .ok (.aload_n 2, 1) := by decide +kernel
theorem dL_law_259 : decode code 259 = .ok (.aload_n 0, 1) := by decide +kernel
theorem dL_law_260 : decode code 260 = .ok (.iload_n 3, 1) := by decide +kernel
theorem dL_law_261 : decode code 261 = .ok (.iconst 1, 1) := by decide +kernel
theorem dL_law_262 : decode code 262 = .ok (.iadd, 1) := by decide +kernel
theorem dL_law_263 : decode code 263 = .ok (.iaload, 1) := by decide +kernel
theorem dL_law_264 : decode code 264 = .ok (.aload_n 0, 1) := by decide +kernel
theorem dL_law_265 : decode code 265 = .ok (.iload_n 3, 1) := by decide +kernel
theorem dL_law_266 : decode code 266 = .ok (.iconst 2, 1) := by decide +kernel
theorem dL_law_267 : decode code 267 = .ok (.iadd, 1) := by decide +kernel
theorem dL_law_268 : decode code 268 = .ok (.iaload, 1) := by decide +kernel
theorem dL_law_269 : decode code 269 = .ok (.aload_n 0, 1) := by decide +kernel
theorem dL_law_270 : decode code 270 = .ok (.iload_n 3, 1) := by decide +kernel
theorem dL_law_271 : decode code 271 = .ok (.iconst 3, 1) := by decide +kernel
theorem dL_law_272 : decode code 272 = .ok (.iadd, 1) := by decide +kernel
theorem dL_law_273 : decode code 273 = .ok (.iaload, 1) := by decide +kernel
theorem dL_law_274 : decode code 274 = .ok (.invokevirtual 30, 3) := by decide +kernel
theorem dL_law_277 : decode code 277 = .ok (.if_icmp .eq 437, 3) := by decide +kernel
theorem dL_law_280 : decode code 280 = .ok (.iconst 0, 1) := by decide +kernel
theorem dL_law_281 : decode code 281 = .ok (.ireturn, 1) := by decide +kernel
theorem dL_law_282 : decode code 282 = .ok (.aload_n 1, 1) := by decide +kernel
theorem dL_law_283 : decode code 283 = .ok (.aload_n 0, 1) := by decide +kernel
theorem dL_law_284 : decode code 284 = .ok (.iload_n 3, 1) := by decide +kernel
theorem dL_law_285 : decode code 285 = .ok (.iconst 1, 1) := by decide +kernel
theorem dL_law_286 : decode code 286 = .ok (.iadd, 1) := by decide +kernel
theorem dL_law_287 : decode code 287 = .ok (.iaload, 1) := by decide +kernel
theorem dL_law_288 : decode code 288 = .ok (.invokevirtual 31, 3) := by decide +kernel
theorem dL_law_291 : decode code 291 = .ok (.aload_n 2, 1) := by decide +kernel
theorem dL_law_292 : decode code 292 = .ok (.aload_n 0, 1) := by decide +kernel
theorem dL_law_293 : decode code 293 = .ok (.iload_n 3, 1) := by decide +kernel
theorem dL_law_294 : decode code 294 = .ok (.iconst 1, 1) := by decide +kernel
theorem dL_law_295 : decode code 295 = .ok (.iadd, 1) := by decide +kernel
theorem dL_law_296 : decode code 296 = .ok (.iaload, 1) := by decide +kernel
theorem dL_law_297 : decode code 297 = .ok (.invokevirtual 35, 3) := by decide +kernel
theorem dL_law_300 : decode code 300 = .ok (.if_icmp .eq 414, 3) := by decide +kernel
theorem dL_law_303 : decode code 303 = .ok (.iconst 0, 1) := by decide +kernel
theorem dL_law_304 : decode code 304 = .ok (.ireturn, 1) := by decide +kernel
theorem dL_law_305 : decode code 305 = .ok (.aload_n 1, 1) := by decide +kernel
theorem dL_law_306 : decode code 306 = .ok (.aload_n 0, 1) := by decide +kernel
theorem dL_law_307 : decode code 307 = .ok (.iload_n 3, 1) := by decide +kernel
theorem dL_law_308 : decode code 308 = .ok (.iconst 1, 1) := by decide +kernel
theorem dL_law_309 : decode code 309 = .ok (.iadd, 1) := by decide +kernel
theorem dL_law_310 : decode code 310 = .ok (.iaload, 1) := by decide +kernel
theorem dL_law_311 : decode code 311 = .ok (.aload_n 0, 1) := by decide +kernel
theorem dL_law_312 : decode code 312 = .ok (.iload_n 3, 1) := by decide +kernel
theorem dL_law_313 : decode code 313 = .ok (.iconst 2, 1) := by decide +kernel
theorem dL_law_314 : decode code 314 = .ok (.iadd, 1) := by decide +kernel
theorem dL_law_315 : decode code 315 = .ok (.iaload, 1) := by decide +kernel
theorem dL_law_316 : decode code 316 = .ok (.aload_n 0, 1) := by decide +kernel
theorem dL_law_317 : decode code 317 = .ok (.iload_n 3, 1) := by decide +kernel
theorem dL_law_318 : decode code 318 = .ok (.iconst 3, 1) := by decide +kernel
theorem dL_law_319 : decode code 319 = .ok (.iadd, 1) := by decide +kernel
theorem dL_law_320 : decode code 320 = .ok (.iaload, 1) := by decide +kernel
theorem dL_law_321 : decode code 321 = .ok (.invokevirtual 36, 3) := by decide +kernel
theorem dL_law_324 : decode code 324 = .ok (.aload_n 2, 1) := by decide +kernel
theorem dL_law_325 : decode code 325 = .ok (.aload_n 0, 1) := by decide +kernel
theorem dL_law_326 : decode code 326 = .ok (.iload_n 3, 1) := by decide +kernel
theorem dL_law_327 : decode code 327 = .ok (.iconst 1, 1) := by decide +kernel
theorem dL_law_328 : decode code 328 = .ok (.iadd, 1) := by decide +kernel
theorem dL_law_329 : decode code 329 = .ok (.iaload, 1) := by decide +kernel
theorem dL_law_330 : decode code 330 = .ok (.aload_n 0, 1) := by decide +kernel
theorem dL_law_331 : decode code 331 = .ok (.iload_n 3, 1) := by decide +kernel
theorem dL_law_332 : decode code 332 = .ok (.iconst 2, 1) := by decide +kernel
theorem dL_law_333 : decode code 333 = .ok (.iadd, 1) := by decide +kernel
theorem dL_law_334 : decode code 334 = .ok (.iaload, 1) := by decide +kernel
theorem dL_law_335 : decode code 335 = .ok (.aload_n 0, 1) := by decide +kernel
theorem dL_law_336 : decode code 336 = .ok (.iload_n 3, 1) := by decide +kernel
theorem dL_law_337 : decode code 337 = .ok (.iconst 3, 1) := by decide +kernel
theorem dL_law_338 : decode code 338 = .ok (.iadd, 1) := by decide +kernel
theorem dL_law_339 : decode code 339 = .ok (.iaload, 1) := by decide +kernel
theorem dL_law_340 : decode code 340 = .ok (.invokevirtual 39, 3) := by decide +kernel
theorem dL_law_343 : decode code 343 = .ok (.if_icmp .eq 371, 3) := by decide +kernel
theorem dL_law_346 : decode code 346 = .ok (.iconst 0, 1) := by decide +kernel
theorem dL_law_347 : decode code 347 = .ok (.ireturn, 1) := by decide +kernel
theorem dL_law_348 : decode code 348 = .ok (.aload_n 1, 1) := by decide +kernel
theorem dL_law_349 : decode code 349 = .ok (.aload_n 0, 1) := by decide +kernel
theorem dL_law_350 : decode code 350 = .ok (.iload_n 3, 1) := by decide +kernel
theorem dL_law_351 : decode code 351 = .ok (.iconst 1, 1) := by decide +kernel
theorem dL_law_352 : decode code 352 = .ok (.iadd, 1) := by decide +kernel
theorem dL_law_353 : decode code 353 = .ok (.iaload, 1) := by decide +kernel
theorem dL_law_354 : decode code 354 = .ok (.invokevirtual 40, 3) := by decide +kernel
theorem dL_law_357 : decode code 357 = .ok (.aload_n 2, 1) := by decide +kernel
theorem dL_law_358 : decode code 358 = .ok (.aload_n 0, 1) := by decide +kernel
theorem dL_law_359 : decode code 359 = .ok (.iload_n 3, 1) := by decide +kernel
theorem dL_law_360 : decode code 360 = .ok (.iconst 1, 1) := by decide +kernel
theorem dL_law_361 : decode code 361 = .ok (.iadd, 1) := by decide +kernel
theorem dL_law_362 : decode code 362 = .ok (.iaload, 1) := by decide +kernel
theorem dL_law_363 : decode code 363 = .ok (.invokevirtual 43, 3) := by decide +kernel
theorem dL_law_366 : decode code 366 = .ok (.if_icmp .eq 348, 3) := by decide +kernel
theorem dL_law_369 : decode code 369 = .ok (.iconst 0, 1) := by decide +kernel
theorem dL_law_370 : decode code 370 = .ok (.ireturn, 1) := by decide +kernel
theorem dL_law_371 : decode code 371 = .ok (.aload_n 1, 1) := by decide +kernel
theorem dL_law_372 : decode code 372 = .ok (.aload_n 0, 1) := by decide +kernel
theorem dL_law_373 : decode code 373 = .ok (.iload_n 3, 1) := by decide +kernel
theorem dL_law_374 : decode code 374 = .ok (.iconst 1, 1) := by decide +kernel
theorem dL_law_375 : decode code 375 = .ok (.iadd, 1) := by decide +kernel
theorem dL_law_376 : decode code 376 = .ok (.iaload, 1) := by decide +kernel
theorem dL_law_377 : decode code 377 = .ok (.aload_n 0, 1) := by decide +kernel
theorem dL_law_378 : decode code 378 = .ok (.iload_n 3, 1) := by decide +kernel
theorem dL_law_379 : decode code 379 = .ok (.iconst 2, 1) := by decide +kernel
theorem dL_law_380 : decode code 380 = .ok (.iadd, 1) := by decide +kernel
theorem dL_law_381 : decode code 381 = .ok (.iaload, 1) := by decide +kernel
theorem dL_law_382 : decode code 382 = .ok (.invokevirtual 44, 3) := by decide +kernel
theorem dL_law_385 : decode code 385 = .ok (.aload_n 2, 1) := by decide +kernel
theorem dL_law_386 : decode code 386 = .ok (.aload_n 0, 1) := by decide +kernel
theorem dL_law_387 : decode code 387 = .ok (.iload_n 3, 1) := by decide +kernel
theorem dL_law_388 : decode code 388 = .ok (.iconst 1, 1) := by decide +kernel
theorem dL_law_389 : decode code 389 = .ok (.iadd, 1) := by decide +kernel
theorem dL_law_390 : decode code 390 = .ok (.iaload, 1) := by decide +kernel
theorem dL_law_391 : decode code 391 = .ok (.aload_n 0, 1) := by decide +kernel
theorem dL_law_392 : decode code 392 = .ok (.iload_n 3, 1) := by decide +kernel
theorem dL_law_393 : decode code 393 = .ok (.iconst 2, 1) := by decide +kernel
theorem dL_law_394 : decode code 394 = .ok (.iadd, 1) := by decide +kernel
theorem dL_law_395 : decode code 395 = .ok (.iaload, 1) := by decide +kernel
theorem dL_law_396 : decode code 396 = .ok (.invokevirtual 47, 3) := by decide +kernel
theorem dL_law_399 : decode code 399 = .ok (.if_icmp .eq 315, 3) := by decide +kernel
theorem dL_law_402 : decode code 402 = .ok (.iconst 0, 1) := by decide +kernel
theorem dL_law_403 : decode code 403 = .ok (.ireturn, 1) := by decide +kernel
theorem dL_law_404 : decode code 404 = .ok (.aload_n 1, 1) := by decide +kernel
theorem dL_law_405 : decode code 405 = .ok (.aload_n 0, 1) := by decide +kernel
theorem dL_law_406 : decode code 406 = .ok (.iload_n 3, 1) := by decide +kernel
theorem dL_law_407 : decode code 407 = .ok (.iconst 1, 1) := by decide +kernel
theorem dL_law_408 : decode code 408 = .ok (.iadd, 1) := by decide +kernel
theorem dL_law_409 : decode code 409 = .ok (.iaload, 1) := by decide +kernel
theorem dL_law_410 : decode code 410 = .ok (.aload_n 0, 1) := by decide +kernel
theorem dL_law_411 : decode code 411 = .ok (.iload_n 3, 1) := by decide +kernel
theorem dL_law_412 : decode code 412 = .ok (.iconst 2, 1) := by decide +kernel
theorem dL_law_413 : decode code 413 = .ok (.iadd, 1) := by decide +kernel
theorem dL_law_414 : decode code 414 = .ok (.iaload, 1) := by decide +kernel
theorem dL_law_415 : decode code 415 = .ok (.invokevirtual 48, 3) := by decide +kernel
theorem dL_law_418 : decode code 418 = .ok (.aload_n 2, 1) := by decide +kernel
theorem dL_law_419 : decode code 419 = .ok (.aload_n 0, 1) := by decide +kernel
theorem dL_law_420 : decode code 420 = .ok (.iload_n 3, 1) := by decide +kernel
theorem dL_law_421 : decode code 421 = .ok (.iconst 1, 1) := by decide +kernel
theorem dL_law_422 : decode code 422 = .ok (.iadd, 1) := by decide +kernel
theorem dL_law_423 : decode code 423 = .ok (.iaload, 1) := by decide +kernel
theorem dL_law_424 : decode code 424 = .ok (.aload_n 0, 1) := by decide +kernel
theorem dL_law_425 : decode code 425 = .ok (.iload_n 3, 1) := by decide +kernel
theorem dL_law_426 : decode code 426 = .ok (.iconst 2, 1) := by decide +kernel
theorem dL_law_427 : decode code 427 = .ok (.iadd, 1) := by decide +kernel
theorem dL_law_428 : decode code 428 = .ok (.iaload, 1) := by decide +kernel
theorem dL_law_429 : decode code 429 = .ok (.invokevirtual 51, 3) := by decide +kernel
theorem dL_law_432 : decode code 432 = .ok (.if_icmp .eq 282, 3) := by decide +kernel
theorem dL_law_435 : decode code 435 = .ok (.iconst 0, 1) := by decide +kernel
theorem dL_law_436 : decode code 436 = .ok (.ireturn, 1) := by decide +kernel
theorem dL_law_437 : decode code 437 = .ok (.aload_n 1, 1) := by decide +kernel
theorem dL_law_438 : decode code 438 = .ok (.aload_n 0, 1) := by decide +kernel
theorem dL_law_439 : decode code 439 = .ok (.iload_n 3, 1) := by decide +kernel
theorem dL_law_440 : decode code 440 = .ok (.iconst 1, 1) := by decide +kernel
theorem dL_law_441 : decode code 441 = .ok (.iadd, 1) := by decide +kernel
theorem dL_law_442 : decode code 442 = .ok (.iaload, 1) := by decide +kernel
theorem dL_law_443 : decode code 443 = .ok (.aload_n 0, 1) := by decide +kernel
theorem dL_law_444 : decode code 444 = .ok (.iload_n 3, 1) := by decide +kernel
theorem dL_law_445 : decode code 445 = .ok (.iconst 2, 1) := by decide +kernel
theorem dL_law_446 : decode code 446 = .ok (.iadd, 1) := by decide +kernel
theorem dL_law_447 : decode code 447 = .ok (.iaload, 1) := by decide +kernel
theorem dL_law_448 : decode code 448 = .ok (.invokevirtual 52, 3) := by decide +kernel
theorem dL_law_451 : decode code 451 = .ok (.aload_n 2, 1) := by decide +kernel
theorem dL_law_452 : decode code 452 = .ok (.aload_n 0, 1) := by decide +kernel
theorem dL_law_453 : decode code 453 = .ok (.iload_n 3, 1) := by decide +kernel
theorem dL_law_454 : decode code 454 = .ok (.iconst 1, 1) := by decide +kernel
theorem dL_law_455 : decode code 455 = .ok (.iadd, 1) := by decide +kernel
theorem dL_law_456 : decode code 456 = .ok (.iaload, 1) := by decide +kernel
theorem dL_law_457 : decode code 457 = .ok (.aload_n 0, 1) := by decide +kernel
theorem dL_law_458 : decode code 458 = .ok (.iload_n 3, 1) := by decide +kernel
theorem dL_law_459 : decode code 459 = .ok (.iconst 2, 1) := by decide +kernel
theorem dL_law_460 : decode code 460 = .ok (.iadd, 1) := by decide +kernel
theorem dL_law_461 : decode code 461 = .ok (.iaload, 1) := by decide +kernel
theorem dL_law_462 : decode code 462 = .ok (.invokevirtual 55, 3) := by decide +kernel
theorem dL_law_465 : decode code 465 = .ok (.if_icmp .eq 249, 3) := by decide +kernel
theorem dL_law_468 : decode code 468 = .ok (.iconst 0, 1) := by decide +kernel
theorem dL_law_469 : decode code 469 = .ok (.ireturn, 1) := by decide +kernel
theorem dL_law_470 : decode code 470 = .ok (.aload_n 1, 1) := by decide +kernel
theorem dL_law_471 : decode code 471 = .ok (.aload_n 0, 1) := by decide +kernel
theorem dL_law_472 : decode code 472 = .ok (.iload_n 3, 1) := by decide +kernel
theorem dL_law_473 : decode code 473 = .ok (.iconst 1, 1) := by decide +kernel
theorem dL_law_474 : decode code 474 = .ok (.iadd, 1) := by decide +kernel
theorem dL_law_475 : decode code 475 = .ok (.iaload, 1) := by decide +kernel
theorem dL_law_476 : decode code 476 = .ok (.aload_n 0, 1) := by decide +kernel
theorem dL_law_477 : decode code 477 = .ok (.iload_n 3, 1) := by decide +kernel
theorem dL_law_478 : decode code 478 = .ok (.iconst 2, 1) := by decide +kernel
theorem dL_law_479 : decode code 479 = .ok (.iadd, 1) := by decide +kernel
theorem dL_law_480 : decode code 480 = .ok (.iaload, 1) := by decide +kernel
theorem dL_law_481 : decode code 481 = .ok (.invokevirtual 56, 3) := by decide +kernel
theorem dL_law_484 : decode code 484 = .ok (.aload_n 2, 1) := by decide +kernel
theorem dL_law_485 : decode code 485 = .ok (.aload_n 0, 1) := by decide +kernel
theorem dL_law_486 : decode code 486 = .ok (.iload_n 3, 1) := by decide +kernel
theorem dL_law_487 : decode code 487 = .ok (.iconst 1, 1) := by decide +kernel
theorem dL_law_488 : decode code 488 = .ok (.iadd, 1) := by decide +kernel
theorem dL_law_489 : decode code 489 = .ok (.iaload, 1) := by decide +kernel
theorem dL_law_490 : decode code 490 = .ok (.aload_n 0, 1) := by decide +kernel
theorem dL_law_491 : decode code 491 = .ok (.iload_n 3, 1) := by decide +kernel
theorem dL_law_492 : decode code 492 = .ok (.iconst 2, 1) := by decide +kernel
theorem dL_law_493 : decode code 493 = .ok (.iadd, 1) := by decide +kernel
theorem dL_law_494 : decode code 494 = .ok (.iaload, 1) := by decide +kernel
theorem dL_law_495 : decode code 495 = .ok (.invokevirtual 59, 3) := by decide +kernel
theorem dL_law_498 : decode code 498 = .ok (.if_icmp .eq 216, 3) := by decide +kernel
theorem dL_law_501 : decode code 501 = .ok (.iconst 0, 1) := by decide +kernel
theorem dL_law_502 : decode code 502 = .ok (.ireturn, 1) := by decide +kernel
theorem dL_law_503 : decode code 503 = .ok (.aload_n 1, 1) := by decide +kernel
theorem dL_law_504 : decode code 504 = .ok (.aload_n 0, 1) := by decide +kernel
theorem dL_law_505 : decode code 505 = .ok (.iload_n 3, 1) := by decide +kernel
theorem dL_law_506 : decode code 506 = .ok (.iconst 1, 1) := by decide +kernel
theorem dL_law_507 : decode code 507 = .ok (.iadd, 1) := by decide +kernel
theorem dL_law_508 : decode code 508 = .ok (.iaload, 1) := by decide +kernel
theorem dL_law_509 : decode code 509 = .ok (.aload_n 0, 1) := by decide +kernel
theorem dL_law_510 : decode code 510 = .ok (.iload_n 3, 1) := by decide +kernel
theorem dL_law_511 : decode code 511 = .ok (.iconst 2, 1) := by decide +kernel
theorem dL_law_512 : decode code 512 = .ok (.iadd, 1) := by decide +kernel
theorem dL_law_513 : decode code 513 = .ok (.iaload, 1) := by decide +kernel
theorem dL_law_514 : decode code 514 = .ok (.invokevirtual 60, 3) := by decide +kernel
theorem dL_law_517 : decode code 517 = .ok (.aload_n 2, 1) := by decide +kernel
theorem dL_law_518 : decode code 518 = .ok (.aload_n 0, 1) := by decide +kernel
theorem dL_law_519 : decode code 519 = .ok (.iload_n 3, 1) := by decide +kernel
theorem dL_law_520 : decode code 520 = .ok (.iconst 1, 1) := by decide +kernel
theorem dL_law_521 : decode code 521 = .ok (.iadd, 1) := by decide +kernel
theorem dL_law_522 : decode code 522 = .ok (.iaload, 1) := by decide +kernel
theorem dL_law_523 : decode code 523 = .ok (.aload_n 0, 1) := by decide +kernel
theorem dL_law_524 : decode code 524 = .ok (.iload_n 3, 1) := by decide +kernel
theorem dL_law_525 : decode code 525 = .ok (.iconst 2, 1) := by decide +kernel
theorem dL_law_526 : decode code 526 = .ok (.iadd, 1) := by decide +kernel
theorem dL_law_527 : decode code 527 = .ok (.iaload, 1) := by decide +kernel
theorem dL_law_528 : decode code 528 = .ok (.invokevirtual 63, 3) := by decide +kernel
theorem dL_law_531 : decode code 531 = .ok (.if_icmp .eq 183, 3) := by decide +kernel
theorem dL_law_534 : decode code 534 = .ok (.iconst 0, 1) := by decide +kernel
theorem dL_law_535 : decode code 535 = .ok (.ireturn, 1) := by decide +kernel
theorem dL_law_536 : decode code 536 = .ok (.aload_n 1, 1) := by decide +kernel
theorem dL_law_537 : decode code 537 = .ok (.aload_n 0, 1) := by decide +kernel
theorem dL_law_538 : decode code 538 = .ok (.iload_n 3, 1) := by decide +kernel
theorem dL_law_539 : decode code 539 = .ok (.iconst 1, 1) := by decide +kernel
theorem dL_law_540 : decode code 540 = .ok (.iadd, 1) := by decide +kernel
theorem dL_law_541 : decode code 541 = .ok (.iaload, 1) := by decide +kernel
theorem dL_law_542 : decode code 542 = .ok (.aload_n 0, 1) := by decide +kernel
theorem dL_law_543 : decode code 543 = .ok (.iload_n 3, 1) := by decide +kernel
theorem dL_law_544 : decode code 544 = .ok (.iconst 2, 1) := by decide +kernel
theorem dL_law_545 : decode code 545 = .ok (.iadd, 1) := by decide +kernel
theorem dL_law_546 : decode code 546 = .ok (.iaload, 1) := by decide +kernel
theorem dL_law_547 : decode code 547 = .ok (.invokevirtual 64, 3) := by decide +kernel
theorem dL_law_550 : decode code 550 = .ok (.aload_n 2, 1) := by decide +kernel
theorem dL_law_551 : decode code 551 = .ok (.aload_n 0, 1) := by decide +kernel
theorem dL_law_552 : decode code 552 = .ok (.iload_n 3, 1) := by decide +kernel
theorem dL_law_553 : decode code 553 = .ok (.iconst 1, 1) := by decide +kernel
theorem dL_law_554 : decode code 554 = .ok (.iadd, 1) := by decide +kernel
theorem dL_law_555 : decode code 555 = .ok (.iaload, 1) := by decide +kernel
theorem dL_law_556 : decode code 556 = .ok (.aload_n 0, 1) := by decide +kernel
theorem dL_law_557 : decode code 557 = .ok (.iload_n 3, 1) := by decide +kernel
theorem dL_law_558 : decode code 558 = .ok (.iconst 2, 1) := by decide +kernel
theorem dL_law_559 : decode code 559 = .ok (.iadd, 1) := by decide +kernel
theorem dL_law_560 : decode code 560 = .ok (.iaload, 1) := by decide +kernel
theorem dL_law_561 : decode code 561 = .ok (.invokevirtual 67, 3) := by decide +kernel
theorem dL_law_564 : decode code 564 = .ok (.if_icmp .eq 150, 3) := by decide +kernel
theorem dL_law_567 : decode code 567 = .ok (.iconst 0, 1) := by decide +kernel
theorem dL_law_568 : decode code 568 = .ok (.ireturn, 1) := by decide +kernel
theorem dL_law_569 : decode code 569 = .ok (.aload_n 1, 1) := by decide +kernel
theorem dL_law_570 : decode code 570 = .ok (.aload_n 0, 1) := by decide +kernel
theorem dL_law_571 : decode code 571 = .ok (.iload_n 3, 1) := by decide +kernel
theorem dL_law_572 : decode code 572 = .ok (.iconst 1, 1) := by decide +kernel
theorem dL_law_573 : decode code 573 = .ok (.iadd, 1) := by decide +kernel
theorem dL_law_574 : decode code 574 = .ok (.iaload, 1) := by decide +kernel
theorem dL_law_575 : decode code 575 = .ok (.invokevirtual 68, 3) := by decide +kernel
theorem dL_law_578 : decode code 578 = .ok (.aload_n 2, 1) := by decide +kernel
theorem dL_law_579 : decode code 579 = .ok (.aload_n 0, 1) := by decide +kernel
theorem dL_law_580 : decode code 580 = .ok (.iload_n 3, 1) := by decide +kernel
theorem dL_law_581 : decode code 581 = .ok (.iconst 1, 1) := by decide +kernel
theorem dL_law_582 : decode code 582 = .ok (.iadd, 1) := by decide +kernel
theorem dL_law_583 : decode code 583 = .ok (.iaload, 1) := by decide +kernel
theorem dL_law_584 : decode code 584 = .ok (.invokevirtual 71, 3) := by decide +kernel
theorem dL_law_587 : decode code 587 = .ok (.if_icmp .eq 127, 3) := by decide +kernel
theorem dL_law_590 : decode code 590 = .ok (.iconst 0, 1) := by decide +kernel
theorem dL_law_591 : decode code 591 = .ok (.ireturn, 1) := by decide +kernel
theorem dL_law_592 : decode code 592 = .ok (.aload_n 1, 1) := by decide +kernel
theorem dL_law_593 : decode code 593 = .ok (.aload_n 0, 1) := by decide +kernel
theorem dL_law_594 : decode code 594 = .ok (.iload_n 3, 1) := by decide +kernel
theorem dL_law_595 : decode code 595 = .ok (.iconst 1, 1) := by decide +kernel
theorem dL_law_596 : decode code 596 = .ok (.iadd, 1) := by decide +kernel
theorem dL_law_597 : decode code 597 = .ok (.iaload, 1) := by decide +kernel
theorem dL_law_598 : decode code 598 = .ok (.invokevirtual 72, 3) := by decide +kernel
theorem dL_law_601 : decode code 601 = .ok (.aload_n 2, 1) := by decide +kernel
theorem dL_law_602 : decode code 602 = .ok (.aload_n 0, 1) := by decide +kernel
theorem dL_law_603 : decode code 603 = .ok (.iload_n 3, 1) := by decide +kernel
theorem dL_law_604 : decode code 604 = .ok (.iconst 1, 1) := by decide +kernel
theorem dL_law_605 : decode code 605 = .ok (.iadd, 1) := by decide +kernel
theorem dL_law_606 : decode code 606 = .ok (.iaload, 1) := by decide +kernel
theorem dL_law_607 : decode code 607 = .ok (.invokevirtual 75, 3) := by decide +kernel
theorem dL_law_610 : decode code 610 = .ok (.if_icmp .eq 104, 3) := by decide +kernel
theorem dL_law_613 : decode code 613 = .ok (.iconst 0, 1) := by decide +kernel
theorem dL_law_614 : decode code 614 = .ok (.ireturn, 1) := by decide +kernel
theorem dL_law_615 : decode code 615 = .ok (.aload_n 1, 1) := by decide +kernel
theorem dL_law_616 : decode code 616 = .ok (.aload_n 0, 1) := by decide +kernel
theorem dL_law_617 : decode code 617 = .ok (.iload_n 3, 1) := by decide +kernel
theorem dL_law_618 : decode code 618 = .ok (.iconst 1, 1) := by decide +kernel
theorem dL_law_619 : decode code 619 = .ok (.iadd, 1) := by decide +kernel
theorem dL_law_620 : decode code 620 = .ok (.iaload, 1) := by decide +kernel
theorem dL_law_621 : decode code 621 = .ok (.aload_n 0, 1) := by decide +kernel
theorem dL_law_622 : decode code 622 = .ok (.iload_n 3, 1) := by decide +kernel
theorem dL_law_623 : decode code 623 = .ok (.iconst 2, 1) := by decide +kernel
theorem dL_law_624 : decode code 624 = .ok (.iadd, 1) := by decide +kernel
theorem dL_law_625 : decode code 625 = .ok (.iaload, 1) := by decide +kernel
theorem dL_law_626 : decode code 626 = .ok (.invokevirtual 76, 3) := by decide +kernel
theorem dL_law_629 : decode code 629 = .ok (.aload_n 2, 1) := by decide +kernel
theorem dL_law_630 : decode code 630 = .ok (.aload_n 0, 1) := by decide +kernel
theorem dL_law_631 : decode code 631 = .ok (.iload_n 3, 1) := by decide +kernel
theorem dL_law_632 : decode code 632 = .ok (.iconst 1, 1) := by decide +kernel
theorem dL_law_633 : decode code 633 = .ok (.iadd, 1) := by decide +kernel
theorem dL_law_634 : decode code 634 = .ok (.iaload, 1) := by decide +kernel
theorem dL_law_635 : decode code 635 = .ok (.aload_n 0, 1) := by decide +kernel
theorem dL_law_636 : decode code 636 = .ok (.iload_n 3, 1) := by decide +kernel
theorem dL_law_637 : decode code 637 = .ok (.iconst 2, 1) := by decide +kernel
theorem dL_law_638 : decode code 638 = .ok (.iadd, 1) := by decide +kernel
theorem dL_law_639 : decode code 639 = .ok (.iaload, 1) := by decide +kernel
theorem dL_law_640 : decode code 640 = .ok (.invokevirtual 79, 3) := by decide +kernel
theorem dL_law_643 : decode code 643 = .ok (.if_icmp .eq 71, 3) := by decide +kernel
theorem dL_law_646 : decode code 646 = .ok (.iconst 0, 1) := by decide +kernel
theorem dL_law_647 : decode code 647 = .ok (.ireturn, 1) := by decide +kernel
theorem dL_law_648 : decode code 648 = .ok (.aload_n 1, 1) := by decide +kernel
theorem dL_law_649 : decode code 649 = .ok (.aload_n 0, 1) := by decide +kernel
theorem dL_law_650 : decode code 650 = .ok (.iload_n 3, 1) := by decide +kernel
theorem dL_law_651 : decode code 651 = .ok (.iconst 1, 1) := by decide +kernel
theorem dL_law_652 : decode code 652 = .ok (.iadd, 1) := by decide +kernel
theorem dL_law_653 : decode code 653 = .ok (.iaload, 1) := by decide +kernel
theorem dL_law_654 : decode code 654 = .ok (.aload_n 0, 1) := by decide +kernel
theorem dL_law_655 : decode code 655 = .ok (.iload_n 3, 1) := by decide +kernel
theorem dL_law_656 : decode code 656 = .ok (.iconst 2, 1) := by decide +kernel
theorem dL_law_657 : decode code 657 = .ok (.iadd, 1) := by decide +kernel
theorem dL_law_658 : decode code 658 = .ok (.iaload, 1) := by decide +kernel
theorem dL_law_659 : decode code 659 = .ok (.aload_n 0, 1) := by decide +kernel
theorem dL_law_660 : decode code 660 = .ok (.iload_n 3, 1) := by decide +kernel
theorem dL_law_661 : decode code 661 = .ok (.iconst 3, 1) := by decide +kernel
theorem dL_law_662 : decode code 662 = .ok (.iadd, 1) := by decide +kernel
theorem dL_law_663 : decode code 663 = .ok (.iaload, 1) := by decide +kernel
theorem dL_law_664 : decode code 664 = .ok (.aload_n 0, 1) := by decide +kernel
theorem dL_law_665 : decode code 665 = .ok (.iload_n 3, 1) := by decide +kernel
theorem dL_law_666 : decode code 666 = .ok (.iconst 4, 1) := by decide +kernel
theorem dL_law_667 : decode code 667 = .ok (.iadd, 1) := by decide +kernel
theorem dL_law_668 : decode code 668 = .ok (.iaload, 1) := by decide +kernel
theorem dL_law_669 : decode code 669 = .ok (.invokevirtual 80, 3) := by decide +kernel
theorem dL_law_672 : decode code 672 = .ok (.aload_n 2, 1) := by decide +kernel
theorem dL_law_673 : decode code 673 = .ok (.aload_n 0, 1) := by decide +kernel
theorem dL_law_674 : decode code 674 = .ok (.iload_n 3, 1) := by decide +kernel
theorem dL_law_675 : decode code 675 = .ok (.iconst 1, 1) := by decide +kernel
theorem dL_law_676 : decode code 676 = .ok (.iadd, 1) := by decide +kernel
theorem dL_law_677 : decode code 677 = .ok (.iaload, 1) := by decide +kernel
theorem dL_law_678 : decode code 678 = .ok (.aload_n 0, 1) := by decide +kernel
theorem dL_law_679 : decode code 679 = .ok (.iload_n 3, 1) := by decide +kernel
theorem dL_law_680 : decode code 680 = .ok (.iconst 2, 1) := by decide +kernel
theorem dL_law_681 : decode code 681 = .ok (.iadd, 1) := by decide +kernel
theorem dL_law_682 : decode code 682 = .ok (.iaload, 1) := by decide +kernel
theorem dL_law_683 : decode code 683 = .ok (.aload_n 0, 1) := by decide +kernel
theorem dL_law_684 : decode code 684 = .ok (.iload_n 3, 1) := by decide +kernel
theorem dL_law_685 : decode code 685 = .ok (.iconst 3, 1) := by decide +kernel
theorem dL_law_686 : decode code 686 = .ok (.iadd, 1) := by decide +kernel
theorem dL_law_687 : decode code 687 = .ok (.iaload, 1) := by decide +kernel
theorem dL_law_688 : decode code 688 = .ok (.aload_n 0, 1) := by decide +kernel
theorem dL_law_689 : decode code 689 = .ok (.iload_n 3, 1) := by decide +kernel
theorem dL_law_690 : decode code 690 = .ok (.iconst 4, 1) := by decide +kernel
theorem dL_law_691 : decode code 691 = .ok (.iadd, 1) := by decide +kernel
theorem dL_law_692 : decode code 692 = .ok (.iaload, 1) := by decide +kernel
theorem dL_law_693 : decode code 693 = .ok (.invokevirtual 84, 3) := by decide +kernel
theorem dL_law_696 : decode code 696 = .ok (.if_icmp .eq 18, 3) := by decide +kernel
theorem dL_law_699 : decode code 699 = .ok (.iconst 0, 1) := by decide +kernel
theorem dL_law_700 : decode code 700 = .ok (.ireturn, 1) := by decide +kernel
theorem dL_law_701 : decode code 701 = .ok (.aload_n 1, 1) := by decide +kernel
theorem dL_law_702 : decode code 702 = .ok (.invokevirtual 85, 3) := by decide +kernel
theorem dL_law_705 : decode code 705 = .ok (.aload_n 2, 1) := by decide +kernel
theorem dL_law_706 : decode code 706 = .ok (.invokevirtual 89, 3) := by decide +kernel
theorem dL_law_709 : decode code 709 = .ok (.if_icmp .eq 5, 3) := by decide +kernel
theorem dL_law_712 : decode code 712 = .ok (.iconst 0, 1) := by decide +kernel
theorem dL_law_713 : decode code 713 = .ok (.ireturn, 1) := by decide +kernel
theorem dL_law_714 : decode code 714 = .ok (.iinc 3 5, 3) := by decide +kernel
theorem dL_law_717 : decode code 717 = .ok (.goto (-699), 3) := by decide +kernel
theorem dL_law_720 : decode code 720 = .ok (.iconst 1, 1) := by decide +kernel
theorem dL_law_721 : decode code 721 = .ok (.ireturn, 1) := by decide +kernel
end
section
/-! THE ABSTRACT MACHINE: tables. A value is an int or a cell (region, kind, owner); the memory gives each slot of each cell its int. -/
abbrev AV : Type := Int32 ⊕ (Nat × Nat × Nat)
abbrev Mem : Type := Nat → Nat → Nat → Nat → Int32
abbrev Res : Type := Option Int32 × Mem
abbrev Lc : Type := List (Option AV)
def mNs : List MethodName := [yX0_add, yX0_copyFrom, yX1_addService, yX1_step, yX1_findDueJobs, yX1_endWork, yX1_endPauses, yX1_endAsking, yX1_endPatience, yX1_fillHands, yX1_guestsCome, yX1_guestAsks, yX1_toAsk, yX1_comes, yX1_setJobOf, yX1_refuse, yX1_begin, yX1_giveUp, yX1_end, yX1_answer, yX1_settle, yX1_answerGuest, yX1_pausesAfterFail, yX1_copyFrom, yX2_add, yX2_remove, yX2_become, yX2_isDue, yX2_howMany, yX2_copyFrom, yX3_take, yX3_giveBack, yX3_placeAt, yX3_copyFrom, yX4_begin, yX4_placeOf, yX4_copyFrom, yX5_hasAnswer, yX5_rests, yX5_hasFreeHand, yX5_addLast, yX5_takeFirst, yX5_copyFrom, yX6_add, yX6_manyFor, yX6_forget, yX7_service, yX7_rule, yX7_guests, yX7_crowd, yX7_usual, yX7_place, yX7_ticks, yX7_about, yX7_ruleOf, yX7_kept, yX7_job, yX7_row, yX7_guest, yX7_count, yX7_rest, yX7_bears, yX7_best, yX7_price, yX7_beginTrial, yX7_firstOfRest, yX7_trialPrice, yX7_callerOf, yX7_isService, yX7_isKey, yX7_isTriable, yX7_isRule, yX7_within, yX8_copy, yX9_within, yX9_isService, yX9_isKey, yX9_ruled, yX9_service, yX9_isRule, yX9_rule, yX9_guests, yX9_crowd, yX9_usual, yX9_place, yX9_placeOf, yX9_guestOf, yX9_add, yX9_handsInUse, yX9_takeOut, yX9_begin, yX9_leaveRow, yX9_comes, yX9_refuse, yX9_tell, yX9_answerGuest, yX9_guestGoes, yX9_over, yX9_answered, yX9_fail, yX9_rests, yX9_ask, yX9_guestAsks, yX9_guestComes, yX9_mean, yX9_isSo, yX9_workEnds, yX9_pausesEnd, yX9_deadlines, yX9_guestDeadlines, yX9_handsTake, yX9_guestsCome, yX9_oneTick, yX9_ticks, yX9_about, yX9_ruleOf, yX9_kept, yX9_callerOf, yX9_job, yX9_row, yX9_guest, yX9_count, yX9_tried, yX9_rest, yX9_bears, yX9_best, yX9_price, yJ9_floorMod_7cf53, yJ9_max_7cf53, yJ9_min_7cf53, yJ7_fill_53178]
def mBs : List ByteArray := [cX0_add, cX0_copyFrom, cX1_addService, cX1_step, cX1_findDueJobs, cX1_endWork, cX1_endPauses, cX1_endAsking, cX1_endPatience, cX1_fillHands, cX1_guestsCome, cX1_guestAsks, cX1_toAsk, cX1_comes, cX1_setJobOf, cX1_refuse, cX1_begin, cX1_giveUp, cX1_end, cX1_answer, cX1_settle, cX1_answerGuest, cX1_pausesAfterFail, cX1_copyFrom, cX2_add, cX2_remove, cX2_become, cX2_isDue, cX2_howMany, cX2_copyFrom, cX3_take, cX3_giveBack, cX3_placeAt, cX3_copyFrom, cX4_begin, cX4_placeOf, cX4_copyFrom, cX5_hasAnswer, cX5_rests, cX5_hasFreeHand, cX5_addLast, cX5_takeFirst, cX5_copyFrom, cX6_add, cX6_manyFor, cX6_forget, cX7_service, cX7_rule, cX7_guests, cX7_crowd, cX7_usual, cX7_place, cX7_ticks, cX7_about, cX7_ruleOf, cX7_kept, cX7_job, cX7_row, cX7_guest, cX7_count, cX7_rest, cX7_bears, cX7_best, cX7_price, cX7_beginTrial, cX7_firstOfRest, cX7_trialPrice, cX7_callerOf, cX7_isService, cX7_isKey, cX7_isTriable, cX7_isRule, cX7_within, cX8_copy, cX9_within, cX9_isService, cX9_isKey, cX9_ruled, cX9_service, cX9_isRule, cX9_rule, cX9_guests, cX9_crowd, cX9_usual, cX9_place, cX9_placeOf, cX9_guestOf, cX9_add, cX9_handsInUse, cX9_takeOut, cX9_begin, cX9_leaveRow, cX9_comes, cX9_refuse, cX9_tell, cX9_answerGuest, cX9_guestGoes, cX9_over, cX9_answered, cX9_fail, cX9_rests, cX9_ask, cX9_guestAsks, cX9_guestComes, cX9_mean, cX9_isSo, cX9_workEnds, cX9_pausesEnd, cX9_deadlines, cX9_guestDeadlines, cX9_handsTake, cX9_guestsCome, cX9_oneTick, cX9_ticks, cX9_about, cX9_ruleOf, cX9_kept, cX9_callerOf, cX9_job, cX9_row, cX9_guest, cX9_count, cX9_tried, cX9_rest, cX9_bears, cX9_best, cX9_price, cJ9_floorMod_7cf53, cJ9_max_7cf53, cJ9_min_7cf53, cJ7_fill_53178]
def mLs : List Nat := [3, 2, 5, 2, 3, 3, 3, 3, 4, 3, 5, 2, 3, 10, 3, 3, 3, 2, 5, 3, 3, 2, 3, 3, 5, 2, 4, 4, 6, 2, 2, 4, 4, 3, 2, 2, 2, 3, 2, 1, 2, 2, 2, 4, 3, 4, 4, 5, 4, 4, 2, 4, 3, 4, 3, 4, 5, 3, 5, 2, 2, 5, 11, 1, 3, 7, 1, 3, 2, 1, 1, 2, 3, 3, 3, 2, 1, 3, 5, 2, 5, 4, 4, 3, 4, 3, 3, 3, 4, 4, 4, 3, 10, 4, 5, 3, 3, 6, 3, 4, 2, 5, 3, 2, 3, 4, 3, 2, 2, 4, 3, 4, 1, 3, 5, 3, 4, 4, 3, 3, 3, 2, 8, 2, 4, 12, 1, 3, 2, 2, 4]
def mRs : List (Option FieldType) := [some .int, none, some .int, none, none, none, none, none, none, none, none, none, none, none, none, none, none, none, none, none, none, none, some .boolean, none, some .int, none, none, some .boolean, some .int, none, some .int, none, some .int, none, none, some .int, none, some .boolean, some .boolean, some .boolean, none, some .int, none, none, some .int, none, some .int, some .int, some .int, some .int, some .int, some .int, some .int, some .int, some .int, some .int, some .int, some .int, some .int, some .int, some .int, some .int, some .int, some .int, none, some .int, some .int, some .int, some .boolean, some .boolean, some .boolean, some .boolean, some .boolean, none, some .boolean, some .boolean, some .boolean, some .int, some .int, some .boolean, some .int, some .int, some .int, some .int, some .int, some .int, some .int, none, some .int, none, none, none, some .int, none, some .boolean, none, none, none, none, none, some .boolean, none, none, none, none, some .boolean, none, none, none, none, none, none, none, some .int, some .int, some .int, some .int, some .int, some .int, some .int, some .int, some .int, some .int, some .int, some .int, some .int, some .int, some .int, some .int, some .int, none]
def mOs : List Nat := [0, 0, 1, 1, 1, 1, 1, 1, 1, 1, 1, 1, 1, 1, 1, 1, 1, 1, 1, 1, 1, 1, 1, 1, 2, 2, 2, 2, 2, 2, 3, 3, 3, 3, 4, 4, 4, 5, 5, 5, 5, 5, 5, 6, 6, 6, 7, 7, 7, 7, 7, 7, 7, 7, 7, 7, 7, 7, 7, 7, 7, 7, 7, 7, 7, 7, 7, 7, 7, 7, 7, 7, 7, 8, 9, 9, 9, 9, 9, 9, 9, 9, 9, 9, 9, 9, 9, 9, 9, 9, 9, 9, 9, 9, 9, 9, 9, 9, 9, 9, 9, 9, 9, 9, 9, 9, 9, 9, 9, 9, 9, 9, 9, 9, 9, 9, 9, 9, 9, 9, 9, 9, 9, 9, 9, 9, 9, 10, 10, 10, 11]
def mKs : List Nat := [1, 1, 3, 0, 0, 0, 0, 0, 0, 0, 2, 1, 1, 3, 2, 2, 1, 1, 2, 2, 0, 1, 1, 1, 3, 1, 3, 3, 2, 1, 0, 1, 1, 1, 1, 1, 1, 2, 1, 0, 1, 0, 1, 3, 2, 1, 3, 3, 2, 3, 1, 3, 1, 2, 2, 2, 2, 2, 2, 1, 1, 2, 4, 0, 2, 2, 0, 1, 1, 1, 1, 2, 3, 1, 3, 1, 1, 2, 3, 2, 3, 2, 3, 1, 3, 1, 1, 2, 1, 1, 1, 1, 4, 1, 3, 2, 1, 2, 2, 1, 1, 1, 1, 1, 1, 2, 0, 0, 0, 0, 0, 0, 0, 1, 2, 2, 2, 1, 2, 2, 2, 1, 4, 1, 2, 4, 0, 2, 2, 2, 2]
def mSs : List Bool := [false, false, false, false, false, false, false, false, false, false, false, false, false, false, false, false, false, false, false, false, false, false, false, false, false, false, false, false, false, false, false, false, false, false, false, false, false, false, false, false, false, false, false, false, false, false, false, false, false, false, false, false, false, false, false, false, false, false, false, false, false, false, false, false, false, false, false, false, false, true, true, true, true, false, true, false, true, false, false, true, false, false, false, false, false, false, false, false, false, false, false, false, false, false, false, false, false, false, false, false, false, false, false, false, false, false, false, false, false, false, false, false, false, false, false, false, false, false, false, false, false, false, false, false, false, false, false, true, true, true, true]
def mPs : List Nat := [583, 673, 409, 454, 458, 462, 551, 555, 563, 571, 579, 567, 470, 498, 522, 518, 526, 559, 478, 490, 538, 542, 547, 652, 510, 482, 494, 466, 604, 660, 514, 486, 621, 664, 441, 592, 679, 502, 474, 506, 530, 534, 656, 433, 575, 588, 395, 413, 421, 425, 437, 446, 450, 599, 608, 612, 617, 629, 633, 637, 641, 688, 692, 700, 648, 684, 696, 625, 417, 429, 644, 398, 401, 1098, 903, 911, 930, 918, 900, 914, 907, 922, 926, 934, 938, 962, 998, 978, 1014, 982, 1018, 1022, 1010, 1026, 986, 1002, 1006, 974, 990, 994, 970, 966, 1042, 1054, 954, 958, 950, 1030, 1034, 1038, 1046, 1050, 946, 942, 1058, 1062, 1066, 1074, 1070, 1078, 1082, 1086, 1094, 1090, 1102, 1106, 1110, 595, 100, 667, 293]
def mIs : List Nat := [581, 671, 407, 452, 457, 461, 550, 554, 562, 570, 578, 566, 469, 497, 521, 517, 525, 558, 477, 489, 537, 541, 546, 650, 508, 480, 492, 464, 602, 658, 512, 484, 619, 662, 439, 590, 677, 500, 472, 504, 528, 532, 654, 431, 573, 586, 393, 411, 419, 423, 435, 444, 448, 597, 606, 610, 615, 627, 631, 635, 639, 686, 690, 698, 647, 683, 695, 624, 416, 428, 643, 397, 400, 1096, 902, 910, 929, 917, 898, 913, 905, 920, 924, 932, 936, 961, 997, 977, 1013, 981, 1017, 1021, 1009, 1025, 985, 1001, 1005, 973, 989, 993, 969, 965, 1041, 1053, 953, 957, 949, 1029, 1033, 1037, 1045, 1049, 945, 940, 1056, 1060, 1064, 1073, 1068, 1076, 1080, 1084, 1093, 1088, 1100, 1104, 1108, 594, 99, 666, 292]
def mXs : List Nat := [582, 672, 408, 453, 1, 2, 13, 14, 16, 18, 19, 17, 3, 6, 8, 7, 9, 15, 4, 5, 10, 11, 12, 651, 509, 481, 493, 465, 603, 659, 513, 485, 620, 663, 440, 591, 678, 501, 473, 505, 529, 533, 655, 432, 574, 587, 394, 412, 420, 424, 436, 445, 449, 598, 607, 611, 616, 628, 632, 636, 640, 687, 691, 699, 21, 22, 23, 20, 0, 0, 0, 0, 0, 1097, 0, 24, 0, 25, 899, 0, 906, 921, 925, 933, 937, 30, 39, 34, 43, 35, 44, 45, 42, 46, 36, 40, 41, 33, 37, 38, 32, 31, 50, 53, 28, 29, 27, 47, 48, 49, 51, 52, 26, 941, 1057, 1061, 1065, 54, 1069, 1077, 1081, 1085, 55, 1089, 1101, 1105, 1109, 0, 0, 0, 0]
def mZs : List Nat := [62, 62, 58, 58, 58, 58, 58, 58, 58, 58, 58, 58, 58, 58, 58, 58, 58, 58, 58, 58, 58, 58, 58, 58, 59, 59, 59, 59, 59, 59, 60, 60, 60, 60, 64, 64, 64, 65, 65, 65, 65, 65, 65, 63, 63, 63, 57, 57, 57, 57, 57, 57, 57, 57, 57, 57, 57, 57, 57, 57, 57, 57, 57, 57, 57, 57, 57, 57, 57, 57, 57, 57, 57, 69, 68, 68, 68, 68, 68, 68, 68, 68, 68, 68, 68, 68, 68, 68, 68, 68, 68, 68, 68, 68, 68, 68, 68, 68, 68, 68, 68, 68, 68, 68, 68, 68, 68, 68, 68, 68, 68, 68, 68, 68, 68, 68, 68, 68, 68, 68, 68, 68, 68, 68, 68, 68, 68, 61, 61, 61, 67]
def mI (y : Nat) : Nat := mIs.getD y 0
def mX (y : Nat) : Nat := mXs.getD y 0
def mZ (y : Nat) : Nat := mZs.getD y 0
def mN (y : Nat) : MethodName := mNs.getD y yX7_within
def mB (y : Nat) : ByteArray := mBs.getD y cX7_within
def mL (y : Nat) : Nat := mLs.getD y 0
def mR (y : Nat) : Option FieldType := mRs.getD y none
def mO (y : Nat) : Nat := mOs.getD y 0
def mK (y : Nat) : Nat := mKs.getD y 0
def mS (y : Nat) : Bool := mSs.getD y false
def mP (y : Nat) : Nat := mPs.getD y 0
def owL : List String := [RX0, RX1, RX2, RX3, RX4, RX5, RX6, RX7, RX8, RX9, RJ9, RJ7, R_law]
def ow (k : Nat) : String := owL.getD k RX0
abbrev cls10 : List vw_C := [(RX0, TX0, 11), (RX1, TX1, 13), (RX2, TX2, 10), (RX3, TX3, 6), (RX4, TX4, 3), (RX5, TX5, 8), (RX6, TX6, 4), (RX7, TX7, 3), (RX8, TX8, 29), (RX9, TX9, 22)]
def kcL : List Nat := [7, 1, 11, 5, 10, 10, 10, 10, 2, 3, 10, 10, 10, 10, 10, 10, 10, 10, 10, 10, 0, 3, 10, 10, 10, 10, 10, 10, 6, 10, 10, 10, 4, 10, 10, 10, 99, 99, 99, 99, 9, 10, 10, 10, 10, 10, 10, 10, 10, 10, 99, 99, 99, 99, 99, 99, 99, 99, 99, 99, 8, 10, 10, 10, 10, 10, 10, 10, 10, 10, 10, 10, 10, 10, 10, 10, 10, 10, 10, 10, 99, 99, 99, 99, 99, 99, 99, 99, 99, 99, 12, 12, 99, 99, 99, 99]
def kc (a : Nat) : Nat := kcL.getD a 99
def alL : List Nat := [0, 0, 0, 0, 10, 7, 8, 20, 0, 0, 120, 120, 120, 120, 120, 120, 120, 120, 120, 120, 0, 0, 100, 100, 100, 100, 100, 100, 0, 40, 40, 40, 0, 12, 12, 120, 0, 0, 0, 0, 0, 54, 6, 40, 40, 40, 12, 12, 120, 100, 0, 0, 0, 0, 0, 0, 0, 0, 0, 0, 0, 6, 6, 78, 48, 120, 6, 120, 120, 120, 120, 120, 120, 120, 120, 100, 100, 100, 100, 100, 0, 0, 0, 0, 0, 0, 0, 0, 0, 0, 10, 10, 0, 0, 0, 0]
def al (a : Nat) : Nat := alL.getD a 0
def fkL : List (List (Option (Nat × Nat))) := [[some (0, 1), some (0, 4), some (0, 5), some (0, 6), some (0, 7), none, none, none, none, none, none], [some (0, 1), none, none, none, none, some (0, 7), some (0, 19), some (0, 27), some (0, 31), some (0, 34), none, none, none], [some (0, 1), some (0, 4), some (0, 5), some (0, 6), some (0, 7), some (0, 8), some (0, 9), some (0, 10), some (0, 11), none], [some (0, 1), some (0, 2), none, none, none, none], [some (0, 1), some (0, 2), none], [some (0, 1), some (0, 2), some (0, 3), some (0, 4), none, none, none, none], [some (0, 1), some (0, 2), some (0, 3), none], [some (1, 1), some (2, 1), none], [none, some (0, 1), some (0, 2), some (0, 3), some (0, 4), some (0, 5), some (0, 6), some (0, 7), some (0, 8), some (0, 9), some (0, 10), some (0, 11), some (0, 12), some (0, 13), some (0, 14), none, none, some (0, 15), some (0, 16), some (0, 17), some (0, 18), some (0, 19), none, none, none, none, none, none, none], [some (0, 1), some (0, 2), none, none, none, some (0, 3), some (0, 4), some (0, 5), none, none, some (0, 6), some (0, 7), some (1, 20), some (2, 20), none, none, none, none, some (0, 8), none, some (0, 9), none]]
def fk (c j : Nat) : Option (Nat × Nat) := (fkL.getD c []).getD j none
def bzL : List (Nat × Nat) := [(1, 3), (1, 12), (8, 28), (9, 14)]
def bz (c j : Nat) : Bool := bzL.contains (c, j)
def fT_0 : List (Nat × Nat × Nat × Bool × Nat) := [(14, 0, 0, false, 182), (20, 0, 1, false, 185), (24, 0, 2, false, 188), (27, 0, 3, false, 191), (30, 0, 4, false, 194), (33, 0, 5, false, 197), (37, 0, 6, false, 200), (40, 0, 7, false, 203), (43, 0, 8, false, 206), (46, 0, 9, false, 209), (49, 0, 10, false, 212)]
def cT_0 : List (Nat × Nat × Nat) := [(52, 30, 584), (56, 33, 674), (60, 900, 675)]
def fT_1 : List (Nat × Nat × Nat × Bool × Nat) := [(132, 3, 1, true, 103), (124, 3, 2, true, 106), (120, 2, 0, true, 128), (139, 2, 2, true, 133), (224, 2, 3, true, 136), (248, 2, 5, true, 141), (155, 2, 6, true, 144), (129, 2, 7, true, 146), (152, 2, 8, true, 149), (165, 0, 0, true, 183), (211, 0, 1, true, 186), (169, 0, 2, true, 189), (166, 0, 3, true, 192), (172, 0, 4, true, 195), (208, 0, 5, true, 199), (173, 0, 6, true, 202), (202, 0, 7, true, 204), (266, 0, 8, true, 208), (182, 0, 9, true, 210), (176, 0, 10, true, 213), (97, 6, 1, true, 246), (94, 6, 3, true, 249), (116, 4, 0, true, 267), (117, 4, 1, true, 270), (73, 5, 0, true, 295), (229, 5, 1, true, 299), (257, 5, 2, true, 302), (188, 5, 4, true, 306), (254, 5, 5, true, 309), (269, 5, 6, true, 312), (263, 5, 7, true, 315), (11, 1, 0, false, 333), (17, 1, 1, false, 335), (21, 1, 2, false, 337), (24, 1, 3, false, 339), (28, 1, 4, false, 341), (34, 1, 5, false, 343), (41, 1, 6, false, 345), (48, 1, 7, false, 347), (55, 1, 8, false, 349), (59, 1, 9, false, 351), (63, 1, 10, false, 352), (66, 1, 11, false, 353), (69, 1, 12, false, 354)]
def cT_1 : List (Nat × Nat × Nat) := [(76, 4, 455), (79, 5, 459), (135, 27, 463), (142, 12, 467), (218, 38, 471), (145, 18, 475), (251, 25, 479), (232, 19, 487), (221, 26, 491), (214, 13, 495), (225, 37, 499), (191, 39, 503), (235, 24, 507), (238, 15, 515), (242, 14, 519), (199, 16, 523), (245, 40, 527), (195, 41, 531), (149, 20, 535), (260, 21, 539), (185, 31, 543), (161, 22, 544), (82, 6, 548), (85, 7, 552), (158, 17, 556), (88, 8, 560), (179, 11, 564), (91, 9, 568), (100, 44, 572), (104, 10, 576), (205, 0, 580), (108, 45, 585), (112, 35, 589), (272, 42, 653), (276, 29, 657), (279, 1, 670), (282, 36, 676)]
def fT_2 : List (Nat × Nat × Nat × Bool × Nat) := [(62, 3, 1, true, 104), (56, 3, 2, true, 107), (59, 3, 5, true, 111), (14, 2, 0, false, 127), (20, 2, 1, false, 130), (24, 2, 2, false, 132), (27, 2, 3, false, 135), (30, 2, 4, false, 138), (33, 2, 5, false, 140), (36, 2, 6, false, 143), (39, 2, 7, false, 145), (42, 2, 8, false, 148), (45, 2, 9, false, 151)]
def cT_2 : List (Nat × Nat × Nat) := [(53, 31, 483), (49, 30, 511), (65, 33, 661), (69, 900, 669)]
def fT_3 : List (Nat × Nat × Nat × Bool × Nat) := [(30, 3, 0, false, 101), (34, 3, 1, false, 102), (9, 3, 2, false, 105), (15, 3, 3, false, 108), (18, 3, 4, false, 109), (21, 3, 5, false, 110)]
def cT_3 : List (Nat × Nat × Nat) := [(24, 128, 98), (37, 129, 665), (40, 900, 668)]
def fT_4 : List (Nat × Nat × Nat × Bool × Nat) := [(9, 4, 0, false, 266), (15, 4, 1, false, 269), (18, 4, 2, false, 272)]
def cT_4 : List (Nat × Nat × Nat) := [(22, 130, 442), (28, 127, 593), (34, 900, 680)]
def fT_5 : List (Nat × Nat × Nat × Bool × Nat) := [(9, 5, 0, false, 294), (15, 5, 1, false, 297), (18, 5, 2, false, 300), (21, 5, 3, false, 303), (24, 5, 4, false, 305), (28, 5, 5, false, 308), (31, 5, 6, false, 310), (34, 5, 7, false, 313)]
def cT_5 : List (Nat × Nat × Nat) := [(40, 900, 288), (46, 130, 291)]
def fT_6 : List (Nat × Nat × Nat × Bool × Nat) := [(9, 6, 0, false, 244), (15, 6, 1, false, 245), (18, 6, 2, false, 247), (21, 6, 3, false, 248)]
def cT_6 : List (Nat × Nat × Nat) := []
def fT_7 : List (Nat × Nat × Nat × Bool × Nat) := [(180, 3, 5, true, 112), (134, 2, 0, true, 129), (144, 2, 1, true, 131), (147, 2, 2, true, 134), (150, 2, 3, true, 137), (153, 2, 4, true, 139), (220, 2, 5, true, 142), (159, 2, 7, true, 147), (162, 2, 8, true, 150), (196, 2, 9, true, 152), (171, 0, 0, true, 184), (172, 0, 1, true, 187), (173, 0, 2, true, 190), (176, 0, 3, true, 193), (179, 0, 4, true, 196), (59, 0, 5, true, 198), (64, 0, 6, true, 201), (181, 0, 7, true, 205), (184, 0, 8, true, 207), (187, 0, 9, true, 211), (190, 0, 10, true, 214), (75, 6, 3, true, 250), (97, 4, 0, true, 268), (100, 4, 1, true, 271), (94, 4, 2, true, 273), (49, 5, 0, true, 296), (106, 5, 1, true, 298), (131, 5, 2, true, 301), (168, 5, 3, true, 304), (165, 5, 4, true, 307), (112, 5, 6, true, 311), (115, 5, 7, true, 314), (45, 1, 0, true, 334), (27, 1, 1, true, 336), (30, 1, 2, true, 338), (197, 1, 3, true, 340), (193, 1, 4, true, 342), (118, 1, 5, true, 344), (55, 1, 6, true, 346), (71, 1, 7, true, 348), (84, 1, 8, true, 350), (10, 7, 0, false, 382), (16, 7, 1, false, 383), (19, 7, 2, false, 384)]
def cT_7 : List (Nat × Nat × Nat) := [(23, 71, 396), (41, 72, 399), (33, 2, 406), (37, 68, 414), (68, 69, 427), (80, 43, 430), (88, 34, 438), (103, 3, 451), (109, 38, 600), (122, 28, 601), (128, 37, 613), (138, 32, 618), (156, 67, 622), (201, 70, 642), (204, 64, 645), (216, 23, 649), (208, 65, 681), (212, 66, 693)]
def fT_8 : List (Nat × Nat × Nat × Bool × Nat) := [(69, 8, 0, false, 713), (9, 8, 1, false, 715), (15, 8, 2, false, 717), (18, 8, 3, false, 719), (21, 8, 4, false, 721), (24, 8, 5, false, 723), (27, 8, 6, false, 725), (30, 8, 7, false, 727), (33, 8, 8, false, 729), (36, 8, 9, false, 731), (39, 8, 10, false, 733), (42, 8, 11, false, 735), (45, 8, 12, false, 737), (48, 8, 13, false, 739), (51, 8, 14, false, 741), (73, 8, 15, false, 743), (76, 8, 16, false, 745), (54, 8, 17, false, 747), (57, 8, 18, false, 749), (60, 8, 19, false, 751), (63, 8, 20, false, 753), (66, 8, 21, false, 755), (79, 8, 22, false, 757), (82, 8, 23, false, 759), (85, 8, 24, false, 761), (88, 8, 25, false, 763), (91, 8, 26, false, 765), (94, 8, 27, false, 767), (97, 8, 28, false, 770)]
def cT_8 : List (Nat × Nat × Nat) := []
def fT_9 : List (Nat × Nat × Nat × Bool × Nat) := [(68, 8, 0, true, 714), (58, 8, 1, true, 716), (200, 8, 2, true, 718), (108, 8, 3, true, 720), (55, 8, 4, true, 722), (143, 8, 5, true, 724), (140, 8, 6, true, 726), (99, 8, 7, true, 728), (111, 8, 8, true, 730), (121, 8, 9, true, 732), (114, 8, 10, true, 734), (124, 8, 11, true, 736), (127, 8, 12, true, 738), (130, 8, 13, true, 740), (133, 8, 14, true, 742), (96, 8, 15, true, 744), (149, 8, 16, true, 746), (188, 8, 17, true, 748), (105, 8, 18, true, 750), (185, 8, 19, true, 752), (191, 8, 20, true, 754), (194, 8, 21, true, 756), (102, 8, 22, true, 758), (216, 8, 23, true, 760), (179, 8, 24, true, 762), (219, 8, 25, true, 764), (237, 8, 26, true, 766), (197, 8, 27, true, 768), (51, 8, 28, true, 769), (9, 9, 0, false, 830), (13, 9, 1, false, 831), (61, 9, 2, false, 832), (16, 9, 3, false, 833), (83, 9, 4, false, 834), (20, 9, 5, false, 835), (23, 9, 6, false, 836), (26, 9, 7, false, 837), (90, 9, 8, false, 838), (93, 9, 9, false, 839), (29, 9, 10, false, 840), (32, 9, 11, false, 841), (38, 9, 12, false, 842), (42, 9, 13, false, 843), (240, 9, 14, false, 844), (246, 9, 15, false, 845), (243, 9, 16, false, 846), (287, 9, 17, false, 847), (45, 9, 18, false, 848), (225, 9, 19, false, 849), (48, 9, 20, false, 850), (280, 9, 21, false, 851)]
def cT_9 : List (Nat × Nat × Nat) := [(64, 74, 901), (71, 75, 908), (75, 79, 912), (79, 77, 915), (87, 76, 928), (270, 112, 943), (252, 106, 947), (228, 104, 951), (231, 105, 955), (117, 85, 959), (234, 101, 963), (209, 100, 967), (203, 97, 971), (136, 87, 975), (162, 89, 979), (165, 94, 983), (169, 98, 987), (206, 99, 991), (173, 86, 995), (176, 95, 999), (182, 96, 1003), (212, 92, 1007), (146, 88, 1011), (152, 90, 1015), (156, 91, 1019), (159, 93, 1023), (255, 107, 1027), (258, 108, 1031), (261, 109, 1035), (222, 102, 1039), (264, 110, 1043), (267, 111, 1047), (249, 103, 1051), (273, 117, 1071), (283, 122, 1091), (276, 73, 1095)]
def fT_10 : List (Nat × Nat × Nat × Bool × Nat) := []
def cT_10 : List (Nat × Nat × Nat) := []
def fT_11 : List (Nat × Nat × Nat × Bool × Nat) := []
def cT_11 : List (Nat × Nat × Nat) := []
def fT_12 : List (Nat × Nat × Nat × Bool × Nat) := []
def cT_12 : List (Nat × Nat × Nat) := [(13, 46, 392), (18, 47, 410), (22, 48, 418), (27, 49, 422), (31, 50, 434), (36, 51, 443), (40, 52, 447), (44, 53, 596), (48, 54, 605), (52, 55, 609), (56, 56, 614), (60, 57, 626), (64, 58, 630), (68, 59, 634), (72, 60, 638), (76, 61, 685), (80, 62, 689), (85, 63, 697), (17, 78, 897), (21, 80, 904), (26, 81, 919), (30, 82, 923), (35, 83, 931), (39, 84, 935), (43, 113, 939), (47, 114, 1055), (51, 115, 1059), (55, 116, 1063), (59, 118, 1067), (63, 119, 1075), (67, 120, 1079), (71, 121, 1083), (75, 123, 1087), (79, 124, 1099), (84, 125, 1103), (89, 126, 1107)]
def fTs : List (List (Nat × Nat × Nat × Bool × Nat)) := [fT_0, fT_1, fT_2, fT_3, fT_4, fT_5, fT_6, fT_7, fT_8, fT_9, fT_10, fT_11, fT_12]
def cTs : List (List (Nat × Nat × Nat)) := [cT_0, cT_1, cT_2, cT_3, cT_4, cT_5, cT_6, cT_7, cT_8, cT_9, cT_10, cT_11, cT_12]
def fT (w i : Nat) : Option (Nat × Nat × Bool × Nat) := List.lookup i (fTs.getD w [])
def cT (w i : Nat) : Option (Nat × Nat) := List.lookup i (cTs.getD w [])
def keys : List (Nat × Nat × Nat) := [(0, 0, 0), (1, 1, 0), (1, 2, 0), (1, 3, 0), (1, 3, 1), (1, 3, 2), (1, 3, 3), (1, 3, 4), (1, 3, 5), (1, 4, 0), (1, 4, 1), (1, 4, 2), (1, 4, 3), (1, 4, 4), (1, 4, 5), (1, 5, 0), (1, 5, 1), (1, 5, 2), (1, 5, 3), (1, 5, 4), (1, 5, 5), (1, 6, 0), (1, 6, 1), (1, 6, 2), (1, 6, 3), (1, 6, 4), (1, 6, 5), (1, 7, 0), (1, 7, 1), (1, 7, 2), (1, 7, 3), (1, 7, 4), (1, 7, 5), (1, 8, 0), (1, 9, 0), (1, 10, 0), (1, 11, 0), (1, 12, 0), (1, 13, 0), (1, 14, 0), (1, 15, 0), (1, 16, 0), (1, 17, 0), (1, 18, 0), (1, 19, 0), (1, 20, 0), (1, 21, 0), (1, 22, 0), (1, 23, 0), (1, 24, 0), (1, 25, 0), (1, 26, 0), (1, 27, 0), (1, 28, 0), (1, 29, 0), (1, 30, 0), (1, 31, 0), (1, 32, 0), (1, 33, 0), (1, 34, 0), (1, 35, 0), (2, 1, 0), (2, 2, 0), (2, 3, 0), (2, 3, 1), (2, 3, 2), (2, 3, 3), (2, 3, 4), (2, 3, 5), (2, 4, 0), (2, 4, 1), (2, 4, 2), (2, 4, 3), (2, 4, 4), (2, 4, 5), (2, 5, 0), (2, 5, 1), (2, 5, 2), (2, 5, 3), (2, 5, 4), (2, 5, 5), (2, 6, 0), (2, 6, 1), (2, 6, 2), (2, 6, 3), (2, 6, 4), (2, 6, 5), (2, 7, 0), (2, 7, 1), (2, 7, 2), (2, 7, 3), (2, 7, 4), (2, 7, 5), (2, 8, 0), (2, 9, 0), (2, 10, 0), (2, 11, 0), (2, 12, 0), (2, 13, 0), (2, 14, 0), (2, 15, 0), (2, 16, 0), (2, 17, 0), (2, 18, 0), (2, 19, 0), (2, 20, 0), (2, 21, 0), (2, 22, 0), (2, 23, 0), (2, 24, 0), (2, 25, 0), (2, 26, 0), (2, 27, 0), (2, 28, 0), (2, 29, 0), (2, 30, 0), (2, 31, 0), (2, 32, 0), (2, 33, 0), (2, 34, 0), (2, 35, 0), (3, 40, 0), (3, 41, 0), (3, 42, 0), (3, 43, 0), (3, 44, 0), (3, 45, 0), (3, 46, 0), (3, 47, 0), (3, 48, 0), (3, 49, 0), (4, 60, 0), (4, 61, 0), (4, 62, 0), (4, 63, 0), (4, 64, 0), (4, 65, 0), (4, 66, 0), (4, 67, 0), (4, 68, 0), (4, 69, 0), (4, 70, 0), (4, 71, 0), (4, 72, 0), (4, 73, 0), (4, 74, 0), (4, 75, 0), (4, 76, 0), (4, 77, 0), (4, 78, 0), (4, 79, 0), (5, 60, 0), (5, 61, 0), (5, 62, 0), (5, 63, 0), (5, 64, 0), (5, 65, 0), (5, 66, 0), (5, 67, 0), (5, 68, 0), (5, 69, 0), (5, 70, 0), (5, 71, 0), (5, 72, 0), (5, 73, 0), (5, 74, 0), (5, 75, 0), (5, 76, 0), (5, 77, 0), (5, 78, 0), (5, 79, 0)]
def imL : List Int32 := [1, 0, 0, 0, 0, 1, 0, 1, 1, 0]
def imM : List Int32 := [40, 4, 9, 60, 9, 60, 1, 9, 9, 20]
def imC (a i : Nat) : Int32 := if a = 90 then imL.getD i 0 else imM.getD i 0
def gT (w i : Nat) : Option Nat := if w = 7 ∧ i = 223 then some 90 else if w = 7 ∧ i = 226 then some 91 else none
def lT (w i : Nat) : Option Int32 := if w = 7 ∧ i = 67 then some 100000 else if w = 9 ∧ i = 86 then some 100000 else none
end
section
/-! THE ABSTRACT MACHINE: one step, a run, a method at a depth -/
def mrow (μ : Mem) (r a o : Nat) (f : Nat → Int32) : Mem := va_up μ r (va_up (μ r) a (va_up (μ r a) o f))
def mset (μ : Mem) (r a o i : Nat) (v : Int32) : Mem := mrow μ r a o (va_up (μ r a o) i v)
def cmpI (c : ClassFile.Cond) (x y : Int32) : Prop := match c with
  | .eq => x = y
  | .ne => ¬ x = y
  | .lt => x < y
  | .ge => y ≤ x
  | .gt => y < x
  | .le => x ≤ y
def gfv (c j r a o : Nat) (μ : Mem) : AV := match fk c j with
  | none => .inl (μ r a o j)
  | some q => .inr (r + q.1, a + q.2, o)
abbrev Kont : Type := Nat → Lc → List AV → Mem → Prop
/-- ints and cells loaded and stored -/
def ldI (L : Lc) (k : Nat) (f : Int32 → Prop) : Prop := ∃ v, L[k]? = some (some (.inl v)) ∧ f v
def ldR (L : Lc) (k : Nat) (f : Nat × Nat × Nat → Prop) : Prop := ∃ q, L[k]? = some (some (.inr q)) ∧ f q
def popI (S : List AV) (f : Int32 → List AV → Prop) : Prop := ∃ v S', S = .inl v :: S' ∧ f v S'
def popR (S : List AV) (f : Nat → Nat → Nat → List AV → Prop) : Prop := ∃ r a o S', S = .inr (r, a, o) :: S' ∧ f r a o S'
def popN (n : Nat) (S : List AV) (f : List AV → List AV → Prop) : Prop := ∃ As S', As.length = n ∧ S = As.reverse ++ S' ∧ f As S'
def stp (C : Nat → List AV → Mem → Res → Prop) (y : Nat) (res : Res) (i : Instr) (n pc : Nat) (K : Kont) (L : Lc) (S : List AV) (μ : Mem) : Prop :=
  match i with
  | .iconst v => n = 1 ∧ K (pc + 1) L (.inl (Int32.ofInt v) :: S) μ
  | .bipush v => n = 2 ∧ K (pc + 2) L (.inl (Int8.ofInt v).toInt32 :: S) μ
  | .sipush v => n = 3 ∧ K (pc + 3) L (.inl (Int16.ofInt v).toInt32 :: S) μ
  | .ldc x => n = 2 ∧ ∃ v, lT (mO y) x = some v ∧ K (pc + 2) L (.inl v :: S) μ
  | .iload_n k => n = 1 ∧ ldI L k fun v => K (pc + 1) L (.inl v :: S) μ
  | .iload k => n = 2 ∧ ldI L k fun v => K (pc + 2) L (.inl v :: S) μ
  | .aload_n k => n = 1 ∧ ldR L k fun q => K (pc + 1) L (.inr q :: S) μ
  | .aload k => n = 2 ∧ ldR L k fun q => K (pc + 2) L (.inr q :: S) μ
  | .istore_n k => n = 1 ∧ popI S fun v S' => (k : Nat) < L.length ∧ K (pc + 1) (L.set k (some (.inl v))) S' μ
  | .istore k => n = 2 ∧ popI S fun v S' => k < L.length ∧ K (pc + 2) (L.set k (some (.inl v))) S' μ
  | .astore_n k => n = 1 ∧ popR S fun r a o S' => (k : Nat) < L.length ∧ K (pc + 1) (L.set k (some (.inr (r, a, o)))) S' μ
  | .astore k => n = 2 ∧ popR S fun r a o S' => k < L.length ∧ K (pc + 2) (L.set k (some (.inr (r, a, o)))) S' μ
  | .iinc k d => n = 3 ∧ ldI L k fun v => K (pc + 3) (L.set k (some (.inl (v + Int32.ofInt d)))) S μ
  | .iadd => n = 1 ∧ popI S fun b S1 => popI S1 fun a S2 => K (pc + 1) L (.inl (a + b) :: S2) μ
  | .isub => n = 1 ∧ popI S fun b S1 => popI S1 fun a S2 => K (pc + 1) L (.inl (a - b) :: S2) μ
  | .imul => n = 1 ∧ popI S fun b S1 => popI S1 fun a S2 => K (pc + 1) L (.inl (a * b) :: S2) μ
  | .iand => n = 1 ∧ popI S fun b S1 => popI S1 fun a S2 => K (pc + 1) L (.inl (a &&& b) :: S2) μ
  | .ixor => n = 1 ∧ popI S fun b S1 => popI S1 fun a S2 => K (pc + 1) L (.inl (a ^^^ b) :: S2) μ
  | .ishl => n = 1 ∧ popI S fun b S1 => popI S1 fun a S2 => K (pc + 1) L (.inl (a <<< (b &&& 31)) :: S2) μ
  | .irem => n = 1 ∧ popI S fun b S1 => popI S1 fun a S2 => ¬ b = 0 ∧ K (pc + 1) L (.inl (a - a / b * b) :: S2) μ
  | .dup => n = 1 ∧ ∃ v S', S = v :: S' ∧ K (pc + 1) L (v :: v :: S') μ
  | .dup2 => n = 1 ∧ ∃ v w S', S = v :: w :: S' ∧ K (pc + 1) L (v :: w :: v :: w :: S') μ
  | .pop => n = 1 ∧ ∃ v S', S = v :: S' ∧ K (pc + 1) L S' μ
  | .if_icmp c d => n = 3 ∧ popI S fun b S1 => popI S1 fun a S2 => ∃ t : Nat, (pc : Int) + d = t ∧ (cmpI c a b → K t L S2 μ) ∧ (¬ cmpI c a b → K (pc + 3) L S2 μ)
  | .ifCond c d => n = 3 ∧ popI S fun a S2 => ∃ t : Nat, (pc : Int) + d = t ∧ (cmpI c a 0 → K t L S2 μ) ∧ (¬ cmpI c a 0 → K (pc + 3) L S2 μ)
  | .goto d => n = 3 ∧ ∃ t : Nat, (pc : Int) + d = t ∧ K t L S μ
  | .tableswitch df lo hi offs => popI S fun x S1 => (¬ x.toInt < lo ∧ ¬ hi < x.toInt → ∃ (d : Int) (t : Nat), offs[(x.toInt - lo).toNat]? = some d ∧ (pc : Int) + d = t ∧ K t L S1 μ) ∧ (x.toInt < lo ∨ hi < x.toInt → ∃ t : Nat, (pc : Int) + df = t ∧ K t L S1 μ)
  | .lookupswitch df ps => popI S fun x S1 => (ps.toList.zip (ps.toList.drop 1)).all (fun (a, next) => a.1 < next.1) = true ∧ ∃ t : Nat, (pc : Int) + Op.lookupswitch.offset ps.toList df x.toInt = t ∧ K t L S1 μ
  | .getfield x => n = 3 ∧ popR S fun r a o S1 => ∃ c j b q, fT (mO y) x = some (c, j, b, q) ∧ kc a = c ∧ K (pc + 3) L (gfv c j r a o μ :: S1) μ
  | .putfield x => n = 3 ∧ popI S fun v S0 => popR S0 fun r a o S1 => ∃ c j b q, fT (mO y) x = some (c, j, b, q) ∧ kc a = c ∧ fk c j = none ∧ (bz c j = true → v = 0 ∨ v = 1) ∧ K (pc + 3) L S1 (mset μ r a o j v)
  | .iaload => n = 1 ∧ popI S fun i S0 => popR S0 fun r a o S1 => vp_in i (al a) ∧ (kc a = 10 → K (pc + 1) L (.inl (μ r a o i.toNatClampNeg) :: S1) μ) ∧ (¬ kc a = 10 → kc a = 12 ∧ K (pc + 1) L (.inl (imC a i.toNatClampNeg) :: S1) μ)
  | .iastore => n = 1 ∧ popI S fun v S00 => popI S00 fun i S0 => popR S0 fun r a o S1 => kc a = 10 ∧ vp_in i (al a) ∧ K (pc + 1) L S1 (mset μ r a o i.toNatClampNeg v)
  | .aaload => n = 1 ∧ popI S fun i S0 => popR S0 fun r a o S1 => kc a = 11 ∧ vp_in i 6 ∧ K (pc + 1) L (.inr (r, a + 1, i.toNatClampNeg) :: S1) μ
  | .arraylength => n = 1 ∧ popR S fun _ a _ S1 => kc a = 10 ∧ K (pc + 1) L (.inl (nI (al a)) :: S1) μ
  | .getstatic x => n = 3 ∧ ∃ a, gT (mO y) x = some a ∧ K (pc + 3) L (.inr (9, a, 0) :: S) μ
  | .invokevirtual x => n = 3 ∧ ∃ z q, cT (mO y) x = some (z, q) ∧ ¬ z = 900 ∧ mS z = false ∧ popN (mK z) S fun As S0 => popR S0 fun r a o S1 => kc a = mO z ∧ S1.length ≤ 8 ∧
      (mR z = none → ∃ μ', C z (.inr (r, a, o) :: As) μ (none, μ') ∧ K (pc + 3) L S1 μ') ∧ (¬ mR z = none → ∃ v μ', C z (.inr (r, a, o) :: As) μ (some v, μ') ∧ K (pc + 3) L (.inl v :: S1) μ')
  | .invokestatic x => n = 3 ∧ ∃ z q, cT (mO y) x = some (z, q) ∧
      ((z = 900 ∧ popI S fun k S0 => popI S0 fun dp S1 => popR S1 fun r' a' o' S2 => popI S2 fun sp S3 => popR S3 fun r a o S4 => kc a = 10 ∧ kc a' = 10 ∧ ¬ sp < 0 ∧ ¬ dp < 0 ∧ ¬ k < 0 ∧ sp.toNatClampNeg + k.toNatClampNeg ≤ al a ∧ dp.toNatClampNeg + k.toNatClampNeg ≤ al a' ∧ S4.length ≤ 8 ∧ K (pc + 3) L S4 (mrow μ r' a' o' (va_cpy (μ r a o) (μ r' a' o') sp.toNatClampNeg dp.toNatClampNeg k.toNatClampNeg)))
      ∨ (¬ z = 900 ∧ mS z = true ∧ popN (mK z) S fun As S1 => S1.length ≤ 8 ∧
      (mR z = none → ∃ μ', C z As μ (none, μ') ∧ K (pc + 3) L S1 μ') ∧ (¬ mR z = none → ∃ v μ', C z As μ (some v, μ') ∧ K (pc + 3) L (.inl v :: S1) μ')))
  | .ireturn => n = 1 ∧ ∃ v, S = [.inl v] ∧ (mR y = some .boolean → v = 0 ∨ v = 1) ∧ ¬ mR y = none ∧ res = (some v, μ)
  | .return_ => n = 1 ∧ S = [] ∧ mR y = none ∧ res = (none, μ)
  | _ => False
def Ev (C : Nat → List AV → Mem → Res → Prop) (y : Nat) (res : Res) : Nat → Kont
  | 0 => fun _ _ _ _ => False
  | n + 1 => fun pc L S μ => ∃ i k, decode (mB y) pc = .ok (i, k) ∧ stp C y res i k pc (Ev C y res n) L S μ
def EvE (C : Nat → List AV → Mem → Res → Prop) (y pc : Nat) (L : Lc) (S : List AV) (μ : Mem) (res : Res) : Prop := ∃ n, Ev C y res n pc L S μ
def lc0 (n : Nat) (as : List AV) : Lc := as.map some ++ List.replicate (n - as.length) none
def M : Nat → Nat → List AV → Mem → Res → Prop
  | 0 => fun _ _ _ _ => False
  | d + 1 => fun y as μ res => as.length ≤ mL y ∧ EvE (M d) y 0 (lc0 (mL y) as) [] μ res
section EVL
variable {C : Nat → List AV → Mem → Res → Prop} {y pc n : Nat} {res : Res} {L : Lc} {S : List AV} {μ : Mem}
theorem ev_of {i : Instr} {k : Nat} (h : decode (mB y) pc = .ok (i, k)) : EvE C y pc L S μ res ↔ ∃ n, stp C y res i k pc (Ev C y res n) L S μ := by
  constructor
  · rintro ⟨n, hn⟩
    cases n with
    | zero => exact hn.elim
    | succ n =>
      obtain ⟨i', k', h1, h2⟩ := hn
      rw [h] at h1
      cases h1
      exact ⟨n, h2⟩
  · rintro ⟨n, hn⟩
    exact ⟨n + 1, i, k, h, hn⟩
theorem ev_iconst {v : Int} {w : Int32} (h : decode (mB y) pc = .ok (.iconst v, 1)) (hw : Int32.ofInt v = w) : EvE C y pc L S μ res ↔ EvE C y (pc + 1) L (.inl w :: S) μ res := by
  subst hw
  exact (ev_of h).trans (exists_congr fun _ => and_iff_right rfl)
theorem ev_bipush {v : Int} {w : Int32} (h : decode (mB y) pc = .ok (.bipush v, 2)) (hw : (Int8.ofInt v).toInt32 = w) : EvE C y pc L S μ res ↔ EvE C y (pc + 2) L (.inl w :: S) μ res := by
  subst hw
  exact (ev_of h).trans (exists_congr fun _ => and_iff_right rfl)
theorem ev_sipush {v : Int} {w : Int32} (h : decode (mB y) pc = .ok (.sipush v, 3)) (hw : (Int16.ofInt v).toInt32 = w) : EvE C y pc L S μ res ↔ EvE C y (pc + 3) L (.inl w :: S) μ res := by
  subst hw
  exact (ev_of h).trans (exists_congr fun _ => and_iff_right rfl)
theorem ev_ldc {x : Nat} {w : Int32} (h : decode (mB y) pc = .ok (.ldc x, 2)) (hw : lT (mO y) x = some w) : EvE C y pc L S μ res ↔ EvE C y (pc + 2) L (.inl w :: S) μ res := by
  refine (ev_of h).trans (exists_congr fun k => (and_iff_right rfl).trans ⟨?_, fun h => ⟨w, hw, h⟩⟩)
  rintro ⟨v, h1, h2⟩
  rw [hw] at h1; cases h1; exact h2
theorem ldI_iff {k : Nat} {v : Int32} {f : Int32 → Prop} (hv : L[k]? = some (some (.inl v))) : ldI L k f ↔ f v := by
  constructor
  · rintro ⟨w, h1, h2⟩
    rw [hv] at h1; cases h1; exact h2
  · exact fun h => ⟨v, hv, h⟩
theorem ldR_iff {k : Nat} {q : Nat × Nat × Nat} {f : Nat × Nat × Nat → Prop} (hv : L[k]? = some (some (.inr q))) : ldR L k f ↔ f q := by
  constructor
  · rintro ⟨w, h1, h2⟩
    rw [hv] at h1; cases h1; exact h2
  · exact fun h => ⟨q, hv, h⟩
theorem popI_iff {v : Int32} {f : Int32 → List AV → Prop} : popI (.inl v :: S) f ↔ f v S := by
  constructor
  · rintro ⟨w, S', h1, h2⟩
    cases h1; exact h2
  · exact fun h => ⟨v, S, rfl, h⟩
theorem popR_iff {r a o : Nat} {f : Nat → Nat → Nat → List AV → Prop} : popR (.inr (r, a, o) :: S) f ↔ f r a o S := by
  constructor
  · rintro ⟨r, a, o, S', h1, h2⟩
    cases h1; exact h2
  · exact fun h => ⟨r, a, o, S, rfl, h⟩
theorem popN_iff {As : List AV} {k : Nat} (hk : As.length = k) {f : List AV → List AV → Prop} : popN k (As.reverse ++ S) f ↔ f As S := by
  constructor
  · rintro ⟨Bs, S', h0, h1, h2⟩
    have := List.append_inj h1 (by simp [hk, h0])
    rw [List.reverse_inj] at this
    rw [this.1, this.2]; exact h2
  · exact fun h => ⟨As, S, hk, rfl, h⟩
theorem ev_iload_n {k : Fin 4} {v : Int32} (h : decode (mB y) pc = .ok (.iload_n k, 1)) (hv : L[(k : Nat)]? = some (some (.inl v))) : EvE C y pc L S μ res ↔ EvE C y (pc + 1) L (.inl v :: S) μ res := (ev_of h).trans (exists_congr fun _ => (and_iff_right rfl).trans (ldI_iff hv))
theorem ev_iload {k : Nat} {v : Int32} (h : decode (mB y) pc = .ok (.iload k, 2)) (hv : L[k]? = some (some (.inl v))) : EvE C y pc L S μ res ↔ EvE C y (pc + 2) L (.inl v :: S) μ res := (ev_of h).trans (exists_congr fun _ => (and_iff_right rfl).trans (ldI_iff hv))
theorem ev_aload_n {k : Fin 4} {q : Nat × Nat × Nat} (h : decode (mB y) pc = .ok (.aload_n k, 1)) (hv : L[(k : Nat)]? = some (some (.inr q))) : EvE C y pc L S μ res ↔ EvE C y (pc + 1) L (.inr q :: S) μ res := (ev_of h).trans (exists_congr fun _ => (and_iff_right rfl).trans (ldR_iff hv))
theorem ev_aload {k : Nat} {q : Nat × Nat × Nat} (h : decode (mB y) pc = .ok (.aload k, 2)) (hv : L[k]? = some (some (.inr q))) : EvE C y pc L S μ res ↔ EvE C y (pc + 2) L (.inr q :: S) μ res := (ev_of h).trans (exists_congr fun _ => (and_iff_right rfl).trans (ldR_iff hv))
theorem ev_istore_n {k : Fin 4} {v : Int32} {L' : Lc} (h : decode (mB y) pc = .ok (.istore_n k, 1)) (hk : (k : Nat) < L.length) (hL : L.set k (some (.inl v)) = L') : EvE C y pc L (.inl v :: S) μ res ↔ EvE C y (pc + 1) L' S μ res := by
  subst hL
  exact (ev_of h).trans (exists_congr fun _ => (and_iff_right rfl).trans (popI_iff.trans (and_iff_right hk)))
theorem ev_istore {k : Nat} {v : Int32} {L' : Lc} (h : decode (mB y) pc = .ok (.istore k, 2)) (hk : k < L.length) (hL : L.set k (some (.inl v)) = L') : EvE C y pc L (.inl v :: S) μ res ↔ EvE C y (pc + 2) L' S μ res := by
  subst hL
  exact (ev_of h).trans (exists_congr fun _ => (and_iff_right rfl).trans (popI_iff.trans (and_iff_right hk)))
theorem ev_astore_n {k : Fin 4} {r a o : Nat} {L' : Lc} (h : decode (mB y) pc = .ok (.astore_n k, 1)) (hk : (k : Nat) < L.length) (hL : L.set k (some (.inr (r, a, o))) = L') : EvE C y pc L (.inr (r, a, o) :: S) μ res ↔ EvE C y (pc + 1) L' S μ res := by
  subst hL
  exact (ev_of h).trans (exists_congr fun _ => (and_iff_right rfl).trans (popR_iff.trans (and_iff_right hk)))
theorem ev_astore {k : Nat} {r a o : Nat} {L' : Lc} (h : decode (mB y) pc = .ok (.astore k, 2)) (hk : k < L.length) (hL : L.set k (some (.inr (r, a, o))) = L') : EvE C y pc L (.inr (r, a, o) :: S) μ res ↔ EvE C y (pc + 2) L' S μ res := by
  subst hL
  exact (ev_of h).trans (exists_congr fun _ => (and_iff_right rfl).trans (popR_iff.trans (and_iff_right hk)))
theorem ev_iinc {k : Nat} {d : Int} {v w : Int32} {L' : Lc} (h : decode (mB y) pc = .ok (.iinc k d, 3)) (hv : L[k]? = some (some (.inl v))) (hw : Int32.ofInt d = w) (hL : L.set k (some (.inl (v + w))) = L') : EvE C y pc L S μ res ↔ EvE C y (pc + 3) L' S μ res := by
  subst hw; subst hL
  exact (ev_of h).trans (exists_congr fun _ => (and_iff_right rfl).trans (ldI_iff hv))
theorem ev_iadd {a b : Int32} (h : decode (mB y) pc = .ok (.iadd, 1)) : EvE C y pc L (.inl b :: .inl a :: S) μ res ↔ EvE C y (pc + 1) L (.inl (a + b) :: S) μ res := (ev_of h).trans (exists_congr fun _ => (and_iff_right rfl).trans (popI_iff.trans popI_iff))
theorem ev_isub {a b : Int32} (h : decode (mB y) pc = .ok (.isub, 1)) : EvE C y pc L (.inl b :: .inl a :: S) μ res ↔ EvE C y (pc + 1) L (.inl (a - b) :: S) μ res := (ev_of h).trans (exists_congr fun _ => (and_iff_right rfl).trans (popI_iff.trans popI_iff))
theorem ev_imul {a b : Int32} (h : decode (mB y) pc = .ok (.imul, 1)) : EvE C y pc L (.inl b :: .inl a :: S) μ res ↔ EvE C y (pc + 1) L (.inl (a * b) :: S) μ res := (ev_of h).trans (exists_congr fun _ => (and_iff_right rfl).trans (popI_iff.trans popI_iff))
theorem ev_iand {a b : Int32} (h : decode (mB y) pc = .ok (.iand, 1)) : EvE C y pc L (.inl b :: .inl a :: S) μ res ↔ EvE C y (pc + 1) L (.inl (a &&& b) :: S) μ res := (ev_of h).trans (exists_congr fun _ => (and_iff_right rfl).trans (popI_iff.trans popI_iff))
theorem ev_ixor {a b : Int32} (h : decode (mB y) pc = .ok (.ixor, 1)) : EvE C y pc L (.inl b :: .inl a :: S) μ res ↔ EvE C y (pc + 1) L (.inl (a ^^^ b) :: S) μ res := (ev_of h).trans (exists_congr fun _ => (and_iff_right rfl).trans (popI_iff.trans popI_iff))
theorem ev_ishl {a b : Int32} (h : decode (mB y) pc = .ok (.ishl, 1)) : EvE C y pc L (.inl b :: .inl a :: S) μ res ↔ EvE C y (pc + 1) L (.inl (a <<< (b &&& 31)) :: S) μ res := (ev_of h).trans (exists_congr fun _ => (and_iff_right rfl).trans (popI_iff.trans popI_iff))
theorem ex_and {P : Prop} {A : Nat → Prop} : (∃ n, P ∧ A n) ↔ P ∧ ∃ n, A n := ⟨fun ⟨n, a, b⟩ => ⟨a, n, b⟩, fun ⟨a, n, b⟩ => ⟨n, a, b⟩⟩
theorem ex_br {P : Prop} {A B : Nat → Prop} : (∃ n, (P → A n) ∧ (¬ P → B n)) ↔ (P → ∃ n, A n) ∧ (¬ P → ∃ n, B n) := by
  constructor
  · exact fun ⟨n, a, b⟩ => ⟨fun h => ⟨n, a h⟩, fun h => ⟨n, b h⟩⟩
  · intro ⟨a, b⟩
    by_cases h : P
    · obtain ⟨n, hn⟩ := a h
      exact ⟨n, fun _ => hn, fun h' => absurd h h'⟩
    · obtain ⟨n, hn⟩ := b h
      exact ⟨n, fun h' => absurd h' h, fun _ => hn⟩
theorem ev_irem {a b : Int32} (h : decode (mB y) pc = .ok (.irem, 1)) : EvE C y pc L (.inl b :: .inl a :: S) μ res ↔ ¬ b = 0 ∧ EvE C y (pc + 1) L (.inl (a - a / b * b) :: S) μ res := ((ev_of h).trans (exists_congr fun _ => (and_iff_right rfl).trans (popI_iff.trans popI_iff))).trans ex_and
theorem ev_dup {v : AV} (h : decode (mB y) pc = .ok (.dup, 1)) : EvE C y pc L (v :: S) μ res ↔ EvE C y (pc + 1) L (v :: v :: S) μ res := by
  refine (ev_of h).trans (exists_congr fun _ => (and_iff_right rfl).trans ⟨?_, fun h => ⟨v, S, rfl, h⟩⟩)
  rintro ⟨_, _, e, h⟩; cases e; exact h
theorem ev_dup2 {v w : AV} (h : decode (mB y) pc = .ok (.dup2, 1)) : EvE C y pc L (v :: w :: S) μ res ↔ EvE C y (pc + 1) L (v :: w :: v :: w :: S) μ res := by
  refine (ev_of h).trans (exists_congr fun _ => (and_iff_right rfl).trans ⟨?_, fun h => ⟨v, w, S, rfl, h⟩⟩)
  rintro ⟨_, _, _, e, h⟩; cases e; exact h
theorem ev_pop {v : AV} (h : decode (mB y) pc = .ok (.pop, 1)) : EvE C y pc L (v :: S) μ res ↔ EvE C y (pc + 1) L S μ res := by
  refine (ev_of h).trans (exists_congr fun _ => (and_iff_right rfl).trans ⟨?_, fun h => ⟨v, S, rfl, h⟩⟩)
  rintro ⟨_, _, e, h⟩; cases e; exact h
theorem ex_tgt {z : Int} {t : Nat} (ht : z = t) {A : Nat → Prop} : (∃ t' : Nat, z = t' ∧ A t') ↔ A t := by
  constructor
  · rintro ⟨t', h1, h2⟩
    have : t' = t := by omega
    rw [← this]; exact h2
  · exact fun h => ⟨t, ht, h⟩
theorem ev_icmp {c : ClassFile.Cond} {d : Int} {t : Nat} {a b : Int32} (h : decode (mB y) pc = .ok (.if_icmp c d, 3)) (ht : (pc : Int) + d = t) : EvE C y pc L (.inl b :: .inl a :: S) μ res ↔ (cmpI c a b → EvE C y t L S μ res) ∧ (¬ cmpI c a b → EvE C y (pc + 3) L S μ res) :=
  ((ev_of h).trans (exists_congr fun _ => (and_iff_right rfl).trans (popI_iff.trans (popI_iff.trans (ex_tgt ht))))).trans ex_br
theorem ev_ifc {c : ClassFile.Cond} {d : Int} {t : Nat} {a : Int32} (h : decode (mB y) pc = .ok (.ifCond c d, 3)) (ht : (pc : Int) + d = t) : EvE C y pc L (.inl a :: S) μ res ↔ (cmpI c a 0 → EvE C y t L S μ res) ∧ (¬ cmpI c a 0 → EvE C y (pc + 3) L S μ res) :=
  ((ev_of h).trans (exists_congr fun _ => (and_iff_right rfl).trans (popI_iff.trans (ex_tgt ht)))).trans ex_br
theorem ev_goto {d : Int} {t : Nat} (h : decode (mB y) pc = .ok (.goto d, 3)) (ht : (pc : Int) + d = t) : EvE C y pc L S μ res ↔ EvE C y t L S μ res :=
  (ev_of h).trans (exists_congr fun _ => (and_iff_right rfl).trans (ex_tgt ht))
theorem ev_getI {x r a o c j q : Nat} {b : Bool} (h : decode (mB y) pc = .ok (.getfield x, 3)) (hf : fT (mO y) x = some (c, j, b, q)) (hk : fk c j = none) : EvE C y pc L (.inr (r, a, o) :: S) μ res ↔ kc a = c ∧ EvE C y (pc + 3) L (.inl (μ r a o j) :: S) μ res := by
  refine ((ev_of h).trans (exists_congr fun _ => (and_iff_right rfl).trans (popR_iff.trans ⟨?_, fun h => ⟨c, j, b, q, hf, h.1, ?_⟩⟩))).trans ex_and
  · rintro ⟨c', j', b', q', h1, h2, h3⟩
    rw [hf] at h1; cases h1
    unfold gfv at h3; rw [hk] at h3; exact ⟨h2, h3⟩
  · unfold gfv; rw [hk]; exact h.2
theorem ev_getR {x r a o c j q dr da : Nat} {b : Bool} (h : decode (mB y) pc = .ok (.getfield x, 3)) (hf : fT (mO y) x = some (c, j, b, q)) (hk : fk c j = some (dr, da)) : EvE C y pc L (.inr (r, a, o) :: S) μ res ↔ kc a = c ∧ EvE C y (pc + 3) L (.inr (r + dr, a + da, o) :: S) μ res := by
  refine ((ev_of h).trans (exists_congr fun _ => (and_iff_right rfl).trans (popR_iff.trans ⟨?_, fun h => ⟨c, j, b, q, hf, h.1, ?_⟩⟩))).trans ex_and
  · rintro ⟨c', j', b', q', h1, h2, h3⟩
    rw [hf] at h1; cases h1
    unfold gfv at h3; rw [hk] at h3; exact ⟨h2, h3⟩
  · unfold gfv; rw [hk]; exact h.2
theorem ev_put {x r a o c j q : Nat} {b : Bool} {v : Int32} (h : decode (mB y) pc = .ok (.putfield x, 3)) (hf : fT (mO y) x = some (c, j, b, q)) (hk : fk c j = none) (hb : bz c j = false) : EvE C y pc L (.inl v :: .inr (r, a, o) :: S) μ res ↔ kc a = c ∧ EvE C y (pc + 3) L S (mset μ r a o j v) res := by
  refine ((ev_of h).trans (exists_congr fun _ => (and_iff_right rfl).trans (popI_iff.trans (popR_iff.trans ⟨?_, fun h => ⟨c, j, b, q, hf, h.1, hk, fun e => (by rw [hb] at e; cases e), h.2⟩⟩)))).trans ex_and
  rintro ⟨c', j', b', q', h1, h2, h3, h4, h5⟩
  rw [hf] at h1; cases h1
  exact ⟨h2, h5⟩
theorem ev_putZ {x r a o c j q : Nat} {b : Bool} {v : Int32} (h : decode (mB y) pc = .ok (.putfield x, 3)) (hf : fT (mO y) x = some (c, j, b, q)) (hk : fk c j = none) (hb : bz c j = true) : EvE C y pc L (.inl v :: .inr (r, a, o) :: S) μ res ↔ (kc a = c ∧ (v = 0 ∨ v = 1)) ∧ EvE C y (pc + 3) L S (mset μ r a o j v) res := by
  refine ((ev_of h).trans (exists_congr fun _ => (and_iff_right rfl).trans (popI_iff.trans (popR_iff.trans ⟨?_, fun h => ⟨c, j, b, q, hf, h.1.1, hk, fun _ => h.1.2, h.2⟩⟩)))).trans ex_and
  rintro ⟨c', j', b', q', h1, h2, h3, h4, h5⟩
  rw [hf] at h1; cases h1
  exact ⟨⟨h2, h4 hb⟩, h5⟩
theorem ev_iald {r a o : Nat} {i : Int32} (h : decode (mB y) pc = .ok (.iaload, 1)) (hk : kc a = 10) : EvE C y pc L (.inl i :: .inr (r, a, o) :: S) μ res ↔ vp_in i (al a) ∧ EvE C y (pc + 1) L (.inl (μ r a o i.toNatClampNeg) :: S) μ res :=
  ((ev_of h).trans (exists_congr fun _ => (and_iff_right rfl).trans (popI_iff.trans (popR_iff.trans (and_congr_right fun _ => ⟨fun h => h.1 hk, fun h => ⟨fun _ => h, fun h' => absurd hk h'⟩⟩))))).trans ex_and
theorem ev_imld {r a o : Nat} {i : Int32} (h : decode (mB y) pc = .ok (.iaload, 1)) (hk : kc a = 12) : EvE C y pc L (.inl i :: .inr (r, a, o) :: S) μ res ↔ vp_in i (al a) ∧ EvE C y (pc + 1) L (.inl (imC a i.toNatClampNeg) :: S) μ res :=
  have hk' : ¬ kc a = 10 := by rw [hk]; decide
  ((ev_of h).trans (exists_congr fun _ => (and_iff_right rfl).trans (popI_iff.trans (popR_iff.trans (and_congr_right fun _ => ⟨fun h => (h.2 hk').2, fun h => ⟨fun h' => absurd h' hk', fun _ => ⟨hk, h⟩⟩⟩))))).trans ex_and
theorem ev_iast {r a o : Nat} {i v : Int32} (h : decode (mB y) pc = .ok (.iastore, 1)) (hk : kc a = 10) : EvE C y pc L (.inl v :: .inl i :: .inr (r, a, o) :: S) μ res ↔ vp_in i (al a) ∧ EvE C y (pc + 1) L S (mset μ r a o i.toNatClampNeg v) res :=
  ((ev_of h).trans (exists_congr fun _ => (and_iff_right rfl).trans (popI_iff.trans (popI_iff.trans (popR_iff.trans (and_iff_right hk)))))).trans ex_and
theorem ev_aald {r a o : Nat} {i : Int32} (h : decode (mB y) pc = .ok (.aaload, 1)) (hk : kc a = 11) : EvE C y pc L (.inl i :: .inr (r, a, o) :: S) μ res ↔ vp_in i 6 ∧ EvE C y (pc + 1) L (.inr (r, a + 1, i.toNatClampNeg) :: S) μ res :=
  ((ev_of h).trans (exists_congr fun _ => (and_iff_right rfl).trans (popI_iff.trans (popR_iff.trans (and_iff_right hk))))).trans ex_and
theorem ev_alen {r a o : Nat} (h : decode (mB y) pc = .ok (.arraylength, 1)) (hk : kc a = 10) : EvE C y pc L (.inr (r, a, o) :: S) μ res ↔ EvE C y (pc + 1) L (.inl (nI (al a)) :: S) μ res :=
  (ev_of h).trans (exists_congr fun _ => (and_iff_right rfl).trans (popR_iff.trans (and_iff_right hk)))
theorem ev_gets {x a : Nat} (h : decode (mB y) pc = .ok (.getstatic x, 3)) (hg : gT (mO y) x = some a) : EvE C y pc L S μ res ↔ EvE C y (pc + 3) L (.inr (9, a, 0) :: S) μ res := by
  refine (ev_of h).trans (exists_congr fun k => (and_iff_right rfl).trans ⟨?_, fun h => ⟨a, hg, h⟩⟩)
  rintro ⟨v, h1, h2⟩
  rw [hg] at h1; cases h1; exact h2
theorem ex_2 {α β : Type} {A : Nat → α → β → Prop} : (∃ n a b, A n a b) ↔ ∃ a b n, A n a b := ⟨fun ⟨n, a, b, h⟩ => ⟨a, b, n, h⟩, fun ⟨a, b, n, h⟩ => ⟨n, a, b, h⟩⟩
theorem ev_virV {x z q r a o : Nat} {As S0 : List AV} (h : decode (mB y) pc = .ok (.invokevirtual x, 3)) (hc : cT (mO y) x = some (z, q)) (hz : ¬ z = 900) (hs : mS z = false) (hn : As.length = mK z) (hr : mR z = none) (hS : S0 = As.reverse ++ .inr (r, a, o) :: S) (hl : S.length ≤ 8) : EvE C y pc L S0 μ res ↔ kc a = mO z ∧ ∃ μ', C z (.inr (r, a, o) :: As) μ (none, μ') ∧ EvE C y (pc + 3) L S μ' res := by
  subst hS
  refine (ev_of h).trans ⟨?_, ?_⟩
  · rintro ⟨n, -, z', q', h1, -, h2, h3⟩
    rw [hc] at h1; cases h1
    obtain ⟨h4, h5, h6, h7⟩ := popR_iff.mp ((popN_iff hn).mp h3)
    obtain ⟨μ', h8, h9⟩ := h6 hr
    exact ⟨h4, μ', h8, n, h9⟩
  · rintro ⟨h4, μ', h8, n, h9⟩
    exact ⟨n, rfl, z, q, hc, hz, hs, (popN_iff hn).mpr (popR_iff.mpr ⟨h4, hl, fun _ => ⟨μ', h8, h9⟩, fun h' => absurd hr h'⟩)⟩
theorem ev_virI {x z q r a o : Nat} {As S0 : List AV} (h : decode (mB y) pc = .ok (.invokevirtual x, 3)) (hc : cT (mO y) x = some (z, q)) (hz : ¬ z = 900) (hs : mS z = false) (hn : As.length = mK z) (hr : ¬ mR z = none) (hS : S0 = As.reverse ++ .inr (r, a, o) :: S) (hl : S.length ≤ 8) : EvE C y pc L S0 μ res ↔ kc a = mO z ∧ ∃ v μ', C z (.inr (r, a, o) :: As) μ (some v, μ') ∧ EvE C y (pc + 3) L (.inl v :: S) μ' res := by
  subst hS
  refine (ev_of h).trans ⟨?_, ?_⟩
  · rintro ⟨n, -, z', q', h1, -, h2, h3⟩
    rw [hc] at h1; cases h1
    obtain ⟨h4, h5, h6, h7⟩ := popR_iff.mp ((popN_iff hn).mp h3)
    obtain ⟨v, μ', h8, h9⟩ := h7 hr
    exact ⟨h4, v, μ', h8, n, h9⟩
  · rintro ⟨h4, v, μ', h8, n, h9⟩
    exact ⟨n, rfl, z, q, hc, hz, hs, (popN_iff hn).mpr (popR_iff.mpr ⟨h4, hl, fun h' => absurd h' hr, fun _ => ⟨v, μ', h8, h9⟩⟩)⟩
theorem ev_staV {x z q : Nat} {As S0 : List AV} (h : decode (mB y) pc = .ok (.invokestatic x, 3)) (hc : cT (mO y) x = some (z, q)) (hz : ¬ z = 900) (hs : mS z = true) (hn : As.length = mK z) (hr : mR z = none) (hS : S0 = As.reverse ++ S) (hl : S.length ≤ 8) : EvE C y pc L S0 μ res ↔ ∃ μ', C z As μ (none, μ') ∧ EvE C y (pc + 3) L S μ' res := by
  subst hS
  refine (ev_of h).trans ⟨?_, ?_⟩
  · rintro ⟨n, -, z', q', h1, h2⟩
    rw [hc] at h1; cases h1
    rcases h2 with h2 | ⟨-, -, h3⟩
    · exact absurd h2.1 hz
    obtain ⟨h5, h6, h7⟩ := (popN_iff hn).mp h3
    obtain ⟨μ', h8, h9⟩ := h6 hr
    exact ⟨μ', h8, n, h9⟩
  · rintro ⟨μ', h8, n, h9⟩
    exact ⟨n, rfl, z, q, hc, Or.inr ⟨hz, hs, (popN_iff hn).mpr ⟨hl, fun _ => ⟨μ', h8, h9⟩, fun h' => absurd hr h'⟩⟩⟩
theorem ev_staI {x z q : Nat} {As S0 : List AV} (h : decode (mB y) pc = .ok (.invokestatic x, 3)) (hc : cT (mO y) x = some (z, q)) (hz : ¬ z = 900) (hs : mS z = true) (hn : As.length = mK z) (hr : ¬ mR z = none) (hS : S0 = As.reverse ++ S) (hl : S.length ≤ 8) : EvE C y pc L S0 μ res ↔ ∃ v μ', C z As μ (some v, μ') ∧ EvE C y (pc + 3) L (.inl v :: S) μ' res := by
  subst hS
  refine (ev_of h).trans ⟨?_, ?_⟩
  · rintro ⟨n, -, z', q', h1, h2⟩
    rw [hc] at h1; cases h1
    rcases h2 with h2 | ⟨-, -, h3⟩
    · exact absurd h2.1 hz
    obtain ⟨h5, h6, h7⟩ := (popN_iff hn).mp h3
    obtain ⟨v, μ', h8, h9⟩ := h7 hr
    exact ⟨v, μ', h8, n, h9⟩
  · rintro ⟨v, μ', h8, n, h9⟩
    exact ⟨n, rfl, z, q, hc, Or.inr ⟨hz, hs, (popN_iff hn).mpr ⟨hl, fun h' => absurd h' hr, fun _ => ⟨v, μ', h8, h9⟩⟩⟩⟩
theorem ev_acpy {x q r a o r' a' o' : Nat} {sp dp k : Int32} (h : decode (mB y) pc = .ok (.invokestatic x, 3)) (hc : cT (mO y) x = some (900, q)) (hk : kc a = 10) (hk' : kc a' = 10) (hl : S.length ≤ 8) : EvE C y pc L (.inl k :: .inl dp :: .inr (r', a', o') :: .inl sp :: .inr (r, a, o) :: S) μ res ↔ (¬ sp < 0 ∧ ¬ dp < 0 ∧ ¬ k < 0 ∧ sp.toNatClampNeg + k.toNatClampNeg ≤ al a ∧ dp.toNatClampNeg + k.toNatClampNeg ≤ al a') ∧ EvE C y (pc + 3) L S (mrow μ r' a' o' (va_cpy (μ r a o) (μ r' a' o') sp.toNatClampNeg dp.toNatClampNeg k.toNatClampNeg)) res := by
  refine (ev_of h).trans ⟨?_, ?_⟩
  · rintro ⟨n, -, z', q', h1, h2⟩
    rw [hc] at h1; cases h1
    rcases h2 with ⟨-, h2⟩ | h2
    · obtain ⟨h1, h2, h3, h4, h5, h6, h7, h8, h9⟩ := popR_iff.mp (popI_iff.mp (popR_iff.mp (popI_iff.mp (popI_iff.mp h2))))
      exact ⟨⟨h3, h4, h5, h6, h7⟩, n, h9⟩
    · exact absurd rfl h2.1
  · rintro ⟨⟨h3, h4, h5, h6, h7⟩, n, h9⟩
    exact ⟨n, rfl, 900, q, hc, Or.inl ⟨rfl, popI_iff.mpr (popI_iff.mpr (popR_iff.mpr (popI_iff.mpr (popR_iff.mpr ⟨hk, hk', h3, h4, h5, h6, h7, hl, h9⟩))))⟩⟩
theorem ev_ireturn {v : Int32} (h : decode (mB y) pc = .ok (.ireturn, 1)) (hr : mR y = some .int) : EvE C y pc L [.inl v] μ res ↔ res = (some v, μ) := by
  refine (ev_of h).trans ⟨?_, fun h => ⟨0, rfl, v, rfl, fun e => (by rw [hr] at e; cases e), fun e => (by rw [hr] at e; cases e), h⟩⟩
  rintro ⟨-, -, v', h1, h2, h3, h4⟩
  cases h1; exact h4
theorem ev_zreturn {v : Int32} (h : decode (mB y) pc = .ok (.ireturn, 1)) (hr : mR y = some .boolean) : EvE C y pc L [.inl v] μ res ↔ (v = 0 ∨ v = 1) ∧ res = (some v, μ) := by
  refine (ev_of h).trans ⟨?_, fun h => ⟨0, rfl, v, rfl, fun _ => h.1, fun e => (by rw [hr] at e; cases e), h.2⟩⟩
  rintro ⟨-, -, v', h1, h2, h3, h4⟩
  cases h1; exact ⟨h2 hr, h4⟩
theorem ev_return (h : decode (mB y) pc = .ok (.return_, 1)) (hr : mR y = none) : EvE C y pc L [] μ res ↔ res = (none, μ) := by
  refine (ev_of h).trans ⟨?_, fun h => ⟨0, rfl, rfl, hr, h⟩⟩
  rintro ⟨-, -, -, -, h4⟩
  exact h4
end EVL
end
section
/-! facts of the tables, by the kernel -/
def hostOf (c : Nat) : String := if c ≤ 7 then RX7 else RX9
def clT (c : Nat) : vw_C := cls10.getD c (RX0, TX0, 11)
def chkM (y : Nat) : Bool := ow (mO y) == (mN y).cls && plainFor (mN y) && (mN y).cls != "java/lang/invoke/MethodHandle" && (mN y).cls != "java/lang/invoke/VarHandle" && ((parseMethodDescriptor (mN y).desc).map (fun d => d.parameters.length) == some (mK y)) && lw_tbl[mZ y]? == some (.initialized (mN y).cls) && (if mS y then lw_tbl[mI y]? == some (.static (mN y)) else lw_tbl[mI y]? == some (.instanceMethod (mN y)) && lw_tbl[mX y]? == some (.selects (mN y).cls (mN y) (mN y))) && decide (mL y ≤ 20) && (if mS y then true else decide (mO y < 10))
set_option maxRecDepth 100000 in
theorem chkM_ok : ∀ y, y < 131 → chkM y = true := by decide +kernel
def chkF (w : Nat) (x : Nat × Nat × Nat × Bool × Nat) : Bool := lw_tbl[x.2.2.2.2]? == some (if x.2.2.2.1 then .fieldLinkNest (ow w) x.1 ((clT x.2.1).2.1 x.2.2.1).1 ((clT x.2.1).2.1 x.2.2.1).2.1 ((clT x.2.1).2.1 x.2.2.1).2.2.1 (hostOf x.2.1) else .fieldLink (ow w) x.1 ((clT x.2.1).2.1 x.2.2.1).1 ((clT x.2.1).2.1 x.2.2.1).2.1 ((clT x.2.1).2.1 x.2.2.1).2.2.1) && decide (x.2.1 < 10) && decide (x.2.2.1 < (clT x.2.1).2.2)
set_option maxRecDepth 100000 in
theorem chkF_ok : ∀ w, w < 13 → (fTs.getD w []).all (chkF w) = true := by decide +kernel
def chkC (w : Nat) (x : Nat × Nat × Nat) : Bool := if x.2.1 = 900 then lw_tbl[x.2.2]? == some (.methodLink (ow w) x.1 arraycopyName) else lw_tbl[x.2.2]? == some (.methodLink (ow w) x.1 (mN x.2.1)) && decide (x.2.1 < 131)
set_option maxRecDepth 100000 in
theorem chkC_ok : ∀ w, w < 13 → (cTs.getD w []).all (chkC w) = true := by decide +kernel
def tblG : List Cond := lw_tbl.filter goodWord
set_option maxRecDepth 100000 in
theorem codes_in : (List.range 131).map (fun y => Cond.code (mN y) (mB y) (mL y) (mR y)) = mPs.filterMap (fun i => lw_tbl[i]?) := rfl
theorem code_in {y : Nat} (hy : y < 131) : Cond.code (mN y) (mB y) (mL y) (mR y) ∈ tblG := by
  have h : Cond.code (mN y) (mB y) (mL y) (mR y) ∈ (List.range 131).map (fun y => Cond.code (mN y) (mB y) (mL y) (mR y)) := List.mem_map.mpr ⟨y, List.mem_range.mpr hy, rfl⟩
  rw [codes_in] at h
  obtain ⟨i, -, hi⟩ := List.mem_filterMap.mp h
  exact List.mem_filter.mpr ⟨List.mem_of_getElem? hi, rfl⟩
theorem lays_in (c : Nat) (hc : c < 10) : ∀ w ∈ u_ws (clT c).1 (clT c).2.1 (clT c).2.2, w ∈ tblG := by
  have hg : ∀ w ∈ u_ws (clT c).1 (clT c).2.1 (clT c).2.2, goodWord w = true := by
    intro w hw
    obtain ⟨k, -, rfl⟩ := List.mem_map.mp hw
    unfold u_lay
    split <;> rfl
  intro w hw
  refine List.mem_filter.mpr ⟨?_, hg w hw⟩
  match c, hc, hw with
  | 0, _, hw => exact inX0 w hw
  | 1, _, hw => exact inX1 w hw
  | 2, _, hw => exact inX2 w hw
  | 3, _, hw => exact inX3 w hw
  | 4, _, hw => exact inX4 w hw
  | 5, _, hw => exact inX5 w hw
  | 6, _, hw => exact inX6 w hw
  | 7, _, hw => exact inX7 w hw
  | 8, _, hw => exact inX8 w hw
  | 9, _, hw => exact inX9 w hw
  | k + 10, h, _ => exact absurd h (by omega)
set_option maxRecDepth 100000 in
theorem keys_nd : keys.Nodup := by decide +kernel
def cN (c : Nat) : Nat := (clT c).2.2
/-- the graph: kinds, and where reference fields lead -/
def chkK (k : Nat × Nat × Nat) : Bool := (decide (kc k.2.1 = 10) || (decide (kc k.2.1 = 11) && (List.range 6).all (fun i => decide ((k.1, k.2.1 + 1, i) ∈ keys))) || (decide (kc k.2.1 < 10) && (List.range (cN (kc k.2.1))).all (fun j => match fk (kc k.2.1) j with | none => true | some q => decide ((k.1 + q.1, k.2.1 + q.2, k.2.2) ∈ keys)))) && decide (k.1 < 9)
set_option maxRecDepth 100000 in
theorem chkK_ok : keys.all chkK = true := by decide +kernel
/-- the types of the int fields -/
def tyF (c j : Nat) : FieldType := if bz c j then .boolean else .int
def chkT (c j : Nat) : Bool := match fk c j with | none => parseFieldDescriptor ((clT c).2.1 j).2.2.1 == some (tyF c j) && ((clT c).2.1 j).2.2.2 == false | some _ => true
set_option maxRecDepth 100000 in
theorem chkT_ok : (List.range 10).all (fun c => (List.range (cN c)).all (chkT c)) = true := by decide +kernel
end
section
/-! THE ABSTRACT MACHINE IS SOUND, 1: the world of its memory -/
def vl (ad : Nat → Nat → Nat → Nat) (v : AV) : Value := match v with
  | .inl i => .int i
  | .inr q => .ref (ad q.1 q.2.1 q.2.2)
theorem vl_cat (ad : Nat → Nat → Nat → Nat) (v : AV) : (vl ad v).category = 1 := by cases v <;> rfl
def cE (cI cS : ClassId) (ad : Nat → Nat → Nat → Nat) (μ : Mem) (k : Nat × Nat × Nat) : va_E :=
  if kc k.2.1 = 10 then .inl (cI, al k.2.1, .inl (μ k.1 k.2.1 k.2.2))
  else if kc k.2.1 = 11 then .inl (cS, 6, .inr (.inr (.inr (.inr (fun i => some (ad k.1 (k.2.1 + 1) i))))))
  else .inr (kc k.2.1, (List.range (cN (kc k.2.1))).map (fun j => vl ad (gfv (kc k.2.1) j k.1 k.2.1 k.2.2 μ)))
def wl (cI cS : ClassId) (ad : Nat → Nat → Nat → Nat) (μ : Mem) : va_W := keys.map (fun k => (ad k.1 k.2.1 k.2.2, cE cI cS ad μ k))
def A0 (ad : Nat → Nat → Nat → Nat) : Nat → Prop := fun q => ∃ k ∈ keys, q = ad k.1 k.2.1 k.2.2
def Inj (ad : Nat → Nat → Nat → Nat) : Prop := ∀ k ∈ keys, ∀ k' ∈ keys, ad k.1 k.2.1 k.2.2 = ad k'.1 k'.2.1 k'.2.2 → k = k'
def isNest (w : Cond) : Bool := match w with
  | .fieldLinkNest _ _ _ _ _ _ => true
  | _ => false
def okr (r a o : Nat) : Prop := (r, a, o) ∈ keys ∨ (r = 9 ∧ (a = 90 ∨ a = 91) ∧ o = 0)
def okv (v : AV) : Prop := match v with
  | .inl _ => True
  | .inr q => okr q.1 q.2.1 q.2.2
def Wst (dC : Nat → ClassId) (dI : Nat → Nat → Nat) (cI cS : ClassId) (ad : Nat → Nat → Nat → Nat) (U : State) : Prop :=
  va_K (dC, dI) cls10 [(cI, .int), (cS, .object RX5)] U ∧ Inj ad ∧ (∀ a, a = 90 ∨ a = 91 → va_T .int (ad 9 a 0) 10 (fun i => .int (imC a i)) (A0 ad) U U.heap) ∧ va_Z RX7 "LEAST_OF_RULE" "[I" (.ref (ad 9 90 0)) (A0 ad) U U.heap ∧ va_Z RX7 "MOST_OF_RULE" "[I" (.ref (ad 9 91 0)) (A0 ad) U U.heap ∧ ∀ w ∈ lw_tbl, isNest w = true → va_Nw w U
def SP (dC : Nat → ClassId) (dI : Nat → Nat → Nat) (cI cS : ClassId) (ad : Nat → Nat → Nat → Nat) (μ : Mem) (U : State) : Prop := va_P (dC, dI) cls10 (wl cI cS ad μ) U.heap ∧ Wst dC dI cI cS ad U
def rmd (d : Nat) : Room := { frames := d, cells := 0, slots := 0, locals := 64 * d }
def wsU (y : Nat) : List Cond := Cond.code (mN y) (mB y) (mL y) (mR y) :: tblG
def Qm (dC : Nat → ClassId) (dI : Nat → Nat → Nat) (cI cS : ClassId) (ad : Nat → Nat → Nat → Nat) (res : Res) : Array Value → State → Outcome → State → Prop := match res.1 with
  | some v => va_Qi (fun r (_ : Unit) => r = v) (fun _ t => va_P (dC, dI) cls10 (wl cI cS ad res.2) t.heap) (A0 ad)
  | none => va_Qv (fun _ : Unit => True) (fun _ t => va_P (dC, dI) cls10 (wl cI cS ad res.2) t.heap) (A0 ad)
def Snd (l : Launch) (dC : Nat → ClassId) (dI : Nat → Nat → Nat) (cI cS : ClassId) (ad : Nat → Nat → Nat → Nat) (d : Nat) (C : Nat → List AV → Mem → Res → Prop) : Prop :=
  ∀ z as μ res, C z as μ res → z < 131 → (∀ v ∈ as, okv v) → Met l (mN z) (wsU z) (rmd d) (va_Pc (as.map (vl ad)) (SP dC dI cI cS ad μ)) (Qm dC dI cI cS ad res) 0 0 (A0 ad)
theorem nd_inj {α : Type} {l : List α} (h : l.Nodup) {i j : Nat} {x : α} (hi : l[i]? = some x) (hj : l[j]? = some x) : i = j := by
  obtain ⟨l1, e1⟩ := List.getElem?_eq_some_iff.mp hi
  obtain ⟨l2, e2⟩ := List.getElem?_eq_some_iff.mp hj
  have h := List.pairwise_iff_getElem.mp h
  rcases Nat.lt_trichotomy i j with q | q | q
  · exact absurd (e1.trans e2.symm) (h i j l1 l2 q)
  · exact q
  · exact absurd (e2.trans e1.symm) (h j i l2 l1 q)
theorem keys_chk {k : Nat × Nat × Nat} (h : k ∈ keys) : chkK k = true := List.all_eq_true.mp chkK_ok k h
theorem wl_at {cI cS : ClassId} {ad : Nat → Nat → Nat → Nat} {μ : Mem} {r a o : Nat} (h : (r, a, o) ∈ keys) : ∃ q0 : Nat, keys[q0]? = some (r, a, o) ∧ (wl cI cS ad μ)[q0]? = some (ad r a o, cE cI cS ad μ (r, a, o)) := by
  obtain ⟨q0, hq⟩ := List.mem_iff_getElem?.mp h
  exact ⟨q0, hq, by unfold wl; rw [List.getElem?_map, hq]; rfl⟩
theorem wl_set {cI cS : ClassId} {ad : Nat → Nat → Nat → Nat} {μ μ' : Mem} {k : Nat × Nat × Nat} {q0 : Nat} (hq : keys[q0]? = some k) (ho : ∀ k' : Nat × Nat × Nat, k' ≠ k → cE cI cS ad μ' k' = cE cI cS ad μ k') : (wl cI cS ad μ).set q0 (ad k.1 k.2.1 k.2.2, cE cI cS ad μ' k) = wl cI cS ad μ' := by
  apply List.ext_getElem?
  intro i
  rw [List.getElem?_set]
  unfold wl
  by_cases hi : q0 = i
  · subst hi
    have hlt : q0 < keys.length := (List.getElem?_eq_some_iff.mp hq).1
    rw [if_pos rfl, List.length_map, if_pos hlt, List.getElem?_map, hq]
    rfl
  · rw [if_neg hi, List.getElem?_map, List.getElem?_map]
    cases hk : keys[i]? with
    | none => rfl
    | some k' =>
      have hne : k' ≠ k := by
        rintro rfl
        exact hi (nd_inj keys_nd hq hk)
      show some (_, _) = some (_, _)
      rw [ho k' hne]
theorem mrow_ne {μ : Mem} {r a o : Nat} {f : Nat → Int32} {k : Nat × Nat × Nat} (h : k ≠ (r, a, o)) : mrow μ r a o f k.1 k.2.1 k.2.2 = μ k.1 k.2.1 k.2.2 := by
  obtain ⟨r', a', o'⟩ := k
  unfold mrow
  by_cases h1 : r' = r
  · subst h1
    rw [va_up_self]
    by_cases h2 : a' = a
    · subst h2
      rw [va_up_self]
      have h3 : o' ≠ o := fun e => h (by rw [e])
      rw [va_up_ne _ _ h3]
    · rw [va_up_ne _ _ h2]
  · rw [va_up_ne _ _ h1]
theorem mrow_self {μ : Mem} {r a o : Nat} {f : Nat → Int32} : mrow μ r a o f r a o = f := by
  unfold mrow; rw [va_up_self, va_up_self, va_up_self]
theorem cE_ne {cI cS : ClassId} {ad : Nat → Nat → Nat → Nat} {μ : Mem} {r a o : Nat} {f : Nat → Int32} {k : Nat × Nat × Nat} (h : k ≠ (r, a, o)) : cE cI cS ad (mrow μ r a o f) k = cE cI cS ad μ k := by
  unfold cE gfv
  rw [mrow_ne h]
theorem wl_row {cI cS : ClassId} {ad : Nat → Nat → Nat → Nat} {μ : Mem} {r a o : Nat} {f : Nat → Int32} {q0 : Nat} (hq : keys[q0]? = some (r, a, o)) : (wl cI cS ad μ).set q0 (ad r a o, cE cI cS ad (mrow μ r a o f) (r, a, o)) = wl cI cS ad (mrow μ r a o f) := wl_set hq (fun k' hk' => cE_ne hk')
theorem wl_mset {cI cS : ClassId} {ad : Nat → Nat → Nat → Nat} {μ : Mem} {r a o i : Nat} {v : Int32} {q0 : Nat} (hq : keys[q0]? = some (r, a, o)) : (wl cI cS ad μ).set q0 (ad r a o, cE cI cS ad (mset μ r a o i v) (r, a, o)) = wl cI cS ad (mset μ r a o i v) := wl_row hq
theorem nest_on {w : Cond} (h : isNest w = true) : w.onTables = true := by
  unfold isNest at h
  split at h
  · rfl
  · cases h
theorem wl_D {cI cS : ClassId} {ad : Nat → Nat → Nat → Nat} {μ : Mem} (hi : Inj ad) : va_D (A0 ad) (wl cI cS ad μ) := by
  constructor
  · intro i j p q hp hq hpq
    unfold wl at hp hq
    rw [List.getElem?_map] at hp hq
    cases h1 : keys[i]? with
    | none => rw [h1] at hp; cases hp
    | some k1 =>
      cases h2 : keys[j]? with
      | none => rw [h2] at hq; cases hq
      | some k2 =>
        rw [h1] at hp; rw [h2] at hq
        cases hp; cases hq
        have e := hi k1 (List.mem_of_getElem? h1) k2 (List.mem_of_getElem? h2) hpq
        subst e
        exact nd_inj keys_nd h1 h2
  · intro i q hq
    unfold wl at hq
    rw [List.getElem?_map] at hq
    cases h1 : keys[i]? with
    | none => rw [h1] at hq; cases hq
    | some k1 =>
      rw [h1] at hq; cases hq
      exact ⟨k1, List.mem_of_getElem? h1, rfl⟩
theorem cls_at {c : Nat} (h : c < 10) : cls10[c]? = some ((clT c).1, (clT c).2.1, (clT c).2.2) := by
  unfold clT
  rw [List.getD_eq_getElem?_getD]
  have hl : c < cls10.length := h
  rw [List.getElem?_eq_getElem hl]
  rfl
theorem key_of {r a o : Nat} (h : okr r a o) (hk : ¬ kc a = 12) : (r, a, o) ∈ keys := by
  rcases h with h | ⟨-, h | h, -⟩
  · exact h
  · subst h; exact absurd (by decide) hk
  · subst h; exact absurd (by decide) hk
theorem cE_arr {cI cS : ClassId} {ad : Nat → Nat → Nat → Nat} {μ : Mem} {r a o : Nat} (h : kc a = 10) : cE cI cS ad μ (r, a, o) = .inl (cI, al a, .inl (μ r a o)) := by
  unfold cE; rw [if_pos h]
theorem cE_svc {cI cS : ClassId} {ad : Nat → Nat → Nat → Nat} {μ : Mem} {r a o : Nat} (h : kc a = 11) : cE cI cS ad μ (r, a, o) = .inl (cS, 6, .inr (.inr (.inr (.inr (fun i => some (ad r (a + 1) i)))))) := by
  unfold cE; rw [if_neg (by show ¬ kc a = 10; rw [h]; decide), if_pos h]
theorem cE_obj {cI cS : ClassId} {ad : Nat → Nat → Nat → Nat} {μ : Mem} {r a o : Nat} (h : kc a < 10) : cE cI cS ad μ (r, a, o) = .inr (kc a, (List.range (cN (kc a))).map (fun j => vl ad (gfv (kc a) j r a o μ))) := by
  unfold cE; rw [if_neg (by show ¬ kc a = 10; omega), if_neg (by show ¬ kc a = 11; omega)]
/-- the locals -/
def LR (ad : Nat → Nat → Nat → Nat) (nL : Nat) (ls : Array Slot) (L : Lc) : Prop := lv_has ls nL [] ∧ L.length = nL ∧ ∀ (i : Nat) (v : AV), L[i]? = some (some v) → ls[i]? = some (.val (vl ad v))
def prs (ad : Nat → Nat → Nat → Nat) (L : Lc) : List (Nat × Value) := (List.range L.length).filterMap fun i => (L[i]?.join).map fun v => (i, vl ad v)
theorem prs_mem {ad : Nat → Nat → Nat → Nat} {L : Lc} {q : Nat × Value} : q ∈ prs ad L ↔ ∃ v, L[q.1]? = some (some v) ∧ q.2 = vl ad v := by
  unfold prs
  rw [List.mem_filterMap]
  constructor
  · rintro ⟨i, hi, h⟩
    obtain ⟨v, h1, h2⟩ := Option.map_eq_some_iff.mp h
    subst h2
    exact ⟨v, Option.join_eq_some_iff.mp h1, rfl⟩
  · rintro ⟨v, h1, h2⟩
    refine ⟨q.1, List.mem_range.mpr ((List.getElem?_eq_some_iff.mp h1).1), Option.map_eq_some_iff.mpr ⟨v, by rw [h1]; rfl, ?_⟩⟩
    rw [← h2]
theorem LR.has {ad : Nat → Nat → Nat → Nat} {nL : Nat} {ls : Array Slot} {L : Lc} (h : LR ad nL ls L) : lv_has ls nL (prs ad L) := by
  refine ⟨h.1.1, h.1.2.1, fun q hq => ?_⟩
  obtain ⟨v, h1, h2⟩ := prs_mem.mp hq
  rw [h2]
  exact h.2.2 _ _ h1
theorem LR.store {ad : Nat → Nat → Nat → Nat} {nL i : Nat} {ls ls' : Array Slot} {L : Lc} {v : AV} (h : LR ad nL ls L) (hi : i < L.length) (hl : lv_has ls' nL ((i, vl ad v) :: (prs ad L).filter (fun q => !(q.1 == i) && !(q.1 + 1 == i && q.2.category == 2)))) : LR ad nL ls' (L.set i (some v)) := by
  refine ⟨⟨hl.1, hl.2.1, fun q hq => by cases hq⟩, by rw [List.length_set]; exact h.2.1, fun j w hw => ?_⟩
  rw [List.getElem?_set] at hw
  by_cases hj : i = j
  · subst hj
    rw [if_pos rfl, if_pos hi] at hw
    cases hw
    exact hl.2.2 (i, vl ad v) List.mem_cons_self
  · rw [if_neg hj] at hw
    refine hl.2.2 (j, vl ad w) (List.mem_cons_of_mem _ (List.mem_filter.mpr ⟨prs_mem.mpr ⟨w, hw, rfl⟩, ?_⟩))
    have h1 : (j == i) = false := by simp; exact fun e => hj e.symm
    simp [h1, vl_cat]
theorem LR.set_len {ad : Nat → Nat → Nat → Nat} {nL : Nat} {ls : Array Slot} {L : Lc} (h : LR ad nL ls L) {k : Nat} (hk : k < L.length) : k < nL := h.2.1 ▸ hk
theorem okL_set {L : Lc} {i : Nat} {v : AV} (h : ∀ (j : Nat) (w : AV), L[j]? = some (some w) → okv w) (hv : okv v) : ∀ (j : Nat) (w : AV), (L.set i (some v))[j]? = some (some w) → okv w := by
  intro j w hw
  rw [List.getElem?_set] at hw
  by_cases hj : i = j
  · rw [if_pos hj] at hw
    by_cases hl : i < L.length
    · rw [if_pos hl] at hw; cases hw; exact hv
    · rw [if_neg hl] at hw; cases hw
  · rw [if_neg hj] at hw; exact h j w hw
theorem look_mem {α : Type} {l : List (Nat × α)} {i : Nat} {x : α} (h : List.lookup i l = some x) : (i, x) ∈ l := by
  induction l with
  | nil => cases h
  | cons q l ih =>
    obtain ⟨j, z⟩ := q
    rw [List.lookup_cons] at h
    by_cases hj : i == j
    · rw [hj] at h
      cases h
      rw [beq_iff_eq] at hj
      rw [hj]
      exact List.mem_cons_self
    · rw [Bool.not_eq_true] at hj
      rw [hj] at h
      exact List.mem_cons_of_mem _ (ih h)
theorem mO_lt (y : Nat) : mO y < 13 := by
  unfold mO
  by_cases h : y < mOs.length
  · rw [List.getD_eq_getElem?_getD, List.getElem?_eq_getElem h]
    have : ∀ x ∈ mOs, x < 13 := by decide +kernel
    exact this _ (List.getElem_mem h)
  · rw [List.getD_eq_getElem?_getD, List.getElem?_eq_none (by omega)]
    decide
theorem fT_spec {w i c j q : Nat} {b : Bool} (hw : w < 13) (h : fT w i = some (c, j, b, q)) : lw_tbl[q]? = some (if b then .fieldLinkNest (ow w) i ((clT c).2.1 j).1 ((clT c).2.1 j).2.1 ((clT c).2.1 j).2.2.1 (hostOf c) else .fieldLink (ow w) i ((clT c).2.1 j).1 ((clT c).2.1 j).2.1 ((clT c).2.1 j).2.2.1) ∧ c < 10 ∧ j < cN c := by
  have h1 := List.all_eq_true.mp (chkF_ok w hw) (i, c, j, b, q) (look_mem h)
  unfold chkF at h1
  simp only [Bool.and_eq_true, beq_iff_eq, decide_eq_true_eq] at h1
  exact ⟨h1.1.1, h1.1.2, h1.2⟩
theorem cT_spec {w i z q : Nat} (hw : w < 13) (h : cT w i = some (z, q)) (hz : ¬ z = 900) : lw_tbl[q]? = some (.methodLink (ow w) i (mN z)) ∧ z < 131 := by
  have h1 := List.all_eq_true.mp (chkC_ok w hw) (i, z, q) (look_mem h)
  unfold chkC at h1
  rw [if_neg hz] at h1
  simp only [Bool.and_eq_true, beq_iff_eq, decide_eq_true_eq] at h1
  exact h1
theorem cT_cpy {w i q : Nat} (hw : w < 13) (h : cT w i = some (900, q)) : lw_tbl[q]? = some (.methodLink (ow w) i arraycopyName) := by
  have h1 := List.all_eq_true.mp (chkC_ok w hw) (i, 900, q) (look_mem h)
  unfold chkC at h1
  rw [if_pos rfl] at h1
  simp only [beq_iff_eq] at h1
  exact h1
theorem fld_in {c : Nat} (hc : c < 10) : ∃ ty0 : Nat → FieldType, (∀ k, k < (clT c).2.2 → parseFieldDescriptor ((clT c).2.1 k).2.2.1 = some (ty0 k)) ∧ ∀ a, a < (clT c).2.2 → ∀ b, b < (clT c).2.2 → a ≠ b → ((clT c).2.1 a).2.1 ≠ ((clT c).2.1 b).2.1 := by
  match c, hc with
  | 0, _ => exact ⟨tyX0, tyX0_ok, nmX0⟩
  | 1, _ => exact ⟨tyX1, tyX1_ok, nmX1⟩
  | 2, _ => exact ⟨tyX2, tyX2_ok, nmX2⟩
  | 3, _ => exact ⟨tyX3, tyX3_ok, nmX3⟩
  | 4, _ => exact ⟨tyX4, tyX4_ok, nmX4⟩
  | 5, _ => exact ⟨tyX5, tyX5_ok, nmX5⟩
  | 6, _ => exact ⟨tyX6, tyX6_ok, nmX6⟩
  | 7, _ => exact ⟨tyX7, tyX7_ok, nmX7⟩
  | 8, _ => exact ⟨tyX8, tyX8_ok, nmX8⟩
  | 9, _ => exact ⟨tyX9, tyX9_ok, nmX9⟩
  | k + 10, h => exact absurd h (by omega)
theorem ty_in {c j : Nat} (hc : c < 10) (hj : j < cN c) (hk : fk c j = none) : parseFieldDescriptor ((clT c).2.1 j).2.2.1 = some (tyF c j) ∧ ((clT c).2.1 j).2.2.2 = false := by
  have h1 := List.all_eq_true.mp chkT_ok c (List.mem_range.mpr hc)
  have h2 := List.all_eq_true.mp h1 j (List.mem_range.mpr hj)
  unfold chkT at h2
  rw [hk] at h2
  simpa only [Bool.and_eq_true, beq_iff_eq] using h2
theorem mem_G {w : Cond} {q : Nat} (h : lw_tbl[q]? = some w) (hg : goodWord w = true) : w ∈ tblG := List.mem_filter.mpr ⟨List.mem_of_getElem? h, hg⟩
theorem good_G : ∀ w ∈ tblG, w ∈ tblG ∧ ((w.onTables && w.keeps) = true ∨ ∃ ty, w = .arrayClass ty) := fun w h => ⟨h, good_of_word (List.mem_filter.mp h).2⟩
end
section
/-! THE ABSTRACT MACHINE IS SOUND, 2: every step -/
section SN2
variable {p : Program} {l : Launch} {e : Env} {R : Room} {s : State} {m : MethodId} {args : Array Value} {below : List Frame} {meth : Method} {c : Code} {H : Heap} {locs : List Loc} {cells slots : Nat} {Q : State → Prop}
variable {dC : Nat → ClassId} {dI : Nat → Nat → Nat} {cI cS : ClassId} {ad : Nat → Nat → Nat → Nat} {μ : Mem} {y d pc : Nat} {ls : Array Slot} {rest : List Value}
/-- what stands fast during a method's run -/
def Cx (dC : Nat → ClassId) (dI : Nat → Nat → Nat) (cI cS : ClassId) (ad : Nat → Nat → Nat → Nat) (p : Program) (R : Room) (s : State) (m : MethodId) (args : Array Value) (c : Code) (cells slots d y : Nat) : Prop :=
  p.tables.exec = Jvm.exec ∧ c.code = mB y ∧ c.maxLocals = mL y ∧ s.vm.findClass (ow (mO y)) = some m.cls ∧ (∀ w ∈ tblG, w.before args s = true) ∧ Wst dC dI cI cS ad s ∧ d + 1 ≤ R.frames ∧ 64 * d + 64 ≤ R.locals ∧ cells ≤ R.cells ∧ slots ≤ R.slots
theorem gf_at {c j : Nat} (hj : j < cN c) {r a o : Nat} : ((List.range (cN c)).map (fun j => vl ad (gfv c j r a o μ)))[j]? = some (vl ad (gfv c j r a o μ)) := by
  rw [List.getElem?_map, List.getElem?_range hj]; rfl
theorem sn_get (X : Cx dC dI cI cS ad p R s m args c cells slots d y) (hP : va_P (dC, dI) cls10 (wl cI cS ad μ) H) {x r a o k j q : Nat} {b : Bool} (hd : decode (mB y) pc = .ok (.getfield x, 3)) (hf : fT (mO y) x = some (k, j, b, q)) (hk : kc a = k) (hr : okr r a o)
    (kk : okv (gfv k j r a o μ) → W p l e R s m args below meth c H locs cells slots Q (F0 m (pc + 3) ls (vl ad (gfv k j r a o μ) :: rest))) : W p l e R s m args below meth c H locs cells slots Q (F0 m pc ls (.ref (ad r a o) :: rest)) := by
  obtain ⟨hx, hb, hml, hown, hts, hW, -⟩ := X
  obtain ⟨h1, hc, hj⟩ := fT_spec (mO_lt y) hf
  subst hk
  have hkey : (r, a, o) ∈ keys := key_of hr (by omega)
  obtain ⟨q0, hq, he⟩ := wl_at (cI := cI) (cS := cS) (ad := ad) (μ := μ) hkey
  rw [cE_obj hc] at he
  have hok : okv (gfv (kc a) j r a o μ) := by
    have h2 := keys_chk hkey
    unfold chkK at h2
    simp only [Bool.and_eq_true, Bool.or_eq_true, decide_eq_true_eq, List.all_eq_true, List.mem_range] at h2
    rcases h2.1 with (h3 | h3) | h3
    · omega
    · omega
    · have h4 := h3.2 j hj
      unfold gfv
      cases hfk : fk (kc a) j with
      | none => exact True.intro
      | some z =>
        rw [hfk] at h4
        exact Or.inl (by simpa using h4)
  cases b with
  | false =>
    exact va_get (D := (dC, dI)) (ci := kc a) (v := vl ad (gfv (kc a) j r a o μ)) hx hb hts (lays_in (kc a) hc) hown hW.1 hP q0 he (cls_at hc) j hj (hts _ (mem_G h1 rfl)) (fun _ h => h) (gf_at hj) hd (kk hok)
  | true =>
    exact va_getN (D := (dC, dI)) (ci := kc a) (v := vl ad (gfv (kc a) j r a o μ)) hx hb hts (lays_in (kc a) hc) hown hW.1 hP q0 he (cls_at hc) j hj (va_Nw.use rfl (hW.2.2.2.2.2 _ (List.mem_of_getElem? h1) rfl)) (fun _ h => h) (gf_at hj) hd (kk hok)
theorem gf_set {c j : Nat} (hj : j < cN c) (hk : fk c j = none) {r a o : Nat} {v : Int32} : ((List.range (cN c)).map (fun j => vl ad (gfv c j r a o μ))).set j (.int v) = (List.range (cN c)).map (fun i => vl ad (gfv c i r a o (mset μ r a o j v))) := by
  apply List.ext_getElem?
  intro i
  rw [List.getElem?_set]
  by_cases hi : j = i
  · subst hi
    rw [if_pos rfl, List.length_map, List.length_range, if_pos hj, List.getElem?_map, List.getElem?_range hj]
    show some _ = some (vl ad _)
    unfold gfv
    rw [hk]
    show some (Value.int v) = some (.int (mset μ r a o j v r a o j))
    unfold mset
    rw [mrow_self, va_up_self]
  · rw [if_neg hi, List.getElem?_map, List.getElem?_map]
    by_cases hl : i < cN c
    · rw [List.getElem?_range hl]
      show some (vl ad _) = some (vl ad _)
      unfold gfv
      cases hfk : fk c i with
      | none =>
        show some (Value.int _) = some (.int (mset μ r a o j v r a o i))
        unfold mset
        rw [mrow_self, va_up_ne _ _ (fun e => hi e.symm)]
      | some z => rfl
    · rw [List.getElem?_eq_none (by rw [List.length_range]; omega)]
      rfl
theorem sn_put (X : Cx dC dI cI cS ad p R s m args c cells slots d y) (hP : va_P (dC, dI) cls10 (wl cI cS ad μ) H) (hS : va_S (A0 ad) s.heap H locs) {x r a o k j q : Nat} {b : Bool} {v : Int32} (hd : decode (mB y) pc = .ok (.putfield x, 3)) (hf : fT (mO y) x = some (k, j, b, q)) (hk : kc a = k) (hr : okr r a o) (hfk : fk k j = none) (hbz : bz k j = true → v = 0 ∨ v = 1)
    (kk : ∀ (H1 : Heap) (locs1 : List Loc), va_P (dC, dI) cls10 (wl cI cS ad (mset μ r a o j v)) H1 → va_S (A0 ad) s.heap H1 locs1 → W p l e R s m args below meth c H1 locs1 cells slots Q (F0 m (pc + 3) ls rest)) : W p l e R s m args below meth c H locs cells slots Q (F0 m pc ls (.int v :: .ref (ad r a o) :: rest)) := by
  obtain ⟨hx, hb, hml, hown, hts, hW, -⟩ := X
  obtain ⟨h1, hc, hj⟩ := fT_spec (mO_lt y) hf
  subst hk
  have hkey : (r, a, o) ∈ keys := key_of hr (by omega)
  obtain ⟨q0, hq, he⟩ := wl_at (cI := cI) (cS := cS) (ad := ad) (μ := μ) hkey
  rw [cE_obj hc] at he
  obtain ⟨ty0, hty, hnm⟩ := fld_in hc
  obtain ⟨hpd, hfin⟩ := ty_in hc hj hfk
  have hn : narrow (tyF (kc a) j) (.int v) = .int v ∧ fits (tyF (kc a) j) (.int v) = true := by
    unfold tyF
    cases hz : bz (kc a) j with
    | false => exact ⟨rfl, rfl⟩
    | true => rcases hbz hz with rfl | rfl <;> exact ⟨rfl, rfl⟩
  have hset : ∀ (H1 : Heap), va_P (dC, dI) cls10 ((wl cI cS ad μ).set q0 (ad r a o, .inr (kc a, ((List.range (cN (kc a))).map (fun j => vl ad (gfv (kc a) j r a o μ))).set j (.int v)))) H1 → va_P (dC, dI) cls10 (wl cI cS ad (mset μ r a o j v)) H1 := by
    intro H1 h
    rw [gf_set hj hfk, ← cE_obj (cI := cI) (cS := cS) hc, wl_mset hq] at h
    exact h
  cases b with
  | false =>
    exact va_put (D := (dC, dI)) (ci := kc a) hx hb hts (lays_in (kc a) hc) ty0 hty hnm hown hW.1 hP (wl_D hW.2.1) hS q0 he (cls_at hc) j hj (hts _ (mem_G h1 rfl)) (fun _ h => h) hfin hpd hn.1 hn.2 (by rw [List.length_map, List.length_range]; exact hj) hd (fun H1 locs1 h2 _ h4 => kk H1 locs1 (hset H1 h2) h4)
  | true =>
    exact va_putN (D := (dC, dI)) (ci := kc a) hx hb hts (lays_in (kc a) hc) ty0 hty hnm hown hW.1 hP (wl_D hW.2.1) hS q0 he (cls_at hc) j hj (va_Nw.use rfl (hW.2.2.2.2.2 _ (List.mem_of_getElem? h1) rfl)) (fun _ h => h) hfin hpd hn.1 hn.2 (by rw [List.length_map, List.length_range]; exact hj) hd (fun H1 locs1 h2 _ h4 => kk H1 locs1 (hset H1 h2) h4)
theorem sn_iald (X : Cx dC dI cI cS ad p R s m args c cells slots d y) (hP : va_P (dC, dI) cls10 (wl cI cS ad μ) H) {r a o : Nat} {i : Int32} (hd : decode (mB y) pc = .ok (.iaload, 1)) (hk : kc a = 10) (hr : okr r a o) (hin : vp_in i (al a))
    (kk : W p l e R s m args below meth c H locs cells slots Q (F0 m (pc + 1) ls (.int (μ r a o i.toNatClampNeg) :: rest))) : W p l e R s m args below meth c H locs cells slots Q (F0 m pc ls (.int i :: .ref (ad r a o) :: rest)) := by
  obtain ⟨hx, hb, hml, hown, hts, hW, -⟩ := X
  have hkey : (r, a, o) ∈ keys := key_of hr (by omega)
  obtain ⟨q0, hq, he⟩ := wl_at (cI := cI) (cS := cS) (ad := ad) (μ := μ) hkey
  rw [cE_arr hk] at he
  exact va_iald (D := (dC, dI)) hx hb hW.1 hP q0 0 he rfl hin hd kk
theorem sn_imld (X : Cx dC dI cI cS ad p R s m args c cells slots d y) (hS : va_S (A0 ad) s.heap H locs) {r a o : Nat} {i : Int32} (hd : decode (mB y) pc = .ok (.iaload, 1)) (hk : kc a = 12) (hr : okr r a o) (hin : vp_in i (al a))
    (kk : W p l e R s m args below meth c H locs cells slots Q (F0 m (pc + 1) ls (.int (imC a i.toNatClampNeg) :: rest))) : W p l e R s m args below meth c H locs cells slots Q (F0 m pc ls (.int i :: .ref (ad r a o) :: rest)) := by
  obtain ⟨hx, hb, hml, hown, hts, hW, -⟩ := X
  rcases hr with h | ⟨rfl, ha, rfl⟩
  · have h2 := keys_chk h
    unfold chkK at h2
    simp only [Bool.and_eq_true, Bool.or_eq_true, decide_eq_true_eq] at h2
    rcases h2.1 with (h3 | h3) | h3 <;> omega
  · have hal : al a = 10 := by rcases ha with rfl | rfl <;> decide
    rw [hal] at hin
    exact va_ti (f := fun i => .int (imC a i)) hx hb (hW.2.2.1 a ha) hS hin rfl hd kk
theorem sn_iast (X : Cx dC dI cI cS ad p R s m args c cells slots d y) (hP : va_P (dC, dI) cls10 (wl cI cS ad μ) H) (hS : va_S (A0 ad) s.heap H locs) {r a o : Nat} {i v : Int32} (hd : decode (mB y) pc = .ok (.iastore, 1)) (hk : kc a = 10) (hr : okr r a o) (hin : vp_in i (al a))
    (kk : ∀ (H1 : Heap) (locs1 : List Loc), va_P (dC, dI) cls10 (wl cI cS ad (mset μ r a o i.toNatClampNeg v)) H1 → va_S (A0 ad) s.heap H1 locs1 → W p l e R s m args below meth c H1 locs1 cells slots Q (F0 m (pc + 1) ls rest)) : W p l e R s m args below meth c H locs cells slots Q (F0 m pc ls (.int v :: .int i :: .ref (ad r a o) :: rest)) := by
  obtain ⟨hx, hb, hml, hown, hts, hW, -⟩ := X
  have hkey : (r, a, o) ∈ keys := key_of hr (by omega)
  obtain ⟨q0, hq, he⟩ := wl_at (cI := cI) (cS := cS) (ad := ad) (μ := μ) hkey
  rw [cE_arr hk] at he
  refine va_iast (D := (dC, dI)) hx hb hW.1 hP (wl_D hW.2.1) hS q0 0 he rfl hin hd (fun H1 locs1 h2 _ h4 => kk H1 locs1 ?_ h4)
  have h5 : (Sum.inl (cI, al a, Sum.inl (upd (μ r a o) i.toNatClampNeg v)) : va_E) = cE cI cS ad (mset μ r a o i.toNatClampNeg v) (r, a, o) := by
    rw [cE_arr hk]
    unfold mset
    rw [mrow_self]
    rfl
  rw [h5, wl_mset hq] at h2
  exact h2
theorem sn_aald (X : Cx dC dI cI cS ad p R s m args c cells slots d y) (hP : va_P (dC, dI) cls10 (wl cI cS ad μ) H) {r a o : Nat} {i : Int32} (hd : decode (mB y) pc = .ok (.aaload, 1)) (hk : kc a = 11) (hr : okr r a o) (hin : vp_in i 6)
    (kk : okr r (a + 1) i.toNatClampNeg → W p l e R s m args below meth c H locs cells slots Q (F0 m (pc + 1) ls (.ref (ad r (a + 1) i.toNatClampNeg) :: rest))) : W p l e R s m args below meth c H locs cells slots Q (F0 m pc ls (.int i :: .ref (ad r a o) :: rest)) := by
  obtain ⟨hx, hb, hml, hown, hts, hW, -⟩ := X
  have hkey : (r, a, o) ∈ keys := key_of hr (by omega)
  obtain ⟨q0, hq, he⟩ := wl_at (cI := cI) (cS := cS) (ad := ad) (μ := μ) hkey
  rw [cE_svc hk] at he
  have h2 := keys_chk hkey
  unfold chkK at h2
  simp only [Bool.and_eq_true, Bool.or_eq_true, decide_eq_true_eq, List.all_eq_true, List.mem_range] at h2
  have hlt : i.toNatClampNeg < 6 := Nat.not_le.mp fun q => hin (Or.inr q)
  have hok : okr r (a + 1) i.toNatClampNeg := by
    rcases h2.1 with (h3 | h3) | h3
    · omega
    · exact Or.inl (h3.2 _ hlt)
    · omega
  exact va_aldq (D := (dC, dI)) (C := RX5) hx hb hW.1 hP q0 1 he rfl hin hd (kk hok)
theorem sn_alen (X : Cx dC dI cI cS ad p R s m args c cells slots d y) (hP : va_P (dC, dI) cls10 (wl cI cS ad μ) H) {r a o : Nat} (hd : decode (mB y) pc = .ok (.arraylength, 1)) (hk : kc a = 10) (hr : okr r a o)
    (kk : W p l e R s m args below meth c H locs cells slots Q (F0 m (pc + 1) ls (.int (nI (al a)) :: rest))) : W p l e R s m args below meth c H locs cells slots Q (F0 m pc ls (.ref (ad r a o) :: rest)) := by
  obtain ⟨hx, hb, hml, hown, hts, hW, -⟩ := X
  have hkey : (r, a, o) ∈ keys := key_of hr (by omega)
  obtain ⟨q0, hq, he⟩ := wl_at (cI := cI) (cS := cS) (ad := ad) (μ := μ) hkey
  rw [cE_arr hk] at he
  exact va_alen (D := (dC, dI)) hx hb hW.1 hP q0 0 he (ty := .int) rfl rfl hd kk
theorem sn_cpy (X : Cx dC dI cI cS ad p R s m args c cells slots d y) (hlsz : ls.size = mL y) (hP : va_P (dC, dI) cls10 (wl cI cS ad μ) H) (hS : va_S (A0 ad) s.heap H locs) {x q r a o r' a' o' : Nat} {sp dp k : Int32} (hd : decode (mB y) pc = .ok (.invokestatic x, 3)) (hc : cT (mO y) x = some (900, q)) (hk : kc a = 10) (hk' : kc a' = 10) (hr : okr r a o) (hr' : okr r' a' o') (h1 : ¬ sp < 0) (h2 : ¬ dp < 0) (h3 : ¬ k < 0) (h4 : sp.toNatClampNeg + k.toNatClampNeg ≤ al a) (h5 : dp.toNatClampNeg + k.toNatClampNeg ≤ al a') (hl : (rest.map fun v => v.category).sum ≤ 8)
    (kk : ∀ (H1 : Heap) (locs1 : List Loc), va_P (dC, dI) cls10 (wl cI cS ad (mrow μ r' a' o' (va_cpy (μ r a o) (μ r' a' o') sp.toNatClampNeg dp.toNatClampNeg k.toNatClampNeg))) H1 → va_S (A0 ad) s.heap H1 locs1 → W p l e R s m args below meth c H1 locs1 cells slots Q (F0 m (pc + 3) ls rest)) : W p l e R s m args below meth c H locs cells slots Q (F0 m pc ls (.int k :: .int dp :: .ref (ad r' a' o') :: .int sp :: .ref (ad r a o) :: rest)) := by
  obtain ⟨hx, hb, hml, hown, hts, hW, hfr, hlo, -⟩ := X
  have hkey : (r, a, o) ∈ keys := key_of hr (by omega)
  obtain ⟨q0, hq, he⟩ := wl_at (cI := cI) (cS := cS) (ad := ad) (μ := μ) hkey
  rw [cE_arr hk] at he
  have hkey' : (r', a', o') ∈ keys := key_of hr' (by omega)
  obtain ⟨q1, hq1, he1⟩ := wl_at (cI := cI) (cS := cS) (ad := ad) (μ := μ) hkey'
  rw [cE_arr hk'] at he1
  have g1 : Cond.native arraycopyName ∈ tblG := mem_G (q := 290) rfl rfl
  have g2 : Cond.static arraycopyName ∈ tblG := mem_G (q := 289) rfl rfl
  have g3 : Cond.initialized "java/lang/System" ∈ tblG := mem_G (q := 66) rfl rfl
  have hnf : nativeFrameWords "java/lang/System" "arraycopy" 5 + 11 ≤ 56 := by decide +kernel
  refine va_copyi (D := (dC, dI)) hx hb (hml.trans hlsz.symm) hown (hts _ (mem_G (cT_cpy (mO_lt y) hc) rfl)) (hts _ g1) (hts _ g2) (hts _ g3) hW.1 hP (wl_D hW.2.1) hS q0 q1 0 0 he he1 rfl rfl rfl h1 h2 h3 h4 h5 (fun _ _ => rfl) (by omega) (by omega) hd (fun H1 locs1 h2 _ h4 => kk H1 locs1 ?_ h4)
  have h6 : (Sum.inl (cI, al a', Sum.inl (va_cpy (μ r a o) (μ r' a' o') sp.toNatClampNeg dp.toNatClampNeg k.toNatClampNeg)) : va_E) = cE cI cS ad (mrow μ r' a' o' (va_cpy (μ r a o) (μ r' a' o') sp.toNatClampNeg dp.toNatClampNeg k.toNatClampNeg)) (r', a', o') := by
    rw [cE_arr hk', mrow_self]
  rw [h6, wl_row hq1] at h2
  exact h2
theorem SP.blind {as : List Value} : FrameBlind (va_Pc as (SP dC dI cI cS ad μ)) := by
  intro a U g mk ⟨h1, h2, h3⟩
  obtain ⟨k1, k2, k3, k4, k5, k6⟩ := h3
  have al : U.vm.Alike (U.calling g mk a).vm := Vm.Alike.refl U.vm
  exact ⟨h1, h2, va_K.moved (u := U) (U := U.calling g mk a) al k1, k2, fun z hz => va_T.moved (u := U) (U := U.calling g mk a) al (k3 z hz), va_Z.moved (u := U) (U := U.calling g mk a) al k4, va_Z.moved (u := U) (U := U.calling g mk a) al k5, fun w hw hn => va_Nw.same (u := U) (nest_on hn) rfl (k6 w hw hn)⟩
theorem Wst.go {s U : State} (hS : va_S (A0 ad) s.heap H locs) (hU : U.heap = H) (hW : s.WarmedH U.vm) (h : Wst dC dI cI cS ad s) : Wst dC dI cI cS ad U := by
  obtain ⟨k1, k2, k3, k4, k5, k6⟩ := h
  have hk : ∀ q : Nat, q < s.heap.size → ¬ A0 ad q → U.heap[q]? = s.heap[q]? := fun q h1 h2 => by rw [hU]; exact hS.2.1 q h1 h2
  refine ⟨va_K.moved hW.alike k1, k2, fun z hz => (va_T.moved hW.alike (k3 z hz)).kept hk, (va_Z.moved hW.alike k4).kept hk, (va_Z.moved hW.alike k5).kept hk, fun w hw hn => ?_⟩
  have h0 := k6 w hw hn
  unfold isNest at hn
  split at hn
  · exact va_Nw.warmF hW h0
  · cases hn
theorem chkM_spec {z : Nat} (hz : z < 131) : ow (mO z) = (mN z).cls ∧ plainFor (mN z) = true ∧ (mN z).cls ≠ "java/lang/invoke/MethodHandle" ∧ (mN z).cls ≠ "java/lang/invoke/VarHandle" ∧ (parseMethodDescriptor (mN z).desc).map (fun d => d.parameters.length) = some (mK z) ∧ lw_tbl[mZ z]? = some (.initialized (mN z).cls) ∧ (if mS z then lw_tbl[mI z]? = some (.static (mN z)) else lw_tbl[mI z]? = some (.instanceMethod (mN z)) ∧ lw_tbl[mX z]? = some (.selects (mN z).cls (mN z) (mN z))) ∧ mL z ≤ 20 ∧ (mS z = false → mO z < 10) := by
  have h := chkM_ok z hz
  unfold chkM at h
  simp only [Bool.and_eq_true, beq_iff_eq, bne_iff_ne, decide_eq_true_eq] at h
  obtain ⟨⟨⟨⟨⟨⟨⟨⟨h1, h2⟩, h3⟩, h4⟩, h5⟩, h6⟩, h7⟩, h8⟩, h9⟩ := h
  refine ⟨h1, h2, h3, h4, h5, h6, ?_, h8, ?_⟩
  · cases hs : mS z with
    | true => rw [hs] at h7; simpa using h7
    | false => rw [hs] at h7; simpa using h7
  · intro hs
    rw [hs] at h9
    simpa using h9
theorem cb_of (X : Cx dC dI cI cS ad p R s m args c cells slots d y) {x z q : Nat} (hc : cT (mO y) x = some (z, q)) (hz : ¬ z = 900) : CallB R s args (ow (mO y)) x (mN z) (mB z) (mL z) (mR z) (wsU z) (rmd d) 0 0 (mK z) ∧ z < 131 := by
  obtain ⟨hx, hb, hml, hown, hts, hW, hfr, hlo, -⟩ := X
  obtain ⟨h1, h2⟩ := cT_spec (mO_lt y) hc hz
  obtain ⟨k1, k2, k3, k4, k5, k6, k7, k8, k9⟩ := chkM_spec h2
  refine ⟨callB_of (Ts := tblG) (mK z) hts ?_ rfl rfl rfl (hts _ (mem_G k6 rfl)) (hts _ (mem_G h1 rfl)) ⟨k3, k4, k5⟩ ⟨?_, ?_⟩, h2⟩
  · intro w hw
    rcases List.mem_cons.mp hw with rfl | hw
    · exact good_G _ (code_in h2)
    · exact good_G _ hw
  · show d + 1 ≤ R.frames; exact hfr
  · show 8 + (mL z + 11) + 64 * d ≤ R.locals; omega
theorem cat_sum (L : List AV) : ((L.map (vl ad)).map fun v => v.category).sum = L.length := by
  induction L with
  | nil => rfl
  | cons a L ih =>
    rw [List.map_cons, List.map_cons, List.sum_cons, ih, vl_cat, List.length_cons]; omega
theorem sn_after (hS : va_S (A0 ad) s.heap H locs) : (∀ q, q < H.size → A0 ad q → A0 ad q) ∧ ∀ q, A0 ad q → A0 ad q := ⟨fun _ _ h => h, fun _ h => h⟩
theorem sn_virV {C : Nat → List AV → Mem → Res → Prop} (hC : Snd l dC dI cI cS ad d C) (X : Cx dC dI cI cS ad p R s m args c cells slots d y) (hlsz : ls.size = mL y) (hP : va_P (dC, dI) cls10 (wl cI cS ad μ) H) (hS : va_S (A0 ad) s.heap H locs) {x z q r a o : Nat} {As S1 : List AV} {μ' : Mem} (hd : decode (mB y) pc = .ok (.invokevirtual x, 3)) (hc : cT (mO y) x = some (z, q)) (hz : ¬ z = 900) (hs : mS z = false) (hn : As.length = mK z) (hk : kc a = mO z) (hr : okr r a o) (hl : S1.length ≤ 8) (hAs : ∀ v ∈ As, okv v) (hcall : C z (.inr (r, a, o) :: As) μ (none, μ'))
    (kk : ∀ (H1 : Heap) (locs1 : List Loc), va_P (dC, dI) cls10 (wl cI cS ad μ') H1 → va_S (A0 ad) s.heap H1 locs1 → W p l e R s m args below meth c H1 locs1 cells slots Q (F0 m (pc + 3) ls (S1.map (vl ad)))) : W p l e R s m args below meth c H locs cells slots Q (F0 m pc ls ((As.reverse ++ .inr (r, a, o) :: S1).map (vl ad))) := by
  obtain ⟨hcb, hz2⟩ := cb_of X hc hz
  obtain ⟨hx, hb, hml, hown, hts, hW, hfr, hlo, hce, hsl⟩ := X
  obtain ⟨k1, k2, k3, k4, k5, k6, k7, k8, k9⟩ := chkM_spec hz2
  rw [hs] at k7
  have k10 := k9 hs
  have hkey : (r, a, o) ∈ keys := key_of hr (by omega)
  obtain ⟨q0, hq, he⟩ := wl_at (cI := cI) (cS := cS) (ad := ad) (μ := μ) hkey
  rw [cE_obj (by omega)] at he
  have hM := hC z (.inr (r, a, o) :: As) μ (none, μ') hcall hz2 (fun v hv => (List.mem_cons.mp hv).elim (fun e => e ▸ hr) (hAs v))
  have hcl : (clT (mO z)).1 = (mN z).cls := by
    rw [← k1]
    have : ∀ k, k < 10 → (clT k).1 = ow k := by decide +kernel
    exact this _ k10
  have hrec := va_recv hW.1 hP (cls_at (c := kc a) (by omega)) he
  rw [hk] at hrec
  dsimp only at hrec
  rw [hcl] at hrec
  have hstk : (F0 m pc ls ((As.reverse ++ .inr (r, a, o) :: S1).map (vl ad))).stack = (As.map (vl ad)).reverse ++ .ref (ad r a o) :: S1.map (vl ad) := by
    show (As.reverse ++ .inr (r, a, o) :: S1).map (vl ad) = _
    rw [List.map_append, List.map_reverse]; rfl
  refine va_callv (va_runV (C := (mN z).cls) (nL := mL y) (As := As.map (vl ad)) (rest := S1.map (vl ad)) (b := ad r a o) ⟨hx, hb, hml, hown, hts⟩ hM ⟨hcb, hts _ (mem_G k7.1 rfl), hts _ (mem_G k7.2 rfl)⟩ ⟨SP.blind, hrec, fun U hU hWa => ⟨rfl, by rw [hU]; exact hP, hW.go hS hU hWa⟩⟩ rfl (by rw [List.length_map]; exact hn) hlsz hstk (lv_room (by rw [cat_sum]; exact hl)) hd ⟨by omega, by omega⟩) hS (sn_after hS).1 (sn_after hS).2 (fun u t H1 locs1 ht hvm hw hB hz1 hk1 hS1 => ?_)
  rw [ht] at hB
  exact kk H1 locs1 hB hS1
theorem sn_virI {C : Nat → List AV → Mem → Res → Prop} (hC : Snd l dC dI cI cS ad d C) (X : Cx dC dI cI cS ad p R s m args c cells slots d y) (hlsz : ls.size = mL y) (hP : va_P (dC, dI) cls10 (wl cI cS ad μ) H) (hS : va_S (A0 ad) s.heap H locs) {x z q r a o : Nat} {As S1 : List AV} {v : Int32} {μ' : Mem} (hd : decode (mB y) pc = .ok (.invokevirtual x, 3)) (hc : cT (mO y) x = some (z, q)) (hz : ¬ z = 900) (hs : mS z = false) (hn : As.length = mK z) (hk : kc a = mO z) (hr : okr r a o) (hl : S1.length ≤ 8) (hAs : ∀ v ∈ As, okv v) (hcall : C z (.inr (r, a, o) :: As) μ (some v, μ'))
    (kk : ∀ (H1 : Heap) (locs1 : List Loc), va_P (dC, dI) cls10 (wl cI cS ad μ') H1 → va_S (A0 ad) s.heap H1 locs1 → W p l e R s m args below meth c H1 locs1 cells slots Q (F0 m (pc + 3) ls (.int v :: S1.map (vl ad)))) : W p l e R s m args below meth c H locs cells slots Q (F0 m pc ls ((As.reverse ++ .inr (r, a, o) :: S1).map (vl ad))) := by
  obtain ⟨hcb, hz2⟩ := cb_of X hc hz
  obtain ⟨hx, hb, hml, hown, hts, hW, hfr, hlo, hce, hsl⟩ := X
  obtain ⟨k1, k2, k3, k4, k5, k6, k7, k8, k9⟩ := chkM_spec hz2
  rw [hs] at k7
  have k10 := k9 hs
  have hkey : (r, a, o) ∈ keys := key_of hr (by omega)
  obtain ⟨q0, hq, he⟩ := wl_at (cI := cI) (cS := cS) (ad := ad) (μ := μ) hkey
  rw [cE_obj (by omega)] at he
  have hM := hC z (.inr (r, a, o) :: As) μ (some v, μ') hcall hz2 (fun v hv => (List.mem_cons.mp hv).elim (fun e => e ▸ hr) (hAs v))
  have hcl : (clT (mO z)).1 = (mN z).cls := by
    rw [← k1]
    have : ∀ k, k < 10 → (clT k).1 = ow k := by decide +kernel
    exact this _ k10
  have hrec := va_recv hW.1 hP (cls_at (c := kc a) (by omega)) he
  rw [hk] at hrec
  dsimp only at hrec
  rw [hcl] at hrec
  have hstk : (F0 m pc ls ((As.reverse ++ .inr (r, a, o) :: S1).map (vl ad))).stack = (As.map (vl ad)).reverse ++ .ref (ad r a o) :: S1.map (vl ad) := by
    show (As.reverse ++ .inr (r, a, o) :: S1).map (vl ad) = _
    rw [List.map_append, List.map_reverse]; rfl
  refine va_calli (va_runV (C := (mN z).cls) (nL := mL y) (As := As.map (vl ad)) (rest := S1.map (vl ad)) (b := ad r a o) ⟨hx, hb, hml, hown, hts⟩ hM ⟨hcb, hts _ (mem_G k7.1 rfl), hts _ (mem_G k7.2 rfl)⟩ ⟨SP.blind, hrec, fun U hU hWa => ⟨rfl, by rw [hU]; exact hP, hW.go hS hU hWa⟩⟩ rfl (by rw [List.length_map]; exact hn) hlsz hstk (lv_room (by rw [cat_sum]; exact hl)) hd ⟨by omega, by omega⟩) hS (sn_after hS).1 (sn_after hS).2 (fun r1 u t H1 locs1 ht hvm hw hB hz1 hk1 hS1 => ?_)
  rw [ht] at hB
  subst hw
  exact kk H1 locs1 hB hS1
theorem sn_staV {C : Nat → List AV → Mem → Res → Prop} (hC : Snd l dC dI cI cS ad d C) (X : Cx dC dI cI cS ad p R s m args c cells slots d y) (hlsz : ls.size = mL y) (hP : va_P (dC, dI) cls10 (wl cI cS ad μ) H) (hS : va_S (A0 ad) s.heap H locs) {x z q : Nat} {As S1 : List AV} {μ' : Mem} (hd : decode (mB y) pc = .ok (.invokestatic x, 3)) (hc : cT (mO y) x = some (z, q)) (hz : ¬ z = 900) (hs : mS z = true) (hn : As.length = mK z) (hl : S1.length ≤ 8) (hAs : ∀ v ∈ As, okv v) (hcall : C z As μ (none, μ'))
    (kk : ∀ (H1 : Heap) (locs1 : List Loc), va_P (dC, dI) cls10 (wl cI cS ad μ') H1 → va_S (A0 ad) s.heap H1 locs1 → W p l e R s m args below meth c H1 locs1 cells slots Q (F0 m (pc + 3) ls (S1.map (vl ad)))) : W p l e R s m args below meth c H locs cells slots Q (F0 m pc ls ((As.reverse ++ S1).map (vl ad))) := by
  obtain ⟨hcb, hz2⟩ := cb_of X hc hz
  obtain ⟨hx, hb, hml, hown, hts, hW, hfr, hlo, hce, hsl⟩ := X
  obtain ⟨k1, k2, k3, k4, k5, k6, k7, k8, k9⟩ := chkM_spec hz2
  rw [hs] at k7
  have hM := hC z As μ (none, μ') hcall hz2 hAs
  have hstk : (F0 m pc ls ((As.reverse ++ S1).map (vl ad))).stack = (As.map (vl ad)).reverse ++ S1.map (vl ad) := by
    show (As.reverse ++ S1).map (vl ad) = _
    rw [List.map_append, List.map_reverse]
  refine va_callv (va_runS (nL := mL y) (As := As.map (vl ad)) (rest := S1.map (vl ad)) ⟨hx, hb, hml, hown, hts⟩ hM ⟨hcb, hts _ (mem_G k7 rfl)⟩ ⟨SP.blind, fun U hU hWa => ⟨rfl, by rw [hU]; exact hP, hW.go hS hU hWa⟩⟩ rfl (by rw [List.length_map]; exact hn) hlsz hstk (lv_room (by rw [cat_sum]; exact hl)) hd ⟨by omega, by omega⟩) hS (sn_after hS).1 (sn_after hS).2 (fun u t H1 locs1 ht hvm hw hB hz1 hk1 hS1 => ?_)
  rw [ht] at hB
  exact kk H1 locs1 hB hS1
theorem sn_staI {C : Nat → List AV → Mem → Res → Prop} (hC : Snd l dC dI cI cS ad d C) (X : Cx dC dI cI cS ad p R s m args c cells slots d y) (hlsz : ls.size = mL y) (hP : va_P (dC, dI) cls10 (wl cI cS ad μ) H) (hS : va_S (A0 ad) s.heap H locs) {x z q : Nat} {As S1 : List AV} {v : Int32} {μ' : Mem} (hd : decode (mB y) pc = .ok (.invokestatic x, 3)) (hc : cT (mO y) x = some (z, q)) (hz : ¬ z = 900) (hs : mS z = true) (hn : As.length = mK z) (hl : S1.length ≤ 8) (hAs : ∀ v ∈ As, okv v) (hcall : C z As μ (some v, μ'))
    (kk : ∀ (H1 : Heap) (locs1 : List Loc), va_P (dC, dI) cls10 (wl cI cS ad μ') H1 → va_S (A0 ad) s.heap H1 locs1 → W p l e R s m args below meth c H1 locs1 cells slots Q (F0 m (pc + 3) ls (.int v :: S1.map (vl ad)))) : W p l e R s m args below meth c H locs cells slots Q (F0 m pc ls ((As.reverse ++ S1).map (vl ad))) := by
  obtain ⟨hcb, hz2⟩ := cb_of X hc hz
  obtain ⟨hx, hb, hml, hown, hts, hW, hfr, hlo, hce, hsl⟩ := X
  obtain ⟨k1, k2, k3, k4, k5, k6, k7, k8, k9⟩ := chkM_spec hz2
  rw [hs] at k7
  have hM := hC z As μ (some v, μ') hcall hz2 hAs
  have hstk : (F0 m pc ls ((As.reverse ++ S1).map (vl ad))).stack = (As.map (vl ad)).reverse ++ S1.map (vl ad) := by
    show (As.reverse ++ S1).map (vl ad) = _
    rw [List.map_append, List.map_reverse]
  refine va_calli (va_runS (nL := mL y) (As := As.map (vl ad)) (rest := S1.map (vl ad)) ⟨hx, hb, hml, hown, hts⟩ hM ⟨hcb, hts _ (mem_G k7 rfl)⟩ ⟨SP.blind, fun U hU hWa => ⟨rfl, by rw [hU]; exact hP, hW.go hS hU hWa⟩⟩ rfl (by rw [List.length_map]; exact hn) hlsz hstk (lv_room (by rw [cat_sum]; exact hl)) hd ⟨by omega, by omega⟩) hS (sn_after hS).1 (sn_after hS).2 (fun r1 u t H1 locs1 ht hvm hw hB hz1 hk1 hS1 => ?_)
  rw [ht] at hB
  subst hw
  exact kk H1 locs1 hB hS1
theorem sn_gets (X : Cx dC dI cI cS ad p R s m args c cells slots d y) (hS : va_S (A0 ad) s.heap H locs) {x a : Nat} (hd : decode (mB y) pc = .ok (.getstatic x, 3)) (hg : gT (mO y) x = some a)
    (kk : okr 9 a 0 → W p l e R s m args below meth c H locs cells slots Q (F0 m (pc + 3) ls (.ref (ad 9 a 0) :: rest))) : W p l e R s m args below meth c H locs cells slots Q (F0 m pc ls rest) := by
  obtain ⟨hx, hb, hml, hown, hts, hW, -⟩ := X
  unfold gT at hg
  split at hg
  · rename_i hh
    cases hg
    rw [hh.1] at hown
    rw [hh.2] at hd
    exact va_gets hx hb hW.2.2.2.1 hS hown (hts _ (mem_G (q := 402) rfl rfl)) (fun _ h => h) hd (kk (Or.inr ⟨rfl, Or.inl rfl, rfl⟩))
  · split at hg
    · rename_i hh
      cases hg
      rw [hh.1] at hown
      rw [hh.2] at hd
      exact va_gets hx hb hW.2.2.2.2.1 hS hown (hts _ (mem_G (q := 404) rfl rfl)) (fun _ h => h) hd (kk (Or.inr ⟨rfl, Or.inr rfl, rfl⟩))
    · cases hg
set_option maxRecDepth 20000 in
theorem sn_ldc (X : Cx dC dI cI cS ad p R s m args c cells slots d y) {x : Nat} {v : Int32} (hd : decode (mB y) pc = .ok (.ldc x, 2)) (hg : lT (mO y) x = some v)
    (kk : W p l e R s m args below meth c H locs cells slots Q (F0 m (pc + 2) ls (.int v :: rest))) : W p l e R s m args below meth c H locs cells slots Q (F0 m pc ls rest) := by
  obtain ⟨hx, hb, hml, hown, hts, hW, -⟩ := X
  unfold lT at hg
  split at hg
  · rename_i hh
    cases hg
    rw [hh.1] at hown
    rw [hh.2] at hd
    exact lv_ldc hx hb hown (hts _ (mem_G (q := 426) rfl rfl)) hd kk
  · split at hg
    · rename_i hh
      cases hg
      rw [hh.1] at hown
      rw [hh.2] at hd
      exact lv_ldc hx hb hown (hts _ (mem_G (q := 927) rfl rfl)) hd kk
    · cases hg
end SN2
end
section
/-! THE ABSTRACT MACHINE IS SOUND, 3: a run, and every method at every depth -/
section SN3
variable {p : Program} {l : Launch} {e : Env} {R : Room} {s : State} {m : MethodId} {args : Array Value} {below : List Frame} {meth : Method} {c : Code} {cells slots : Nat} {Q : State → Prop}
variable {dC : Nat → ClassId} {dI : Nat → Nat → Nat} {cI cS : ClassId} {ad : Nat → Nat → Nat → Nat} {y d : Nat} {res : Res} {C : Nat → List AV → Mem → Res → Prop}
theorem okc {v : AV} {S : List AV} (h : okv v) (hS : ∀ w ∈ S, okv w) : ∀ w ∈ v :: S, okv w := fun w hw => (List.mem_cons.mp hw).elim (fun e => e ▸ h) (hS w)
theorem okt {v : AV} {S : List AV} (h : ∀ w ∈ v :: S, okv w) : ∀ w ∈ S, okv w := fun w hw => h w (List.mem_cons_of_mem _ hw)
theorem okh {v : AV} {S : List AV} (h : ∀ w ∈ v :: S, okv w) : okv v := h v List.mem_cons_self
theorem okap {A B : List AV} (h : ∀ w ∈ A.reverse ++ B, okv w) : (∀ w ∈ A, okv w) ∧ ∀ w ∈ B, okv w := ⟨fun w hw => h w (List.mem_append_left _ (List.mem_reverse.mpr hw)), fun w hw => h w (List.mem_append_right _ hw)⟩
set_option maxHeartbeats 2000000 in
theorem core (hC : Snd l dC dI cI cS ad d C) (X : Cx dC dI cI cS ad p R s m args c cells slots d y)
    (hretI : ∀ (pc : Nat) (ls : Array Slot) (H : Heap) (locs : List Loc) (v : Int32) (μ' : Mem), decode (mB y) pc = .ok (.ireturn, 1) → ¬ mR y = none → (mR y = some .boolean → v = 0 ∨ v = 1) → res = (some v, μ') → va_P (dC, dI) cls10 (wl cI cS ad μ') H → va_S (A0 ad) s.heap H locs → W p l e R s m args below meth c H locs cells slots Q (F0 m pc ls [.int v]))
    (hretV : ∀ (pc : Nat) (ls : Array Slot) (H : Heap) (locs : List Loc) (μ' : Mem), decode (mB y) pc = .ok (.return_, 1) → mR y = none → res = (none, μ') → va_P (dC, dI) cls10 (wl cI cS ad μ') H → va_S (A0 ad) s.heap H locs → W p l e R s m args below meth c H locs cells slots Q (F0 m pc ls [])) :
    ∀ (n pc : Nat) (L : Lc) (S : List AV) (μ : Mem), Ev C y res n pc L S μ → ∀ (H : Heap) (locs : List Loc) (ls : Array Slot), LR ad (mL y) ls L → (∀ (i : Nat) (v : AV), L[i]? = some (some v) → okv v) → (∀ v ∈ S, okv v) → va_P (dC, dI) cls10 (wl cI cS ad μ) H → va_S (A0 ad) s.heap H locs → W p l e R s m args below meth c H locs cells slots Q (F0 m pc ls (S.map (vl ad))) := by
  intro n
  induction n with
  | zero => intro pc L S μ h; exact h.elim
  | succ n ih =>
    intro pc L S μ h H locs ls hL hoL hoS hP hS
    obtain ⟨i, k, hd, h⟩ := h
    have hx : p.tables.exec = Jvm.exec := X.1
    have hb : c.code = mB y := X.2.1
    cases i
    case iconst v =>
      obtain ⟨rfl, h⟩ := h
      exact lv_iconst hx hb hd rfl (ih _ _ _ _ h H locs ls hL hoL (okc True.intro hoS) hP hS)
    case bipush v =>
      obtain ⟨rfl, h⟩ := h
      exact lv_bipush hx hb hd rfl (ih _ _ _ _ h H locs ls hL hoL (okc True.intro hoS) hP hS)
    case sipush v =>
      obtain ⟨rfl, h⟩ := h
      exact lv_sipush hx hb hd rfl (ih _ _ _ _ h H locs ls hL hoL (okc True.intro hoS) hP hS)
    case ldc x =>
      obtain ⟨rfl, v, h1, h⟩ := h
      exact sn_ldc X hd h1 (ih _ _ _ _ h H locs ls hL hoL (okc True.intro hoS) hP hS)
    case iload_n x =>
      obtain ⟨rfl, v, h1, h⟩ := h
      exact lv_iload_n hx hb hd rfl (hL.2.2 _ _ h1) (ih _ _ _ _ h H locs ls hL hoL (okc True.intro hoS) hP hS)
    case iload x =>
      obtain ⟨rfl, v, h1, h⟩ := h
      exact lv_iload hx hb hd (hL.2.2 _ _ h1) (ih _ _ _ _ h H locs ls hL hoL (okc True.intro hoS) hP hS)
    case aload_n x =>
      obtain ⟨rfl, v, h1, h⟩ := h
      exact lv_aload_n hx hb hd rfl (hL.2.2 _ _ h1) (ih _ _ _ _ h H locs ls hL hoL (okc (hoL _ _ h1) hoS) hP hS)
    case aload x =>
      obtain ⟨rfl, v, h1, h⟩ := h
      exact lv_aload hx hb hd (hL.2.2 _ _ h1) (ih _ _ _ _ h H locs ls hL hoL (okc (hoL _ _ h1) hoS) hP hS)
    case istore_n x =>
      obtain ⟨rfl, v, S', rfl, h1, h⟩ := h
      exact lv_istore_n hx hb hd rfl hL.has (hL.set_len h1) rfl (fun ls' hl' => ih _ _ _ _ h H locs ls' (hL.store (v := .inl v) h1 hl') (okL_set hoL True.intro) (okt hoS) hP hS)
    case istore x =>
      obtain ⟨rfl, v, S', rfl, h1, h⟩ := h
      exact lv_istore hx hb hd hL.has (hL.set_len h1) rfl (fun ls' hl' => ih _ _ _ _ h H locs ls' (hL.store (v := .inl v) h1 hl') (okL_set hoL True.intro) (okt hoS) hP hS)
    case astore_n x =>
      obtain ⟨rfl, r, a, o, S', rfl, h1, h⟩ := h
      exact lv_astore_n hx hb hd rfl hL.has (hL.set_len h1) rfl (fun ls' hl' => ih _ _ _ _ h H locs ls' (hL.store (v := .inr (r, a, o)) h1 hl') (okL_set hoL (okh hoS)) (okt hoS) hP hS)
    case astore x =>
      obtain ⟨rfl, r, a, o, S', rfl, h1, h⟩ := h
      exact lv_astore hx hb hd hL.has (hL.set_len h1) rfl (fun ls' hl' => ih _ _ _ _ h H locs ls' (hL.store (v := .inr (r, a, o)) h1 hl') (okL_set hoL (okh hoS)) (okt hoS) hP hS)
    case iinc x v =>
      obtain ⟨rfl, w, h1, h⟩ := h
      have hlen : x < L.length := (List.getElem?_eq_some_iff.mp h1).1
      obtain ⟨kx, hkx⟩ := List.mem_iff_getElem?.mp (prs_mem.mpr ⟨.inl w, h1, rfl⟩ : (x, vl ad (.inl w)) ∈ prs ad L)
      exact lv_iinc hx hb hd hL.has hkx rfl (hL.set_len hlen) rfl (fun ls' hl' => ih _ _ _ _ h H locs ls' (hL.store (v := .inl _) hlen hl') (okL_set hoL True.intro) hoS hP hS)
    case iadd =>
      obtain ⟨rfl, b, S1, rfl, a, S2, rfl, h⟩ := h
      exact lv_iadd hx hb hd (ih _ _ _ _ h H locs ls hL hoL (okc True.intro (okt (okt hoS))) hP hS)
    case isub =>
      obtain ⟨rfl, b, S1, rfl, a, S2, rfl, h⟩ := h
      exact lv_isub hx hb hd (ih _ _ _ _ h H locs ls hL hoL (okc True.intro (okt (okt hoS))) hP hS)
    case imul =>
      obtain ⟨rfl, b, S1, rfl, a, S2, rfl, h⟩ := h
      exact lv_imul hx hb hd (ih _ _ _ _ h H locs ls hL hoL (okc True.intro (okt (okt hoS))) hP hS)
    case iand =>
      obtain ⟨rfl, b, S1, rfl, a, S2, rfl, h⟩ := h
      exact lv_iand hx hb hd (ih _ _ _ _ h H locs ls hL hoL (okc True.intro (okt (okt hoS))) hP hS)
    case ixor =>
      obtain ⟨rfl, b, S1, rfl, a, S2, rfl, h⟩ := h
      exact lv_ixor hx hb hd (ih _ _ _ _ h H locs ls hL hoL (okc True.intro (okt (okt hoS))) hP hS)
    case ishl =>
      obtain ⟨rfl, b, S1, rfl, a, S2, rfl, h⟩ := h
      exact lv_ishl hx hb hd (ih _ _ _ _ h H locs ls hL hoL (okc True.intro (okt (okt hoS))) hP hS)
    case irem =>
      obtain ⟨rfl, b, S1, rfl, a, S2, rfl, h0, h⟩ := h
      exact lv_irem hx hb hd h0 (ih _ _ _ _ h H locs ls hL hoL (okc True.intro (okt (okt hoS))) hP hS)
    case dup =>
      obtain ⟨rfl, v, S', rfl, h⟩ := h
      exact lv_dup hx hb hd (vl_cat _ _) (ih _ _ _ _ h H locs ls hL hoL (okc (okh hoS) hoS) hP hS)
    case dup2 =>
      obtain ⟨rfl, v, w, S', rfl, h⟩ := h
      exact lv_dup2_11 hx hb hd (vl_cat _ _) (vl_cat _ _) (ih _ _ _ _ h H locs ls hL hoL (okc (okh hoS) (okc (okh (okt hoS)) hoS)) hP hS)
    case pop =>
      obtain ⟨rfl, v, S', rfl, h⟩ := h
      exact lv_pop hx hb hd (vl_cat _ _) (ih _ _ _ _ h H locs ls hL hoL (okt hoS) hP hS)
    case if_icmp q z =>
      obtain ⟨rfl, b, S1, rfl, a, S2, rfl, t, ht, h1, h2⟩ := h
      have g1 := fun hh => ih _ _ _ _ (h1 hh) H locs ls hL hoL (okt (okt hoS)) hP hS
      have g2 := fun hh => ih _ _ _ _ (h2 hh) H locs ls hL hoL (okt (okt hoS)) hP hS
      cases q
      · exact lv_icmp_eq hx hb hd ht g1 g2
      · exact lv_icmp_ne hx hb hd ht g1 (fun hh => g2 (fun hn => hn hh))
      · exact lv_icmp_lt hx hb hd ht g1 g2
      · exact lv_icmp_ge hx hb hd ht g1 g2
      · exact lv_icmp_gt hx hb hd ht g1 g2
      · exact lv_icmp_le hx hb hd ht g1 g2
    case ifCond q z =>
      obtain ⟨rfl, a, S2, rfl, t, ht, h1, h2⟩ := h
      have g1 := fun hh => ih _ _ _ _ (h1 hh) H locs ls hL hoL (okt hoS) hP hS
      have g2 := fun hh => ih _ _ _ _ (h2 hh) H locs ls hL hoL (okt hoS) hP hS
      cases q
      · exact lv_if_eq hx hb hd ht g1 g2
      · exact lv_if_ne hx hb hd ht g1 (fun hh => g2 (fun hn => hn hh))
      · exact lv_if_lt hx hb hd ht g1 g2
      · exact lv_if_ge hx hb hd ht g1 g2
      · exact lv_if_gt hx hb hd ht g1 g2
      · exact lv_if_le hx hb hd ht g1 g2
    case goto z =>
      obtain ⟨rfl, t, ht, h⟩ := h
      exact lv_goto hx hb hd ht (ih _ _ _ _ h H locs ls hL hoL hoS hP hS)
    case tableswitch df lo hi offs =>
      obtain ⟨x, S1, rfl, h1, h2⟩ := h
      by_cases hlo : x.toInt < lo ∨ hi < x.toInt
      · obtain ⟨t, ht, h⟩ := h2 hlo
        exact lv_tableOut hx hb hd hlo ht (ih _ _ _ _ h H locs ls hL hoL (okt hoS) hP hS)
      · obtain ⟨z, t, hz, ht, h⟩ := h1 ⟨fun e => hlo (Or.inl e), fun e => hlo (Or.inr e)⟩
        exact lv_tableIn hx hb hd (fun e => hlo (Or.inl e)) (fun e => hlo (Or.inr e)) hz ht (ih _ _ _ _ h H locs ls hL hoL (okt hoS) hP hS)
    case lookupswitch df ps =>
      obtain ⟨x, S1, rfl, h1, t, ht, h⟩ := h
      exact lv_lookup hx hb hd h1 rfl ht (ih _ _ _ _ h H locs ls hL hoL (okt hoS) hP hS)
    case getfield x =>
      obtain ⟨rfl, r, a, o, S1, rfl, k, j, b, q, hf, hk, h⟩ := h
      exact sn_get X hP hd hf hk (okh hoS) (fun hok => ih _ _ _ _ h H locs ls hL hoL (okc hok (okt hoS)) hP hS)
    case putfield x =>
      obtain ⟨rfl, v, S0, rfl, r, a, o, S1, rfl, k, j, b, q, hf, hk, hfk, hbz, h⟩ := h
      exact sn_put X hP hS hd hf hk (okh (okt hoS)) hfk hbz (fun H1 locs1 hP1 hS1 => ih _ _ _ _ h H1 locs1 ls hL hoL (okt (okt hoS)) hP1 hS1)
    case iaload =>
      obtain ⟨rfl, x, S0, rfl, r, a, o, S1, rfl, hin, h1, h2⟩ := h
      by_cases hk : kc a = 10
      · exact sn_iald X hP hd hk (okh (okt hoS)) hin (ih _ _ _ _ (h1 hk) H locs ls hL hoL (okc True.intro (okt (okt hoS))) hP hS)
      · obtain ⟨hk2, h⟩ := h2 hk
        exact sn_imld X hS hd hk2 (okh (okt hoS)) hin (ih _ _ _ _ h H locs ls hL hoL (okc True.intro (okt (okt hoS))) hP hS)
    case iastore =>
      obtain ⟨rfl, v, S00, rfl, x, S0, rfl, r, a, o, S1, rfl, hk, hin, h⟩ := h
      exact sn_iast X hP hS hd hk (okh (okt (okt hoS))) hin (fun H1 locs1 hP1 hS1 => ih _ _ _ _ h H1 locs1 ls hL hoL (okt (okt (okt hoS))) hP1 hS1)
    case aaload =>
      obtain ⟨rfl, x, S0, rfl, r, a, o, S1, rfl, hk, hin, h⟩ := h
      exact sn_aald X hP hd hk (okh (okt hoS)) hin (fun hok => ih _ _ _ _ h H locs ls hL hoL (okc hok (okt (okt hoS))) hP hS)
    case arraylength =>
      obtain ⟨rfl, r, a, o, S1, rfl, hk, h⟩ := h
      exact sn_alen X hP hd hk (okh hoS) (ih _ _ _ _ h H locs ls hL hoL (okc True.intro (okt hoS)) hP hS)
    case getstatic x =>
      obtain ⟨rfl, a, hg, h⟩ := h
      exact sn_gets X hS hd hg (fun hok => ih _ _ _ _ h H locs ls hL hoL (okc hok hoS) hP hS)
    case invokevirtual x =>
      obtain ⟨rfl, z, q, hc, hz, hs, As, S0, hn, rfl, r, a, o, S1, rfl, hk, hl, h1, h2⟩ := h
      obtain ⟨o1, o2⟩ := okap hoS
      by_cases hr : mR z = none
      · obtain ⟨μ', hc1, h⟩ := h1 hr
        exact sn_virV hC X hL.1.1 hP hS hd hc hz hs hn hk (okh o2) hl o1 hc1 (fun H1 locs1 hP1 hS1 => ih _ _ _ _ h H1 locs1 ls hL hoL (okt o2) hP1 hS1)
      · obtain ⟨v, μ', hc1, h⟩ := h2 hr
        exact sn_virI hC X hL.1.1 hP hS hd hc hz hs hn hk (okh o2) hl o1 hc1 (fun H1 locs1 hP1 hS1 => ih _ _ _ _ h H1 locs1 ls hL hoL (okc True.intro (okt o2)) hP1 hS1)
    case invokestatic x =>
      obtain ⟨rfl, z, q, hc, h⟩ := h
      rcases h with ⟨rfl, k, S0, rfl, dp, S1, rfl, r', a', o', S2, rfl, sp, S3, rfl, r, a, o, S4, rfl, hk, hk', h1, h2, h3, h4, h5, hl, h⟩ | ⟨hz, hs, As, S1, hn, rfl, hl, h1, h2⟩
      · exact sn_cpy X hL.1.1 hP hS hd hc hk hk' (okh (okt (okt (okt (okt hoS))))) (okh (okt (okt hoS))) h1 h2 h3 h4 h5 (by rw [cat_sum]; exact hl) (fun H1 locs1 hP1 hS1 => ih _ _ _ _ h H1 locs1 ls hL hoL (okt (okt (okt (okt (okt hoS))))) hP1 hS1)
      · obtain ⟨o1, o2⟩ := okap hoS
        by_cases hr : mR z = none
        · obtain ⟨μ', hc1, h⟩ := h1 hr
          exact sn_staV hC X hL.1.1 hP hS hd hc hz hs hn hl o1 hc1 (fun H1 locs1 hP1 hS1 => ih _ _ _ _ h H1 locs1 ls hL hoL o2 hP1 hS1)
        · obtain ⟨v, μ', hc1, h⟩ := h2 hr
          exact sn_staI hC X hL.1.1 hP hS hd hc hz hs hn hl o1 hc1 (fun H1 locs1 hP1 hS1 => ih _ _ _ _ h H1 locs1 ls hL hoL (okc True.intro o2) hP1 hS1)
    case ireturn =>
      obtain ⟨rfl, v, rfl, h1, h2, h3⟩ := h
      exact hretI pc ls H locs v μ hd h2 h1 h3 hP hS
    case return_ =>
      obtain ⟨rfl, rfl, h1, h2⟩ := h
      exact hretV pc ls H locs μ hd h1 h2 hP hS
    all_goals exact False.elim h
theorem Met.ofW2 {y : MethodName} {ws ws' : List Cond} {rm : Room} {Pc : Array Value → State → Prop} {Qc : Array Value → State → Outcome → State → Prop} {mc ms : Nat} {free : Addr → Prop} {cc : ByteArray} {maxL : Nat} {ret : Option FieldType}
    (hy : plainFor y = true) (hw : ws = Cond.code y cc maxL ret :: ws')
    (body : ∀ p e s m args below meth c s₁, BodyLoose p l y (headSpec ws rm) cc maxL ret e s m args below meth c s₁ → c.maxLocals = maxL → Pc args s →
      W p l e (headSpec ws rm).room s m args below meth c s.heap [] 0 0 (MQ below Qc args s mc ms free) (entryFrame m args maxL)) : Met l y ws rm Pc Qc mc ms free := by
  refine MetFree.of_bodySF (code := cc) (maxLocals := maxL) (ret := ret) hy ?_ ?_
  · intro args s m h hn
    obtain ⟨meth, c, h1, h2, h3, h4, h5, h6, -, -⟩ := Cond.code_spec hn (atoms_spec (ws := ws) h _ (by rw [hw]; exact List.mem_cons_self))
    exact ⟨meth, c, h1, h2, h3, h4, h5, h6⟩
  · intro p e s m args below meth c s₁ B hml hP _
    have hh0 : s₁.heap = s.heap := by rw [B.state]; rfl
    obtain ⟨t, a1, o, b1, b2, b3⟩ := body p e s m args below meth c s₁ B hml hP s₁ hh0 (Stand.of_body B)
    exact ⟨t, o, a1, b1, b2, ⟨b3.1, b3.2⟩⟩
theorem lg_sl_map (as : List AV) : lg_sl (as.map (vl ad)) = as.map (fun v => Slot.val (vl ad v)) := by
  unfold lg_sl
  induction as with
  | nil => rfl
  | cons a as ih =>
    rw [List.map_cons, List.flatMap_cons, ih, if_neg (by rw [vl_cat]; decide)]
    rfl
theorem lc0_LR {n : Nat} {as : List AV} (h : as.length ≤ n) : LR ad n ((lg_sl (as.map (vl ad)) ++ List.replicate (n - (lg_sl (as.map (vl ad))).length) Slot.unset).toArray) (lc0 n as) := by
  have hl : (lg_sl (as.map (vl ad))).length ≤ n := by rw [lg_sl_map, List.length_map]; exact h
  have h0 := lv_entry (as.map (vl ad)) hl
  refine ⟨⟨h0.1, h0.2.1, fun q hq => by cases hq⟩, ?_, fun i v hv => ?_⟩
  · unfold lc0
    rw [List.length_append, List.length_map, List.length_replicate]; omega
  · unfold lc0 at hv
    rw [List.getElem?_append] at hv
    rw [List.getElem?_toArray, List.getElem?_append, lg_sl_map]
    rw [List.length_map] at hv ⊢
    by_cases hi : i < as.length
    · rw [if_pos hi] at hv ⊢
      rw [List.getElem?_map] at hv ⊢
      cases ha : as[i]? with
      | none => rw [ha] at hv; cases hv
      | some w => rw [ha] at hv; cases hv; rfl
    · rw [if_neg hi] at hv
      rw [List.getElem?_replicate] at hv
      split at hv <;> cases hv
theorem lc0_ok {n : Nat} {as : List AV} (h : ∀ v ∈ as, okv v) : ∀ (i : Nat) (v : AV), (lc0 n as)[i]? = some (some v) → okv v := by
  intro i v hv
  unfold lc0 at hv
  rw [List.getElem?_append] at hv
  rw [List.length_map] at hv
  by_cases hi : i < as.length
  · rw [if_pos hi, List.getElem?_map] at hv
    cases ha : as[i]? with
    | none => rw [ha] at hv; cases hv
    | some w => rw [ha] at hv; cases hv; exact h _ (List.mem_of_getElem? ha)
  · rw [if_neg hi, List.getElem?_replicate] at hv
    split at hv <;> cases hv
set_option maxHeartbeats 1000000 in
theorem sound (l : Launch) (dC : Nat → ClassId) (dI : Nat → Nat → Nat) (cI cS : ClassId) (ad : Nat → Nat → Nat → Nat) : ∀ d, Snd l dC dI cI cS ad d (M d) := by
  intro d
  induction d with
  | zero => intro z as μ res h; exact h.elim
  | succ d ih =>
    intro z as μ res h hz has
    obtain ⟨hlen, n, h⟩ := h
    obtain ⟨k1, k2, k3, k4, k5, k6, k7, k8, k9⟩ := chkM_spec hz
    refine Met.ofW2 (cc := mB z) (maxL := mL z) (ret := mR z) k2 rfl ?_
    intro p e s m args below meth c s₁ B hml hv
    obtain ⟨rfl, hP, hW⟩ := hv
    have hts := atoms_spec (ws := wsU z) B.pre
    have hown : s.vm.findClass (mN z).cls = some m.cls := findClass_of_methodNamed B.named
    have hlocks := B.notSynchronized
    have hr := B.returns
    have X : Cx dC dI cI cS ad p (headSpec (wsU z) (rmd (d + 1))).room s m (as.map (vl ad)).toArray c 0 0 d z :=
      ⟨B.exec, B.bytes, hml, by rw [k1]; exact hown, fun w hw => hts w (List.mem_cons_of_mem _ hw), hW, Nat.le_refl _, Nat.le_refl _, Nat.le_refl _, Nat.le_refl _⟩
    rw [lg_entry_eq]
    refine core (res := res) ih X ?_ ?_ n 0 _ [] μ h s.heap [] _ (lc0_LR hlen) (lc0_ok has) (fun v hv => by cases hv) hP va_S.rf
    · intro pc ls H locs v μ' hd hn hb e hP1 hS1
      subst e
      have hq : ∀ t : State, t.heap = H → s.WarmedH t.vm → Qm dC dI cI cS ad (some v, μ') (as.map (vl ad)).toArray s (.returned (some (.int v))) t := fun t ht hWt => ⟨⟨v, (), rfl, rfl, by show va_P _ _ _ t.heap; rw [ht]; exact hP1⟩, hS1.F ht⟩
      cases hR : mR z with
      | none => exact absurd hR hn
      | some ty =>
        have hty : narrow ty (.int v) = .int v := by
          have hall : ∀ y, y < 131 → mR y = none ∨ mR y = some .int ∨ mR y = some .boolean := by decide +kernel
          rcases hall z hz with h1 | h1 | h1
          · exact absurd h1 hn
          · rw [hR] at h1; cases h1; rfl
          · rcases hb h1 with rfl | rfl <;> (rw [hR] at h1; cases h1; rfl)
        exact W.zret B.exec B.bytes (hr.trans hR) hty hq hS1.2.2 hd
    · intro pc ls H locs μ' hd hn e hP1 hS1
      subst e
      exact W.vret B.exec B.bytes (hr.trans hn) (fun t ht hWt => ⟨⟨(), rfl, trivial, by show va_P _ _ _ t.heap; rw [ht]; exact hP1⟩, hS1.F ht⟩) hS1.2.2 hd
end SN3
end
