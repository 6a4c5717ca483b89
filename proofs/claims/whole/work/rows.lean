section
-- ===== PART A: goes FIRST, ahead of the names: the tables' words, and 'selects' of the private methods out of them =====
/-- a private method of a class that the tables say can be made, by its rows of tables_1 -/
def lw_okq (q : MethodName × Nat) : Prop := (q.1.cls ≠ "java/lang/invoke/MethodHandle" ∧ q.1.cls ≠ "java/lang/invoke/VarHandle") ∧ Cond.instantiable q.1.cls q.2 ∈ tables_1 ∧ Cond.privateMethod q.1 ∈ tables_1 ∧ Cond.instanceMethod q.1 ∈ tables_1
theorem lw_p0 : lw_okq (⟨"GroundReach$Steps", "countAll", "()V"⟩, 5) := ⟨⟨by decide +kernel, by decide +kernel⟩, List.mem_of_getElem? (i := 166) (by decide +kernel), List.mem_of_getElem? (i := 276) (by decide +kernel), List.mem_of_getElem? (i := 277) (by decide +kernel)⟩
theorem lw_p1 : lw_okq (⟨"GroundReach$Steps", "countIn", "(I)J"⟩, 5) := ⟨⟨by decide +kernel, by decide +kernel⟩, List.mem_of_getElem? (i := 166) (by decide +kernel), List.mem_of_getElem? (i := 289) (by decide +kernel), List.mem_of_getElem? (i := 290) (by decide +kernel)⟩
theorem lw_p2 : lw_okq (⟨"java/lang/Throwable", "fillInStackTrace", "(I)Ljava/lang/Throwable;"⟩, 6) := ⟨⟨by decide +kernel, by decide +kernel⟩, List.mem_of_getElem? (i := 397) (by decide +kernel), List.mem_of_getElem? (i := 395) (by decide +kernel), List.mem_of_getElem? (i := 396) (by decide +kernel)⟩
theorem lw_p3 : lw_okq (⟨"GroundReach$Terms", "joinedSize", "(III)I"⟩, 8) := ⟨⟨by decide +kernel, by decide +kernel⟩, List.mem_of_getElem? (i := 27) (by decide +kernel), List.mem_of_getElem? (i := 437) (by decide +kernel), List.mem_of_getElem? (i := 438) (by decide +kernel)⟩
theorem lw_p4 : lw_okq (⟨"GroundReach$Relations", "findReached", "()V"⟩, 8) := ⟨⟨by decide +kernel, by decide +kernel⟩, List.mem_of_getElem? (i := 115) (by decide +kernel), List.mem_of_getElem? (i := 506) (by decide +kernel), List.mem_of_getElem? (i := 507) (by decide +kernel)⟩
theorem lw_p5 : lw_okq (⟨"GroundReach$Relations", "chain", "(I)V"⟩, 8) := ⟨⟨by decide +kernel, by decide +kernel⟩, List.mem_of_getElem? (i := 115) (by decide +kernel), List.mem_of_getElem? (i := 519) (by decide +kernel), List.mem_of_getElem? (i := 520) (by decide +kernel)⟩
theorem lw_p6 : lw_okq (⟨"GroundReach$Relations", "liftFromParts", "([JI)Z"⟩, 8) := ⟨⟨by decide +kernel, by decide +kernel⟩, List.mem_of_getElem? (i := 115) (by decide +kernel), List.mem_of_getElem? (i := 526) (by decide +kernel), List.mem_of_getElem? (i := 527) (by decide +kernel)⟩
theorem lw_p7 : lw_okq (⟨"GroundReach$Relations", "partsRelated", "([JII)Z"⟩, 8) := ⟨⟨by decide +kernel, by decide +kernel⟩, List.mem_of_getElem? (i := 115) (by decide +kernel), List.mem_of_getElem? (i := 530) (by decide +kernel), List.mem_of_getElem? (i := 531) (by decide +kernel)⟩
theorem lw_p8 : lw_okq (⟨"GroundReach$Relations", "findJoined", "()V"⟩, 8) := ⟨⟨by decide +kernel, by decide +kernel⟩, List.mem_of_getElem? (i := 115) (by decide +kernel), List.mem_of_getElem? (i := 553) (by decide +kernel), List.mem_of_getElem? (i := 554) (by decide +kernel)⟩
theorem lw_p9 : lw_okq (⟨"GroundReach$Relations", "inheritJoined", "(I)Z"⟩, 8) := ⟨⟨by decide +kernel, by decide +kernel⟩, List.mem_of_getElem? (i := 115) (by decide +kernel), List.mem_of_getElem? (i := 557) (by decide +kernel), List.mem_of_getElem? (i := 558) (by decide +kernel)⟩
theorem lw_p10 : lw_okq (⟨"GroundReach$Languages", "runFromParts", "()Z"⟩, 4) := ⟨⟨by decide +kernel, by decide +kernel⟩, List.mem_of_getElem? (i := 147) (by decide +kernel), List.mem_of_getElem? (i := 573) (by decide +kernel), List.mem_of_getElem? (i := 574) (by decide +kernel)⟩
theorem lw_p11 : lw_okq (⟨"GroundReach$Languages", "addStates", "(II)Z"⟩, 4) := ⟨⟨by decide +kernel, by decide +kernel⟩, List.mem_of_getElem? (i := 147) (by decide +kernel), List.mem_of_getElem? (i := 586) (by decide +kernel), List.mem_of_getElem? (i := 587) (by decide +kernel)⟩
theorem lw_p12 : lw_okq (⟨"GroundReach$Languages", "spread", "(Z)V"⟩, 4) := ⟨⟨by decide +kernel, by decide +kernel⟩, List.mem_of_getElem? (i := 147) (by decide +kernel), List.mem_of_getElem? (i := 605) (by decide +kernel), List.mem_of_getElem? (i := 606) (by decide +kernel)⟩
theorem lw_p13 : lw_okq (⟨"GroundReach$Languages", "passOn", "(Z)Z"⟩, 4) := ⟨⟨by decide +kernel, by decide +kernel⟩, List.mem_of_getElem? (i := 147) (by decide +kernel), List.mem_of_getElem? (i := 609) (by decide +kernel), List.mem_of_getElem? (i := 610) (by decide +kernel)⟩
theorem lw_p14 : lw_okq (⟨"GroundReach$Relations", "shrink", "(I)Z"⟩, 8) := ⟨⟨by decide +kernel, by decide +kernel⟩, List.mem_of_getElem? (i := 115) (by decide +kernel), List.mem_of_getElem? (i := 637) (by decide +kernel), List.mem_of_getElem? (i := 638) (by decide +kernel)⟩
theorem lw_p15 : lw_okq (⟨"GroundReach$Relations", "sizeWithLeastParts", "(I)I"⟩, 8) := ⟨⟨by decide +kernel, by decide +kernel⟩, List.mem_of_getElem? (i := 115) (by decide +kernel), List.mem_of_getElem? (i := 641) (by decide +kernel), List.mem_of_getElem? (i := 642) (by decide +kernel)⟩
def lw_privs_1 : List (MethodName × Nat) := [(⟨"GroundReach$Steps", "countAll", "()V"⟩, 5), (⟨"GroundReach$Steps", "countIn", "(I)J"⟩, 5), (⟨"java/lang/Throwable", "fillInStackTrace", "(I)Ljava/lang/Throwable;"⟩, 6), (⟨"GroundReach$Terms", "joinedSize", "(III)I"⟩, 8), (⟨"GroundReach$Relations", "findReached", "()V"⟩, 8), (⟨"GroundReach$Relations", "chain", "(I)V"⟩, 8), (⟨"GroundReach$Relations", "liftFromParts", "([JI)Z"⟩, 8), (⟨"GroundReach$Relations", "partsRelated", "([JII)Z"⟩, 8), (⟨"GroundReach$Relations", "findJoined", "()V"⟩, 8), (⟨"GroundReach$Relations", "inheritJoined", "(I)Z"⟩, 8), (⟨"GroundReach$Languages", "runFromParts", "()Z"⟩, 4), (⟨"GroundReach$Languages", "addStates", "(II)Z"⟩, 4), (⟨"GroundReach$Languages", "spread", "(Z)V"⟩, 4), (⟨"GroundReach$Languages", "passOn", "(Z)Z"⟩, 4), (⟨"GroundReach$Relations", "shrink", "(I)Z"⟩, 8), (⟨"GroundReach$Relations", "sizeWithLeastParts", "(I)I"⟩, 8)]
theorem lw_r1 : ∀ q ∈ lw_privs_1, lw_okq q := List.forall_mem_cons.mpr ⟨lw_p0, List.forall_mem_cons.mpr ⟨lw_p1, List.forall_mem_cons.mpr ⟨lw_p2, List.forall_mem_cons.mpr ⟨lw_p3, List.forall_mem_cons.mpr ⟨lw_p4, List.forall_mem_cons.mpr ⟨lw_p5, List.forall_mem_cons.mpr ⟨lw_p6, List.forall_mem_cons.mpr ⟨lw_p7, List.forall_mem_cons.mpr ⟨lw_p8, List.forall_mem_cons.mpr ⟨lw_p9, List.forall_mem_cons.mpr ⟨lw_p10, List.forall_mem_cons.mpr ⟨lw_p11, List.forall_mem_cons.mpr ⟨lw_p12, List.forall_mem_cons.mpr ⟨lw_p13, List.forall_mem_cons.mpr ⟨lw_p14, List.forall_mem_cons.mpr ⟨lw_p15, fun _ h => absurd h List.not_mem_nil⟩⟩⟩⟩⟩⟩⟩⟩⟩⟩⟩⟩⟩⟩⟩⟩
theorem lw_p16 : lw_okq (⟨"GroundReach$Automaton", "lighten", "(I)V"⟩, 8) := ⟨⟨by decide +kernel, by decide +kernel⟩, List.mem_of_getElem? (i := 84) (by decide +kernel), List.mem_of_getElem? (i := 659) (by decide +kernel), List.mem_of_getElem? (i := 660) (by decide +kernel)⟩
theorem lw_p17 : lw_okq (⟨"GroundReach$Steps", "rebuild", "(II)I"⟩, 5) := ⟨⟨by decide +kernel, by decide +kernel⟩, List.mem_of_getElem? (i := 166) (by decide +kernel), List.mem_of_getElem? (i := 694) (by decide +kernel), List.mem_of_getElem? (i := 695) (by decide +kernel)⟩
theorem lw_p18 : lw_okq (⟨"GroundReach$Levels", "start", "(I)V"⟩, 10) := ⟨⟨by decide +kernel, by decide +kernel⟩, List.mem_of_getElem? (i := 189) (by decide +kernel), List.mem_of_getElem? (i := 716) (by decide +kernel), List.mem_of_getElem? (i := 717) (by decide +kernel)⟩
theorem lw_p19 : lw_okq (⟨"GroundReach$Levels", "countWithParts", "(I)V"⟩, 10) := ⟨⟨by decide +kernel, by decide +kernel⟩, List.mem_of_getElem? (i := 189) (by decide +kernel), List.mem_of_getElem? (i := 723) (by decide +kernel), List.mem_of_getElem? (i := 724) (by decide +kernel)⟩
theorem lw_p20 : lw_okq (⟨"GroundReach$Levels", "findWaiting", "()I"⟩, 10) := ⟨⟨by decide +kernel, by decide +kernel⟩, List.mem_of_getElem? (i := 189) (by decide +kernel), List.mem_of_getElem? (i := 737) (by decide +kernel), List.mem_of_getElem? (i := 738) (by decide +kernel)⟩
theorem lw_p21 : lw_okq (⟨"GroundReach$Levels", "expand", "(I)V"⟩, 10) := ⟨⟨by decide +kernel, by decide +kernel⟩, List.mem_of_getElem? (i := 189) (by decide +kernel), List.mem_of_getElem? (i := 741) (by decide +kernel), List.mem_of_getElem? (i := 742) (by decide +kernel)⟩
theorem lw_p22 : lw_okq (⟨"GroundReach$Levels", "stepInPart", "(IIZ)V"⟩, 10) := ⟨⟨by decide +kernel, by decide +kernel⟩, List.mem_of_getElem? (i := 189) (by decide +kernel), List.mem_of_getElem? (i := 748) (by decide +kernel), List.mem_of_getElem? (i := 749) (by decide +kernel)⟩
theorem lw_p23 : lw_okq (⟨"GroundReach$Levels", "findCounted", "(III)I"⟩, 10) := ⟨⟨by decide +kernel, by decide +kernel⟩, List.mem_of_getElem? (i := 189) (by decide +kernel), List.mem_of_getElem? (i := 752) (by decide +kernel), List.mem_of_getElem? (i := 753) (by decide +kernel)⟩
theorem lw_p24 : lw_okq (⟨"GroundReach$Levels", "goOn", "()V"⟩, 10) := ⟨⟨by decide +kernel, by decide +kernel⟩, List.mem_of_getElem? (i := 189) (by decide +kernel), List.mem_of_getElem? (i := 758) (by decide +kernel), List.mem_of_getElem? (i := 759) (by decide +kernel)⟩
theorem lw_p25 : lw_okq (⟨"GroundReachModel", "isTerm", "(I)Z"⟩, 26) := ⟨⟨by decide +kernel, by decide +kernel⟩, List.mem_of_getElem? (i := 764) (by decide +kernel), List.mem_of_getElem? (i := 857) (by decide +kernel), List.mem_of_getElem? (i := 858) (by decide +kernel)⟩
theorem lw_p26 : lw_okq (⟨"GroundReachModel", "known", "(III)I"⟩, 26) := ⟨⟨by decide +kernel, by decide +kernel⟩, List.mem_of_getElem? (i := 764) (by decide +kernel), List.mem_of_getElem? (i := 861) (by decide +kernel), List.mem_of_getElem? (i := 862) (by decide +kernel)⟩
theorem lw_p27 : lw_okq (⟨"GroundReachModel", "make", "(III)I"⟩, 26) := ⟨⟨by decide +kernel, by decide +kernel⟩, List.mem_of_getElem? (i := 764) (by decide +kernel), List.mem_of_getElem? (i := 865) (by decide +kernel), List.mem_of_getElem? (i := 866) (by decide +kernel)⟩
theorem lw_p28 : lw_okq (⟨"GroundReachModel", "size", "(I)I"⟩, 26) := ⟨⟨by decide +kernel, by decide +kernel⟩, List.mem_of_getElem? (i := 764) (by decide +kernel), List.mem_of_getElem? (i := 873) (by decide +kernel), List.mem_of_getElem? (i := 874) (by decide +kernel)⟩
theorem lw_p29 : lw_okq (⟨"GroundReachModel", "steps", "(I)I"⟩, 26) := ⟨⟨by decide +kernel, by decide +kernel⟩, List.mem_of_getElem? (i := 764) (by decide +kernel), List.mem_of_getElem? (i := 882) (by decide +kernel), List.mem_of_getElem? (i := 883) (by decide +kernel)⟩
theorem lw_p30 : lw_okq (⟨"GroundReachModel", "lefts", "(I)I"⟩, 26) := ⟨⟨by decide +kernel, by decide +kernel⟩, List.mem_of_getElem? (i := 764) (by decide +kernel), List.mem_of_getElem? (i := 886) (by decide +kernel), List.mem_of_getElem? (i := 887) (by decide +kernel)⟩
theorem lw_p31 : lw_okq (⟨"GroundReachModel", "ask", "(II)Z"⟩, 26) := ⟨⟨by decide +kernel, by decide +kernel⟩, List.mem_of_getElem? (i := 764) (by decide +kernel), List.mem_of_getElem? (i := 913) (by decide +kernel), List.mem_of_getElem? (i := 914) (by decide +kernel)⟩
def lw_privs_2 : List (MethodName × Nat) := [(⟨"GroundReach$Automaton", "lighten", "(I)V"⟩, 8), (⟨"GroundReach$Steps", "rebuild", "(II)I"⟩, 5), (⟨"GroundReach$Levels", "start", "(I)V"⟩, 10), (⟨"GroundReach$Levels", "countWithParts", "(I)V"⟩, 10), (⟨"GroundReach$Levels", "findWaiting", "()I"⟩, 10), (⟨"GroundReach$Levels", "expand", "(I)V"⟩, 10), (⟨"GroundReach$Levels", "stepInPart", "(IIZ)V"⟩, 10), (⟨"GroundReach$Levels", "findCounted", "(III)I"⟩, 10), (⟨"GroundReach$Levels", "goOn", "()V"⟩, 10), (⟨"GroundReachModel", "isTerm", "(I)Z"⟩, 26), (⟨"GroundReachModel", "known", "(III)I"⟩, 26), (⟨"GroundReachModel", "make", "(III)I"⟩, 26), (⟨"GroundReachModel", "size", "(I)I"⟩, 26), (⟨"GroundReachModel", "steps", "(I)I"⟩, 26), (⟨"GroundReachModel", "lefts", "(I)I"⟩, 26), (⟨"GroundReachModel", "ask", "(II)Z"⟩, 26)]
theorem lw_r2 : ∀ q ∈ lw_privs_2, lw_okq q := List.forall_mem_cons.mpr ⟨lw_p16, List.forall_mem_cons.mpr ⟨lw_p17, List.forall_mem_cons.mpr ⟨lw_p18, List.forall_mem_cons.mpr ⟨lw_p19, List.forall_mem_cons.mpr ⟨lw_p20, List.forall_mem_cons.mpr ⟨lw_p21, List.forall_mem_cons.mpr ⟨lw_p22, List.forall_mem_cons.mpr ⟨lw_p23, List.forall_mem_cons.mpr ⟨lw_p24, List.forall_mem_cons.mpr ⟨lw_p25, List.forall_mem_cons.mpr ⟨lw_p26, List.forall_mem_cons.mpr ⟨lw_p27, List.forall_mem_cons.mpr ⟨lw_p28, List.forall_mem_cons.mpr ⟨lw_p29, List.forall_mem_cons.mpr ⟨lw_p30, List.forall_mem_cons.mpr ⟨lw_p31, fun _ h => absurd h List.not_mem_nil⟩⟩⟩⟩⟩⟩⟩⟩⟩⟩⟩⟩⟩⟩⟩⟩
theorem lw_p32 : lw_okq (⟨"GroundReachModel", "reachAll", "()V"⟩, 26) := ⟨⟨by decide +kernel, by decide +kernel⟩, List.mem_of_getElem? (i := 764) (by decide +kernel), List.mem_of_getElem? (i := 917) (by decide +kernel), List.mem_of_getElem? (i := 918) (by decide +kernel)⟩
theorem lw_p33 : lw_okq (⟨"GroundReachModel", "parts", "([ZII)Z"⟩, 26) := ⟨⟨by decide +kernel, by decide +kernel⟩, List.mem_of_getElem? (i := 764) (by decide +kernel), List.mem_of_getElem? (i := 921) (by decide +kernel), List.mem_of_getElem? (i := 922) (by decide +kernel)⟩
theorem lw_p34 : lw_okq (⟨"GroundReachModel", "byRule", "([ZII)Z"⟩, 26) := ⟨⟨by decide +kernel, by decide +kernel⟩, List.mem_of_getElem? (i := 764) (by decide +kernel), List.mem_of_getElem? (i := 925) (by decide +kernel), List.mem_of_getElem? (i := 926) (by decide +kernel)⟩
theorem lw_p35 : lw_okq (⟨"GroundReachModel", "isFinal", "(II)Z"⟩, 26) := ⟨⟨by decide +kernel, by decide +kernel⟩, List.mem_of_getElem? (i := 764) (by decide +kernel), List.mem_of_getElem? (i := 937) (by decide +kernel), List.mem_of_getElem? (i := 938) (by decide +kernel)⟩
theorem lw_p36 : lw_okq (⟨"GroundReachModel", "stand", "(I)V"⟩, 26) := ⟨⟨by decide +kernel, by decide +kernel⟩, List.mem_of_getElem? (i := 764) (by decide +kernel), List.mem_of_getElem? (i := 941) (by decide +kernel), List.mem_of_getElem? (i := 942) (by decide +kernel)⟩
theorem lw_p37 : lw_okq (⟨"GroundReachModel", "stands", "(III)Z"⟩, 26) := ⟨⟨by decide +kernel, by decide +kernel⟩, List.mem_of_getElem? (i := 764) (by decide +kernel), List.mem_of_getElem? (i := 945) (by decide +kernel), List.mem_of_getElem? (i := 946) (by decide +kernel)⟩
theorem lw_p38 : lw_okq (⟨"GroundReachModel", "byEdge", "(II)Z"⟩, 26) := ⟨⟨by decide +kernel, by decide +kernel⟩, List.mem_of_getElem? (i := 764) (by decide +kernel), List.mem_of_getElem? (i := 949) (by decide +kernel), List.mem_of_getElem? (i := 950) (by decide +kernel)⟩
theorem lw_p39 : lw_okq (⟨"GroundReachModel", "down", "(II)I"⟩, 26) := ⟨⟨by decide +kernel, by decide +kernel⟩, List.mem_of_getElem? (i := 764) (by decide +kernel), List.mem_of_getElem? (i := 973) (by decide +kernel), List.mem_of_getElem? (i := 974) (by decide +kernel)⟩
theorem lw_p40 : lw_okq (⟨"GroundReachModel", "depth", "()I"⟩, 26) := ⟨⟨by decide +kernel, by decide +kernel⟩, List.mem_of_getElem? (i := 764) (by decide +kernel), List.mem_of_getElem? (i := 977) (by decide +kernel), List.mem_of_getElem? (i := 978) (by decide +kernel)⟩
theorem lw_p41 : lw_okq (⟨"GroundReachModel", "take", "(II)V"⟩, 26) := ⟨⟨by decide +kernel, by decide +kernel⟩, List.mem_of_getElem? (i := 764) (by decide +kernel), List.mem_of_getElem? (i := 985) (by decide +kernel), List.mem_of_getElem? (i := 986) (by decide +kernel)⟩
theorem lw_p42 : lw_okq (⟨"GroundReachModel", "further", "(I)Z"⟩, 26) := ⟨⟨by decide +kernel, by decide +kernel⟩, List.mem_of_getElem? (i := 764) (by decide +kernel), List.mem_of_getElem? (i := 989) (by decide +kernel), List.mem_of_getElem? (i := 990) (by decide +kernel)⟩
theorem lw_p43 : lw_okq (⟨"GroundReachModel", "result", "(II)I"⟩, 26) := ⟨⟨by decide +kernel, by decide +kernel⟩, List.mem_of_getElem? (i := 764) (by decide +kernel), List.mem_of_getElem? (i := 993) (by decide +kernel), List.mem_of_getElem? (i := 994) (by decide +kernel)⟩
theorem lw_p44 : lw_okq (⟨"GroundReachModel", "store", "(III)I"⟩, 26) := ⟨⟨by decide +kernel, by decide +kernel⟩, List.mem_of_getElem? (i := 764) (by decide +kernel), List.mem_of_getElem? (i := 997) (by decide +kernel), List.mem_of_getElem? (i := 998) (by decide +kernel)⟩
theorem lw_p45 : lw_okq (⟨"GroundReachModel", "tally", "(I)V"⟩, 26) := ⟨⟨by decide +kernel, by decide +kernel⟩, List.mem_of_getElem? (i := 764) (by decide +kernel), List.mem_of_getElem? (i := 1001) (by decide +kernel), List.mem_of_getElem? (i := 1002) (by decide +kernel)⟩
def lw_privs_3 : List (MethodName × Nat) := [(⟨"GroundReachModel", "reachAll", "()V"⟩, 26), (⟨"GroundReachModel", "parts", "([ZII)Z"⟩, 26), (⟨"GroundReachModel", "byRule", "([ZII)Z"⟩, 26), (⟨"GroundReachModel", "isFinal", "(II)Z"⟩, 26), (⟨"GroundReachModel", "stand", "(I)V"⟩, 26), (⟨"GroundReachModel", "stands", "(III)Z"⟩, 26), (⟨"GroundReachModel", "byEdge", "(II)Z"⟩, 26), (⟨"GroundReachModel", "down", "(II)I"⟩, 26), (⟨"GroundReachModel", "depth", "()I"⟩, 26), (⟨"GroundReachModel", "take", "(II)V"⟩, 26), (⟨"GroundReachModel", "further", "(I)Z"⟩, 26), (⟨"GroundReachModel", "result", "(II)I"⟩, 26), (⟨"GroundReachModel", "store", "(III)I"⟩, 26), (⟨"GroundReachModel", "tally", "(I)V"⟩, 26)]
theorem lw_r3 : ∀ q ∈ lw_privs_3, lw_okq q := List.forall_mem_cons.mpr ⟨lw_p32, List.forall_mem_cons.mpr ⟨lw_p33, List.forall_mem_cons.mpr ⟨lw_p34, List.forall_mem_cons.mpr ⟨lw_p35, List.forall_mem_cons.mpr ⟨lw_p36, List.forall_mem_cons.mpr ⟨lw_p37, List.forall_mem_cons.mpr ⟨lw_p38, List.forall_mem_cons.mpr ⟨lw_p39, List.forall_mem_cons.mpr ⟨lw_p40, List.forall_mem_cons.mpr ⟨lw_p41, List.forall_mem_cons.mpr ⟨lw_p42, List.forall_mem_cons.mpr ⟨lw_p43, List.forall_mem_cons.mpr ⟨lw_p44, List.forall_mem_cons.mpr ⟨lw_p45, fun _ h => absurd h List.not_mem_nil⟩⟩⟩⟩⟩⟩⟩⟩⟩⟩⟩⟩⟩⟩
def lw_privs : List (MethodName × Nat) := lw_privs_1 ++ (lw_privs_2 ++ (lw_privs_3))
def lw_tbl : List Cond := k2_sels lw_privs ++ tables_1
theorem lw_privs_ok : ∀ q ∈ lw_privs, lw_okq q := by
  show ∀ q ∈ lw_privs_1 ++ (lw_privs_2 ++ (lw_privs_3)), lw_okq q
  exact List.forall_mem_append.mpr ⟨lw_r1, List.forall_mem_append.mpr ⟨lw_r2, lw_r3⟩⟩
end
section
/-! our own base: the good words, contracts over a pure state, returns and calls -/
def gtbl : List Cond := lw_tbl.filter goodWord
theorem gmem {w : Cond} (h : w ∈ lw_tbl) (hg : goodWord w = true) : w ∈ gtbl := List.mem_filter.mpr ⟨h, hg⟩
def wsOf (y : MethodName) (b : ByteArray) (n : Nat) (r : Option FieldType) : List Cond := Cond.code y b n r :: gtbl
theorem wsOf_good {y : MethodName} {b : ByteArray} {n : Nat} {r : Option FieldType} (h : Cond.code y b n r ∈ gtbl) : GoodIn gtbl (wsOf y b n r) := by
  intro w hw
  have hw2 : w ∈ gtbl := by
    rcases List.mem_cons.mp hw with h2 | h2
    · rw [h2]; exact h
    · exact h2
  exact ⟨hw2, good_of_word (List.mem_filter.mp hw2).2⟩
def tyA (cA : ClassId × ClassId × ClassId) : List (ClassId × FieldType) := [(cA.1, .int), (cA.2.1, .long), (cA.2.2, .boolean)]
def isB (r : Int32) : Prop := r = 0 ∨ r = 1
theorem isB_n {r : Int32} (h : isB r) : narrow .boolean (.int r) = .int r := by
  rcases h with h | h <;> (rw [h]; decide)
/-- the words of a method that is called: an instance method, a static one -/
def kV (y : MethodName) (b : ByteArray) (n : Nat) (r : Option FieldType) (k : Nat) : Prop :=
  Cond.instanceMethod y ∈ gtbl ∧ Cond.selects y.cls y y ∈ gtbl ∧ Cond.initialized y.cls ∈ gtbl ∧ Cond.code y b n r ∈ gtbl ∧ y.cls ≠ "java/lang/invoke/MethodHandle" ∧ y.cls ≠ "java/lang/invoke/VarHandle" ∧ (parseMethodDescriptor y.desc).map (fun d => d.parameters.length) = some k
def kS (y : MethodName) (b : ByteArray) (n : Nat) (r : Option FieldType) (k : Nat) : Prop :=
  Cond.static y ∈ gtbl ∧ Cond.initialized y.cls ∈ gtbl ∧ Cond.code y b n r ∈ gtbl ∧ y.cls ≠ "java/lang/invoke/MethodHandle" ∧ y.cls ≠ "java/lang/invoke/VarHandle" ∧ (parseMethodDescriptor y.desc).map (fun d => d.parameters.length) = some k
theorem mkV {R : Room} {s : State} {args : Array Value} {own : String} {index : Nat} {y : MethodName} {b : ByteArray} {n k : Nat} {r : Option FieldType} {rm : Room} (hts : ∀ w ∈ gtbl, w.before args s = true) (hl : Cond.methodLink own index y ∈ gtbl) (hk : kV y b n r k) (hrc : rm.cells = 0) (hrs : rm.slots = 0) (hR : rm.frames + 1 ≤ R.frames ∧ 8 + (n + 11) + rm.locals ≤ R.locals) : CallW R s args own y.cls index y b n r (wsOf y b n r) rm 0 0 k := by
  obtain ⟨h2, h3, h4, h5, h6⟩ := hk
  exact ⟨callB_of k hts (wsOf_good h5) rfl hrc hrs (hts _ h4) (hts _ hl) h6 hR, hts _ h2, hts _ h3⟩
theorem mkS {R : Room} {s : State} {args : Array Value} {own : String} {index : Nat} {y : MethodName} {b : ByteArray} {n k : Nat} {r : Option FieldType} {rm : Room} (hts : ∀ w ∈ gtbl, w.before args s = true) (hl : Cond.methodLink own index y ∈ gtbl) (hk : kS y b n r k) (hrc : rm.cells = 0) (hrs : rm.slots = 0) (hR : rm.frames + 1 ≤ R.frames ∧ 8 + (n + 11) + rm.locals ≤ R.locals) : CallB R s args own index y b n r (wsOf y b n r) rm 0 0 k ∧ (Cond.static y).before args s = true := by
  obtain ⟨h2, h4, h5, h6⟩ := hk
  exact ⟨callB_of k hts (wsOf_good h5) rfl hrc hrs (hts _ h4) (hts _ hl) h6 hR, hts _ h2⟩
end
section
def R_Gr : String := "GroundReach"
def F_Gr : u_T := fun k => match k with
  | 0 => ("GroundReach", "terms", "LGroundReach$Terms;", true)
  | 1 => ("GroundReach", "rules", "LGroundReach$Rules;", true)
  | 2 => ("GroundReach", "automaton", "LGroundReach$Automaton;", true)
  | 3 => ("GroundReach", "relations", "LGroundReach$Relations;", true)
  | 4 => ("GroundReach", "languages", "LGroundReach$Languages;", true)
  | 5 => ("GroundReach", "steps", "LGroundReach$Steps;", true)
  | _ => ("GroundReach", "levels", "LGroundReach$Levels;", true)
def t_Gr : Nat → FieldType := fun k => match k with
  | 0 => .object "GroundReach$Terms"
  | 1 => .object "GroundReach$Rules"
  | 2 => .object "GroundReach$Automaton"
  | 3 => .object "GroundReach$Relations"
  | 4 => .object "GroundReach$Languages"
  | 5 => .object "GroundReach$Steps"
  | _ => .object "GroundReach$Levels"
theorem n_Gr : ∀ a, a < 7 → ∀ b, b < 7 → a ≠ b → (F_Gr a).2.1 ≠ (F_Gr b).2.1 := by decide +kernel
theorem t_Gr_ok : ∀ k, k < 7 → parseFieldDescriptor (F_Gr k).2.2.1 = some (t_Gr k) := by decide +kernel
set_option maxRecDepth 20000 in
theorem u_Gr : ∀ w ∈ u_ws R_Gr F_Gr 7, w ∈ gtbl := fun w h => gmem ((goodIn_of (big := lw_tbl) (u_ws R_Gr F_Gr 7) (by decide +kernel)) w h).1 (List.all_eq_true.mp (show (u_ws R_Gr F_Gr 7).all goodWord = true by decide +kernel) w h)
theorem in_Gr : Cond.initialized R_Gr ∈ gtbl := gmem (List.mem_append_right _ (List.mem_of_getElem? (i := 1) (by decide +kernel))) (by decide +kernel)
theorem fl_Gr_terms : Cond.fieldLink R_Gr 14 R_Gr "terms" "LGroundReach$Terms;" ∈ gtbl := gmem (List.mem_append_right _ (List.mem_of_getElem? (i := 225) (by decide +kernel))) (by decide +kernel)
theorem fl_Gr_rules : Cond.fieldLink R_Gr 21 R_Gr "rules" "LGroundReach$Rules;" ∈ gtbl := gmem (List.mem_append_right _ (List.mem_of_getElem? (i := 226) (by decide +kernel))) (by decide +kernel)
theorem fl_Gr_automaton : Cond.fieldLink R_Gr 30 R_Gr "automaton" "LGroundReach$Automaton;" ∈ gtbl := gmem (List.mem_append_right _ (List.mem_of_getElem? (i := 227) (by decide +kernel))) (by decide +kernel)
theorem fl_Gr_relations : Cond.fieldLink R_Gr 39 R_Gr "relations" "LGroundReach$Relations;" ∈ gtbl := gmem (List.mem_append_right _ (List.mem_of_getElem? (i := 228) (by decide +kernel))) (by decide +kernel)
theorem fl_Gr_languages : Cond.fieldLink R_Gr 48 R_Gr "languages" "LGroundReach$Languages;" ∈ gtbl := gmem (List.mem_append_right _ (List.mem_of_getElem? (i := 229) (by decide +kernel))) (by decide +kernel)
theorem fl_Gr_steps : Cond.fieldLink R_Gr 55 R_Gr "steps" "LGroundReach$Steps;" ∈ gtbl := gmem (List.mem_append_right _ (List.mem_of_getElem? (i := 230) (by decide +kernel))) (by decide +kernel)
theorem fl_Gr_levels : Cond.fieldLink R_Gr 62 R_Gr "levels" "LGroundReach$Levels;" ∈ gtbl := gmem (List.mem_append_right _ (List.mem_of_getElem? (i := 231) (by decide +kernel))) (by decide +kernel)
def R_Te : String := "GroundReach$Terms"
def F_Te : u_T := fun k => match k with
  | 0 => ("GroundReach$Terms", "places", "[I", true)
  | 1 => ("GroundReach$Terms", "symbol", "[I", true)
  | 2 => ("GroundReach$Terms", "first", "[I", true)
  | 3 => ("GroundReach$Terms", "second", "[I", true)
  | 4 => ("GroundReach$Terms", "size", "[I", true)
  | 5 => ("GroundReach$Terms", "newestIn", "[I", true)
  | 6 => ("GroundReach$Terms", "olderInBucket", "[I", true)
  | _ => ("GroundReach$Terms", "count", "I", false)
def t_Te : Nat → FieldType := fun k => match k with
  | 0 => .array .int
  | 1 => .array .int
  | 2 => .array .int
  | 3 => .array .int
  | 4 => .array .int
  | 5 => .array .int
  | 6 => .array .int
  | _ => .int
theorem n_Te : ∀ a, a < 8 → ∀ b, b < 8 → a ≠ b → (F_Te a).2.1 ≠ (F_Te b).2.1 := by decide +kernel
theorem t_Te_ok : ∀ k, k < 8 → parseFieldDescriptor (F_Te k).2.2.1 = some (t_Te k) := by decide +kernel
set_option maxRecDepth 20000 in
theorem u_Te : ∀ w ∈ u_ws R_Te F_Te 8, w ∈ gtbl := fun w h => gmem ((goodIn_of (big := lw_tbl) (u_ws R_Te F_Te 8) (by decide +kernel)) w h).1 (List.all_eq_true.mp (show (u_ws R_Te F_Te 8).all goodWord = true by decide +kernel) w h)
theorem in_Te : Cond.initialized R_Te ∈ gtbl := gmem (List.mem_append_right _ (List.mem_of_getElem? (i := 2) (by decide +kernel))) (by decide +kernel)
theorem fl_Te_places : Cond.fieldLink R_Te 9 R_Te "places" "[I" ∈ gtbl := gmem (List.mem_append_right _ (List.mem_of_getElem? (i := 38) (by decide +kernel))) (by decide +kernel)
theorem fl_Te_symbol : Cond.fieldLink R_Te 15 R_Te "symbol" "[I" ∈ gtbl := gmem (List.mem_append_right _ (List.mem_of_getElem? (i := 39) (by decide +kernel))) (by decide +kernel)
theorem fl_Te_first : Cond.fieldLink R_Te 18 R_Te "first" "[I" ∈ gtbl := gmem (List.mem_append_right _ (List.mem_of_getElem? (i := 40) (by decide +kernel))) (by decide +kernel)
theorem fl_Te_second : Cond.fieldLink R_Te 21 R_Te "second" "[I" ∈ gtbl := gmem (List.mem_append_right _ (List.mem_of_getElem? (i := 41) (by decide +kernel))) (by decide +kernel)
theorem fl_Te_size : Cond.fieldLink R_Te 24 R_Te "size" "[I" ∈ gtbl := gmem (List.mem_append_right _ (List.mem_of_getElem? (i := 42) (by decide +kernel))) (by decide +kernel)
theorem fl_Te_newestIn : Cond.fieldLink R_Te 27 R_Te "newestIn" "[I" ∈ gtbl := gmem (List.mem_append_right _ (List.mem_of_getElem? (i := 43) (by decide +kernel))) (by decide +kernel)
theorem fl_Te_olderInBucket : Cond.fieldLink R_Te 30 R_Te "olderInBucket" "[I" ∈ gtbl := gmem (List.mem_append_right _ (List.mem_of_getElem? (i := 44) (by decide +kernel))) (by decide +kernel)
theorem fl_Te_count : Cond.fieldLink R_Te 45 R_Te "count" "I" ∈ gtbl := gmem (List.mem_append_right _ (List.mem_of_getElem? (i := 45) (by decide +kernel))) (by decide +kernel)
def R_Ru : String := "GroundReach$Rules"
def F_Ru : u_T := fun k => match k with
  | 0 => ("GroundReach$Rules", "left", "[I", true)
  | 1 => ("GroundReach$Rules", "right", "[I", true)
  | 2 => ("GroundReach$Rules", "count", "I", false)
  | _ => ("GroundReach$Rules", "changes", "I", false)
def t_Ru : Nat → FieldType := fun k => match k with
  | 0 => .array .int
  | 1 => .array .int
  | 2 => .int
  | _ => .int
theorem n_Ru : ∀ a, a < 4 → ∀ b, b < 4 → a ≠ b → (F_Ru a).2.1 ≠ (F_Ru b).2.1 := by decide +kernel
theorem t_Ru_ok : ∀ k, k < 4 → parseFieldDescriptor (F_Ru k).2.2.1 = some (t_Ru k) := by decide +kernel
set_option maxRecDepth 20000 in
theorem u_Ru : ∀ w ∈ u_ws R_Ru F_Ru 4, w ∈ gtbl := fun w h => gmem ((goodIn_of (big := lw_tbl) (u_ws R_Ru F_Ru 4) (by decide +kernel)) w h).1 (List.all_eq_true.mp (show (u_ws R_Ru F_Ru 4).all goodWord = true by decide +kernel) w h)
theorem in_Ru : Cond.initialized R_Ru ∈ gtbl := gmem (List.mem_append_right _ (List.mem_of_getElem? (i := 5) (by decide +kernel))) (by decide +kernel)
theorem fl_Ru_left : Cond.fieldLink R_Ru 9 R_Ru "left" "[I" ∈ gtbl := gmem (List.mem_append_right _ (List.mem_of_getElem? (i := 70) (by decide +kernel))) (by decide +kernel)
theorem fl_Ru_right : Cond.fieldLink R_Ru 15 R_Ru "right" "[I" ∈ gtbl := gmem (List.mem_append_right _ (List.mem_of_getElem? (i := 71) (by decide +kernel))) (by decide +kernel)
theorem fl_Ru_count : Cond.fieldLink R_Ru 18 R_Ru "count" "I" ∈ gtbl := gmem (List.mem_append_right _ (List.mem_of_getElem? (i := 72) (by decide +kernel))) (by decide +kernel)
theorem fl_Ru_changes : Cond.fieldLink R_Ru 22 R_Ru "changes" "I" ∈ gtbl := gmem (List.mem_append_right _ (List.mem_of_getElem? (i := 73) (by decide +kernel))) (by decide +kernel)
def R_Au : String := "GroundReach$Automaton"
def F_Au : u_T := fun k => match k with
  | 0 => ("GroundReach$Automaton", "terms", "LGroundReach$Terms;", true)
  | 1 => ("GroundReach$Automaton", "symbol", "[I", true)
  | 2 => ("GroundReach$Automaton", "first", "[I", true)
  | 3 => ("GroundReach$Automaton", "second", "[I", true)
  | 4 => ("GroundReach$Automaton", "target", "[I", true)
  | 5 => ("GroundReach$Automaton", "weight", "[I", true)
  | 6 => ("GroundReach$Automaton", "count", "I", false)
  | _ => ("GroundReach$Automaton", "finals", "I", false)
def t_Au : Nat → FieldType := fun k => match k with
  | 0 => .object "GroundReach$Terms"
  | 1 => .array .int
  | 2 => .array .int
  | 3 => .array .int
  | 4 => .array .int
  | 5 => .array .int
  | 6 => .int
  | _ => .int
theorem n_Au : ∀ a, a < 8 → ∀ b, b < 8 → a ≠ b → (F_Au a).2.1 ≠ (F_Au b).2.1 := by decide +kernel
theorem t_Au_ok : ∀ k, k < 8 → parseFieldDescriptor (F_Au k).2.2.1 = some (t_Au k) := by decide +kernel
set_option maxRecDepth 20000 in
theorem u_Au : ∀ w ∈ u_ws R_Au F_Au 8, w ∈ gtbl := fun w h => gmem ((goodIn_of (big := lw_tbl) (u_ws R_Au F_Au 8) (by decide +kernel)) w h).1 (List.all_eq_true.mp (show (u_ws R_Au F_Au 8).all goodWord = true by decide +kernel) w h)
theorem in_Au : Cond.initialized R_Au ∈ gtbl := gmem (List.mem_append_right _ (List.mem_of_getElem? (i := 6) (by decide +kernel))) (by decide +kernel)
theorem fl_Au_terms : Cond.fieldLink R_Au 27 R_Au "terms" "LGroundReach$Terms;" ∈ gtbl := gmem (List.mem_append_right _ (List.mem_of_getElem? (i := 89) (by decide +kernel))) (by decide +kernel)
theorem fl_Au_symbol : Cond.fieldLink R_Au 9 R_Au "symbol" "[I" ∈ gtbl := gmem (List.mem_append_right _ (List.mem_of_getElem? (i := 90) (by decide +kernel))) (by decide +kernel)
theorem fl_Au_first : Cond.fieldLink R_Au 15 R_Au "first" "[I" ∈ gtbl := gmem (List.mem_append_right _ (List.mem_of_getElem? (i := 91) (by decide +kernel))) (by decide +kernel)
theorem fl_Au_second : Cond.fieldLink R_Au 18 R_Au "second" "[I" ∈ gtbl := gmem (List.mem_append_right _ (List.mem_of_getElem? (i := 92) (by decide +kernel))) (by decide +kernel)
theorem fl_Au_target : Cond.fieldLink R_Au 21 R_Au "target" "[I" ∈ gtbl := gmem (List.mem_append_right _ (List.mem_of_getElem? (i := 93) (by decide +kernel))) (by decide +kernel)
theorem fl_Au_weight : Cond.fieldLink R_Au 24 R_Au "weight" "[I" ∈ gtbl := gmem (List.mem_append_right _ (List.mem_of_getElem? (i := 94) (by decide +kernel))) (by decide +kernel)
theorem fl_Au_count : Cond.fieldLink R_Au 31 R_Au "count" "I" ∈ gtbl := gmem (List.mem_append_right _ (List.mem_of_getElem? (i := 95) (by decide +kernel))) (by decide +kernel)
theorem fl_Au_finals : Cond.fieldLink R_Au 35 R_Au "finals" "I" ∈ gtbl := gmem (List.mem_append_right _ (List.mem_of_getElem? (i := 96) (by decide +kernel))) (by decide +kernel)
def R_Re : String := "GroundReach$Relations"
def F_Re : u_T := fun k => match k with
  | 0 => ("GroundReach$Relations", "terms", "LGroundReach$Terms;", true)
  | 1 => ("GroundReach$Relations", "rules", "LGroundReach$Rules;", true)
  | 2 => ("GroundReach$Relations", "reached", "[J", true)
  | 3 => ("GroundReach$Relations", "joined", "[J", true)
  | 4 => ("GroundReach$Relations", "least", "[I", true)
  | 5 => ("GroundReach$Relations", "termsThen", "I", false)
  | 6 => ("GroundReach$Relations", "changesThen", "I", false)
  | _ => ("GroundReach$Relations", "joinedKnown", "Z", false)
def t_Re : Nat → FieldType := fun k => match k with
  | 0 => .object "GroundReach$Terms"
  | 1 => .object "GroundReach$Rules"
  | 2 => .array .long
  | 3 => .array .long
  | 4 => .array .int
  | 5 => .int
  | 6 => .int
  | _ => .boolean
theorem n_Re : ∀ a, a < 8 → ∀ b, b < 8 → a ≠ b → (F_Re a).2.1 ≠ (F_Re b).2.1 := by decide +kernel
theorem t_Re_ok : ∀ k, k < 8 → parseFieldDescriptor (F_Re k).2.2.1 = some (t_Re k) := by decide +kernel
set_option maxRecDepth 20000 in
theorem u_Re : ∀ w ∈ u_ws R_Re F_Re 8, w ∈ gtbl := fun w h => gmem ((goodIn_of (big := lw_tbl) (u_ws R_Re F_Re 8) (by decide +kernel)) w h).1 (List.all_eq_true.mp (show (u_ws R_Re F_Re 8).all goodWord = true by decide +kernel) w h)
theorem in_Re : Cond.initialized R_Re ∈ gtbl := gmem (List.mem_append_right _ (List.mem_of_getElem? (i := 7) (by decide +kernel))) (by decide +kernel)
theorem fl_Re_terms : Cond.fieldLink R_Re 29 R_Re "terms" "LGroundReach$Terms;" ∈ gtbl := gmem (List.mem_append_right _ (List.mem_of_getElem? (i := 120) (by decide +kernel))) (by decide +kernel)
theorem fl_Re_rules : Cond.fieldLink R_Re 33 R_Re "rules" "LGroundReach$Rules;" ∈ gtbl := gmem (List.mem_append_right _ (List.mem_of_getElem? (i := 121) (by decide +kernel))) (by decide +kernel)
theorem fl_Re_reached : Cond.fieldLink R_Re 9 R_Re "reached" "[J" ∈ gtbl := gmem (List.mem_append_right _ (List.mem_of_getElem? (i := 122) (by decide +kernel))) (by decide +kernel)
theorem fl_Re_joined : Cond.fieldLink R_Re 15 R_Re "joined" "[J" ∈ gtbl := gmem (List.mem_append_right _ (List.mem_of_getElem? (i := 123) (by decide +kernel))) (by decide +kernel)
theorem fl_Re_least : Cond.fieldLink R_Re 18 R_Re "least" "[I" ∈ gtbl := gmem (List.mem_append_right _ (List.mem_of_getElem? (i := 124) (by decide +kernel))) (by decide +kernel)
theorem fl_Re_termsThen : Cond.fieldLink R_Re 22 R_Re "termsThen" "I" ∈ gtbl := gmem (List.mem_append_right _ (List.mem_of_getElem? (i := 125) (by decide +kernel))) (by decide +kernel)
theorem fl_Re_changesThen : Cond.fieldLink R_Re 26 R_Re "changesThen" "I" ∈ gtbl := gmem (List.mem_append_right _ (List.mem_of_getElem? (i := 126) (by decide +kernel))) (by decide +kernel)
theorem fl_Re_joinedKnown : Cond.fieldLink R_Re 48 R_Re "joinedKnown" "Z" ∈ gtbl := gmem (List.mem_append_right _ (List.mem_of_getElem? (i := 127) (by decide +kernel))) (by decide +kernel)
def R_La : String := "GroundReach$Languages"
def F_La : u_T := fun k => match k with
  | 0 => ("GroundReach$Languages", "terms", "LGroundReach$Terms;", true)
  | 1 => ("GroundReach$Languages", "automaton", "LGroundReach$Automaton;", true)
  | 2 => ("GroundReach$Languages", "relations", "LGroundReach$Relations;", true)
  | _ => ("GroundReach$Languages", "states", "[I", true)
def t_La : Nat → FieldType := fun k => match k with
  | 0 => .object "GroundReach$Terms"
  | 1 => .object "GroundReach$Automaton"
  | 2 => .object "GroundReach$Relations"
  | _ => .array .int
theorem n_La : ∀ a, a < 4 → ∀ b, b < 4 → a ≠ b → (F_La a).2.1 ≠ (F_La b).2.1 := by decide +kernel
theorem t_La_ok : ∀ k, k < 4 → parseFieldDescriptor (F_La k).2.2.1 = some (t_La k) := by decide +kernel
set_option maxRecDepth 20000 in
theorem u_La : ∀ w ∈ u_ws R_La F_La 4, w ∈ gtbl := fun w h => gmem ((goodIn_of (big := lw_tbl) (u_ws R_La F_La 4) (by decide +kernel)) w h).1 (List.all_eq_true.mp (show (u_ws R_La F_La 4).all goodWord = true by decide +kernel) w h)
theorem in_La : Cond.initialized R_La ∈ gtbl := gmem (List.mem_append_right _ (List.mem_of_getElem? (i := 8) (by decide +kernel))) (by decide +kernel)
theorem fl_La_terms : Cond.fieldLink R_La 15 R_La "terms" "LGroundReach$Terms;" ∈ gtbl := gmem (List.mem_append_right _ (List.mem_of_getElem? (i := 152) (by decide +kernel))) (by decide +kernel)
theorem fl_La_automaton : Cond.fieldLink R_La 19 R_La "automaton" "LGroundReach$Automaton;" ∈ gtbl := gmem (List.mem_append_right _ (List.mem_of_getElem? (i := 153) (by decide +kernel))) (by decide +kernel)
theorem fl_La_relations : Cond.fieldLink R_La 23 R_La "relations" "LGroundReach$Relations;" ∈ gtbl := gmem (List.mem_append_right _ (List.mem_of_getElem? (i := 154) (by decide +kernel))) (by decide +kernel)
theorem fl_La_states : Cond.fieldLink R_La 9 R_La "states" "[I" ∈ gtbl := gmem (List.mem_append_right _ (List.mem_of_getElem? (i := 155) (by decide +kernel))) (by decide +kernel)
def R_Sp : String := "GroundReach$Steps"
def F_Sp : u_T := fun k => match k with
  | 0 => ("GroundReach$Steps", "terms", "LGroundReach$Terms;", true)
  | 1 => ("GroundReach$Steps", "rules", "LGroundReach$Rules;", true)
  | 2 => ("GroundReach$Steps", "counts", "[J", true)
  | 3 => ("GroundReach$Steps", "path", "[I", true)
  | _ => ("GroundReach$Steps", "wentFirst", "[Z", true)
def t_Sp : Nat → FieldType := fun k => match k with
  | 0 => .object "GroundReach$Terms"
  | 1 => .object "GroundReach$Rules"
  | 2 => .array .long
  | 3 => .array .int
  | _ => .array .boolean
theorem n_Sp : ∀ a, a < 5 → ∀ b, b < 5 → a ≠ b → (F_Sp a).2.1 ≠ (F_Sp b).2.1 := by decide +kernel
theorem t_Sp_ok : ∀ k, k < 5 → parseFieldDescriptor (F_Sp k).2.2.1 = some (t_Sp k) := by decide +kernel
set_option maxRecDepth 20000 in
theorem u_Sp : ∀ w ∈ u_ws R_Sp F_Sp 5, w ∈ gtbl := fun w h => gmem ((goodIn_of (big := lw_tbl) (u_ws R_Sp F_Sp 5) (by decide +kernel)) w h).1 (List.all_eq_true.mp (show (u_ws R_Sp F_Sp 5).all goodWord = true by decide +kernel) w h)
theorem in_Sp : Cond.initialized R_Sp ∈ gtbl := gmem (List.mem_append_right _ (List.mem_of_getElem? (i := 9) (by decide +kernel))) (by decide +kernel)
theorem fl_Sp_terms : Cond.fieldLink R_Sp 23 R_Sp "terms" "LGroundReach$Terms;" ∈ gtbl := gmem (List.mem_append_right _ (List.mem_of_getElem? (i := 171) (by decide +kernel))) (by decide +kernel)
theorem fl_Sp_rules : Cond.fieldLink R_Sp 27 R_Sp "rules" "LGroundReach$Rules;" ∈ gtbl := gmem (List.mem_append_right _ (List.mem_of_getElem? (i := 172) (by decide +kernel))) (by decide +kernel)
theorem fl_Sp_counts : Cond.fieldLink R_Sp 9 R_Sp "counts" "[J" ∈ gtbl := gmem (List.mem_append_right _ (List.mem_of_getElem? (i := 173) (by decide +kernel))) (by decide +kernel)
theorem fl_Sp_path : Cond.fieldLink R_Sp 15 R_Sp "path" "[I" ∈ gtbl := gmem (List.mem_append_right _ (List.mem_of_getElem? (i := 174) (by decide +kernel))) (by decide +kernel)
theorem fl_Sp_wentFirst : Cond.fieldLink R_Sp 19 R_Sp "wentFirst" "[Z" ∈ gtbl := gmem (List.mem_append_right _ (List.mem_of_getElem? (i := 175) (by decide +kernel))) (by decide +kernel)
def R_Le : String := "GroundReach$Levels"
def F_Le : u_T := fun k => match k with
  | 0 => ("GroundReach$Levels", "terms", "LGroundReach$Terms;", true)
  | 1 => ("GroundReach$Levels", "rules", "LGroundReach$Rules;", true)
  | 2 => ("GroundReach$Levels", "after", "[J", true)
  | 3 => ("GroundReach$Levels", "counted", "[Z", true)
  | 4 => ("GroundReach$Levels", "expanded", "[Z", true)
  | 5 => ("GroundReach$Levels", "inLevels", "[J", true)
  | 6 => ("GroundReach$Levels", "newest", "[J", true)
  | 7 => ("GroundReach$Levels", "coming", "[J", true)
  | 8 => ("GroundReach$Levels", "waiting", "[I", true)
  | _ => ("GroundReach$Levels", "countedTerms", "I", false)
def t_Le : Nat → FieldType := fun k => match k with
  | 0 => .object "GroundReach$Terms"
  | 1 => .object "GroundReach$Rules"
  | 2 => .array .long
  | 3 => .array .boolean
  | 4 => .array .boolean
  | 5 => .array .long
  | 6 => .array .long
  | 7 => .array .long
  | 8 => .array .int
  | _ => .int
theorem n_Le : ∀ a, a < 10 → ∀ b, b < 10 → a ≠ b → (F_Le a).2.1 ≠ (F_Le b).2.1 := by decide +kernel
theorem t_Le_ok : ∀ k, k < 10 → parseFieldDescriptor (F_Le k).2.2.1 = some (t_Le k) := by decide +kernel
set_option maxRecDepth 20000 in
theorem u_Le : ∀ w ∈ u_ws R_Le F_Le 10, w ∈ gtbl := fun w h => gmem ((goodIn_of (big := lw_tbl) (u_ws R_Le F_Le 10) (by decide +kernel)) w h).1 (List.all_eq_true.mp (show (u_ws R_Le F_Le 10).all goodWord = true by decide +kernel) w h)
theorem in_Le : Cond.initialized R_Le ∈ gtbl := gmem (List.mem_append_right _ (List.mem_of_getElem? (i := 10) (by decide +kernel))) (by decide +kernel)
theorem fl_Le_terms : Cond.fieldLink R_Le 35 R_Le "terms" "LGroundReach$Terms;" ∈ gtbl := gmem (List.mem_append_right _ (List.mem_of_getElem? (i := 194) (by decide +kernel))) (by decide +kernel)
theorem fl_Le_rules : Cond.fieldLink R_Le 39 R_Le "rules" "LGroundReach$Rules;" ∈ gtbl := gmem (List.mem_append_right _ (List.mem_of_getElem? (i := 195) (by decide +kernel))) (by decide +kernel)
theorem fl_Le_after : Cond.fieldLink R_Le 11 R_Le "after" "[J" ∈ gtbl := gmem (List.mem_append_right _ (List.mem_of_getElem? (i := 196) (by decide +kernel))) (by decide +kernel)
theorem fl_Le_counted : Cond.fieldLink R_Le 15 R_Le "counted" "[Z" ∈ gtbl := gmem (List.mem_append_right _ (List.mem_of_getElem? (i := 197) (by decide +kernel))) (by decide +kernel)
theorem fl_Le_expanded : Cond.fieldLink R_Le 19 R_Le "expanded" "[Z" ∈ gtbl := gmem (List.mem_append_right _ (List.mem_of_getElem? (i := 198) (by decide +kernel))) (by decide +kernel)
theorem fl_Le_inLevels : Cond.fieldLink R_Le 22 R_Le "inLevels" "[J" ∈ gtbl := gmem (List.mem_append_right _ (List.mem_of_getElem? (i := 199) (by decide +kernel))) (by decide +kernel)
theorem fl_Le_newest : Cond.fieldLink R_Le 25 R_Le "newest" "[J" ∈ gtbl := gmem (List.mem_append_right _ (List.mem_of_getElem? (i := 200) (by decide +kernel))) (by decide +kernel)
theorem fl_Le_coming : Cond.fieldLink R_Le 28 R_Le "coming" "[J" ∈ gtbl := gmem (List.mem_append_right _ (List.mem_of_getElem? (i := 201) (by decide +kernel))) (by decide +kernel)
theorem fl_Le_waiting : Cond.fieldLink R_Le 31 R_Le "waiting" "[I" ∈ gtbl := gmem (List.mem_append_right _ (List.mem_of_getElem? (i := 202) (by decide +kernel))) (by decide +kernel)
theorem fl_Le_countedTerms : Cond.fieldLink R_Le 53 R_Le "countedTerms" "I" ∈ gtbl := gmem (List.mem_append_right _ (List.mem_of_getElem? (i := 203) (by decide +kernel))) (by decide +kernel)
def R_Mo : String := "GroundReachModel"
def F_Mo : u_T := fun k => match k with
  | 0 => ("GroundReachModel", "thrown", "I", false)
  | 1 => ("GroundReachModel", "places", "[I", true)
  | 2 => ("GroundReachModel", "symbol", "[I", true)
  | 3 => ("GroundReachModel", "one", "[I", true)
  | 4 => ("GroundReachModel", "two", "[I", true)
  | 5 => ("GroundReachModel", "count", "I", false)
  | 6 => ("GroundReachModel", "rules", "I", false)
  | 7 => ("GroundReachModel", "left", "[I", true)
  | 8 => ("GroundReachModel", "right", "[I", true)
  | 9 => ("GroundReachModel", "edges", "I", false)
  | 10 => ("GroundReachModel", "edge", "[I", true)
  | 11 => ("GroundReachModel", "finals", "I", false)
  | 12 => ("GroundReachModel", "goes", "[Z", true)
  | 13 => ("GroundReachModel", "joins", "[Z", true)
  | 14 => ("GroundReachModel", "states", "[Z", true)
  | 15 => ("GroundReachModel", "light", "[I", true)
  | 16 => ("GroundReachModel", "stateLight", "[I", true)
  | 17 => ("GroundReachModel", "stored", "I", false)
  | 18 => ("GroundReachModel", "different", "I", false)
  | 19 => ("GroundReachModel", "marked", "[Z", true)
  | 20 => ("GroundReachModel", "came", "[Z", true)
  | 21 => ("GroundReachModel", "level", "[I", true)
  | 22 => ("GroundReachModel", "many", "[I", true)
  | 23 => ("GroundReachModel", "open", "[I", true)
  | 24 => ("GroundReachModel", "path", "[I", true)
  | _ => ("GroundReachModel", "side", "[I", true)
def t_Mo : Nat → FieldType := fun k => match k with
  | 0 => .int
  | 1 => .array .int
  | 2 => .array .int
  | 3 => .array .int
  | 4 => .array .int
  | 5 => .int
  | 6 => .int
  | 7 => .array .int
  | 8 => .array .int
  | 9 => .int
  | 10 => .array .int
  | 11 => .int
  | 12 => .array .boolean
  | 13 => .array .boolean
  | 14 => .array .boolean
  | 15 => .array .int
  | 16 => .array .int
  | 17 => .int
  | 18 => .int
  | 19 => .array .boolean
  | 20 => .array .boolean
  | 21 => .array .int
  | 22 => .array .int
  | 23 => .array .int
  | 24 => .array .int
  | _ => .array .int
theorem n_Mo : ∀ a, a < 26 → ∀ b, b < 26 → a ≠ b → (F_Mo a).2.1 ≠ (F_Mo b).2.1 := by decide +kernel
theorem t_Mo_ok : ∀ k, k < 26 → parseFieldDescriptor (F_Mo k).2.2.1 = some (t_Mo k) := by decide +kernel
set_option maxRecDepth 20000 in
theorem u_Mo : ∀ w ∈ u_ws R_Mo F_Mo 26, w ∈ gtbl := fun w h => gmem ((goodIn_of (big := lw_tbl) (u_ws R_Mo F_Mo 26) (by decide +kernel)) w h).1 (List.all_eq_true.mp (show (u_ws R_Mo F_Mo 26).all goodWord = true by decide +kernel) w h)
theorem in_Mo : Cond.initialized R_Mo ∈ gtbl := gmem (List.mem_append_right _ (List.mem_of_getElem? (i := 11) (by decide +kernel))) (by decide +kernel)
theorem fl_Mo_thrown : Cond.fieldLink R_Mo 68 R_Mo "thrown" "I" ∈ gtbl := gmem (List.mem_append_right _ (List.mem_of_getElem? (i := 769) (by decide +kernel))) (by decide +kernel)
theorem fl_Mo_places : Cond.fieldLink R_Mo 7 R_Mo "places" "[I" ∈ gtbl := gmem (List.mem_append_right _ (List.mem_of_getElem? (i := 770) (by decide +kernel))) (by decide +kernel)
theorem fl_Mo_symbol : Cond.fieldLink R_Mo 13 R_Mo "symbol" "[I" ∈ gtbl := gmem (List.mem_append_right _ (List.mem_of_getElem? (i := 771) (by decide +kernel))) (by decide +kernel)
theorem fl_Mo_one : Cond.fieldLink R_Mo 16 R_Mo "one" "[I" ∈ gtbl := gmem (List.mem_append_right _ (List.mem_of_getElem? (i := 772) (by decide +kernel))) (by decide +kernel)
theorem fl_Mo_two : Cond.fieldLink R_Mo 19 R_Mo "two" "[I" ∈ gtbl := gmem (List.mem_append_right _ (List.mem_of_getElem? (i := 773) (by decide +kernel))) (by decide +kernel)
theorem fl_Mo_count : Cond.fieldLink R_Mo 72 R_Mo "count" "I" ∈ gtbl := gmem (List.mem_append_right _ (List.mem_of_getElem? (i := 774) (by decide +kernel))) (by decide +kernel)
theorem fl_Mo_rules : Cond.fieldLink R_Mo 93 R_Mo "rules" "I" ∈ gtbl := gmem (List.mem_append_right _ (List.mem_of_getElem? (i := 775) (by decide +kernel))) (by decide +kernel)
theorem fl_Mo_left : Cond.fieldLink R_Mo 22 R_Mo "left" "[I" ∈ gtbl := gmem (List.mem_append_right _ (List.mem_of_getElem? (i := 776) (by decide +kernel))) (by decide +kernel)
theorem fl_Mo_right : Cond.fieldLink R_Mo 25 R_Mo "right" "[I" ∈ gtbl := gmem (List.mem_append_right _ (List.mem_of_getElem? (i := 777) (by decide +kernel))) (by decide +kernel)
theorem fl_Mo_edges : Cond.fieldLink R_Mo 109 R_Mo "edges" "I" ∈ gtbl := gmem (List.mem_append_right _ (List.mem_of_getElem? (i := 778) (by decide +kernel))) (by decide +kernel)
theorem fl_Mo_edge : Cond.fieldLink R_Mo 28 R_Mo "edge" "[I" ∈ gtbl := gmem (List.mem_append_right _ (List.mem_of_getElem? (i := 779) (by decide +kernel))) (by decide +kernel)
theorem fl_Mo_finals : Cond.fieldLink R_Mo 112 R_Mo "finals" "I" ∈ gtbl := gmem (List.mem_append_right _ (List.mem_of_getElem? (i := 780) (by decide +kernel))) (by decide +kernel)
theorem fl_Mo_goes : Cond.fieldLink R_Mo 31 R_Mo "goes" "[Z" ∈ gtbl := gmem (List.mem_append_right _ (List.mem_of_getElem? (i := 781) (by decide +kernel))) (by decide +kernel)
theorem fl_Mo_joins : Cond.fieldLink R_Mo 35 R_Mo "joins" "[Z" ∈ gtbl := gmem (List.mem_append_right _ (List.mem_of_getElem? (i := 782) (by decide +kernel))) (by decide +kernel)
theorem fl_Mo_states : Cond.fieldLink R_Mo 38 R_Mo "states" "[Z" ∈ gtbl := gmem (List.mem_append_right _ (List.mem_of_getElem? (i := 783) (by decide +kernel))) (by decide +kernel)
theorem fl_Mo_light : Cond.fieldLink R_Mo 41 R_Mo "light" "[I" ∈ gtbl := gmem (List.mem_append_right _ (List.mem_of_getElem? (i := 784) (by decide +kernel))) (by decide +kernel)
theorem fl_Mo_stateLight : Cond.fieldLink R_Mo 44 R_Mo "stateLight" "[I" ∈ gtbl := gmem (List.mem_append_right _ (List.mem_of_getElem? (i := 785) (by decide +kernel))) (by decide +kernel)
theorem fl_Mo_stored : Cond.fieldLink R_Mo 151 R_Mo "stored" "I" ∈ gtbl := gmem (List.mem_append_right _ (List.mem_of_getElem? (i := 786) (by decide +kernel))) (by decide +kernel)
theorem fl_Mo_different : Cond.fieldLink R_Mo 157 R_Mo "different" "I" ∈ gtbl := gmem (List.mem_append_right _ (List.mem_of_getElem? (i := 787) (by decide +kernel))) (by decide +kernel)
theorem fl_Mo_marked : Cond.fieldLink R_Mo 47 R_Mo "marked" "[Z" ∈ gtbl := gmem (List.mem_append_right _ (List.mem_of_getElem? (i := 788) (by decide +kernel))) (by decide +kernel)
theorem fl_Mo_came : Cond.fieldLink R_Mo 50 R_Mo "came" "[Z" ∈ gtbl := gmem (List.mem_append_right _ (List.mem_of_getElem? (i := 789) (by decide +kernel))) (by decide +kernel)
theorem fl_Mo_level : Cond.fieldLink R_Mo 53 R_Mo "level" "[I" ∈ gtbl := gmem (List.mem_append_right _ (List.mem_of_getElem? (i := 790) (by decide +kernel))) (by decide +kernel)
theorem fl_Mo_many : Cond.fieldLink R_Mo 56 R_Mo "many" "[I" ∈ gtbl := gmem (List.mem_append_right _ (List.mem_of_getElem? (i := 791) (by decide +kernel))) (by decide +kernel)
theorem fl_Mo_open : Cond.fieldLink R_Mo 59 R_Mo "open" "[I" ∈ gtbl := gmem (List.mem_append_right _ (List.mem_of_getElem? (i := 792) (by decide +kernel))) (by decide +kernel)
theorem fl_Mo_path : Cond.fieldLink R_Mo 62 R_Mo "path" "[I" ∈ gtbl := gmem (List.mem_append_right _ (List.mem_of_getElem? (i := 793) (by decide +kernel))) (by decide +kernel)
theorem fl_Mo_side : Cond.fieldLink R_Mo 65 R_Mo "side" "[I" ∈ gtbl := gmem (List.mem_append_right _ (List.mem_of_getElem? (i := 794) (by decide +kernel))) (by decide +kernel)
def R_Ar : String := "java/util/Arrays"
theorem in_Ar : Cond.initialized R_Ar ∈ gtbl := gmem (List.mem_append_right _ (List.mem_of_getElem? (i := 4) (by decide +kernel))) (by decide +kernel)
def R_Ma : String := "java/lang/Math"
theorem in_Ma : Cond.initialized R_Ma ∈ gtbl := gmem (List.mem_append_right _ (List.mem_of_getElem? (i := 3) (by decide +kernel))) (by decide +kernel)
def R_Lw : String := "GroundReachLaw"
theorem in_Lw : Cond.initialized R_Lw ∈ gtbl := gmem (List.mem_append_right _ (List.mem_of_getElem? (i := 0) (by decide +kernel))) (by decide +kernel)
abbrev classes : List vw_C := [(R_Gr, F_Gr, 7), (R_Te, F_Te, 8), (R_Ru, F_Ru, 4), (R_Au, F_Au, 8), (R_Re, F_Re, 8), (R_La, F_La, 4), (R_Sp, F_Sp, 5), (R_Le, F_Le, 10), (R_Mo, F_Mo, 26)]
end
section
section GW
variable {σ τ : Type}
/-- where a walk stands: the world holds the state, apart, in A; nothing else has changed -/
def gIn (D : va_G) (A : Nat → Prop) (s : State) (wf : σ → va_W) (st : σ) (H : Heap) (locs : List Loc) : Prop := va_P D classes (wf st) H ∧ va_D A (wf st) ∧ va_S A s.heap H locs
def gPre (D : va_G) (ty : List (ClassId × FieldType)) (wf : σ → va_W) (st : σ) (sz : Nat) (av : List Value) : Array Value → State → Prop := va_Pc av (fun U => U.heap.size = sz ∧ va_P D classes (wf st) U.heap ∧ va_K D classes ty U ∧ va_D (fun _ => True) (wf st))
def gAt (D : va_G) (ty : List (ClassId × FieldType)) (A : Nat → Prop) (wf : σ → va_W) (st : σ) (t : State) : Prop := va_P D classes (wf st) t.heap ∧ va_K D classes ty t ∧ va_D A (wf st)
def rPre (D : va_G) (ty : List (ClassId × FieldType)) (wf : σ → va_W) (st : σ) (av : List Value) : Array Value → State → Prop := va_Pc av (fun U => va_P D classes (wf st) U.heap ∧ va_K D classes ty U)
def rwI (l : Launch) (y : MethodName) (ws : List Cond) (rm : Room) (D : va_G) (ty : List (ClassId × FieldType)) (wf : σ → va_W) (av : List Value) (st : σ) (F : τ → σ) (Q : Int32 → τ → Prop) : Prop :=
  ∀ sz, Met l y ws rm (gPre D ty wf st sz av) (va_Qi Q (fun u t => gAt D ty (va_A (wf st) sz) wf (F u) t) (va_A (wf st) sz)) 0 0 (va_A (wf st) sz)
def rwV (l : Launch) (y : MethodName) (ws : List Cond) (rm : Room) (D : va_G) (ty : List (ClassId × FieldType)) (wf : σ → va_W) (av : List Value) (st : σ) (F : τ → σ) (Q : τ → Prop) : Prop :=
  ∀ sz, Met l y ws rm (gPre D ty wf st sz av) (va_Qv Q (fun u t => gAt D ty (va_A (wf st) sz) wf (F u) t) (va_A (wf st) sz)) 0 0 (va_A (wf st) sz)
def roI (l : Launch) (y : MethodName) (ws : List Cond) (rm : Room) (D : va_G) (ty : List (ClassId × FieldType)) (wf : σ → va_W) (av : List Value) (st : σ) (Q : Int32 → Prop) : Prop := Met l y ws rm (rPre D ty wf st av) (vp_Si Q) 0 0 (fun _ => False)
def roL (l : Launch) (y : MethodName) (ws : List Cond) (rm : Room) (D : va_G) (ty : List (ClassId × FieldType)) (wf : σ → va_W) (av : List Value) (st : σ) (Q : Int64 → Prop) : Prop := Met l y ws rm (rPre D ty wf st av) (vp_Sl Q) 0 0 (fun _ => False)
abbrev qI (D : va_G) (ty : List (ClassId × FieldType)) (A : Nat → Prop) (wf : σ → va_W) (F : τ → σ) (Q : Int32 → τ → Prop) (below : List Frame) (args : Array Value) (s : State) : State → Prop := MQ below (va_Qi Q (fun u t => gAt D ty A wf (F u) t) A) args s 0 0 A
abbrev qV (D : va_G) (ty : List (ClassId × FieldType)) (A : Nat → Prop) (wf : σ → va_W) (F : τ → σ) (Q : τ → Prop) (below : List Frame) (args : Array Value) (s : State) : State → Prop := MQ below (va_Qv Q (fun u t => gAt D ty A wf (F u) t) A) args s 0 0 A
abbrev qRI (Q : Int32 → Prop) (below : List Frame) (args : Array Value) (s : State) : State → Prop := MQ below (vp_Si Q) args s 0 0 (fun _ => False)
abbrev qRL (Q : Int64 → Prop) (below : List Frame) (args : Array Value) (s : State) : State → Prop := MQ below (vp_Sl Q) args s 0 0 (fun _ => False)
theorem rwI_of {l : Launch} {y : MethodName} {cc : ByteArray} {nL : Nat} {ret : Option FieldType} {rm : Room} {D : va_G} {ty : List (ClassId × FieldType)} {wf : σ → va_W} {av : List Value} {st : σ} {F : τ → σ} {Q : Int32 → τ → Prop} (hy : plainName y.cls = true) (hlen : (lg_sl av).length ≤ nL)
    (body : ∀ (p : Program) (e : Env) (s : State) (m : MethodId) (below : List Frame) (meth : Method) (c : Code), CallFix p m c cc nL s av.toArray gtbl y.cls → meth.sig.returnType = ret → meth.locks = false → va_K D classes ty s → ∀ A : Nat → Prop, (∀ q : Nat, s.heap.size ≤ q → A q) → gIn D A s wf st s.heap [] →
      ∀ ls : Array Slot, lv_has ls nL (lv_args 0 av) → W p l e rm s m av.toArray below meth c s.heap [] 0 0 (qI D ty A wf F Q below av.toArray s) (F0 m 0 ls [])) : rwI l y (wsOf y cc nL ret) rm D ty wf av st F Q := by
  intro sz
  refine Met.ofW (cc := cc) (maxL := nL) (ret := ret) hy rfl ?_
  intro p e s m args below meth c s₁ B hml hv
  obtain ⟨rfl, hsz, hP, hK, hD0⟩ := hv
  have hts := atoms_spec (ws := wsOf y cc nL ret) B.pre
  have hl := lv_entry av (n := nL) hlen
  rw [lg_entry_eq]
  generalize (lg_sl av ++ List.replicate (nL - (lg_sl av).length) Slot.unset).toArray = ls at hl ⊢
  subst hsz
  exact body p e s m below meth c ⟨B.exec, B.bytes, hml, findClass_of_methodNamed B.named, fun w hw => hts w (List.mem_cons_of_mem _ hw)⟩ B.returns B.notSynchronized hK _ (fun q h => Or.inr h) ⟨hP, hD0.self, va_S.rf⟩ ls hl
theorem rwV_of {l : Launch} {y : MethodName} {cc : ByteArray} {nL : Nat} {ret : Option FieldType} {rm : Room} {D : va_G} {ty : List (ClassId × FieldType)} {wf : σ → va_W} {av : List Value} {st : σ} {F : τ → σ} {Q : τ → Prop} (hy : plainName y.cls = true) (hlen : (lg_sl av).length ≤ nL)
    (body : ∀ (p : Program) (e : Env) (s : State) (m : MethodId) (below : List Frame) (meth : Method) (c : Code), CallFix p m c cc nL s av.toArray gtbl y.cls → meth.sig.returnType = ret → meth.locks = false → va_K D classes ty s → ∀ A : Nat → Prop, (∀ q : Nat, s.heap.size ≤ q → A q) → gIn D A s wf st s.heap [] →
      ∀ ls : Array Slot, lv_has ls nL (lv_args 0 av) → W p l e rm s m av.toArray below meth c s.heap [] 0 0 (qV D ty A wf F Q below av.toArray s) (F0 m 0 ls [])) : rwV l y (wsOf y cc nL ret) rm D ty wf av st F Q := by
  intro sz
  refine Met.ofW (cc := cc) (maxL := nL) (ret := ret) hy rfl ?_
  intro p e s m args below meth c s₁ B hml hv
  obtain ⟨rfl, hsz, hP, hK, hD0⟩ := hv
  have hts := atoms_spec (ws := wsOf y cc nL ret) B.pre
  have hl := lv_entry av (n := nL) hlen
  rw [lg_entry_eq]
  generalize (lg_sl av ++ List.replicate (nL - (lg_sl av).length) Slot.unset).toArray = ls at hl ⊢
  subst hsz
  exact body p e s m below meth c ⟨B.exec, B.bytes, hml, findClass_of_methodNamed B.named, fun w hw => hts w (List.mem_cons_of_mem _ hw)⟩ B.returns B.notSynchronized hK _ (fun q h => Or.inr h) ⟨hP, hD0.self, va_S.rf⟩ ls hl
theorem roI_of {l : Launch} {y : MethodName} {cc : ByteArray} {nL : Nat} {ret : Option FieldType} {rm : Room} {D : va_G} {ty : List (ClassId × FieldType)} {wf : σ → va_W} {av : List Value} {st : σ} {Q : Int32 → Prop} (hy : plainName y.cls = true) (hlen : (lg_sl av).length ≤ nL)
    (body : ∀ (p : Program) (e : Env) (s : State) (m : MethodId) (below : List Frame) (meth : Method) (c : Code), CallFix p m c cc nL s av.toArray gtbl y.cls → meth.sig.returnType = ret → meth.locks = false → va_K D classes ty s → va_P D classes (wf st) s.heap →
      ∀ ls : Array Slot, lv_has ls nL (lv_args 0 av) → W p l e rm s m av.toArray below meth c s.heap [] 0 0 (qRI Q below av.toArray s) (F0 m 0 ls [])) : roI l y (wsOf y cc nL ret) rm D ty wf av st Q := by
  refine Met.ofW (cc := cc) (maxL := nL) (ret := ret) hy rfl ?_
  intro p e s m args below meth c s₁ B hml hv
  obtain ⟨rfl, hP, hK⟩ := hv
  have hts := atoms_spec (ws := wsOf y cc nL ret) B.pre
  have hl := lv_entry av (n := nL) hlen
  rw [lg_entry_eq]
  generalize (lg_sl av ++ List.replicate (nL - (lg_sl av).length) Slot.unset).toArray = ls at hl ⊢
  exact body p e s m below meth c ⟨B.exec, B.bytes, hml, findClass_of_methodNamed B.named, fun w hw => hts w (List.mem_cons_of_mem _ hw)⟩ B.returns B.notSynchronized hK hP ls hl
theorem roL_of {l : Launch} {y : MethodName} {cc : ByteArray} {nL : Nat} {ret : Option FieldType} {rm : Room} {D : va_G} {ty : List (ClassId × FieldType)} {wf : σ → va_W} {av : List Value} {st : σ} {Q : Int64 → Prop} (hy : plainName y.cls = true) (hlen : (lg_sl av).length ≤ nL)
    (body : ∀ (p : Program) (e : Env) (s : State) (m : MethodId) (below : List Frame) (meth : Method) (c : Code), CallFix p m c cc nL s av.toArray gtbl y.cls → meth.sig.returnType = ret → meth.locks = false → va_K D classes ty s → va_P D classes (wf st) s.heap →
      ∀ ls : Array Slot, lv_has ls nL (lv_args 0 av) → W p l e rm s m av.toArray below meth c s.heap [] 0 0 (qRL Q below av.toArray s) (F0 m 0 ls [])) : roL l y (wsOf y cc nL ret) rm D ty wf av st Q := by
  refine Met.ofW (cc := cc) (maxL := nL) (ret := ret) hy rfl ?_
  intro p e s m args below meth c s₁ B hml hv
  obtain ⟨rfl, hP, hK⟩ := hv
  have hts := atoms_spec (ws := wsOf y cc nL ret) B.pre
  have hl := lv_entry av (n := nL) hlen
  rw [lg_entry_eq]
  generalize (lg_sl av ++ List.replicate (nL - (lg_sl av).length) Slot.unset).toArray = ls at hl ⊢
  exact body p e s m below meth c ⟨B.exec, B.bytes, hml, findClass_of_methodNamed B.named, fun w hw => hts w (List.mem_cons_of_mem _ hw)⟩ B.returns B.notSynchronized hK hP ls hl
variable {p : Program} {l : Launch} {e : Env} {R : Room} {s : State} {m : MethodId} {args : Array Value} {below : List Frame} {meth : Method} {c : Code} {H : Heap} {locs : List Loc} {Q : State → Prop} {cc : ByteArray} {nL pc : Nat} {ls : Array Slot} {own : String} {D : va_G} {ty : List (ClassId × FieldType)} {A : Nat → Prop} {wf : σ → va_W} {st : σ} {F : τ → σ}
theorem ret_rwi {u : τ} {v : Int32} {Q0 : Int32 → τ → Prop} {Ts : List Cond} (S : CallFix p m c cc nL s args Ts own) (hr : meth.sig.returnType = some .int) (hlk : meth.locks = false) (hK : va_K D classes ty s) (I : gIn D A s wf (F u) H locs) (h : Q0 v u) (d : decode cc pc = .ok (.ireturn, 1)) : W p l e R s m args below meth c H locs 0 0 (qI D ty A wf F Q0 below args s) (F0 m pc ls [.int v]) :=
  W.iret S.1 S.2.1 hr (fun t ht hW => ⟨⟨v, u, rfl, h, by rw [ht]; exact I.1, va_K.moved hW.alike hK, I.2.1⟩, I.2.2.F ht⟩) I.2.2.2.2 d hlk
theorem ret_rwz {u : τ} {v : Int32} {Q0 : Int32 → τ → Prop} {Ts : List Cond} (S : CallFix p m c cc nL s args Ts own) (hr : meth.sig.returnType = some .boolean) (hlk : meth.locks = false) (hK : va_K D classes ty s) (hn : narrow .boolean (.int v) = .int v) (I : gIn D A s wf (F u) H locs) (h : Q0 v u) (d : decode cc pc = .ok (.ireturn, 1)) : W p l e R s m args below meth c H locs 0 0 (qI D ty A wf F Q0 below args s) (F0 m pc ls [.int v]) :=
  W.zret S.1 S.2.1 hr hn (fun t ht hW => ⟨⟨v, u, rfl, h, by rw [ht]; exact I.1, va_K.moved hW.alike hK, I.2.1⟩, I.2.2.F ht⟩) I.2.2.2.2 d hlk
theorem ret_rwv {u : τ} {Q0 : τ → Prop} {Ts : List Cond} (S : CallFix p m c cc nL s args Ts own) (hr : meth.sig.returnType = none) (hlk : meth.locks = false) (hK : va_K D classes ty s) (I : gIn D A s wf (F u) H locs) (h : Q0 u) (d : decode cc pc = .ok (.return_, 1)) : W p l e R s m args below meth c H locs 0 0 (qV D ty A wf F Q0 below args s) (F0 m pc ls []) :=
  W.vret S.1 S.2.1 hr (fun t ht hW => ⟨⟨u, rfl, h, by rw [ht]; exact I.1, va_K.moved hW.alike hK, I.2.1⟩, I.2.2.F ht⟩) I.2.2.2.2 d hlk
theorem ret_roi {v : Int32} {Q0 : Int32 → Prop} {Ts : List Cond} (S : CallFix p m c cc nL s args Ts own) (hr : meth.sig.returnType = some .int) (hlk : meth.locks = false) (h : Q0 v) (d : decode cc pc = .ok (.ireturn, 1)) : W p l e R s m args below meth c s.heap [] 0 0 (qRI Q0 below args s) (F0 m pc ls [.int v]) :=
  W.iret S.1 S.2.1 hr (fun t ht hW => ⟨v, rfl, h, ht⟩) (fun _ h => by cases h) d hlk
theorem ret_roz {v : Int32} {Q0 : Int32 → Prop} {Ts : List Cond} (S : CallFix p m c cc nL s args Ts own) (hr : meth.sig.returnType = some .boolean) (hlk : meth.locks = false) (hn : narrow .boolean (.int v) = .int v) (h : Q0 v) (d : decode cc pc = .ok (.ireturn, 1)) : W p l e R s m args below meth c s.heap [] 0 0 (qRI Q0 below args s) (F0 m pc ls [.int v]) :=
  W.zret S.1 S.2.1 hr hn (fun t ht hW => ⟨v, rfl, h, ht⟩) (fun _ h => by cases h) d hlk
theorem ret_rol {v : Int64} {Q0 : Int64 → Prop} {Ts : List Cond} (S : CallFix p m c cc nL s args Ts own) (hr : meth.sig.returnType = some .long) (hlk : meth.locks = false) (h : Q0 v) (d : decode cc pc = .ok (.lreturn, 1)) : W p l e R s m args below meth c s.heap [] 0 0 (qRL Q0 below args s) (F0 m pc ls [.long v]) :=
  W.lret S.1 S.2.1 hr (fun t ht hW => ⟨v, rfl, h, ht⟩) (fun _ h => by cases h) d hlk
variable {cells slots index n maxL : Nat} {y : MethodName} {bytes : ByteArray} {ret : Option FieldType} {rm : Room} {ws : List Cond} {b : Addr} {As rest st0 : List Value}
theorem gblind {sz : Nat} {av : List Value} : FrameBlind (gPre D ty wf st sz av) := fun a U g mk q => by
  obtain ⟨q0, q1, qP, qK, qD⟩ := q
  exact ⟨q0, q1, qP, va_K.moved (u := U) (U := U.calling g mk a) (Vm.Alike.refl U.vm) qK, qD⟩
theorem rblind {av : List Value} : FrameBlind (rPre D ty wf st av) := fun a U g mk q => by
  obtain ⟨q0, qP, qK⟩ := q
  exact ⟨q0, qP, va_K.moved (u := U) (U := U.calling g mk a) (Vm.Alike.refl U.vm) qK⟩
theorem gfree (hA : ∀ q : Nat, s.heap.size ≤ q → A q) (I : gIn D A s wf st H locs) : ∀ q, va_A (wf st) H.size q → A q := by
  intro q h
  rcases h with ⟨k, e9, h⟩ | h
  · exact I.2.1.2 k _ h
  · exact hA q (Nat.le_trans I.2.2.1 h)
theorem callV_roi {Q0 : Int32 → Prop} (S : CallFix p m c cc nL s args gtbl own) (hM : roI l y ws rm D ty wf (.ref b :: As) st Q0) (cw : CallW R s args own y.cls index y bytes maxL ret ws rm 0 0 n) (hv : ∃ cellB : Cell, H[b]? = some cellB ∧ cellB.vm.isStatics = false ∧ s.vm.findClass y.cls = some cellB.cls) (hK : va_K D classes ty s) (hP : va_P D classes (wf st) H) (hls : ls.size = nL) (hn : As.length = n) (hst : st0 = As.reverse ++ .ref b :: rest) (hw : (rest.map fun v => v.category).sum ≤ 8) (hdg : decode cc pc = .ok (.invokevirtual index, 3)) (hf : cells ≤ R.cells ∧ slots ≤ R.slots)
    (kk : ∀ r : Int32, Q0 r → W p l e R s m args below meth c H locs cells slots Q (F0 m (pc + 3) ls (.int r :: rest))) : W p l e R s m args below meth c H locs cells slots Q (F0 m pc ls st0) :=
  vp_callSi (va_runV S hM cw ⟨rblind, hv, fun U hU hW => ⟨rfl, by rw [hU]; exact hP, va_K.moved hW.alike hK⟩⟩ rfl hn hls hst (lv_room hw) hdg hf).run kk
theorem callV_rol {Q0 : Int64 → Prop} (S : CallFix p m c cc nL s args gtbl own) (hM : roL l y ws rm D ty wf (.ref b :: As) st Q0) (cw : CallW R s args own y.cls index y bytes maxL ret ws rm 0 0 n) (hv : ∃ cellB : Cell, H[b]? = some cellB ∧ cellB.vm.isStatics = false ∧ s.vm.findClass y.cls = some cellB.cls) (hK : va_K D classes ty s) (hP : va_P D classes (wf st) H) (hls : ls.size = nL) (hn : As.length = n) (hst : st0 = As.reverse ++ .ref b :: rest) (hw : (rest.map fun v => v.category).sum ≤ 8) (hdg : decode cc pc = .ok (.invokevirtual index, 3)) (hf : cells ≤ R.cells ∧ slots ≤ R.slots)
    (kk : ∀ r : Int64, Q0 r → W p l e R s m args below meth c H locs cells slots Q (F0 m (pc + 3) ls (.long r :: rest))) : W p l e R s m args below meth c H locs cells slots Q (F0 m pc ls st0) :=
  vp_callSl (va_runV S hM cw ⟨rblind, hv, fun U hU hW => ⟨rfl, by rw [hU]; exact hP, va_K.moved hW.alike hK⟩⟩ rfl hn hls hst (lv_room hw) hdg hf).run kk
theorem callS_roi {Q0 : Int32 → Prop} (S : CallFix p m c cc nL s args gtbl own) (hM : roI l y ws rm D ty wf As st Q0) (cw : CallB R s args own index y bytes maxL ret ws rm 0 0 n ∧ (Cond.static y).before args s = true) (hK : va_K D classes ty s) (hP : va_P D classes (wf st) H) (hls : ls.size = nL) (hn : As.length = n) (hst : st0 = As.reverse ++ rest) (hw : (rest.map fun v => v.category).sum ≤ 8) (hdg : decode cc pc = .ok (.invokestatic index, 3)) (hf : cells ≤ R.cells ∧ slots ≤ R.slots)
    (kk : ∀ r : Int32, Q0 r → W p l e R s m args below meth c H locs cells slots Q (F0 m (pc + 3) ls (.int r :: rest))) : W p l e R s m args below meth c H locs cells slots Q (F0 m pc ls st0) :=
  vp_callSi (va_runS S hM cw ⟨rblind, fun U hU hW => ⟨rfl, by rw [hU]; exact hP, va_K.moved hW.alike hK⟩⟩ rfl hn hls hst (lv_room hw) hdg hf).run kk
theorem callV_rwi {Q0 : Int32 → τ → Prop} (S : CallFix p m c cc nL s args gtbl own) (hM : rwI l y ws rm D ty wf (.ref b :: As) st F Q0) (cw : CallW R s args own y.cls index y bytes maxL ret ws rm 0 0 n) (hv : ∃ cellB : Cell, H[b]? = some cellB ∧ cellB.vm.isStatics = false ∧ s.vm.findClass y.cls = some cellB.cls) (hK : va_K D classes ty s) (hA : ∀ q : Nat, s.heap.size ≤ q → A q) (I : gIn D A s wf st H locs) (hls : ls.size = nL) (hn : As.length = n) (hst : st0 = As.reverse ++ .ref b :: rest) (hw : (rest.map fun v => v.category).sum ≤ 8) (hdg : decode cc pc = .ok (.invokevirtual index, 3)) (hf : cells ≤ R.cells ∧ slots ≤ R.slots)
    (kk : ∀ (r : Int32) (u : τ) (H1 : Heap) (locs1 : List Loc), Q0 r u → gIn D A s wf (F u) H1 locs1 → W p l e R s m args below meth c H1 locs1 cells slots Q (F0 m (pc + 3) ls (.int r :: rest))) : W p l e R s m args below meth c H locs cells slots Q (F0 m pc ls st0) :=
  va_calli (va_runV S (hM H.size) cw ⟨gblind, hv, fun U hU hW => ⟨rfl, by rw [hU], by rw [hU]; exact I.1, va_K.moved hW.alike hK, I.2.1.weaken (fun _ _ _ _ => trivial)⟩⟩ rfl hn hls hst (lv_room hw) hdg hf) I.2.2 (fun q _ h => gfree hA I q h) (gfree hA I) (fun r u t H1 locs1 ht hvm h hB hz hk hS => kk r u H1 locs1 h ⟨by rw [← ht]; exact hB.1, hB.2.2.weaken (fun _ q _ h9 => gfree hA I q.1 h9), hS⟩)
theorem callV_rwv {Q0 : τ → Prop} (S : CallFix p m c cc nL s args gtbl own) (hM : rwV l y ws rm D ty wf (.ref b :: As) st F Q0) (cw : CallW R s args own y.cls index y bytes maxL ret ws rm 0 0 n) (hv : ∃ cellB : Cell, H[b]? = some cellB ∧ cellB.vm.isStatics = false ∧ s.vm.findClass y.cls = some cellB.cls) (hK : va_K D classes ty s) (hA : ∀ q : Nat, s.heap.size ≤ q → A q) (I : gIn D A s wf st H locs) (hls : ls.size = nL) (hn : As.length = n) (hst : st0 = As.reverse ++ .ref b :: rest) (hw : (rest.map fun v => v.category).sum ≤ 8) (hdg : decode cc pc = .ok (.invokevirtual index, 3)) (hf : cells ≤ R.cells ∧ slots ≤ R.slots)
    (kk : ∀ (u : τ) (H1 : Heap) (locs1 : List Loc), Q0 u → gIn D A s wf (F u) H1 locs1 → W p l e R s m args below meth c H1 locs1 cells slots Q (F0 m (pc + 3) ls rest)) : W p l e R s m args below meth c H locs cells slots Q (F0 m pc ls st0) :=
  va_callv (va_runV S (hM H.size) cw ⟨gblind, hv, fun U hU hW => ⟨rfl, by rw [hU], by rw [hU]; exact I.1, va_K.moved hW.alike hK, I.2.1.weaken (fun _ _ _ _ => trivial)⟩⟩ rfl hn hls hst (lv_room hw) hdg hf) I.2.2 (fun q _ h => gfree hA I q h) (gfree hA I) (fun u t H1 locs1 ht hvm h hB hz hk hS => kk u H1 locs1 h ⟨by rw [← ht]; exact hB.1, hB.2.2.weaken (fun _ q _ h9 => gfree hA I q.1 h9), hS⟩)
theorem callS_rwv {Q0 : τ → Prop} (S : CallFix p m c cc nL s args gtbl own) (hM : rwV l y ws rm D ty wf As st F Q0) (cw : CallB R s args own index y bytes maxL ret ws rm 0 0 n ∧ (Cond.static y).before args s = true) (hK : va_K D classes ty s) (hA : ∀ q : Nat, s.heap.size ≤ q → A q) (I : gIn D A s wf st H locs) (hls : ls.size = nL) (hn : As.length = n) (hst : st0 = As.reverse ++ rest) (hw : (rest.map fun v => v.category).sum ≤ 8) (hdg : decode cc pc = .ok (.invokestatic index, 3)) (hf : cells ≤ R.cells ∧ slots ≤ R.slots)
    (kk : ∀ (u : τ) (H1 : Heap) (locs1 : List Loc), Q0 u → gIn D A s wf (F u) H1 locs1 → W p l e R s m args below meth c H1 locs1 cells slots Q (F0 m (pc + 3) ls rest)) : W p l e R s m args below meth c H locs cells slots Q (F0 m pc ls st0) :=
  va_callv (va_runS S (hM H.size) cw ⟨gblind, fun U hU hW => ⟨rfl, by rw [hU], by rw [hU]; exact I.1, va_K.moved hW.alike hK, I.2.1.weaken (fun _ _ _ _ => trivial)⟩⟩ rfl hn hls hst (lv_room hw) hdg hf) I.2.2 (fun q _ h => gfree hA I q h) (gfree hA I) (fun u t H1 locs1 ht hvm h hB hz hk hS => kk u H1 locs1 h ⟨by rw [← ht]; exact hB.1, hB.2.2.weaken (fun _ q _ h9 => gfree hA I q.1 h9), hS⟩)
theorem callS_rwi {Q0 : Int32 → τ → Prop} (S : CallFix p m c cc nL s args gtbl own) (hM : rwI l y ws rm D ty wf As st F Q0) (cw : CallB R s args own index y bytes maxL ret ws rm 0 0 n ∧ (Cond.static y).before args s = true) (hK : va_K D classes ty s) (hA : ∀ q : Nat, s.heap.size ≤ q → A q) (I : gIn D A s wf st H locs) (hls : ls.size = nL) (hn : As.length = n) (hst : st0 = As.reverse ++ rest) (hw : (rest.map fun v => v.category).sum ≤ 8) (hdg : decode cc pc = .ok (.invokestatic index, 3)) (hf : cells ≤ R.cells ∧ slots ≤ R.slots)
    (kk : ∀ (r : Int32) (u : τ) (H1 : Heap) (locs1 : List Loc), Q0 r u → gIn D A s wf (F u) H1 locs1 → W p l e R s m args below meth c H1 locs1 cells slots Q (F0 m (pc + 3) ls (.int r :: rest))) : W p l e R s m args below meth c H locs cells slots Q (F0 m pc ls st0) :=
  va_calli (va_runS S (hM H.size) cw ⟨gblind, fun U hU hW => ⟨rfl, by rw [hU], by rw [hU]; exact I.1, va_K.moved hW.alike hK, I.2.1.weaken (fun _ _ _ _ => trivial)⟩⟩ rfl hn hls hst (lv_room hw) hdg hf) I.2.2 (fun q _ h => gfree hA I q h) (gfree hA I) (fun r u t H1 locs1 ht hvm h hB hz hk hS => kk r u H1 locs1 h ⟨by rw [← ht]; exact hB.1, hB.2.2.weaken (fun _ q _ h9 => gfree hA I q.1 h9), hS⟩)
end GW
end
section
abbrev Te : Type := (Nat → Int32) × (Nat → Int32) × (Nat → Int32) × (Nat → Int32) × (Nat → Int32) × (Nat → Int32) × (Nat → Int32) × Int32
abbrev Te_places (t : Te) : (Nat → Int32) := t.1
abbrev Te_places_s (t : Te) (x : (Nat → Int32)) : Te := (x, t.2.1, t.2.2.1, t.2.2.2.1, t.2.2.2.2.1, t.2.2.2.2.2.1, t.2.2.2.2.2.2.1, t.2.2.2.2.2.2.2)
abbrev Te_symbol (t : Te) : (Nat → Int32) := t.2.1
abbrev Te_symbol_s (t : Te) (x : (Nat → Int32)) : Te := (t.1, x, t.2.2.1, t.2.2.2.1, t.2.2.2.2.1, t.2.2.2.2.2.1, t.2.2.2.2.2.2.1, t.2.2.2.2.2.2.2)
abbrev Te_first (t : Te) : (Nat → Int32) := t.2.2.1
abbrev Te_first_s (t : Te) (x : (Nat → Int32)) : Te := (t.1, t.2.1, x, t.2.2.2.1, t.2.2.2.2.1, t.2.2.2.2.2.1, t.2.2.2.2.2.2.1, t.2.2.2.2.2.2.2)
abbrev Te_second (t : Te) : (Nat → Int32) := t.2.2.2.1
abbrev Te_second_s (t : Te) (x : (Nat → Int32)) : Te := (t.1, t.2.1, t.2.2.1, x, t.2.2.2.2.1, t.2.2.2.2.2.1, t.2.2.2.2.2.2.1, t.2.2.2.2.2.2.2)
abbrev Te_size (t : Te) : (Nat → Int32) := t.2.2.2.2.1
abbrev Te_size_s (t : Te) (x : (Nat → Int32)) : Te := (t.1, t.2.1, t.2.2.1, t.2.2.2.1, x, t.2.2.2.2.2.1, t.2.2.2.2.2.2.1, t.2.2.2.2.2.2.2)
abbrev Te_newestIn (t : Te) : (Nat → Int32) := t.2.2.2.2.2.1
abbrev Te_newestIn_s (t : Te) (x : (Nat → Int32)) : Te := (t.1, t.2.1, t.2.2.1, t.2.2.2.1, t.2.2.2.2.1, x, t.2.2.2.2.2.2.1, t.2.2.2.2.2.2.2)
abbrev Te_olderInBucket (t : Te) : (Nat → Int32) := t.2.2.2.2.2.2.1
abbrev Te_olderInBucket_s (t : Te) (x : (Nat → Int32)) : Te := (t.1, t.2.1, t.2.2.1, t.2.2.2.1, t.2.2.2.2.1, t.2.2.2.2.2.1, x, t.2.2.2.2.2.2.2)
abbrev Te_count (t : Te) : Int32 := t.2.2.2.2.2.2.2
abbrev Te_count_s (t : Te) (x : Int32) : Te := (t.1, t.2.1, t.2.2.1, t.2.2.2.1, t.2.2.2.2.1, t.2.2.2.2.2.1, t.2.2.2.2.2.2.1, x)
abbrev Ru : Type := (Nat → Int32) × (Nat → Int32) × Int32 × Int32
abbrev Ru_left (t : Ru) : (Nat → Int32) := t.1
abbrev Ru_left_s (t : Ru) (x : (Nat → Int32)) : Ru := (x, t.2.1, t.2.2.1, t.2.2.2)
abbrev Ru_right (t : Ru) : (Nat → Int32) := t.2.1
abbrev Ru_right_s (t : Ru) (x : (Nat → Int32)) : Ru := (t.1, x, t.2.2.1, t.2.2.2)
abbrev Ru_count (t : Ru) : Int32 := t.2.2.1
abbrev Ru_count_s (t : Ru) (x : Int32) : Ru := (t.1, t.2.1, x, t.2.2.2)
abbrev Ru_changes (t : Ru) : Int32 := t.2.2.2
abbrev Ru_changes_s (t : Ru) (x : Int32) : Ru := (t.1, t.2.1, t.2.2.1, x)
abbrev Au : Type := (Nat → Int32) × (Nat → Int32) × (Nat → Int32) × (Nat → Int32) × (Nat → Int32) × Int32 × Int32
abbrev Au_symbol (t : Au) : (Nat → Int32) := t.1
abbrev Au_symbol_s (t : Au) (x : (Nat → Int32)) : Au := (x, t.2.1, t.2.2.1, t.2.2.2.1, t.2.2.2.2.1, t.2.2.2.2.2.1, t.2.2.2.2.2.2)
abbrev Au_first (t : Au) : (Nat → Int32) := t.2.1
abbrev Au_first_s (t : Au) (x : (Nat → Int32)) : Au := (t.1, x, t.2.2.1, t.2.2.2.1, t.2.2.2.2.1, t.2.2.2.2.2.1, t.2.2.2.2.2.2)
abbrev Au_second (t : Au) : (Nat → Int32) := t.2.2.1
abbrev Au_second_s (t : Au) (x : (Nat → Int32)) : Au := (t.1, t.2.1, x, t.2.2.2.1, t.2.2.2.2.1, t.2.2.2.2.2.1, t.2.2.2.2.2.2)
abbrev Au_target (t : Au) : (Nat → Int32) := t.2.2.2.1
abbrev Au_target_s (t : Au) (x : (Nat → Int32)) : Au := (t.1, t.2.1, t.2.2.1, x, t.2.2.2.2.1, t.2.2.2.2.2.1, t.2.2.2.2.2.2)
abbrev Au_weight (t : Au) : (Nat → Int32) := t.2.2.2.2.1
abbrev Au_weight_s (t : Au) (x : (Nat → Int32)) : Au := (t.1, t.2.1, t.2.2.1, t.2.2.2.1, x, t.2.2.2.2.2.1, t.2.2.2.2.2.2)
abbrev Au_count (t : Au) : Int32 := t.2.2.2.2.2.1
abbrev Au_count_s (t : Au) (x : Int32) : Au := (t.1, t.2.1, t.2.2.1, t.2.2.2.1, t.2.2.2.2.1, x, t.2.2.2.2.2.2)
abbrev Au_finals (t : Au) : Int32 := t.2.2.2.2.2.2
abbrev Au_finals_s (t : Au) (x : Int32) : Au := (t.1, t.2.1, t.2.2.1, t.2.2.2.1, t.2.2.2.2.1, t.2.2.2.2.2.1, x)
abbrev Re : Type := (Nat → Int64) × (Nat → Int64) × (Nat → Int32) × Int32 × Int32 × Int32
abbrev Re_reached (t : Re) : (Nat → Int64) := t.1
abbrev Re_reached_s (t : Re) (x : (Nat → Int64)) : Re := (x, t.2.1, t.2.2.1, t.2.2.2.1, t.2.2.2.2.1, t.2.2.2.2.2)
abbrev Re_joined (t : Re) : (Nat → Int64) := t.2.1
abbrev Re_joined_s (t : Re) (x : (Nat → Int64)) : Re := (t.1, x, t.2.2.1, t.2.2.2.1, t.2.2.2.2.1, t.2.2.2.2.2)
abbrev Re_least (t : Re) : (Nat → Int32) := t.2.2.1
abbrev Re_least_s (t : Re) (x : (Nat → Int32)) : Re := (t.1, t.2.1, x, t.2.2.2.1, t.2.2.2.2.1, t.2.2.2.2.2)
abbrev Re_termsThen (t : Re) : Int32 := t.2.2.2.1
abbrev Re_termsThen_s (t : Re) (x : Int32) : Re := (t.1, t.2.1, t.2.2.1, x, t.2.2.2.2.1, t.2.2.2.2.2)
abbrev Re_changesThen (t : Re) : Int32 := t.2.2.2.2.1
abbrev Re_changesThen_s (t : Re) (x : Int32) : Re := (t.1, t.2.1, t.2.2.1, t.2.2.2.1, x, t.2.2.2.2.2)
abbrev Re_joinedKnown (t : Re) : Int32 := t.2.2.2.2.2
abbrev Re_joinedKnown_s (t : Re) (x : Int32) : Re := (t.1, t.2.1, t.2.2.1, t.2.2.2.1, t.2.2.2.2.1, x)
abbrev La : Type := (Nat → Int32)
abbrev La_states (t : La) : (Nat → Int32) := t
abbrev La_states_s (t : La) (x : (Nat → Int32)) : La := x
abbrev Sp : Type := (Nat → Int64) × (Nat → Int32) × (Nat → Int32)
abbrev Sp_counts (t : Sp) : (Nat → Int64) := t.1
abbrev Sp_counts_s (t : Sp) (x : (Nat → Int64)) : Sp := (x, t.2.1, t.2.2)
abbrev Sp_path (t : Sp) : (Nat → Int32) := t.2.1
abbrev Sp_path_s (t : Sp) (x : (Nat → Int32)) : Sp := (t.1, x, t.2.2)
abbrev Sp_wentFirst (t : Sp) : (Nat → Int32) := t.2.2
abbrev Sp_wentFirst_s (t : Sp) (x : (Nat → Int32)) : Sp := (t.1, t.2.1, x)
abbrev Le : Type := (Nat → Int64) × (Nat → Int32) × (Nat → Int32) × (Nat → Int64) × (Nat → Int64) × (Nat → Int64) × (Nat → Int32) × Int32
abbrev Le_after (t : Le) : (Nat → Int64) := t.1
abbrev Le_after_s (t : Le) (x : (Nat → Int64)) : Le := (x, t.2.1, t.2.2.1, t.2.2.2.1, t.2.2.2.2.1, t.2.2.2.2.2.1, t.2.2.2.2.2.2.1, t.2.2.2.2.2.2.2)
abbrev Le_counted (t : Le) : (Nat → Int32) := t.2.1
abbrev Le_counted_s (t : Le) (x : (Nat → Int32)) : Le := (t.1, x, t.2.2.1, t.2.2.2.1, t.2.2.2.2.1, t.2.2.2.2.2.1, t.2.2.2.2.2.2.1, t.2.2.2.2.2.2.2)
abbrev Le_expanded (t : Le) : (Nat → Int32) := t.2.2.1
abbrev Le_expanded_s (t : Le) (x : (Nat → Int32)) : Le := (t.1, t.2.1, x, t.2.2.2.1, t.2.2.2.2.1, t.2.2.2.2.2.1, t.2.2.2.2.2.2.1, t.2.2.2.2.2.2.2)
abbrev Le_inLevels (t : Le) : (Nat → Int64) := t.2.2.2.1
abbrev Le_inLevels_s (t : Le) (x : (Nat → Int64)) : Le := (t.1, t.2.1, t.2.2.1, x, t.2.2.2.2.1, t.2.2.2.2.2.1, t.2.2.2.2.2.2.1, t.2.2.2.2.2.2.2)
abbrev Le_newest (t : Le) : (Nat → Int64) := t.2.2.2.2.1
abbrev Le_newest_s (t : Le) (x : (Nat → Int64)) : Le := (t.1, t.2.1, t.2.2.1, t.2.2.2.1, x, t.2.2.2.2.2.1, t.2.2.2.2.2.2.1, t.2.2.2.2.2.2.2)
abbrev Le_coming (t : Le) : (Nat → Int64) := t.2.2.2.2.2.1
abbrev Le_coming_s (t : Le) (x : (Nat → Int64)) : Le := (t.1, t.2.1, t.2.2.1, t.2.2.2.1, t.2.2.2.2.1, x, t.2.2.2.2.2.2.1, t.2.2.2.2.2.2.2)
abbrev Le_waiting (t : Le) : (Nat → Int32) := t.2.2.2.2.2.2.1
abbrev Le_waiting_s (t : Le) (x : (Nat → Int32)) : Le := (t.1, t.2.1, t.2.2.1, t.2.2.2.1, t.2.2.2.2.1, t.2.2.2.2.2.1, x, t.2.2.2.2.2.2.2)
abbrev Le_countedTerms (t : Le) : Int32 := t.2.2.2.2.2.2.2
abbrev Le_countedTerms_s (t : Le) (x : Int32) : Le := (t.1, t.2.1, t.2.2.1, t.2.2.2.1, t.2.2.2.2.1, t.2.2.2.2.2.1, t.2.2.2.2.2.2.1, x)
abbrev StC : Type := Te × Ru × Au × Re × La × Sp × Le
def wC (ad : Nat → Nat) (cA : ClassId × ClassId × ClassId) (st : StC) : va_W := [(ad 0, .inr (0, [.ref (ad 1), .ref (ad 9), .ref (ad 12), .ref (ad 18), .ref (ad 22), .ref (ad 24), .ref (ad 28)])),
  (ad 1, .inr (1, [.ref (ad 2), .ref (ad 3), .ref (ad 4), .ref (ad 5), .ref (ad 6), .ref (ad 7), .ref (ad 8), .int (Te_count st.1)])),
  (ad 2, .inl (cA.1, 6, .inl (Te_places st.1))),
  (ad 3, .inl (cA.1, 448, .inl (Te_symbol st.1))),
  (ad 4, .inl (cA.1, 448, .inl (Te_first st.1))),
  (ad 5, .inl (cA.1, 448, .inl (Te_second st.1))),
  (ad 6, .inl (cA.1, 448, .inl (Te_size st.1))),
  (ad 7, .inl (cA.1, 256, .inl (Te_newestIn st.1))),
  (ad 8, .inl (cA.1, 448, .inl (Te_olderInBucket st.1))),
  (ad 9, .inr (2, [.ref (ad 10), .ref (ad 11), .int (Ru_count st.2.1), .int (Ru_changes st.2.1)])),
  (ad 10, .inl (cA.1, 8, .inl (Ru_left st.2.1))),
  (ad 11, .inl (cA.1, 8, .inl (Ru_right st.2.1))),
  (ad 12, .inr (3, [.ref (ad 1), .ref (ad 13), .ref (ad 14), .ref (ad 15), .ref (ad 16), .ref (ad 17), .int (Au_count st.2.2.1), .int (Au_finals st.2.2.1)])),
  (ad 13, .inl (cA.1, 20, .inl (Au_symbol st.2.2.1))),
  (ad 14, .inl (cA.1, 20, .inl (Au_first st.2.2.1))),
  (ad 15, .inl (cA.1, 20, .inl (Au_second st.2.2.1))),
  (ad 16, .inl (cA.1, 20, .inl (Au_target st.2.2.1))),
  (ad 17, .inl (cA.1, 6, .inl (Au_weight st.2.2.1))),
  (ad 18, .inr (4, [.ref (ad 1), .ref (ad 9), .ref (ad 19), .ref (ad 20), .ref (ad 21), .int (Re_termsThen st.2.2.2.1), .int (Re_changesThen st.2.2.2.1), .int (Re_joinedKnown st.2.2.2.1)])),
  (ad 19, .inl (cA.2.1, 48, .inr (.inl (Re_reached st.2.2.2.1)))),
  (ad 20, .inl (cA.2.1, 48, .inr (.inl (Re_joined st.2.2.2.1)))),
  (ad 21, .inl (cA.1, 48, .inl (Re_least st.2.2.2.1))),
  (ad 22, .inr (5, [.ref (ad 1), .ref (ad 12), .ref (ad 18), .ref (ad 23)])),
  (ad 23, .inl (cA.1, 48, .inl (La_states st.2.2.2.2.1))),
  (ad 24, .inr (6, [.ref (ad 1), .ref (ad 9), .ref (ad 25), .ref (ad 26), .ref (ad 27)])),
  (ad 25, .inl (cA.2.1, 48, .inr (.inl (Sp_counts st.2.2.2.2.2.1)))),
  (ad 26, .inl (cA.1, 48, .inl (Sp_path st.2.2.2.2.2.1))),
  (ad 27, .inl (cA.2.2, 48, .inl (Sp_wentFirst st.2.2.2.2.2.1))),
  (ad 28, .inr (7, [.ref (ad 1), .ref (ad 9), .ref (ad 29), .ref (ad 30), .ref (ad 31), .ref (ad 32), .ref (ad 33), .ref (ad 34), .ref (ad 35), .int (Le_countedTerms st.2.2.2.2.2.2)])),
  (ad 29, .inl (cA.2.1, 3136, .inr (.inl (Le_after st.2.2.2.2.2.2)))),
  (ad 30, .inl (cA.2.2, 448, .inl (Le_counted st.2.2.2.2.2.2))),
  (ad 31, .inl (cA.2.2, 448, .inl (Le_expanded st.2.2.2.2.2.2))),
  (ad 32, .inl (cA.2.1, 7, .inr (.inl (Le_inLevels st.2.2.2.2.2.2)))),
  (ad 33, .inl (cA.2.1, 7, .inr (.inl (Le_newest st.2.2.2.2.2.2)))),
  (ad 34, .inl (cA.2.1, 7, .inr (.inl (Le_coming st.2.2.2.2.2.2)))),
  (ad 35, .inl (cA.1, 448, .inl (Le_waiting st.2.2.2.2.2.2)))]
section
variable {p : Program} {l : Launch} {e : Env} {R : Room} {s : State} {m : MethodId} {args : Array Value} {below : List Frame} {meth : Method} {c : Code} {H : Heap} {locs : List Loc} {cells slots : Nat} {Q : State → Prop} {cc : ByteArray} {nL pc : Nat} {ls : Array Slot} {rest : List Value} {own : String} {D : va_G} {A : Nat → Prop} {ad : Nat → Nat} {cA : ClassId × ClassId × ClassId} {te : Te} {ru : Ru} {au : Au} {re : Re} {la : La} {sp : Sp} {le : Le}
theorem g_Gr_terms (S : CallFix p m c cc nL s args gtbl R_Gr) (hK : va_K D classes (tyA cA) s) (hP : va_P D classes (wC ad cA (te, ru, au, re, la, sp, le)) H) (hdg : decode cc pc = .ok (.getfield 14, 3)) (kk : W p l e R s m args below meth c H locs cells slots Q (F0 m (pc + 3) ls (.ref (ad 1) :: rest))) : W p l e R s m args below meth c H locs cells slots Q (F0 m pc ls (.ref (ad 0) :: rest)) :=
  va_get (D := D) (ci := 0) (v := .ref (ad 1)) (C := R_Gr) (T := F_Gr) (N := 7) S.1 S.2.1 S.2.2.2.2 u_Gr S.2.2.2.1 hK hP 0 rfl rfl 0 (by decide) (S.2.2.2.2 _ fl_Gr_terms) (fun _ h => h) rfl hdg kk
theorem g_Gr_rules (S : CallFix p m c cc nL s args gtbl R_Gr) (hK : va_K D classes (tyA cA) s) (hP : va_P D classes (wC ad cA (te, ru, au, re, la, sp, le)) H) (hdg : decode cc pc = .ok (.getfield 21, 3)) (kk : W p l e R s m args below meth c H locs cells slots Q (F0 m (pc + 3) ls (.ref (ad 9) :: rest))) : W p l e R s m args below meth c H locs cells slots Q (F0 m pc ls (.ref (ad 0) :: rest)) :=
  va_get (D := D) (ci := 0) (v := .ref (ad 9)) (C := R_Gr) (T := F_Gr) (N := 7) S.1 S.2.1 S.2.2.2.2 u_Gr S.2.2.2.1 hK hP 0 rfl rfl 1 (by decide) (S.2.2.2.2 _ fl_Gr_rules) (fun _ h => h) rfl hdg kk
theorem g_Gr_automaton (S : CallFix p m c cc nL s args gtbl R_Gr) (hK : va_K D classes (tyA cA) s) (hP : va_P D classes (wC ad cA (te, ru, au, re, la, sp, le)) H) (hdg : decode cc pc = .ok (.getfield 30, 3)) (kk : W p l e R s m args below meth c H locs cells slots Q (F0 m (pc + 3) ls (.ref (ad 12) :: rest))) : W p l e R s m args below meth c H locs cells slots Q (F0 m pc ls (.ref (ad 0) :: rest)) :=
  va_get (D := D) (ci := 0) (v := .ref (ad 12)) (C := R_Gr) (T := F_Gr) (N := 7) S.1 S.2.1 S.2.2.2.2 u_Gr S.2.2.2.1 hK hP 0 rfl rfl 2 (by decide) (S.2.2.2.2 _ fl_Gr_automaton) (fun _ h => h) rfl hdg kk
theorem g_Gr_relations (S : CallFix p m c cc nL s args gtbl R_Gr) (hK : va_K D classes (tyA cA) s) (hP : va_P D classes (wC ad cA (te, ru, au, re, la, sp, le)) H) (hdg : decode cc pc = .ok (.getfield 39, 3)) (kk : W p l e R s m args below meth c H locs cells slots Q (F0 m (pc + 3) ls (.ref (ad 18) :: rest))) : W p l e R s m args below meth c H locs cells slots Q (F0 m pc ls (.ref (ad 0) :: rest)) :=
  va_get (D := D) (ci := 0) (v := .ref (ad 18)) (C := R_Gr) (T := F_Gr) (N := 7) S.1 S.2.1 S.2.2.2.2 u_Gr S.2.2.2.1 hK hP 0 rfl rfl 3 (by decide) (S.2.2.2.2 _ fl_Gr_relations) (fun _ h => h) rfl hdg kk
theorem g_Gr_languages (S : CallFix p m c cc nL s args gtbl R_Gr) (hK : va_K D classes (tyA cA) s) (hP : va_P D classes (wC ad cA (te, ru, au, re, la, sp, le)) H) (hdg : decode cc pc = .ok (.getfield 48, 3)) (kk : W p l e R s m args below meth c H locs cells slots Q (F0 m (pc + 3) ls (.ref (ad 22) :: rest))) : W p l e R s m args below meth c H locs cells slots Q (F0 m pc ls (.ref (ad 0) :: rest)) :=
  va_get (D := D) (ci := 0) (v := .ref (ad 22)) (C := R_Gr) (T := F_Gr) (N := 7) S.1 S.2.1 S.2.2.2.2 u_Gr S.2.2.2.1 hK hP 0 rfl rfl 4 (by decide) (S.2.2.2.2 _ fl_Gr_languages) (fun _ h => h) rfl hdg kk
theorem g_Gr_steps (S : CallFix p m c cc nL s args gtbl R_Gr) (hK : va_K D classes (tyA cA) s) (hP : va_P D classes (wC ad cA (te, ru, au, re, la, sp, le)) H) (hdg : decode cc pc = .ok (.getfield 55, 3)) (kk : W p l e R s m args below meth c H locs cells slots Q (F0 m (pc + 3) ls (.ref (ad 24) :: rest))) : W p l e R s m args below meth c H locs cells slots Q (F0 m pc ls (.ref (ad 0) :: rest)) :=
  va_get (D := D) (ci := 0) (v := .ref (ad 24)) (C := R_Gr) (T := F_Gr) (N := 7) S.1 S.2.1 S.2.2.2.2 u_Gr S.2.2.2.1 hK hP 0 rfl rfl 5 (by decide) (S.2.2.2.2 _ fl_Gr_steps) (fun _ h => h) rfl hdg kk
theorem g_Gr_levels (S : CallFix p m c cc nL s args gtbl R_Gr) (hK : va_K D classes (tyA cA) s) (hP : va_P D classes (wC ad cA (te, ru, au, re, la, sp, le)) H) (hdg : decode cc pc = .ok (.getfield 62, 3)) (kk : W p l e R s m args below meth c H locs cells slots Q (F0 m (pc + 3) ls (.ref (ad 28) :: rest))) : W p l e R s m args below meth c H locs cells slots Q (F0 m pc ls (.ref (ad 0) :: rest)) :=
  va_get (D := D) (ci := 0) (v := .ref (ad 28)) (C := R_Gr) (T := F_Gr) (N := 7) S.1 S.2.1 S.2.2.2.2 u_Gr S.2.2.2.1 hK hP 0 rfl rfl 6 (by decide) (S.2.2.2.2 _ fl_Gr_levels) (fun _ h => h) rfl hdg kk
theorem g_Te_places (S : CallFix p m c cc nL s args gtbl R_Te) (hK : va_K D classes (tyA cA) s) (hP : va_P D classes (wC ad cA (te, ru, au, re, la, sp, le)) H) (hdg : decode cc pc = .ok (.getfield 9, 3)) (kk : W p l e R s m args below meth c H locs cells slots Q (F0 m (pc + 3) ls (.ref (ad 2) :: rest))) : W p l e R s m args below meth c H locs cells slots Q (F0 m pc ls (.ref (ad 1) :: rest)) :=
  va_get (D := D) (ci := 1) (v := .ref (ad 2)) (C := R_Te) (T := F_Te) (N := 8) S.1 S.2.1 S.2.2.2.2 u_Te S.2.2.2.1 hK hP 1 rfl rfl 0 (by decide) (S.2.2.2.2 _ fl_Te_places) (fun _ h => h) rfl hdg kk
theorem g_Te_symbol (S : CallFix p m c cc nL s args gtbl R_Te) (hK : va_K D classes (tyA cA) s) (hP : va_P D classes (wC ad cA (te, ru, au, re, la, sp, le)) H) (hdg : decode cc pc = .ok (.getfield 15, 3)) (kk : W p l e R s m args below meth c H locs cells slots Q (F0 m (pc + 3) ls (.ref (ad 3) :: rest))) : W p l e R s m args below meth c H locs cells slots Q (F0 m pc ls (.ref (ad 1) :: rest)) :=
  va_get (D := D) (ci := 1) (v := .ref (ad 3)) (C := R_Te) (T := F_Te) (N := 8) S.1 S.2.1 S.2.2.2.2 u_Te S.2.2.2.1 hK hP 1 rfl rfl 1 (by decide) (S.2.2.2.2 _ fl_Te_symbol) (fun _ h => h) rfl hdg kk
theorem g_Te_first (S : CallFix p m c cc nL s args gtbl R_Te) (hK : va_K D classes (tyA cA) s) (hP : va_P D classes (wC ad cA (te, ru, au, re, la, sp, le)) H) (hdg : decode cc pc = .ok (.getfield 18, 3)) (kk : W p l e R s m args below meth c H locs cells slots Q (F0 m (pc + 3) ls (.ref (ad 4) :: rest))) : W p l e R s m args below meth c H locs cells slots Q (F0 m pc ls (.ref (ad 1) :: rest)) :=
  va_get (D := D) (ci := 1) (v := .ref (ad 4)) (C := R_Te) (T := F_Te) (N := 8) S.1 S.2.1 S.2.2.2.2 u_Te S.2.2.2.1 hK hP 1 rfl rfl 2 (by decide) (S.2.2.2.2 _ fl_Te_first) (fun _ h => h) rfl hdg kk
theorem g_Te_second (S : CallFix p m c cc nL s args gtbl R_Te) (hK : va_K D classes (tyA cA) s) (hP : va_P D classes (wC ad cA (te, ru, au, re, la, sp, le)) H) (hdg : decode cc pc = .ok (.getfield 21, 3)) (kk : W p l e R s m args below meth c H locs cells slots Q (F0 m (pc + 3) ls (.ref (ad 5) :: rest))) : W p l e R s m args below meth c H locs cells slots Q (F0 m pc ls (.ref (ad 1) :: rest)) :=
  va_get (D := D) (ci := 1) (v := .ref (ad 5)) (C := R_Te) (T := F_Te) (N := 8) S.1 S.2.1 S.2.2.2.2 u_Te S.2.2.2.1 hK hP 1 rfl rfl 3 (by decide) (S.2.2.2.2 _ fl_Te_second) (fun _ h => h) rfl hdg kk
theorem g_Te_size (S : CallFix p m c cc nL s args gtbl R_Te) (hK : va_K D classes (tyA cA) s) (hP : va_P D classes (wC ad cA (te, ru, au, re, la, sp, le)) H) (hdg : decode cc pc = .ok (.getfield 24, 3)) (kk : W p l e R s m args below meth c H locs cells slots Q (F0 m (pc + 3) ls (.ref (ad 6) :: rest))) : W p l e R s m args below meth c H locs cells slots Q (F0 m pc ls (.ref (ad 1) :: rest)) :=
  va_get (D := D) (ci := 1) (v := .ref (ad 6)) (C := R_Te) (T := F_Te) (N := 8) S.1 S.2.1 S.2.2.2.2 u_Te S.2.2.2.1 hK hP 1 rfl rfl 4 (by decide) (S.2.2.2.2 _ fl_Te_size) (fun _ h => h) rfl hdg kk
theorem g_Te_newestIn (S : CallFix p m c cc nL s args gtbl R_Te) (hK : va_K D classes (tyA cA) s) (hP : va_P D classes (wC ad cA (te, ru, au, re, la, sp, le)) H) (hdg : decode cc pc = .ok (.getfield 27, 3)) (kk : W p l e R s m args below meth c H locs cells slots Q (F0 m (pc + 3) ls (.ref (ad 7) :: rest))) : W p l e R s m args below meth c H locs cells slots Q (F0 m pc ls (.ref (ad 1) :: rest)) :=
  va_get (D := D) (ci := 1) (v := .ref (ad 7)) (C := R_Te) (T := F_Te) (N := 8) S.1 S.2.1 S.2.2.2.2 u_Te S.2.2.2.1 hK hP 1 rfl rfl 5 (by decide) (S.2.2.2.2 _ fl_Te_newestIn) (fun _ h => h) rfl hdg kk
theorem g_Te_olderInBucket (S : CallFix p m c cc nL s args gtbl R_Te) (hK : va_K D classes (tyA cA) s) (hP : va_P D classes (wC ad cA (te, ru, au, re, la, sp, le)) H) (hdg : decode cc pc = .ok (.getfield 30, 3)) (kk : W p l e R s m args below meth c H locs cells slots Q (F0 m (pc + 3) ls (.ref (ad 8) :: rest))) : W p l e R s m args below meth c H locs cells slots Q (F0 m pc ls (.ref (ad 1) :: rest)) :=
  va_get (D := D) (ci := 1) (v := .ref (ad 8)) (C := R_Te) (T := F_Te) (N := 8) S.1 S.2.1 S.2.2.2.2 u_Te S.2.2.2.1 hK hP 1 rfl rfl 6 (by decide) (S.2.2.2.2 _ fl_Te_olderInBucket) (fun _ h => h) rfl hdg kk
theorem g_Te_count (S : CallFix p m c cc nL s args gtbl R_Te) (hK : va_K D classes (tyA cA) s) (hP : va_P D classes (wC ad cA (te, ru, au, re, la, sp, le)) H) (hdg : decode cc pc = .ok (.getfield 45, 3)) (kk : W p l e R s m args below meth c H locs cells slots Q (F0 m (pc + 3) ls (.int (Te_count te) :: rest))) : W p l e R s m args below meth c H locs cells slots Q (F0 m pc ls (.ref (ad 1) :: rest)) :=
  va_get (D := D) (ci := 1) (v := .int (Te_count te)) (C := R_Te) (T := F_Te) (N := 8) S.1 S.2.1 S.2.2.2.2 u_Te S.2.2.2.1 hK hP 1 rfl rfl 7 (by decide) (S.2.2.2.2 _ fl_Te_count) (fun _ h => h) rfl hdg kk
theorem q_Te_count (S : CallFix p m c cc nL s args gtbl R_Te) (hK : va_K D classes (tyA cA) s) (I : gIn D A s (wC ad cA) (te, ru, au, re, la, sp, le) H locs) {v : Int32} (hdg : decode cc pc = .ok (.putfield 45, 3)) (kk : ∀ (H1 : Heap) (locs1 : List Loc), gIn D A s (wC ad cA) (Te_count_s te v, ru, au, re, la, sp, le) H1 locs1 → W p l e R s m args below meth c H1 locs1 cells slots Q (F0 m (pc + 3) ls rest)) : W p l e R s m args below meth c H locs cells slots Q (F0 m pc ls (.int v :: .ref (ad 1) :: rest)) :=
  va_put (D := D) (ci := 1) (v := .int v) (ty := .int) (C := R_Te) (T := F_Te) (N := 8) S.1 S.2.1 S.2.2.2.2 u_Te t_Te t_Te_ok n_Te S.2.2.2.1 hK I.1 I.2.1 I.2.2 1 rfl rfl 7 (by decide) (S.2.2.2.2 _ fl_Te_count) (fun _ h => h) rfl (by decide +kernel) rfl rfl (Nat.le_of_ble_eq_true rfl) hdg (fun H1 locs1 a b d => kk H1 locs1 ⟨a, b, d⟩)
theorem a_Te_places (S : CallFix p m c cc nL s args gtbl own) (hK : va_K D classes (tyA cA) s) (hP : va_P D classes (wC ad cA (te, ru, au, re, la, sp, le)) H) {i : Int32} (hin : vp_in i 6) (hdg : decode cc pc = .ok (.iaload, 1)) (kk : W p l e R s m args below meth c H locs cells slots Q (F0 m (pc + 1) ls (.int (Te_places te i.toNatClampNeg) :: rest))) : W p l e R s m args below meth c H locs cells slots Q (F0 m pc ls (.int i :: .ref (ad 2) :: rest)) :=
  va_iald S.1 S.2.1 hK hP 2 0 rfl rfl hin hdg kk
theorem s_Te_places (S : CallFix p m c cc nL s args gtbl own) (hK : va_K D classes (tyA cA) s) (I : gIn D A s (wC ad cA) (te, ru, au, re, la, sp, le) H locs) {i : Int32} {x : Int32} (hin : vp_in i 6) (hdg : decode cc pc = .ok (.iastore, 1)) (kk : ∀ (H1 : Heap) (locs1 : List Loc), gIn D A s (wC ad cA) (Te_places_s te (upd (Te_places te) i.toNatClampNeg x), ru, au, re, la, sp, le) H1 locs1 → W p l e R s m args below meth c H1 locs1 cells slots Q (F0 m (pc + 1) ls rest)) : W p l e R s m args below meth c H locs cells slots Q (F0 m pc ls (.int x :: .int i :: .ref (ad 2) :: rest)) :=
  va_iast S.1 S.2.1 hK I.1 I.2.1 I.2.2 2 0 rfl rfl hin hdg (fun H1 locs1 a b d => kk H1 locs1 ⟨a, b, d⟩)
theorem n_Te_places (S : CallFix p m c cc nL s args gtbl own) (hK : va_K D classes (tyA cA) s) (hP : va_P D classes (wC ad cA (te, ru, au, re, la, sp, le)) H) (hdg : decode cc pc = .ok (.arraylength, 1)) (kk : W p l e R s m args below meth c H locs cells slots Q (F0 m (pc + 1) ls (.int 6 :: rest))) : W p l e R s m args below meth c H locs cells slots Q (F0 m pc ls (.ref (ad 2) :: rest)) :=
  va_alen S.1 S.2.1 hK hP 2 0 rfl rfl (v := 6) rfl hdg kk
theorem a_Te_symbol (S : CallFix p m c cc nL s args gtbl own) (hK : va_K D classes (tyA cA) s) (hP : va_P D classes (wC ad cA (te, ru, au, re, la, sp, le)) H) {i : Int32} (hin : vp_in i 448) (hdg : decode cc pc = .ok (.iaload, 1)) (kk : W p l e R s m args below meth c H locs cells slots Q (F0 m (pc + 1) ls (.int (Te_symbol te i.toNatClampNeg) :: rest))) : W p l e R s m args below meth c H locs cells slots Q (F0 m pc ls (.int i :: .ref (ad 3) :: rest)) :=
  va_iald S.1 S.2.1 hK hP 3 0 rfl rfl hin hdg kk
theorem s_Te_symbol (S : CallFix p m c cc nL s args gtbl own) (hK : va_K D classes (tyA cA) s) (I : gIn D A s (wC ad cA) (te, ru, au, re, la, sp, le) H locs) {i : Int32} {x : Int32} (hin : vp_in i 448) (hdg : decode cc pc = .ok (.iastore, 1)) (kk : ∀ (H1 : Heap) (locs1 : List Loc), gIn D A s (wC ad cA) (Te_symbol_s te (upd (Te_symbol te) i.toNatClampNeg x), ru, au, re, la, sp, le) H1 locs1 → W p l e R s m args below meth c H1 locs1 cells slots Q (F0 m (pc + 1) ls rest)) : W p l e R s m args below meth c H locs cells slots Q (F0 m pc ls (.int x :: .int i :: .ref (ad 3) :: rest)) :=
  va_iast S.1 S.2.1 hK I.1 I.2.1 I.2.2 3 0 rfl rfl hin hdg (fun H1 locs1 a b d => kk H1 locs1 ⟨a, b, d⟩)
theorem n_Te_symbol (S : CallFix p m c cc nL s args gtbl own) (hK : va_K D classes (tyA cA) s) (hP : va_P D classes (wC ad cA (te, ru, au, re, la, sp, le)) H) (hdg : decode cc pc = .ok (.arraylength, 1)) (kk : W p l e R s m args below meth c H locs cells slots Q (F0 m (pc + 1) ls (.int 448 :: rest))) : W p l e R s m args below meth c H locs cells slots Q (F0 m pc ls (.ref (ad 3) :: rest)) :=
  va_alen S.1 S.2.1 hK hP 3 0 rfl rfl (v := 448) rfl hdg kk
theorem a_Te_first (S : CallFix p m c cc nL s args gtbl own) (hK : va_K D classes (tyA cA) s) (hP : va_P D classes (wC ad cA (te, ru, au, re, la, sp, le)) H) {i : Int32} (hin : vp_in i 448) (hdg : decode cc pc = .ok (.iaload, 1)) (kk : W p l e R s m args below meth c H locs cells slots Q (F0 m (pc + 1) ls (.int (Te_first te i.toNatClampNeg) :: rest))) : W p l e R s m args below meth c H locs cells slots Q (F0 m pc ls (.int i :: .ref (ad 4) :: rest)) :=
  va_iald S.1 S.2.1 hK hP 4 0 rfl rfl hin hdg kk
theorem s_Te_first (S : CallFix p m c cc nL s args gtbl own) (hK : va_K D classes (tyA cA) s) (I : gIn D A s (wC ad cA) (te, ru, au, re, la, sp, le) H locs) {i : Int32} {x : Int32} (hin : vp_in i 448) (hdg : decode cc pc = .ok (.iastore, 1)) (kk : ∀ (H1 : Heap) (locs1 : List Loc), gIn D A s (wC ad cA) (Te_first_s te (upd (Te_first te) i.toNatClampNeg x), ru, au, re, la, sp, le) H1 locs1 → W p l e R s m args below meth c H1 locs1 cells slots Q (F0 m (pc + 1) ls rest)) : W p l e R s m args below meth c H locs cells slots Q (F0 m pc ls (.int x :: .int i :: .ref (ad 4) :: rest)) :=
  va_iast S.1 S.2.1 hK I.1 I.2.1 I.2.2 4 0 rfl rfl hin hdg (fun H1 locs1 a b d => kk H1 locs1 ⟨a, b, d⟩)
theorem n_Te_first (S : CallFix p m c cc nL s args gtbl own) (hK : va_K D classes (tyA cA) s) (hP : va_P D classes (wC ad cA (te, ru, au, re, la, sp, le)) H) (hdg : decode cc pc = .ok (.arraylength, 1)) (kk : W p l e R s m args below meth c H locs cells slots Q (F0 m (pc + 1) ls (.int 448 :: rest))) : W p l e R s m args below meth c H locs cells slots Q (F0 m pc ls (.ref (ad 4) :: rest)) :=
  va_alen S.1 S.2.1 hK hP 4 0 rfl rfl (v := 448) rfl hdg kk
theorem a_Te_second (S : CallFix p m c cc nL s args gtbl own) (hK : va_K D classes (tyA cA) s) (hP : va_P D classes (wC ad cA (te, ru, au, re, la, sp, le)) H) {i : Int32} (hin : vp_in i 448) (hdg : decode cc pc = .ok (.iaload, 1)) (kk : W p l e R s m args below meth c H locs cells slots Q (F0 m (pc + 1) ls (.int (Te_second te i.toNatClampNeg) :: rest))) : W p l e R s m args below meth c H locs cells slots Q (F0 m pc ls (.int i :: .ref (ad 5) :: rest)) :=
  va_iald S.1 S.2.1 hK hP 5 0 rfl rfl hin hdg kk
theorem s_Te_second (S : CallFix p m c cc nL s args gtbl own) (hK : va_K D classes (tyA cA) s) (I : gIn D A s (wC ad cA) (te, ru, au, re, la, sp, le) H locs) {i : Int32} {x : Int32} (hin : vp_in i 448) (hdg : decode cc pc = .ok (.iastore, 1)) (kk : ∀ (H1 : Heap) (locs1 : List Loc), gIn D A s (wC ad cA) (Te_second_s te (upd (Te_second te) i.toNatClampNeg x), ru, au, re, la, sp, le) H1 locs1 → W p l e R s m args below meth c H1 locs1 cells slots Q (F0 m (pc + 1) ls rest)) : W p l e R s m args below meth c H locs cells slots Q (F0 m pc ls (.int x :: .int i :: .ref (ad 5) :: rest)) :=
  va_iast S.1 S.2.1 hK I.1 I.2.1 I.2.2 5 0 rfl rfl hin hdg (fun H1 locs1 a b d => kk H1 locs1 ⟨a, b, d⟩)
theorem n_Te_second (S : CallFix p m c cc nL s args gtbl own) (hK : va_K D classes (tyA cA) s) (hP : va_P D classes (wC ad cA (te, ru, au, re, la, sp, le)) H) (hdg : decode cc pc = .ok (.arraylength, 1)) (kk : W p l e R s m args below meth c H locs cells slots Q (F0 m (pc + 1) ls (.int 448 :: rest))) : W p l e R s m args below meth c H locs cells slots Q (F0 m pc ls (.ref (ad 5) :: rest)) :=
  va_alen S.1 S.2.1 hK hP 5 0 rfl rfl (v := 448) rfl hdg kk
theorem a_Te_size (S : CallFix p m c cc nL s args gtbl own) (hK : va_K D classes (tyA cA) s) (hP : va_P D classes (wC ad cA (te, ru, au, re, la, sp, le)) H) {i : Int32} (hin : vp_in i 448) (hdg : decode cc pc = .ok (.iaload, 1)) (kk : W p l e R s m args below meth c H locs cells slots Q (F0 m (pc + 1) ls (.int (Te_size te i.toNatClampNeg) :: rest))) : W p l e R s m args below meth c H locs cells slots Q (F0 m pc ls (.int i :: .ref (ad 6) :: rest)) :=
  va_iald S.1 S.2.1 hK hP 6 0 rfl rfl hin hdg kk
theorem s_Te_size (S : CallFix p m c cc nL s args gtbl own) (hK : va_K D classes (tyA cA) s) (I : gIn D A s (wC ad cA) (te, ru, au, re, la, sp, le) H locs) {i : Int32} {x : Int32} (hin : vp_in i 448) (hdg : decode cc pc = .ok (.iastore, 1)) (kk : ∀ (H1 : Heap) (locs1 : List Loc), gIn D A s (wC ad cA) (Te_size_s te (upd (Te_size te) i.toNatClampNeg x), ru, au, re, la, sp, le) H1 locs1 → W p l e R s m args below meth c H1 locs1 cells slots Q (F0 m (pc + 1) ls rest)) : W p l e R s m args below meth c H locs cells slots Q (F0 m pc ls (.int x :: .int i :: .ref (ad 6) :: rest)) :=
  va_iast S.1 S.2.1 hK I.1 I.2.1 I.2.2 6 0 rfl rfl hin hdg (fun H1 locs1 a b d => kk H1 locs1 ⟨a, b, d⟩)
theorem n_Te_size (S : CallFix p m c cc nL s args gtbl own) (hK : va_K D classes (tyA cA) s) (hP : va_P D classes (wC ad cA (te, ru, au, re, la, sp, le)) H) (hdg : decode cc pc = .ok (.arraylength, 1)) (kk : W p l e R s m args below meth c H locs cells slots Q (F0 m (pc + 1) ls (.int 448 :: rest))) : W p l e R s m args below meth c H locs cells slots Q (F0 m pc ls (.ref (ad 6) :: rest)) :=
  va_alen S.1 S.2.1 hK hP 6 0 rfl rfl (v := 448) rfl hdg kk
theorem a_Te_newestIn (S : CallFix p m c cc nL s args gtbl own) (hK : va_K D classes (tyA cA) s) (hP : va_P D classes (wC ad cA (te, ru, au, re, la, sp, le)) H) {i : Int32} (hin : vp_in i 256) (hdg : decode cc pc = .ok (.iaload, 1)) (kk : W p l e R s m args below meth c H locs cells slots Q (F0 m (pc + 1) ls (.int (Te_newestIn te i.toNatClampNeg) :: rest))) : W p l e R s m args below meth c H locs cells slots Q (F0 m pc ls (.int i :: .ref (ad 7) :: rest)) :=
  va_iald S.1 S.2.1 hK hP 7 0 rfl rfl hin hdg kk
theorem s_Te_newestIn (S : CallFix p m c cc nL s args gtbl own) (hK : va_K D classes (tyA cA) s) (I : gIn D A s (wC ad cA) (te, ru, au, re, la, sp, le) H locs) {i : Int32} {x : Int32} (hin : vp_in i 256) (hdg : decode cc pc = .ok (.iastore, 1)) (kk : ∀ (H1 : Heap) (locs1 : List Loc), gIn D A s (wC ad cA) (Te_newestIn_s te (upd (Te_newestIn te) i.toNatClampNeg x), ru, au, re, la, sp, le) H1 locs1 → W p l e R s m args below meth c H1 locs1 cells slots Q (F0 m (pc + 1) ls rest)) : W p l e R s m args below meth c H locs cells slots Q (F0 m pc ls (.int x :: .int i :: .ref (ad 7) :: rest)) :=
  va_iast S.1 S.2.1 hK I.1 I.2.1 I.2.2 7 0 rfl rfl hin hdg (fun H1 locs1 a b d => kk H1 locs1 ⟨a, b, d⟩)
theorem n_Te_newestIn (S : CallFix p m c cc nL s args gtbl own) (hK : va_K D classes (tyA cA) s) (hP : va_P D classes (wC ad cA (te, ru, au, re, la, sp, le)) H) (hdg : decode cc pc = .ok (.arraylength, 1)) (kk : W p l e R s m args below meth c H locs cells slots Q (F0 m (pc + 1) ls (.int 256 :: rest))) : W p l e R s m args below meth c H locs cells slots Q (F0 m pc ls (.ref (ad 7) :: rest)) :=
  va_alen S.1 S.2.1 hK hP 7 0 rfl rfl (v := 256) rfl hdg kk
theorem a_Te_olderInBucket (S : CallFix p m c cc nL s args gtbl own) (hK : va_K D classes (tyA cA) s) (hP : va_P D classes (wC ad cA (te, ru, au, re, la, sp, le)) H) {i : Int32} (hin : vp_in i 448) (hdg : decode cc pc = .ok (.iaload, 1)) (kk : W p l e R s m args below meth c H locs cells slots Q (F0 m (pc + 1) ls (.int (Te_olderInBucket te i.toNatClampNeg) :: rest))) : W p l e R s m args below meth c H locs cells slots Q (F0 m pc ls (.int i :: .ref (ad 8) :: rest)) :=
  va_iald S.1 S.2.1 hK hP 8 0 rfl rfl hin hdg kk
theorem s_Te_olderInBucket (S : CallFix p m c cc nL s args gtbl own) (hK : va_K D classes (tyA cA) s) (I : gIn D A s (wC ad cA) (te, ru, au, re, la, sp, le) H locs) {i : Int32} {x : Int32} (hin : vp_in i 448) (hdg : decode cc pc = .ok (.iastore, 1)) (kk : ∀ (H1 : Heap) (locs1 : List Loc), gIn D A s (wC ad cA) (Te_olderInBucket_s te (upd (Te_olderInBucket te) i.toNatClampNeg x), ru, au, re, la, sp, le) H1 locs1 → W p l e R s m args below meth c H1 locs1 cells slots Q (F0 m (pc + 1) ls rest)) : W p l e R s m args below meth c H locs cells slots Q (F0 m pc ls (.int x :: .int i :: .ref (ad 8) :: rest)) :=
  va_iast S.1 S.2.1 hK I.1 I.2.1 I.2.2 8 0 rfl rfl hin hdg (fun H1 locs1 a b d => kk H1 locs1 ⟨a, b, d⟩)
theorem n_Te_olderInBucket (S : CallFix p m c cc nL s args gtbl own) (hK : va_K D classes (tyA cA) s) (hP : va_P D classes (wC ad cA (te, ru, au, re, la, sp, le)) H) (hdg : decode cc pc = .ok (.arraylength, 1)) (kk : W p l e R s m args below meth c H locs cells slots Q (F0 m (pc + 1) ls (.int 448 :: rest))) : W p l e R s m args below meth c H locs cells slots Q (F0 m pc ls (.ref (ad 8) :: rest)) :=
  va_alen S.1 S.2.1 hK hP 8 0 rfl rfl (v := 448) rfl hdg kk
theorem g_Ru_left (S : CallFix p m c cc nL s args gtbl R_Ru) (hK : va_K D classes (tyA cA) s) (hP : va_P D classes (wC ad cA (te, ru, au, re, la, sp, le)) H) (hdg : decode cc pc = .ok (.getfield 9, 3)) (kk : W p l e R s m args below meth c H locs cells slots Q (F0 m (pc + 3) ls (.ref (ad 10) :: rest))) : W p l e R s m args below meth c H locs cells slots Q (F0 m pc ls (.ref (ad 9) :: rest)) :=
  va_get (D := D) (ci := 2) (v := .ref (ad 10)) (C := R_Ru) (T := F_Ru) (N := 4) S.1 S.2.1 S.2.2.2.2 u_Ru S.2.2.2.1 hK hP 9 rfl rfl 0 (by decide) (S.2.2.2.2 _ fl_Ru_left) (fun _ h => h) rfl hdg kk
theorem g_Ru_right (S : CallFix p m c cc nL s args gtbl R_Ru) (hK : va_K D classes (tyA cA) s) (hP : va_P D classes (wC ad cA (te, ru, au, re, la, sp, le)) H) (hdg : decode cc pc = .ok (.getfield 15, 3)) (kk : W p l e R s m args below meth c H locs cells slots Q (F0 m (pc + 3) ls (.ref (ad 11) :: rest))) : W p l e R s m args below meth c H locs cells slots Q (F0 m pc ls (.ref (ad 9) :: rest)) :=
  va_get (D := D) (ci := 2) (v := .ref (ad 11)) (C := R_Ru) (T := F_Ru) (N := 4) S.1 S.2.1 S.2.2.2.2 u_Ru S.2.2.2.1 hK hP 9 rfl rfl 1 (by decide) (S.2.2.2.2 _ fl_Ru_right) (fun _ h => h) rfl hdg kk
theorem g_Ru_count (S : CallFix p m c cc nL s args gtbl R_Ru) (hK : va_K D classes (tyA cA) s) (hP : va_P D classes (wC ad cA (te, ru, au, re, la, sp, le)) H) (hdg : decode cc pc = .ok (.getfield 18, 3)) (kk : W p l e R s m args below meth c H locs cells slots Q (F0 m (pc + 3) ls (.int (Ru_count ru) :: rest))) : W p l e R s m args below meth c H locs cells slots Q (F0 m pc ls (.ref (ad 9) :: rest)) :=
  va_get (D := D) (ci := 2) (v := .int (Ru_count ru)) (C := R_Ru) (T := F_Ru) (N := 4) S.1 S.2.1 S.2.2.2.2 u_Ru S.2.2.2.1 hK hP 9 rfl rfl 2 (by decide) (S.2.2.2.2 _ fl_Ru_count) (fun _ h => h) rfl hdg kk
theorem q_Ru_count (S : CallFix p m c cc nL s args gtbl R_Ru) (hK : va_K D classes (tyA cA) s) (I : gIn D A s (wC ad cA) (te, ru, au, re, la, sp, le) H locs) {v : Int32} (hdg : decode cc pc = .ok (.putfield 18, 3)) (kk : ∀ (H1 : Heap) (locs1 : List Loc), gIn D A s (wC ad cA) (te, Ru_count_s ru v, au, re, la, sp, le) H1 locs1 → W p l e R s m args below meth c H1 locs1 cells slots Q (F0 m (pc + 3) ls rest)) : W p l e R s m args below meth c H locs cells slots Q (F0 m pc ls (.int v :: .ref (ad 9) :: rest)) :=
  va_put (D := D) (ci := 2) (v := .int v) (ty := .int) (C := R_Ru) (T := F_Ru) (N := 4) S.1 S.2.1 S.2.2.2.2 u_Ru t_Ru t_Ru_ok n_Ru S.2.2.2.1 hK I.1 I.2.1 I.2.2 9 rfl rfl 2 (by decide) (S.2.2.2.2 _ fl_Ru_count) (fun _ h => h) rfl (by decide +kernel) rfl rfl (Nat.le_of_ble_eq_true rfl) hdg (fun H1 locs1 a b d => kk H1 locs1 ⟨a, b, d⟩)
theorem g_Ru_changes (S : CallFix p m c cc nL s args gtbl R_Ru) (hK : va_K D classes (tyA cA) s) (hP : va_P D classes (wC ad cA (te, ru, au, re, la, sp, le)) H) (hdg : decode cc pc = .ok (.getfield 22, 3)) (kk : W p l e R s m args below meth c H locs cells slots Q (F0 m (pc + 3) ls (.int (Ru_changes ru) :: rest))) : W p l e R s m args below meth c H locs cells slots Q (F0 m pc ls (.ref (ad 9) :: rest)) :=
  va_get (D := D) (ci := 2) (v := .int (Ru_changes ru)) (C := R_Ru) (T := F_Ru) (N := 4) S.1 S.2.1 S.2.2.2.2 u_Ru S.2.2.2.1 hK hP 9 rfl rfl 3 (by decide) (S.2.2.2.2 _ fl_Ru_changes) (fun _ h => h) rfl hdg kk
theorem q_Ru_changes (S : CallFix p m c cc nL s args gtbl R_Ru) (hK : va_K D classes (tyA cA) s) (I : gIn D A s (wC ad cA) (te, ru, au, re, la, sp, le) H locs) {v : Int32} (hdg : decode cc pc = .ok (.putfield 22, 3)) (kk : ∀ (H1 : Heap) (locs1 : List Loc), gIn D A s (wC ad cA) (te, Ru_changes_s ru v, au, re, la, sp, le) H1 locs1 → W p l e R s m args below meth c H1 locs1 cells slots Q (F0 m (pc + 3) ls rest)) : W p l e R s m args below meth c H locs cells slots Q (F0 m pc ls (.int v :: .ref (ad 9) :: rest)) :=
  va_put (D := D) (ci := 2) (v := .int v) (ty := .int) (C := R_Ru) (T := F_Ru) (N := 4) S.1 S.2.1 S.2.2.2.2 u_Ru t_Ru t_Ru_ok n_Ru S.2.2.2.1 hK I.1 I.2.1 I.2.2 9 rfl rfl 3 (by decide) (S.2.2.2.2 _ fl_Ru_changes) (fun _ h => h) rfl (by decide +kernel) rfl rfl (Nat.le_of_ble_eq_true rfl) hdg (fun H1 locs1 a b d => kk H1 locs1 ⟨a, b, d⟩)
theorem a_Ru_left (S : CallFix p m c cc nL s args gtbl own) (hK : va_K D classes (tyA cA) s) (hP : va_P D classes (wC ad cA (te, ru, au, re, la, sp, le)) H) {i : Int32} (hin : vp_in i 8) (hdg : decode cc pc = .ok (.iaload, 1)) (kk : W p l e R s m args below meth c H locs cells slots Q (F0 m (pc + 1) ls (.int (Ru_left ru i.toNatClampNeg) :: rest))) : W p l e R s m args below meth c H locs cells slots Q (F0 m pc ls (.int i :: .ref (ad 10) :: rest)) :=
  va_iald S.1 S.2.1 hK hP 10 0 rfl rfl hin hdg kk
theorem s_Ru_left (S : CallFix p m c cc nL s args gtbl own) (hK : va_K D classes (tyA cA) s) (I : gIn D A s (wC ad cA) (te, ru, au, re, la, sp, le) H locs) {i : Int32} {x : Int32} (hin : vp_in i 8) (hdg : decode cc pc = .ok (.iastore, 1)) (kk : ∀ (H1 : Heap) (locs1 : List Loc), gIn D A s (wC ad cA) (te, Ru_left_s ru (upd (Ru_left ru) i.toNatClampNeg x), au, re, la, sp, le) H1 locs1 → W p l e R s m args below meth c H1 locs1 cells slots Q (F0 m (pc + 1) ls rest)) : W p l e R s m args below meth c H locs cells slots Q (F0 m pc ls (.int x :: .int i :: .ref (ad 10) :: rest)) :=
  va_iast S.1 S.2.1 hK I.1 I.2.1 I.2.2 10 0 rfl rfl hin hdg (fun H1 locs1 a b d => kk H1 locs1 ⟨a, b, d⟩)
theorem n_Ru_left (S : CallFix p m c cc nL s args gtbl own) (hK : va_K D classes (tyA cA) s) (hP : va_P D classes (wC ad cA (te, ru, au, re, la, sp, le)) H) (hdg : decode cc pc = .ok (.arraylength, 1)) (kk : W p l e R s m args below meth c H locs cells slots Q (F0 m (pc + 1) ls (.int 8 :: rest))) : W p l e R s m args below meth c H locs cells slots Q (F0 m pc ls (.ref (ad 10) :: rest)) :=
  va_alen S.1 S.2.1 hK hP 10 0 rfl rfl (v := 8) rfl hdg kk
theorem a_Ru_right (S : CallFix p m c cc nL s args gtbl own) (hK : va_K D classes (tyA cA) s) (hP : va_P D classes (wC ad cA (te, ru, au, re, la, sp, le)) H) {i : Int32} (hin : vp_in i 8) (hdg : decode cc pc = .ok (.iaload, 1)) (kk : W p l e R s m args below meth c H locs cells slots Q (F0 m (pc + 1) ls (.int (Ru_right ru i.toNatClampNeg) :: rest))) : W p l e R s m args below meth c H locs cells slots Q (F0 m pc ls (.int i :: .ref (ad 11) :: rest)) :=
  va_iald S.1 S.2.1 hK hP 11 0 rfl rfl hin hdg kk
theorem s_Ru_right (S : CallFix p m c cc nL s args gtbl own) (hK : va_K D classes (tyA cA) s) (I : gIn D A s (wC ad cA) (te, ru, au, re, la, sp, le) H locs) {i : Int32} {x : Int32} (hin : vp_in i 8) (hdg : decode cc pc = .ok (.iastore, 1)) (kk : ∀ (H1 : Heap) (locs1 : List Loc), gIn D A s (wC ad cA) (te, Ru_right_s ru (upd (Ru_right ru) i.toNatClampNeg x), au, re, la, sp, le) H1 locs1 → W p l e R s m args below meth c H1 locs1 cells slots Q (F0 m (pc + 1) ls rest)) : W p l e R s m args below meth c H locs cells slots Q (F0 m pc ls (.int x :: .int i :: .ref (ad 11) :: rest)) :=
  va_iast S.1 S.2.1 hK I.1 I.2.1 I.2.2 11 0 rfl rfl hin hdg (fun H1 locs1 a b d => kk H1 locs1 ⟨a, b, d⟩)
theorem n_Ru_right (S : CallFix p m c cc nL s args gtbl own) (hK : va_K D classes (tyA cA) s) (hP : va_P D classes (wC ad cA (te, ru, au, re, la, sp, le)) H) (hdg : decode cc pc = .ok (.arraylength, 1)) (kk : W p l e R s m args below meth c H locs cells slots Q (F0 m (pc + 1) ls (.int 8 :: rest))) : W p l e R s m args below meth c H locs cells slots Q (F0 m pc ls (.ref (ad 11) :: rest)) :=
  va_alen S.1 S.2.1 hK hP 11 0 rfl rfl (v := 8) rfl hdg kk
theorem g_Au_terms (S : CallFix p m c cc nL s args gtbl R_Au) (hK : va_K D classes (tyA cA) s) (hP : va_P D classes (wC ad cA (te, ru, au, re, la, sp, le)) H) (hdg : decode cc pc = .ok (.getfield 27, 3)) (kk : W p l e R s m args below meth c H locs cells slots Q (F0 m (pc + 3) ls (.ref (ad 1) :: rest))) : W p l e R s m args below meth c H locs cells slots Q (F0 m pc ls (.ref (ad 12) :: rest)) :=
  va_get (D := D) (ci := 3) (v := .ref (ad 1)) (C := R_Au) (T := F_Au) (N := 8) S.1 S.2.1 S.2.2.2.2 u_Au S.2.2.2.1 hK hP 12 rfl rfl 0 (by decide) (S.2.2.2.2 _ fl_Au_terms) (fun _ h => h) rfl hdg kk
theorem g_Au_symbol (S : CallFix p m c cc nL s args gtbl R_Au) (hK : va_K D classes (tyA cA) s) (hP : va_P D classes (wC ad cA (te, ru, au, re, la, sp, le)) H) (hdg : decode cc pc = .ok (.getfield 9, 3)) (kk : W p l e R s m args below meth c H locs cells slots Q (F0 m (pc + 3) ls (.ref (ad 13) :: rest))) : W p l e R s m args below meth c H locs cells slots Q (F0 m pc ls (.ref (ad 12) :: rest)) :=
  va_get (D := D) (ci := 3) (v := .ref (ad 13)) (C := R_Au) (T := F_Au) (N := 8) S.1 S.2.1 S.2.2.2.2 u_Au S.2.2.2.1 hK hP 12 rfl rfl 1 (by decide) (S.2.2.2.2 _ fl_Au_symbol) (fun _ h => h) rfl hdg kk
theorem g_Au_first (S : CallFix p m c cc nL s args gtbl R_Au) (hK : va_K D classes (tyA cA) s) (hP : va_P D classes (wC ad cA (te, ru, au, re, la, sp, le)) H) (hdg : decode cc pc = .ok (.getfield 15, 3)) (kk : W p l e R s m args below meth c H locs cells slots Q (F0 m (pc + 3) ls (.ref (ad 14) :: rest))) : W p l e R s m args below meth c H locs cells slots Q (F0 m pc ls (.ref (ad 12) :: rest)) :=
  va_get (D := D) (ci := 3) (v := .ref (ad 14)) (C := R_Au) (T := F_Au) (N := 8) S.1 S.2.1 S.2.2.2.2 u_Au S.2.2.2.1 hK hP 12 rfl rfl 2 (by decide) (S.2.2.2.2 _ fl_Au_first) (fun _ h => h) rfl hdg kk
theorem g_Au_second (S : CallFix p m c cc nL s args gtbl R_Au) (hK : va_K D classes (tyA cA) s) (hP : va_P D classes (wC ad cA (te, ru, au, re, la, sp, le)) H) (hdg : decode cc pc = .ok (.getfield 18, 3)) (kk : W p l e R s m args below meth c H locs cells slots Q (F0 m (pc + 3) ls (.ref (ad 15) :: rest))) : W p l e R s m args below meth c H locs cells slots Q (F0 m pc ls (.ref (ad 12) :: rest)) :=
  va_get (D := D) (ci := 3) (v := .ref (ad 15)) (C := R_Au) (T := F_Au) (N := 8) S.1 S.2.1 S.2.2.2.2 u_Au S.2.2.2.1 hK hP 12 rfl rfl 3 (by decide) (S.2.2.2.2 _ fl_Au_second) (fun _ h => h) rfl hdg kk
theorem g_Au_target (S : CallFix p m c cc nL s args gtbl R_Au) (hK : va_K D classes (tyA cA) s) (hP : va_P D classes (wC ad cA (te, ru, au, re, la, sp, le)) H) (hdg : decode cc pc = .ok (.getfield 21, 3)) (kk : W p l e R s m args below meth c H locs cells slots Q (F0 m (pc + 3) ls (.ref (ad 16) :: rest))) : W p l e R s m args below meth c H locs cells slots Q (F0 m pc ls (.ref (ad 12) :: rest)) :=
  va_get (D := D) (ci := 3) (v := .ref (ad 16)) (C := R_Au) (T := F_Au) (N := 8) S.1 S.2.1 S.2.2.2.2 u_Au S.2.2.2.1 hK hP 12 rfl rfl 4 (by decide) (S.2.2.2.2 _ fl_Au_target) (fun _ h => h) rfl hdg kk
theorem g_Au_weight (S : CallFix p m c cc nL s args gtbl R_Au) (hK : va_K D classes (tyA cA) s) (hP : va_P D classes (wC ad cA (te, ru, au, re, la, sp, le)) H) (hdg : decode cc pc = .ok (.getfield 24, 3)) (kk : W p l e R s m args below meth c H locs cells slots Q (F0 m (pc + 3) ls (.ref (ad 17) :: rest))) : W p l e R s m args below meth c H locs cells slots Q (F0 m pc ls (.ref (ad 12) :: rest)) :=
  va_get (D := D) (ci := 3) (v := .ref (ad 17)) (C := R_Au) (T := F_Au) (N := 8) S.1 S.2.1 S.2.2.2.2 u_Au S.2.2.2.1 hK hP 12 rfl rfl 5 (by decide) (S.2.2.2.2 _ fl_Au_weight) (fun _ h => h) rfl hdg kk
theorem g_Au_count (S : CallFix p m c cc nL s args gtbl R_Au) (hK : va_K D classes (tyA cA) s) (hP : va_P D classes (wC ad cA (te, ru, au, re, la, sp, le)) H) (hdg : decode cc pc = .ok (.getfield 31, 3)) (kk : W p l e R s m args below meth c H locs cells slots Q (F0 m (pc + 3) ls (.int (Au_count au) :: rest))) : W p l e R s m args below meth c H locs cells slots Q (F0 m pc ls (.ref (ad 12) :: rest)) :=
  va_get (D := D) (ci := 3) (v := .int (Au_count au)) (C := R_Au) (T := F_Au) (N := 8) S.1 S.2.1 S.2.2.2.2 u_Au S.2.2.2.1 hK hP 12 rfl rfl 6 (by decide) (S.2.2.2.2 _ fl_Au_count) (fun _ h => h) rfl hdg kk
theorem q_Au_count (S : CallFix p m c cc nL s args gtbl R_Au) (hK : va_K D classes (tyA cA) s) (I : gIn D A s (wC ad cA) (te, ru, au, re, la, sp, le) H locs) {v : Int32} (hdg : decode cc pc = .ok (.putfield 31, 3)) (kk : ∀ (H1 : Heap) (locs1 : List Loc), gIn D A s (wC ad cA) (te, ru, Au_count_s au v, re, la, sp, le) H1 locs1 → W p l e R s m args below meth c H1 locs1 cells slots Q (F0 m (pc + 3) ls rest)) : W p l e R s m args below meth c H locs cells slots Q (F0 m pc ls (.int v :: .ref (ad 12) :: rest)) :=
  va_put (D := D) (ci := 3) (v := .int v) (ty := .int) (C := R_Au) (T := F_Au) (N := 8) S.1 S.2.1 S.2.2.2.2 u_Au t_Au t_Au_ok n_Au S.2.2.2.1 hK I.1 I.2.1 I.2.2 12 rfl rfl 6 (by decide) (S.2.2.2.2 _ fl_Au_count) (fun _ h => h) rfl (by decide +kernel) rfl rfl (Nat.le_of_ble_eq_true rfl) hdg (fun H1 locs1 a b d => kk H1 locs1 ⟨a, b, d⟩)
theorem g_Au_finals (S : CallFix p m c cc nL s args gtbl R_Au) (hK : va_K D classes (tyA cA) s) (hP : va_P D classes (wC ad cA (te, ru, au, re, la, sp, le)) H) (hdg : decode cc pc = .ok (.getfield 35, 3)) (kk : W p l e R s m args below meth c H locs cells slots Q (F0 m (pc + 3) ls (.int (Au_finals au) :: rest))) : W p l e R s m args below meth c H locs cells slots Q (F0 m pc ls (.ref (ad 12) :: rest)) :=
  va_get (D := D) (ci := 3) (v := .int (Au_finals au)) (C := R_Au) (T := F_Au) (N := 8) S.1 S.2.1 S.2.2.2.2 u_Au S.2.2.2.1 hK hP 12 rfl rfl 7 (by decide) (S.2.2.2.2 _ fl_Au_finals) (fun _ h => h) rfl hdg kk
theorem q_Au_finals (S : CallFix p m c cc nL s args gtbl R_Au) (hK : va_K D classes (tyA cA) s) (I : gIn D A s (wC ad cA) (te, ru, au, re, la, sp, le) H locs) {v : Int32} (hdg : decode cc pc = .ok (.putfield 35, 3)) (kk : ∀ (H1 : Heap) (locs1 : List Loc), gIn D A s (wC ad cA) (te, ru, Au_finals_s au v, re, la, sp, le) H1 locs1 → W p l e R s m args below meth c H1 locs1 cells slots Q (F0 m (pc + 3) ls rest)) : W p l e R s m args below meth c H locs cells slots Q (F0 m pc ls (.int v :: .ref (ad 12) :: rest)) :=
  va_put (D := D) (ci := 3) (v := .int v) (ty := .int) (C := R_Au) (T := F_Au) (N := 8) S.1 S.2.1 S.2.2.2.2 u_Au t_Au t_Au_ok n_Au S.2.2.2.1 hK I.1 I.2.1 I.2.2 12 rfl rfl 7 (by decide) (S.2.2.2.2 _ fl_Au_finals) (fun _ h => h) rfl (by decide +kernel) rfl rfl (Nat.le_of_ble_eq_true rfl) hdg (fun H1 locs1 a b d => kk H1 locs1 ⟨a, b, d⟩)
theorem a_Au_symbol (S : CallFix p m c cc nL s args gtbl own) (hK : va_K D classes (tyA cA) s) (hP : va_P D classes (wC ad cA (te, ru, au, re, la, sp, le)) H) {i : Int32} (hin : vp_in i 20) (hdg : decode cc pc = .ok (.iaload, 1)) (kk : W p l e R s m args below meth c H locs cells slots Q (F0 m (pc + 1) ls (.int (Au_symbol au i.toNatClampNeg) :: rest))) : W p l e R s m args below meth c H locs cells slots Q (F0 m pc ls (.int i :: .ref (ad 13) :: rest)) :=
  va_iald S.1 S.2.1 hK hP 13 0 rfl rfl hin hdg kk
theorem s_Au_symbol (S : CallFix p m c cc nL s args gtbl own) (hK : va_K D classes (tyA cA) s) (I : gIn D A s (wC ad cA) (te, ru, au, re, la, sp, le) H locs) {i : Int32} {x : Int32} (hin : vp_in i 20) (hdg : decode cc pc = .ok (.iastore, 1)) (kk : ∀ (H1 : Heap) (locs1 : List Loc), gIn D A s (wC ad cA) (te, ru, Au_symbol_s au (upd (Au_symbol au) i.toNatClampNeg x), re, la, sp, le) H1 locs1 → W p l e R s m args below meth c H1 locs1 cells slots Q (F0 m (pc + 1) ls rest)) : W p l e R s m args below meth c H locs cells slots Q (F0 m pc ls (.int x :: .int i :: .ref (ad 13) :: rest)) :=
  va_iast S.1 S.2.1 hK I.1 I.2.1 I.2.2 13 0 rfl rfl hin hdg (fun H1 locs1 a b d => kk H1 locs1 ⟨a, b, d⟩)
theorem n_Au_symbol (S : CallFix p m c cc nL s args gtbl own) (hK : va_K D classes (tyA cA) s) (hP : va_P D classes (wC ad cA (te, ru, au, re, la, sp, le)) H) (hdg : decode cc pc = .ok (.arraylength, 1)) (kk : W p l e R s m args below meth c H locs cells slots Q (F0 m (pc + 1) ls (.int 20 :: rest))) : W p l e R s m args below meth c H locs cells slots Q (F0 m pc ls (.ref (ad 13) :: rest)) :=
  va_alen S.1 S.2.1 hK hP 13 0 rfl rfl (v := 20) rfl hdg kk
theorem a_Au_first (S : CallFix p m c cc nL s args gtbl own) (hK : va_K D classes (tyA cA) s) (hP : va_P D classes (wC ad cA (te, ru, au, re, la, sp, le)) H) {i : Int32} (hin : vp_in i 20) (hdg : decode cc pc = .ok (.iaload, 1)) (kk : W p l e R s m args below meth c H locs cells slots Q (F0 m (pc + 1) ls (.int (Au_first au i.toNatClampNeg) :: rest))) : W p l e R s m args below meth c H locs cells slots Q (F0 m pc ls (.int i :: .ref (ad 14) :: rest)) :=
  va_iald S.1 S.2.1 hK hP 14 0 rfl rfl hin hdg kk
theorem s_Au_first (S : CallFix p m c cc nL s args gtbl own) (hK : va_K D classes (tyA cA) s) (I : gIn D A s (wC ad cA) (te, ru, au, re, la, sp, le) H locs) {i : Int32} {x : Int32} (hin : vp_in i 20) (hdg : decode cc pc = .ok (.iastore, 1)) (kk : ∀ (H1 : Heap) (locs1 : List Loc), gIn D A s (wC ad cA) (te, ru, Au_first_s au (upd (Au_first au) i.toNatClampNeg x), re, la, sp, le) H1 locs1 → W p l e R s m args below meth c H1 locs1 cells slots Q (F0 m (pc + 1) ls rest)) : W p l e R s m args below meth c H locs cells slots Q (F0 m pc ls (.int x :: .int i :: .ref (ad 14) :: rest)) :=
  va_iast S.1 S.2.1 hK I.1 I.2.1 I.2.2 14 0 rfl rfl hin hdg (fun H1 locs1 a b d => kk H1 locs1 ⟨a, b, d⟩)
theorem n_Au_first (S : CallFix p m c cc nL s args gtbl own) (hK : va_K D classes (tyA cA) s) (hP : va_P D classes (wC ad cA (te, ru, au, re, la, sp, le)) H) (hdg : decode cc pc = .ok (.arraylength, 1)) (kk : W p l e R s m args below meth c H locs cells slots Q (F0 m (pc + 1) ls (.int 20 :: rest))) : W p l e R s m args below meth c H locs cells slots Q (F0 m pc ls (.ref (ad 14) :: rest)) :=
  va_alen S.1 S.2.1 hK hP 14 0 rfl rfl (v := 20) rfl hdg kk
theorem a_Au_second (S : CallFix p m c cc nL s args gtbl own) (hK : va_K D classes (tyA cA) s) (hP : va_P D classes (wC ad cA (te, ru, au, re, la, sp, le)) H) {i : Int32} (hin : vp_in i 20) (hdg : decode cc pc = .ok (.iaload, 1)) (kk : W p l e R s m args below meth c H locs cells slots Q (F0 m (pc + 1) ls (.int (Au_second au i.toNatClampNeg) :: rest))) : W p l e R s m args below meth c H locs cells slots Q (F0 m pc ls (.int i :: .ref (ad 15) :: rest)) :=
  va_iald S.1 S.2.1 hK hP 15 0 rfl rfl hin hdg kk
theorem s_Au_second (S : CallFix p m c cc nL s args gtbl own) (hK : va_K D classes (tyA cA) s) (I : gIn D A s (wC ad cA) (te, ru, au, re, la, sp, le) H locs) {i : Int32} {x : Int32} (hin : vp_in i 20) (hdg : decode cc pc = .ok (.iastore, 1)) (kk : ∀ (H1 : Heap) (locs1 : List Loc), gIn D A s (wC ad cA) (te, ru, Au_second_s au (upd (Au_second au) i.toNatClampNeg x), re, la, sp, le) H1 locs1 → W p l e R s m args below meth c H1 locs1 cells slots Q (F0 m (pc + 1) ls rest)) : W p l e R s m args below meth c H locs cells slots Q (F0 m pc ls (.int x :: .int i :: .ref (ad 15) :: rest)) :=
  va_iast S.1 S.2.1 hK I.1 I.2.1 I.2.2 15 0 rfl rfl hin hdg (fun H1 locs1 a b d => kk H1 locs1 ⟨a, b, d⟩)
theorem n_Au_second (S : CallFix p m c cc nL s args gtbl own) (hK : va_K D classes (tyA cA) s) (hP : va_P D classes (wC ad cA (te, ru, au, re, la, sp, le)) H) (hdg : decode cc pc = .ok (.arraylength, 1)) (kk : W p l e R s m args below meth c H locs cells slots Q (F0 m (pc + 1) ls (.int 20 :: rest))) : W p l e R s m args below meth c H locs cells slots Q (F0 m pc ls (.ref (ad 15) :: rest)) :=
  va_alen S.1 S.2.1 hK hP 15 0 rfl rfl (v := 20) rfl hdg kk
theorem a_Au_target (S : CallFix p m c cc nL s args gtbl own) (hK : va_K D classes (tyA cA) s) (hP : va_P D classes (wC ad cA (te, ru, au, re, la, sp, le)) H) {i : Int32} (hin : vp_in i 20) (hdg : decode cc pc = .ok (.iaload, 1)) (kk : W p l e R s m args below meth c H locs cells slots Q (F0 m (pc + 1) ls (.int (Au_target au i.toNatClampNeg) :: rest))) : W p l e R s m args below meth c H locs cells slots Q (F0 m pc ls (.int i :: .ref (ad 16) :: rest)) :=
  va_iald S.1 S.2.1 hK hP 16 0 rfl rfl hin hdg kk
theorem s_Au_target (S : CallFix p m c cc nL s args gtbl own) (hK : va_K D classes (tyA cA) s) (I : gIn D A s (wC ad cA) (te, ru, au, re, la, sp, le) H locs) {i : Int32} {x : Int32} (hin : vp_in i 20) (hdg : decode cc pc = .ok (.iastore, 1)) (kk : ∀ (H1 : Heap) (locs1 : List Loc), gIn D A s (wC ad cA) (te, ru, Au_target_s au (upd (Au_target au) i.toNatClampNeg x), re, la, sp, le) H1 locs1 → W p l e R s m args below meth c H1 locs1 cells slots Q (F0 m (pc + 1) ls rest)) : W p l e R s m args below meth c H locs cells slots Q (F0 m pc ls (.int x :: .int i :: .ref (ad 16) :: rest)) :=
  va_iast S.1 S.2.1 hK I.1 I.2.1 I.2.2 16 0 rfl rfl hin hdg (fun H1 locs1 a b d => kk H1 locs1 ⟨a, b, d⟩)
theorem n_Au_target (S : CallFix p m c cc nL s args gtbl own) (hK : va_K D classes (tyA cA) s) (hP : va_P D classes (wC ad cA (te, ru, au, re, la, sp, le)) H) (hdg : decode cc pc = .ok (.arraylength, 1)) (kk : W p l e R s m args below meth c H locs cells slots Q (F0 m (pc + 1) ls (.int 20 :: rest))) : W p l e R s m args below meth c H locs cells slots Q (F0 m pc ls (.ref (ad 16) :: rest)) :=
  va_alen S.1 S.2.1 hK hP 16 0 rfl rfl (v := 20) rfl hdg kk
theorem a_Au_weight (S : CallFix p m c cc nL s args gtbl own) (hK : va_K D classes (tyA cA) s) (hP : va_P D classes (wC ad cA (te, ru, au, re, la, sp, le)) H) {i : Int32} (hin : vp_in i 6) (hdg : decode cc pc = .ok (.iaload, 1)) (kk : W p l e R s m args below meth c H locs cells slots Q (F0 m (pc + 1) ls (.int (Au_weight au i.toNatClampNeg) :: rest))) : W p l e R s m args below meth c H locs cells slots Q (F0 m pc ls (.int i :: .ref (ad 17) :: rest)) :=
  va_iald S.1 S.2.1 hK hP 17 0 rfl rfl hin hdg kk
theorem s_Au_weight (S : CallFix p m c cc nL s args gtbl own) (hK : va_K D classes (tyA cA) s) (I : gIn D A s (wC ad cA) (te, ru, au, re, la, sp, le) H locs) {i : Int32} {x : Int32} (hin : vp_in i 6) (hdg : decode cc pc = .ok (.iastore, 1)) (kk : ∀ (H1 : Heap) (locs1 : List Loc), gIn D A s (wC ad cA) (te, ru, Au_weight_s au (upd (Au_weight au) i.toNatClampNeg x), re, la, sp, le) H1 locs1 → W p l e R s m args below meth c H1 locs1 cells slots Q (F0 m (pc + 1) ls rest)) : W p l e R s m args below meth c H locs cells slots Q (F0 m pc ls (.int x :: .int i :: .ref (ad 17) :: rest)) :=
  va_iast S.1 S.2.1 hK I.1 I.2.1 I.2.2 17 0 rfl rfl hin hdg (fun H1 locs1 a b d => kk H1 locs1 ⟨a, b, d⟩)
theorem n_Au_weight (S : CallFix p m c cc nL s args gtbl own) (hK : va_K D classes (tyA cA) s) (hP : va_P D classes (wC ad cA (te, ru, au, re, la, sp, le)) H) (hdg : decode cc pc = .ok (.arraylength, 1)) (kk : W p l e R s m args below meth c H locs cells slots Q (F0 m (pc + 1) ls (.int 6 :: rest))) : W p l e R s m args below meth c H locs cells slots Q (F0 m pc ls (.ref (ad 17) :: rest)) :=
  va_alen S.1 S.2.1 hK hP 17 0 rfl rfl (v := 6) rfl hdg kk
theorem g_Re_terms (S : CallFix p m c cc nL s args gtbl R_Re) (hK : va_K D classes (tyA cA) s) (hP : va_P D classes (wC ad cA (te, ru, au, re, la, sp, le)) H) (hdg : decode cc pc = .ok (.getfield 29, 3)) (kk : W p l e R s m args below meth c H locs cells slots Q (F0 m (pc + 3) ls (.ref (ad 1) :: rest))) : W p l e R s m args below meth c H locs cells slots Q (F0 m pc ls (.ref (ad 18) :: rest)) :=
  va_get (D := D) (ci := 4) (v := .ref (ad 1)) (C := R_Re) (T := F_Re) (N := 8) S.1 S.2.1 S.2.2.2.2 u_Re S.2.2.2.1 hK hP 18 rfl rfl 0 (by decide) (S.2.2.2.2 _ fl_Re_terms) (fun _ h => h) rfl hdg kk
theorem g_Re_rules (S : CallFix p m c cc nL s args gtbl R_Re) (hK : va_K D classes (tyA cA) s) (hP : va_P D classes (wC ad cA (te, ru, au, re, la, sp, le)) H) (hdg : decode cc pc = .ok (.getfield 33, 3)) (kk : W p l e R s m args below meth c H locs cells slots Q (F0 m (pc + 3) ls (.ref (ad 9) :: rest))) : W p l e R s m args below meth c H locs cells slots Q (F0 m pc ls (.ref (ad 18) :: rest)) :=
  va_get (D := D) (ci := 4) (v := .ref (ad 9)) (C := R_Re) (T := F_Re) (N := 8) S.1 S.2.1 S.2.2.2.2 u_Re S.2.2.2.1 hK hP 18 rfl rfl 1 (by decide) (S.2.2.2.2 _ fl_Re_rules) (fun _ h => h) rfl hdg kk
theorem g_Re_reached (S : CallFix p m c cc nL s args gtbl R_Re) (hK : va_K D classes (tyA cA) s) (hP : va_P D classes (wC ad cA (te, ru, au, re, la, sp, le)) H) (hdg : decode cc pc = .ok (.getfield 9, 3)) (kk : W p l e R s m args below meth c H locs cells slots Q (F0 m (pc + 3) ls (.ref (ad 19) :: rest))) : W p l e R s m args below meth c H locs cells slots Q (F0 m pc ls (.ref (ad 18) :: rest)) :=
  va_get (D := D) (ci := 4) (v := .ref (ad 19)) (C := R_Re) (T := F_Re) (N := 8) S.1 S.2.1 S.2.2.2.2 u_Re S.2.2.2.1 hK hP 18 rfl rfl 2 (by decide) (S.2.2.2.2 _ fl_Re_reached) (fun _ h => h) rfl hdg kk
theorem g_Re_joined (S : CallFix p m c cc nL s args gtbl R_Re) (hK : va_K D classes (tyA cA) s) (hP : va_P D classes (wC ad cA (te, ru, au, re, la, sp, le)) H) (hdg : decode cc pc = .ok (.getfield 15, 3)) (kk : W p l e R s m args below meth c H locs cells slots Q (F0 m (pc + 3) ls (.ref (ad 20) :: rest))) : W p l e R s m args below meth c H locs cells slots Q (F0 m pc ls (.ref (ad 18) :: rest)) :=
  va_get (D := D) (ci := 4) (v := .ref (ad 20)) (C := R_Re) (T := F_Re) (N := 8) S.1 S.2.1 S.2.2.2.2 u_Re S.2.2.2.1 hK hP 18 rfl rfl 3 (by decide) (S.2.2.2.2 _ fl_Re_joined) (fun _ h => h) rfl hdg kk
theorem g_Re_least (S : CallFix p m c cc nL s args gtbl R_Re) (hK : va_K D classes (tyA cA) s) (hP : va_P D classes (wC ad cA (te, ru, au, re, la, sp, le)) H) (hdg : decode cc pc = .ok (.getfield 18, 3)) (kk : W p l e R s m args below meth c H locs cells slots Q (F0 m (pc + 3) ls (.ref (ad 21) :: rest))) : W p l e R s m args below meth c H locs cells slots Q (F0 m pc ls (.ref (ad 18) :: rest)) :=
  va_get (D := D) (ci := 4) (v := .ref (ad 21)) (C := R_Re) (T := F_Re) (N := 8) S.1 S.2.1 S.2.2.2.2 u_Re S.2.2.2.1 hK hP 18 rfl rfl 4 (by decide) (S.2.2.2.2 _ fl_Re_least) (fun _ h => h) rfl hdg kk
theorem g_Re_termsThen (S : CallFix p m c cc nL s args gtbl R_Re) (hK : va_K D classes (tyA cA) s) (hP : va_P D classes (wC ad cA (te, ru, au, re, la, sp, le)) H) (hdg : decode cc pc = .ok (.getfield 22, 3)) (kk : W p l e R s m args below meth c H locs cells slots Q (F0 m (pc + 3) ls (.int (Re_termsThen re) :: rest))) : W p l e R s m args below meth c H locs cells slots Q (F0 m pc ls (.ref (ad 18) :: rest)) :=
  va_get (D := D) (ci := 4) (v := .int (Re_termsThen re)) (C := R_Re) (T := F_Re) (N := 8) S.1 S.2.1 S.2.2.2.2 u_Re S.2.2.2.1 hK hP 18 rfl rfl 5 (by decide) (S.2.2.2.2 _ fl_Re_termsThen) (fun _ h => h) rfl hdg kk
theorem q_Re_termsThen (S : CallFix p m c cc nL s args gtbl R_Re) (hK : va_K D classes (tyA cA) s) (I : gIn D A s (wC ad cA) (te, ru, au, re, la, sp, le) H locs) {v : Int32} (hdg : decode cc pc = .ok (.putfield 22, 3)) (kk : ∀ (H1 : Heap) (locs1 : List Loc), gIn D A s (wC ad cA) (te, ru, au, Re_termsThen_s re v, la, sp, le) H1 locs1 → W p l e R s m args below meth c H1 locs1 cells slots Q (F0 m (pc + 3) ls rest)) : W p l e R s m args below meth c H locs cells slots Q (F0 m pc ls (.int v :: .ref (ad 18) :: rest)) :=
  va_put (D := D) (ci := 4) (v := .int v) (ty := .int) (C := R_Re) (T := F_Re) (N := 8) S.1 S.2.1 S.2.2.2.2 u_Re t_Re t_Re_ok n_Re S.2.2.2.1 hK I.1 I.2.1 I.2.2 18 rfl rfl 5 (by decide) (S.2.2.2.2 _ fl_Re_termsThen) (fun _ h => h) rfl (by decide +kernel) rfl rfl (Nat.le_of_ble_eq_true rfl) hdg (fun H1 locs1 a b d => kk H1 locs1 ⟨a, b, d⟩)
theorem g_Re_changesThen (S : CallFix p m c cc nL s args gtbl R_Re) (hK : va_K D classes (tyA cA) s) (hP : va_P D classes (wC ad cA (te, ru, au, re, la, sp, le)) H) (hdg : decode cc pc = .ok (.getfield 26, 3)) (kk : W p l e R s m args below meth c H locs cells slots Q (F0 m (pc + 3) ls (.int (Re_changesThen re) :: rest))) : W p l e R s m args below meth c H locs cells slots Q (F0 m pc ls (.ref (ad 18) :: rest)) :=
  va_get (D := D) (ci := 4) (v := .int (Re_changesThen re)) (C := R_Re) (T := F_Re) (N := 8) S.1 S.2.1 S.2.2.2.2 u_Re S.2.2.2.1 hK hP 18 rfl rfl 6 (by decide) (S.2.2.2.2 _ fl_Re_changesThen) (fun _ h => h) rfl hdg kk
theorem q_Re_changesThen (S : CallFix p m c cc nL s args gtbl R_Re) (hK : va_K D classes (tyA cA) s) (I : gIn D A s (wC ad cA) (te, ru, au, re, la, sp, le) H locs) {v : Int32} (hdg : decode cc pc = .ok (.putfield 26, 3)) (kk : ∀ (H1 : Heap) (locs1 : List Loc), gIn D A s (wC ad cA) (te, ru, au, Re_changesThen_s re v, la, sp, le) H1 locs1 → W p l e R s m args below meth c H1 locs1 cells slots Q (F0 m (pc + 3) ls rest)) : W p l e R s m args below meth c H locs cells slots Q (F0 m pc ls (.int v :: .ref (ad 18) :: rest)) :=
  va_put (D := D) (ci := 4) (v := .int v) (ty := .int) (C := R_Re) (T := F_Re) (N := 8) S.1 S.2.1 S.2.2.2.2 u_Re t_Re t_Re_ok n_Re S.2.2.2.1 hK I.1 I.2.1 I.2.2 18 rfl rfl 6 (by decide) (S.2.2.2.2 _ fl_Re_changesThen) (fun _ h => h) rfl (by decide +kernel) rfl rfl (Nat.le_of_ble_eq_true rfl) hdg (fun H1 locs1 a b d => kk H1 locs1 ⟨a, b, d⟩)
theorem g_Re_joinedKnown (S : CallFix p m c cc nL s args gtbl R_Re) (hK : va_K D classes (tyA cA) s) (hP : va_P D classes (wC ad cA (te, ru, au, re, la, sp, le)) H) (hdg : decode cc pc = .ok (.getfield 48, 3)) (kk : W p l e R s m args below meth c H locs cells slots Q (F0 m (pc + 3) ls (.int (Re_joinedKnown re) :: rest))) : W p l e R s m args below meth c H locs cells slots Q (F0 m pc ls (.ref (ad 18) :: rest)) :=
  va_get (D := D) (ci := 4) (v := .int (Re_joinedKnown re)) (C := R_Re) (T := F_Re) (N := 8) S.1 S.2.1 S.2.2.2.2 u_Re S.2.2.2.1 hK hP 18 rfl rfl 7 (by decide) (S.2.2.2.2 _ fl_Re_joinedKnown) (fun _ h => h) rfl hdg kk
theorem q_Re_joinedKnown (S : CallFix p m c cc nL s args gtbl R_Re) (hK : va_K D classes (tyA cA) s) (I : gIn D A s (wC ad cA) (te, ru, au, re, la, sp, le) H locs) {v : Int32} (hn : narrow .boolean (.int v) = .int v) (hf : fits .boolean (.int v) = true) (hdg : decode cc pc = .ok (.putfield 48, 3)) (kk : ∀ (H1 : Heap) (locs1 : List Loc), gIn D A s (wC ad cA) (te, ru, au, Re_joinedKnown_s re v, la, sp, le) H1 locs1 → W p l e R s m args below meth c H1 locs1 cells slots Q (F0 m (pc + 3) ls rest)) : W p l e R s m args below meth c H locs cells slots Q (F0 m pc ls (.int v :: .ref (ad 18) :: rest)) :=
  va_put (D := D) (ci := 4) (v := .int v) (ty := .boolean) (C := R_Re) (T := F_Re) (N := 8) S.1 S.2.1 S.2.2.2.2 u_Re t_Re t_Re_ok n_Re S.2.2.2.1 hK I.1 I.2.1 I.2.2 18 rfl rfl 7 (by decide) (S.2.2.2.2 _ fl_Re_joinedKnown) (fun _ h => h) rfl (by decide +kernel) hn hf (Nat.le_of_ble_eq_true rfl) hdg (fun H1 locs1 a b d => kk H1 locs1 ⟨a, b, d⟩)
theorem a_Re_reached (S : CallFix p m c cc nL s args gtbl own) (hK : va_K D classes (tyA cA) s) (hP : va_P D classes (wC ad cA (te, ru, au, re, la, sp, le)) H) {i : Int32} (hin : vp_in i 48) (hdg : decode cc pc = .ok (.laload, 1)) (kk : W p l e R s m args below meth c H locs cells slots Q (F0 m (pc + 1) ls (.long (Re_reached re i.toNatClampNeg) :: rest))) : W p l e R s m args below meth c H locs cells slots Q (F0 m pc ls (.int i :: .ref (ad 19) :: rest)) :=
  va_lald S.1 S.2.1 hK hP 19 1 rfl rfl hin hdg kk
theorem s_Re_reached (S : CallFix p m c cc nL s args gtbl own) (hK : va_K D classes (tyA cA) s) (I : gIn D A s (wC ad cA) (te, ru, au, re, la, sp, le) H locs) {i : Int32} {x : Int64} (hin : vp_in i 48) (hdg : decode cc pc = .ok (.lastore, 1)) (kk : ∀ (H1 : Heap) (locs1 : List Loc), gIn D A s (wC ad cA) (te, ru, au, Re_reached_s re (vp_updL (Re_reached re) i.toNatClampNeg x), la, sp, le) H1 locs1 → W p l e R s m args below meth c H1 locs1 cells slots Q (F0 m (pc + 1) ls rest)) : W p l e R s m args below meth c H locs cells slots Q (F0 m pc ls (.long x :: .int i :: .ref (ad 19) :: rest)) :=
  va_last S.1 S.2.1 hK I.1 I.2.1 I.2.2 19 1 rfl rfl hin hdg (fun H1 locs1 a b d => kk H1 locs1 ⟨a, b, d⟩)
theorem n_Re_reached (S : CallFix p m c cc nL s args gtbl own) (hK : va_K D classes (tyA cA) s) (hP : va_P D classes (wC ad cA (te, ru, au, re, la, sp, le)) H) (hdg : decode cc pc = .ok (.arraylength, 1)) (kk : W p l e R s m args below meth c H locs cells slots Q (F0 m (pc + 1) ls (.int 48 :: rest))) : W p l e R s m args below meth c H locs cells slots Q (F0 m pc ls (.ref (ad 19) :: rest)) :=
  va_alen S.1 S.2.1 hK hP 19 1 rfl rfl (v := 48) rfl hdg kk
theorem a_Re_joined (S : CallFix p m c cc nL s args gtbl own) (hK : va_K D classes (tyA cA) s) (hP : va_P D classes (wC ad cA (te, ru, au, re, la, sp, le)) H) {i : Int32} (hin : vp_in i 48) (hdg : decode cc pc = .ok (.laload, 1)) (kk : W p l e R s m args below meth c H locs cells slots Q (F0 m (pc + 1) ls (.long (Re_joined re i.toNatClampNeg) :: rest))) : W p l e R s m args below meth c H locs cells slots Q (F0 m pc ls (.int i :: .ref (ad 20) :: rest)) :=
  va_lald S.1 S.2.1 hK hP 20 1 rfl rfl hin hdg kk
theorem s_Re_joined (S : CallFix p m c cc nL s args gtbl own) (hK : va_K D classes (tyA cA) s) (I : gIn D A s (wC ad cA) (te, ru, au, re, la, sp, le) H locs) {i : Int32} {x : Int64} (hin : vp_in i 48) (hdg : decode cc pc = .ok (.lastore, 1)) (kk : ∀ (H1 : Heap) (locs1 : List Loc), gIn D A s (wC ad cA) (te, ru, au, Re_joined_s re (vp_updL (Re_joined re) i.toNatClampNeg x), la, sp, le) H1 locs1 → W p l e R s m args below meth c H1 locs1 cells slots Q (F0 m (pc + 1) ls rest)) : W p l e R s m args below meth c H locs cells slots Q (F0 m pc ls (.long x :: .int i :: .ref (ad 20) :: rest)) :=
  va_last S.1 S.2.1 hK I.1 I.2.1 I.2.2 20 1 rfl rfl hin hdg (fun H1 locs1 a b d => kk H1 locs1 ⟨a, b, d⟩)
theorem n_Re_joined (S : CallFix p m c cc nL s args gtbl own) (hK : va_K D classes (tyA cA) s) (hP : va_P D classes (wC ad cA (te, ru, au, re, la, sp, le)) H) (hdg : decode cc pc = .ok (.arraylength, 1)) (kk : W p l e R s m args below meth c H locs cells slots Q (F0 m (pc + 1) ls (.int 48 :: rest))) : W p l e R s m args below meth c H locs cells slots Q (F0 m pc ls (.ref (ad 20) :: rest)) :=
  va_alen S.1 S.2.1 hK hP 20 1 rfl rfl (v := 48) rfl hdg kk
theorem a_Re_least (S : CallFix p m c cc nL s args gtbl own) (hK : va_K D classes (tyA cA) s) (hP : va_P D classes (wC ad cA (te, ru, au, re, la, sp, le)) H) {i : Int32} (hin : vp_in i 48) (hdg : decode cc pc = .ok (.iaload, 1)) (kk : W p l e R s m args below meth c H locs cells slots Q (F0 m (pc + 1) ls (.int (Re_least re i.toNatClampNeg) :: rest))) : W p l e R s m args below meth c H locs cells slots Q (F0 m pc ls (.int i :: .ref (ad 21) :: rest)) :=
  va_iald S.1 S.2.1 hK hP 21 0 rfl rfl hin hdg kk
theorem s_Re_least (S : CallFix p m c cc nL s args gtbl own) (hK : va_K D classes (tyA cA) s) (I : gIn D A s (wC ad cA) (te, ru, au, re, la, sp, le) H locs) {i : Int32} {x : Int32} (hin : vp_in i 48) (hdg : decode cc pc = .ok (.iastore, 1)) (kk : ∀ (H1 : Heap) (locs1 : List Loc), gIn D A s (wC ad cA) (te, ru, au, Re_least_s re (upd (Re_least re) i.toNatClampNeg x), la, sp, le) H1 locs1 → W p l e R s m args below meth c H1 locs1 cells slots Q (F0 m (pc + 1) ls rest)) : W p l e R s m args below meth c H locs cells slots Q (F0 m pc ls (.int x :: .int i :: .ref (ad 21) :: rest)) :=
  va_iast S.1 S.2.1 hK I.1 I.2.1 I.2.2 21 0 rfl rfl hin hdg (fun H1 locs1 a b d => kk H1 locs1 ⟨a, b, d⟩)
theorem n_Re_least (S : CallFix p m c cc nL s args gtbl own) (hK : va_K D classes (tyA cA) s) (hP : va_P D classes (wC ad cA (te, ru, au, re, la, sp, le)) H) (hdg : decode cc pc = .ok (.arraylength, 1)) (kk : W p l e R s m args below meth c H locs cells slots Q (F0 m (pc + 1) ls (.int 48 :: rest))) : W p l e R s m args below meth c H locs cells slots Q (F0 m pc ls (.ref (ad 21) :: rest)) :=
  va_alen S.1 S.2.1 hK hP 21 0 rfl rfl (v := 48) rfl hdg kk
theorem g_La_terms (S : CallFix p m c cc nL s args gtbl R_La) (hK : va_K D classes (tyA cA) s) (hP : va_P D classes (wC ad cA (te, ru, au, re, la, sp, le)) H) (hdg : decode cc pc = .ok (.getfield 15, 3)) (kk : W p l e R s m args below meth c H locs cells slots Q (F0 m (pc + 3) ls (.ref (ad 1) :: rest))) : W p l e R s m args below meth c H locs cells slots Q (F0 m pc ls (.ref (ad 22) :: rest)) :=
  va_get (D := D) (ci := 5) (v := .ref (ad 1)) (C := R_La) (T := F_La) (N := 4) S.1 S.2.1 S.2.2.2.2 u_La S.2.2.2.1 hK hP 22 rfl rfl 0 (by decide) (S.2.2.2.2 _ fl_La_terms) (fun _ h => h) rfl hdg kk
theorem g_La_automaton (S : CallFix p m c cc nL s args gtbl R_La) (hK : va_K D classes (tyA cA) s) (hP : va_P D classes (wC ad cA (te, ru, au, re, la, sp, le)) H) (hdg : decode cc pc = .ok (.getfield 19, 3)) (kk : W p l e R s m args below meth c H locs cells slots Q (F0 m (pc + 3) ls (.ref (ad 12) :: rest))) : W p l e R s m args below meth c H locs cells slots Q (F0 m pc ls (.ref (ad 22) :: rest)) :=
  va_get (D := D) (ci := 5) (v := .ref (ad 12)) (C := R_La) (T := F_La) (N := 4) S.1 S.2.1 S.2.2.2.2 u_La S.2.2.2.1 hK hP 22 rfl rfl 1 (by decide) (S.2.2.2.2 _ fl_La_automaton) (fun _ h => h) rfl hdg kk
theorem g_La_relations (S : CallFix p m c cc nL s args gtbl R_La) (hK : va_K D classes (tyA cA) s) (hP : va_P D classes (wC ad cA (te, ru, au, re, la, sp, le)) H) (hdg : decode cc pc = .ok (.getfield 23, 3)) (kk : W p l e R s m args below meth c H locs cells slots Q (F0 m (pc + 3) ls (.ref (ad 18) :: rest))) : W p l e R s m args below meth c H locs cells slots Q (F0 m pc ls (.ref (ad 22) :: rest)) :=
  va_get (D := D) (ci := 5) (v := .ref (ad 18)) (C := R_La) (T := F_La) (N := 4) S.1 S.2.1 S.2.2.2.2 u_La S.2.2.2.1 hK hP 22 rfl rfl 2 (by decide) (S.2.2.2.2 _ fl_La_relations) (fun _ h => h) rfl hdg kk
theorem g_La_states (S : CallFix p m c cc nL s args gtbl R_La) (hK : va_K D classes (tyA cA) s) (hP : va_P D classes (wC ad cA (te, ru, au, re, la, sp, le)) H) (hdg : decode cc pc = .ok (.getfield 9, 3)) (kk : W p l e R s m args below meth c H locs cells slots Q (F0 m (pc + 3) ls (.ref (ad 23) :: rest))) : W p l e R s m args below meth c H locs cells slots Q (F0 m pc ls (.ref (ad 22) :: rest)) :=
  va_get (D := D) (ci := 5) (v := .ref (ad 23)) (C := R_La) (T := F_La) (N := 4) S.1 S.2.1 S.2.2.2.2 u_La S.2.2.2.1 hK hP 22 rfl rfl 3 (by decide) (S.2.2.2.2 _ fl_La_states) (fun _ h => h) rfl hdg kk
theorem a_La_states (S : CallFix p m c cc nL s args gtbl own) (hK : va_K D classes (tyA cA) s) (hP : va_P D classes (wC ad cA (te, ru, au, re, la, sp, le)) H) {i : Int32} (hin : vp_in i 48) (hdg : decode cc pc = .ok (.iaload, 1)) (kk : W p l e R s m args below meth c H locs cells slots Q (F0 m (pc + 1) ls (.int (La_states la i.toNatClampNeg) :: rest))) : W p l e R s m args below meth c H locs cells slots Q (F0 m pc ls (.int i :: .ref (ad 23) :: rest)) :=
  va_iald S.1 S.2.1 hK hP 23 0 rfl rfl hin hdg kk
theorem s_La_states (S : CallFix p m c cc nL s args gtbl own) (hK : va_K D classes (tyA cA) s) (I : gIn D A s (wC ad cA) (te, ru, au, re, la, sp, le) H locs) {i : Int32} {x : Int32} (hin : vp_in i 48) (hdg : decode cc pc = .ok (.iastore, 1)) (kk : ∀ (H1 : Heap) (locs1 : List Loc), gIn D A s (wC ad cA) (te, ru, au, re, La_states_s la (upd (La_states la) i.toNatClampNeg x), sp, le) H1 locs1 → W p l e R s m args below meth c H1 locs1 cells slots Q (F0 m (pc + 1) ls rest)) : W p l e R s m args below meth c H locs cells slots Q (F0 m pc ls (.int x :: .int i :: .ref (ad 23) :: rest)) :=
  va_iast S.1 S.2.1 hK I.1 I.2.1 I.2.2 23 0 rfl rfl hin hdg (fun H1 locs1 a b d => kk H1 locs1 ⟨a, b, d⟩)
theorem n_La_states (S : CallFix p m c cc nL s args gtbl own) (hK : va_K D classes (tyA cA) s) (hP : va_P D classes (wC ad cA (te, ru, au, re, la, sp, le)) H) (hdg : decode cc pc = .ok (.arraylength, 1)) (kk : W p l e R s m args below meth c H locs cells slots Q (F0 m (pc + 1) ls (.int 48 :: rest))) : W p l e R s m args below meth c H locs cells slots Q (F0 m pc ls (.ref (ad 23) :: rest)) :=
  va_alen S.1 S.2.1 hK hP 23 0 rfl rfl (v := 48) rfl hdg kk
theorem g_Sp_terms (S : CallFix p m c cc nL s args gtbl R_Sp) (hK : va_K D classes (tyA cA) s) (hP : va_P D classes (wC ad cA (te, ru, au, re, la, sp, le)) H) (hdg : decode cc pc = .ok (.getfield 23, 3)) (kk : W p l e R s m args below meth c H locs cells slots Q (F0 m (pc + 3) ls (.ref (ad 1) :: rest))) : W p l e R s m args below meth c H locs cells slots Q (F0 m pc ls (.ref (ad 24) :: rest)) :=
  va_get (D := D) (ci := 6) (v := .ref (ad 1)) (C := R_Sp) (T := F_Sp) (N := 5) S.1 S.2.1 S.2.2.2.2 u_Sp S.2.2.2.1 hK hP 24 rfl rfl 0 (by decide) (S.2.2.2.2 _ fl_Sp_terms) (fun _ h => h) rfl hdg kk
theorem g_Sp_rules (S : CallFix p m c cc nL s args gtbl R_Sp) (hK : va_K D classes (tyA cA) s) (hP : va_P D classes (wC ad cA (te, ru, au, re, la, sp, le)) H) (hdg : decode cc pc = .ok (.getfield 27, 3)) (kk : W p l e R s m args below meth c H locs cells slots Q (F0 m (pc + 3) ls (.ref (ad 9) :: rest))) : W p l e R s m args below meth c H locs cells slots Q (F0 m pc ls (.ref (ad 24) :: rest)) :=
  va_get (D := D) (ci := 6) (v := .ref (ad 9)) (C := R_Sp) (T := F_Sp) (N := 5) S.1 S.2.1 S.2.2.2.2 u_Sp S.2.2.2.1 hK hP 24 rfl rfl 1 (by decide) (S.2.2.2.2 _ fl_Sp_rules) (fun _ h => h) rfl hdg kk
theorem g_Sp_counts (S : CallFix p m c cc nL s args gtbl R_Sp) (hK : va_K D classes (tyA cA) s) (hP : va_P D classes (wC ad cA (te, ru, au, re, la, sp, le)) H) (hdg : decode cc pc = .ok (.getfield 9, 3)) (kk : W p l e R s m args below meth c H locs cells slots Q (F0 m (pc + 3) ls (.ref (ad 25) :: rest))) : W p l e R s m args below meth c H locs cells slots Q (F0 m pc ls (.ref (ad 24) :: rest)) :=
  va_get (D := D) (ci := 6) (v := .ref (ad 25)) (C := R_Sp) (T := F_Sp) (N := 5) S.1 S.2.1 S.2.2.2.2 u_Sp S.2.2.2.1 hK hP 24 rfl rfl 2 (by decide) (S.2.2.2.2 _ fl_Sp_counts) (fun _ h => h) rfl hdg kk
theorem g_Sp_path (S : CallFix p m c cc nL s args gtbl R_Sp) (hK : va_K D classes (tyA cA) s) (hP : va_P D classes (wC ad cA (te, ru, au, re, la, sp, le)) H) (hdg : decode cc pc = .ok (.getfield 15, 3)) (kk : W p l e R s m args below meth c H locs cells slots Q (F0 m (pc + 3) ls (.ref (ad 26) :: rest))) : W p l e R s m args below meth c H locs cells slots Q (F0 m pc ls (.ref (ad 24) :: rest)) :=
  va_get (D := D) (ci := 6) (v := .ref (ad 26)) (C := R_Sp) (T := F_Sp) (N := 5) S.1 S.2.1 S.2.2.2.2 u_Sp S.2.2.2.1 hK hP 24 rfl rfl 3 (by decide) (S.2.2.2.2 _ fl_Sp_path) (fun _ h => h) rfl hdg kk
theorem g_Sp_wentFirst (S : CallFix p m c cc nL s args gtbl R_Sp) (hK : va_K D classes (tyA cA) s) (hP : va_P D classes (wC ad cA (te, ru, au, re, la, sp, le)) H) (hdg : decode cc pc = .ok (.getfield 19, 3)) (kk : W p l e R s m args below meth c H locs cells slots Q (F0 m (pc + 3) ls (.ref (ad 27) :: rest))) : W p l e R s m args below meth c H locs cells slots Q (F0 m pc ls (.ref (ad 24) :: rest)) :=
  va_get (D := D) (ci := 6) (v := .ref (ad 27)) (C := R_Sp) (T := F_Sp) (N := 5) S.1 S.2.1 S.2.2.2.2 u_Sp S.2.2.2.1 hK hP 24 rfl rfl 4 (by decide) (S.2.2.2.2 _ fl_Sp_wentFirst) (fun _ h => h) rfl hdg kk
theorem a_Sp_counts (S : CallFix p m c cc nL s args gtbl own) (hK : va_K D classes (tyA cA) s) (hP : va_P D classes (wC ad cA (te, ru, au, re, la, sp, le)) H) {i : Int32} (hin : vp_in i 48) (hdg : decode cc pc = .ok (.laload, 1)) (kk : W p l e R s m args below meth c H locs cells slots Q (F0 m (pc + 1) ls (.long (Sp_counts sp i.toNatClampNeg) :: rest))) : W p l e R s m args below meth c H locs cells slots Q (F0 m pc ls (.int i :: .ref (ad 25) :: rest)) :=
  va_lald S.1 S.2.1 hK hP 25 1 rfl rfl hin hdg kk
theorem s_Sp_counts (S : CallFix p m c cc nL s args gtbl own) (hK : va_K D classes (tyA cA) s) (I : gIn D A s (wC ad cA) (te, ru, au, re, la, sp, le) H locs) {i : Int32} {x : Int64} (hin : vp_in i 48) (hdg : decode cc pc = .ok (.lastore, 1)) (kk : ∀ (H1 : Heap) (locs1 : List Loc), gIn D A s (wC ad cA) (te, ru, au, re, la, Sp_counts_s sp (vp_updL (Sp_counts sp) i.toNatClampNeg x), le) H1 locs1 → W p l e R s m args below meth c H1 locs1 cells slots Q (F0 m (pc + 1) ls rest)) : W p l e R s m args below meth c H locs cells slots Q (F0 m pc ls (.long x :: .int i :: .ref (ad 25) :: rest)) :=
  va_last S.1 S.2.1 hK I.1 I.2.1 I.2.2 25 1 rfl rfl hin hdg (fun H1 locs1 a b d => kk H1 locs1 ⟨a, b, d⟩)
theorem n_Sp_counts (S : CallFix p m c cc nL s args gtbl own) (hK : va_K D classes (tyA cA) s) (hP : va_P D classes (wC ad cA (te, ru, au, re, la, sp, le)) H) (hdg : decode cc pc = .ok (.arraylength, 1)) (kk : W p l e R s m args below meth c H locs cells slots Q (F0 m (pc + 1) ls (.int 48 :: rest))) : W p l e R s m args below meth c H locs cells slots Q (F0 m pc ls (.ref (ad 25) :: rest)) :=
  va_alen S.1 S.2.1 hK hP 25 1 rfl rfl (v := 48) rfl hdg kk
theorem a_Sp_path (S : CallFix p m c cc nL s args gtbl own) (hK : va_K D classes (tyA cA) s) (hP : va_P D classes (wC ad cA (te, ru, au, re, la, sp, le)) H) {i : Int32} (hin : vp_in i 48) (hdg : decode cc pc = .ok (.iaload, 1)) (kk : W p l e R s m args below meth c H locs cells slots Q (F0 m (pc + 1) ls (.int (Sp_path sp i.toNatClampNeg) :: rest))) : W p l e R s m args below meth c H locs cells slots Q (F0 m pc ls (.int i :: .ref (ad 26) :: rest)) :=
  va_iald S.1 S.2.1 hK hP 26 0 rfl rfl hin hdg kk
theorem s_Sp_path (S : CallFix p m c cc nL s args gtbl own) (hK : va_K D classes (tyA cA) s) (I : gIn D A s (wC ad cA) (te, ru, au, re, la, sp, le) H locs) {i : Int32} {x : Int32} (hin : vp_in i 48) (hdg : decode cc pc = .ok (.iastore, 1)) (kk : ∀ (H1 : Heap) (locs1 : List Loc), gIn D A s (wC ad cA) (te, ru, au, re, la, Sp_path_s sp (upd (Sp_path sp) i.toNatClampNeg x), le) H1 locs1 → W p l e R s m args below meth c H1 locs1 cells slots Q (F0 m (pc + 1) ls rest)) : W p l e R s m args below meth c H locs cells slots Q (F0 m pc ls (.int x :: .int i :: .ref (ad 26) :: rest)) :=
  va_iast S.1 S.2.1 hK I.1 I.2.1 I.2.2 26 0 rfl rfl hin hdg (fun H1 locs1 a b d => kk H1 locs1 ⟨a, b, d⟩)
theorem n_Sp_path (S : CallFix p m c cc nL s args gtbl own) (hK : va_K D classes (tyA cA) s) (hP : va_P D classes (wC ad cA (te, ru, au, re, la, sp, le)) H) (hdg : decode cc pc = .ok (.arraylength, 1)) (kk : W p l e R s m args below meth c H locs cells slots Q (F0 m (pc + 1) ls (.int 48 :: rest))) : W p l e R s m args below meth c H locs cells slots Q (F0 m pc ls (.ref (ad 26) :: rest)) :=
  va_alen S.1 S.2.1 hK hP 26 0 rfl rfl (v := 48) rfl hdg kk
theorem a_Sp_wentFirst (S : CallFix p m c cc nL s args gtbl own) (hK : va_K D classes (tyA cA) s) (hP : va_P D classes (wC ad cA (te, ru, au, re, la, sp, le)) H) {i : Int32} (hin : vp_in i 48) (hdg : decode cc pc = .ok (.baload, 1)) (kk : W p l e R s m args below meth c H locs cells slots Q (F0 m (pc + 1) ls (.int (Sp_wentFirst sp i.toNatClampNeg) :: rest))) : W p l e R s m args below meth c H locs cells slots Q (F0 m pc ls (.int i :: .ref (ad 27) :: rest)) :=
  va_zald S.1 S.2.1 hK hP 27 2 rfl rfl hin hdg kk
theorem s_Sp_wentFirst (S : CallFix p m c cc nL s args gtbl own) (hK : va_K D classes (tyA cA) s) (I : gIn D A s (wC ad cA) (te, ru, au, re, la, sp, le) H locs) {i : Int32} {x : Int32} (hin : vp_in i 48) (hdg : decode cc pc = .ok (.bastore, 1)) (kk : ∀ (H1 : Heap) (locs1 : List Loc), gIn D A s (wC ad cA) (te, ru, au, re, la, Sp_wentFirst_s sp (upd (Sp_wentFirst sp) i.toNatClampNeg (vp_nar .boolean x)), le) H1 locs1 → W p l e R s m args below meth c H1 locs1 cells slots Q (F0 m (pc + 1) ls rest)) : W p l e R s m args below meth c H locs cells slots Q (F0 m pc ls (.int x :: .int i :: .ref (ad 27) :: rest)) :=
  va_zast S.1 S.2.1 hK I.1 I.2.1 I.2.2 27 2 rfl rfl hin hdg (fun H1 locs1 a b d => kk H1 locs1 ⟨a, b, d⟩)
theorem n_Sp_wentFirst (S : CallFix p m c cc nL s args gtbl own) (hK : va_K D classes (tyA cA) s) (hP : va_P D classes (wC ad cA (te, ru, au, re, la, sp, le)) H) (hdg : decode cc pc = .ok (.arraylength, 1)) (kk : W p l e R s m args below meth c H locs cells slots Q (F0 m (pc + 1) ls (.int 48 :: rest))) : W p l e R s m args below meth c H locs cells slots Q (F0 m pc ls (.ref (ad 27) :: rest)) :=
  va_alen S.1 S.2.1 hK hP 27 2 rfl rfl (v := 48) rfl hdg kk
theorem g_Le_terms (S : CallFix p m c cc nL s args gtbl R_Le) (hK : va_K D classes (tyA cA) s) (hP : va_P D classes (wC ad cA (te, ru, au, re, la, sp, le)) H) (hdg : decode cc pc = .ok (.getfield 35, 3)) (kk : W p l e R s m args below meth c H locs cells slots Q (F0 m (pc + 3) ls (.ref (ad 1) :: rest))) : W p l e R s m args below meth c H locs cells slots Q (F0 m pc ls (.ref (ad 28) :: rest)) :=
  va_get (D := D) (ci := 7) (v := .ref (ad 1)) (C := R_Le) (T := F_Le) (N := 10) S.1 S.2.1 S.2.2.2.2 u_Le S.2.2.2.1 hK hP 28 rfl rfl 0 (by decide) (S.2.2.2.2 _ fl_Le_terms) (fun _ h => h) rfl hdg kk
theorem g_Le_rules (S : CallFix p m c cc nL s args gtbl R_Le) (hK : va_K D classes (tyA cA) s) (hP : va_P D classes (wC ad cA (te, ru, au, re, la, sp, le)) H) (hdg : decode cc pc = .ok (.getfield 39, 3)) (kk : W p l e R s m args below meth c H locs cells slots Q (F0 m (pc + 3) ls (.ref (ad 9) :: rest))) : W p l e R s m args below meth c H locs cells slots Q (F0 m pc ls (.ref (ad 28) :: rest)) :=
  va_get (D := D) (ci := 7) (v := .ref (ad 9)) (C := R_Le) (T := F_Le) (N := 10) S.1 S.2.1 S.2.2.2.2 u_Le S.2.2.2.1 hK hP 28 rfl rfl 1 (by decide) (S.2.2.2.2 _ fl_Le_rules) (fun _ h => h) rfl hdg kk
theorem g_Le_after (S : CallFix p m c cc nL s args gtbl R_Le) (hK : va_K D classes (tyA cA) s) (hP : va_P D classes (wC ad cA (te, ru, au, re, la, sp, le)) H) (hdg : decode cc pc = .ok (.getfield 11, 3)) (kk : W p l e R s m args below meth c H locs cells slots Q (F0 m (pc + 3) ls (.ref (ad 29) :: rest))) : W p l e R s m args below meth c H locs cells slots Q (F0 m pc ls (.ref (ad 28) :: rest)) :=
  va_get (D := D) (ci := 7) (v := .ref (ad 29)) (C := R_Le) (T := F_Le) (N := 10) S.1 S.2.1 S.2.2.2.2 u_Le S.2.2.2.1 hK hP 28 rfl rfl 2 (by decide) (S.2.2.2.2 _ fl_Le_after) (fun _ h => h) rfl hdg kk
theorem g_Le_counted (S : CallFix p m c cc nL s args gtbl R_Le) (hK : va_K D classes (tyA cA) s) (hP : va_P D classes (wC ad cA (te, ru, au, re, la, sp, le)) H) (hdg : decode cc pc = .ok (.getfield 15, 3)) (kk : W p l e R s m args below meth c H locs cells slots Q (F0 m (pc + 3) ls (.ref (ad 30) :: rest))) : W p l e R s m args below meth c H locs cells slots Q (F0 m pc ls (.ref (ad 28) :: rest)) :=
  va_get (D := D) (ci := 7) (v := .ref (ad 30)) (C := R_Le) (T := F_Le) (N := 10) S.1 S.2.1 S.2.2.2.2 u_Le S.2.2.2.1 hK hP 28 rfl rfl 3 (by decide) (S.2.2.2.2 _ fl_Le_counted) (fun _ h => h) rfl hdg kk
theorem g_Le_expanded (S : CallFix p m c cc nL s args gtbl R_Le) (hK : va_K D classes (tyA cA) s) (hP : va_P D classes (wC ad cA (te, ru, au, re, la, sp, le)) H) (hdg : decode cc pc = .ok (.getfield 19, 3)) (kk : W p l e R s m args below meth c H locs cells slots Q (F0 m (pc + 3) ls (.ref (ad 31) :: rest))) : W p l e R s m args below meth c H locs cells slots Q (F0 m pc ls (.ref (ad 28) :: rest)) :=
  va_get (D := D) (ci := 7) (v := .ref (ad 31)) (C := R_Le) (T := F_Le) (N := 10) S.1 S.2.1 S.2.2.2.2 u_Le S.2.2.2.1 hK hP 28 rfl rfl 4 (by decide) (S.2.2.2.2 _ fl_Le_expanded) (fun _ h => h) rfl hdg kk
theorem g_Le_inLevels (S : CallFix p m c cc nL s args gtbl R_Le) (hK : va_K D classes (tyA cA) s) (hP : va_P D classes (wC ad cA (te, ru, au, re, la, sp, le)) H) (hdg : decode cc pc = .ok (.getfield 22, 3)) (kk : W p l e R s m args below meth c H locs cells slots Q (F0 m (pc + 3) ls (.ref (ad 32) :: rest))) : W p l e R s m args below meth c H locs cells slots Q (F0 m pc ls (.ref (ad 28) :: rest)) :=
  va_get (D := D) (ci := 7) (v := .ref (ad 32)) (C := R_Le) (T := F_Le) (N := 10) S.1 S.2.1 S.2.2.2.2 u_Le S.2.2.2.1 hK hP 28 rfl rfl 5 (by decide) (S.2.2.2.2 _ fl_Le_inLevels) (fun _ h => h) rfl hdg kk
theorem g_Le_newest (S : CallFix p m c cc nL s args gtbl R_Le) (hK : va_K D classes (tyA cA) s) (hP : va_P D classes (wC ad cA (te, ru, au, re, la, sp, le)) H) (hdg : decode cc pc = .ok (.getfield 25, 3)) (kk : W p l e R s m args below meth c H locs cells slots Q (F0 m (pc + 3) ls (.ref (ad 33) :: rest))) : W p l e R s m args below meth c H locs cells slots Q (F0 m pc ls (.ref (ad 28) :: rest)) :=
  va_get (D := D) (ci := 7) (v := .ref (ad 33)) (C := R_Le) (T := F_Le) (N := 10) S.1 S.2.1 S.2.2.2.2 u_Le S.2.2.2.1 hK hP 28 rfl rfl 6 (by decide) (S.2.2.2.2 _ fl_Le_newest) (fun _ h => h) rfl hdg kk
theorem g_Le_coming (S : CallFix p m c cc nL s args gtbl R_Le) (hK : va_K D classes (tyA cA) s) (hP : va_P D classes (wC ad cA (te, ru, au, re, la, sp, le)) H) (hdg : decode cc pc = .ok (.getfield 28, 3)) (kk : W p l e R s m args below meth c H locs cells slots Q (F0 m (pc + 3) ls (.ref (ad 34) :: rest))) : W p l e R s m args below meth c H locs cells slots Q (F0 m pc ls (.ref (ad 28) :: rest)) :=
  va_get (D := D) (ci := 7) (v := .ref (ad 34)) (C := R_Le) (T := F_Le) (N := 10) S.1 S.2.1 S.2.2.2.2 u_Le S.2.2.2.1 hK hP 28 rfl rfl 7 (by decide) (S.2.2.2.2 _ fl_Le_coming) (fun _ h => h) rfl hdg kk
theorem g_Le_waiting (S : CallFix p m c cc nL s args gtbl R_Le) (hK : va_K D classes (tyA cA) s) (hP : va_P D classes (wC ad cA (te, ru, au, re, la, sp, le)) H) (hdg : decode cc pc = .ok (.getfield 31, 3)) (kk : W p l e R s m args below meth c H locs cells slots Q (F0 m (pc + 3) ls (.ref (ad 35) :: rest))) : W p l e R s m args below meth c H locs cells slots Q (F0 m pc ls (.ref (ad 28) :: rest)) :=
  va_get (D := D) (ci := 7) (v := .ref (ad 35)) (C := R_Le) (T := F_Le) (N := 10) S.1 S.2.1 S.2.2.2.2 u_Le S.2.2.2.1 hK hP 28 rfl rfl 8 (by decide) (S.2.2.2.2 _ fl_Le_waiting) (fun _ h => h) rfl hdg kk
theorem g_Le_countedTerms (S : CallFix p m c cc nL s args gtbl R_Le) (hK : va_K D classes (tyA cA) s) (hP : va_P D classes (wC ad cA (te, ru, au, re, la, sp, le)) H) (hdg : decode cc pc = .ok (.getfield 53, 3)) (kk : W p l e R s m args below meth c H locs cells slots Q (F0 m (pc + 3) ls (.int (Le_countedTerms le) :: rest))) : W p l e R s m args below meth c H locs cells slots Q (F0 m pc ls (.ref (ad 28) :: rest)) :=
  va_get (D := D) (ci := 7) (v := .int (Le_countedTerms le)) (C := R_Le) (T := F_Le) (N := 10) S.1 S.2.1 S.2.2.2.2 u_Le S.2.2.2.1 hK hP 28 rfl rfl 9 (by decide) (S.2.2.2.2 _ fl_Le_countedTerms) (fun _ h => h) rfl hdg kk
theorem q_Le_countedTerms (S : CallFix p m c cc nL s args gtbl R_Le) (hK : va_K D classes (tyA cA) s) (I : gIn D A s (wC ad cA) (te, ru, au, re, la, sp, le) H locs) {v : Int32} (hdg : decode cc pc = .ok (.putfield 53, 3)) (kk : ∀ (H1 : Heap) (locs1 : List Loc), gIn D A s (wC ad cA) (te, ru, au, re, la, sp, Le_countedTerms_s le v) H1 locs1 → W p l e R s m args below meth c H1 locs1 cells slots Q (F0 m (pc + 3) ls rest)) : W p l e R s m args below meth c H locs cells slots Q (F0 m pc ls (.int v :: .ref (ad 28) :: rest)) :=
  va_put (D := D) (ci := 7) (v := .int v) (ty := .int) (C := R_Le) (T := F_Le) (N := 10) S.1 S.2.1 S.2.2.2.2 u_Le t_Le t_Le_ok n_Le S.2.2.2.1 hK I.1 I.2.1 I.2.2 28 rfl rfl 9 (by decide) (S.2.2.2.2 _ fl_Le_countedTerms) (fun _ h => h) rfl (by decide +kernel) rfl rfl (Nat.le_of_ble_eq_true rfl) hdg (fun H1 locs1 a b d => kk H1 locs1 ⟨a, b, d⟩)
theorem a_Le_after (S : CallFix p m c cc nL s args gtbl own) (hK : va_K D classes (tyA cA) s) (hP : va_P D classes (wC ad cA (te, ru, au, re, la, sp, le)) H) {i : Int32} (hin : vp_in i 3136) (hdg : decode cc pc = .ok (.laload, 1)) (kk : W p l e R s m args below meth c H locs cells slots Q (F0 m (pc + 1) ls (.long (Le_after le i.toNatClampNeg) :: rest))) : W p l e R s m args below meth c H locs cells slots Q (F0 m pc ls (.int i :: .ref (ad 29) :: rest)) :=
  va_lald S.1 S.2.1 hK hP 29 1 rfl rfl hin hdg kk
theorem s_Le_after (S : CallFix p m c cc nL s args gtbl own) (hK : va_K D classes (tyA cA) s) (I : gIn D A s (wC ad cA) (te, ru, au, re, la, sp, le) H locs) {i : Int32} {x : Int64} (hin : vp_in i 3136) (hdg : decode cc pc = .ok (.lastore, 1)) (kk : ∀ (H1 : Heap) (locs1 : List Loc), gIn D A s (wC ad cA) (te, ru, au, re, la, sp, Le_after_s le (vp_updL (Le_after le) i.toNatClampNeg x)) H1 locs1 → W p l e R s m args below meth c H1 locs1 cells slots Q (F0 m (pc + 1) ls rest)) : W p l e R s m args below meth c H locs cells slots Q (F0 m pc ls (.long x :: .int i :: .ref (ad 29) :: rest)) :=
  va_last S.1 S.2.1 hK I.1 I.2.1 I.2.2 29 1 rfl rfl hin hdg (fun H1 locs1 a b d => kk H1 locs1 ⟨a, b, d⟩)
theorem n_Le_after (S : CallFix p m c cc nL s args gtbl own) (hK : va_K D classes (tyA cA) s) (hP : va_P D classes (wC ad cA (te, ru, au, re, la, sp, le)) H) (hdg : decode cc pc = .ok (.arraylength, 1)) (kk : W p l e R s m args below meth c H locs cells slots Q (F0 m (pc + 1) ls (.int 3136 :: rest))) : W p l e R s m args below meth c H locs cells slots Q (F0 m pc ls (.ref (ad 29) :: rest)) :=
  va_alen S.1 S.2.1 hK hP 29 1 rfl rfl (v := 3136) rfl hdg kk
theorem a_Le_counted (S : CallFix p m c cc nL s args gtbl own) (hK : va_K D classes (tyA cA) s) (hP : va_P D classes (wC ad cA (te, ru, au, re, la, sp, le)) H) {i : Int32} (hin : vp_in i 448) (hdg : decode cc pc = .ok (.baload, 1)) (kk : W p l e R s m args below meth c H locs cells slots Q (F0 m (pc + 1) ls (.int (Le_counted le i.toNatClampNeg) :: rest))) : W p l e R s m args below meth c H locs cells slots Q (F0 m pc ls (.int i :: .ref (ad 30) :: rest)) :=
  va_zald S.1 S.2.1 hK hP 30 2 rfl rfl hin hdg kk
theorem s_Le_counted (S : CallFix p m c cc nL s args gtbl own) (hK : va_K D classes (tyA cA) s) (I : gIn D A s (wC ad cA) (te, ru, au, re, la, sp, le) H locs) {i : Int32} {x : Int32} (hin : vp_in i 448) (hdg : decode cc pc = .ok (.bastore, 1)) (kk : ∀ (H1 : Heap) (locs1 : List Loc), gIn D A s (wC ad cA) (te, ru, au, re, la, sp, Le_counted_s le (upd (Le_counted le) i.toNatClampNeg (vp_nar .boolean x))) H1 locs1 → W p l e R s m args below meth c H1 locs1 cells slots Q (F0 m (pc + 1) ls rest)) : W p l e R s m args below meth c H locs cells slots Q (F0 m pc ls (.int x :: .int i :: .ref (ad 30) :: rest)) :=
  va_zast S.1 S.2.1 hK I.1 I.2.1 I.2.2 30 2 rfl rfl hin hdg (fun H1 locs1 a b d => kk H1 locs1 ⟨a, b, d⟩)
theorem n_Le_counted (S : CallFix p m c cc nL s args gtbl own) (hK : va_K D classes (tyA cA) s) (hP : va_P D classes (wC ad cA (te, ru, au, re, la, sp, le)) H) (hdg : decode cc pc = .ok (.arraylength, 1)) (kk : W p l e R s m args below meth c H locs cells slots Q (F0 m (pc + 1) ls (.int 448 :: rest))) : W p l e R s m args below meth c H locs cells slots Q (F0 m pc ls (.ref (ad 30) :: rest)) :=
  va_alen S.1 S.2.1 hK hP 30 2 rfl rfl (v := 448) rfl hdg kk
theorem a_Le_expanded (S : CallFix p m c cc nL s args gtbl own) (hK : va_K D classes (tyA cA) s) (hP : va_P D classes (wC ad cA (te, ru, au, re, la, sp, le)) H) {i : Int32} (hin : vp_in i 448) (hdg : decode cc pc = .ok (.baload, 1)) (kk : W p l e R s m args below meth c H locs cells slots Q (F0 m (pc + 1) ls (.int (Le_expanded le i.toNatClampNeg) :: rest))) : W p l e R s m args below meth c H locs cells slots Q (F0 m pc ls (.int i :: .ref (ad 31) :: rest)) :=
  va_zald S.1 S.2.1 hK hP 31 2 rfl rfl hin hdg kk
theorem s_Le_expanded (S : CallFix p m c cc nL s args gtbl own) (hK : va_K D classes (tyA cA) s) (I : gIn D A s (wC ad cA) (te, ru, au, re, la, sp, le) H locs) {i : Int32} {x : Int32} (hin : vp_in i 448) (hdg : decode cc pc = .ok (.bastore, 1)) (kk : ∀ (H1 : Heap) (locs1 : List Loc), gIn D A s (wC ad cA) (te, ru, au, re, la, sp, Le_expanded_s le (upd (Le_expanded le) i.toNatClampNeg (vp_nar .boolean x))) H1 locs1 → W p l e R s m args below meth c H1 locs1 cells slots Q (F0 m (pc + 1) ls rest)) : W p l e R s m args below meth c H locs cells slots Q (F0 m pc ls (.int x :: .int i :: .ref (ad 31) :: rest)) :=
  va_zast S.1 S.2.1 hK I.1 I.2.1 I.2.2 31 2 rfl rfl hin hdg (fun H1 locs1 a b d => kk H1 locs1 ⟨a, b, d⟩)
theorem n_Le_expanded (S : CallFix p m c cc nL s args gtbl own) (hK : va_K D classes (tyA cA) s) (hP : va_P D classes (wC ad cA (te, ru, au, re, la, sp, le)) H) (hdg : decode cc pc = .ok (.arraylength, 1)) (kk : W p l e R s m args below meth c H locs cells slots Q (F0 m (pc + 1) ls (.int 448 :: rest))) : W p l e R s m args below meth c H locs cells slots Q (F0 m pc ls (.ref (ad 31) :: rest)) :=
  va_alen S.1 S.2.1 hK hP 31 2 rfl rfl (v := 448) rfl hdg kk
theorem a_Le_inLevels (S : CallFix p m c cc nL s args gtbl own) (hK : va_K D classes (tyA cA) s) (hP : va_P D classes (wC ad cA (te, ru, au, re, la, sp, le)) H) {i : Int32} (hin : vp_in i 7) (hdg : decode cc pc = .ok (.laload, 1)) (kk : W p l e R s m args below meth c H locs cells slots Q (F0 m (pc + 1) ls (.long (Le_inLevels le i.toNatClampNeg) :: rest))) : W p l e R s m args below meth c H locs cells slots Q (F0 m pc ls (.int i :: .ref (ad 32) :: rest)) :=
  va_lald S.1 S.2.1 hK hP 32 1 rfl rfl hin hdg kk
theorem s_Le_inLevels (S : CallFix p m c cc nL s args gtbl own) (hK : va_K D classes (tyA cA) s) (I : gIn D A s (wC ad cA) (te, ru, au, re, la, sp, le) H locs) {i : Int32} {x : Int64} (hin : vp_in i 7) (hdg : decode cc pc = .ok (.lastore, 1)) (kk : ∀ (H1 : Heap) (locs1 : List Loc), gIn D A s (wC ad cA) (te, ru, au, re, la, sp, Le_inLevels_s le (vp_updL (Le_inLevels le) i.toNatClampNeg x)) H1 locs1 → W p l e R s m args below meth c H1 locs1 cells slots Q (F0 m (pc + 1) ls rest)) : W p l e R s m args below meth c H locs cells slots Q (F0 m pc ls (.long x :: .int i :: .ref (ad 32) :: rest)) :=
  va_last S.1 S.2.1 hK I.1 I.2.1 I.2.2 32 1 rfl rfl hin hdg (fun H1 locs1 a b d => kk H1 locs1 ⟨a, b, d⟩)
theorem n_Le_inLevels (S : CallFix p m c cc nL s args gtbl own) (hK : va_K D classes (tyA cA) s) (hP : va_P D classes (wC ad cA (te, ru, au, re, la, sp, le)) H) (hdg : decode cc pc = .ok (.arraylength, 1)) (kk : W p l e R s m args below meth c H locs cells slots Q (F0 m (pc + 1) ls (.int 7 :: rest))) : W p l e R s m args below meth c H locs cells slots Q (F0 m pc ls (.ref (ad 32) :: rest)) :=
  va_alen S.1 S.2.1 hK hP 32 1 rfl rfl (v := 7) rfl hdg kk
theorem a_Le_newest (S : CallFix p m c cc nL s args gtbl own) (hK : va_K D classes (tyA cA) s) (hP : va_P D classes (wC ad cA (te, ru, au, re, la, sp, le)) H) {i : Int32} (hin : vp_in i 7) (hdg : decode cc pc = .ok (.laload, 1)) (kk : W p l e R s m args below meth c H locs cells slots Q (F0 m (pc + 1) ls (.long (Le_newest le i.toNatClampNeg) :: rest))) : W p l e R s m args below meth c H locs cells slots Q (F0 m pc ls (.int i :: .ref (ad 33) :: rest)) :=
  va_lald S.1 S.2.1 hK hP 33 1 rfl rfl hin hdg kk
theorem s_Le_newest (S : CallFix p m c cc nL s args gtbl own) (hK : va_K D classes (tyA cA) s) (I : gIn D A s (wC ad cA) (te, ru, au, re, la, sp, le) H locs) {i : Int32} {x : Int64} (hin : vp_in i 7) (hdg : decode cc pc = .ok (.lastore, 1)) (kk : ∀ (H1 : Heap) (locs1 : List Loc), gIn D A s (wC ad cA) (te, ru, au, re, la, sp, Le_newest_s le (vp_updL (Le_newest le) i.toNatClampNeg x)) H1 locs1 → W p l e R s m args below meth c H1 locs1 cells slots Q (F0 m (pc + 1) ls rest)) : W p l e R s m args below meth c H locs cells slots Q (F0 m pc ls (.long x :: .int i :: .ref (ad 33) :: rest)) :=
  va_last S.1 S.2.1 hK I.1 I.2.1 I.2.2 33 1 rfl rfl hin hdg (fun H1 locs1 a b d => kk H1 locs1 ⟨a, b, d⟩)
theorem n_Le_newest (S : CallFix p m c cc nL s args gtbl own) (hK : va_K D classes (tyA cA) s) (hP : va_P D classes (wC ad cA (te, ru, au, re, la, sp, le)) H) (hdg : decode cc pc = .ok (.arraylength, 1)) (kk : W p l e R s m args below meth c H locs cells slots Q (F0 m (pc + 1) ls (.int 7 :: rest))) : W p l e R s m args below meth c H locs cells slots Q (F0 m pc ls (.ref (ad 33) :: rest)) :=
  va_alen S.1 S.2.1 hK hP 33 1 rfl rfl (v := 7) rfl hdg kk
theorem a_Le_coming (S : CallFix p m c cc nL s args gtbl own) (hK : va_K D classes (tyA cA) s) (hP : va_P D classes (wC ad cA (te, ru, au, re, la, sp, le)) H) {i : Int32} (hin : vp_in i 7) (hdg : decode cc pc = .ok (.laload, 1)) (kk : W p l e R s m args below meth c H locs cells slots Q (F0 m (pc + 1) ls (.long (Le_coming le i.toNatClampNeg) :: rest))) : W p l e R s m args below meth c H locs cells slots Q (F0 m pc ls (.int i :: .ref (ad 34) :: rest)) :=
  va_lald S.1 S.2.1 hK hP 34 1 rfl rfl hin hdg kk
theorem s_Le_coming (S : CallFix p m c cc nL s args gtbl own) (hK : va_K D classes (tyA cA) s) (I : gIn D A s (wC ad cA) (te, ru, au, re, la, sp, le) H locs) {i : Int32} {x : Int64} (hin : vp_in i 7) (hdg : decode cc pc = .ok (.lastore, 1)) (kk : ∀ (H1 : Heap) (locs1 : List Loc), gIn D A s (wC ad cA) (te, ru, au, re, la, sp, Le_coming_s le (vp_updL (Le_coming le) i.toNatClampNeg x)) H1 locs1 → W p l e R s m args below meth c H1 locs1 cells slots Q (F0 m (pc + 1) ls rest)) : W p l e R s m args below meth c H locs cells slots Q (F0 m pc ls (.long x :: .int i :: .ref (ad 34) :: rest)) :=
  va_last S.1 S.2.1 hK I.1 I.2.1 I.2.2 34 1 rfl rfl hin hdg (fun H1 locs1 a b d => kk H1 locs1 ⟨a, b, d⟩)
theorem n_Le_coming (S : CallFix p m c cc nL s args gtbl own) (hK : va_K D classes (tyA cA) s) (hP : va_P D classes (wC ad cA (te, ru, au, re, la, sp, le)) H) (hdg : decode cc pc = .ok (.arraylength, 1)) (kk : W p l e R s m args below meth c H locs cells slots Q (F0 m (pc + 1) ls (.int 7 :: rest))) : W p l e R s m args below meth c H locs cells slots Q (F0 m pc ls (.ref (ad 34) :: rest)) :=
  va_alen S.1 S.2.1 hK hP 34 1 rfl rfl (v := 7) rfl hdg kk
theorem a_Le_waiting (S : CallFix p m c cc nL s args gtbl own) (hK : va_K D classes (tyA cA) s) (hP : va_P D classes (wC ad cA (te, ru, au, re, la, sp, le)) H) {i : Int32} (hin : vp_in i 448) (hdg : decode cc pc = .ok (.iaload, 1)) (kk : W p l e R s m args below meth c H locs cells slots Q (F0 m (pc + 1) ls (.int (Le_waiting le i.toNatClampNeg) :: rest))) : W p l e R s m args below meth c H locs cells slots Q (F0 m pc ls (.int i :: .ref (ad 35) :: rest)) :=
  va_iald S.1 S.2.1 hK hP 35 0 rfl rfl hin hdg kk
theorem s_Le_waiting (S : CallFix p m c cc nL s args gtbl own) (hK : va_K D classes (tyA cA) s) (I : gIn D A s (wC ad cA) (te, ru, au, re, la, sp, le) H locs) {i : Int32} {x : Int32} (hin : vp_in i 448) (hdg : decode cc pc = .ok (.iastore, 1)) (kk : ∀ (H1 : Heap) (locs1 : List Loc), gIn D A s (wC ad cA) (te, ru, au, re, la, sp, Le_waiting_s le (upd (Le_waiting le) i.toNatClampNeg x)) H1 locs1 → W p l e R s m args below meth c H1 locs1 cells slots Q (F0 m (pc + 1) ls rest)) : W p l e R s m args below meth c H locs cells slots Q (F0 m pc ls (.int x :: .int i :: .ref (ad 35) :: rest)) :=
  va_iast S.1 S.2.1 hK I.1 I.2.1 I.2.2 35 0 rfl rfl hin hdg (fun H1 locs1 a b d => kk H1 locs1 ⟨a, b, d⟩)
theorem n_Le_waiting (S : CallFix p m c cc nL s args gtbl own) (hK : va_K D classes (tyA cA) s) (hP : va_P D classes (wC ad cA (te, ru, au, re, la, sp, le)) H) (hdg : decode cc pc = .ok (.arraylength, 1)) (kk : W p l e R s m args below meth c H locs cells slots Q (F0 m (pc + 1) ls (.int 448 :: rest))) : W p l e R s m args below meth c H locs cells slots Q (F0 m pc ls (.ref (ad 35) :: rest)) :=
  va_alen S.1 S.2.1 hK hP 35 0 rfl rfl (v := 448) rfl hdg kk
end
end
