section
-- ===== PART A: goes FIRST, ahead of the names: the tables' words, and 'selects' of the private methods out of them =====
/-- a private method of a class that the tables say can be made, by its rows of tables_1 -/
def lw_okq (q : MethodName × Nat) : Prop := (q.1.cls ≠ "java/lang/invoke/MethodHandle" ∧ q.1.cls ≠ "java/lang/invoke/VarHandle") ∧ Cond.instantiable q.1.cls q.2 ∈ tables_1 ∧ Cond.privateMethod q.1 ∈ tables_1 ∧ Cond.instanceMethod q.1 ∈ tables_1
theorem lw_p0 : lw_okq (⟨"GroundReach$Steps", "countAll", "()V"⟩, 5) := ⟨⟨by decide +kernel, by decide +kernel⟩, List.mem_of_getElem? (i := 166) (by decide +kernel), List.mem_of_getElem? (i := 276) (by decide +kernel), List.mem_of_getElem? (i := 277) (by decide +kernel)⟩
theorem lw_p1 : lw_okq (⟨"GroundReach$Steps", "countIn", "(I)J"⟩, 5) := ⟨⟨by decide +kernel, by decide +kernel⟩, List.mem_of_getElem? (i := 166) (by decide +kernel), List.mem_of_getElem? (i := 289) (by decide +kernel), List.mem_of_getElem? (i := 290) (by decide +kernel)⟩
theorem lw_p2 : lw_okq (⟨"java/lang/Throwable", "fillInStackTrace", "(I)Ljava/lang/Throwable;"⟩, 6) := ⟨⟨by decide +kernel, by decide +kernel⟩, List.mem_of_getElem? (i := 397) (by decide +kernel), List.mem_of_getElem? (i := 395) (by decide +kernel), List.mem_of_getElem? (i := 396) (by decide +kernel)⟩
theorem lw_p3 : lw_okq (⟨"GroundReach$Terms", "joinedSize", "(III)I"⟩, 8) := ⟨⟨by decide +kernel, by decide +kernel⟩, List.mem_of_getElem? (i := 27) (by decide +kernel), List.mem_of_getElem? (i := 437) (by decide +kernel), List.mem_of_getElem? (i := 438) (by decide +kernel)⟩
theorem lw_p4 : lw_okq (⟨"GroundReach$Relations", "findReached", "()V"⟩, 8) := ⟨⟨by decide +kernel, by decide +kernel⟩, List.mem_of_getElem? (i := 115) (by decide +kernel), List.mem_of_getElem? (i := 506) (by decide +kernel), List.mem_of_getElem? (i := 507) (by decide +kernel)⟩
theorem lw_p5 : lw_okq (⟨"GroundReach$Relations", "chain", "(I)V"⟩, 8) := ⟨⟨by decide +kernel, by decide +kernel⟩, List.mem_of_getElem? (i := 115) (by decide +kernel), List.mem_of_getElem? (i := 519) (by decide +kernel), List.mem_of_getElem? (i := 520) (by decide +kernel)⟩
theorem lw_p6 : lw_okq (⟨"GroundReach$Relations", "liftFromParts", "([JI)Z"⟩, 8) := ⟨⟨by decide +kernel, by decide +kernel⟩, List.mem_of_getElem? (i := 115) (by decide +kernel), List.mem_of_getElem? (i := 526) (by decide +kernel), List.mem_of_getElem? (i := 527) (by decide +kernel)⟩
theorem lw_p7 : lw_okq (⟨"GroundReach$Relations", "partsRelated", "([JII)Z"⟩, 8) := ⟨⟨by decide +kernel, by decide +kernel⟩, List.mem_of_getElem? (i := 115) (by decide +kernel), List.mem_of_getElem? (i := 530) (by decide +kernel), List.mem_of_getElem? (i := 531) (by decide +kernel)⟩
theorem lw_p8 : lw_okq (⟨"GroundReach$Relations", "findJoined", "()V"⟩, 8) := ⟨⟨by decide +kernel, by decide +kernel⟩, List.mem_of_getElem? (i := 115) (by decide +kernel), List.mem_of_getElem? (i := 553) (by decide +kernel), List.mem_of_getElem? (i := 554) (by decide +kernel)⟩
theorem lw_p9 : lw_okq (⟨"GroundReach$Relations", "inheritJoined", "(I)Z"⟩, 8) := ⟨⟨by decide +kernel, by decide +kernel⟩, List.mem_of_getElem? (i := 115) (by decide +kernel), List.mem_of_getElem? (i := 557) (by decide +kernel), List.mem_of_getElem? (i := 558) (by decide +kernel)⟩
theorem lw_p10 : lw_okq (⟨"GroundReach$Languages", "runFromParts", "()Z"⟩, 4) := ⟨⟨by decide +kernel, by decide +kernel⟩, List.mem_of_getElem? (i := 147) (by decide +kernel), List.mem_of_getElem? (i := 573) (by decide +kernel), List.mem_of_getElem? (i := 574) (by decide +kernel)⟩
theorem lw_p11 : lw_okq (⟨"GroundReach$Languages", "addStates", "(II)Z"⟩, 4) := ⟨⟨by decide +kernel, by decide +kernel⟩, List.mem_of_getElem? (i := 147) (by decide +kernel), List.mem_of_getElem? (i := 586) (by decide +kernel), List.mem_of_getElem? (i := 587) (by decide +kernel)⟩
theorem lw_p12 : lw_okq (⟨"GroundReach$Languages", "spread", "(Z)V"⟩, 4) := ⟨⟨by decide +kernel, by decide +kernel⟩, List.mem_of_getElem? (i := 147) (by decide +kernel), List.mem_of_getElem? (i := 605) (by decide +kernel), List.mem_of_getElem? (i := 606) (by decide +kernel)⟩
theorem lw_p13 : lw_okq (⟨"GroundReach$Languages", "passOn", "(Z)Z"⟩, 4) := ⟨⟨by decide +kernel, by decide +kernel⟩, List.mem_of_getElem? (i := 147) (by decide +kernel), List.mem_of_getElem? (i := 609) (by decide +kernel), List.mem_of_getElem? (i := 610) (by decide +kernel)⟩
theorem lw_p14 : lw_okq (⟨"GroundReach$Relations", "shrink", "(I)Z"⟩, 8) := ⟨⟨by decide +kernel, by decide +kernel⟩, List.mem_of_getElem? (i := 115) (by decide +kernel), List.mem_of_getElem? (i := 637) (by decide +kernel), List.mem_of_getElem? (i := 638) (by decide +kernel)⟩
theorem lw_p15 : lw_okq (⟨"GroundReach$Relations", "sizeWithLeastParts", "(I)I"⟩, 8) := ⟨⟨by decide +kernel, by decide +kernel⟩, List.mem_of_getElem? (i := 115) (by decide +kernel), List.mem_of_getElem? (i := 641) (by decide +kernel), List.mem_of_getElem? (i := 642) (by decide +kernel)⟩
def lw_privs_1 : List (MethodName × Nat) := [(⟨"GroundReach$Steps", "countAll", "()V"⟩, 5), (⟨"GroundReach$Steps", "countIn", "(I)J"⟩, 5), (⟨"java/lang/Throwable", "fillInStackTrace", "(I)Ljava/lang/Throwable;"⟩, 6), (⟨"GroundReach$Terms", "joinedSize", "(III)I"⟩, 8), (⟨"GroundReach$Relations", "findReached", "()V"⟩, 8), (⟨"GroundReach$Relations", "chain", "(I)V"⟩, 8), (⟨"GroundReach$Relations", "liftFromParts", "([JI)Z"⟩, 8), (⟨"GroundReach$Relations", "partsRelated", "([JII)Z"⟩, 8), (⟨"GroundReach$Relations", "findJoined", "()V"⟩, 8), (⟨"GroundReach$Relations", "inheritJoined", "(I)Z"⟩, 8), (⟨"GroundReach$Languages", "runFromParts", "()Z"⟩, 4), (⟨"GroundReach$Languages", "addStates", "(II)Z"⟩, 4), (⟨"GroundReach$Languages", "spread", "(Z)V"⟩, 4), (⟨"GroundReach$Languages", "passOn", "(Z)Z"⟩, 4), (⟨"GroundReach$Relations", "shrink", "(I)Z"⟩, 8), (⟨"GroundReach$Relations", "sizeWithLeastParts", "(I)I"⟩, 8)]
theorem lw_r1 : ∀ q ∈ lw_privs_1, lw_okq q := List.forall_mem_cons.mpr ⟨lw_p0, List.forall_mem_cons.mpr ⟨lw_p1, List.forall_mem_cons.mpr ⟨lw_p2, List.forall_mem_cons.mpr ⟨lw_p3, List.forall_mem_cons.mpr ⟨lw_p4, List.forall_mem_cons.mpr ⟨lw_p5, List.forall_mem_cons.mpr ⟨lw_p6, List.forall_mem_cons.mpr ⟨lw_p7, List.forall_mem_cons.mpr ⟨lw_p8, List.forall_mem_cons.mpr ⟨lw_p9, List.forall_mem_cons.mpr ⟨lw_p10, List.forall_mem_cons.mpr ⟨lw_p11, List.forall_mem_cons.mpr ⟨lw_p12, List.forall_mem_cons.mpr ⟨lw_p13, List.forall_mem_cons.mpr ⟨lw_p14, List.forall_mem_cons.mpr ⟨lw_p15, fun _ h => absurd h List.not_mem_nil⟩⟩⟩⟩⟩⟩⟩⟩⟩⟩⟩⟩⟩⟩⟩⟩
theorem lw_p16 : lw_okq (⟨"GroundReach$Automaton", "lighten", "(I)V"⟩, 8) := ⟨⟨by decide +kernel, by decide +kernel⟩, List.mem_of_getElem? (i := 84) (by decide +kernel), List.mem_of_getElem? (i := 659) (by decide +kernel), List.mem_of_getElem? (i := 660) (by decide +kernel)⟩
theorem lw_p17 : lw_okq (⟨"GroundReach$Steps", "rebuild", "(II)I"⟩, 5) := ⟨⟨by decide +kernel, by decide +kernel⟩, List.mem_of_getElem? (i := 166) (by decide +kernel), List.mem_of_getElem? (i := 694) (by decide +kernel), List.mem_of_getElem? (i := 695) (by decide +kernel)⟩
theorem lw_p18 : lw_okq (⟨"GroundReach$Levels", "start", "(I)V"⟩, 10) := ⟨⟨by decide +kernel, by decide +kernel⟩, List.mem_of_getElem? (i := 189) (by decide +kernel), List.mem_of_getElem? (i := 716) (by decide +kernel), List.mem_of_getElem? (i := 717) (by decide +kernel)⟩
theorem lw_p19 : lw_okq (⟨"GroundReach$Levels", "countWithParts", "(I)V"⟩, 10) := ⟨⟨by decide +kernel, by decide +kernel⟩, List.mem_of_getElem? (i := 189) (by decide +kernel), List.mem_of_getElem? (i := 723) (by decide +kernel), List.mem_of_getElem? (i := 724) (by decide +kernel)⟩
theorem lw_p20 : lw_okq (⟨"GroundReach$Levels", "findWaiting", "()I"⟩, 10) := ⟨⟨by decide +kernel, by decide +kernel⟩, List.mem_of_getElem? (i := 189) (by decide +kernel), List.mem_of_getElem? (i := 737) (by decide +kernel), List.mem_of_getElem? (i := 738) (by decide +kernel)⟩
theorem lw_p21 : lw_okq (⟨"GroundReach$Levels", "expand", "(I)V"⟩, 10) := ⟨⟨by decide +kernel, by decide +kernel⟩, List.mem_of_getElem? (i := 189) (by decide +kernel), List.mem_of_getElem? (i := 741) (by decide +kernel), List.mem_of_getElem? (i := 742) (by decide +kernel)⟩
theorem lw_p22 : lw_okq (⟨"GroundReach$Levels", "stepInPart", "(IIZ)V"⟩, 10) := ⟨⟨by decide +kernel, by decide +kernel⟩, List.mem_of_getElem? (i := 189) (by decide +kernel), List.mem_of_getElem? (i := 748) (by decide +kernel), List.mem_of_getElem? (i := 749) (by decide +kernel)⟩
theorem lw_p23 : lw_okq (⟨"GroundReach$Levels", "findCounted", "(III)I"⟩, 10) := ⟨⟨by decide +kernel, by decide +kernel⟩, List.mem_of_getElem? (i := 189) (by decide +kernel), List.mem_of_getElem? (i := 752) (by decide +kernel), List.mem_of_getElem? (i := 753) (by decide +kernel)⟩
theorem lw_p24 : lw_okq (⟨"GroundReach$Levels", "goOn", "()V"⟩, 10) := ⟨⟨by decide +kernel, by decide +kernel⟩, List.mem_of_getElem? (i := 189) (by decide +kernel), List.mem_of_getElem? (i := 758) (by decide +kernel), List.mem_of_getElem? (i := 759) (by decide +kernel)⟩
theorem lw_p25 : lw_okq (⟨"GroundReachModel", "isTerm", "(I)Z"⟩, 26) := ⟨⟨by decide +kernel, by decide +kernel⟩, List.mem_of_getElem? (i := 764) (by decide +kernel), List.mem_of_getElem? (i := 857) (by decide +kernel), List.mem_of_getElem? (i := 858) (by decide +kernel)⟩
theorem lw_p26 : lw_okq (⟨"GroundReachModel", "known", "(III)I"⟩, 26) := ⟨⟨by decide +kernel, by decide +kernel⟩, List.mem_of_getElem? (i := 764) (by decide +kernel), List.mem_of_getElem? (i := 861) (by decide +kernel), List.mem_of_getElem? (i := 862) (by decide +kernel)⟩
theorem lw_p27 : lw_okq (⟨"GroundReachModel", "make", "(III)I"⟩, 26) := ⟨⟨by decide +kernel, by decide +kernel⟩, List.mem_of_getElem? (i := 764) (by decide +kernel), List.mem_of_getElem? (i := 865) (by decide +kernel), List.mem_of_getElem? (i := 866) (by decide +kernel)⟩
theorem lw_p28 : lw_okq (⟨"GroundReachModel", "size", "(I)I"⟩, 26) := ⟨⟨by decide +kernel, by decide +kernel⟩, List.mem_of_getElem? (i := 764) (by decide +kernel), List.mem_of_getElem? (i := 873) (by decide +kernel), List.mem_of_getElem? (i := 874) (by decide +kernel)⟩
theorem lw_p29 : lw_okq (⟨"GroundReachModel", "steps", "(I)I"⟩, 26) := ⟨⟨by decide +kernel, by decide +kernel⟩, List.mem_of_getElem? (i := 764) (by decide +kernel), List.mem_of_getElem? (i := 882) (by decide +kernel), List.mem_of_getElem? (i := 883) (by decide +kernel)⟩
theorem lw_p30 : lw_okq (⟨"GroundReachModel", "lefts", "(I)I"⟩, 26) := ⟨⟨by decide +kernel, by decide +kernel⟩, List.mem_of_getElem? (i := 764) (by decide +kernel), List.mem_of_getElem? (i := 886) (by decide +kernel), List.mem_of_getElem? (i := 887) (by decide +kernel)⟩
theorem lw_p31 : lw_okq (⟨"GroundReachModel", "ask", "(II)Z"⟩, 26) := ⟨⟨by decide +kernel, by decide +kernel⟩, List.mem_of_getElem? (i := 764) (by decide +kernel), List.mem_of_getElem? (i := 913) (by decide +kernel), List.mem_of_getElem? (i := 914) (by decide +kernel)⟩
def lw_privs_2 : List (MethodName × Nat) := [(⟨"GroundReach$Automaton", "lighten", "(I)V"⟩, 8), (⟨"GroundReach$Steps", "rebuild", "(II)I"⟩, 5), (⟨"GroundReach$Levels", "start", "(I)V"⟩, 10), (⟨"GroundReach$Levels", "countWithParts", "(I)V"⟩, 10), (⟨"GroundReach$Levels", "findWaiting", "()I"⟩, 10), (⟨"GroundReach$Levels", "expand", "(I)V"⟩, 10), (⟨"GroundReach$Levels", "stepInPart", "(IIZ)V"⟩, 10), (⟨"GroundReach$Levels", "findCounted", "(III)I"⟩, 10), (⟨"GroundReach$Levels", "goOn", "()V"⟩, 10), (⟨"GroundReachModel", "isTerm", "(I)Z"⟩, 26), (⟨"GroundReachModel", "known", "(III)I"⟩, 26), (⟨"GroundReachModel", "make", "(III)I"⟩, 26), (⟨"GroundReachModel", "size", "(I)I"⟩, 26), (⟨"GroundReachModel", "steps", "(I)I"⟩, 26), (⟨"GroundReachModel", "lefts", "(I)I"⟩, 26), (⟨"GroundReachModel", "ask", "(II)Z"⟩, 26)]
theorem lw_r2 : ∀ q ∈ lw_privs_2, lw_okq q := List.forall_mem_cons.mpr ⟨lw_p16, List.forall_mem_cons.mpr ⟨lw_p17, List.forall_mem_cons.mpr ⟨lw_p18, List.forall_mem_cons.mpr ⟨lw_p19, List.forall_mem_cons.mpr ⟨lw_p20, List.forall_mem_cons.mpr ⟨lw_p21, List.forall_mem_cons.mpr ⟨lw_p22, List.forall_mem_cons.mpr ⟨lw_p23, List.forall_mem_cons.mpr ⟨lw_p24, List.forall_mem_cons.mpr ⟨lw_p25, List.forall_mem_cons.mpr ⟨lw_p26, List.forall_mem_cons.mpr ⟨lw_p27, List.forall_mem_cons.mpr ⟨lw_p28, List.forall_mem_cons.mpr ⟨lw_p29, List.forall_mem_cons.mpr ⟨lw_p30, List.forall_mem_cons.mpr ⟨lw_p31, fun _ h => absurd h List.not_mem_nil⟩⟩⟩⟩⟩⟩⟩⟩⟩⟩⟩⟩⟩⟩⟩⟩
theorem lw_p32 : lw_okq (⟨"GroundReachModel", "reachAll", "()V"⟩, 26) := ⟨⟨by decide +kernel, by decide +kernel⟩, List.mem_of_getElem? (i := 764) (by decide +kernel), List.mem_of_getElem? (i := 917) (by decide +kernel), List.mem_of_getElem? (i := 918) (by decide +kernel)⟩
theorem lw_p33 : lw_okq (⟨"GroundReachModel", "parts", "([ZII)Z"⟩, 26) := ⟨⟨by decide +kernel, by decide +kernel⟩, List.mem_of_getElem? (i := 764) (by decide +kernel), List.mem_of_getElem? (i := 921) (by decide +kernel), List.mem_of_getElem? (i := 922) (by decide +kernel)⟩
theorem lw_p34 : lw_okq (⟨"GroundReachModel", "byRule", "([ZII)Z"⟩, 26) := ⟨⟨by decide +kernel, by decide +kernel⟩, List.mem_of_getElem? (i := 764) (by decide +kernel), List.mem_of_getElem? (i := 925) (by decide +kernel), List.mem_of_getElem? (i := 926) (by decide +kernel)⟩
theorem lw_p35 : lw_okq (⟨"GroundReachModel", "isFinal", "(II)Z"⟩, 26) := ⟨⟨by decide +kernel, by decide +kernel⟩, List.mem_of_getElem? (i := 764) (by decide +kernel), List.mem_of_getElem? (i := 937) (by decide +kernel), List.mem_of_getElem? (i := 938) (by decide +kernel)⟩
theorem lw_p36 : lw_okq (⟨"GroundReachModel", "stand", "(I)V"⟩, 26) := ⟨⟨by decide +kernel, by decide +kernel⟩, List.mem_of_getElem? (i := 764) (by decide +kernel), List.mem_of_getElem? (i := 941) (by decide +kernel), List.mem_of_getElem? (i := 942) (by decide +kernel)⟩
theorem lw_p37 : lw_okq (⟨"GroundReachModel", "stands", "(III)Z"⟩, 26) := ⟨⟨by decide +kernel, by decide +kernel⟩, List.mem_of_getElem? (i := 764) (by decide +kernel), List.mem_of_getElem? (i := 945) (by decide +kernel), List.mem_of_getElem? (i := 946) (by decide +kernel)⟩
theorem lw_p38 : lw_okq (⟨"GroundReachModel", "byEdge", "(II)Z"⟩, 26) := ⟨⟨by decide +kernel, by decide +kernel⟩, List.mem_of_getElem? (i := 764) (by decide +kernel), List.mem_of_getElem? (i := 949) (by decide +kernel), List.mem_of_getElem? (i := 950) (by decide +kernel)⟩
theorem lw_p39 : lw_okq (⟨"GroundReachModel", "down", "(II)I"⟩, 26) := ⟨⟨by decide +kernel, by decide +kernel⟩, List.mem_of_getElem? (i := 764) (by decide +kernel), List.mem_of_getElem? (i := 973) (by decide +kernel), List.mem_of_getElem? (i := 974) (by decide +kernel)⟩
theorem lw_p40 : lw_okq (⟨"GroundReachModel", "depth", "()I"⟩, 26) := ⟨⟨by decide +kernel, by decide +kernel⟩, List.mem_of_getElem? (i := 764) (by decide +kernel), List.mem_of_getElem? (i := 977) (by decide +kernel), List.mem_of_getElem? (i := 978) (by decide +kernel)⟩
theorem lw_p41 : lw_okq (⟨"GroundReachModel", "take", "(II)V"⟩, 26) := ⟨⟨by decide +kernel, by decide +kernel⟩, List.mem_of_getElem? (i := 764) (by decide +kernel), List.mem_of_getElem? (i := 985) (by decide +kernel), List.mem_of_getElem? (i := 986) (by decide +kernel)⟩
theorem lw_p42 : lw_okq (⟨"GroundReachModel", "further", "(I)Z"⟩, 26) := ⟨⟨by decide +kernel, by decide +kernel⟩, List.mem_of_getElem? (i := 764) (by decide +kernel), List.mem_of_getElem? (i := 989) (by decide +kernel), List.mem_of_getElem? (i := 990) (by decide +kernel)⟩
theorem lw_p43 : lw_okq (⟨"GroundReachModel", "result", "(II)I"⟩, 26) := ⟨⟨by decide +kernel, by decide +kernel⟩, List.mem_of_getElem? (i := 764) (by decide +kernel), List.mem_of_getElem? (i := 993) (by decide +kernel), List.mem_of_getElem? (i := 994) (by decide +kernel)⟩
theorem lw_p44 : lw_okq (⟨"GroundReachModel", "store", "(III)I"⟩, 26) := ⟨⟨by decide +kernel, by decide +kernel⟩, List.mem_of_getElem? (i := 764) (by decide +kernel), List.mem_of_getElem? (i := 997) (by decide +kernel), List.mem_of_getElem? (i := 998) (by decide +kernel)⟩
theorem lw_p45 : lw_okq (⟨"GroundReachModel", "tally", "(I)V"⟩, 26) := ⟨⟨by decide +kernel, by decide +kernel⟩, List.mem_of_getElem? (i := 764) (by decide +kernel), List.mem_of_getElem? (i := 1001) (by decide +kernel), List.mem_of_getElem? (i := 1002) (by decide +kernel)⟩
def lw_privs_3 : List (MethodName × Nat) := [(⟨"GroundReachModel", "reachAll", "()V"⟩, 26), (⟨"GroundReachModel", "parts", "([ZII)Z"⟩, 26), (⟨"GroundReachModel", "byRule", "([ZII)Z"⟩, 26), (⟨"GroundReachModel", "isFinal", "(II)Z"⟩, 26), (⟨"GroundReachModel", "stand", "(I)V"⟩, 26), (⟨"GroundReachModel", "stands", "(III)Z"⟩, 26), (⟨"GroundReachModel", "byEdge", "(II)Z"⟩, 26), (⟨"GroundReachModel", "down", "(II)I"⟩, 26), (⟨"GroundReachModel", "depth", "()I"⟩, 26), (⟨"GroundReachModel", "take", "(II)V"⟩, 26), (⟨"GroundReachModel", "further", "(I)Z"⟩, 26), (⟨"GroundReachModel", "result", "(II)I"⟩, 26), (⟨"GroundReachModel", "store", "(III)I"⟩, 26), (⟨"GroundReachModel", "tally", "(I)V"⟩, 26)]
theorem lw_r3 : ∀ q ∈ lw_privs_3, lw_okq q := List.forall_mem_cons.mpr ⟨lw_p32, List.forall_mem_cons.mpr ⟨lw_p33, List.forall_mem_cons.mpr ⟨lw_p34, List.forall_mem_cons.mpr ⟨lw_p35, List.forall_mem_cons.mpr ⟨lw_p36, List.forall_mem_cons.mpr ⟨lw_p37, List.forall_mem_cons.mpr ⟨lw_p38, List.forall_mem_cons.mpr ⟨lw_p39, List.forall_mem_cons.mpr ⟨lw_p40, List.forall_mem_cons.mpr ⟨lw_p41, List.forall_mem_cons.mpr ⟨lw_p42, List.forall_mem_cons.mpr ⟨lw_p43, List.forall_mem_cons.mpr ⟨lw_p44, List.forall_mem_cons.mpr ⟨lw_p45, fun _ h => absurd h List.not_mem_nil⟩⟩⟩⟩⟩⟩⟩⟩⟩⟩⟩⟩⟩⟩
def lw_privs : List (MethodName × Nat) := lw_privs_1 ++ (lw_privs_2 ++ (lw_privs_3))
def lw_tbl : List Cond := k2_sels lw_privs ++ tables_1
theorem lw_privs_ok : ∀ q ∈ lw_privs, lw_okq q := by
  show ∀ q ∈ lw_privs_1 ++ (lw_privs_2 ++ (lw_privs_3)), lw_okq q
  exact List.forall_mem_append.mpr ⟨lw_r1, List.forall_mem_append.mpr ⟨lw_r2, lw_r3⟩⟩
end
section
/-! our own base: the good words, contracts over a pure state, returns and calls -/
def gtbl : List Cond := lw_tbl.filter goodWord
theorem gmem {w : Cond} (h : w ∈ lw_tbl) (hg : goodWord w = true) : w ∈ gtbl := List.mem_filter.mpr ⟨h, hg⟩
def wsOf (y : MethodName) (b : ByteArray) (n : Nat) (r : Option FieldType) : List Cond := Cond.code y b n r :: gtbl
theorem wsOf_good {y : MethodName} {b : ByteArray} {n : Nat} {r : Option FieldType} (h : Cond.code y b n r ∈ gtbl) : GoodIn gtbl (wsOf y b n r) := by
  intro w hw
  have hw2 : w ∈ gtbl := by
    rcases List.mem_cons.mp hw with h2 | h2
    · rw [h2]; exact h
    · exact h2
  exact ⟨hw2, good_of_word (List.mem_filter.mp hw2).2⟩
def tyA (cA : ClassId × ClassId × ClassId) : List (ClassId × FieldType) := [(cA.1, .int), (cA.2.1, .long), (cA.2.2, .boolean)]
def isB (r : Int32) : Prop := r = 0 ∨ r = 1
theorem isB_n {r : Int32} (h : isB r) : narrow .boolean (.int r) = .int r := by
  rcases h with h | h <;> (rw [h]; decide)
/-- the words of a method that is called: an instance method, a static one -/
def kV (y : MethodName) (b : ByteArray) (n : Nat) (r : Option FieldType) (k : Nat) : Prop :=
  Cond.instanceMethod y ∈ gtbl ∧ Cond.selects y.cls y y ∈ gtbl ∧ Cond.initialized y.cls ∈ gtbl ∧ Cond.code y b n r ∈ gtbl ∧ y.cls ≠ "java/lang/invoke/MethodHandle" ∧ y.cls ≠ "java/lang/invoke/VarHandle" ∧ (parseMethodDescriptor y.desc).map (fun d => d.parameters.length) = some k
def kS (y : MethodName) (b : ByteArray) (n : Nat) (r : Option FieldType) (k : Nat) : Prop :=
  Cond.static y ∈ gtbl ∧ Cond.initialized y.cls ∈ gtbl ∧ Cond.code y b n r ∈ gtbl ∧ y.cls ≠ "java/lang/invoke/MethodHandle" ∧ y.cls ≠ "java/lang/invoke/VarHandle" ∧ (parseMethodDescriptor y.desc).map (fun d => d.parameters.length) = some k
theorem mkV {R : Room} {s : State} {args : Array Value} {own : String} {index : Nat} {y : MethodName} {b : ByteArray} {n k : Nat} {r : Option FieldType} {rm : Room} (hts : ∀ w ∈ gtbl, w.before args s = true) (hl : Cond.methodLink own index y ∈ gtbl) (hk : kV y b n r k) (hrc : rm.cells = 0) (hrs : rm.slots = 0) (hR : rm.frames + 1 ≤ R.frames ∧ 8 + (n + 11) + rm.locals ≤ R.locals) : CallW R s args own y.cls index y b n r (wsOf y b n r) rm 0 0 k := by
  obtain ⟨h2, h3, h4, h5, h6⟩ := hk
  exact ⟨callB_of k hts (wsOf_good h5) rfl hrc hrs (hts _ h4) (hts _ hl) h6 hR, hts _ h2, hts _ h3⟩
theorem mkS {R : Room} {s : State} {args : Array Value} {own : String} {index : Nat} {y : MethodName} {b : ByteArray} {n k : Nat} {r : Option FieldType} {rm : Room} (hts : ∀ w ∈ gtbl, w.before args s = true) (hl : Cond.methodLink own index y ∈ gtbl) (hk : kS y b n r k) (hrc : rm.cells = 0) (hrs : rm.slots = 0) (hR : rm.frames + 1 ≤ R.frames ∧ 8 + (n + 11) + rm.locals ≤ R.locals) : CallB R s args own index y b n r (wsOf y b n r) rm 0 0 k ∧ (Cond.static y).before args s = true := by
  obtain ⟨h2, h4, h5, h6⟩ := hk
  exact ⟨callB_of k hts (wsOf_good h5) rfl hrc hrs (hts _ h4) (hts _ hl) h6 hR, hts _ h2⟩
end
section
def R_Gr : String := "GroundReach"
def F_Gr : u_T := fun k => match k with
  | 0 => ("GroundReach", "terms", "LGroundReach$Terms;", true)
  | 1 => ("GroundReach", "rules", "LGroundReach$Rules;", true)
  | 2 => ("GroundReach", "automaton", "LGroundReach$Automaton;", true)
  | 3 => ("GroundReach", "relations", "LGroundReach$Relations;", true)
  | 4 => ("GroundReach", "languages", "LGroundReach$Languages;", true)
  | 5 => ("GroundReach", "steps", "LGroundReach$Steps;", true)
  | _ => ("GroundReach", "levels", "LGroundReach$Levels;", true)
def t_Gr : Nat → FieldType := fun k => match k with
  | 0 => .object "GroundReach$Terms"
  | 1 => .object "GroundReach$Rules"
  | 2 => .object "GroundReach$Automaton"
  | 3 => .object "GroundReach$Relations"
  | 4 => .object "GroundReach$Languages"
  | 5 => .object "GroundReach$Steps"
  | _ => .object "GroundReach$Levels"
theorem n_Gr : ∀ a, a < 7 → ∀ b, b < 7 → a ≠ b → (F_Gr a).2.1 ≠ (F_Gr b).2.1 := by decide +kernel
theorem t_Gr_ok : ∀ k, k < 7 → parseFieldDescriptor (F_Gr k).2.2.1 = some (t_Gr k) := by decide +kernel
set_option maxRecDepth 20000 in
theorem u_Gr : ∀ w ∈ u_ws R_Gr F_Gr 7, w ∈ gtbl := fun w h => gmem ((goodIn_of (big := lw_tbl) (u_ws R_Gr F_Gr 7) (by decide +kernel)) w h).1 (List.all_eq_true.mp (show (u_ws R_Gr F_Gr 7).all goodWord = true by decide +kernel) w h)
theorem in_Gr : Cond.initialized R_Gr ∈ gtbl := gmem (List.mem_append_right _ (List.mem_of_getElem? (i := 1) (by decide +kernel))) (by decide +kernel)
theorem fl_Gr_terms : Cond.fieldLink R_Gr 14 R_Gr "terms" "LGroundReach$Terms;" ∈ gtbl := gmem (List.mem_append_right _ (List.mem_of_getElem? (i := 225) (by decide +kernel))) (by decide +kernel)
theorem fl_Gr_rules : Cond.fieldLink R_Gr 21 R_Gr "rules" "LGroundReach$Rules;" ∈ gtbl := gmem (List.mem_append_right _ (List.mem_of_getElem? (i := 226) (by decide +kernel))) (by decide +kernel)
theorem fl_Gr_automaton : Cond.fieldLink R_Gr 30 R_Gr "automaton" "LGroundReach$Automaton;" ∈ gtbl := gmem (List.mem_append_right _ (List.mem_of_getElem? (i := 227) (by decide +kernel))) (by decide +kernel)
theorem fl_Gr_relations : Cond.fieldLink R_Gr 39 R_Gr "relations" "LGroundReach$Relations;" ∈ gtbl := gmem (List.mem_append_right _ (List.mem_of_getElem? (i := 228) (by decide +kernel))) (by decide +kernel)
theorem fl_Gr_languages : Cond.fieldLink R_Gr 48 R_Gr "languages" "LGroundReach$Languages;" ∈ gtbl := gmem (List.mem_append_right _ (List.mem_of_getElem? (i := 229) (by decide +kernel))) (by decide +kernel)
theorem fl_Gr_steps : Cond.fieldLink R_Gr 55 R_Gr "steps" "LGroundReach$Steps;" ∈ gtbl := gmem (List.mem_append_right _ (List.mem_of_getElem? (i := 230) (by decide +kernel))) (by decide +kernel)
theorem fl_Gr_levels : Cond.fieldLink R_Gr 62 R_Gr "levels" "LGroundReach$Levels;" ∈ gtbl := gmem (List.mem_append_right _ (List.mem_of_getElem? (i := 231) (by decide +kernel))) (by decide +kernel)
def R_Te : String := "GroundReach$Terms"
def F_Te : u_T := fun k => match k with
  | 0 => ("GroundReach$Terms", "places", "[I", true)
  | 1 => ("GroundReach$Terms", "symbol", "[I", true)
  | 2 => ("GroundReach$Terms", "first", "[I", true)
  | 3 => ("GroundReach$Terms", "second", "[I", true)
  | 4 => ("GroundReach$Terms", "size", "[I", true)
  | 5 => ("GroundReach$Terms", "newestIn", "[I", true)
  | 6 => ("GroundReach$Terms", "olderInBucket", "[I", true)
  | _ => ("GroundReach$Terms", "count", "I", false)
def t_Te : Nat → FieldType := fun k => match k with
  | 0 => .array .int
  | 1 => .array .int
  | 2 => .array .int
  | 3 => .array .int
  | 4 => .array .int
  | 5 => .array .int
  | 6 => .array .int
  | _ => .int
theorem n_Te : ∀ a, a < 8 → ∀ b, b < 8 → a ≠ b → (F_Te a).2.1 ≠ (F_Te b).2.1 := by decide +kernel
theorem t_Te_ok : ∀ k, k < 8 → parseFieldDescriptor (F_Te k).2.2.1 = some (t_Te k) := by decide +kernel
set_option maxRecDepth 20000 in
theorem u_Te : ∀ w ∈ u_ws R_Te F_Te 8, w ∈ gtbl := fun w h => gmem ((goodIn_of (big := lw_tbl) (u_ws R_Te F_Te 8) (by decide +kernel)) w h).1 (List.all_eq_true.mp (show (u_ws R_Te F_Te 8).all goodWord = true by decide +kernel) w h)
theorem in_Te : Cond.initialized R_Te ∈ gtbl := gmem (List.mem_append_right _ (List.mem_of_getElem? (i := 2) (by decide +kernel))) (by decide +kernel)
theorem fl_Te_places : Cond.fieldLink R_Te 9 R_Te "places" "[I" ∈ gtbl := gmem (List.mem_append_right _ (List.mem_of_getElem? (i := 38) (by decide +kernel))) (by decide +kernel)
theorem fl_Te_symbol : Cond.fieldLink R_Te 15 R_Te "symbol" "[I" ∈ gtbl := gmem (List.mem_append_right _ (List.mem_of_getElem? (i := 39) (by decide +kernel))) (by decide +kernel)
theorem fl_Te_first : Cond.fieldLink R_Te 18 R_Te "first" "[I" ∈ gtbl := gmem (List.mem_append_right _ (List.mem_of_getElem? (i := 40) (by decide +kernel))) (by decide +kernel)
theorem fl_Te_second : Cond.fieldLink R_Te 21 R_Te "second" "[I" ∈ gtbl := gmem (List.mem_append_right _ (List.mem_of_getElem? (i := 41) (by decide +kernel))) (by decide +kernel)
theorem fl_Te_size : Cond.fieldLink R_Te 24 R_Te "size" "[I" ∈ gtbl := gmem (List.mem_append_right _ (List.mem_of_getElem? (i := 42) (by decide +kernel))) (by decide +kernel)
theorem fl_Te_newestIn : Cond.fieldLink R_Te 27 R_Te "newestIn" "[I" ∈ gtbl := gmem (List.mem_append_right _ (List.mem_of_getElem? (i := 43) (by decide +kernel))) (by decide +kernel)
theorem fl_Te_olderInBucket : Cond.fieldLink R_Te 30 R_Te "olderInBucket" "[I" ∈ gtbl := gmem (List.mem_append_right _ (List.mem_of_getElem? (i := 44) (by decide +kernel))) (by decide +kernel)
theorem fl_Te_count : Cond.fieldLink R_Te 45 R_Te "count" "I" ∈ gtbl := gmem (List.mem_append_right _ (List.mem_of_getElem? (i := 45) (by decide +kernel))) (by decide +kernel)
def R_Ru : String := "GroundReach$Rules"
def F_Ru : u_T := fun k => match k with
  | 0 => ("GroundReach$Rules", "left", "[I", true)
  | 1 => ("GroundReach$Rules", "right", "[I", true)
  | 2 => ("GroundReach$Rules", "count", "I", false)
  | _ => ("GroundReach$Rules", "changes", "I", false)
def t_Ru : Nat → FieldType := fun k => match k with
  | 0 => .array .int
  | 1 => .array .int
  | 2 => .int
  | _ => .int
theorem n_Ru : ∀ a, a < 4 → ∀ b, b < 4 → a ≠ b → (F_Ru a).2.1 ≠ (F_Ru b).2.1 := by decide +kernel
theorem t_Ru_ok : ∀ k, k < 4 → parseFieldDescriptor (F_Ru k).2.2.1 = some (t_Ru k) := by decide +kernel
set_option maxRecDepth 20000 in
theorem u_Ru : ∀ w ∈ u_ws R_Ru F_Ru 4, w ∈ gtbl := fun w h => gmem ((goodIn_of (big := lw_tbl) (u_ws R_Ru F_Ru 4) (by decide +kernel)) w h).1 (List.all_eq_true.mp (show (u_ws R_Ru F_Ru 4).all goodWord = true by decide +kernel) w h)
theorem in_Ru : Cond.initialized R_Ru ∈ gtbl := gmem (List.mem_append_right _ (List.mem_of_getElem? (i := 5) (by decide +kernel))) (by decide +kernel)
theorem fl_Ru_left : Cond.fieldLink R_Ru 9 R_Ru "left" "[I" ∈ gtbl := gmem (List.mem_append_right _ (List.mem_of_getElem? (i := 70) (by decide +kernel))) (by decide +kernel)
theorem fl_Ru_right : Cond.fieldLink R_Ru 15 R_Ru "right" "[I" ∈ gtbl := gmem (List.mem_append_right _ (List.mem_of_getElem? (i := 71) (by decide +kernel))) (by decide +kernel)
theorem fl_Ru_count : Cond.fieldLink R_Ru 18 R_Ru "count" "I" ∈ gtbl := gmem (List.mem_append_right _ (List.mem_of_getElem? (i := 72) (by decide +kernel))) (by decide +kernel)
theorem fl_Ru_changes : Cond.fieldLink R_Ru 22 R_Ru "changes" "I" ∈ gtbl := gmem (List.mem_append_right _ (List.mem_of_getElem? (i := 73) (by decide +kernel))) (by decide +kernel)
def R_Au : String := "GroundReach$Automaton"
def F_Au : u_T := fun k => match k with
  | 0 => ("GroundReach$Automaton", "terms", "LGroundReach$Terms;", true)
  | 1 => ("GroundReach$Automaton", "symbol", "[I", true)
  | 2 => ("GroundReach$Automaton", "first", "[I", true)
  | 3 => ("GroundReach$Automaton", "second", "[I", true)
  | 4 => ("GroundReach$Automaton", "target", "[I", true)
  | 5 => ("GroundReach$Automaton", "weight", "[I", true)
  | 6 => ("GroundReach$Automaton", "count", "I", false)
  | _ => ("GroundReach$Automaton", "finals", "I", false)
def t_Au : Nat → FieldType := fun k => match k with
  | 0 => .object "GroundReach$Terms"
  | 1 => .array .int
  | 2 => .array .int
  | 3 => .array .int
  | 4 => .array .int
  | 5 => .array .int
  | 6 => .int
  | _ => .int
theorem n_Au : ∀ a, a < 8 → ∀ b, b < 8 → a ≠ b → (F_Au a).2.1 ≠ (F_Au b).2.1 := by decide +kernel
theorem t_Au_ok : ∀ k, k < 8 → parseFieldDescriptor (F_Au k).2.2.1 = some (t_Au k) := by decide +kernel
set_option maxRecDepth 20000 in
theorem u_Au : ∀ w ∈ u_ws R_Au F_Au 8, w ∈ gtbl := fun w h => gmem ((goodIn_of (big := lw_tbl) (u_ws R_Au F_Au 8) (by decide +kernel)) w h).1 (List.all_eq_true.mp (show (u_ws R_Au F_Au 8).all goodWord = true by decide +kernel) w h)
theorem in_Au : Cond.initialized R_Au ∈ gtbl := gmem (List.mem_append_right _ (List.mem_of_getElem? (i := 6) (by decide +kernel))) (by decide +kernel)
theorem fl_Au_terms : Cond.fieldLink R_Au 27 R_Au "terms" "LGroundReach$Terms;" ∈ gtbl := gmem (List.mem_append_right _ (List.mem_of_getElem? (i := 89) (by decide +kernel))) (by decide +kernel)
theorem fl_Au_symbol : Cond.fieldLink R_Au 9 R_Au "symbol" "[I" ∈ gtbl := gmem (List.mem_append_right _ (List.mem_of_getElem? (i := 90) (by decide +kernel))) (by decide +kernel)
theorem fl_Au_first : Cond.fieldLink R_Au 15 R_Au "first" "[I" ∈ gtbl := gmem (List.mem_append_right _ (List.mem_of_getElem? (i := 91) (by decide +kernel))) (by decide +kernel)
theorem fl_Au_second : Cond.fieldLink R_Au 18 R_Au "second" "[I" ∈ gtbl := gmem (List.mem_append_right _ (List.mem_of_getElem? (i := 92) (by decide +kernel))) (by decide +kernel)
theorem fl_Au_target : Cond.fieldLink R_Au 21 R_Au "target" "[I" ∈ gtbl := gmem (List.mem_append_right _ (List.mem_of_getElem? (i := 93) (by decide +kernel))) (by decide +kernel)
theorem fl_Au_weight : Cond.fieldLink R_Au 24 R_Au "weight" "[I" ∈ gtbl := gmem (List.mem_append_right _ (List.mem_of_getElem? (i := 94) (by decide +kernel))) (by decide +kernel)
theorem fl_Au_count : Cond.fieldLink R_Au 31 R_Au "count" "I" ∈ gtbl := gmem (List.mem_append_right _ (List.mem_of_getElem? (i := 95) (by decide +kernel))) (by decide +kernel)
theorem fl_Au_finals : Cond.fieldLink R_Au 35 R_Au "finals" "I" ∈ gtbl := gmem (List.mem_append_right _ (List.mem_of_getElem? (i := 96) (by decide +kernel))) (by decide +kernel)
def R_Re : String := "GroundReach$Relations"
def F_Re : u_T := fun k => match k with
  | 0 => ("GroundReach$Relations", "terms", "LGroundReach$Terms;", true)
  | 1 => ("GroundReach$Relations", "rules", "LGroundReach$Rules;", true)
  | 2 => ("GroundReach$Relations", "reached", "[J", true)
  | 3 => ("GroundReach$Relations", "joined", "[J", true)
  | 4 => ("GroundReach$Relations", "least", "[I", true)
  | 5 => ("GroundReach$Relations", "termsThen", "I", false)
  | 6 => ("GroundReach$Relations", "changesThen", "I", false)
  | _ => ("GroundReach$Relations", "joinedKnown", "Z", false)
def t_Re : Nat → FieldType := fun k => match k with
  | 0 => .object "GroundReach$Terms"
  | 1 => .object "GroundReach$Rules"
  | 2 => .array .long
  | 3 => .array .long
  | 4 => .array .int
  | 5 => .int
  | 6 => .int
  | _ => .boolean
theorem n_Re : ∀ a, a < 8 → ∀ b, b < 8 → a ≠ b → (F_Re a).2.1 ≠ (F_Re b).2.1 := by decide +kernel
theorem t_Re_ok : ∀ k, k < 8 → parseFieldDescriptor (F_Re k).2.2.1 = some (t_Re k) := by decide +kernel
set_option maxRecDepth 20000 in
theorem u_Re : ∀ w ∈ u_ws R_Re F_Re 8, w ∈ gtbl := fun w h => gmem ((goodIn_of (big := lw_tbl) (u_ws R_Re F_Re 8) (by decide +kernel)) w h).1 (List.all_eq_true.mp (show (u_ws R_Re F_Re 8).all goodWord = true by decide +kernel) w h)
theorem in_Re : Cond.initialized R_Re ∈ gtbl := gmem (List.mem_append_right _ (List.mem_of_getElem? (i := 7) (by decide +kernel))) (by decide +kernel)
theorem fl_Re_terms : Cond.fieldLink R_Re 29 R_Re "terms" "LGroundReach$Terms;" ∈ gtbl := gmem (List.mem_append_right _ (List.mem_of_getElem? (i := 120) (by decide +kernel))) (by decide +kernel)
theorem fl_Re_rules : Cond.fieldLink R_Re 33 R_Re "rules" "LGroundReach$Rules;" ∈ gtbl := gmem (List.mem_append_right _ (List.mem_of_getElem? (i := 121) (by decide +kernel))) (by decide +kernel)
theorem fl_Re_reached : Cond.fieldLink R_Re 9 R_Re "reached" "[J" ∈ gtbl := gmem (List.mem_append_right _ (List.mem_of_getElem? (i := 122) (by decide +kernel))) (by decide +kernel)
theorem fl_Re_joined : Cond.fieldLink R_Re 15 R_Re "joined" "[J" ∈ gtbl := gmem (List.mem_append_right _ (List.mem_of_getElem? (i := 123) (by decide +kernel))) (by decide +kernel)
theorem fl_Re_least : Cond.fieldLink R_Re 18 R_Re "least" "[I" ∈ gtbl := gmem (List.mem_append_right _ (List.mem_of_getElem? (i := 124) (by decide +kernel))) (by decide +kernel)
theorem fl_Re_termsThen : Cond.fieldLink R_Re 22 R_Re "termsThen" "I" ∈ gtbl := gmem (List.mem_append_right _ (List.mem_of_getElem? (i := 125) (by decide +kernel))) (by decide +kernel)
theorem fl_Re_changesThen : Cond.fieldLink R_Re 26 R_Re "changesThen" "I" ∈ gtbl := gmem (List.mem_append_right _ (List.mem_of_getElem? (i := 126) (by decide +kernel))) (by decide +kernel)
theorem fl_Re_joinedKnown : Cond.fieldLink R_Re 48 R_Re "joinedKnown" "Z" ∈ gtbl := gmem (List.mem_append_right _ (List.mem_of_getElem? (i := 127) (by decide +kernel))) (by decide +kernel)
def R_La : String := "GroundReach$Languages"
def F_La : u_T := fun k => match k with
  | 0 => ("GroundReach$Languages", "terms", "LGroundReach$Terms;", true)
  | 1 => ("GroundReach$Languages", "automaton", "LGroundReach$Automaton;", true)
  | 2 => ("GroundReach$Languages", "relations", "LGroundReach$Relations;", true)
  | _ => ("GroundReach$Languages", "states", "[I", true)
def t_La : Nat → FieldType := fun k => match k with
  | 0 => .object "GroundReach$Terms"
  | 1 => .object "GroundReach$Automaton"
  | 2 => .object "GroundReach$Relations"
  | _ => .array .int
theorem n_La : ∀ a, a < 4 → ∀ b, b < 4 → a ≠ b → (F_La a).2.1 ≠ (F_La b).2.1 := by decide +kernel
theorem t_La_ok : ∀ k, k < 4 → parseFieldDescriptor (F_La k).2.2.1 = some (t_La k) := by decide +kernel
set_option maxRecDepth 20000 in
theorem u_La : ∀ w ∈ u_ws R_La F_La 4, w ∈ gtbl := fun w h => gmem ((goodIn_of (big := lw_tbl) (u_ws R_La F_La 4) (by decide +kernel)) w h).1 (List.all_eq_true.mp (show (u_ws R_La F_La 4).all goodWord = true by decide +kernel) w h)
theorem in_La : Cond.initialized R_La ∈ gtbl := gmem (List.mem_append_right _ (List.mem_of_getElem? (i := 8) (by decide +kernel))) (by decide +kernel)
theorem fl_La_terms : Cond.fieldLink R_La 15 R_La "terms" "LGroundReach$Terms;" ∈ gtbl := gmem (List.mem_append_right _ (List.mem_of_getElem? (i := 152) (by decide +kernel))) (by decide +kernel)
theorem fl_La_automaton : Cond.fieldLink R_La 19 R_La "automaton" "LGroundReach$Automaton;" ∈ gtbl := gmem (List.mem_append_right _ (List.mem_of_getElem? (i := 153) (by decide +kernel))) (by decide +kernel)
theorem fl_La_relations : Cond.fieldLink R_La 23 R_La "relations" "LGroundReach$Relations;" ∈ gtbl := gmem (List.mem_append_right _ (List.mem_of_getElem? (i := 154) (by decide +kernel))) (by decide +kernel)
theorem fl_La_states : Cond.fieldLink R_La 9 R_La "states" "[I" ∈ gtbl := gmem (List.mem_append_right _ (List.mem_of_getElem? (i := 155) (by decide +kernel))) (by decide +kernel)
def R_Sp : String := "GroundReach$Steps"
def F_Sp : u_T := fun k => match k with
  | 0 => ("GroundReach$Steps", "terms", "LGroundReach$Terms;", true)
  | 1 => ("GroundReach$Steps", "rules", "LGroundReach$Rules;", true)
  | 2 => ("GroundReach$Steps", "counts", "[J", true)
  | 3 => ("GroundReach$Steps", "path", "[I", true)
  | _ => ("GroundReach$Steps", "wentFirst", "[Z", true)
def t_Sp : Nat → FieldType := fun k => match k with
  | 0 => .object "GroundReach$Terms"
  | 1 => .object "GroundReach$Rules"
  | 2 => .array .long
  | 3 => .array .int
  | _ => .array .boolean
theorem n_Sp : ∀ a, a < 5 → ∀ b, b < 5 → a ≠ b → (F_Sp a).2.1 ≠ (F_Sp b).2.1 := by decide +kernel
theorem t_Sp_ok : ∀ k, k < 5 → parseFieldDescriptor (F_Sp k).2.2.1 = some (t_Sp k) := by decide +kernel
set_option maxRecDepth 20000 in
theorem u_Sp : ∀ w ∈ u_ws R_Sp F_Sp 5, w ∈ gtbl := fun w h => gmem ((goodIn_of (big := lw_tbl) (u_ws R_Sp F_Sp 5) (by decide +kernel)) w h).1 (List.all_eq_true.mp (show (u_ws R_Sp F_Sp 5).all goodWord = true by decide +kernel) w h)
theorem in_Sp : Cond.initialized R_Sp ∈ gtbl := gmem (List.mem_append_right _ (List.mem_of_getElem? (i := 9) (by decide +kernel))) (by decide +kernel)
theorem fl_Sp_terms : Cond.fieldLink R_Sp 23 R_Sp "terms" "LGroundReach$Terms;" ∈ gtbl := gmem (List.mem_append_right _ (List.mem_of_getElem? (i := 171) (by decide +kernel))) (by decide +kernel)
theorem fl_Sp_rules : Cond.fieldLink R_Sp 27 R_Sp "rules" "LGroundReach$Rules;" ∈ gtbl := gmem (List.mem_append_right _ (List.mem_of_getElem? (i := 172) (by decide +kernel))) (by decide +kernel)
theorem fl_Sp_counts : Cond.fieldLink R_Sp 9 R_Sp "counts" "[J" ∈ gtbl := gmem (List.mem_append_right _ (List.mem_of_getElem? (i := 173) (by decide +kernel))) (by decide +kernel)
theorem fl_Sp_path : Cond.fieldLink R_Sp 15 R_Sp "path" "[I" ∈ gtbl := gmem (List.mem_append_right _ (List.mem_of_getElem? (i := 174) (by decide +kernel))) (by decide +kernel)
theorem fl_Sp_wentFirst : Cond.fieldLink R_Sp 19 R_Sp "wentFirst" "[Z" ∈ gtbl := gmem (List.mem_append_right _ (List.mem_of_getElem? (i := 175) (by decide +kernel))) (by decide +kernel)
def R_Le : String := "GroundReach$Levels"
def F_Le : u_T := fun k => match k with
  | 0 => ("GroundReach$Levels", "terms", "LGroundReach$Terms;", true)
  | 1 => ("GroundReach$Levels", "rules", "LGroundReach$Rules;", true)
  | 2 => ("GroundReach$Levels", "after", "[J", true)
  | 3 => ("GroundReach$Levels", "counted", "[Z", true)
  | 4 => ("GroundReach$Levels", "expanded", "[Z", true)
  | 5 => ("GroundReach$Levels", "inLevels", "[J", true)
  | 6 => ("GroundReach$Levels", "newest", "[J", true)
  | 7 => ("GroundReach$Levels", "coming", "[J", true)
  | 8 => ("GroundReach$Levels", "waiting", "[I", true)
  | _ => ("GroundReach$Levels", "countedTerms", "I", false)
def t_Le : Nat → FieldType := fun k => match k with
  | 0 => .object "GroundReach$Terms"
  | 1 => .object "GroundReach$Rules"
  | 2 => .array .long
  | 3 => .array .boolean
  | 4 => .array .boolean
  | 5 => .array .long
  | 6 => .array .long
  | 7 => .array .long
  | 8 => .array .int
  | _ => .int
theorem n_Le : ∀ a, a < 10 → ∀ b, b < 10 → a ≠ b → (F_Le a).2.1 ≠ (F_Le b).2.1 := by decide +kernel
theorem t_Le_ok : ∀ k, k < 10 → parseFieldDescriptor (F_Le k).2.2.1 = some (t_Le k) := by decide +kernel
set_option maxRecDepth 20000 in
theorem u_Le : ∀ w ∈ u_ws R_Le F_Le 10, w ∈ gtbl := fun w h => gmem ((goodIn_of (big := lw_tbl) (u_ws R_Le F_Le 10) (by decide +kernel)) w h).1 (List.all_eq_true.mp (show (u_ws R_Le F_Le 10).all goodWord = true by decide +kernel) w h)
theorem in_Le : Cond.initialized R_Le ∈ gtbl := gmem (List.mem_append_right _ (List.mem_of_getElem? (i := 10) (by decide +kernel))) (by decide +kernel)
theorem fl_Le_terms : Cond.fieldLink R_Le 35 R_Le "terms" "LGroundReach$Terms;" ∈ gtbl := gmem (List.mem_append_right _ (List.mem_of_getElem? (i := 194) (by decide +kernel))) (by decide +kernel)
theorem fl_Le_rules : Cond.fieldLink R_Le 39 R_Le "rules" "LGroundReach$Rules;" ∈ gtbl := gmem (List.mem_append_right _ (List.mem_of_getElem? (i := 195) (by decide +kernel))) (by decide +kernel)
theorem fl_Le_after : Cond.fieldLink R_Le 11 R_Le "after" "[J" ∈ gtbl := gmem (List.mem_append_right _ (List.mem_of_getElem? (i := 196) (by decide +kernel))) (by decide +kernel)
theorem fl_Le_counted : Cond.fieldLink R_Le 15 R_Le "counted" "[Z" ∈ gtbl := gmem (List.mem_append_right _ (List.mem_of_getElem? (i := 197) (by decide +kernel))) (by decide +kernel)
theorem fl_Le_expanded : Cond.fieldLink R_Le 19 R_Le "expanded" "[Z" ∈ gtbl := gmem (List.mem_append_right _ (List.mem_of_getElem? (i := 198) (by decide +kernel))) (by decide +kernel)
theorem fl_Le_inLevels : Cond.fieldLink R_Le 22 R_Le "inLevels" "[J" ∈ gtbl := gmem (List.mem_append_right _ (List.mem_of_getElem? (i := 199) (by decide +kernel))) (by decide +kernel)
theorem fl_Le_newest : Cond.fieldLink R_Le 25 R_Le "newest" "[J" ∈ gtbl := gmem (List.mem_append_right _ (List.mem_of_getElem? (i := 200) (by decide +kernel))) (by decide +kernel)
theorem fl_Le_coming : Cond.fieldLink R_Le 28 R_Le "coming" "[J" ∈ gtbl := gmem (List.mem_append_right _ (List.mem_of_getElem? (i := 201) (by decide +kernel))) (by decide +kernel)
theorem fl_Le_waiting : Cond.fieldLink R_Le 31 R_Le "waiting" "[I" ∈ gtbl := gmem (List.mem_append_right _ (List.mem_of_getElem? (i := 202) (by decide +kernel))) (by decide +kernel)
theorem fl_Le_countedTerms : Cond.fieldLink R_Le 53 R_Le "countedTerms" "I" ∈ gtbl := gmem (List.mem_append_right _ (List.mem_of_getElem? (i := 203) (by decide +kernel))) (by decide +kernel)
def R_Mo : String := "GroundReachModel"
def F_Mo : u_T := fun k => match k with
  | 0 => ("GroundReachModel", "thrown", "I", false)
  | 1 => ("GroundReachModel", "places", "[I", true)
  | 2 => ("GroundReachModel", "symbol", "[I", true)
  | 3 => ("GroundReachModel", "one", "[I", true)
  | 4 => ("GroundReachModel", "two", "[I", true)
  | 5 => ("GroundReachModel", "count", "I", false)
  | 6 => ("GroundReachModel", "rules", "I", false)
  | 7 => ("GroundReachModel", "left", "[I", true)
  | 8 => ("GroundReachModel", "right", "[I", true)
  | 9 => ("GroundReachModel", "edges", "I", false)
  | 10 => ("GroundReachModel", "edge", "[I", true)
  | 11 => ("GroundReachModel", "finals", "I", false)
  | 12 => ("GroundReachModel", "goes", "[Z", true)
  | 13 => ("GroundReachModel", "joins", "[Z", true)
  | 14 => ("GroundReachModel", "states", "[Z", true)
  | 15 => ("GroundReachModel", "light", "[I", true)
  | 16 => ("GroundReachModel", "stateLight", "[I", true)
  | 17 => ("GroundReachModel", "stored", "I", false)
  | 18 => ("GroundReachModel", "different", "I", false)
  | 19 => ("GroundReachModel", "marked", "[Z", true)
  | 20 => ("GroundReachModel", "came", "[Z", true)
  | 21 => ("GroundReachModel", "level", "[I", true)
  | 22 => ("GroundReachModel", "many", "[I", true)
  | 23 => ("GroundReachModel", "open", "[I", true)
  | 24 => ("GroundReachModel", "path", "[I", true)
  | _ => ("GroundReachModel", "side", "[I", true)
def t_Mo : Nat → FieldType := fun k => match k with
  | 0 => .int
  | 1 => .array .int
  | 2 => .array .int
  | 3 => .array .int
  | 4 => .array .int
  | 5 => .int
  | 6 => .int
  | 7 => .array .int
  | 8 => .array .int
  | 9 => .int
  | 10 => .array .int
  | 11 => .int
  | 12 => .array .boolean
  | 13 => .array .boolean
  | 14 => .array .boolean
  | 15 => .array .int
  | 16 => .array .int
  | 17 => .int
  | 18 => .int
  | 19 => .array .boolean
  | 20 => .array .boolean
  | 21 => .array .int
  | 22 => .array .int
  | 23 => .array .int
  | 24 => .array .int
  | _ => .array .int
theorem n_Mo : ∀ a, a < 26 → ∀ b, b < 26 → a ≠ b → (F_Mo a).2.1 ≠ (F_Mo b).2.1 := by decide +kernel
theorem t_Mo_ok : ∀ k, k < 26 → parseFieldDescriptor (F_Mo k).2.2.1 = some (t_Mo k) := by decide +kernel
set_option maxRecDepth 20000 in
theorem u_Mo : ∀ w ∈ u_ws R_Mo F_Mo 26, w ∈ gtbl := fun w h => gmem ((goodIn_of (big := lw_tbl) (u_ws R_Mo F_Mo 26) (by decide +kernel)) w h).1 (List.all_eq_true.mp (show (u_ws R_Mo F_Mo 26).all goodWord = true by decide +kernel) w h)
theorem in_Mo : Cond.initialized R_Mo ∈ gtbl := gmem (List.mem_append_right _ (List.mem_of_getElem? (i := 11) (by decide +kernel))) (by decide +kernel)
theorem fl_Mo_thrown : Cond.fieldLink R_Mo 68 R_Mo "thrown" "I" ∈ gtbl := gmem (List.mem_append_right _ (List.mem_of_getElem? (i := 769) (by decide +kernel))) (by decide +kernel)
theorem fl_Mo_places : Cond.fieldLink R_Mo 7 R_Mo "places" "[I" ∈ gtbl := gmem (List.mem_append_right _ (List.mem_of_getElem? (i := 770) (by decide +kernel))) (by decide +kernel)
theorem fl_Mo_symbol : Cond.fieldLink R_Mo 13 R_Mo "symbol" "[I" ∈ gtbl := gmem (List.mem_append_right _ (List.mem_of_getElem? (i := 771) (by decide +kernel))) (by decide +kernel)
theorem fl_Mo_one : Cond.fieldLink R_Mo 16 R_Mo "one" "[I" ∈ gtbl := gmem (List.mem_append_right _ (List.mem_of_getElem? (i := 772) (by decide +kernel))) (by decide +kernel)
theorem fl_Mo_two : Cond.fieldLink R_Mo 19 R_Mo "two" "[I" ∈ gtbl := gmem (List.mem_append_right _ (List.mem_of_getElem? (i := 773) (by decide +kernel))) (by decide +kernel)
theorem fl_Mo_count : Cond.fieldLink R_Mo 72 R_Mo "count" "I" ∈ gtbl := gmem (List.mem_append_right _ (List.mem_of_getElem? (i := 774) (by decide +kernel))) (by decide +kernel)
theorem fl_Mo_rules : Cond.fieldLink R_Mo 93 R_Mo "rules" "I" ∈ gtbl := gmem (List.mem_append_right _ (List.mem_of_getElem? (i := 775) (by decide +kernel))) (by decide +kernel)
theorem fl_Mo_left : Cond.fieldLink R_Mo 22 R_Mo "left" "[I" ∈ gtbl := gmem (List.mem_append_right _ (List.mem_of_getElem? (i := 776) (by decide +kernel))) (by decide +kernel)
theorem fl_Mo_right : Cond.fieldLink R_Mo 25 R_Mo "right" "[I" ∈ gtbl := gmem (List.mem_append_right _ (List.mem_of_getElem? (i := 777) (by decide +kernel))) (by decide +kernel)
theorem fl_Mo_edges : Cond.fieldLink R_Mo 109 R_Mo "edges" "I" ∈ gtbl := gmem (List.mem_append_right _ (List.mem_of_getElem? (i := 778) (by decide +kernel))) (by decide +kernel)
theorem fl_Mo_edge : Cond.fieldLink R_Mo 28 R_Mo "edge" "[I" ∈ gtbl := gmem (List.mem_append_right _ (List.mem_of_getElem? (i := 779) (by decide +kernel))) (by decide +kernel)
theorem fl_Mo_finals : Cond.fieldLink R_Mo 112 R_Mo "finals" "I" ∈ gtbl := gmem (List.mem_append_right _ (List.mem_of_getElem? (i := 780) (by decide +kernel))) (by decide +kernel)
theorem fl_Mo_goes : Cond.fieldLink R_Mo 31 R_Mo "goes" "[Z" ∈ gtbl := gmem (List.mem_append_right _ (List.mem_of_getElem? (i := 781) (by decide +kernel))) (by decide +kernel)
theorem fl_Mo_joins : Cond.fieldLink R_Mo 35 R_Mo "joins" "[Z" ∈ gtbl := gmem (List.mem_append_right _ (List.mem_of_getElem? (i := 782) (by decide +kernel))) (by decide +kernel)
theorem fl_Mo_states : Cond.fieldLink R_Mo 38 R_Mo "states" "[Z" ∈ gtbl := gmem (List.mem_append_right _ (List.mem_of_getElem? (i := 783) (by decide +kernel))) (by decide +kernel)
theorem fl_Mo_light : Cond.fieldLink R_Mo 41 R_Mo "light" "[I" ∈ gtbl := gmem (List.mem_append_right _ (List.mem_of_getElem? (i := 784) (by decide +kernel))) (by decide +kernel)
theorem fl_Mo_stateLight : Cond.fieldLink R_Mo 44 R_Mo "stateLight" "[I" ∈ gtbl := gmem (List.mem_append_right _ (List.mem_of_getElem? (i := 785) (by decide +kernel))) (by decide +kernel)
theorem fl_Mo_stored : Cond.fieldLink R_Mo 151 R_Mo "stored" "I" ∈ gtbl := gmem (List.mem_append_right _ (List.mem_of_getElem? (i := 786) (by decide +kernel))) (by decide +kernel)
theorem fl_Mo_different : Cond.fieldLink R_Mo 157 R_Mo "different" "I" ∈ gtbl := gmem (List.mem_append_right _ (List.mem_of_getElem? (i := 787) (by decide +kernel))) (by decide +kernel)
theorem fl_Mo_marked : Cond.fieldLink R_Mo 47 R_Mo "marked" "[Z" ∈ gtbl := gmem (List.mem_append_right _ (List.mem_of_getElem? (i := 788) (by decide +kernel))) (by decide +kernel)
theorem fl_Mo_came : Cond.fieldLink R_Mo 50 R_Mo "came" "[Z" ∈ gtbl := gmem (List.mem_append_right _ (List.mem_of_getElem? (i := 789) (by decide +kernel))) (by decide +kernel)
theorem fl_Mo_level : Cond.fieldLink R_Mo 53 R_Mo "level" "[I" ∈ gtbl := gmem (List.mem_append_right _ (List.mem_of_getElem? (i := 790) (by decide +kernel))) (by decide +kernel)
theorem fl_Mo_many : Cond.fieldLink R_Mo 56 R_Mo "many" "[I" ∈ gtbl := gmem (List.mem_append_right _ (List.mem_of_getElem? (i := 791) (by decide +kernel))) (by decide +kernel)
theorem fl_Mo_open : Cond.fieldLink R_Mo 59 R_Mo "open" "[I" ∈ gtbl := gmem (List.mem_append_right _ (List.mem_of_getElem? (i := 792) (by decide +kernel))) (by decide +kernel)
theorem fl_Mo_path : Cond.fieldLink R_Mo 62 R_Mo "path" "[I" ∈ gtbl := gmem (List.mem_append_right _ (List.mem_of_getElem? (i := 793) (by decide +kernel))) (by decide +kernel)
theorem fl_Mo_side : Cond.fieldLink R_Mo 65 R_Mo "side" "[I" ∈ gtbl := gmem (List.mem_append_right _ (List.mem_of_getElem? (i := 794) (by decide +kernel))) (by decide +kernel)
def R_Ar : String := "java/util/Arrays"
theorem in_Ar : Cond.initialized R_Ar ∈ gtbl := gmem (List.mem_append_right _ (List.mem_of_getElem? (i := 4) (by decide +kernel))) (by decide +kernel)
def R_Ma : String := "java/lang/Math"
theorem in_Ma : Cond.initialized R_Ma ∈ gtbl := gmem (List.mem_append_right _ (List.mem_of_getElem? (i := 3) (by decide +kernel))) (by decide +kernel)
def R_Lw : String := "GroundReachLaw"
theorem in_Lw : Cond.initialized R_Lw ∈ gtbl := gmem (List.mem_append_right _ (List.mem_of_getElem? (i := 0) (by decide +kernel))) (by decide +kernel)
abbrev classes : List vw_C := [(R_Gr, F_Gr, 7), (R_Te, F_Te, 8), (R_Ru, F_Ru, 4), (R_Au, F_Au, 8), (R_Re, F_Re, 8), (R_La, F_La, 4), (R_Sp, F_Sp, 5), (R_Le, F_Le, 10), (R_Mo, F_Mo, 26)]
end
section
theorem sw_cases (x : Int32) (hi : Nat) (hh : hi < 2147483647) : x.toInt < 0 ∨ (hi : Int) < x.toInt ∨ ∃ j : Nat, j ≤ hi ∧ x = nI j := by
  by_cases h1 : x.toInt < 0
  · exact Or.inl h1
  · by_cases h2 : (hi : Int) < x.toInt
    · exact Or.inr (Or.inl h2)
    · refine Or.inr (Or.inr ⟨x.toInt.toNat, by omega, ?_⟩)
      apply Int32.toInt_inj.mp
      rw [nI_toInt (by omega)]
      omega
section GW
variable {σ τ : Type}
/-- the tables: classes, array classes, and the one private method of a nest mate that is called -/
def nestW : Cond := .methodLinkNest "GroundReach$Automaton" 44 ⟨"GroundReach", "isState", "(I)Z"⟩ "GroundReach"
def gK (D : va_G) (ty : List (ClassId × FieldType)) (U : State) : Prop := va_K D classes ty U ∧ va_Nw nestW U
theorem gK.moved {D : va_G} {ty : List (ClassId × FieldType)} {s U : State} (hW : s.WarmedH U.vm) (h : gK D ty s) : gK D ty U := ⟨va_K.moved hW.alike h.1, va_Nw.warmM hW h.2⟩
theorem gK.calling {D : va_G} {ty : List (ClassId × FieldType)} {U : State} (g : JFrame) (mk : MethodId) (a : Array Value) (h : gK D ty U) : gK D ty (U.calling g mk a) := ⟨va_K.moved (u := U) (U := U.calling g mk a) (Vm.Alike.refl U.vm) h.1, va_Nw.same (u := U) (U := U.calling g mk a) rfl rfl h.2⟩
/-- where a walk stands: the world holds the state, apart, in A; nothing else has changed -/
def gIn (D : va_G) (A : Nat → Prop) (s : State) (wf : σ → va_W) (st : σ) (H : Heap) (locs : List Loc) : Prop := va_P D classes (wf st) H ∧ va_D A (wf st) ∧ va_S A s.heap H locs
def gPre (D : va_G) (ty : List (ClassId × FieldType)) (wf : σ → va_W) (st : σ) (sz : Nat) (av : List Value) : Array Value → State → Prop := va_Pc av (fun U => U.heap.size = sz ∧ va_P D classes (wf st) U.heap ∧ gK D ty U ∧ va_D (fun _ => True) (wf st))
def gAt (D : va_G) (ty : List (ClassId × FieldType)) (A : Nat → Prop) (wf : σ → va_W) (st : σ) (t : State) : Prop := va_P D classes (wf st) t.heap ∧ gK D ty t ∧ va_D A (wf st)
def rPre (D : va_G) (ty : List (ClassId × FieldType)) (wf : σ → va_W) (st : σ) (av : List Value) : Array Value → State → Prop := va_Pc av (fun U => va_P D classes (wf st) U.heap ∧ gK D ty U)
def rwI (l : Launch) (y : MethodName) (ws : List Cond) (rm : Room) (D : va_G) (ty : List (ClassId × FieldType)) (wf : σ → va_W) (av : List Value) (st : σ) (F : τ → σ) (Q : Int32 → τ → Prop) : Prop :=
  ∀ sz, Met l y ws rm (gPre D ty wf st sz av) (va_Qi Q (fun u t => gAt D ty (va_A (wf st) sz) wf (F u) t) (va_A (wf st) sz)) 0 0 (va_A (wf st) sz)
def rwV (l : Launch) (y : MethodName) (ws : List Cond) (rm : Room) (D : va_G) (ty : List (ClassId × FieldType)) (wf : σ → va_W) (av : List Value) (st : σ) (F : τ → σ) (Q : τ → Prop) : Prop :=
  ∀ sz, Met l y ws rm (gPre D ty wf st sz av) (va_Qv Q (fun u t => gAt D ty (va_A (wf st) sz) wf (F u) t) (va_A (wf st) sz)) 0 0 (va_A (wf st) sz)
def roI (l : Launch) (y : MethodName) (ws : List Cond) (rm : Room) (D : va_G) (ty : List (ClassId × FieldType)) (wf : σ → va_W) (av : List Value) (st : σ) (Q : Int32 → Prop) : Prop := Met l y ws rm (rPre D ty wf st av) (vp_Si Q) 0 0 (fun _ => False)
def roL (l : Launch) (y : MethodName) (ws : List Cond) (rm : Room) (D : va_G) (ty : List (ClassId × FieldType)) (wf : σ → va_W) (av : List Value) (st : σ) (Q : Int64 → Prop) : Prop := Met l y ws rm (rPre D ty wf st av) (vp_Sl Q) 0 0 (fun _ => False)
abbrev qI (D : va_G) (ty : List (ClassId × FieldType)) (A : Nat → Prop) (wf : σ → va_W) (F : τ → σ) (Q : Int32 → τ → Prop) (below : List Frame) (args : Array Value) (s : State) : State → Prop := MQ below (va_Qi Q (fun u t => gAt D ty A wf (F u) t) A) args s 0 0 A
abbrev qV (D : va_G) (ty : List (ClassId × FieldType)) (A : Nat → Prop) (wf : σ → va_W) (F : τ → σ) (Q : τ → Prop) (below : List Frame) (args : Array Value) (s : State) : State → Prop := MQ below (va_Qv Q (fun u t => gAt D ty A wf (F u) t) A) args s 0 0 A
abbrev qRI (Q : Int32 → Prop) (below : List Frame) (args : Array Value) (s : State) : State → Prop := MQ below (vp_Si Q) args s 0 0 (fun _ => False)
abbrev qRL (Q : Int64 → Prop) (below : List Frame) (args : Array Value) (s : State) : State → Prop := MQ below (vp_Sl Q) args s 0 0 (fun _ => False)
theorem rwI_of {l : Launch} {y : MethodName} {cc : ByteArray} {nL : Nat} {ret : Option FieldType} {rm : Room} {D : va_G} {ty : List (ClassId × FieldType)} {wf : σ → va_W} {av : List Value} {st : σ} {F : τ → σ} {Q : Int32 → τ → Prop} (hy : plainName y.cls = true) (hlen : (lg_sl av).length ≤ nL)
    (body : ∀ (p : Program) (e : Env) (s : State) (m : MethodId) (below : List Frame) (meth : Method) (c : Code), CallFix p m c cc nL s av.toArray gtbl y.cls → meth.sig.returnType = ret → meth.locks = false → gK D ty s → ∀ A : Nat → Prop, (∀ q : Nat, s.heap.size ≤ q → A q) → gIn D A s wf st s.heap [] →
      ∀ ls : Array Slot, lv_has ls nL (lv_args 0 av) → W p l e rm s m av.toArray below meth c s.heap [] 0 0 (qI D ty A wf F Q below av.toArray s) (F0 m 0 ls [])) : rwI l y (wsOf y cc nL ret) rm D ty wf av st F Q := by
  intro sz
  refine Met.ofW (cc := cc) (maxL := nL) (ret := ret) hy rfl ?_
  intro p e s m args below meth c s₁ B hml hv
  obtain ⟨rfl, hsz, hP, hK, hD0⟩ := hv
  have hts := atoms_spec (ws := wsOf y cc nL ret) B.pre
  have hl := lv_entry av (n := nL) hlen
  rw [lg_entry_eq]
  generalize (lg_sl av ++ List.replicate (nL - (lg_sl av).length) Slot.unset).toArray = ls at hl ⊢
  subst hsz
  exact body p e s m below meth c ⟨B.exec, B.bytes, hml, findClass_of_methodNamed B.named, fun w hw => hts w (List.mem_cons_of_mem _ hw)⟩ B.returns B.notSynchronized hK _ (fun q h => Or.inr h) ⟨hP, hD0.self, va_S.rf⟩ ls hl
theorem rwV_of {l : Launch} {y : MethodName} {cc : ByteArray} {nL : Nat} {ret : Option FieldType} {rm : Room} {D : va_G} {ty : List (ClassId × FieldType)} {wf : σ → va_W} {av : List Value} {st : σ} {F : τ → σ} {Q : τ → Prop} (hy : plainName y.cls = true) (hlen : (lg_sl av).length ≤ nL)
    (body : ∀ (p : Program) (e : Env) (s : State) (m : MethodId) (below : List Frame) (meth : Method) (c : Code), CallFix p m c cc nL s av.toArray gtbl y.cls → meth.sig.returnType = ret → meth.locks = false → gK D ty s → ∀ A : Nat → Prop, (∀ q : Nat, s.heap.size ≤ q → A q) → gIn D A s wf st s.heap [] →
      ∀ ls : Array Slot, lv_has ls nL (lv_args 0 av) → W p l e rm s m av.toArray below meth c s.heap [] 0 0 (qV D ty A wf F Q below av.toArray s) (F0 m 0 ls [])) : rwV l y (wsOf y cc nL ret) rm D ty wf av st F Q := by
  intro sz
  refine Met.ofW (cc := cc) (maxL := nL) (ret := ret) hy rfl ?_
  intro p e s m args below meth c s₁ B hml hv
  obtain ⟨rfl, hsz, hP, hK, hD0⟩ := hv
  have hts := atoms_spec (ws := wsOf y cc nL ret) B.pre
  have hl := lv_entry av (n := nL) hlen
  rw [lg_entry_eq]
  generalize (lg_sl av ++ List.replicate (nL - (lg_sl av).length) Slot.unset).toArray = ls at hl ⊢
  subst hsz
  exact body p e s m below meth c ⟨B.exec, B.bytes, hml, findClass_of_methodNamed B.named, fun w hw => hts w (List.mem_cons_of_mem _ hw)⟩ B.returns B.notSynchronized hK _ (fun q h => Or.inr h) ⟨hP, hD0.self, va_S.rf⟩ ls hl
theorem roI_of {l : Launch} {y : MethodName} {cc : ByteArray} {nL : Nat} {ret : Option FieldType} {rm : Room} {D : va_G} {ty : List (ClassId × FieldType)} {wf : σ → va_W} {av : List Value} {st : σ} {Q : Int32 → Prop} (hy : plainName y.cls = true) (hlen : (lg_sl av).length ≤ nL)
    (body : ∀ (p : Program) (e : Env) (s : State) (m : MethodId) (below : List Frame) (meth : Method) (c : Code), CallFix p m c cc nL s av.toArray gtbl y.cls → meth.sig.returnType = ret → meth.locks = false → gK D ty s → va_P D classes (wf st) s.heap →
      ∀ ls : Array Slot, lv_has ls nL (lv_args 0 av) → W p l e rm s m av.toArray below meth c s.heap [] 0 0 (qRI Q below av.toArray s) (F0 m 0 ls [])) : roI l y (wsOf y cc nL ret) rm D ty wf av st Q := by
  refine Met.ofW (cc := cc) (maxL := nL) (ret := ret) hy rfl ?_
  intro p e s m args below meth c s₁ B hml hv
  obtain ⟨rfl, hP, hK⟩ := hv
  have hts := atoms_spec (ws := wsOf y cc nL ret) B.pre
  have hl := lv_entry av (n := nL) hlen
  rw [lg_entry_eq]
  generalize (lg_sl av ++ List.replicate (nL - (lg_sl av).length) Slot.unset).toArray = ls at hl ⊢
  exact body p e s m below meth c ⟨B.exec, B.bytes, hml, findClass_of_methodNamed B.named, fun w hw => hts w (List.mem_cons_of_mem _ hw)⟩ B.returns B.notSynchronized hK hP ls hl
theorem roL_of {l : Launch} {y : MethodName} {cc : ByteArray} {nL : Nat} {ret : Option FieldType} {rm : Room} {D : va_G} {ty : List (ClassId × FieldType)} {wf : σ → va_W} {av : List Value} {st : σ} {Q : Int64 → Prop} (hy : plainName y.cls = true) (hlen : (lg_sl av).length ≤ nL)
    (body : ∀ (p : Program) (e : Env) (s : State) (m : MethodId) (below : List Frame) (meth : Method) (c : Code), CallFix p m c cc nL s av.toArray gtbl y.cls → meth.sig.returnType = ret → meth.locks = false → gK D ty s → va_P D classes (wf st) s.heap →
      ∀ ls : Array Slot, lv_has ls nL (lv_args 0 av) → W p l e rm s m av.toArray below meth c s.heap [] 0 0 (qRL Q below av.toArray s) (F0 m 0 ls [])) : roL l y (wsOf y cc nL ret) rm D ty wf av st Q := by
  refine Met.ofW (cc := cc) (maxL := nL) (ret := ret) hy rfl ?_
  intro p e s m args below meth c s₁ B hml hv
  obtain ⟨rfl, hP, hK⟩ := hv
  have hts := atoms_spec (ws := wsOf y cc nL ret) B.pre
  have hl := lv_entry av (n := nL) hlen
  rw [lg_entry_eq]
  generalize (lg_sl av ++ List.replicate (nL - (lg_sl av).length) Slot.unset).toArray = ls at hl ⊢
  exact body p e s m below meth c ⟨B.exec, B.bytes, hml, findClass_of_methodNamed B.named, fun w hw => hts w (List.mem_cons_of_mem _ hw)⟩ B.returns B.notSynchronized hK hP ls hl
variable {p : Program} {l : Launch} {e : Env} {R : Room} {s : State} {m : MethodId} {args : Array Value} {below : List Frame} {meth : Method} {c : Code} {H : Heap} {locs : List Loc} {Q : State → Prop} {cc : ByteArray} {nL pc : Nat} {ls : Array Slot} {own : String} {D : va_G} {ty : List (ClassId × FieldType)} {A : Nat → Prop} {wf : σ → va_W} {st : σ} {F : τ → σ}
theorem ret_rwi {u : τ} {v : Int32} {Q0 : Int32 → τ → Prop} {Ts : List Cond} (S : CallFix p m c cc nL s args Ts own) (hr : meth.sig.returnType = some .int) (hlk : meth.locks = false) (hK : gK D ty s) (I : gIn D A s wf (F u) H locs) (h : Q0 v u) (d : decode cc pc = .ok (.ireturn, 1)) : W p l e R s m args below meth c H locs 0 0 (qI D ty A wf F Q0 below args s) (F0 m pc ls [.int v]) :=
  W.iret S.1 S.2.1 hr (fun t ht hW => ⟨⟨v, u, rfl, h, by rw [ht]; exact I.1, hK.moved hW, I.2.1⟩, I.2.2.F ht⟩) I.2.2.2.2 d hlk
theorem ret_rwz {u : τ} {v : Int32} {Q0 : Int32 → τ → Prop} {Ts : List Cond} (S : CallFix p m c cc nL s args Ts own) (hr : meth.sig.returnType = some .boolean) (hlk : meth.locks = false) (hK : gK D ty s) (hn : narrow .boolean (.int v) = .int v) (I : gIn D A s wf (F u) H locs) (h : Q0 v u) (d : decode cc pc = .ok (.ireturn, 1)) : W p l e R s m args below meth c H locs 0 0 (qI D ty A wf F Q0 below args s) (F0 m pc ls [.int v]) :=
  W.zret S.1 S.2.1 hr hn (fun t ht hW => ⟨⟨v, u, rfl, h, by rw [ht]; exact I.1, hK.moved hW, I.2.1⟩, I.2.2.F ht⟩) I.2.2.2.2 d hlk
theorem ret_rwv {u : τ} {Q0 : τ → Prop} {Ts : List Cond} (S : CallFix p m c cc nL s args Ts own) (hr : meth.sig.returnType = none) (hlk : meth.locks = false) (hK : gK D ty s) (I : gIn D A s wf (F u) H locs) (h : Q0 u) (d : decode cc pc = .ok (.return_, 1)) : W p l e R s m args below meth c H locs 0 0 (qV D ty A wf F Q0 below args s) (F0 m pc ls []) :=
  W.vret S.1 S.2.1 hr (fun t ht hW => ⟨⟨u, rfl, h, by rw [ht]; exact I.1, hK.moved hW, I.2.1⟩, I.2.2.F ht⟩) I.2.2.2.2 d hlk
theorem ret_roi {v : Int32} {Q0 : Int32 → Prop} {Ts : List Cond} (S : CallFix p m c cc nL s args Ts own) (hr : meth.sig.returnType = some .int) (hlk : meth.locks = false) (h : Q0 v) (d : decode cc pc = .ok (.ireturn, 1)) : W p l e R s m args below meth c s.heap [] 0 0 (qRI Q0 below args s) (F0 m pc ls [.int v]) :=
  W.iret S.1 S.2.1 hr (fun t ht hW => ⟨v, rfl, h, ht⟩) (fun _ h => by cases h) d hlk
theorem ret_roz {v : Int32} {Q0 : Int32 → Prop} {Ts : List Cond} (S : CallFix p m c cc nL s args Ts own) (hr : meth.sig.returnType = some .boolean) (hlk : meth.locks = false) (hn : narrow .boolean (.int v) = .int v) (h : Q0 v) (d : decode cc pc = .ok (.ireturn, 1)) : W p l e R s m args below meth c s.heap [] 0 0 (qRI Q0 below args s) (F0 m pc ls [.int v]) :=
  W.zret S.1 S.2.1 hr hn (fun t ht hW => ⟨v, rfl, h, ht⟩) (fun _ h => by cases h) d hlk
theorem ret_rol {v : Int64} {Q0 : Int64 → Prop} {Ts : List Cond} (S : CallFix p m c cc nL s args Ts own) (hr : meth.sig.returnType = some .long) (hlk : meth.locks = false) (h : Q0 v) (d : decode cc pc = .ok (.lreturn, 1)) : W p l e R s m args below meth c s.heap [] 0 0 (qRL Q0 below args s) (F0 m pc ls [.long v]) :=
  W.lret S.1 S.2.1 hr (fun t ht hW => ⟨v, rfl, h, ht⟩) (fun _ h => by cases h) d hlk
variable {cells slots index n maxL : Nat} {y : MethodName} {bytes : ByteArray} {ret : Option FieldType} {rm : Room} {ws : List Cond} {b : Addr} {As rest st0 : List Value}
theorem gblind {sz : Nat} {av : List Value} : FrameBlind (gPre D ty wf st sz av) := fun a U g mk q => by
  obtain ⟨q0, q1, qP, qK, qD⟩ := q
  exact ⟨q0, q1, qP, gK.calling g mk a qK, qD⟩
theorem rblind {av : List Value} : FrameBlind (rPre D ty wf st av) := fun a U g mk q => by
  obtain ⟨q0, qP, qK⟩ := q
  exact ⟨q0, qP, gK.calling g mk a qK⟩
theorem gfree (hA : ∀ q : Nat, s.heap.size ≤ q → A q) (I : gIn D A s wf st H locs) : ∀ q, va_A (wf st) H.size q → A q := by
  intro q h
  rcases h with ⟨k, e9, h⟩ | h
  · exact I.2.1.2 k _ h
  · exact hA q (Nat.le_trans I.2.2.1 h)
theorem callV_roi {Q0 : Int32 → Prop} (S : CallFix p m c cc nL s args gtbl own) (hM : roI l y ws rm D ty wf (.ref b :: As) st Q0) (cw : CallW R s args own y.cls index y bytes maxL ret ws rm 0 0 n) (hv : ∃ cellB : Cell, H[b]? = some cellB ∧ cellB.vm.isStatics = false ∧ s.vm.findClass y.cls = some cellB.cls) (hK : gK D ty s) (hP : va_P D classes (wf st) H) (hls : ls.size = nL) (hn : As.length = n) (hst : st0 = As.reverse ++ .ref b :: rest) (hw : (rest.map fun v => v.category).sum ≤ 8) (hdg : decode cc pc = .ok (.invokevirtual index, 3)) (hf : cells ≤ R.cells ∧ slots ≤ R.slots)
    (kk : ∀ r : Int32, Q0 r → W p l e R s m args below meth c H locs cells slots Q (F0 m (pc + 3) ls (.int r :: rest))) : W p l e R s m args below meth c H locs cells slots Q (F0 m pc ls st0) :=
  vp_callSi (va_runV S hM cw ⟨rblind, hv, fun U hU hW => ⟨rfl, by rw [hU]; exact hP, hK.moved hW⟩⟩ rfl hn hls hst (lv_room hw) hdg hf).run kk
theorem callV_rol {Q0 : Int64 → Prop} (S : CallFix p m c cc nL s args gtbl own) (hM : roL l y ws rm D ty wf (.ref b :: As) st Q0) (cw : CallW R s args own y.cls index y bytes maxL ret ws rm 0 0 n) (hv : ∃ cellB : Cell, H[b]? = some cellB ∧ cellB.vm.isStatics = false ∧ s.vm.findClass y.cls = some cellB.cls) (hK : gK D ty s) (hP : va_P D classes (wf st) H) (hls : ls.size = nL) (hn : As.length = n) (hst : st0 = As.reverse ++ .ref b :: rest) (hw : (rest.map fun v => v.category).sum ≤ 8) (hdg : decode cc pc = .ok (.invokevirtual index, 3)) (hf : cells ≤ R.cells ∧ slots ≤ R.slots)
    (kk : ∀ r : Int64, Q0 r → W p l e R s m args below meth c H locs cells slots Q (F0 m (pc + 3) ls (.long r :: rest))) : W p l e R s m args below meth c H locs cells slots Q (F0 m pc ls st0) :=
  vp_callSl (va_runV S hM cw ⟨rblind, hv, fun U hU hW => ⟨rfl, by rw [hU]; exact hP, hK.moved hW⟩⟩ rfl hn hls hst (lv_room hw) hdg hf).run kk
theorem callS_roi {Q0 : Int32 → Prop} (S : CallFix p m c cc nL s args gtbl own) (hM : roI l y ws rm D ty wf As st Q0) (cw : CallB R s args own index y bytes maxL ret ws rm 0 0 n ∧ (Cond.static y).before args s = true) (hK : gK D ty s) (hP : va_P D classes (wf st) H) (hls : ls.size = nL) (hn : As.length = n) (hst : st0 = As.reverse ++ rest) (hw : (rest.map fun v => v.category).sum ≤ 8) (hdg : decode cc pc = .ok (.invokestatic index, 3)) (hf : cells ≤ R.cells ∧ slots ≤ R.slots)
    (kk : ∀ r : Int32, Q0 r → W p l e R s m args below meth c H locs cells slots Q (F0 m (pc + 3) ls (.int r :: rest))) : W p l e R s m args below meth c H locs cells slots Q (F0 m pc ls st0) :=
  vp_callSi (va_runS S hM cw ⟨rblind, fun U hU hW => ⟨rfl, by rw [hU]; exact hP, hK.moved hW⟩⟩ rfl hn hls hst (lv_room hw) hdg hf).run kk
theorem callV_rwi {Q0 : Int32 → τ → Prop} (S : CallFix p m c cc nL s args gtbl own) (hM : rwI l y ws rm D ty wf (.ref b :: As) st F Q0) (cw : CallW R s args own y.cls index y bytes maxL ret ws rm 0 0 n) (hv : ∃ cellB : Cell, H[b]? = some cellB ∧ cellB.vm.isStatics = false ∧ s.vm.findClass y.cls = some cellB.cls) (hK : gK D ty s) (hA : ∀ q : Nat, s.heap.size ≤ q → A q) (I : gIn D A s wf st H locs) (hls : ls.size = nL) (hn : As.length = n) (hst : st0 = As.reverse ++ .ref b :: rest) (hw : (rest.map fun v => v.category).sum ≤ 8) (hdg : decode cc pc = .ok (.invokevirtual index, 3)) (hf : cells ≤ R.cells ∧ slots ≤ R.slots)
    (kk : ∀ (r : Int32) (u : τ) (H1 : Heap) (locs1 : List Loc), Q0 r u → gIn D A s wf (F u) H1 locs1 → W p l e R s m args below meth c H1 locs1 cells slots Q (F0 m (pc + 3) ls (.int r :: rest))) : W p l e R s m args below meth c H locs cells slots Q (F0 m pc ls st0) :=
  va_calli (va_runV S (hM H.size) cw ⟨gblind, hv, fun U hU hW => ⟨rfl, by rw [hU], by rw [hU]; exact I.1, hK.moved hW, I.2.1.weaken (fun _ _ _ _ => trivial)⟩⟩ rfl hn hls hst (lv_room hw) hdg hf) I.2.2 (fun q _ h => gfree hA I q h) (gfree hA I) (fun r u t H1 locs1 ht hvm h hB hz hk hS => kk r u H1 locs1 h ⟨by rw [← ht]; exact hB.1, hB.2.2.weaken (fun _ q _ h9 => gfree hA I q.1 h9), hS⟩)
theorem callV_rwv {Q0 : τ → Prop} (S : CallFix p m c cc nL s args gtbl own) (hM : rwV l y ws rm D ty wf (.ref b :: As) st F Q0) (cw : CallW R s args own y.cls index y bytes maxL ret ws rm 0 0 n) (hv : ∃ cellB : Cell, H[b]? = some cellB ∧ cellB.vm.isStatics = false ∧ s.vm.findClass y.cls = some cellB.cls) (hK : gK D ty s) (hA : ∀ q : Nat, s.heap.size ≤ q → A q) (I : gIn D A s wf st H locs) (hls : ls.size = nL) (hn : As.length = n) (hst : st0 = As.reverse ++ .ref b :: rest) (hw : (rest.map fun v => v.category).sum ≤ 8) (hdg : decode cc pc = .ok (.invokevirtual index, 3)) (hf : cells ≤ R.cells ∧ slots ≤ R.slots)
    (kk : ∀ (u : τ) (H1 : Heap) (locs1 : List Loc), Q0 u → gIn D A s wf (F u) H1 locs1 → W p l e R s m args below meth c H1 locs1 cells slots Q (F0 m (pc + 3) ls rest)) : W p l e R s m args below meth c H locs cells slots Q (F0 m pc ls st0) :=
  va_callv (va_runV S (hM H.size) cw ⟨gblind, hv, fun U hU hW => ⟨rfl, by rw [hU], by rw [hU]; exact I.1, hK.moved hW, I.2.1.weaken (fun _ _ _ _ => trivial)⟩⟩ rfl hn hls hst (lv_room hw) hdg hf) I.2.2 (fun q _ h => gfree hA I q h) (gfree hA I) (fun u t H1 locs1 ht hvm h hB hz hk hS => kk u H1 locs1 h ⟨by rw [← ht]; exact hB.1, hB.2.2.weaken (fun _ q _ h9 => gfree hA I q.1 h9), hS⟩)
theorem callS_rwv {Q0 : τ → Prop} (S : CallFix p m c cc nL s args gtbl own) (hM : rwV l y ws rm D ty wf As st F Q0) (cw : CallB R s args own index y bytes maxL ret ws rm 0 0 n ∧ (Cond.static y).before args s = true) (hK : gK D ty s) (hA : ∀ q : Nat, s.heap.size ≤ q → A q) (I : gIn D A s wf st H locs) (hls : ls.size = nL) (hn : As.length = n) (hst : st0 = As.reverse ++ rest) (hw : (rest.map fun v => v.category).sum ≤ 8) (hdg : decode cc pc = .ok (.invokestatic index, 3)) (hf : cells ≤ R.cells ∧ slots ≤ R.slots)
    (kk : ∀ (u : τ) (H1 : Heap) (locs1 : List Loc), Q0 u → gIn D A s wf (F u) H1 locs1 → W p l e R s m args below meth c H1 locs1 cells slots Q (F0 m (pc + 3) ls rest)) : W p l e R s m args below meth c H locs cells slots Q (F0 m pc ls st0) :=
  va_callv (va_runS S (hM H.size) cw ⟨gblind, fun U hU hW => ⟨rfl, by rw [hU], by rw [hU]; exact I.1, hK.moved hW, I.2.1.weaken (fun _ _ _ _ => trivial)⟩⟩ rfl hn hls hst (lv_room hw) hdg hf) I.2.2 (fun q _ h => gfree hA I q h) (gfree hA I) (fun u t H1 locs1 ht hvm h hB hz hk hS => kk u H1 locs1 h ⟨by rw [← ht]; exact hB.1, hB.2.2.weaken (fun _ q _ h9 => gfree hA I q.1 h9), hS⟩)
theorem callS_rwi {Q0 : Int32 → τ → Prop} (S : CallFix p m c cc nL s args gtbl own) (hM : rwI l y ws rm D ty wf As st F Q0) (cw : CallB R s args own index y bytes maxL ret ws rm 0 0 n ∧ (Cond.static y).before args s = true) (hK : gK D ty s) (hA : ∀ q : Nat, s.heap.size ≤ q → A q) (I : gIn D A s wf st H locs) (hls : ls.size = nL) (hn : As.length = n) (hst : st0 = As.reverse ++ rest) (hw : (rest.map fun v => v.category).sum ≤ 8) (hdg : decode cc pc = .ok (.invokestatic index, 3)) (hf : cells ≤ R.cells ∧ slots ≤ R.slots)
    (kk : ∀ (r : Int32) (u : τ) (H1 : Heap) (locs1 : List Loc), Q0 r u → gIn D A s wf (F u) H1 locs1 → W p l e R s m args below meth c H1 locs1 cells slots Q (F0 m (pc + 3) ls (.int r :: rest))) : W p l e R s m args below meth c H locs cells slots Q (F0 m pc ls st0) :=
  va_calli (va_runS S (hM H.size) cw ⟨gblind, fun U hU hW => ⟨rfl, by rw [hU], by rw [hU]; exact I.1, hK.moved hW, I.2.1.weaken (fun _ _ _ _ => trivial)⟩⟩ rfl hn hls hst (lv_room hw) hdg hf) I.2.2 (fun q _ h => gfree hA I q h) (gfree hA I) (fun r u t H1 locs1 ht hvm h hB hz hk hS => kk r u H1 locs1 h ⟨by rw [← ht]; exact hB.1, hB.2.2.weaken (fun _ q _ h9 => gfree hA I q.1 h9), hS⟩)
theorem callSN_roi {host : String} {Q0 : Int32 → Prop} (S : CallFix p m c cc nL s args gtbl own) (hM : roI l y ws rm D ty wf As st Q0) (cw : va_CN R s args own index y host bytes maxL ret ws rm 0 0 n ∧ (Cond.static y).before args s = true ∧ True) (hK : gK D ty s) (hP : va_P D classes (wf st) H) (hls : ls.size = nL) (hn : As.length = n) (hst : st0 = As.reverse ++ rest) (hw : (rest.map fun v => v.category).sum ≤ 8) (hdg : decode cc pc = .ok (.invokestatic index, 3)) (hf : cells ≤ R.cells ∧ slots ≤ R.slots)
    (kk : ∀ r : Int32, Q0 r → W p l e R s m args below meth c H locs cells slots Q (F0 m (pc + 3) ls (.int r :: rest))) : W p l e R s m args below meth c H locs cells slots Q (F0 m pc ls st0) :=
  vp_callSi (va_runSN S hM cw ⟨rblind, fun U hU hW => ⟨rfl, by rw [hU]; exact hP, hK.moved hW⟩⟩ rfl hn hls hst (lv_room hw) hdg hf).run kk
end GW
theorem mkSN {R : Room} {s : State} {args : Array Value} {own host : String} {index : Nat} {y : MethodName} {b : ByteArray} {n k : Nat} {r : Option FieldType} {rm : Room} (hts : ∀ w ∈ gtbl, w.before args s = true) (hl : va_Nw (.methodLinkNest own index y host) s) (hk : kS y b n r k) (hrc : rm.cells = 0) (hrs : rm.slots = 0) (hR : rm.frames + 1 ≤ R.frames ∧ 8 + (n + 11) + rm.locals ≤ R.locals) : va_CN R s args own index y host b n r (wsOf y b n r) rm 0 0 k ∧ (Cond.static y).before args s = true ∧ True := by
  obtain ⟨h2, h4, h5, h6⟩ := hk
  exact ⟨va_cnB k hts (wsOf_good h5) rfl hrc hrs hl (hts _ h4) h6 hR, hts _ h2, trivial⟩
end
section
abbrev Te : Type := (Nat → Int32) × (Nat → Int32) × (Nat → Int32) × (Nat → Int32) × (Nat → Int32) × (Nat → Int32) × (Nat → Int32) × Int32
abbrev Te_places (t : Te) : (Nat → Int32) := t.1
abbrev Te_places_s (t : Te) (x : (Nat → Int32)) : Te := (x, t.2.1, t.2.2.1, t.2.2.2.1, t.2.2.2.2.1, t.2.2.2.2.2.1, t.2.2.2.2.2.2.1, t.2.2.2.2.2.2.2)
abbrev Te_symbol (t : Te) : (Nat → Int32) := t.2.1
abbrev Te_symbol_s (t : Te) (x : (Nat → Int32)) : Te := (t.1, x, t.2.2.1, t.2.2.2.1, t.2.2.2.2.1, t.2.2.2.2.2.1, t.2.2.2.2.2.2.1, t.2.2.2.2.2.2.2)
abbrev Te_first (t : Te) : (Nat → Int32) := t.2.2.1
abbrev Te_first_s (t : Te) (x : (Nat → Int32)) : Te := (t.1, t.2.1, x, t.2.2.2.1, t.2.2.2.2.1, t.2.2.2.2.2.1, t.2.2.2.2.2.2.1, t.2.2.2.2.2.2.2)
abbrev Te_second (t : Te) : (Nat → Int32) := t.2.2.2.1
abbrev Te_second_s (t : Te) (x : (Nat → Int32)) : Te := (t.1, t.2.1, t.2.2.1, x, t.2.2.2.2.1, t.2.2.2.2.2.1, t.2.2.2.2.2.2.1, t.2.2.2.2.2.2.2)
abbrev Te_size (t : Te) : (Nat → Int32) := t.2.2.2.2.1
abbrev Te_size_s (t : Te) (x : (Nat → Int32)) : Te := (t.1, t.2.1, t.2.2.1, t.2.2.2.1, x, t.2.2.2.2.2.1, t.2.2.2.2.2.2.1, t.2.2.2.2.2.2.2)
abbrev Te_newestIn (t : Te) : (Nat → Int32) := t.2.2.2.2.2.1
abbrev Te_newestIn_s (t : Te) (x : (Nat → Int32)) : Te := (t.1, t.2.1, t.2.2.1, t.2.2.2.1, t.2.2.2.2.1, x, t.2.2.2.2.2.2.1, t.2.2.2.2.2.2.2)
abbrev Te_olderInBucket (t : Te) : (Nat → Int32) := t.2.2.2.2.2.2.1
abbrev Te_olderInBucket_s (t : Te) (x : (Nat → Int32)) : Te := (t.1, t.2.1, t.2.2.1, t.2.2.2.1, t.2.2.2.2.1, t.2.2.2.2.2.1, x, t.2.2.2.2.2.2.2)
abbrev Te_count (t : Te) : Int32 := t.2.2.2.2.2.2.2
abbrev Te_count_s (t : Te) (x : Int32) : Te := (t.1, t.2.1, t.2.2.1, t.2.2.2.1, t.2.2.2.2.1, t.2.2.2.2.2.1, t.2.2.2.2.2.2.1, x)
abbrev Ru : Type := (Nat → Int32) × (Nat → Int32) × Int32 × Int32
abbrev Ru_left (t : Ru) : (Nat → Int32) := t.1
abbrev Ru_left_s (t : Ru) (x : (Nat → Int32)) : Ru := (x, t.2.1, t.2.2.1, t.2.2.2)
abbrev Ru_right (t : Ru) : (Nat → Int32) := t.2.1
abbrev Ru_right_s (t : Ru) (x : (Nat → Int32)) : Ru := (t.1, x, t.2.2.1, t.2.2.2)
abbrev Ru_count (t : Ru) : Int32 := t.2.2.1
abbrev Ru_count_s (t : Ru) (x : Int32) : Ru := (t.1, t.2.1, x, t.2.2.2)
abbrev Ru_changes (t : Ru) : Int32 := t.2.2.2
abbrev Ru_changes_s (t : Ru) (x : Int32) : Ru := (t.1, t.2.1, t.2.2.1, x)
abbrev Au : Type := (Nat → Int32) × (Nat → Int32) × (Nat → Int32) × (Nat → Int32) × (Nat → Int32) × Int32 × Int32
abbrev Au_symbol (t : Au) : (Nat → Int32) := t.1
abbrev Au_symbol_s (t : Au) (x : (Nat → Int32)) : Au := (x, t.2.1, t.2.2.1, t.2.2.2.1, t.2.2.2.2.1, t.2.2.2.2.2.1, t.2.2.2.2.2.2)
abbrev Au_first (t : Au) : (Nat → Int32) := t.2.1
abbrev Au_first_s (t : Au) (x : (Nat → Int32)) : Au := (t.1, x, t.2.2.1, t.2.2.2.1, t.2.2.2.2.1, t.2.2.2.2.2.1, t.2.2.2.2.2.2)
abbrev Au_second (t : Au) : (Nat → Int32) := t.2.2.1
abbrev Au_second_s (t : Au) (x : (Nat → Int32)) : Au := (t.1, t.2.1, x, t.2.2.2.1, t.2.2.2.2.1, t.2.2.2.2.2.1, t.2.2.2.2.2.2)
abbrev Au_target (t : Au) : (Nat → Int32) := t.2.2.2.1
abbrev Au_target_s (t : Au) (x : (Nat → Int32)) : Au := (t.1, t.2.1, t.2.2.1, x, t.2.2.2.2.1, t.2.2.2.2.2.1, t.2.2.2.2.2.2)
abbrev Au_weight (t : Au) : (Nat → Int32) := t.2.2.2.2.1
abbrev Au_weight_s (t : Au) (x : (Nat → Int32)) : Au := (t.1, t.2.1, t.2.2.1, t.2.2.2.1, x, t.2.2.2.2.2.1, t.2.2.2.2.2.2)
abbrev Au_count (t : Au) : Int32 := t.2.2.2.2.2.1
abbrev Au_count_s (t : Au) (x : Int32) : Au := (t.1, t.2.1, t.2.2.1, t.2.2.2.1, t.2.2.2.2.1, x, t.2.2.2.2.2.2)
abbrev Au_finals (t : Au) : Int32 := t.2.2.2.2.2.2
abbrev Au_finals_s (t : Au) (x : Int32) : Au := (t.1, t.2.1, t.2.2.1, t.2.2.2.1, t.2.2.2.2.1, t.2.2.2.2.2.1, x)
abbrev Re : Type := (Nat → Int64) × (Nat → Int64) × (Nat → Int32) × Int32 × Int32 × Int32
abbrev Re_reached (t : Re) : (Nat → Int64) := t.1
abbrev Re_reached_s (t : Re) (x : (Nat → Int64)) : Re := (x, t.2.1, t.2.2.1, t.2.2.2.1, t.2.2.2.2.1, t.2.2.2.2.2)
abbrev Re_joined (t : Re) : (Nat → Int64) := t.2.1
abbrev Re_joined_s (t : Re) (x : (Nat → Int64)) : Re := (t.1, x, t.2.2.1, t.2.2.2.1, t.2.2.2.2.1, t.2.2.2.2.2)
abbrev Re_least (t : Re) : (Nat → Int32) := t.2.2.1
abbrev Re_least_s (t : Re) (x : (Nat → Int32)) : Re := (t.1, t.2.1, x, t.2.2.2.1, t.2.2.2.2.1, t.2.2.2.2.2)
abbrev Re_termsThen (t : Re) : Int32 := t.2.2.2.1
abbrev Re_termsThen_s (t : Re) (x : Int32) : Re := (t.1, t.2.1, t.2.2.1, x, t.2.2.2.2.1, t.2.2.2.2.2)
abbrev Re_changesThen (t : Re) : Int32 := t.2.2.2.2.1
abbrev Re_changesThen_s (t : Re) (x : Int32) : Re := (t.1, t.2.1, t.2.2.1, t.2.2.2.1, x, t.2.2.2.2.2)
abbrev Re_joinedKnown (t : Re) : Int32 := t.2.2.2.2.2
abbrev Re_joinedKnown_s (t : Re) (x : Int32) : Re := (t.1, t.2.1, t.2.2.1, t.2.2.2.1, t.2.2.2.2.1, x)
abbrev La : Type := (Nat → Int32)
abbrev La_states (t : La) : (Nat → Int32) := t
abbrev La_states_s (t : La) (x : (Nat → Int32)) : La := x
abbrev Sp : Type := (Nat → Int64) × (Nat → Int32) × (Nat → Int32)
abbrev Sp_counts (t : Sp) : (Nat → Int64) := t.1
abbrev Sp_counts_s (t : Sp) (x : (Nat → Int64)) : Sp := (x, t.2.1, t.2.2)
abbrev Sp_path (t : Sp) : (Nat → Int32) := t.2.1
abbrev Sp_path_s (t : Sp) (x : (Nat → Int32)) : Sp := (t.1, x, t.2.2)
abbrev Sp_wentFirst (t : Sp) : (Nat → Int32) := t.2.2
abbrev Sp_wentFirst_s (t : Sp) (x : (Nat → Int32)) : Sp := (t.1, t.2.1, x)
abbrev Le : Type := (Nat → Int64) × (Nat → Int32) × (Nat → Int32) × (Nat → Int64) × (Nat → Int64) × (Nat → Int64) × (Nat → Int32) × Int32
abbrev Le_after (t : Le) : (Nat → Int64) := t.1
abbrev Le_after_s (t : Le) (x : (Nat → Int64)) : Le := (x, t.2.1, t.2.2.1, t.2.2.2.1, t.2.2.2.2.1, t.2.2.2.2.2.1, t.2.2.2.2.2.2.1, t.2.2.2.2.2.2.2)
abbrev Le_counted (t : Le) : (Nat → Int32) := t.2.1
abbrev Le_counted_s (t : Le) (x : (Nat → Int32)) : Le := (t.1, x, t.2.2.1, t.2.2.2.1, t.2.2.2.2.1, t.2.2.2.2.2.1, t.2.2.2.2.2.2.1, t.2.2.2.2.2.2.2)
abbrev Le_expanded (t : Le) : (Nat → Int32) := t.2.2.1
abbrev Le_expanded_s (t : Le) (x : (Nat → Int32)) : Le := (t.1, t.2.1, x, t.2.2.2.1, t.2.2.2.2.1, t.2.2.2.2.2.1, t.2.2.2.2.2.2.1, t.2.2.2.2.2.2.2)
abbrev Le_inLevels (t : Le) : (Nat → Int64) := t.2.2.2.1
abbrev Le_inLevels_s (t : Le) (x : (Nat → Int64)) : Le := (t.1, t.2.1, t.2.2.1, x, t.2.2.2.2.1, t.2.2.2.2.2.1, t.2.2.2.2.2.2.1, t.2.2.2.2.2.2.2)
abbrev Le_newest (t : Le) : (Nat → Int64) := t.2.2.2.2.1
abbrev Le_newest_s (t : Le) (x : (Nat → Int64)) : Le := (t.1, t.2.1, t.2.2.1, t.2.2.2.1, x, t.2.2.2.2.2.1, t.2.2.2.2.2.2.1, t.2.2.2.2.2.2.2)
abbrev Le_coming (t : Le) : (Nat → Int64) := t.2.2.2.2.2.1
abbrev Le_coming_s (t : Le) (x : (Nat → Int64)) : Le := (t.1, t.2.1, t.2.2.1, t.2.2.2.1, t.2.2.2.2.1, x, t.2.2.2.2.2.2.1, t.2.2.2.2.2.2.2)
abbrev Le_waiting (t : Le) : (Nat → Int32) := t.2.2.2.2.2.2.1
abbrev Le_waiting_s (t : Le) (x : (Nat → Int32)) : Le := (t.1, t.2.1, t.2.2.1, t.2.2.2.1, t.2.2.2.2.1, t.2.2.2.2.2.1, x, t.2.2.2.2.2.2.2)
abbrev Le_countedTerms (t : Le) : Int32 := t.2.2.2.2.2.2.2
abbrev Le_countedTerms_s (t : Le) (x : Int32) : Le := (t.1, t.2.1, t.2.2.1, t.2.2.2.1, t.2.2.2.2.1, t.2.2.2.2.2.1, t.2.2.2.2.2.2.1, x)
abbrev StC : Type := Te × Ru × Au × Re × La × Sp × Le
def wC (ad : Nat → Nat) (cA : ClassId × ClassId × ClassId) (st : StC) : va_W := [(ad 0, .inr (0, [.ref (ad 1), .ref (ad 9), .ref (ad 12), .ref (ad 18), .ref (ad 22), .ref (ad 24), .ref (ad 28)])),
  (ad 1, .inr (1, [.ref (ad 2), .ref (ad 3), .ref (ad 4), .ref (ad 5), .ref (ad 6), .ref (ad 7), .ref (ad 8), .int (Te_count st.1)])),
  (ad 2, .inl (cA.1, 6, .inl (Te_places st.1))),
  (ad 3, .inl (cA.1, 448, .inl (Te_symbol st.1))),
  (ad 4, .inl (cA.1, 448, .inl (Te_first st.1))),
  (ad 5, .inl (cA.1, 448, .inl (Te_second st.1))),
  (ad 6, .inl (cA.1, 448, .inl (Te_size st.1))),
  (ad 7, .inl (cA.1, 256, .inl (Te_newestIn st.1))),
  (ad 8, .inl (cA.1, 448, .inl (Te_olderInBucket st.1))),
  (ad 9, .inr (2, [.ref (ad 10), .ref (ad 11), .int (Ru_count st.2.1), .int (Ru_changes st.2.1)])),
  (ad 10, .inl (cA.1, 8, .inl (Ru_left st.2.1))),
  (ad 11, .inl (cA.1, 8, .inl (Ru_right st.2.1))),
  (ad 12, .inr (3, [.ref (ad 1), .ref (ad 13), .ref (ad 14), .ref (ad 15), .ref (ad 16), .ref (ad 17), .int (Au_count st.2.2.1), .int (Au_finals st.2.2.1)])),
  (ad 13, .inl (cA.1, 20, .inl (Au_symbol st.2.2.1))),
  (ad 14, .inl (cA.1, 20, .inl (Au_first st.2.2.1))),
  (ad 15, .inl (cA.1, 20, .inl (Au_second st.2.2.1))),
  (ad 16, .inl (cA.1, 20, .inl (Au_target st.2.2.1))),
  (ad 17, .inl (cA.1, 6, .inl (Au_weight st.2.2.1))),
  (ad 18, .inr (4, [.ref (ad 1), .ref (ad 9), .ref (ad 19), .ref (ad 20), .ref (ad 21), .int (Re_termsThen st.2.2.2.1), .int (Re_changesThen st.2.2.2.1), .int (Re_joinedKnown st.2.2.2.1)])),
  (ad 19, .inl (cA.2.1, 48, .inr (.inl (Re_reached st.2.2.2.1)))),
  (ad 20, .inl (cA.2.1, 48, .inr (.inl (Re_joined st.2.2.2.1)))),
  (ad 21, .inl (cA.1, 48, .inl (Re_least st.2.2.2.1))),
  (ad 22, .inr (5, [.ref (ad 1), .ref (ad 12), .ref (ad 18), .ref (ad 23)])),
  (ad 23, .inl (cA.1, 48, .inl (La_states st.2.2.2.2.1))),
  (ad 24, .inr (6, [.ref (ad 1), .ref (ad 9), .ref (ad 25), .ref (ad 26), .ref (ad 27)])),
  (ad 25, .inl (cA.2.1, 48, .inr (.inl (Sp_counts st.2.2.2.2.2.1)))),
  (ad 26, .inl (cA.1, 48, .inl (Sp_path st.2.2.2.2.2.1))),
  (ad 27, .inl (cA.2.2, 48, .inl (Sp_wentFirst st.2.2.2.2.2.1))),
  (ad 28, .inr (7, [.ref (ad 1), .ref (ad 9), .ref (ad 29), .ref (ad 30), .ref (ad 31), .ref (ad 32), .ref (ad 33), .ref (ad 34), .ref (ad 35), .int (Le_countedTerms st.2.2.2.2.2.2)])),
  (ad 29, .inl (cA.2.1, 3136, .inr (.inl (Le_after st.2.2.2.2.2.2)))),
  (ad 30, .inl (cA.2.2, 448, .inl (Le_counted st.2.2.2.2.2.2))),
  (ad 31, .inl (cA.2.2, 448, .inl (Le_expanded st.2.2.2.2.2.2))),
  (ad 32, .inl (cA.2.1, 7, .inr (.inl (Le_inLevels st.2.2.2.2.2.2)))),
  (ad 33, .inl (cA.2.1, 7, .inr (.inl (Le_newest st.2.2.2.2.2.2)))),
  (ad 34, .inl (cA.2.1, 7, .inr (.inl (Le_coming st.2.2.2.2.2.2)))),
  (ad 35, .inl (cA.1, 448, .inl (Le_waiting st.2.2.2.2.2.2)))]
section
variable {p : Program} {l : Launch} {e : Env} {R : Room} {s : State} {m : MethodId} {args : Array Value} {below : List Frame} {meth : Method} {c : Code} {H : Heap} {locs : List Loc} {cells slots : Nat} {Q : State → Prop} {cc : ByteArray} {nL pc : Nat} {ls : Array Slot} {rest : List Value} {own : String} {D : va_G} {A : Nat → Prop} {ad : Nat → Nat} {cA : ClassId × ClassId × ClassId} {te : Te} {ru : Ru} {au : Au} {re : Re} {la : La} {sp : Sp} {le : Le}
theorem g_Gr_terms (S : CallFix p m c cc nL s args gtbl R_Gr) (hK : gK D (tyA cA) s) (hP : va_P D classes (wC ad cA (te, ru, au, re, la, sp, le)) H) (hdg : decode cc pc = .ok (.getfield 14, 3)) (kk : W p l e R s m args below meth c H locs cells slots Q (F0 m (pc + 3) ls (.ref (ad 1) :: rest))) : W p l e R s m args below meth c H locs cells slots Q (F0 m pc ls (.ref (ad 0) :: rest)) :=
  va_get (D := D) (ci := 0) (v := .ref (ad 1)) (C := R_Gr) (T := F_Gr) (N := 7) S.1 S.2.1 S.2.2.2.2 u_Gr S.2.2.2.1 hK.1 hP 0 rfl rfl 0 (by decide) (S.2.2.2.2 _ fl_Gr_terms) (fun _ h => h) rfl hdg kk
theorem g_Gr_rules (S : CallFix p m c cc nL s args gtbl R_Gr) (hK : gK D (tyA cA) s) (hP : va_P D classes (wC ad cA (te, ru, au, re, la, sp, le)) H) (hdg : decode cc pc = .ok (.getfield 21, 3)) (kk : W p l e R s m args below meth c H locs cells slots Q (F0 m (pc + 3) ls (.ref (ad 9) :: rest))) : W p l e R s m args below meth c H locs cells slots Q (F0 m pc ls (.ref (ad 0) :: rest)) :=
  va_get (D := D) (ci := 0) (v := .ref (ad 9)) (C := R_Gr) (T := F_Gr) (N := 7) S.1 S.2.1 S.2.2.2.2 u_Gr S.2.2.2.1 hK.1 hP 0 rfl rfl 1 (by decide) (S.2.2.2.2 _ fl_Gr_rules) (fun _ h => h) rfl hdg kk
theorem g_Gr_automaton (S : CallFix p m c cc nL s args gtbl R_Gr) (hK : gK D (tyA cA) s) (hP : va_P D classes (wC ad cA (te, ru, au, re, la, sp, le)) H) (hdg : decode cc pc = .ok (.getfield 30, 3)) (kk : W p l e R s m args below meth c H locs cells slots Q (F0 m (pc + 3) ls (.ref (ad 12) :: rest))) : W p l e R s m args below meth c H locs cells slots Q (F0 m pc ls (.ref (ad 0) :: rest)) :=
  va_get (D := D) (ci := 0) (v := .ref (ad 12)) (C := R_Gr) (T := F_Gr) (N := 7) S.1 S.2.1 S.2.2.2.2 u_Gr S.2.2.2.1 hK.1 hP 0 rfl rfl 2 (by decide) (S.2.2.2.2 _ fl_Gr_automaton) (fun _ h => h) rfl hdg kk
theorem g_Gr_relations (S : CallFix p m c cc nL s args gtbl R_Gr) (hK : gK D (tyA cA) s) (hP : va_P D classes (wC ad cA (te, ru, au, re, la, sp, le)) H) (hdg : decode cc pc = .ok (.getfield 39, 3)) (kk : W p l e R s m args below meth c H locs cells slots Q (F0 m (pc + 3) ls (.ref (ad 18) :: rest))) : W p l e R s m args below meth c H locs cells slots Q (F0 m pc ls (.ref (ad 0) :: rest)) :=
  va_get (D := D) (ci := 0) (v := .ref (ad 18)) (C := R_Gr) (T := F_Gr) (N := 7) S.1 S.2.1 S.2.2.2.2 u_Gr S.2.2.2.1 hK.1 hP 0 rfl rfl 3 (by decide) (S.2.2.2.2 _ fl_Gr_relations) (fun _ h => h) rfl hdg kk
theorem g_Gr_languages (S : CallFix p m c cc nL s args gtbl R_Gr) (hK : gK D (tyA cA) s) (hP : va_P D classes (wC ad cA (te, ru, au, re, la, sp, le)) H) (hdg : decode cc pc = .ok (.getfield 48, 3)) (kk : W p l e R s m args below meth c H locs cells slots Q (F0 m (pc + 3) ls (.ref (ad 22) :: rest))) : W p l e R s m args below meth c H locs cells slots Q (F0 m pc ls (.ref (ad 0) :: rest)) :=
  va_get (D := D) (ci := 0) (v := .ref (ad 22)) (C := R_Gr) (T := F_Gr) (N := 7) S.1 S.2.1 S.2.2.2.2 u_Gr S.2.2.2.1 hK.1 hP 0 rfl rfl 4 (by decide) (S.2.2.2.2 _ fl_Gr_languages) (fun _ h => h) rfl hdg kk
theorem g_Gr_steps (S : CallFix p m c cc nL s args gtbl R_Gr) (hK : gK D (tyA cA) s) (hP : va_P D classes (wC ad cA (te, ru, au, re, la, sp, le)) H) (hdg : decode cc pc = .ok (.getfield 55, 3)) (kk : W p l e R s m args below meth c H locs cells slots Q (F0 m (pc + 3) ls (.ref (ad 24) :: rest))) : W p l e R s m args below meth c H locs cells slots Q (F0 m pc ls (.ref (ad 0) :: rest)) :=
  va_get (D := D) (ci := 0) (v := .ref (ad 24)) (C := R_Gr) (T := F_Gr) (N := 7) S.1 S.2.1 S.2.2.2.2 u_Gr S.2.2.2.1 hK.1 hP 0 rfl rfl 5 (by decide) (S.2.2.2.2 _ fl_Gr_steps) (fun _ h => h) rfl hdg kk
theorem g_Gr_levels (S : CallFix p m c cc nL s args gtbl R_Gr) (hK : gK D (tyA cA) s) (hP : va_P D classes (wC ad cA (te, ru, au, re, la, sp, le)) H) (hdg : decode cc pc = .ok (.getfield 62, 3)) (kk : W p l e R s m args below meth c H locs cells slots Q (F0 m (pc + 3) ls (.ref (ad 28) :: rest))) : W p l e R s m args below meth c H locs cells slots Q (F0 m pc ls (.ref (ad 0) :: rest)) :=
  va_get (D := D) (ci := 0) (v := .ref (ad 28)) (C := R_Gr) (T := F_Gr) (N := 7) S.1 S.2.1 S.2.2.2.2 u_Gr S.2.2.2.1 hK.1 hP 0 rfl rfl 6 (by decide) (S.2.2.2.2 _ fl_Gr_levels) (fun _ h => h) rfl hdg kk
theorem g_Te_places (S : CallFix p m c cc nL s args gtbl R_Te) (hK : gK D (tyA cA) s) (hP : va_P D classes (wC ad cA (te, ru, au, re, la, sp, le)) H) (hdg : decode cc pc = .ok (.getfield 9, 3)) (kk : W p l e R s m args below meth c H locs cells slots Q (F0 m (pc + 3) ls (.ref (ad 2) :: rest))) : W p l e R s m args below meth c H locs cells slots Q (F0 m pc ls (.ref (ad 1) :: rest)) :=
  va_get (D := D) (ci := 1) (v := .ref (ad 2)) (C := R_Te) (T := F_Te) (N := 8) S.1 S.2.1 S.2.2.2.2 u_Te S.2.2.2.1 hK.1 hP 1 rfl rfl 0 (by decide) (S.2.2.2.2 _ fl_Te_places) (fun _ h => h) rfl hdg kk
theorem g_Te_symbol (S : CallFix p m c cc nL s args gtbl R_Te) (hK : gK D (tyA cA) s) (hP : va_P D classes (wC ad cA (te, ru, au, re, la, sp, le)) H) (hdg : decode cc pc = .ok (.getfield 15, 3)) (kk : W p l e R s m args below meth c H locs cells slots Q (F0 m (pc + 3) ls (.ref (ad 3) :: rest))) : W p l e R s m args below meth c H locs cells slots Q (F0 m pc ls (.ref (ad 1) :: rest)) :=
  va_get (D := D) (ci := 1) (v := .ref (ad 3)) (C := R_Te) (T := F_Te) (N := 8) S.1 S.2.1 S.2.2.2.2 u_Te S.2.2.2.1 hK.1 hP 1 rfl rfl 1 (by decide) (S.2.2.2.2 _ fl_Te_symbol) (fun _ h => h) rfl hdg kk
theorem g_Te_first (S : CallFix p m c cc nL s args gtbl R_Te) (hK : gK D (tyA cA) s) (hP : va_P D classes (wC ad cA (te, ru, au, re, la, sp, le)) H) (hdg : decode cc pc = .ok (.getfield 18, 3)) (kk : W p l e R s m args below meth c H locs cells slots Q (F0 m (pc + 3) ls (.ref (ad 4) :: rest))) : W p l e R s m args below meth c H locs cells slots Q (F0 m pc ls (.ref (ad 1) :: rest)) :=
  va_get (D := D) (ci := 1) (v := .ref (ad 4)) (C := R_Te) (T := F_Te) (N := 8) S.1 S.2.1 S.2.2.2.2 u_Te S.2.2.2.1 hK.1 hP 1 rfl rfl 2 (by decide) (S.2.2.2.2 _ fl_Te_first) (fun _ h => h) rfl hdg kk
theorem g_Te_second (S : CallFix p m c cc nL s args gtbl R_Te) (hK : gK D (tyA cA) s) (hP : va_P D classes (wC ad cA (te, ru, au, re, la, sp, le)) H) (hdg : decode cc pc = .ok (.getfield 21, 3)) (kk : W p l e R s m args below meth c H locs cells slots Q (F0 m (pc + 3) ls (.ref (ad 5) :: rest))) : W p l e R s m args below meth c H locs cells slots Q (F0 m pc ls (.ref (ad 1) :: rest)) :=
  va_get (D := D) (ci := 1) (v := .ref (ad 5)) (C := R_Te) (T := F_Te) (N := 8) S.1 S.2.1 S.2.2.2.2 u_Te S.2.2.2.1 hK.1 hP 1 rfl rfl 3 (by decide) (S.2.2.2.2 _ fl_Te_second) (fun _ h => h) rfl hdg kk
theorem g_Te_size (S : CallFix p m c cc nL s args gtbl R_Te) (hK : gK D (tyA cA) s) (hP : va_P D classes (wC ad cA (te, ru, au, re, la, sp, le)) H) (hdg : decode cc pc = .ok (.getfield 24, 3)) (kk : W p l e R s m args below meth c H locs cells slots Q (F0 m (pc + 3) ls (.ref (ad 6) :: rest))) : W p l e R s m args below meth c H locs cells slots Q (F0 m pc ls (.ref (ad 1) :: rest)) :=
  va_get (D := D) (ci := 1) (v := .ref (ad 6)) (C := R_Te) (T := F_Te) (N := 8) S.1 S.2.1 S.2.2.2.2 u_Te S.2.2.2.1 hK.1 hP 1 rfl rfl 4 (by decide) (S.2.2.2.2 _ fl_Te_size) (fun _ h => h) rfl hdg kk
theorem g_Te_newestIn (S : CallFix p m c cc nL s args gtbl R_Te) (hK : gK D (tyA cA) s) (hP : va_P D classes (wC ad cA (te, ru, au, re, la, sp, le)) H) (hdg : decode cc pc = .ok (.getfield 27, 3)) (kk : W p l e R s m args below meth c H locs cells slots Q (F0 m (pc + 3) ls (.ref (ad 7) :: rest))) : W p l e R s m args below meth c H locs cells slots Q (F0 m pc ls (.ref (ad 1) :: rest)) :=
  va_get (D := D) (ci := 1) (v := .ref (ad 7)) (C := R_Te) (T := F_Te) (N := 8) S.1 S.2.1 S.2.2.2.2 u_Te S.2.2.2.1 hK.1 hP 1 rfl rfl 5 (by decide) (S.2.2.2.2 _ fl_Te_newestIn) (fun _ h => h) rfl hdg kk
theorem g_Te_olderInBucket (S : CallFix p m c cc nL s args gtbl R_Te) (hK : gK D (tyA cA) s) (hP : va_P D classes (wC ad cA (te, ru, au, re, la, sp, le)) H) (hdg : decode cc pc = .ok (.getfield 30, 3)) (kk : W p l e R s m args below meth c H locs cells slots Q (F0 m (pc + 3) ls (.ref (ad 8) :: rest))) : W p l e R s m args below meth c H locs cells slots Q (F0 m pc ls (.ref (ad 1) :: rest)) :=
  va_get (D := D) (ci := 1) (v := .ref (ad 8)) (C := R_Te) (T := F_Te) (N := 8) S.1 S.2.1 S.2.2.2.2 u_Te S.2.2.2.1 hK.1 hP 1 rfl rfl 6 (by decide) (S.2.2.2.2 _ fl_Te_olderInBucket) (fun _ h => h) rfl hdg kk
theorem g_Te_count (S : CallFix p m c cc nL s args gtbl R_Te) (hK : gK D (tyA cA) s) (hP : va_P D classes (wC ad cA (te, ru, au, re, la, sp, le)) H) (hdg : decode cc pc = .ok (.getfield 45, 3)) (kk : W p l e R s m args below meth c H locs cells slots Q (F0 m (pc + 3) ls (.int (Te_count te) :: rest))) : W p l e R s m args below meth c H locs cells slots Q (F0 m pc ls (.ref (ad 1) :: rest)) :=
  va_get (D := D) (ci := 1) (v := .int (Te_count te)) (C := R_Te) (T := F_Te) (N := 8) S.1 S.2.1 S.2.2.2.2 u_Te S.2.2.2.1 hK.1 hP 1 rfl rfl 7 (by decide) (S.2.2.2.2 _ fl_Te_count) (fun _ h => h) rfl hdg kk
theorem q_Te_count (S : CallFix p m c cc nL s args gtbl R_Te) (hK : gK D (tyA cA) s) (I : gIn D A s (wC ad cA) (te, ru, au, re, la, sp, le) H locs) {v : Int32} (hdg : decode cc pc = .ok (.putfield 45, 3)) (kk : ∀ (H1 : Heap) (locs1 : List Loc) (z : Te), z = Te_count_s te v → gIn D A s (wC ad cA) (z, ru, au, re, la, sp, le) H1 locs1 → W p l e R s m args below meth c H1 locs1 cells slots Q (F0 m (pc + 3) ls rest)) : W p l e R s m args below meth c H locs cells slots Q (F0 m pc ls (.int v :: .ref (ad 1) :: rest)) :=
  va_put (D := D) (ci := 1) (v := .int v) (ty := .int) (C := R_Te) (T := F_Te) (N := 8) S.1 S.2.1 S.2.2.2.2 u_Te t_Te t_Te_ok n_Te S.2.2.2.1 hK.1 I.1 I.2.1 I.2.2 1 rfl rfl 7 (by decide) (S.2.2.2.2 _ fl_Te_count) (fun _ h => h) rfl (by decide +kernel) rfl rfl (Nat.le_of_ble_eq_true rfl) hdg (fun H1 locs1 a b d => kk H1 locs1 _ rfl ⟨a, b, d⟩)
theorem a_Te_places (S : CallFix p m c cc nL s args gtbl own) (hK : gK D (tyA cA) s) (hP : va_P D classes (wC ad cA (te, ru, au, re, la, sp, le)) H) {i : Int32} (hin : vp_in i 6) (hdg : decode cc pc = .ok (.iaload, 1)) (kk : W p l e R s m args below meth c H locs cells slots Q (F0 m (pc + 1) ls (.int (Te_places te i.toNatClampNeg) :: rest))) : W p l e R s m args below meth c H locs cells slots Q (F0 m pc ls (.int i :: .ref (ad 2) :: rest)) :=
  va_iald S.1 S.2.1 hK.1 hP 2 0 rfl rfl hin hdg kk
theorem s_Te_places (S : CallFix p m c cc nL s args gtbl own) (hK : gK D (tyA cA) s) (I : gIn D A s (wC ad cA) (te, ru, au, re, la, sp, le) H locs) {i : Int32} {x : Int32} (hin : vp_in i 6) (hdg : decode cc pc = .ok (.iastore, 1)) (kk : ∀ (H1 : Heap) (locs1 : List Loc) (z : Te), z = Te_places_s te (upd (Te_places te) i.toNatClampNeg x) → gIn D A s (wC ad cA) (z, ru, au, re, la, sp, le) H1 locs1 → W p l e R s m args below meth c H1 locs1 cells slots Q (F0 m (pc + 1) ls rest)) : W p l e R s m args below meth c H locs cells slots Q (F0 m pc ls (.int x :: .int i :: .ref (ad 2) :: rest)) :=
  va_iast S.1 S.2.1 hK.1 I.1 I.2.1 I.2.2 2 0 rfl rfl hin hdg (fun H1 locs1 a b d => kk H1 locs1 _ rfl ⟨a, b, d⟩)
theorem n_Te_places (S : CallFix p m c cc nL s args gtbl own) (hK : gK D (tyA cA) s) (hP : va_P D classes (wC ad cA (te, ru, au, re, la, sp, le)) H) (hdg : decode cc pc = .ok (.arraylength, 1)) (kk : W p l e R s m args below meth c H locs cells slots Q (F0 m (pc + 1) ls (.int 6 :: rest))) : W p l e R s m args below meth c H locs cells slots Q (F0 m pc ls (.ref (ad 2) :: rest)) :=
  va_alen S.1 S.2.1 hK.1 hP 2 0 rfl rfl (v := 6) rfl hdg kk
theorem a_Te_symbol (S : CallFix p m c cc nL s args gtbl own) (hK : gK D (tyA cA) s) (hP : va_P D classes (wC ad cA (te, ru, au, re, la, sp, le)) H) {i : Int32} (hin : vp_in i 448) (hdg : decode cc pc = .ok (.iaload, 1)) (kk : W p l e R s m args below meth c H locs cells slots Q (F0 m (pc + 1) ls (.int (Te_symbol te i.toNatClampNeg) :: rest))) : W p l e R s m args below meth c H locs cells slots Q (F0 m pc ls (.int i :: .ref (ad 3) :: rest)) :=
  va_iald S.1 S.2.1 hK.1 hP 3 0 rfl rfl hin hdg kk
theorem s_Te_symbol (S : CallFix p m c cc nL s args gtbl own) (hK : gK D (tyA cA) s) (I : gIn D A s (wC ad cA) (te, ru, au, re, la, sp, le) H locs) {i : Int32} {x : Int32} (hin : vp_in i 448) (hdg : decode cc pc = .ok (.iastore, 1)) (kk : ∀ (H1 : Heap) (locs1 : List Loc) (z : Te), z = Te_symbol_s te (upd (Te_symbol te) i.toNatClampNeg x) → gIn D A s (wC ad cA) (z, ru, au, re, la, sp, le) H1 locs1 → W p l e R s m args below meth c H1 locs1 cells slots Q (F0 m (pc + 1) ls rest)) : W p l e R s m args below meth c H locs cells slots Q (F0 m pc ls (.int x :: .int i :: .ref (ad 3) :: rest)) :=
  va_iast S.1 S.2.1 hK.1 I.1 I.2.1 I.2.2 3 0 rfl rfl hin hdg (fun H1 locs1 a b d => kk H1 locs1 _ rfl ⟨a, b, d⟩)
theorem n_Te_symbol (S : CallFix p m c cc nL s args gtbl own) (hK : gK D (tyA cA) s) (hP : va_P D classes (wC ad cA (te, ru, au, re, la, sp, le)) H) (hdg : decode cc pc = .ok (.arraylength, 1)) (kk : W p l e R s m args below meth c H locs cells slots Q (F0 m (pc + 1) ls (.int 448 :: rest))) : W p l e R s m args below meth c H locs cells slots Q (F0 m pc ls (.ref (ad 3) :: rest)) :=
  va_alen S.1 S.2.1 hK.1 hP 3 0 rfl rfl (v := 448) rfl hdg kk
theorem a_Te_first (S : CallFix p m c cc nL s args gtbl own) (hK : gK D (tyA cA) s) (hP : va_P D classes (wC ad cA (te, ru, au, re, la, sp, le)) H) {i : Int32} (hin : vp_in i 448) (hdg : decode cc pc = .ok (.iaload, 1)) (kk : W p l e R s m args below meth c H locs cells slots Q (F0 m (pc + 1) ls (.int (Te_first te i.toNatClampNeg) :: rest))) : W p l e R s m args below meth c H locs cells slots Q (F0 m pc ls (.int i :: .ref (ad 4) :: rest)) :=
  va_iald S.1 S.2.1 hK.1 hP 4 0 rfl rfl hin hdg kk
theorem s_Te_first (S : CallFix p m c cc nL s args gtbl own) (hK : gK D (tyA cA) s) (I : gIn D A s (wC ad cA) (te, ru, au, re, la, sp, le) H locs) {i : Int32} {x : Int32} (hin : vp_in i 448) (hdg : decode cc pc = .ok (.iastore, 1)) (kk : ∀ (H1 : Heap) (locs1 : List Loc) (z : Te), z = Te_first_s te (upd (Te_first te) i.toNatClampNeg x) → gIn D A s (wC ad cA) (z, ru, au, re, la, sp, le) H1 locs1 → W p l e R s m args below meth c H1 locs1 cells slots Q (F0 m (pc + 1) ls rest)) : W p l e R s m args below meth c H locs cells slots Q (F0 m pc ls (.int x :: .int i :: .ref (ad 4) :: rest)) :=
  va_iast S.1 S.2.1 hK.1 I.1 I.2.1 I.2.2 4 0 rfl rfl hin hdg (fun H1 locs1 a b d => kk H1 locs1 _ rfl ⟨a, b, d⟩)
theorem n_Te_first (S : CallFix p m c cc nL s args gtbl own) (hK : gK D (tyA cA) s) (hP : va_P D classes (wC ad cA (te, ru, au, re, la, sp, le)) H) (hdg : decode cc pc = .ok (.arraylength, 1)) (kk : W p l e R s m args below meth c H locs cells slots Q (F0 m (pc + 1) ls (.int 448 :: rest))) : W p l e R s m args below meth c H locs cells slots Q (F0 m pc ls (.ref (ad 4) :: rest)) :=
  va_alen S.1 S.2.1 hK.1 hP 4 0 rfl rfl (v := 448) rfl hdg kk
theorem a_Te_second (S : CallFix p m c cc nL s args gtbl own) (hK : gK D (tyA cA) s) (hP : va_P D classes (wC ad cA (te, ru, au, re, la, sp, le)) H) {i : Int32} (hin : vp_in i 448) (hdg : decode cc pc = .ok (.iaload, 1)) (kk : W p l e R s m args below meth c H locs cells slots Q (F0 m (pc + 1) ls (.int (Te_second te i.toNatClampNeg) :: rest))) : W p l e R s m args below meth c H locs cells slots Q (F0 m pc ls (.int i :: .ref (ad 5) :: rest)) :=
  va_iald S.1 S.2.1 hK.1 hP 5 0 rfl rfl hin hdg kk
theorem s_Te_second (S : CallFix p m c cc nL s args gtbl own) (hK : gK D (tyA cA) s) (I : gIn D A s (wC ad cA) (te, ru, au, re, la, sp, le) H locs) {i : Int32} {x : Int32} (hin : vp_in i 448) (hdg : decode cc pc = .ok (.iastore, 1)) (kk : ∀ (H1 : Heap) (locs1 : List Loc) (z : Te), z = Te_second_s te (upd (Te_second te) i.toNatClampNeg x) → gIn D A s (wC ad cA) (z, ru, au, re, la, sp, le) H1 locs1 → W p l e R s m args below meth c H1 locs1 cells slots Q (F0 m (pc + 1) ls rest)) : W p l e R s m args below meth c H locs cells slots Q (F0 m pc ls (.int x :: .int i :: .ref (ad 5) :: rest)) :=
  va_iast S.1 S.2.1 hK.1 I.1 I.2.1 I.2.2 5 0 rfl rfl hin hdg (fun H1 locs1 a b d => kk H1 locs1 _ rfl ⟨a, b, d⟩)
theorem n_Te_second (S : CallFix p m c cc nL s args gtbl own) (hK : gK D (tyA cA) s) (hP : va_P D classes (wC ad cA (te, ru, au, re, la, sp, le)) H) (hdg : decode cc pc = .ok (.arraylength, 1)) (kk : W p l e R s m args below meth c H locs cells slots Q (F0 m (pc + 1) ls (.int 448 :: rest))) : W p l e R s m args below meth c H locs cells slots Q (F0 m pc ls (.ref (ad 5) :: rest)) :=
  va_alen S.1 S.2.1 hK.1 hP 5 0 rfl rfl (v := 448) rfl hdg kk
theorem a_Te_size (S : CallFix p m c cc nL s args gtbl own) (hK : gK D (tyA cA) s) (hP : va_P D classes (wC ad cA (te, ru, au, re, la, sp, le)) H) {i : Int32} (hin : vp_in i 448) (hdg : decode cc pc = .ok (.iaload, 1)) (kk : W p l e R s m args below meth c H locs cells slots Q (F0 m (pc + 1) ls (.int (Te_size te i.toNatClampNeg) :: rest))) : W p l e R s m args below meth c H locs cells slots Q (F0 m pc ls (.int i :: .ref (ad 6) :: rest)) :=
  va_iald S.1 S.2.1 hK.1 hP 6 0 rfl rfl hin hdg kk
theorem s_Te_size (S : CallFix p m c cc nL s args gtbl own) (hK : gK D (tyA cA) s) (I : gIn D A s (wC ad cA) (te, ru, au, re, la, sp, le) H locs) {i : Int32} {x : Int32} (hin : vp_in i 448) (hdg : decode cc pc = .ok (.iastore, 1)) (kk : ∀ (H1 : Heap) (locs1 : List Loc) (z : Te), z = Te_size_s te (upd (Te_size te) i.toNatClampNeg x) → gIn D A s (wC ad cA) (z, ru, au, re, la, sp, le) H1 locs1 → W p l e R s m args below meth c H1 locs1 cells slots Q (F0 m (pc + 1) ls rest)) : W p l e R s m args below meth c H locs cells slots Q (F0 m pc ls (.int x :: .int i :: .ref (ad 6) :: rest)) :=
  va_iast S.1 S.2.1 hK.1 I.1 I.2.1 I.2.2 6 0 rfl rfl hin hdg (fun H1 locs1 a b d => kk H1 locs1 _ rfl ⟨a, b, d⟩)
theorem n_Te_size (S : CallFix p m c cc nL s args gtbl own) (hK : gK D (tyA cA) s) (hP : va_P D classes (wC ad cA (te, ru, au, re, la, sp, le)) H) (hdg : decode cc pc = .ok (.arraylength, 1)) (kk : W p l e R s m args below meth c H locs cells slots Q (F0 m (pc + 1) ls (.int 448 :: rest))) : W p l e R s m args below meth c H locs cells slots Q (F0 m pc ls (.ref (ad 6) :: rest)) :=
  va_alen S.1 S.2.1 hK.1 hP 6 0 rfl rfl (v := 448) rfl hdg kk
theorem a_Te_newestIn (S : CallFix p m c cc nL s args gtbl own) (hK : gK D (tyA cA) s) (hP : va_P D classes (wC ad cA (te, ru, au, re, la, sp, le)) H) {i : Int32} (hin : vp_in i 256) (hdg : decode cc pc = .ok (.iaload, 1)) (kk : W p l e R s m args below meth c H locs cells slots Q (F0 m (pc + 1) ls (.int (Te_newestIn te i.toNatClampNeg) :: rest))) : W p l e R s m args below meth c H locs cells slots Q (F0 m pc ls (.int i :: .ref (ad 7) :: rest)) :=
  va_iald S.1 S.2.1 hK.1 hP 7 0 rfl rfl hin hdg kk
theorem s_Te_newestIn (S : CallFix p m c cc nL s args gtbl own) (hK : gK D (tyA cA) s) (I : gIn D A s (wC ad cA) (te, ru, au, re, la, sp, le) H locs) {i : Int32} {x : Int32} (hin : vp_in i 256) (hdg : decode cc pc = .ok (.iastore, 1)) (kk : ∀ (H1 : Heap) (locs1 : List Loc) (z : Te), z = Te_newestIn_s te (upd (Te_newestIn te) i.toNatClampNeg x) → gIn D A s (wC ad cA) (z, ru, au, re, la, sp, le) H1 locs1 → W p l e R s m args below meth c H1 locs1 cells slots Q (F0 m (pc + 1) ls rest)) : W p l e R s m args below meth c H locs cells slots Q (F0 m pc ls (.int x :: .int i :: .ref (ad 7) :: rest)) :=
  va_iast S.1 S.2.1 hK.1 I.1 I.2.1 I.2.2 7 0 rfl rfl hin hdg (fun H1 locs1 a b d => kk H1 locs1 _ rfl ⟨a, b, d⟩)
theorem n_Te_newestIn (S : CallFix p m c cc nL s args gtbl own) (hK : gK D (tyA cA) s) (hP : va_P D classes (wC ad cA (te, ru, au, re, la, sp, le)) H) (hdg : decode cc pc = .ok (.arraylength, 1)) (kk : W p l e R s m args below meth c H locs cells slots Q (F0 m (pc + 1) ls (.int 256 :: rest))) : W p l e R s m args below meth c H locs cells slots Q (F0 m pc ls (.ref (ad 7) :: rest)) :=
  va_alen S.1 S.2.1 hK.1 hP 7 0 rfl rfl (v := 256) rfl hdg kk
theorem a_Te_olderInBucket (S : CallFix p m c cc nL s args gtbl own) (hK : gK D (tyA cA) s) (hP : va_P D classes (wC ad cA (te, ru, au, re, la, sp, le)) H) {i : Int32} (hin : vp_in i 448) (hdg : decode cc pc = .ok (.iaload, 1)) (kk : W p l e R s m args below meth c H locs cells slots Q (F0 m (pc + 1) ls (.int (Te_olderInBucket te i.toNatClampNeg) :: rest))) : W p l e R s m args below meth c H locs cells slots Q (F0 m pc ls (.int i :: .ref (ad 8) :: rest)) :=
  va_iald S.1 S.2.1 hK.1 hP 8 0 rfl rfl hin hdg kk
theorem s_Te_olderInBucket (S : CallFix p m c cc nL s args gtbl own) (hK : gK D (tyA cA) s) (I : gIn D A s (wC ad cA) (te, ru, au, re, la, sp, le) H locs) {i : Int32} {x : Int32} (hin : vp_in i 448) (hdg : decode cc pc = .ok (.iastore, 1)) (kk : ∀ (H1 : Heap) (locs1 : List Loc) (z : Te), z = Te_olderInBucket_s te (upd (Te_olderInBucket te) i.toNatClampNeg x) → gIn D A s (wC ad cA) (z, ru, au, re, la, sp, le) H1 locs1 → W p l e R s m args below meth c H1 locs1 cells slots Q (F0 m (pc + 1) ls rest)) : W p l e R s m args below meth c H locs cells slots Q (F0 m pc ls (.int x :: .int i :: .ref (ad 8) :: rest)) :=
  va_iast S.1 S.2.1 hK.1 I.1 I.2.1 I.2.2 8 0 rfl rfl hin hdg (fun H1 locs1 a b d => kk H1 locs1 _ rfl ⟨a, b, d⟩)
theorem n_Te_olderInBucket (S : CallFix p m c cc nL s args gtbl own) (hK : gK D (tyA cA) s) (hP : va_P D classes (wC ad cA (te, ru, au, re, la, sp, le)) H) (hdg : decode cc pc = .ok (.arraylength, 1)) (kk : W p l e R s m args below meth c H locs cells slots Q (F0 m (pc + 1) ls (.int 448 :: rest))) : W p l e R s m args below meth c H locs cells slots Q (F0 m pc ls (.ref (ad 8) :: rest)) :=
  va_alen S.1 S.2.1 hK.1 hP 8 0 rfl rfl (v := 448) rfl hdg kk
theorem g_Ru_left (S : CallFix p m c cc nL s args gtbl R_Ru) (hK : gK D (tyA cA) s) (hP : va_P D classes (wC ad cA (te, ru, au, re, la, sp, le)) H) (hdg : decode cc pc = .ok (.getfield 9, 3)) (kk : W p l e R s m args below meth c H locs cells slots Q (F0 m (pc + 3) ls (.ref (ad 10) :: rest))) : W p l e R s m args below meth c H locs cells slots Q (F0 m pc ls (.ref (ad 9) :: rest)) :=
  va_get (D := D) (ci := 2) (v := .ref (ad 10)) (C := R_Ru) (T := F_Ru) (N := 4) S.1 S.2.1 S.2.2.2.2 u_Ru S.2.2.2.1 hK.1 hP 9 rfl rfl 0 (by decide) (S.2.2.2.2 _ fl_Ru_left) (fun _ h => h) rfl hdg kk
theorem g_Ru_right (S : CallFix p m c cc nL s args gtbl R_Ru) (hK : gK D (tyA cA) s) (hP : va_P D classes (wC ad cA (te, ru, au, re, la, sp, le)) H) (hdg : decode cc pc = .ok (.getfield 15, 3)) (kk : W p l e R s m args below meth c H locs cells slots Q (F0 m (pc + 3) ls (.ref (ad 11) :: rest))) : W p l e R s m args below meth c H locs cells slots Q (F0 m pc ls (.ref (ad 9) :: rest)) :=
  va_get (D := D) (ci := 2) (v := .ref (ad 11)) (C := R_Ru) (T := F_Ru) (N := 4) S.1 S.2.1 S.2.2.2.2 u_Ru S.2.2.2.1 hK.1 hP 9 rfl rfl 1 (by decide) (S.2.2.2.2 _ fl_Ru_right) (fun _ h => h) rfl hdg kk
theorem g_Ru_count (S : CallFix p m c cc nL s args gtbl R_Ru) (hK : gK D (tyA cA) s) (hP : va_P D classes (wC ad cA (te, ru, au, re, la, sp, le)) H) (hdg : decode cc pc = .ok (.getfield 18, 3)) (kk : W p l e R s m args below meth c H locs cells slots Q (F0 m (pc + 3) ls (.int (Ru_count ru) :: rest))) : W p l e R s m args below meth c H locs cells slots Q (F0 m pc ls (.ref (ad 9) :: rest)) :=
  va_get (D := D) (ci := 2) (v := .int (Ru_count ru)) (C := R_Ru) (T := F_Ru) (N := 4) S.1 S.2.1 S.2.2.2.2 u_Ru S.2.2.2.1 hK.1 hP 9 rfl rfl 2 (by decide) (S.2.2.2.2 _ fl_Ru_count) (fun _ h => h) rfl hdg kk
theorem q_Ru_count (S : CallFix p m c cc nL s args gtbl R_Ru) (hK : gK D (tyA cA) s) (I : gIn D A s (wC ad cA) (te, ru, au, re, la, sp, le) H locs) {v : Int32} (hdg : decode cc pc = .ok (.putfield 18, 3)) (kk : ∀ (H1 : Heap) (locs1 : List Loc) (z : Ru), z = Ru_count_s ru v → gIn D A s (wC ad cA) (te, z, au, re, la, sp, le) H1 locs1 → W p l e R s m args below meth c H1 locs1 cells slots Q (F0 m (pc + 3) ls rest)) : W p l e R s m args below meth c H locs cells slots Q (F0 m pc ls (.int v :: .ref (ad 9) :: rest)) :=
  va_put (D := D) (ci := 2) (v := .int v) (ty := .int) (C := R_Ru) (T := F_Ru) (N := 4) S.1 S.2.1 S.2.2.2.2 u_Ru t_Ru t_Ru_ok n_Ru S.2.2.2.1 hK.1 I.1 I.2.1 I.2.2 9 rfl rfl 2 (by decide) (S.2.2.2.2 _ fl_Ru_count) (fun _ h => h) rfl (by decide +kernel) rfl rfl (Nat.le_of_ble_eq_true rfl) hdg (fun H1 locs1 a b d => kk H1 locs1 _ rfl ⟨a, b, d⟩)
theorem g_Ru_changes (S : CallFix p m c cc nL s args gtbl R_Ru) (hK : gK D (tyA cA) s) (hP : va_P D classes (wC ad cA (te, ru, au, re, la, sp, le)) H) (hdg : decode cc pc = .ok (.getfield 22, 3)) (kk : W p l e R s m args below meth c H locs cells slots Q (F0 m (pc + 3) ls (.int (Ru_changes ru) :: rest))) : W p l e R s m args below meth c H locs cells slots Q (F0 m pc ls (.ref (ad 9) :: rest)) :=
  va_get (D := D) (ci := 2) (v := .int (Ru_changes ru)) (C := R_Ru) (T := F_Ru) (N := 4) S.1 S.2.1 S.2.2.2.2 u_Ru S.2.2.2.1 hK.1 hP 9 rfl rfl 3 (by decide) (S.2.2.2.2 _ fl_Ru_changes) (fun _ h => h) rfl hdg kk
theorem q_Ru_changes (S : CallFix p m c cc nL s args gtbl R_Ru) (hK : gK D (tyA cA) s) (I : gIn D A s (wC ad cA) (te, ru, au, re, la, sp, le) H locs) {v : Int32} (hdg : decode cc pc = .ok (.putfield 22, 3)) (kk : ∀ (H1 : Heap) (locs1 : List Loc) (z : Ru), z = Ru_changes_s ru v → gIn D A s (wC ad cA) (te, z, au, re, la, sp, le) H1 locs1 → W p l e R s m args below meth c H1 locs1 cells slots Q (F0 m (pc + 3) ls rest)) : W p l e R s m args below meth c H locs cells slots Q (F0 m pc ls (.int v :: .ref (ad 9) :: rest)) :=
  va_put (D := D) (ci := 2) (v := .int v) (ty := .int) (C := R_Ru) (T := F_Ru) (N := 4) S.1 S.2.1 S.2.2.2.2 u_Ru t_Ru t_Ru_ok n_Ru S.2.2.2.1 hK.1 I.1 I.2.1 I.2.2 9 rfl rfl 3 (by decide) (S.2.2.2.2 _ fl_Ru_changes) (fun _ h => h) rfl (by decide +kernel) rfl rfl (Nat.le_of_ble_eq_true rfl) hdg (fun H1 locs1 a b d => kk H1 locs1 _ rfl ⟨a, b, d⟩)
theorem a_Ru_left (S : CallFix p m c cc nL s args gtbl own) (hK : gK D (tyA cA) s) (hP : va_P D classes (wC ad cA (te, ru, au, re, la, sp, le)) H) {i : Int32} (hin : vp_in i 8) (hdg : decode cc pc = .ok (.iaload, 1)) (kk : W p l e R s m args below meth c H locs cells slots Q (F0 m (pc + 1) ls (.int (Ru_left ru i.toNatClampNeg) :: rest))) : W p l e R s m args below meth c H locs cells slots Q (F0 m pc ls (.int i :: .ref (ad 10) :: rest)) :=
  va_iald S.1 S.2.1 hK.1 hP 10 0 rfl rfl hin hdg kk
theorem s_Ru_left (S : CallFix p m c cc nL s args gtbl own) (hK : gK D (tyA cA) s) (I : gIn D A s (wC ad cA) (te, ru, au, re, la, sp, le) H locs) {i : Int32} {x : Int32} (hin : vp_in i 8) (hdg : decode cc pc = .ok (.iastore, 1)) (kk : ∀ (H1 : Heap) (locs1 : List Loc) (z : Ru), z = Ru_left_s ru (upd (Ru_left ru) i.toNatClampNeg x) → gIn D A s (wC ad cA) (te, z, au, re, la, sp, le) H1 locs1 → W p l e R s m args below meth c H1 locs1 cells slots Q (F0 m (pc + 1) ls rest)) : W p l e R s m args below meth c H locs cells slots Q (F0 m pc ls (.int x :: .int i :: .ref (ad 10) :: rest)) :=
  va_iast S.1 S.2.1 hK.1 I.1 I.2.1 I.2.2 10 0 rfl rfl hin hdg (fun H1 locs1 a b d => kk H1 locs1 _ rfl ⟨a, b, d⟩)
theorem n_Ru_left (S : CallFix p m c cc nL s args gtbl own) (hK : gK D (tyA cA) s) (hP : va_P D classes (wC ad cA (te, ru, au, re, la, sp, le)) H) (hdg : decode cc pc = .ok (.arraylength, 1)) (kk : W p l e R s m args below meth c H locs cells slots Q (F0 m (pc + 1) ls (.int 8 :: rest))) : W p l e R s m args below meth c H locs cells slots Q (F0 m pc ls (.ref (ad 10) :: rest)) :=
  va_alen S.1 S.2.1 hK.1 hP 10 0 rfl rfl (v := 8) rfl hdg kk
theorem a_Ru_right (S : CallFix p m c cc nL s args gtbl own) (hK : gK D (tyA cA) s) (hP : va_P D classes (wC ad cA (te, ru, au, re, la, sp, le)) H) {i : Int32} (hin : vp_in i 8) (hdg : decode cc pc = .ok (.iaload, 1)) (kk : W p l e R s m args below meth c H locs cells slots Q (F0 m (pc + 1) ls (.int (Ru_right ru i.toNatClampNeg) :: rest))) : W p l e R s m args below meth c H locs cells slots Q (F0 m pc ls (.int i :: .ref (ad 11) :: rest)) :=
  va_iald S.1 S.2.1 hK.1 hP 11 0 rfl rfl hin hdg kk
theorem s_Ru_right (S : CallFix p m c cc nL s args gtbl own) (hK : gK D (tyA cA) s) (I : gIn D A s (wC ad cA) (te, ru, au, re, la, sp, le) H locs) {i : Int32} {x : Int32} (hin : vp_in i 8) (hdg : decode cc pc = .ok (.iastore, 1)) (kk : ∀ (H1 : Heap) (locs1 : List Loc) (z : Ru), z = Ru_right_s ru (upd (Ru_right ru) i.toNatClampNeg x) → gIn D A s (wC ad cA) (te, z, au, re, la, sp, le) H1 locs1 → W p l e R s m args below meth c H1 locs1 cells slots Q (F0 m (pc + 1) ls rest)) : W p l e R s m args below meth c H locs cells slots Q (F0 m pc ls (.int x :: .int i :: .ref (ad 11) :: rest)) :=
  va_iast S.1 S.2.1 hK.1 I.1 I.2.1 I.2.2 11 0 rfl rfl hin hdg (fun H1 locs1 a b d => kk H1 locs1 _ rfl ⟨a, b, d⟩)
theorem n_Ru_right (S : CallFix p m c cc nL s args gtbl own) (hK : gK D (tyA cA) s) (hP : va_P D classes (wC ad cA (te, ru, au, re, la, sp, le)) H) (hdg : decode cc pc = .ok (.arraylength, 1)) (kk : W p l e R s m args below meth c H locs cells slots Q (F0 m (pc + 1) ls (.int 8 :: rest))) : W p l e R s m args below meth c H locs cells slots Q (F0 m pc ls (.ref (ad 11) :: rest)) :=
  va_alen S.1 S.2.1 hK.1 hP 11 0 rfl rfl (v := 8) rfl hdg kk
theorem g_Au_terms (S : CallFix p m c cc nL s args gtbl R_Au) (hK : gK D (tyA cA) s) (hP : va_P D classes (wC ad cA (te, ru, au, re, la, sp, le)) H) (hdg : decode cc pc = .ok (.getfield 27, 3)) (kk : W p l e R s m args below meth c H locs cells slots Q (F0 m (pc + 3) ls (.ref (ad 1) :: rest))) : W p l e R s m args below meth c H locs cells slots Q (F0 m pc ls (.ref (ad 12) :: rest)) :=
  va_get (D := D) (ci := 3) (v := .ref (ad 1)) (C := R_Au) (T := F_Au) (N := 8) S.1 S.2.1 S.2.2.2.2 u_Au S.2.2.2.1 hK.1 hP 12 rfl rfl 0 (by decide) (S.2.2.2.2 _ fl_Au_terms) (fun _ h => h) rfl hdg kk
theorem g_Au_symbol (S : CallFix p m c cc nL s args gtbl R_Au) (hK : gK D (tyA cA) s) (hP : va_P D classes (wC ad cA (te, ru, au, re, la, sp, le)) H) (hdg : decode cc pc = .ok (.getfield 9, 3)) (kk : W p l e R s m args below meth c H locs cells slots Q (F0 m (pc + 3) ls (.ref (ad 13) :: rest))) : W p l e R s m args below meth c H locs cells slots Q (F0 m pc ls (.ref (ad 12) :: rest)) :=
  va_get (D := D) (ci := 3) (v := .ref (ad 13)) (C := R_Au) (T := F_Au) (N := 8) S.1 S.2.1 S.2.2.2.2 u_Au S.2.2.2.1 hK.1 hP 12 rfl rfl 1 (by decide) (S.2.2.2.2 _ fl_Au_symbol) (fun _ h => h) rfl hdg kk
theorem g_Au_first (S : CallFix p m c cc nL s args gtbl R_Au) (hK : gK D (tyA cA) s) (hP : va_P D classes (wC ad cA (te, ru, au, re, la, sp, le)) H) (hdg : decode cc pc = .ok (.getfield 15, 3)) (kk : W p l e R s m args below meth c H locs cells slots Q (F0 m (pc + 3) ls (.ref (ad 14) :: rest))) : W p l e R s m args below meth c H locs cells slots Q (F0 m pc ls (.ref (ad 12) :: rest)) :=
  va_get (D := D) (ci := 3) (v := .ref (ad 14)) (C := R_Au) (T := F_Au) (N := 8) S.1 S.2.1 S.2.2.2.2 u_Au S.2.2.2.1 hK.1 hP 12 rfl rfl 2 (by decide) (S.2.2.2.2 _ fl_Au_first) (fun _ h => h) rfl hdg kk
theorem g_Au_second (S : CallFix p m c cc nL s args gtbl R_Au) (hK : gK D (tyA cA) s) (hP : va_P D classes (wC ad cA (te, ru, au, re, la, sp, le)) H) (hdg : decode cc pc = .ok (.getfield 18, 3)) (kk : W p l e R s m args below meth c H locs cells slots Q (F0 m (pc + 3) ls (.ref (ad 15) :: rest))) : W p l e R s m args below meth c H locs cells slots Q (F0 m pc ls (.ref (ad 12) :: rest)) :=
  va_get (D := D) (ci := 3) (v := .ref (ad 15)) (C := R_Au) (T := F_Au) (N := 8) S.1 S.2.1 S.2.2.2.2 u_Au S.2.2.2.1 hK.1 hP 12 rfl rfl 3 (by decide) (S.2.2.2.2 _ fl_Au_second) (fun _ h => h) rfl hdg kk
theorem g_Au_target (S : CallFix p m c cc nL s args gtbl R_Au) (hK : gK D (tyA cA) s) (hP : va_P D classes (wC ad cA (te, ru, au, re, la, sp, le)) H) (hdg : decode cc pc = .ok (.getfield 21, 3)) (kk : W p l e R s m args below meth c H locs cells slots Q (F0 m (pc + 3) ls (.ref (ad 16) :: rest))) : W p l e R s m args below meth c H locs cells slots Q (F0 m pc ls (.ref (ad 12) :: rest)) :=
  va_get (D := D) (ci := 3) (v := .ref (ad 16)) (C := R_Au) (T := F_Au) (N := 8) S.1 S.2.1 S.2.2.2.2 u_Au S.2.2.2.1 hK.1 hP 12 rfl rfl 4 (by decide) (S.2.2.2.2 _ fl_Au_target) (fun _ h => h) rfl hdg kk
theorem g_Au_weight (S : CallFix p m c cc nL s args gtbl R_Au) (hK : gK D (tyA cA) s) (hP : va_P D classes (wC ad cA (te, ru, au, re, la, sp, le)) H) (hdg : decode cc pc = .ok (.getfield 24, 3)) (kk : W p l e R s m args below meth c H locs cells slots Q (F0 m (pc + 3) ls (.ref (ad 17) :: rest))) : W p l e R s m args below meth c H locs cells slots Q (F0 m pc ls (.ref (ad 12) :: rest)) :=
  va_get (D := D) (ci := 3) (v := .ref (ad 17)) (C := R_Au) (T := F_Au) (N := 8) S.1 S.2.1 S.2.2.2.2 u_Au S.2.2.2.1 hK.1 hP 12 rfl rfl 5 (by decide) (S.2.2.2.2 _ fl_Au_weight) (fun _ h => h) rfl hdg kk
theorem g_Au_count (S : CallFix p m c cc nL s args gtbl R_Au) (hK : gK D (tyA cA) s) (hP : va_P D classes (wC ad cA (te, ru, au, re, la, sp, le)) H) (hdg : decode cc pc = .ok (.getfield 31, 3)) (kk : W p l e R s m args below meth c H locs cells slots Q (F0 m (pc + 3) ls (.int (Au_count au) :: rest))) : W p l e R s m args below meth c H locs cells slots Q (F0 m pc ls (.ref (ad 12) :: rest)) :=
  va_get (D := D) (ci := 3) (v := .int (Au_count au)) (C := R_Au) (T := F_Au) (N := 8) S.1 S.2.1 S.2.2.2.2 u_Au S.2.2.2.1 hK.1 hP 12 rfl rfl 6 (by decide) (S.2.2.2.2 _ fl_Au_count) (fun _ h => h) rfl hdg kk
theorem q_Au_count (S : CallFix p m c cc nL s args gtbl R_Au) (hK : gK D (tyA cA) s) (I : gIn D A s (wC ad cA) (te, ru, au, re, la, sp, le) H locs) {v : Int32} (hdg : decode cc pc = .ok (.putfield 31, 3)) (kk : ∀ (H1 : Heap) (locs1 : List Loc) (z : Au), z = Au_count_s au v → gIn D A s (wC ad cA) (te, ru, z, re, la, sp, le) H1 locs1 → W p l e R s m args below meth c H1 locs1 cells slots Q (F0 m (pc + 3) ls rest)) : W p l e R s m args below meth c H locs cells slots Q (F0 m pc ls (.int v :: .ref (ad 12) :: rest)) :=
  va_put (D := D) (ci := 3) (v := .int v) (ty := .int) (C := R_Au) (T := F_Au) (N := 8) S.1 S.2.1 S.2.2.2.2 u_Au t_Au t_Au_ok n_Au S.2.2.2.1 hK.1 I.1 I.2.1 I.2.2 12 rfl rfl 6 (by decide) (S.2.2.2.2 _ fl_Au_count) (fun _ h => h) rfl (by decide +kernel) rfl rfl (Nat.le_of_ble_eq_true rfl) hdg (fun H1 locs1 a b d => kk H1 locs1 _ rfl ⟨a, b, d⟩)
theorem g_Au_finals (S : CallFix p m c cc nL s args gtbl R_Au) (hK : gK D (tyA cA) s) (hP : va_P D classes (wC ad cA (te, ru, au, re, la, sp, le)) H) (hdg : decode cc pc = .ok (.getfield 35, 3)) (kk : W p l e R s m args below meth c H locs cells slots Q (F0 m (pc + 3) ls (.int (Au_finals au) :: rest))) : W p l e R s m args below meth c H locs cells slots Q (F0 m pc ls (.ref (ad 12) :: rest)) :=
  va_get (D := D) (ci := 3) (v := .int (Au_finals au)) (C := R_Au) (T := F_Au) (N := 8) S.1 S.2.1 S.2.2.2.2 u_Au S.2.2.2.1 hK.1 hP 12 rfl rfl 7 (by decide) (S.2.2.2.2 _ fl_Au_finals) (fun _ h => h) rfl hdg kk
theorem q_Au_finals (S : CallFix p m c cc nL s args gtbl R_Au) (hK : gK D (tyA cA) s) (I : gIn D A s (wC ad cA) (te, ru, au, re, la, sp, le) H locs) {v : Int32} (hdg : decode cc pc = .ok (.putfield 35, 3)) (kk : ∀ (H1 : Heap) (locs1 : List Loc) (z : Au), z = Au_finals_s au v → gIn D A s (wC ad cA) (te, ru, z, re, la, sp, le) H1 locs1 → W p l e R s m args below meth c H1 locs1 cells slots Q (F0 m (pc + 3) ls rest)) : W p l e R s m args below meth c H locs cells slots Q (F0 m pc ls (.int v :: .ref (ad 12) :: rest)) :=
  va_put (D := D) (ci := 3) (v := .int v) (ty := .int) (C := R_Au) (T := F_Au) (N := 8) S.1 S.2.1 S.2.2.2.2 u_Au t_Au t_Au_ok n_Au S.2.2.2.1 hK.1 I.1 I.2.1 I.2.2 12 rfl rfl 7 (by decide) (S.2.2.2.2 _ fl_Au_finals) (fun _ h => h) rfl (by decide +kernel) rfl rfl (Nat.le_of_ble_eq_true rfl) hdg (fun H1 locs1 a b d => kk H1 locs1 _ rfl ⟨a, b, d⟩)
theorem a_Au_symbol (S : CallFix p m c cc nL s args gtbl own) (hK : gK D (tyA cA) s) (hP : va_P D classes (wC ad cA (te, ru, au, re, la, sp, le)) H) {i : Int32} (hin : vp_in i 20) (hdg : decode cc pc = .ok (.iaload, 1)) (kk : W p l e R s m args below meth c H locs cells slots Q (F0 m (pc + 1) ls (.int (Au_symbol au i.toNatClampNeg) :: rest))) : W p l e R s m args below meth c H locs cells slots Q (F0 m pc ls (.int i :: .ref (ad 13) :: rest)) :=
  va_iald S.1 S.2.1 hK.1 hP 13 0 rfl rfl hin hdg kk
theorem s_Au_symbol (S : CallFix p m c cc nL s args gtbl own) (hK : gK D (tyA cA) s) (I : gIn D A s (wC ad cA) (te, ru, au, re, la, sp, le) H locs) {i : Int32} {x : Int32} (hin : vp_in i 20) (hdg : decode cc pc = .ok (.iastore, 1)) (kk : ∀ (H1 : Heap) (locs1 : List Loc) (z : Au), z = Au_symbol_s au (upd (Au_symbol au) i.toNatClampNeg x) → gIn D A s (wC ad cA) (te, ru, z, re, la, sp, le) H1 locs1 → W p l e R s m args below meth c H1 locs1 cells slots Q (F0 m (pc + 1) ls rest)) : W p l e R s m args below meth c H locs cells slots Q (F0 m pc ls (.int x :: .int i :: .ref (ad 13) :: rest)) :=
  va_iast S.1 S.2.1 hK.1 I.1 I.2.1 I.2.2 13 0 rfl rfl hin hdg (fun H1 locs1 a b d => kk H1 locs1 _ rfl ⟨a, b, d⟩)
theorem n_Au_symbol (S : CallFix p m c cc nL s args gtbl own) (hK : gK D (tyA cA) s) (hP : va_P D classes (wC ad cA (te, ru, au, re, la, sp, le)) H) (hdg : decode cc pc = .ok (.arraylength, 1)) (kk : W p l e R s m args below meth c H locs cells slots Q (F0 m (pc + 1) ls (.int 20 :: rest))) : W p l e R s m args below meth c H locs cells slots Q (F0 m pc ls (.ref (ad 13) :: rest)) :=
  va_alen S.1 S.2.1 hK.1 hP 13 0 rfl rfl (v := 20) rfl hdg kk
theorem a_Au_first (S : CallFix p m c cc nL s args gtbl own) (hK : gK D (tyA cA) s) (hP : va_P D classes (wC ad cA (te, ru, au, re, la, sp, le)) H) {i : Int32} (hin : vp_in i 20) (hdg : decode cc pc = .ok (.iaload, 1)) (kk : W p l e R s m args below meth c H locs cells slots Q (F0 m (pc + 1) ls (.int (Au_first au i.toNatClampNeg) :: rest))) : W p l e R s m args below meth c H locs cells slots Q (F0 m pc ls (.int i :: .ref (ad 14) :: rest)) :=
  va_iald S.1 S.2.1 hK.1 hP 14 0 rfl rfl hin hdg kk
theorem s_Au_first (S : CallFix p m c cc nL s args gtbl own) (hK : gK D (tyA cA) s) (I : gIn D A s (wC ad cA) (te, ru, au, re, la, sp, le) H locs) {i : Int32} {x : Int32} (hin : vp_in i 20) (hdg : decode cc pc = .ok (.iastore, 1)) (kk : ∀ (H1 : Heap) (locs1 : List Loc) (z : Au), z = Au_first_s au (upd (Au_first au) i.toNatClampNeg x) → gIn D A s (wC ad cA) (te, ru, z, re, la, sp, le) H1 locs1 → W p l e R s m args below meth c H1 locs1 cells slots Q (F0 m (pc + 1) ls rest)) : W p l e R s m args below meth c H locs cells slots Q (F0 m pc ls (.int x :: .int i :: .ref (ad 14) :: rest)) :=
  va_iast S.1 S.2.1 hK.1 I.1 I.2.1 I.2.2 14 0 rfl rfl hin hdg (fun H1 locs1 a b d => kk H1 locs1 _ rfl ⟨a, b, d⟩)
theorem n_Au_first (S : CallFix p m c cc nL s args gtbl own) (hK : gK D (tyA cA) s) (hP : va_P D classes (wC ad cA (te, ru, au, re, la, sp, le)) H) (hdg : decode cc pc = .ok (.arraylength, 1)) (kk : W p l e R s m args below meth c H locs cells slots Q (F0 m (pc + 1) ls (.int 20 :: rest))) : W p l e R s m args below meth c H locs cells slots Q (F0 m pc ls (.ref (ad 14) :: rest)) :=
  va_alen S.1 S.2.1 hK.1 hP 14 0 rfl rfl (v := 20) rfl hdg kk
theorem a_Au_second (S : CallFix p m c cc nL s args gtbl own) (hK : gK D (tyA cA) s) (hP : va_P D classes (wC ad cA (te, ru, au, re, la, sp, le)) H) {i : Int32} (hin : vp_in i 20) (hdg : decode cc pc = .ok (.iaload, 1)) (kk : W p l e R s m args below meth c H locs cells slots Q (F0 m (pc + 1) ls (.int (Au_second au i.toNatClampNeg) :: rest))) : W p l e R s m args below meth c H locs cells slots Q (F0 m pc ls (.int i :: .ref (ad 15) :: rest)) :=
  va_iald S.1 S.2.1 hK.1 hP 15 0 rfl rfl hin hdg kk
theorem s_Au_second (S : CallFix p m c cc nL s args gtbl own) (hK : gK D (tyA cA) s) (I : gIn D A s (wC ad cA) (te, ru, au, re, la, sp, le) H locs) {i : Int32} {x : Int32} (hin : vp_in i 20) (hdg : decode cc pc = .ok (.iastore, 1)) (kk : ∀ (H1 : Heap) (locs1 : List Loc) (z : Au), z = Au_second_s au (upd (Au_second au) i.toNatClampNeg x) → gIn D A s (wC ad cA) (te, ru, z, re, la, sp, le) H1 locs1 → W p l e R s m args below meth c H1 locs1 cells slots Q (F0 m (pc + 1) ls rest)) : W p l e R s m args below meth c H locs cells slots Q (F0 m pc ls (.int x :: .int i :: .ref (ad 15) :: rest)) :=
  va_iast S.1 S.2.1 hK.1 I.1 I.2.1 I.2.2 15 0 rfl rfl hin hdg (fun H1 locs1 a b d => kk H1 locs1 _ rfl ⟨a, b, d⟩)
theorem n_Au_second (S : CallFix p m c cc nL s args gtbl own) (hK : gK D (tyA cA) s) (hP : va_P D classes (wC ad cA (te, ru, au, re, la, sp, le)) H) (hdg : decode cc pc = .ok (.arraylength, 1)) (kk : W p l e R s m args below meth c H locs cells slots Q (F0 m (pc + 1) ls (.int 20 :: rest))) : W p l e R s m args below meth c H locs cells slots Q (F0 m pc ls (.ref (ad 15) :: rest)) :=
  va_alen S.1 S.2.1 hK.1 hP 15 0 rfl rfl (v := 20) rfl hdg kk
theorem a_Au_target (S : CallFix p m c cc nL s args gtbl own) (hK : gK D (tyA cA) s) (hP : va_P D classes (wC ad cA (te, ru, au, re, la, sp, le)) H) {i : Int32} (hin : vp_in i 20) (hdg : decode cc pc = .ok (.iaload, 1)) (kk : W p l e R s m args below meth c H locs cells slots Q (F0 m (pc + 1) ls (.int (Au_target au i.toNatClampNeg) :: rest))) : W p l e R s m args below meth c H locs cells slots Q (F0 m pc ls (.int i :: .ref (ad 16) :: rest)) :=
  va_iald S.1 S.2.1 hK.1 hP 16 0 rfl rfl hin hdg kk
theorem s_Au_target (S : CallFix p m c cc nL s args gtbl own) (hK : gK D (tyA cA) s) (I : gIn D A s (wC ad cA) (te, ru, au, re, la, sp, le) H locs) {i : Int32} {x : Int32} (hin : vp_in i 20) (hdg : decode cc pc = .ok (.iastore, 1)) (kk : ∀ (H1 : Heap) (locs1 : List Loc) (z : Au), z = Au_target_s au (upd (Au_target au) i.toNatClampNeg x) → gIn D A s (wC ad cA) (te, ru, z, re, la, sp, le) H1 locs1 → W p l e R s m args below meth c H1 locs1 cells slots Q (F0 m (pc + 1) ls rest)) : W p l e R s m args below meth c H locs cells slots Q (F0 m pc ls (.int x :: .int i :: .ref (ad 16) :: rest)) :=
  va_iast S.1 S.2.1 hK.1 I.1 I.2.1 I.2.2 16 0 rfl rfl hin hdg (fun H1 locs1 a b d => kk H1 locs1 _ rfl ⟨a, b, d⟩)
theorem n_Au_target (S : CallFix p m c cc nL s args gtbl own) (hK : gK D (tyA cA) s) (hP : va_P D classes (wC ad cA (te, ru, au, re, la, sp, le)) H) (hdg : decode cc pc = .ok (.arraylength, 1)) (kk : W p l e R s m args below meth c H locs cells slots Q (F0 m (pc + 1) ls (.int 20 :: rest))) : W p l e R s m args below meth c H locs cells slots Q (F0 m pc ls (.ref (ad 16) :: rest)) :=
  va_alen S.1 S.2.1 hK.1 hP 16 0 rfl rfl (v := 20) rfl hdg kk
theorem a_Au_weight (S : CallFix p m c cc nL s args gtbl own) (hK : gK D (tyA cA) s) (hP : va_P D classes (wC ad cA (te, ru, au, re, la, sp, le)) H) {i : Int32} (hin : vp_in i 6) (hdg : decode cc pc = .ok (.iaload, 1)) (kk : W p l e R s m args below meth c H locs cells slots Q (F0 m (pc + 1) ls (.int (Au_weight au i.toNatClampNeg) :: rest))) : W p l e R s m args below meth c H locs cells slots Q (F0 m pc ls (.int i :: .ref (ad 17) :: rest)) :=
  va_iald S.1 S.2.1 hK.1 hP 17 0 rfl rfl hin hdg kk
theorem s_Au_weight (S : CallFix p m c cc nL s args gtbl own) (hK : gK D (tyA cA) s) (I : gIn D A s (wC ad cA) (te, ru, au, re, la, sp, le) H locs) {i : Int32} {x : Int32} (hin : vp_in i 6) (hdg : decode cc pc = .ok (.iastore, 1)) (kk : ∀ (H1 : Heap) (locs1 : List Loc) (z : Au), z = Au_weight_s au (upd (Au_weight au) i.toNatClampNeg x) → gIn D A s (wC ad cA) (te, ru, z, re, la, sp, le) H1 locs1 → W p l e R s m args below meth c H1 locs1 cells slots Q (F0 m (pc + 1) ls rest)) : W p l e R s m args below meth c H locs cells slots Q (F0 m pc ls (.int x :: .int i :: .ref (ad 17) :: rest)) :=
  va_iast S.1 S.2.1 hK.1 I.1 I.2.1 I.2.2 17 0 rfl rfl hin hdg (fun H1 locs1 a b d => kk H1 locs1 _ rfl ⟨a, b, d⟩)
theorem n_Au_weight (S : CallFix p m c cc nL s args gtbl own) (hK : gK D (tyA cA) s) (hP : va_P D classes (wC ad cA (te, ru, au, re, la, sp, le)) H) (hdg : decode cc pc = .ok (.arraylength, 1)) (kk : W p l e R s m args below meth c H locs cells slots Q (F0 m (pc + 1) ls (.int 6 :: rest))) : W p l e R s m args below meth c H locs cells slots Q (F0 m pc ls (.ref (ad 17) :: rest)) :=
  va_alen S.1 S.2.1 hK.1 hP 17 0 rfl rfl (v := 6) rfl hdg kk
theorem g_Re_terms (S : CallFix p m c cc nL s args gtbl R_Re) (hK : gK D (tyA cA) s) (hP : va_P D classes (wC ad cA (te, ru, au, re, la, sp, le)) H) (hdg : decode cc pc = .ok (.getfield 29, 3)) (kk : W p l e R s m args below meth c H locs cells slots Q (F0 m (pc + 3) ls (.ref (ad 1) :: rest))) : W p l e R s m args below meth c H locs cells slots Q (F0 m pc ls (.ref (ad 18) :: rest)) :=
  va_get (D := D) (ci := 4) (v := .ref (ad 1)) (C := R_Re) (T := F_Re) (N := 8) S.1 S.2.1 S.2.2.2.2 u_Re S.2.2.2.1 hK.1 hP 18 rfl rfl 0 (by decide) (S.2.2.2.2 _ fl_Re_terms) (fun _ h => h) rfl hdg kk
theorem g_Re_rules (S : CallFix p m c cc nL s args gtbl R_Re) (hK : gK D (tyA cA) s) (hP : va_P D classes (wC ad cA (te, ru, au, re, la, sp, le)) H) (hdg : decode cc pc = .ok (.getfield 33, 3)) (kk : W p l e R s m args below meth c H locs cells slots Q (F0 m (pc + 3) ls (.ref (ad 9) :: rest))) : W p l e R s m args below meth c H locs cells slots Q (F0 m pc ls (.ref (ad 18) :: rest)) :=
  va_get (D := D) (ci := 4) (v := .ref (ad 9)) (C := R_Re) (T := F_Re) (N := 8) S.1 S.2.1 S.2.2.2.2 u_Re S.2.2.2.1 hK.1 hP 18 rfl rfl 1 (by decide) (S.2.2.2.2 _ fl_Re_rules) (fun _ h => h) rfl hdg kk
theorem g_Re_reached (S : CallFix p m c cc nL s args gtbl R_Re) (hK : gK D (tyA cA) s) (hP : va_P D classes (wC ad cA (te, ru, au, re, la, sp, le)) H) (hdg : decode cc pc = .ok (.getfield 9, 3)) (kk : W p l e R s m args below meth c H locs cells slots Q (F0 m (pc + 3) ls (.ref (ad 19) :: rest))) : W p l e R s m args below meth c H locs cells slots Q (F0 m pc ls (.ref (ad 18) :: rest)) :=
  va_get (D := D) (ci := 4) (v := .ref (ad 19)) (C := R_Re) (T := F_Re) (N := 8) S.1 S.2.1 S.2.2.2.2 u_Re S.2.2.2.1 hK.1 hP 18 rfl rfl 2 (by decide) (S.2.2.2.2 _ fl_Re_reached) (fun _ h => h) rfl hdg kk
theorem g_Re_joined (S : CallFix p m c cc nL s args gtbl R_Re) (hK : gK D (tyA cA) s) (hP : va_P D classes (wC ad cA (te, ru, au, re, la, sp, le)) H) (hdg : decode cc pc = .ok (.getfield 15, 3)) (kk : W p l e R s m args below meth c H locs cells slots Q (F0 m (pc + 3) ls (.ref (ad 20) :: rest))) : W p l e R s m args below meth c H locs cells slots Q (F0 m pc ls (.ref (ad 18) :: rest)) :=
  va_get (D := D) (ci := 4) (v := .ref (ad 20)) (C := R_Re) (T := F_Re) (N := 8) S.1 S.2.1 S.2.2.2.2 u_Re S.2.2.2.1 hK.1 hP 18 rfl rfl 3 (by decide) (S.2.2.2.2 _ fl_Re_joined) (fun _ h => h) rfl hdg kk
theorem g_Re_least (S : CallFix p m c cc nL s args gtbl R_Re) (hK : gK D (tyA cA) s) (hP : va_P D classes (wC ad cA (te, ru, au, re, la, sp, le)) H) (hdg : decode cc pc = .ok (.getfield 18, 3)) (kk : W p l e R s m args below meth c H locs cells slots Q (F0 m (pc + 3) ls (.ref (ad 21) :: rest))) : W p l e R s m args below meth c H locs cells slots Q (F0 m pc ls (.ref (ad 18) :: rest)) :=
  va_get (D := D) (ci := 4) (v := .ref (ad 21)) (C := R_Re) (T := F_Re) (N := 8) S.1 S.2.1 S.2.2.2.2 u_Re S.2.2.2.1 hK.1 hP 18 rfl rfl 4 (by decide) (S.2.2.2.2 _ fl_Re_least) (fun _ h => h) rfl hdg kk
theorem g_Re_termsThen (S : CallFix p m c cc nL s args gtbl R_Re) (hK : gK D (tyA cA) s) (hP : va_P D classes (wC ad cA (te, ru, au, re, la, sp, le)) H) (hdg : decode cc pc = .ok (.getfield 22, 3)) (kk : W p l e R s m args below meth c H locs cells slots Q (F0 m (pc + 3) ls (.int (Re_termsThen re) :: rest))) : W p l e R s m args below meth c H locs cells slots Q (F0 m pc ls (.ref (ad 18) :: rest)) :=
  va_get (D := D) (ci := 4) (v := .int (Re_termsThen re)) (C := R_Re) (T := F_Re) (N := 8) S.1 S.2.1 S.2.2.2.2 u_Re S.2.2.2.1 hK.1 hP 18 rfl rfl 5 (by decide) (S.2.2.2.2 _ fl_Re_termsThen) (fun _ h => h) rfl hdg kk
theorem q_Re_termsThen (S : CallFix p m c cc nL s args gtbl R_Re) (hK : gK D (tyA cA) s) (I : gIn D A s (wC ad cA) (te, ru, au, re, la, sp, le) H locs) {v : Int32} (hdg : decode cc pc = .ok (.putfield 22, 3)) (kk : ∀ (H1 : Heap) (locs1 : List Loc) (z : Re), z = Re_termsThen_s re v → gIn D A s (wC ad cA) (te, ru, au, z, la, sp, le) H1 locs1 → W p l e R s m args below meth c H1 locs1 cells slots Q (F0 m (pc + 3) ls rest)) : W p l e R s m args below meth c H locs cells slots Q (F0 m pc ls (.int v :: .ref (ad 18) :: rest)) :=
  va_put (D := D) (ci := 4) (v := .int v) (ty := .int) (C := R_Re) (T := F_Re) (N := 8) S.1 S.2.1 S.2.2.2.2 u_Re t_Re t_Re_ok n_Re S.2.2.2.1 hK.1 I.1 I.2.1 I.2.2 18 rfl rfl 5 (by decide) (S.2.2.2.2 _ fl_Re_termsThen) (fun _ h => h) rfl (by decide +kernel) rfl rfl (Nat.le_of_ble_eq_true rfl) hdg (fun H1 locs1 a b d => kk H1 locs1 _ rfl ⟨a, b, d⟩)
theorem g_Re_changesThen (S : CallFix p m c cc nL s args gtbl R_Re) (hK : gK D (tyA cA) s) (hP : va_P D classes (wC ad cA (te, ru, au, re, la, sp, le)) H) (hdg : decode cc pc = .ok (.getfield 26, 3)) (kk : W p l e R s m args below meth c H locs cells slots Q (F0 m (pc + 3) ls (.int (Re_changesThen re) :: rest))) : W p l e R s m args below meth c H locs cells slots Q (F0 m pc ls (.ref (ad 18) :: rest)) :=
  va_get (D := D) (ci := 4) (v := .int (Re_changesThen re)) (C := R_Re) (T := F_Re) (N := 8) S.1 S.2.1 S.2.2.2.2 u_Re S.2.2.2.1 hK.1 hP 18 rfl rfl 6 (by decide) (S.2.2.2.2 _ fl_Re_changesThen) (fun _ h => h) rfl hdg kk
theorem q_Re_changesThen (S : CallFix p m c cc nL s args gtbl R_Re) (hK : gK D (tyA cA) s) (I : gIn D A s (wC ad cA) (te, ru, au, re, la, sp, le) H locs) {v : Int32} (hdg : decode cc pc = .ok (.putfield 26, 3)) (kk : ∀ (H1 : Heap) (locs1 : List Loc) (z : Re), z = Re_changesThen_s re v → gIn D A s (wC ad cA) (te, ru, au, z, la, sp, le) H1 locs1 → W p l e R s m args below meth c H1 locs1 cells slots Q (F0 m (pc + 3) ls rest)) : W p l e R s m args below meth c H locs cells slots Q (F0 m pc ls (.int v :: .ref (ad 18) :: rest)) :=
  va_put (D := D) (ci := 4) (v := .int v) (ty := .int) (C := R_Re) (T := F_Re) (N := 8) S.1 S.2.1 S.2.2.2.2 u_Re t_Re t_Re_ok n_Re S.2.2.2.1 hK.1 I.1 I.2.1 I.2.2 18 rfl rfl 6 (by decide) (S.2.2.2.2 _ fl_Re_changesThen) (fun _ h => h) rfl (by decide +kernel) rfl rfl (Nat.le_of_ble_eq_true rfl) hdg (fun H1 locs1 a b d => kk H1 locs1 _ rfl ⟨a, b, d⟩)
theorem g_Re_joinedKnown (S : CallFix p m c cc nL s args gtbl R_Re) (hK : gK D (tyA cA) s) (hP : va_P D classes (wC ad cA (te, ru, au, re, la, sp, le)) H) (hdg : decode cc pc = .ok (.getfield 48, 3)) (kk : W p l e R s m args below meth c H locs cells slots Q (F0 m (pc + 3) ls (.int (Re_joinedKnown re) :: rest))) : W p l e R s m args below meth c H locs cells slots Q (F0 m pc ls (.ref (ad 18) :: rest)) :=
  va_get (D := D) (ci := 4) (v := .int (Re_joinedKnown re)) (C := R_Re) (T := F_Re) (N := 8) S.1 S.2.1 S.2.2.2.2 u_Re S.2.2.2.1 hK.1 hP 18 rfl rfl 7 (by decide) (S.2.2.2.2 _ fl_Re_joinedKnown) (fun _ h => h) rfl hdg kk
theorem q_Re_joinedKnown (S : CallFix p m c cc nL s args gtbl R_Re) (hK : gK D (tyA cA) s) (I : gIn D A s (wC ad cA) (te, ru, au, re, la, sp, le) H locs) {v : Int32} (hn : narrow .boolean (.int v) = .int v) (hf : fits .boolean (.int v) = true) (hdg : decode cc pc = .ok (.putfield 48, 3)) (kk : ∀ (H1 : Heap) (locs1 : List Loc) (z : Re), z = Re_joinedKnown_s re v → gIn D A s (wC ad cA) (te, ru, au, z, la, sp, le) H1 locs1 → W p l e R s m args below meth c H1 locs1 cells slots Q (F0 m (pc + 3) ls rest)) : W p l e R s m args below meth c H locs cells slots Q (F0 m pc ls (.int v :: .ref (ad 18) :: rest)) :=
  va_put (D := D) (ci := 4) (v := .int v) (ty := .boolean) (C := R_Re) (T := F_Re) (N := 8) S.1 S.2.1 S.2.2.2.2 u_Re t_Re t_Re_ok n_Re S.2.2.2.1 hK.1 I.1 I.2.1 I.2.2 18 rfl rfl 7 (by decide) (S.2.2.2.2 _ fl_Re_joinedKnown) (fun _ h => h) rfl (by decide +kernel) hn hf (Nat.le_of_ble_eq_true rfl) hdg (fun H1 locs1 a b d => kk H1 locs1 _ rfl ⟨a, b, d⟩)
theorem a_Re_reached (S : CallFix p m c cc nL s args gtbl own) (hK : gK D (tyA cA) s) (hP : va_P D classes (wC ad cA (te, ru, au, re, la, sp, le)) H) {i : Int32} (hin : vp_in i 48) (hdg : decode cc pc = .ok (.laload, 1)) (kk : W p l e R s m args below meth c H locs cells slots Q (F0 m (pc + 1) ls (.long (Re_reached re i.toNatClampNeg) :: rest))) : W p l e R s m args below meth c H locs cells slots Q (F0 m pc ls (.int i :: .ref (ad 19) :: rest)) :=
  va_lald S.1 S.2.1 hK.1 hP 19 1 rfl rfl hin hdg kk
theorem s_Re_reached (S : CallFix p m c cc nL s args gtbl own) (hK : gK D (tyA cA) s) (I : gIn D A s (wC ad cA) (te, ru, au, re, la, sp, le) H locs) {i : Int32} {x : Int64} (hin : vp_in i 48) (hdg : decode cc pc = .ok (.lastore, 1)) (kk : ∀ (H1 : Heap) (locs1 : List Loc) (z : Re), z = Re_reached_s re (vp_updL (Re_reached re) i.toNatClampNeg x) → gIn D A s (wC ad cA) (te, ru, au, z, la, sp, le) H1 locs1 → W p l e R s m args below meth c H1 locs1 cells slots Q (F0 m (pc + 1) ls rest)) : W p l e R s m args below meth c H locs cells slots Q (F0 m pc ls (.long x :: .int i :: .ref (ad 19) :: rest)) :=
  va_last S.1 S.2.1 hK.1 I.1 I.2.1 I.2.2 19 1 rfl rfl hin hdg (fun H1 locs1 a b d => kk H1 locs1 _ rfl ⟨a, b, d⟩)
theorem n_Re_reached (S : CallFix p m c cc nL s args gtbl own) (hK : gK D (tyA cA) s) (hP : va_P D classes (wC ad cA (te, ru, au, re, la, sp, le)) H) (hdg : decode cc pc = .ok (.arraylength, 1)) (kk : W p l e R s m args below meth c H locs cells slots Q (F0 m (pc + 1) ls (.int 48 :: rest))) : W p l e R s m args below meth c H locs cells slots Q (F0 m pc ls (.ref (ad 19) :: rest)) :=
  va_alen S.1 S.2.1 hK.1 hP 19 1 rfl rfl (v := 48) rfl hdg kk
theorem a_Re_joined (S : CallFix p m c cc nL s args gtbl own) (hK : gK D (tyA cA) s) (hP : va_P D classes (wC ad cA (te, ru, au, re, la, sp, le)) H) {i : Int32} (hin : vp_in i 48) (hdg : decode cc pc = .ok (.laload, 1)) (kk : W p l e R s m args below meth c H locs cells slots Q (F0 m (pc + 1) ls (.long (Re_joined re i.toNatClampNeg) :: rest))) : W p l e R s m args below meth c H locs cells slots Q (F0 m pc ls (.int i :: .ref (ad 20) :: rest)) :=
  va_lald S.1 S.2.1 hK.1 hP 20 1 rfl rfl hin hdg kk
theorem s_Re_joined (S : CallFix p m c cc nL s args gtbl own) (hK : gK D (tyA cA) s) (I : gIn D A s (wC ad cA) (te, ru, au, re, la, sp, le) H locs) {i : Int32} {x : Int64} (hin : vp_in i 48) (hdg : decode cc pc = .ok (.lastore, 1)) (kk : ∀ (H1 : Heap) (locs1 : List Loc) (z : Re), z = Re_joined_s re (vp_updL (Re_joined re) i.toNatClampNeg x) → gIn D A s (wC ad cA) (te, ru, au, z, la, sp, le) H1 locs1 → W p l e R s m args below meth c H1 locs1 cells slots Q (F0 m (pc + 1) ls rest)) : W p l e R s m args below meth c H locs cells slots Q (F0 m pc ls (.long x :: .int i :: .ref (ad 20) :: rest)) :=
  va_last S.1 S.2.1 hK.1 I.1 I.2.1 I.2.2 20 1 rfl rfl hin hdg (fun H1 locs1 a b d => kk H1 locs1 _ rfl ⟨a, b, d⟩)
theorem n_Re_joined (S : CallFix p m c cc nL s args gtbl own) (hK : gK D (tyA cA) s) (hP : va_P D classes (wC ad cA (te, ru, au, re, la, sp, le)) H) (hdg : decode cc pc = .ok (.arraylength, 1)) (kk : W p l e R s m args below meth c H locs cells slots Q (F0 m (pc + 1) ls (.int 48 :: rest))) : W p l e R s m args below meth c H locs cells slots Q (F0 m pc ls (.ref (ad 20) :: rest)) :=
  va_alen S.1 S.2.1 hK.1 hP 20 1 rfl rfl (v := 48) rfl hdg kk
theorem a_Re_least (S : CallFix p m c cc nL s args gtbl own) (hK : gK D (tyA cA) s) (hP : va_P D classes (wC ad cA (te, ru, au, re, la, sp, le)) H) {i : Int32} (hin : vp_in i 48) (hdg : decode cc pc = .ok (.iaload, 1)) (kk : W p l e R s m args below meth c H locs cells slots Q (F0 m (pc + 1) ls (.int (Re_least re i.toNatClampNeg) :: rest))) : W p l e R s m args below meth c H locs cells slots Q (F0 m pc ls (.int i :: .ref (ad 21) :: rest)) :=
  va_iald S.1 S.2.1 hK.1 hP 21 0 rfl rfl hin hdg kk
theorem s_Re_least (S : CallFix p m c cc nL s args gtbl own) (hK : gK D (tyA cA) s) (I : gIn D A s (wC ad cA) (te, ru, au, re, la, sp, le) H locs) {i : Int32} {x : Int32} (hin : vp_in i 48) (hdg : decode cc pc = .ok (.iastore, 1)) (kk : ∀ (H1 : Heap) (locs1 : List Loc) (z : Re), z = Re_least_s re (upd (Re_least re) i.toNatClampNeg x) → gIn D A s (wC ad cA) (te, ru, au, z, la, sp, le) H1 locs1 → W p l e R s m args below meth c H1 locs1 cells slots Q (F0 m (pc + 1) ls rest)) : W p l e R s m args below meth c H locs cells slots Q (F0 m pc ls (.int x :: .int i :: .ref (ad 21) :: rest)) :=
  va_iast S.1 S.2.1 hK.1 I.1 I.2.1 I.2.2 21 0 rfl rfl hin hdg (fun H1 locs1 a b d => kk H1 locs1 _ rfl ⟨a, b, d⟩)
theorem n_Re_least (S : CallFix p m c cc nL s args gtbl own) (hK : gK D (tyA cA) s) (hP : va_P D classes (wC ad cA (te, ru, au, re, la, sp, le)) H) (hdg : decode cc pc = .ok (.arraylength, 1)) (kk : W p l e R s m args below meth c H locs cells slots Q (F0 m (pc + 1) ls (.int 48 :: rest))) : W p l e R s m args below meth c H locs cells slots Q (F0 m pc ls (.ref (ad 21) :: rest)) :=
  va_alen S.1 S.2.1 hK.1 hP 21 0 rfl rfl (v := 48) rfl hdg kk
theorem g_La_terms (S : CallFix p m c cc nL s args gtbl R_La) (hK : gK D (tyA cA) s) (hP : va_P D classes (wC ad cA (te, ru, au, re, la, sp, le)) H) (hdg : decode cc pc = .ok (.getfield 15, 3)) (kk : W p l e R s m args below meth c H locs cells slots Q (F0 m (pc + 3) ls (.ref (ad 1) :: rest))) : W p l e R s m args below meth c H locs cells slots Q (F0 m pc ls (.ref (ad 22) :: rest)) :=
  va_get (D := D) (ci := 5) (v := .ref (ad 1)) (C := R_La) (T := F_La) (N := 4) S.1 S.2.1 S.2.2.2.2 u_La S.2.2.2.1 hK.1 hP 22 rfl rfl 0 (by decide) (S.2.2.2.2 _ fl_La_terms) (fun _ h => h) rfl hdg kk
theorem g_La_automaton (S : CallFix p m c cc nL s args gtbl R_La) (hK : gK D (tyA cA) s) (hP : va_P D classes (wC ad cA (te, ru, au, re, la, sp, le)) H) (hdg : decode cc pc = .ok (.getfield 19, 3)) (kk : W p l e R s m args below meth c H locs cells slots Q (F0 m (pc + 3) ls (.ref (ad 12) :: rest))) : W p l e R s m args below meth c H locs cells slots Q (F0 m pc ls (.ref (ad 22) :: rest)) :=
  va_get (D := D) (ci := 5) (v := .ref (ad 12)) (C := R_La) (T := F_La) (N := 4) S.1 S.2.1 S.2.2.2.2 u_La S.2.2.2.1 hK.1 hP 22 rfl rfl 1 (by decide) (S.2.2.2.2 _ fl_La_automaton) (fun _ h => h) rfl hdg kk
theorem g_La_relations (S : CallFix p m c cc nL s args gtbl R_La) (hK : gK D (tyA cA) s) (hP : va_P D classes (wC ad cA (te, ru, au, re, la, sp, le)) H) (hdg : decode cc pc = .ok (.getfield 23, 3)) (kk : W p l e R s m args below meth c H locs cells slots Q (F0 m (pc + 3) ls (.ref (ad 18) :: rest))) : W p l e R s m args below meth c H locs cells slots Q (F0 m pc ls (.ref (ad 22) :: rest)) :=
  va_get (D := D) (ci := 5) (v := .ref (ad 18)) (C := R_La) (T := F_La) (N := 4) S.1 S.2.1 S.2.2.2.2 u_La S.2.2.2.1 hK.1 hP 22 rfl rfl 2 (by decide) (S.2.2.2.2 _ fl_La_relations) (fun _ h => h) rfl hdg kk
theorem g_La_states (S : CallFix p m c cc nL s args gtbl R_La) (hK : gK D (tyA cA) s) (hP : va_P D classes (wC ad cA (te, ru, au, re, la, sp, le)) H) (hdg : decode cc pc = .ok (.getfield 9, 3)) (kk : W p l e R s m args below meth c H locs cells slots Q (F0 m (pc + 3) ls (.ref (ad 23) :: rest))) : W p l e R s m args below meth c H locs cells slots Q (F0 m pc ls (.ref (ad 22) :: rest)) :=
  va_get (D := D) (ci := 5) (v := .ref (ad 23)) (C := R_La) (T := F_La) (N := 4) S.1 S.2.1 S.2.2.2.2 u_La S.2.2.2.1 hK.1 hP 22 rfl rfl 3 (by decide) (S.2.2.2.2 _ fl_La_states) (fun _ h => h) rfl hdg kk
theorem a_La_states (S : CallFix p m c cc nL s args gtbl own) (hK : gK D (tyA cA) s) (hP : va_P D classes (wC ad cA (te, ru, au, re, la, sp, le)) H) {i : Int32} (hin : vp_in i 48) (hdg : decode cc pc = .ok (.iaload, 1)) (kk : W p l e R s m args below meth c H locs cells slots Q (F0 m (pc + 1) ls (.int (La_states la i.toNatClampNeg) :: rest))) : W p l e R s m args below meth c H locs cells slots Q (F0 m pc ls (.int i :: .ref (ad 23) :: rest)) :=
  va_iald S.1 S.2.1 hK.1 hP 23 0 rfl rfl hin hdg kk
theorem s_La_states (S : CallFix p m c cc nL s args gtbl own) (hK : gK D (tyA cA) s) (I : gIn D A s (wC ad cA) (te, ru, au, re, la, sp, le) H locs) {i : Int32} {x : Int32} (hin : vp_in i 48) (hdg : decode cc pc = .ok (.iastore, 1)) (kk : ∀ (H1 : Heap) (locs1 : List Loc) (z : La), z = La_states_s la (upd (La_states la) i.toNatClampNeg x) → gIn D A s (wC ad cA) (te, ru, au, re, z, sp, le) H1 locs1 → W p l e R s m args below meth c H1 locs1 cells slots Q (F0 m (pc + 1) ls rest)) : W p l e R s m args below meth c H locs cells slots Q (F0 m pc ls (.int x :: .int i :: .ref (ad 23) :: rest)) :=
  va_iast S.1 S.2.1 hK.1 I.1 I.2.1 I.2.2 23 0 rfl rfl hin hdg (fun H1 locs1 a b d => kk H1 locs1 _ rfl ⟨a, b, d⟩)
theorem n_La_states (S : CallFix p m c cc nL s args gtbl own) (hK : gK D (tyA cA) s) (hP : va_P D classes (wC ad cA (te, ru, au, re, la, sp, le)) H) (hdg : decode cc pc = .ok (.arraylength, 1)) (kk : W p l e R s m args below meth c H locs cells slots Q (F0 m (pc + 1) ls (.int 48 :: rest))) : W p l e R s m args below meth c H locs cells slots Q (F0 m pc ls (.ref (ad 23) :: rest)) :=
  va_alen S.1 S.2.1 hK.1 hP 23 0 rfl rfl (v := 48) rfl hdg kk
theorem g_Sp_terms (S : CallFix p m c cc nL s args gtbl R_Sp) (hK : gK D (tyA cA) s) (hP : va_P D classes (wC ad cA (te, ru, au, re, la, sp, le)) H) (hdg : decode cc pc = .ok (.getfield 23, 3)) (kk : W p l e R s m args below meth c H locs cells slots Q (F0 m (pc + 3) ls (.ref (ad 1) :: rest))) : W p l e R s m args below meth c H locs cells slots Q (F0 m pc ls (.ref (ad 24) :: rest)) :=
  va_get (D := D) (ci := 6) (v := .ref (ad 1)) (C := R_Sp) (T := F_Sp) (N := 5) S.1 S.2.1 S.2.2.2.2 u_Sp S.2.2.2.1 hK.1 hP 24 rfl rfl 0 (by decide) (S.2.2.2.2 _ fl_Sp_terms) (fun _ h => h) rfl hdg kk
theorem g_Sp_rules (S : CallFix p m c cc nL s args gtbl R_Sp) (hK : gK D (tyA cA) s) (hP : va_P D classes (wC ad cA (te, ru, au, re, la, sp, le)) H) (hdg : decode cc pc = .ok (.getfield 27, 3)) (kk : W p l e R s m args below meth c H locs cells slots Q (F0 m (pc + 3) ls (.ref (ad 9) :: rest))) : W p l e R s m args below meth c H locs cells slots Q (F0 m pc ls (.ref (ad 24) :: rest)) :=
  va_get (D := D) (ci := 6) (v := .ref (ad 9)) (C := R_Sp) (T := F_Sp) (N := 5) S.1 S.2.1 S.2.2.2.2 u_Sp S.2.2.2.1 hK.1 hP 24 rfl rfl 1 (by decide) (S.2.2.2.2 _ fl_Sp_rules) (fun _ h => h) rfl hdg kk
theorem g_Sp_counts (S : CallFix p m c cc nL s args gtbl R_Sp) (hK : gK D (tyA cA) s) (hP : va_P D classes (wC ad cA (te, ru, au, re, la, sp, le)) H) (hdg : decode cc pc = .ok (.getfield 9, 3)) (kk : W p l e R s m args below meth c H locs cells slots Q (F0 m (pc + 3) ls (.ref (ad 25) :: rest))) : W p l e R s m args below meth c H locs cells slots Q (F0 m pc ls (.ref (ad 24) :: rest)) :=
  va_get (D := D) (ci := 6) (v := .ref (ad 25)) (C := R_Sp) (T := F_Sp) (N := 5) S.1 S.2.1 S.2.2.2.2 u_Sp S.2.2.2.1 hK.1 hP 24 rfl rfl 2 (by decide) (S.2.2.2.2 _ fl_Sp_counts) (fun _ h => h) rfl hdg kk
theorem g_Sp_path (S : CallFix p m c cc nL s args gtbl R_Sp) (hK : gK D (tyA cA) s) (hP : va_P D classes (wC ad cA (te, ru, au, re, la, sp, le)) H) (hdg : decode cc pc = .ok (.getfield 15, 3)) (kk : W p l e R s m args below meth c H locs cells slots Q (F0 m (pc + 3) ls (.ref (ad 26) :: rest))) : W p l e R s m args below meth c H locs cells slots Q (F0 m pc ls (.ref (ad 24) :: rest)) :=
  va_get (D := D) (ci := 6) (v := .ref (ad 26)) (C := R_Sp) (T := F_Sp) (N := 5) S.1 S.2.1 S.2.2.2.2 u_Sp S.2.2.2.1 hK.1 hP 24 rfl rfl 3 (by decide) (S.2.2.2.2 _ fl_Sp_path) (fun _ h => h) rfl hdg kk
theorem g_Sp_wentFirst (S : CallFix p m c cc nL s args gtbl R_Sp) (hK : gK D (tyA cA) s) (hP : va_P D classes (wC ad cA (te, ru, au, re, la, sp, le)) H) (hdg : decode cc pc = .ok (.getfield 19, 3)) (kk : W p l e R s m args below meth c H locs cells slots Q (F0 m (pc + 3) ls (.ref (ad 27) :: rest))) : W p l e R s m args below meth c H locs cells slots Q (F0 m pc ls (.ref (ad 24) :: rest)) :=
  va_get (D := D) (ci := 6) (v := .ref (ad 27)) (C := R_Sp) (T := F_Sp) (N := 5) S.1 S.2.1 S.2.2.2.2 u_Sp S.2.2.2.1 hK.1 hP 24 rfl rfl 4 (by decide) (S.2.2.2.2 _ fl_Sp_wentFirst) (fun _ h => h) rfl hdg kk
theorem a_Sp_counts (S : CallFix p m c cc nL s args gtbl own) (hK : gK D (tyA cA) s) (hP : va_P D classes (wC ad cA (te, ru, au, re, la, sp, le)) H) {i : Int32} (hin : vp_in i 48) (hdg : decode cc pc = .ok (.laload, 1)) (kk : W p l e R s m args below meth c H locs cells slots Q (F0 m (pc + 1) ls (.long (Sp_counts sp i.toNatClampNeg) :: rest))) : W p l e R s m args below meth c H locs cells slots Q (F0 m pc ls (.int i :: .ref (ad 25) :: rest)) :=
  va_lald S.1 S.2.1 hK.1 hP 25 1 rfl rfl hin hdg kk
theorem s_Sp_counts (S : CallFix p m c cc nL s args gtbl own) (hK : gK D (tyA cA) s) (I : gIn D A s (wC ad cA) (te, ru, au, re, la, sp, le) H locs) {i : Int32} {x : Int64} (hin : vp_in i 48) (hdg : decode cc pc = .ok (.lastore, 1)) (kk : ∀ (H1 : Heap) (locs1 : List Loc) (z : Sp), z = Sp_counts_s sp (vp_updL (Sp_counts sp) i.toNatClampNeg x) → gIn D A s (wC ad cA) (te, ru, au, re, la, z, le) H1 locs1 → W p l e R s m args below meth c H1 locs1 cells slots Q (F0 m (pc + 1) ls rest)) : W p l e R s m args below meth c H locs cells slots Q (F0 m pc ls (.long x :: .int i :: .ref (ad 25) :: rest)) :=
  va_last S.1 S.2.1 hK.1 I.1 I.2.1 I.2.2 25 1 rfl rfl hin hdg (fun H1 locs1 a b d => kk H1 locs1 _ rfl ⟨a, b, d⟩)
theorem n_Sp_counts (S : CallFix p m c cc nL s args gtbl own) (hK : gK D (tyA cA) s) (hP : va_P D classes (wC ad cA (te, ru, au, re, la, sp, le)) H) (hdg : decode cc pc = .ok (.arraylength, 1)) (kk : W p l e R s m args below meth c H locs cells slots Q (F0 m (pc + 1) ls (.int 48 :: rest))) : W p l e R s m args below meth c H locs cells slots Q (F0 m pc ls (.ref (ad 25) :: rest)) :=
  va_alen S.1 S.2.1 hK.1 hP 25 1 rfl rfl (v := 48) rfl hdg kk
theorem a_Sp_path (S : CallFix p m c cc nL s args gtbl own) (hK : gK D (tyA cA) s) (hP : va_P D classes (wC ad cA (te, ru, au, re, la, sp, le)) H) {i : Int32} (hin : vp_in i 48) (hdg : decode cc pc = .ok (.iaload, 1)) (kk : W p l e R s m args below meth c H locs cells slots Q (F0 m (pc + 1) ls (.int (Sp_path sp i.toNatClampNeg) :: rest))) : W p l e R s m args below meth c H locs cells slots Q (F0 m pc ls (.int i :: .ref (ad 26) :: rest)) :=
  va_iald S.1 S.2.1 hK.1 hP 26 0 rfl rfl hin hdg kk
theorem s_Sp_path (S : CallFix p m c cc nL s args gtbl own) (hK : gK D (tyA cA) s) (I : gIn D A s (wC ad cA) (te, ru, au, re, la, sp, le) H locs) {i : Int32} {x : Int32} (hin : vp_in i 48) (hdg : decode cc pc = .ok (.iastore, 1)) (kk : ∀ (H1 : Heap) (locs1 : List Loc) (z : Sp), z = Sp_path_s sp (upd (Sp_path sp) i.toNatClampNeg x) → gIn D A s (wC ad cA) (te, ru, au, re, la, z, le) H1 locs1 → W p l e R s m args below meth c H1 locs1 cells slots Q (F0 m (pc + 1) ls rest)) : W p l e R s m args below meth c H locs cells slots Q (F0 m pc ls (.int x :: .int i :: .ref (ad 26) :: rest)) :=
  va_iast S.1 S.2.1 hK.1 I.1 I.2.1 I.2.2 26 0 rfl rfl hin hdg (fun H1 locs1 a b d => kk H1 locs1 _ rfl ⟨a, b, d⟩)
theorem n_Sp_path (S : CallFix p m c cc nL s args gtbl own) (hK : gK D (tyA cA) s) (hP : va_P D classes (wC ad cA (te, ru, au, re, la, sp, le)) H) (hdg : decode cc pc = .ok (.arraylength, 1)) (kk : W p l e R s m args below meth c H locs cells slots Q (F0 m (pc + 1) ls (.int 48 :: rest))) : W p l e R s m args below meth c H locs cells slots Q (F0 m pc ls (.ref (ad 26) :: rest)) :=
  va_alen S.1 S.2.1 hK.1 hP 26 0 rfl rfl (v := 48) rfl hdg kk
theorem a_Sp_wentFirst (S : CallFix p m c cc nL s args gtbl own) (hK : gK D (tyA cA) s) (hP : va_P D classes (wC ad cA (te, ru, au, re, la, sp, le)) H) {i : Int32} (hin : vp_in i 48) (hdg : decode cc pc = .ok (.baload, 1)) (kk : W p l e R s m args below meth c H locs cells slots Q (F0 m (pc + 1) ls (.int (Sp_wentFirst sp i.toNatClampNeg) :: rest))) : W p l e R s m args below meth c H locs cells slots Q (F0 m pc ls (.int i :: .ref (ad 27) :: rest)) :=
  va_zald S.1 S.2.1 hK.1 hP 27 2 rfl rfl hin hdg kk
theorem s_Sp_wentFirst (S : CallFix p m c cc nL s args gtbl own) (hK : gK D (tyA cA) s) (I : gIn D A s (wC ad cA) (te, ru, au, re, la, sp, le) H locs) {i : Int32} {x : Int32} (hin : vp_in i 48) (hdg : decode cc pc = .ok (.bastore, 1)) (kk : ∀ (H1 : Heap) (locs1 : List Loc) (z : Sp), z = Sp_wentFirst_s sp (upd (Sp_wentFirst sp) i.toNatClampNeg (vp_nar .boolean x)) → gIn D A s (wC ad cA) (te, ru, au, re, la, z, le) H1 locs1 → W p l e R s m args below meth c H1 locs1 cells slots Q (F0 m (pc + 1) ls rest)) : W p l e R s m args below meth c H locs cells slots Q (F0 m pc ls (.int x :: .int i :: .ref (ad 27) :: rest)) :=
  va_zast S.1 S.2.1 hK.1 I.1 I.2.1 I.2.2 27 2 rfl rfl hin hdg (fun H1 locs1 a b d => kk H1 locs1 _ rfl ⟨a, b, d⟩)
theorem n_Sp_wentFirst (S : CallFix p m c cc nL s args gtbl own) (hK : gK D (tyA cA) s) (hP : va_P D classes (wC ad cA (te, ru, au, re, la, sp, le)) H) (hdg : decode cc pc = .ok (.arraylength, 1)) (kk : W p l e R s m args below meth c H locs cells slots Q (F0 m (pc + 1) ls (.int 48 :: rest))) : W p l e R s m args below meth c H locs cells slots Q (F0 m pc ls (.ref (ad 27) :: rest)) :=
  va_alen S.1 S.2.1 hK.1 hP 27 2 rfl rfl (v := 48) rfl hdg kk
theorem g_Le_terms (S : CallFix p m c cc nL s args gtbl R_Le) (hK : gK D (tyA cA) s) (hP : va_P D classes (wC ad cA (te, ru, au, re, la, sp, le)) H) (hdg : decode cc pc = .ok (.getfield 35, 3)) (kk : W p l e R s m args below meth c H locs cells slots Q (F0 m (pc + 3) ls (.ref (ad 1) :: rest))) : W p l e R s m args below meth c H locs cells slots Q (F0 m pc ls (.ref (ad 28) :: rest)) :=
  va_get (D := D) (ci := 7) (v := .ref (ad 1)) (C := R_Le) (T := F_Le) (N := 10) S.1 S.2.1 S.2.2.2.2 u_Le S.2.2.2.1 hK.1 hP 28 rfl rfl 0 (by decide) (S.2.2.2.2 _ fl_Le_terms) (fun _ h => h) rfl hdg kk
theorem g_Le_rules (S : CallFix p m c cc nL s args gtbl R_Le) (hK : gK D (tyA cA) s) (hP : va_P D classes (wC ad cA (te, ru, au, re, la, sp, le)) H) (hdg : decode cc pc = .ok (.getfield 39, 3)) (kk : W p l e R s m args below meth c H locs cells slots Q (F0 m (pc + 3) ls (.ref (ad 9) :: rest))) : W p l e R s m args below meth c H locs cells slots Q (F0 m pc ls (.ref (ad 28) :: rest)) :=
  va_get (D := D) (ci := 7) (v := .ref (ad 9)) (C := R_Le) (T := F_Le) (N := 10) S.1 S.2.1 S.2.2.2.2 u_Le S.2.2.2.1 hK.1 hP 28 rfl rfl 1 (by decide) (S.2.2.2.2 _ fl_Le_rules) (fun _ h => h) rfl hdg kk
theorem g_Le_after (S : CallFix p m c cc nL s args gtbl R_Le) (hK : gK D (tyA cA) s) (hP : va_P D classes (wC ad cA (te, ru, au, re, la, sp, le)) H) (hdg : decode cc pc = .ok (.getfield 11, 3)) (kk : W p l e R s m args below meth c H locs cells slots Q (F0 m (pc + 3) ls (.ref (ad 29) :: rest))) : W p l e R s m args below meth c H locs cells slots Q (F0 m pc ls (.ref (ad 28) :: rest)) :=
  va_get (D := D) (ci := 7) (v := .ref (ad 29)) (C := R_Le) (T := F_Le) (N := 10) S.1 S.2.1 S.2.2.2.2 u_Le S.2.2.2.1 hK.1 hP 28 rfl rfl 2 (by decide) (S.2.2.2.2 _ fl_Le_after) (fun _ h => h) rfl hdg kk
theorem g_Le_counted (S : CallFix p m c cc nL s args gtbl R_Le) (hK : gK D (tyA cA) s) (hP : va_P D classes (wC ad cA (te, ru, au, re, la, sp, le)) H) (hdg : decode cc pc = .ok (.getfield 15, 3)) (kk : W p l e R s m args below meth c H locs cells slots Q (F0 m (pc + 3) ls (.ref (ad 30) :: rest))) : W p l e R s m args below meth c H locs cells slots Q (F0 m pc ls (.ref (ad 28) :: rest)) :=
  va_get (D := D) (ci := 7) (v := .ref (ad 30)) (C := R_Le) (T := F_Le) (N := 10) S.1 S.2.1 S.2.2.2.2 u_Le S.2.2.2.1 hK.1 hP 28 rfl rfl 3 (by decide) (S.2.2.2.2 _ fl_Le_counted) (fun _ h => h) rfl hdg kk
theorem g_Le_expanded (S : CallFix p m c cc nL s args gtbl R_Le) (hK : gK D (tyA cA) s) (hP : va_P D classes (wC ad cA (te, ru, au, re, la, sp, le)) H) (hdg : decode cc pc = .ok (.getfield 19, 3)) (kk : W p l e R s m args below meth c H locs cells slots Q (F0 m (pc + 3) ls (.ref (ad 31) :: rest))) : W p l e R s m args below meth c H locs cells slots Q (F0 m pc ls (.ref (ad 28) :: rest)) :=
  va_get (D := D) (ci := 7) (v := .ref (ad 31)) (C := R_Le) (T := F_Le) (N := 10) S.1 S.2.1 S.2.2.2.2 u_Le S.2.2.2.1 hK.1 hP 28 rfl rfl 4 (by decide) (S.2.2.2.2 _ fl_Le_expanded) (fun _ h => h) rfl hdg kk
theorem g_Le_inLevels (S : CallFix p m c cc nL s args gtbl R_Le) (hK : gK D (tyA cA) s) (hP : va_P D classes (wC ad cA (te, ru, au, re, la, sp, le)) H) (hdg : decode cc pc = .ok (.getfield 22, 3)) (kk : W p l e R s m args below meth c H locs cells slots Q (F0 m (pc + 3) ls (.ref (ad 32) :: rest))) : W p l e R s m args below meth c H locs cells slots Q (F0 m pc ls (.ref (ad 28) :: rest)) :=
  va_get (D := D) (ci := 7) (v := .ref (ad 32)) (C := R_Le) (T := F_Le) (N := 10) S.1 S.2.1 S.2.2.2.2 u_Le S.2.2.2.1 hK.1 hP 28 rfl rfl 5 (by decide) (S.2.2.2.2 _ fl_Le_inLevels) (fun _ h => h) rfl hdg kk
theorem g_Le_newest (S : CallFix p m c cc nL s args gtbl R_Le) (hK : gK D (tyA cA) s) (hP : va_P D classes (wC ad cA (te, ru, au, re, la, sp, le)) H) (hdg : decode cc pc = .ok (.getfield 25, 3)) (kk : W p l e R s m args below meth c H locs cells slots Q (F0 m (pc + 3) ls (.ref (ad 33) :: rest))) : W p l e R s m args below meth c H locs cells slots Q (F0 m pc ls (.ref (ad 28) :: rest)) :=
  va_get (D := D) (ci := 7) (v := .ref (ad 33)) (C := R_Le) (T := F_Le) (N := 10) S.1 S.2.1 S.2.2.2.2 u_Le S.2.2.2.1 hK.1 hP 28 rfl rfl 6 (by decide) (S.2.2.2.2 _ fl_Le_newest) (fun _ h => h) rfl hdg kk
theorem g_Le_coming (S : CallFix p m c cc nL s args gtbl R_Le) (hK : gK D (tyA cA) s) (hP : va_P D classes (wC ad cA (te, ru, au, re, la, sp, le)) H) (hdg : decode cc pc = .ok (.getfield 28, 3)) (kk : W p l e R s m args below meth c H locs cells slots Q (F0 m (pc + 3) ls (.ref (ad 34) :: rest))) : W p l e R s m args below meth c H locs cells slots Q (F0 m pc ls (.ref (ad 28) :: rest)) :=
  va_get (D := D) (ci := 7) (v := .ref (ad 34)) (C := R_Le) (T := F_Le) (N := 10) S.1 S.2.1 S.2.2.2.2 u_Le S.2.2.2.1 hK.1 hP 28 rfl rfl 7 (by decide) (S.2.2.2.2 _ fl_Le_coming) (fun _ h => h) rfl hdg kk
theorem g_Le_waiting (S : CallFix p m c cc nL s args gtbl R_Le) (hK : gK D (tyA cA) s) (hP : va_P D classes (wC ad cA (te, ru, au, re, la, sp, le)) H) (hdg : decode cc pc = .ok (.getfield 31, 3)) (kk : W p l e R s m args below meth c H locs cells slots Q (F0 m (pc + 3) ls (.ref (ad 35) :: rest))) : W p l e R s m args below meth c H locs cells slots Q (F0 m pc ls (.ref (ad 28) :: rest)) :=
  va_get (D := D) (ci := 7) (v := .ref (ad 35)) (C := R_Le) (T := F_Le) (N := 10) S.1 S.2.1 S.2.2.2.2 u_Le S.2.2.2.1 hK.1 hP 28 rfl rfl 8 (by decide) (S.2.2.2.2 _ fl_Le_waiting) (fun _ h => h) rfl hdg kk
theorem g_Le_countedTerms (S : CallFix p m c cc nL s args gtbl R_Le) (hK : gK D (tyA cA) s) (hP : va_P D classes (wC ad cA (te, ru, au, re, la, sp, le)) H) (hdg : decode cc pc = .ok (.getfield 53, 3)) (kk : W p l e R s m args below meth c H locs cells slots Q (F0 m (pc + 3) ls (.int (Le_countedTerms le) :: rest))) : W p l e R s m args below meth c H locs cells slots Q (F0 m pc ls (.ref (ad 28) :: rest)) :=
  va_get (D := D) (ci := 7) (v := .int (Le_countedTerms le)) (C := R_Le) (T := F_Le) (N := 10) S.1 S.2.1 S.2.2.2.2 u_Le S.2.2.2.1 hK.1 hP 28 rfl rfl 9 (by decide) (S.2.2.2.2 _ fl_Le_countedTerms) (fun _ h => h) rfl hdg kk
theorem q_Le_countedTerms (S : CallFix p m c cc nL s args gtbl R_Le) (hK : gK D (tyA cA) s) (I : gIn D A s (wC ad cA) (te, ru, au, re, la, sp, le) H locs) {v : Int32} (hdg : decode cc pc = .ok (.putfield 53, 3)) (kk : ∀ (H1 : Heap) (locs1 : List Loc) (z : Le), z = Le_countedTerms_s le v → gIn D A s (wC ad cA) (te, ru, au, re, la, sp, z) H1 locs1 → W p l e R s m args below meth c H1 locs1 cells slots Q (F0 m (pc + 3) ls rest)) : W p l e R s m args below meth c H locs cells slots Q (F0 m pc ls (.int v :: .ref (ad 28) :: rest)) :=
  va_put (D := D) (ci := 7) (v := .int v) (ty := .int) (C := R_Le) (T := F_Le) (N := 10) S.1 S.2.1 S.2.2.2.2 u_Le t_Le t_Le_ok n_Le S.2.2.2.1 hK.1 I.1 I.2.1 I.2.2 28 rfl rfl 9 (by decide) (S.2.2.2.2 _ fl_Le_countedTerms) (fun _ h => h) rfl (by decide +kernel) rfl rfl (Nat.le_of_ble_eq_true rfl) hdg (fun H1 locs1 a b d => kk H1 locs1 _ rfl ⟨a, b, d⟩)
theorem a_Le_after (S : CallFix p m c cc nL s args gtbl own) (hK : gK D (tyA cA) s) (hP : va_P D classes (wC ad cA (te, ru, au, re, la, sp, le)) H) {i : Int32} (hin : vp_in i 3136) (hdg : decode cc pc = .ok (.laload, 1)) (kk : W p l e R s m args below meth c H locs cells slots Q (F0 m (pc + 1) ls (.long (Le_after le i.toNatClampNeg) :: rest))) : W p l e R s m args below meth c H locs cells slots Q (F0 m pc ls (.int i :: .ref (ad 29) :: rest)) :=
  va_lald S.1 S.2.1 hK.1 hP 29 1 rfl rfl hin hdg kk
theorem s_Le_after (S : CallFix p m c cc nL s args gtbl own) (hK : gK D (tyA cA) s) (I : gIn D A s (wC ad cA) (te, ru, au, re, la, sp, le) H locs) {i : Int32} {x : Int64} (hin : vp_in i 3136) (hdg : decode cc pc = .ok (.lastore, 1)) (kk : ∀ (H1 : Heap) (locs1 : List Loc) (z : Le), z = Le_after_s le (vp_updL (Le_after le) i.toNatClampNeg x) → gIn D A s (wC ad cA) (te, ru, au, re, la, sp, z) H1 locs1 → W p l e R s m args below meth c H1 locs1 cells slots Q (F0 m (pc + 1) ls rest)) : W p l e R s m args below meth c H locs cells slots Q (F0 m pc ls (.long x :: .int i :: .ref (ad 29) :: rest)) :=
  va_last S.1 S.2.1 hK.1 I.1 I.2.1 I.2.2 29 1 rfl rfl hin hdg (fun H1 locs1 a b d => kk H1 locs1 _ rfl ⟨a, b, d⟩)
theorem n_Le_after (S : CallFix p m c cc nL s args gtbl own) (hK : gK D (tyA cA) s) (hP : va_P D classes (wC ad cA (te, ru, au, re, la, sp, le)) H) (hdg : decode cc pc = .ok (.arraylength, 1)) (kk : W p l e R s m args below meth c H locs cells slots Q (F0 m (pc + 1) ls (.int 3136 :: rest))) : W p l e R s m args below meth c H locs cells slots Q (F0 m pc ls (.ref (ad 29) :: rest)) :=
  va_alen S.1 S.2.1 hK.1 hP 29 1 rfl rfl (v := 3136) rfl hdg kk
theorem a_Le_counted (S : CallFix p m c cc nL s args gtbl own) (hK : gK D (tyA cA) s) (hP : va_P D classes (wC ad cA (te, ru, au, re, la, sp, le)) H) {i : Int32} (hin : vp_in i 448) (hdg : decode cc pc = .ok (.baload, 1)) (kk : W p l e R s m args below meth c H locs cells slots Q (F0 m (pc + 1) ls (.int (Le_counted le i.toNatClampNeg) :: rest))) : W p l e R s m args below meth c H locs cells slots Q (F0 m pc ls (.int i :: .ref (ad 30) :: rest)) :=
  va_zald S.1 S.2.1 hK.1 hP 30 2 rfl rfl hin hdg kk
theorem s_Le_counted (S : CallFix p m c cc nL s args gtbl own) (hK : gK D (tyA cA) s) (I : gIn D A s (wC ad cA) (te, ru, au, re, la, sp, le) H locs) {i : Int32} {x : Int32} (hin : vp_in i 448) (hdg : decode cc pc = .ok (.bastore, 1)) (kk : ∀ (H1 : Heap) (locs1 : List Loc) (z : Le), z = Le_counted_s le (upd (Le_counted le) i.toNatClampNeg (vp_nar .boolean x)) → gIn D A s (wC ad cA) (te, ru, au, re, la, sp, z) H1 locs1 → W p l e R s m args below meth c H1 locs1 cells slots Q (F0 m (pc + 1) ls rest)) : W p l e R s m args below meth c H locs cells slots Q (F0 m pc ls (.int x :: .int i :: .ref (ad 30) :: rest)) :=
  va_zast S.1 S.2.1 hK.1 I.1 I.2.1 I.2.2 30 2 rfl rfl hin hdg (fun H1 locs1 a b d => kk H1 locs1 _ rfl ⟨a, b, d⟩)
theorem n_Le_counted (S : CallFix p m c cc nL s args gtbl own) (hK : gK D (tyA cA) s) (hP : va_P D classes (wC ad cA (te, ru, au, re, la, sp, le)) H) (hdg : decode cc pc = .ok (.arraylength, 1)) (kk : W p l e R s m args below meth c H locs cells slots Q (F0 m (pc + 1) ls (.int 448 :: rest))) : W p l e R s m args below meth c H locs cells slots Q (F0 m pc ls (.ref (ad 30) :: rest)) :=
  va_alen S.1 S.2.1 hK.1 hP 30 2 rfl rfl (v := 448) rfl hdg kk
theorem a_Le_expanded (S : CallFix p m c cc nL s args gtbl own) (hK : gK D (tyA cA) s) (hP : va_P D classes (wC ad cA (te, ru, au, re, la, sp, le)) H) {i : Int32} (hin : vp_in i 448) (hdg : decode cc pc = .ok (.baload, 1)) (kk : W p l e R s m args below meth c H locs cells slots Q (F0 m (pc + 1) ls (.int (Le_expanded le i.toNatClampNeg) :: rest))) : W p l e R s m args below meth c H locs cells slots Q (F0 m pc ls (.int i :: .ref (ad 31) :: rest)) :=
  va_zald S.1 S.2.1 hK.1 hP 31 2 rfl rfl hin hdg kk
theorem s_Le_expanded (S : CallFix p m c cc nL s args gtbl own) (hK : gK D (tyA cA) s) (I : gIn D A s (wC ad cA) (te, ru, au, re, la, sp, le) H locs) {i : Int32} {x : Int32} (hin : vp_in i 448) (hdg : decode cc pc = .ok (.bastore, 1)) (kk : ∀ (H1 : Heap) (locs1 : List Loc) (z : Le), z = Le_expanded_s le (upd (Le_expanded le) i.toNatClampNeg (vp_nar .boolean x)) → gIn D A s (wC ad cA) (te, ru, au, re, la, sp, z) H1 locs1 → W p l e R s m args below meth c H1 locs1 cells slots Q (F0 m (pc + 1) ls rest)) : W p l e R s m args below meth c H locs cells slots Q (F0 m pc ls (.int x :: .int i :: .ref (ad 31) :: rest)) :=
  va_zast S.1 S.2.1 hK.1 I.1 I.2.1 I.2.2 31 2 rfl rfl hin hdg (fun H1 locs1 a b d => kk H1 locs1 _ rfl ⟨a, b, d⟩)
theorem n_Le_expanded (S : CallFix p m c cc nL s args gtbl own) (hK : gK D (tyA cA) s) (hP : va_P D classes (wC ad cA (te, ru, au, re, la, sp, le)) H) (hdg : decode cc pc = .ok (.arraylength, 1)) (kk : W p l e R s m args below meth c H locs cells slots Q (F0 m (pc + 1) ls (.int 448 :: rest))) : W p l e R s m args below meth c H locs cells slots Q (F0 m pc ls (.ref (ad 31) :: rest)) :=
  va_alen S.1 S.2.1 hK.1 hP 31 2 rfl rfl (v := 448) rfl hdg kk
theorem a_Le_inLevels (S : CallFix p m c cc nL s args gtbl own) (hK : gK D (tyA cA) s) (hP : va_P D classes (wC ad cA (te, ru, au, re, la, sp, le)) H) {i : Int32} (hin : vp_in i 7) (hdg : decode cc pc = .ok (.laload, 1)) (kk : W p l e R s m args below meth c H locs cells slots Q (F0 m (pc + 1) ls (.long (Le_inLevels le i.toNatClampNeg) :: rest))) : W p l e R s m args below meth c H locs cells slots Q (F0 m pc ls (.int i :: .ref (ad 32) :: rest)) :=
  va_lald S.1 S.2.1 hK.1 hP 32 1 rfl rfl hin hdg kk
theorem s_Le_inLevels (S : CallFix p m c cc nL s args gtbl own) (hK : gK D (tyA cA) s) (I : gIn D A s (wC ad cA) (te, ru, au, re, la, sp, le) H locs) {i : Int32} {x : Int64} (hin : vp_in i 7) (hdg : decode cc pc = .ok (.lastore, 1)) (kk : ∀ (H1 : Heap) (locs1 : List Loc) (z : Le), z = Le_inLevels_s le (vp_updL (Le_inLevels le) i.toNatClampNeg x) → gIn D A s (wC ad cA) (te, ru, au, re, la, sp, z) H1 locs1 → W p l e R s m args below meth c H1 locs1 cells slots Q (F0 m (pc + 1) ls rest)) : W p l e R s m args below meth c H locs cells slots Q (F0 m pc ls (.long x :: .int i :: .ref (ad 32) :: rest)) :=
  va_last S.1 S.2.1 hK.1 I.1 I.2.1 I.2.2 32 1 rfl rfl hin hdg (fun H1 locs1 a b d => kk H1 locs1 _ rfl ⟨a, b, d⟩)
theorem n_Le_inLevels (S : CallFix p m c cc nL s args gtbl own) (hK : gK D (tyA cA) s) (hP : va_P D classes (wC ad cA (te, ru, au, re, la, sp, le)) H) (hdg : decode cc pc = .ok (.arraylength, 1)) (kk : W p l e R s m args below meth c H locs cells slots Q (F0 m (pc + 1) ls (.int 7 :: rest))) : W p l e R s m args below meth c H locs cells slots Q (F0 m pc ls (.ref (ad 32) :: rest)) :=
  va_alen S.1 S.2.1 hK.1 hP 32 1 rfl rfl (v := 7) rfl hdg kk
theorem a_Le_newest (S : CallFix p m c cc nL s args gtbl own) (hK : gK D (tyA cA) s) (hP : va_P D classes (wC ad cA (te, ru, au, re, la, sp, le)) H) {i : Int32} (hin : vp_in i 7) (hdg : decode cc pc = .ok (.laload, 1)) (kk : W p l e R s m args below meth c H locs cells slots Q (F0 m (pc + 1) ls (.long (Le_newest le i.toNatClampNeg) :: rest))) : W p l e R s m args below meth c H locs cells slots Q (F0 m pc ls (.int i :: .ref (ad 33) :: rest)) :=
  va_lald S.1 S.2.1 hK.1 hP 33 1 rfl rfl hin hdg kk
theorem s_Le_newest (S : CallFix p m c cc nL s args gtbl own) (hK : gK D (tyA cA) s) (I : gIn D A s (wC ad cA) (te, ru, au, re, la, sp, le) H locs) {i : Int32} {x : Int64} (hin : vp_in i 7) (hdg : decode cc pc = .ok (.lastore, 1)) (kk : ∀ (H1 : Heap) (locs1 : List Loc) (z : Le), z = Le_newest_s le (vp_updL (Le_newest le) i.toNatClampNeg x) → gIn D A s (wC ad cA) (te, ru, au, re, la, sp, z) H1 locs1 → W p l e R s m args below meth c H1 locs1 cells slots Q (F0 m (pc + 1) ls rest)) : W p l e R s m args below meth c H locs cells slots Q (F0 m pc ls (.long x :: .int i :: .ref (ad 33) :: rest)) :=
  va_last S.1 S.2.1 hK.1 I.1 I.2.1 I.2.2 33 1 rfl rfl hin hdg (fun H1 locs1 a b d => kk H1 locs1 _ rfl ⟨a, b, d⟩)
theorem n_Le_newest (S : CallFix p m c cc nL s args gtbl own) (hK : gK D (tyA cA) s) (hP : va_P D classes (wC ad cA (te, ru, au, re, la, sp, le)) H) (hdg : decode cc pc = .ok (.arraylength, 1)) (kk : W p l e R s m args below meth c H locs cells slots Q (F0 m (pc + 1) ls (.int 7 :: rest))) : W p l e R s m args below meth c H locs cells slots Q (F0 m pc ls (.ref (ad 33) :: rest)) :=
  va_alen S.1 S.2.1 hK.1 hP 33 1 rfl rfl (v := 7) rfl hdg kk
theorem a_Le_coming (S : CallFix p m c cc nL s args gtbl own) (hK : gK D (tyA cA) s) (hP : va_P D classes (wC ad cA (te, ru, au, re, la, sp, le)) H) {i : Int32} (hin : vp_in i 7) (hdg : decode cc pc = .ok (.laload, 1)) (kk : W p l e R s m args below meth c H locs cells slots Q (F0 m (pc + 1) ls (.long (Le_coming le i.toNatClampNeg) :: rest))) : W p l e R s m args below meth c H locs cells slots Q (F0 m pc ls (.int i :: .ref (ad 34) :: rest)) :=
  va_lald S.1 S.2.1 hK.1 hP 34 1 rfl rfl hin hdg kk
theorem s_Le_coming (S : CallFix p m c cc nL s args gtbl own) (hK : gK D (tyA cA) s) (I : gIn D A s (wC ad cA) (te, ru, au, re, la, sp, le) H locs) {i : Int32} {x : Int64} (hin : vp_in i 7) (hdg : decode cc pc = .ok (.lastore, 1)) (kk : ∀ (H1 : Heap) (locs1 : List Loc) (z : Le), z = Le_coming_s le (vp_updL (Le_coming le) i.toNatClampNeg x) → gIn D A s (wC ad cA) (te, ru, au, re, la, sp, z) H1 locs1 → W p l e R s m args below meth c H1 locs1 cells slots Q (F0 m (pc + 1) ls rest)) : W p l e R s m args below meth c H locs cells slots Q (F0 m pc ls (.long x :: .int i :: .ref (ad 34) :: rest)) :=
  va_last S.1 S.2.1 hK.1 I.1 I.2.1 I.2.2 34 1 rfl rfl hin hdg (fun H1 locs1 a b d => kk H1 locs1 _ rfl ⟨a, b, d⟩)
theorem n_Le_coming (S : CallFix p m c cc nL s args gtbl own) (hK : gK D (tyA cA) s) (hP : va_P D classes (wC ad cA (te, ru, au, re, la, sp, le)) H) (hdg : decode cc pc = .ok (.arraylength, 1)) (kk : W p l e R s m args below meth c H locs cells slots Q (F0 m (pc + 1) ls (.int 7 :: rest))) : W p l e R s m args below meth c H locs cells slots Q (F0 m pc ls (.ref (ad 34) :: rest)) :=
  va_alen S.1 S.2.1 hK.1 hP 34 1 rfl rfl (v := 7) rfl hdg kk
theorem a_Le_waiting (S : CallFix p m c cc nL s args gtbl own) (hK : gK D (tyA cA) s) (hP : va_P D classes (wC ad cA (te, ru, au, re, la, sp, le)) H) {i : Int32} (hin : vp_in i 448) (hdg : decode cc pc = .ok (.iaload, 1)) (kk : W p l e R s m args below meth c H locs cells slots Q (F0 m (pc + 1) ls (.int (Le_waiting le i.toNatClampNeg) :: rest))) : W p l e R s m args below meth c H locs cells slots Q (F0 m pc ls (.int i :: .ref (ad 35) :: rest)) :=
  va_iald S.1 S.2.1 hK.1 hP 35 0 rfl rfl hin hdg kk
theorem s_Le_waiting (S : CallFix p m c cc nL s args gtbl own) (hK : gK D (tyA cA) s) (I : gIn D A s (wC ad cA) (te, ru, au, re, la, sp, le) H locs) {i : Int32} {x : Int32} (hin : vp_in i 448) (hdg : decode cc pc = .ok (.iastore, 1)) (kk : ∀ (H1 : Heap) (locs1 : List Loc) (z : Le), z = Le_waiting_s le (upd (Le_waiting le) i.toNatClampNeg x) → gIn D A s (wC ad cA) (te, ru, au, re, la, sp, z) H1 locs1 → W p l e R s m args below meth c H1 locs1 cells slots Q (F0 m (pc + 1) ls rest)) : W p l e R s m args below meth c H locs cells slots Q (F0 m pc ls (.int x :: .int i :: .ref (ad 35) :: rest)) :=
  va_iast S.1 S.2.1 hK.1 I.1 I.2.1 I.2.2 35 0 rfl rfl hin hdg (fun H1 locs1 a b d => kk H1 locs1 _ rfl ⟨a, b, d⟩)
theorem n_Le_waiting (S : CallFix p m c cc nL s args gtbl own) (hK : gK D (tyA cA) s) (hP : va_P D classes (wC ad cA (te, ru, au, re, la, sp, le)) H) (hdg : decode cc pc = .ok (.arraylength, 1)) (kk : W p l e R s m args below meth c H locs cells slots Q (F0 m (pc + 1) ls (.int 448 :: rest))) : W p l e R s m args below meth c H locs cells slots Q (F0 m pc ls (.ref (ad 35) :: rest)) :=
  va_alen S.1 S.2.1 hK.1 hP 35 0 rfl rfl (v := 448) rfl hdg kk
end
theorem rv_Gr {D : va_G} {s : State} {H : Heap} {ad : Nat → Nat} {cA : ClassId × ClassId × ClassId} {st : StC} (hK : gK D (tyA cA) s) (hP : va_P D classes (wC ad cA st) H) : ∃ cellB : Cell, H[ad 0]? = some cellB ∧ cellB.vm.isStatics = false ∧ s.vm.findClass R_Gr = some cellB.cls := va_recv (q0 := 0) (ci := 0) hK.1 hP rfl rfl
theorem rv_Te {D : va_G} {s : State} {H : Heap} {ad : Nat → Nat} {cA : ClassId × ClassId × ClassId} {st : StC} (hK : gK D (tyA cA) s) (hP : va_P D classes (wC ad cA st) H) : ∃ cellB : Cell, H[ad 1]? = some cellB ∧ cellB.vm.isStatics = false ∧ s.vm.findClass R_Te = some cellB.cls := va_recv (q0 := 1) (ci := 1) hK.1 hP rfl rfl
theorem rv_Ru {D : va_G} {s : State} {H : Heap} {ad : Nat → Nat} {cA : ClassId × ClassId × ClassId} {st : StC} (hK : gK D (tyA cA) s) (hP : va_P D classes (wC ad cA st) H) : ∃ cellB : Cell, H[ad 9]? = some cellB ∧ cellB.vm.isStatics = false ∧ s.vm.findClass R_Ru = some cellB.cls := va_recv (q0 := 9) (ci := 2) hK.1 hP rfl rfl
theorem rv_Au {D : va_G} {s : State} {H : Heap} {ad : Nat → Nat} {cA : ClassId × ClassId × ClassId} {st : StC} (hK : gK D (tyA cA) s) (hP : va_P D classes (wC ad cA st) H) : ∃ cellB : Cell, H[ad 12]? = some cellB ∧ cellB.vm.isStatics = false ∧ s.vm.findClass R_Au = some cellB.cls := va_recv (q0 := 12) (ci := 3) hK.1 hP rfl rfl
theorem rv_Re {D : va_G} {s : State} {H : Heap} {ad : Nat → Nat} {cA : ClassId × ClassId × ClassId} {st : StC} (hK : gK D (tyA cA) s) (hP : va_P D classes (wC ad cA st) H) : ∃ cellB : Cell, H[ad 18]? = some cellB ∧ cellB.vm.isStatics = false ∧ s.vm.findClass R_Re = some cellB.cls := va_recv (q0 := 18) (ci := 4) hK.1 hP rfl rfl
theorem rv_La {D : va_G} {s : State} {H : Heap} {ad : Nat → Nat} {cA : ClassId × ClassId × ClassId} {st : StC} (hK : gK D (tyA cA) s) (hP : va_P D classes (wC ad cA st) H) : ∃ cellB : Cell, H[ad 22]? = some cellB ∧ cellB.vm.isStatics = false ∧ s.vm.findClass R_La = some cellB.cls := va_recv (q0 := 22) (ci := 5) hK.1 hP rfl rfl
theorem rv_Sp {D : va_G} {s : State} {H : Heap} {ad : Nat → Nat} {cA : ClassId × ClassId × ClassId} {st : StC} (hK : gK D (tyA cA) s) (hP : va_P D classes (wC ad cA st) H) : ∃ cellB : Cell, H[ad 24]? = some cellB ∧ cellB.vm.isStatics = false ∧ s.vm.findClass R_Sp = some cellB.cls := va_recv (q0 := 24) (ci := 6) hK.1 hP rfl rfl
theorem rv_Le {D : va_G} {s : State} {H : Heap} {ad : Nat → Nat} {cA : ClassId × ClassId × ClassId} {st : StC} (hK : gK D (tyA cA) s) (hP : va_P D classes (wC ad cA st) H) : ∃ cellB : Cell, H[ad 28]? = some cellB ∧ cellB.vm.isStatics = false ∧ s.vm.findClass R_Le = some cellB.cls := va_recv (q0 := 28) (ci := 7) hK.1 hP rfl rfl
end
section
abbrev b_Te_isMade : ByteArray := prog_8_method_3_code
def y_Te_isMade : MethodName := ⟨R_Te, "isMade", "(I)Z"⟩
theorem k_Te_isMade : kV y_Te_isMade b_Te_isMade 2 (some .boolean) 1 := ⟨gmem (List.mem_append_right _ (List.mem_of_getElem? (i := 252) (by decide +kernel))) (by decide +kernel), gmem (List.mem_append_right _ (List.mem_of_getElem? (i := 253) (by decide +kernel))) (by decide +kernel), in_Te, gmem (List.mem_append_right _ (List.mem_of_getElem? (i := 254) (by decide +kernel))) (by decide +kernel), by decide, by decide, by decide +kernel⟩
theorem d_Te_isMade_0 : decode b_Te_isMade 0 = .ok (.iload_n 1, 1) := by decide +kernel
theorem d_Te_isMade_1 : decode b_Te_isMade 1 = .ok (.ifCond .lt 15, 3) := by decide +kernel
theorem d_Te_isMade_4 : decode b_Te_isMade 4 = .ok (.iload_n 1, 1) := by decide +kernel
theorem d_Te_isMade_5 : decode b_Te_isMade 5 = .ok (.aload_n 0, 1) := by decide +kernel
theorem d_Te_isMade_6 : decode b_Te_isMade 6 = .ok (.getfield 45, 3) := by decide +kernel
theorem d_Te_isMade_9 : decode b_Te_isMade 9 = .ok (.if_icmp .ge 7, 3) := by decide +kernel
theorem d_Te_isMade_12 : decode b_Te_isMade 12 = .ok (.iconst 1, 1) := by decide +kernel
theorem d_Te_isMade_13 : decode b_Te_isMade 13 = .ok (.goto 4, 3) := by decide +kernel
theorem d_Te_isMade_16 : decode b_Te_isMade 16 = .ok (.iconst 0, 1) := by decide +kernel
theorem d_Te_isMade_17 : decode b_Te_isMade 17 = .ok (.ireturn, 1) := by decide +kernel
abbrev b_Te_count : ByteArray := prog_8_method_2_code
def y_Te_count : MethodName := ⟨R_Te, "count", "()I"⟩
theorem k_Te_count : kV y_Te_count b_Te_count 1 (some .int) 0 := ⟨gmem (List.mem_append_right _ (List.mem_of_getElem? (i := 280) (by decide +kernel))) (by decide +kernel), gmem (List.mem_append_right _ (List.mem_of_getElem? (i := 281) (by decide +kernel))) (by decide +kernel), in_Te, gmem (List.mem_append_right _ (List.mem_of_getElem? (i := 282) (by decide +kernel))) (by decide +kernel), by decide, by decide, by decide +kernel⟩
theorem d_Te_count_0 : decode b_Te_count 0 = .ok (.aload_n 0, 1) := by decide +kernel
theorem d_Te_count_1 : decode b_Te_count 1 = .ok (.getfield 45, 3) := by decide +kernel
theorem d_Te_count_4 : decode b_Te_count 4 = .ok (.ireturn, 1) := by decide +kernel
abbrev b_Ru_countAt : ByteArray := prog_6_method_8_code
def y_Ru_countAt : MethodName := ⟨R_Ru, "countAt", "(I)I"⟩
theorem k_Ru_countAt : kV y_Ru_countAt b_Ru_countAt 4 (some .int) 1 := ⟨gmem (List.mem_append_right _ (List.mem_of_getElem? (i := 284) (by decide +kernel))) (by decide +kernel), gmem (List.mem_append_right _ (List.mem_of_getElem? (i := 285) (by decide +kernel))) (by decide +kernel), in_Ru, gmem (List.mem_append_right _ (List.mem_of_getElem? (i := 286) (by decide +kernel))) (by decide +kernel), by decide, by decide, by decide +kernel⟩
theorem d_Ru_countAt_0 : decode b_Ru_countAt 0 = .ok (.iconst 0, 1) := by decide +kernel
theorem d_Ru_countAt_1 : decode b_Ru_countAt 1 = .ok (.istore_n 2, 1) := by decide +kernel
theorem d_Ru_countAt_2 : decode b_Ru_countAt 2 = .ok (.iconst 0, 1) := by decide +kernel
theorem d_Ru_countAt_3 : decode b_Ru_countAt 3 = .ok (.istore_n 3, 1) := by decide +kernel
theorem d_Ru_countAt_4 : decode b_Ru_countAt 4 = .ok (.iload_n 3, 1) := by decide +kernel
theorem d_Ru_countAt_5 : decode b_Ru_countAt 5 = .ok (.aload_n 0, 1) := by decide +kernel
theorem d_Ru_countAt_6 : decode b_Ru_countAt 6 = .ok (.getfield 18, 3) := by decide +kernel
theorem d_Ru_countAt_9 : decode b_Ru_countAt 9 = .ok (.if_icmp .ge 22, 3) := by decide +kernel
theorem d_Ru_countAt_12 : decode b_Ru_countAt 12 = .ok (.aload_n 0, 1) := by decide +kernel
theorem d_Ru_countAt_13 : decode b_Ru_countAt 13 = .ok (.getfield 9, 3) := by decide +kernel
theorem d_Ru_countAt_16 : decode b_Ru_countAt 16 = .ok (.iload_n 3, 1) := by decide +kernel
theorem d_Ru_countAt_17 : decode b_Ru_countAt 17 = .ok (.iaload, 1) := by decide +kernel
theorem d_Ru_countAt_18 : decode b_Ru_countAt 18 = .ok (.iload_n 1, 1) := by decide +kernel
theorem d_Ru_countAt_19 : decode b_Ru_countAt 19 = .ok (.if_icmp .ne 6, 3) := by decide +kernel
theorem d_Ru_countAt_22 : decode b_Ru_countAt 22 = .ok (.iinc 2 1, 3) := by decide +kernel
theorem d_Ru_countAt_25 : decode b_Ru_countAt 25 = .ok (.iinc 3 1, 3) := by decide +kernel
theorem d_Ru_countAt_28 : decode b_Ru_countAt 28 = .ok (.goto (-24), 3) := by decide +kernel
theorem d_Ru_countAt_31 : decode b_Ru_countAt 31 = .ok (.iload_n 2, 1) := by decide +kernel
theorem d_Ru_countAt_32 : decode b_Ru_countAt 32 = .ok (.ireturn, 1) := by decide +kernel
abbrev b_Te_firstOf : ByteArray := prog_8_method_7_code
def y_Te_firstOf : MethodName := ⟨R_Te, "firstOf", "(I)I"⟩
theorem k_Te_firstOf : kV y_Te_firstOf b_Te_firstOf 2 (some .int) 1 := ⟨gmem (List.mem_append_right _ (List.mem_of_getElem? (i := 260) (by decide +kernel))) (by decide +kernel), gmem (List.mem_append_right _ (List.mem_of_getElem? (i := 261) (by decide +kernel))) (by decide +kernel), in_Te, gmem (List.mem_append_right _ (List.mem_of_getElem? (i := 262) (by decide +kernel))) (by decide +kernel), by decide, by decide, by decide +kernel⟩
theorem d_Te_firstOf_0 : decode b_Te_firstOf 0 = .ok (.aload_n 0, 1) := by decide +kernel
theorem d_Te_firstOf_1 : decode b_Te_firstOf 1 = .ok (.getfield 18, 3) := by decide +kernel
theorem d_Te_firstOf_4 : decode b_Te_firstOf 4 = .ok (.iload_n 1, 1) := by decide +kernel
theorem d_Te_firstOf_5 : decode b_Te_firstOf 5 = .ok (.iaload, 1) := by decide +kernel
theorem d_Te_firstOf_6 : decode b_Te_firstOf 6 = .ok (.ireturn, 1) := by decide +kernel
abbrev b_Sp_countIn : ByteArray := prog_7_method_6_code
def y_Sp_countIn : MethodName := ⟨R_Sp, "countIn", "(I)J"⟩
theorem k_Sp_countIn : kV y_Sp_countIn b_Sp_countIn 2 (some .long) 1 := ⟨gmem (List.mem_append_right _ (List.mem_of_getElem? (i := 290) (by decide +kernel))) (by decide +kernel), gmem (List.mem_append_left _ (List.mem_of_getElem? (i := 1) (by decide +kernel))) (by decide +kernel), in_Sp, gmem (List.mem_append_right _ (List.mem_of_getElem? (i := 291) (by decide +kernel))) (by decide +kernel), by decide, by decide, by decide +kernel⟩
theorem d_Sp_countIn_0 : decode b_Sp_countIn 0 = .ok (.iload_n 1, 1) := by decide +kernel
theorem d_Sp_countIn_1 : decode b_Sp_countIn 1 = .ok (.iconst (-1), 1) := by decide +kernel
theorem d_Sp_countIn_2 : decode b_Sp_countIn 2 = .ok (.if_icmp .ne 7, 3) := by decide +kernel
theorem d_Sp_countIn_5 : decode b_Sp_countIn 5 = .ok (.lconst 0, 1) := by decide +kernel
theorem d_Sp_countIn_6 : decode b_Sp_countIn 6 = .ok (.goto 9, 3) := by decide +kernel
theorem d_Sp_countIn_9 : decode b_Sp_countIn 9 = .ok (.aload_n 0, 1) := by decide +kernel
theorem d_Sp_countIn_10 : decode b_Sp_countIn 10 = .ok (.getfield 9, 3) := by decide +kernel
theorem d_Sp_countIn_13 : decode b_Sp_countIn 13 = .ok (.iload_n 1, 1) := by decide +kernel
theorem d_Sp_countIn_14 : decode b_Sp_countIn 14 = .ok (.laload, 1) := by decide +kernel
theorem d_Sp_countIn_15 : decode b_Sp_countIn 15 = .ok (.lreturn, 1) := by decide +kernel
abbrev b_Te_secondOf : ByteArray := prog_8_method_8_code
def y_Te_secondOf : MethodName := ⟨R_Te, "secondOf", "(I)I"⟩
theorem k_Te_secondOf : kV y_Te_secondOf b_Te_secondOf 2 (some .int) 1 := ⟨gmem (List.mem_append_right _ (List.mem_of_getElem? (i := 264) (by decide +kernel))) (by decide +kernel), gmem (List.mem_append_right _ (List.mem_of_getElem? (i := 265) (by decide +kernel))) (by decide +kernel), in_Te, gmem (List.mem_append_right _ (List.mem_of_getElem? (i := 266) (by decide +kernel))) (by decide +kernel), by decide, by decide, by decide +kernel⟩
theorem d_Te_secondOf_0 : decode b_Te_secondOf 0 = .ok (.aload_n 0, 1) := by decide +kernel
theorem d_Te_secondOf_1 : decode b_Te_secondOf 1 = .ok (.getfield 21, 3) := by decide +kernel
theorem d_Te_secondOf_4 : decode b_Te_secondOf 4 = .ok (.iload_n 1, 1) := by decide +kernel
theorem d_Te_secondOf_5 : decode b_Te_secondOf 5 = .ok (.iaload, 1) := by decide +kernel
theorem d_Te_secondOf_6 : decode b_Te_secondOf 6 = .ok (.ireturn, 1) := by decide +kernel
abbrev b_Sp_countAll : ByteArray := prog_7_method_5_code
def y_Sp_countAll : MethodName := ⟨R_Sp, "countAll", "()V"⟩
theorem k_Sp_countAll : kV y_Sp_countAll b_Sp_countAll 2 none 0 := ⟨gmem (List.mem_append_right _ (List.mem_of_getElem? (i := 277) (by decide +kernel))) (by decide +kernel), gmem (List.mem_append_left _ (List.mem_of_getElem? (i := 0) (by decide +kernel))) (by decide +kernel), in_Sp, gmem (List.mem_append_right _ (List.mem_of_getElem? (i := 278) (by decide +kernel))) (by decide +kernel), by decide, by decide, by decide +kernel⟩
theorem d_Sp_countAll_0 : decode b_Sp_countAll 0 = .ok (.iconst 0, 1) := by decide +kernel
theorem d_Sp_countAll_1 : decode b_Sp_countAll 1 = .ok (.istore_n 1, 1) := by decide +kernel
theorem d_Sp_countAll_2 : decode b_Sp_countAll 2 = .ok (.iload_n 1, 1) := by decide +kernel
theorem d_Sp_countAll_3 : decode b_Sp_countAll 3 = .ok (.aload_n 0, 1) := by decide +kernel
theorem d_Sp_countAll_4 : decode b_Sp_countAll 4 = .ok (.getfield 23, 3) := by decide +kernel
theorem d_Sp_countAll_7 : decode b_Sp_countAll 7 = .ok (.invokevirtual 67, 3) := by decide +kernel
theorem d_Sp_countAll_10 : decode b_Sp_countAll 10 = .ok (.if_icmp .ge 50, 3) := by decide +kernel
theorem d_Sp_countAll_13 : decode b_Sp_countAll 13 = .ok (.aload_n 0, 1) := by decide +kernel
theorem d_Sp_countAll_14 : decode b_Sp_countAll 14 = .ok (.getfield 9, 3) := by decide +kernel
theorem d_Sp_countAll_17 : decode b_Sp_countAll 17 = .ok (.iload_n 1, 1) := by decide +kernel
theorem d_Sp_countAll_18 : decode b_Sp_countAll 18 = .ok (.aload_n 0, 1) := by decide +kernel
theorem d_Sp_countAll_19 : decode b_Sp_countAll 19 = .ok (.getfield 27, 3) := by decide +kernel
theorem d_Sp_countAll_22 : decode b_Sp_countAll 22 = .ok (.iload_n 1, 1) := by decide +kernel
theorem d_Sp_countAll_23 : decode b_Sp_countAll 23 = .ok (.invokevirtual 42, 3) := by decide +kernel
theorem d_Sp_countAll_26 : decode b_Sp_countAll 26 = .ok (.i2l, 1) := by decide +kernel
theorem d_Sp_countAll_27 : decode b_Sp_countAll 27 = .ok (.aload_n 0, 1) := by decide +kernel
theorem d_Sp_countAll_28 : decode b_Sp_countAll 28 = .ok (.aload_n 0, 1) := by decide +kernel
theorem d_Sp_countAll_29 : decode b_Sp_countAll 29 = .ok (.getfield 23, 3) := by decide +kernel
theorem d_Sp_countAll_32 : decode b_Sp_countAll 32 = .ok (.iload_n 1, 1) := by decide +kernel
theorem d_Sp_countAll_33 : decode b_Sp_countAll 33 = .ok (.invokevirtual 48, 3) := by decide +kernel
theorem d_Sp_countAll_36 : decode b_Sp_countAll 36 = .ok (.invokevirtual 53, 3) := by decide +kernel
theorem d_Sp_countAll_39 : decode b_Sp_countAll 39 = .ok (.ladd, 1) := by decide +kernel
theorem d_Sp_countAll_40 : decode b_Sp_countAll 40 = .ok (.aload_n 0, 1) := by decide +kernel
theorem d_Sp_countAll_41 : decode b_Sp_countAll 41 = .ok (.aload_n 0, 1) := by decide +kernel
theorem d_Sp_countAll_42 : decode b_Sp_countAll 42 = .ok (.getfield 23, 3) := by decide +kernel
theorem d_Sp_countAll_45 : decode b_Sp_countAll 45 = .ok (.iload_n 1, 1) := by decide +kernel
theorem d_Sp_countAll_46 : decode b_Sp_countAll 46 = .ok (.invokevirtual 57, 3) := by decide +kernel
theorem d_Sp_countAll_49 : decode b_Sp_countAll 49 = .ok (.invokevirtual 53, 3) := by decide +kernel
theorem d_Sp_countAll_52 : decode b_Sp_countAll 52 = .ok (.ladd, 1) := by decide +kernel
theorem d_Sp_countAll_53 : decode b_Sp_countAll 53 = .ok (.lastore, 1) := by decide +kernel
theorem d_Sp_countAll_54 : decode b_Sp_countAll 54 = .ok (.iinc 1 1, 3) := by decide +kernel
theorem d_Sp_countAll_57 : decode b_Sp_countAll 57 = .ok (.goto (-55), 3) := by decide +kernel
theorem d_Sp_countAll_60 : decode b_Sp_countAll 60 = .ok (.return_, 1) := by decide +kernel
abbrev b_Sp_countOf : ByteArray := prog_7_method_2_code
def y_Sp_countOf : MethodName := ⟨R_Sp, "countOf", "(I)I"⟩
theorem k_Sp_countOf : kV y_Sp_countOf b_Sp_countOf 2 (some .int) 1 := ⟨gmem (List.mem_append_right _ (List.mem_of_getElem? (i := 272) (by decide +kernel))) (by decide +kernel), gmem (List.mem_append_right _ (List.mem_of_getElem? (i := 273) (by decide +kernel))) (by decide +kernel), in_Sp, gmem (List.mem_append_right _ (List.mem_of_getElem? (i := 274) (by decide +kernel))) (by decide +kernel), by decide, by decide, by decide +kernel⟩
theorem d_Sp_countOf_0 : decode b_Sp_countOf 0 = .ok (.aload_n 0, 1) := by decide +kernel
theorem d_Sp_countOf_1 : decode b_Sp_countOf 1 = .ok (.invokevirtual 31, 3) := by decide +kernel
theorem d_Sp_countOf_4 : decode b_Sp_countOf 4 = .ok (.ldc2_w 34, 3) := by decide +kernel
theorem d_Sp_countOf_7 : decode b_Sp_countOf 7 = .ok (.aload_n 0, 1) := by decide +kernel
theorem d_Sp_countOf_8 : decode b_Sp_countOf 8 = .ok (.getfield 9, 3) := by decide +kernel
theorem d_Sp_countOf_11 : decode b_Sp_countOf 11 = .ok (.iload_n 1, 1) := by decide +kernel
theorem d_Sp_countOf_12 : decode b_Sp_countOf 12 = .ok (.laload, 1) := by decide +kernel
theorem d_Sp_countOf_13 : decode b_Sp_countOf 13 = .ok (.invokestatic 36, 3) := by decide +kernel
theorem d_Sp_countOf_16 : decode b_Sp_countOf 16 = .ok (.l2i, 1) := by decide +kernel
theorem d_Sp_countOf_17 : decode b_Sp_countOf 17 = .ok (.ireturn, 1) := by decide +kernel
abbrev b_Te_sizeOf : ByteArray := prog_8_method_9_code
def y_Te_sizeOf : MethodName := ⟨R_Te, "sizeOf", "(I)I"⟩
theorem k_Te_sizeOf : kV y_Te_sizeOf b_Te_sizeOf 2 (some .int) 1 := ⟨gmem (List.mem_append_right _ (List.mem_of_getElem? (i := 268) (by decide +kernel))) (by decide +kernel), gmem (List.mem_append_right _ (List.mem_of_getElem? (i := 269) (by decide +kernel))) (by decide +kernel), in_Te, gmem (List.mem_append_right _ (List.mem_of_getElem? (i := 270) (by decide +kernel))) (by decide +kernel), by decide, by decide, by decide +kernel⟩
theorem d_Te_sizeOf_0 : decode b_Te_sizeOf 0 = .ok (.aload_n 0, 1) := by decide +kernel
theorem d_Te_sizeOf_1 : decode b_Te_sizeOf 1 = .ok (.getfield 24, 3) := by decide +kernel
theorem d_Te_sizeOf_4 : decode b_Te_sizeOf 4 = .ok (.iload_n 1, 1) := by decide +kernel
theorem d_Te_sizeOf_5 : decode b_Te_sizeOf 5 = .ok (.iaload, 1) := by decide +kernel
theorem d_Te_sizeOf_6 : decode b_Te_sizeOf 6 = .ok (.ireturn, 1) := by decide +kernel
abbrev b_Te_symbolOf : ByteArray := prog_8_method_6_code
def y_Te_symbolOf : MethodName := ⟨R_Te, "symbolOf", "(I)I"⟩
theorem k_Te_symbolOf : kV y_Te_symbolOf b_Te_symbolOf 2 (some .int) 1 := ⟨gmem (List.mem_append_right _ (List.mem_of_getElem? (i := 256) (by decide +kernel))) (by decide +kernel), gmem (List.mem_append_right _ (List.mem_of_getElem? (i := 257) (by decide +kernel))) (by decide +kernel), in_Te, gmem (List.mem_append_right _ (List.mem_of_getElem? (i := 258) (by decide +kernel))) (by decide +kernel), by decide, by decide, by decide +kernel⟩
theorem d_Te_symbolOf_0 : decode b_Te_symbolOf 0 = .ok (.aload_n 0, 1) := by decide +kernel
theorem d_Te_symbolOf_1 : decode b_Te_symbolOf 1 = .ok (.getfield 15, 3) := by decide +kernel
theorem d_Te_symbolOf_4 : decode b_Te_symbolOf 4 = .ok (.iload_n 1, 1) := by decide +kernel
theorem d_Te_symbolOf_5 : decode b_Te_symbolOf 5 = .ok (.iaload, 1) := by decide +kernel
theorem d_Te_symbolOf_6 : decode b_Te_symbolOf 6 = .ok (.ireturn, 1) := by decide +kernel
abbrev b_Gr_of : ByteArray := prog_1_method_3_code
def y_Gr_of : MethodName := ⟨R_Gr, "of", "(II)I"⟩
theorem k_Gr_of : kV y_Gr_of b_Gr_of 3 (some .int) 2 := ⟨gmem (List.mem_append_right _ (List.mem_of_getElem? (i := 248) (by decide +kernel))) (by decide +kernel), gmem (List.mem_append_right _ (List.mem_of_getElem? (i := 249) (by decide +kernel))) (by decide +kernel), in_Gr, gmem (List.mem_append_right _ (List.mem_of_getElem? (i := 250) (by decide +kernel))) (by decide +kernel), by decide, by decide, by decide +kernel⟩
theorem d_Gr_of_0 : decode b_Gr_of 0 = .ok (.aload_n 0, 1) := by decide +kernel
theorem d_Gr_of_1 : decode b_Gr_of 1 = .ok (.getfield 14, 3) := by decide +kernel
theorem d_Gr_of_4 : decode b_Gr_of 4 = .ok (.iload_n 1, 1) := by decide +kernel
theorem d_Gr_of_5 : decode b_Gr_of 5 = .ok (.invokevirtual 80, 3) := by decide +kernel
theorem d_Gr_of_8 : decode b_Gr_of 8 = .ok (.ifCond .ne 5, 3) := by decide +kernel
theorem d_Gr_of_11 : decode b_Gr_of 11 = .ok (.iconst (-1), 1) := by decide +kernel
theorem d_Gr_of_12 : decode b_Gr_of 12 = .ok (.ireturn, 1) := by decide +kernel
theorem d_Gr_of_13 : decode b_Gr_of 13 = .ok (.iload_n 2, 1) := by decide +kernel
theorem d_Gr_of_14 : decode b_Gr_of 14 = .ok (.tableswitch 79 0 4 #[34, 43, 52, 61, 70], 34) := by decide +kernel
theorem d_Gr_of_48 : decode b_Gr_of 48 = .ok (.aload_n 0, 1) := by decide +kernel
theorem d_Gr_of_49 : decode b_Gr_of 49 = .ok (.getfield 14, 3) := by decide +kernel
theorem d_Gr_of_52 : decode b_Gr_of 52 = .ok (.iload_n 1, 1) := by decide +kernel
theorem d_Gr_of_53 : decode b_Gr_of 53 = .ok (.invokevirtual 84, 3) := by decide +kernel
theorem d_Gr_of_56 : decode b_Gr_of 56 = .ok (.ireturn, 1) := by decide +kernel
theorem d_Gr_of_57 : decode b_Gr_of 57 = .ok (.aload_n 0, 1) := by decide +kernel
theorem d_Gr_of_58 : decode b_Gr_of 58 = .ok (.getfield 14, 3) := by decide +kernel
theorem d_Gr_of_61 : decode b_Gr_of 61 = .ok (.iload_n 1, 1) := by decide +kernel
theorem d_Gr_of_62 : decode b_Gr_of 62 = .ok (.invokevirtual 88, 3) := by decide +kernel
theorem d_Gr_of_65 : decode b_Gr_of 65 = .ok (.ireturn, 1) := by decide +kernel
theorem d_Gr_of_66 : decode b_Gr_of 66 = .ok (.aload_n 0, 1) := by decide +kernel
theorem d_Gr_of_67 : decode b_Gr_of 67 = .ok (.getfield 14, 3) := by decide +kernel
theorem d_Gr_of_70 : decode b_Gr_of 70 = .ok (.iload_n 1, 1) := by decide +kernel
theorem d_Gr_of_71 : decode b_Gr_of 71 = .ok (.invokevirtual 91, 3) := by decide +kernel
theorem d_Gr_of_74 : decode b_Gr_of 74 = .ok (.ireturn, 1) := by decide +kernel
theorem d_Gr_of_75 : decode b_Gr_of 75 = .ok (.aload_n 0, 1) := by decide +kernel
theorem d_Gr_of_76 : decode b_Gr_of 76 = .ok (.getfield 14, 3) := by decide +kernel
theorem d_Gr_of_79 : decode b_Gr_of 79 = .ok (.iload_n 1, 1) := by decide +kernel
theorem d_Gr_of_80 : decode b_Gr_of 80 = .ok (.invokevirtual 94, 3) := by decide +kernel
theorem d_Gr_of_83 : decode b_Gr_of 83 = .ok (.ireturn, 1) := by decide +kernel
theorem d_Gr_of_84 : decode b_Gr_of 84 = .ok (.aload_n 0, 1) := by decide +kernel
theorem d_Gr_of_85 : decode b_Gr_of 85 = .ok (.getfield 55, 3) := by decide +kernel
theorem d_Gr_of_88 : decode b_Gr_of 88 = .ok (.iload_n 1, 1) := by decide +kernel
theorem d_Gr_of_89 : decode b_Gr_of 89 = .ok (.invokevirtual 97, 3) := by decide +kernel
theorem d_Gr_of_92 : decode b_Gr_of 92 = .ok (.ireturn, 1) := by decide +kernel
theorem d_Gr_of_93 : decode b_Gr_of 93 = .ok (.iconst (-1), 1) := by decide +kernel
theorem d_Gr_of_94 : decode b_Gr_of 94 = .ok (.ireturn, 1) := by decide +kernel
abbrev b_Ru_dropLast : ByteArray := prog_6_method_7_code
def y_Ru_dropLast : MethodName := ⟨R_Ru, "dropLast", "()Z"⟩
theorem k_Ru_dropLast : kV y_Ru_dropLast b_Ru_dropLast 1 (some .boolean) 0 := ⟨gmem (List.mem_append_right _ (List.mem_of_getElem? (i := 302) (by decide +kernel))) (by decide +kernel), gmem (List.mem_append_right _ (List.mem_of_getElem? (i := 303) (by decide +kernel))) (by decide +kernel), in_Ru, gmem (List.mem_append_right _ (List.mem_of_getElem? (i := 304) (by decide +kernel))) (by decide +kernel), by decide, by decide, by decide +kernel⟩
theorem d_Ru_dropLast_0 : decode b_Ru_dropLast 0 = .ok (.aload_n 0, 1) := by decide +kernel
theorem d_Ru_dropLast_1 : decode b_Ru_dropLast 1 = .ok (.getfield 18, 3) := by decide +kernel
theorem d_Ru_dropLast_4 : decode b_Ru_dropLast 4 = .ok (.ifCond .ne 5, 3) := by decide +kernel
theorem d_Ru_dropLast_7 : decode b_Ru_dropLast 7 = .ok (.iconst 0, 1) := by decide +kernel
theorem d_Ru_dropLast_8 : decode b_Ru_dropLast 8 = .ok (.ireturn, 1) := by decide +kernel
theorem d_Ru_dropLast_9 : decode b_Ru_dropLast 9 = .ok (.aload_n 0, 1) := by decide +kernel
theorem d_Ru_dropLast_10 : decode b_Ru_dropLast 10 = .ok (.dup, 1) := by decide +kernel
theorem d_Ru_dropLast_11 : decode b_Ru_dropLast 11 = .ok (.getfield 18, 3) := by decide +kernel
theorem d_Ru_dropLast_14 : decode b_Ru_dropLast 14 = .ok (.iconst 1, 1) := by decide +kernel
theorem d_Ru_dropLast_15 : decode b_Ru_dropLast 15 = .ok (.isub, 1) := by decide +kernel
theorem d_Ru_dropLast_16 : decode b_Ru_dropLast 16 = .ok (.putfield 18, 3) := by decide +kernel
theorem d_Ru_dropLast_19 : decode b_Ru_dropLast 19 = .ok (.aload_n 0, 1) := by decide +kernel
theorem d_Ru_dropLast_20 : decode b_Ru_dropLast 20 = .ok (.dup, 1) := by decide +kernel
theorem d_Ru_dropLast_21 : decode b_Ru_dropLast 21 = .ok (.getfield 22, 3) := by decide +kernel
theorem d_Ru_dropLast_24 : decode b_Ru_dropLast 24 = .ok (.iconst 1, 1) := by decide +kernel
theorem d_Ru_dropLast_25 : decode b_Ru_dropLast 25 = .ok (.iadd, 1) := by decide +kernel
theorem d_Ru_dropLast_26 : decode b_Ru_dropLast 26 = .ok (.putfield 22, 3) := by decide +kernel
theorem d_Ru_dropLast_29 : decode b_Ru_dropLast 29 = .ok (.iconst 1, 1) := by decide +kernel
theorem d_Ru_dropLast_30 : decode b_Ru_dropLast 30 = .ok (.ireturn, 1) := by decide +kernel
abbrev b_Gr_cut : ByteArray := prog_1_method_5_code
def y_Gr_cut : MethodName := ⟨R_Gr, "cut", "()Z"⟩
theorem k_Gr_cut : kV y_Gr_cut b_Gr_cut 1 (some .boolean) 0 := ⟨gmem (List.mem_append_right _ (List.mem_of_getElem? (i := 298) (by decide +kernel))) (by decide +kernel), gmem (List.mem_append_right _ (List.mem_of_getElem? (i := 299) (by decide +kernel))) (by decide +kernel), in_Gr, gmem (List.mem_append_right _ (List.mem_of_getElem? (i := 300) (by decide +kernel))) (by decide +kernel), by decide, by decide, by decide +kernel⟩
theorem d_Gr_cut_0 : decode b_Gr_cut 0 = .ok (.aload_n 0, 1) := by decide +kernel
theorem d_Gr_cut_1 : decode b_Gr_cut 1 = .ok (.getfield 21, 3) := by decide +kernel
theorem d_Gr_cut_4 : decode b_Gr_cut 4 = .ok (.invokevirtual 104, 3) := by decide +kernel
theorem d_Gr_cut_7 : decode b_Gr_cut 7 = .ok (.ireturn, 1) := by decide +kernel
abbrev b_Gr_isState : ByteArray := prog_1_method_18_code
def y_Gr_isState : MethodName := ⟨R_Gr, "isState", "(I)Z"⟩
theorem k_Gr_isState : kS y_Gr_isState b_Gr_isState 1 (some .boolean) 1 := ⟨gmem (List.mem_append_right _ (List.mem_of_getElem? (i := 310) (by decide +kernel))) (by decide +kernel), in_Gr, gmem (List.mem_append_right _ (List.mem_of_getElem? (i := 311) (by decide +kernel))) (by decide +kernel), by decide, by decide, by decide +kernel⟩
theorem d_Gr_isState_0 : decode b_Gr_isState 0 = .ok (.iload_n 0, 1) := by decide +kernel
theorem d_Gr_isState_1 : decode b_Gr_isState 1 = .ok (.ifCond .lt 13, 3) := by decide +kernel
theorem d_Gr_isState_4 : decode b_Gr_isState 4 = .ok (.iload_n 0, 1) := by decide +kernel
theorem d_Gr_isState_5 : decode b_Gr_isState 5 = .ok (.bipush 6, 2) := by decide +kernel
theorem d_Gr_isState_7 : decode b_Gr_isState 7 = .ok (.if_icmp .ge 7, 3) := by decide +kernel
theorem d_Gr_isState_10 : decode b_Gr_isState 10 = .ok (.iconst 1, 1) := by decide +kernel
theorem d_Gr_isState_11 : decode b_Gr_isState 11 = .ok (.goto 4, 3) := by decide +kernel
theorem d_Gr_isState_14 : decode b_Gr_isState 14 = .ok (.iconst 0, 1) := by decide +kernel
theorem d_Gr_isState_15 : decode b_Gr_isState 15 = .ok (.ireturn, 1) := by decide +kernel
abbrev b_Au_setFinal : ByteArray := prog_2_method_5_code
def y_Au_setFinal : MethodName := ⟨R_Au, "setFinal", "(IZ)Z"⟩
theorem k_Au_setFinal : kV y_Au_setFinal b_Au_setFinal 4 (some .boolean) 2 := ⟨gmem (List.mem_append_right _ (List.mem_of_getElem? (i := 313) (by decide +kernel))) (by decide +kernel), gmem (List.mem_append_right _ (List.mem_of_getElem? (i := 314) (by decide +kernel))) (by decide +kernel), in_Au, gmem (List.mem_append_right _ (List.mem_of_getElem? (i := 315) (by decide +kernel))) (by decide +kernel), by decide, by decide, by decide +kernel⟩
theorem d_Au_setFinal_0 : decode b_Au_setFinal 0 = .ok (.iload_n 2, 1) := by decide +kernel
theorem d_Au_setFinal_1 : decode b_Au_setFinal 1 = .ok (.ifCond .eq 14, 3) := by decide +kernel
theorem d_Au_setFinal_4 : decode b_Au_setFinal 4 = .ok (.aload_n 0, 1) := by decide +kernel
theorem d_Au_setFinal_5 : decode b_Au_setFinal 5 = .ok (.getfield 35, 3) := by decide +kernel
theorem d_Au_setFinal_8 : decode b_Au_setFinal 8 = .ok (.iconst 1, 1) := by decide +kernel
theorem d_Au_setFinal_9 : decode b_Au_setFinal 9 = .ok (.iload_n 1, 1) := by decide +kernel
theorem d_Au_setFinal_10 : decode b_Au_setFinal 10 = .ok (.ishl, 1) := by decide +kernel
theorem d_Au_setFinal_11 : decode b_Au_setFinal 11 = .ok (.ior, 1) := by decide +kernel
theorem d_Au_setFinal_12 : decode b_Au_setFinal 12 = .ok (.goto 13, 3) := by decide +kernel
theorem d_Au_setFinal_15 : decode b_Au_setFinal 15 = .ok (.aload_n 0, 1) := by decide +kernel
theorem d_Au_setFinal_16 : decode b_Au_setFinal 16 = .ok (.getfield 35, 3) := by decide +kernel
theorem d_Au_setFinal_19 : decode b_Au_setFinal 19 = .ok (.iconst 1, 1) := by decide +kernel
theorem d_Au_setFinal_20 : decode b_Au_setFinal 20 = .ok (.iload_n 1, 1) := by decide +kernel
theorem d_Au_setFinal_21 : decode b_Au_setFinal 21 = .ok (.ishl, 1) := by decide +kernel
theorem d_Au_setFinal_22 : decode b_Au_setFinal 22 = .ok (.iconst (-1), 1) := by decide +kernel
theorem d_Au_setFinal_23 : decode b_Au_setFinal 23 = .ok (.ixor, 1) := by decide +kernel
theorem d_Au_setFinal_24 : decode b_Au_setFinal 24 = .ok (.iand, 1) := by decide +kernel
theorem d_Au_setFinal_25 : decode b_Au_setFinal 25 = .ok (.istore_n 3, 1) := by decide +kernel
theorem d_Au_setFinal_26 : decode b_Au_setFinal 26 = .ok (.iload_n 3, 1) := by decide +kernel
theorem d_Au_setFinal_27 : decode b_Au_setFinal 27 = .ok (.aload_n 0, 1) := by decide +kernel
theorem d_Au_setFinal_28 : decode b_Au_setFinal 28 = .ok (.getfield 35, 3) := by decide +kernel
theorem d_Au_setFinal_31 : decode b_Au_setFinal 31 = .ok (.if_icmp .ne 5, 3) := by decide +kernel
theorem d_Au_setFinal_34 : decode b_Au_setFinal 34 = .ok (.iconst 0, 1) := by decide +kernel
theorem d_Au_setFinal_35 : decode b_Au_setFinal 35 = .ok (.ireturn, 1) := by decide +kernel
theorem d_Au_setFinal_36 : decode b_Au_setFinal 36 = .ok (.aload_n 0, 1) := by decide +kernel
theorem d_Au_setFinal_37 : decode b_Au_setFinal 37 = .ok (.iload_n 3, 1) := by decide +kernel
theorem d_Au_setFinal_38 : decode b_Au_setFinal 38 = .ok (.putfield 35, 3) := by decide +kernel
theorem d_Au_setFinal_41 : decode b_Au_setFinal 41 = .ok (.iconst 1, 1) := by decide +kernel
theorem d_Au_setFinal_42 : decode b_Au_setFinal 42 = .ok (.ireturn, 1) := by decide +kernel
abbrev b_Gr_mark : ByteArray := prog_1_method_7_code
def y_Gr_mark : MethodName := ⟨R_Gr, "mark", "(IZ)Z"⟩
theorem k_Gr_mark : kV y_Gr_mark b_Gr_mark 3 (some .boolean) 2 := ⟨gmem (List.mem_append_right _ (List.mem_of_getElem? (i := 306) (by decide +kernel))) (by decide +kernel), gmem (List.mem_append_right _ (List.mem_of_getElem? (i := 307) (by decide +kernel))) (by decide +kernel), in_Gr, gmem (List.mem_append_right _ (List.mem_of_getElem? (i := 308) (by decide +kernel))) (by decide +kernel), by decide, by decide, by decide +kernel⟩
theorem d_Gr_mark_0 : decode b_Gr_mark 0 = .ok (.iload_n 1, 1) := by decide +kernel
theorem d_Gr_mark_1 : decode b_Gr_mark 1 = .ok (.invokestatic 116, 3) := by decide +kernel
theorem d_Gr_mark_4 : decode b_Gr_mark 4 = .ok (.ifCond .eq 19, 3) := by decide +kernel
theorem d_Gr_mark_7 : decode b_Gr_mark 7 = .ok (.aload_n 0, 1) := by decide +kernel
theorem d_Gr_mark_8 : decode b_Gr_mark 8 = .ok (.getfield 30, 3) := by decide +kernel
theorem d_Gr_mark_11 : decode b_Gr_mark 11 = .ok (.iload_n 1, 1) := by decide +kernel
theorem d_Gr_mark_12 : decode b_Gr_mark 12 = .ok (.iload_n 2, 1) := by decide +kernel
theorem d_Gr_mark_13 : decode b_Gr_mark 13 = .ok (.invokevirtual 119, 3) := by decide +kernel
theorem d_Gr_mark_16 : decode b_Gr_mark 16 = .ok (.ifCond .eq 7, 3) := by decide +kernel
theorem d_Gr_mark_19 : decode b_Gr_mark 19 = .ok (.iconst 1, 1) := by decide +kernel
theorem d_Gr_mark_20 : decode b_Gr_mark 20 = .ok (.goto 4, 3) := by decide +kernel
theorem d_Gr_mark_23 : decode b_Gr_mark 23 = .ok (.iconst 0, 1) := by decide +kernel
theorem d_Gr_mark_24 : decode b_Gr_mark 24 = .ok (.ireturn, 1) := by decide +kernel
abbrev b_Te_placesOf : ByteArray := prog_8_method_5_code
def y_Te_placesOf : MethodName := ⟨R_Te, "placesOf", "(I)I"⟩
theorem k_Te_placesOf : kV y_Te_placesOf b_Te_placesOf 2 (some .int) 1 := ⟨gmem (List.mem_append_right _ (List.mem_of_getElem? (i := 334) (by decide +kernel))) (by decide +kernel), gmem (List.mem_append_right _ (List.mem_of_getElem? (i := 335) (by decide +kernel))) (by decide +kernel), in_Te, gmem (List.mem_append_right _ (List.mem_of_getElem? (i := 336) (by decide +kernel))) (by decide +kernel), by decide, by decide, by decide +kernel⟩
theorem d_Te_placesOf_0 : decode b_Te_placesOf 0 = .ok (.aload_n 0, 1) := by decide +kernel
theorem d_Te_placesOf_1 : decode b_Te_placesOf 1 = .ok (.getfield 9, 3) := by decide +kernel
theorem d_Te_placesOf_4 : decode b_Te_placesOf 4 = .ok (.iload_n 1, 1) := by decide +kernel
theorem d_Te_placesOf_5 : decode b_Te_placesOf 5 = .ok (.iaload, 1) := by decide +kernel
theorem d_Te_placesOf_6 : decode b_Te_placesOf 6 = .ok (.ireturn, 1) := by decide +kernel
abbrev b_Au_finals : ByteArray := prog_2_method_3_code
def y_Au_finals : MethodName := ⟨R_Au, "finals", "()I"⟩
theorem k_Au_finals : kV y_Au_finals b_Au_finals 1 (some .int) 0 := ⟨gmem (List.mem_append_right _ (List.mem_of_getElem? (i := 330) (by decide +kernel))) (by decide +kernel), gmem (List.mem_append_right _ (List.mem_of_getElem? (i := 331) (by decide +kernel))) (by decide +kernel), in_Au, gmem (List.mem_append_right _ (List.mem_of_getElem? (i := 332) (by decide +kernel))) (by decide +kernel), by decide, by decide, by decide +kernel⟩
theorem d_Au_finals_0 : decode b_Au_finals 0 = .ok (.aload_n 0, 1) := by decide +kernel
theorem d_Au_finals_1 : decode b_Au_finals 1 = .ok (.getfield 35, 3) := by decide +kernel
theorem d_Au_finals_4 : decode b_Au_finals 4 = .ok (.ireturn, 1) := by decide +kernel
abbrev b_Au_count : ByteArray := prog_2_method_2_code
def y_Au_count : MethodName := ⟨R_Au, "count", "()I"⟩
theorem k_Au_count : kV y_Au_count b_Au_count 1 (some .int) 0 := ⟨gmem (List.mem_append_right _ (List.mem_of_getElem? (i := 326) (by decide +kernel))) (by decide +kernel), gmem (List.mem_append_right _ (List.mem_of_getElem? (i := 327) (by decide +kernel))) (by decide +kernel), in_Au, gmem (List.mem_append_right _ (List.mem_of_getElem? (i := 328) (by decide +kernel))) (by decide +kernel), by decide, by decide, by decide +kernel⟩
theorem d_Au_count_0 : decode b_Au_count 0 = .ok (.aload_n 0, 1) := by decide +kernel
theorem d_Au_count_1 : decode b_Au_count 1 = .ok (.getfield 31, 3) := by decide +kernel
theorem d_Au_count_4 : decode b_Au_count 4 = .ok (.ireturn, 1) := by decide +kernel
abbrev b_Ru_count : ByteArray := prog_6_method_2_code
def y_Ru_count : MethodName := ⟨R_Ru, "count", "()I"⟩
theorem k_Ru_count : kV y_Ru_count b_Ru_count 1 (some .int) 0 := ⟨gmem (List.mem_append_right _ (List.mem_of_getElem? (i := 322) (by decide +kernel))) (by decide +kernel), gmem (List.mem_append_right _ (List.mem_of_getElem? (i := 323) (by decide +kernel))) (by decide +kernel), in_Ru, gmem (List.mem_append_right _ (List.mem_of_getElem? (i := 324) (by decide +kernel))) (by decide +kernel), by decide, by decide, by decide +kernel⟩
theorem d_Ru_count_0 : decode b_Ru_count 0 = .ok (.aload_n 0, 1) := by decide +kernel
theorem d_Ru_count_1 : decode b_Ru_count 1 = .ok (.getfield 18, 3) := by decide +kernel
theorem d_Ru_count_4 : decode b_Ru_count 4 = .ok (.ireturn, 1) := by decide +kernel
abbrev b_Gr_look : ByteArray := prog_1_method_17_code
def y_Gr_look : MethodName := ⟨R_Gr, "look", "(I)I"⟩
theorem k_Gr_look : kV y_Gr_look b_Gr_look 2 (some .int) 1 := ⟨gmem (List.mem_append_right _ (List.mem_of_getElem? (i := 317) (by decide +kernel))) (by decide +kernel), gmem (List.mem_append_right _ (List.mem_of_getElem? (i := 318) (by decide +kernel))) (by decide +kernel), in_Gr, gmem (List.mem_append_right _ (List.mem_of_getElem? (i := 319) (by decide +kernel))) (by decide +kernel), by decide, by decide, by decide +kernel⟩
theorem d_Gr_look_0 : decode b_Gr_look 0 = .ok (.iload_n 1, 1) := by decide +kernel
theorem d_Gr_look_1 : decode b_Gr_look 1 = .ok (.tableswitch 63 0 3 #[31, 39, 47, 55], 31) := by decide +kernel
theorem d_Gr_look_32 : decode b_Gr_look 32 = .ok (.aload_n 0, 1) := by decide +kernel
theorem d_Gr_look_33 : decode b_Gr_look 33 = .ok (.getfield 14, 3) := by decide +kernel
theorem d_Gr_look_36 : decode b_Gr_look 36 = .ok (.invokevirtual 158, 3) := by decide +kernel
theorem d_Gr_look_39 : decode b_Gr_look 39 = .ok (.ireturn, 1) := by decide +kernel
theorem d_Gr_look_40 : decode b_Gr_look 40 = .ok (.aload_n 0, 1) := by decide +kernel
theorem d_Gr_look_41 : decode b_Gr_look 41 = .ok (.getfield 21, 3) := by decide +kernel
theorem d_Gr_look_44 : decode b_Gr_look 44 = .ok (.invokevirtual 162, 3) := by decide +kernel
theorem d_Gr_look_47 : decode b_Gr_look 47 = .ok (.ireturn, 1) := by decide +kernel
theorem d_Gr_look_48 : decode b_Gr_look 48 = .ok (.aload_n 0, 1) := by decide +kernel
theorem d_Gr_look_49 : decode b_Gr_look 49 = .ok (.getfield 30, 3) := by decide +kernel
theorem d_Gr_look_52 : decode b_Gr_look 52 = .ok (.invokevirtual 163, 3) := by decide +kernel
theorem d_Gr_look_55 : decode b_Gr_look 55 = .ok (.ireturn, 1) := by decide +kernel
theorem d_Gr_look_56 : decode b_Gr_look 56 = .ok (.aload_n 0, 1) := by decide +kernel
theorem d_Gr_look_57 : decode b_Gr_look 57 = .ok (.getfield 30, 3) := by decide +kernel
theorem d_Gr_look_60 : decode b_Gr_look 60 = .ok (.invokevirtual 164, 3) := by decide +kernel
theorem d_Gr_look_63 : decode b_Gr_look 63 = .ok (.ireturn, 1) := by decide +kernel
theorem d_Gr_look_64 : decode b_Gr_look 64 = .ok (.iload_n 1, 1) := by decide +kernel
theorem d_Gr_look_65 : decode b_Gr_look 65 = .ok (.iconst 4, 1) := by decide +kernel
theorem d_Gr_look_66 : decode b_Gr_look 66 = .ok (.if_icmp .lt 22, 3) := by decide +kernel
theorem d_Gr_look_69 : decode b_Gr_look 69 = .ok (.iload_n 1, 1) := by decide +kernel
theorem d_Gr_look_70 : decode b_Gr_look 70 = .ok (.bipush 10, 2) := by decide +kernel
theorem d_Gr_look_72 : decode b_Gr_look 72 = .ok (.if_icmp .ge 16, 3) := by decide +kernel
theorem d_Gr_look_75 : decode b_Gr_look 75 = .ok (.aload_n 0, 1) := by decide +kernel
theorem d_Gr_look_76 : decode b_Gr_look 76 = .ok (.getfield 14, 3) := by decide +kernel
theorem d_Gr_look_79 : decode b_Gr_look 79 = .ok (.iload_n 1, 1) := by decide +kernel
theorem d_Gr_look_80 : decode b_Gr_look 80 = .ok (.iconst 4, 1) := by decide +kernel
theorem d_Gr_look_81 : decode b_Gr_look 81 = .ok (.isub, 1) := by decide +kernel
theorem d_Gr_look_82 : decode b_Gr_look 82 = .ok (.invokevirtual 167, 3) := by decide +kernel
theorem d_Gr_look_85 : decode b_Gr_look 85 = .ok (.goto 4, 3) := by decide +kernel
theorem d_Gr_look_88 : decode b_Gr_look 88 = .ok (.iconst (-1), 1) := by decide +kernel
theorem d_Gr_look_89 : decode b_Gr_look 89 = .ok (.ireturn, 1) := by decide +kernel
abbrev b_Te_isSymbol : ByteArray := prog_8_method_4_code
def y_Te_isSymbol : MethodName := ⟨R_Te, "isSymbol", "(I)Z"⟩
theorem k_Te_isSymbol : kV y_Te_isSymbol b_Te_isSymbol 2 (some .boolean) 1 := ⟨gmem (List.mem_append_right _ (List.mem_of_getElem? (i := 354) (by decide +kernel))) (by decide +kernel), gmem (List.mem_append_right _ (List.mem_of_getElem? (i := 355) (by decide +kernel))) (by decide +kernel), in_Te, gmem (List.mem_append_right _ (List.mem_of_getElem? (i := 356) (by decide +kernel))) (by decide +kernel), by decide, by decide, by decide +kernel⟩
theorem d_Te_isSymbol_0 : decode b_Te_isSymbol 0 = .ok (.iload_n 1, 1) := by decide +kernel
theorem d_Te_isSymbol_1 : decode b_Te_isSymbol 1 = .ok (.ifCond .lt 13, 3) := by decide +kernel
theorem d_Te_isSymbol_4 : decode b_Te_isSymbol 4 = .ok (.iload_n 1, 1) := by decide +kernel
theorem d_Te_isSymbol_5 : decode b_Te_isSymbol 5 = .ok (.bipush 6, 2) := by decide +kernel
theorem d_Te_isSymbol_7 : decode b_Te_isSymbol 7 = .ok (.if_icmp .ge 7, 3) := by decide +kernel
theorem d_Te_isSymbol_10 : decode b_Te_isSymbol 10 = .ok (.iconst 1, 1) := by decide +kernel
theorem d_Te_isSymbol_11 : decode b_Te_isSymbol 11 = .ok (.goto 4, 3) := by decide +kernel
theorem d_Te_isSymbol_14 : decode b_Te_isSymbol 14 = .ok (.iconst 0, 1) := by decide +kernel
theorem d_Te_isSymbol_15 : decode b_Te_isSymbol 15 = .ok (.ireturn, 1) := by decide +kernel
abbrev b_Te_canStand : ByteArray := prog_8_method_10_code
def y_Te_canStand : MethodName := ⟨R_Te, "canStand", "(III)Z"⟩
theorem k_Te_canStand : kV y_Te_canStand b_Te_canStand 4 (some .boolean) 3 := ⟨gmem (List.mem_append_right _ (List.mem_of_getElem? (i := 350) (by decide +kernel))) (by decide +kernel), gmem (List.mem_append_right _ (List.mem_of_getElem? (i := 351) (by decide +kernel))) (by decide +kernel), in_Te, gmem (List.mem_append_right _ (List.mem_of_getElem? (i := 352) (by decide +kernel))) (by decide +kernel), by decide, by decide, by decide +kernel⟩
theorem d_Te_canStand_0 : decode b_Te_canStand 0 = .ok (.aload_n 0, 1) := by decide +kernel
theorem d_Te_canStand_1 : decode b_Te_canStand 1 = .ok (.iload_n 1, 1) := by decide +kernel
theorem d_Te_canStand_2 : decode b_Te_canStand 2 = .ok (.invokevirtual 49, 3) := by decide +kernel
theorem d_Te_canStand_5 : decode b_Te_canStand 5 = .ok (.ifCond .eq 43, 3) := by decide +kernel
theorem d_Te_canStand_8 : decode b_Te_canStand 8 = .ok (.aload_n 0, 1) := by decide +kernel
theorem d_Te_canStand_9 : decode b_Te_canStand 9 = .ok (.getfield 9, 3) := by decide +kernel
theorem d_Te_canStand_12 : decode b_Te_canStand 12 = .ok (.iload_n 1, 1) := by decide +kernel
theorem d_Te_canStand_13 : decode b_Te_canStand 13 = .ok (.iaload, 1) := by decide +kernel
theorem d_Te_canStand_14 : decode b_Te_canStand 14 = .ok (.iconst 1, 1) := by decide +kernel
theorem d_Te_canStand_15 : decode b_Te_canStand 15 = .ok (.if_icmp .lt 11, 3) := by decide +kernel
theorem d_Te_canStand_18 : decode b_Te_canStand 18 = .ok (.aload_n 0, 1) := by decide +kernel
theorem d_Te_canStand_19 : decode b_Te_canStand 19 = .ok (.iload_n 2, 1) := by decide +kernel
theorem d_Te_canStand_20 : decode b_Te_canStand 20 = .ok (.invokevirtual 53, 3) := by decide +kernel
theorem d_Te_canStand_23 : decode b_Te_canStand 23 = .ok (.ifCond .eq 25, 3) := by decide +kernel
theorem d_Te_canStand_26 : decode b_Te_canStand 26 = .ok (.aload_n 0, 1) := by decide +kernel
theorem d_Te_canStand_27 : decode b_Te_canStand 27 = .ok (.getfield 9, 3) := by decide +kernel
theorem d_Te_canStand_30 : decode b_Te_canStand 30 = .ok (.iload_n 1, 1) := by decide +kernel
theorem d_Te_canStand_31 : decode b_Te_canStand 31 = .ok (.iaload, 1) := by decide +kernel
theorem d_Te_canStand_32 : decode b_Te_canStand 32 = .ok (.iconst 2, 1) := by decide +kernel
theorem d_Te_canStand_33 : decode b_Te_canStand 33 = .ok (.if_icmp .lt 11, 3) := by decide +kernel
theorem d_Te_canStand_36 : decode b_Te_canStand 36 = .ok (.aload_n 0, 1) := by decide +kernel
theorem d_Te_canStand_37 : decode b_Te_canStand 37 = .ok (.iload_n 3, 1) := by decide +kernel
theorem d_Te_canStand_38 : decode b_Te_canStand 38 = .ok (.invokevirtual 53, 3) := by decide +kernel
theorem d_Te_canStand_41 : decode b_Te_canStand 41 = .ok (.ifCond .eq 7, 3) := by decide +kernel
theorem d_Te_canStand_44 : decode b_Te_canStand 44 = .ok (.iconst 1, 1) := by decide +kernel
theorem d_Te_canStand_45 : decode b_Te_canStand 45 = .ok (.goto 4, 3) := by decide +kernel
theorem d_Te_canStand_48 : decode b_Te_canStand 48 = .ok (.iconst 0, 1) := by decide +kernel
theorem d_Te_canStand_49 : decode b_Te_canStand 49 = .ok (.ireturn, 1) := by decide +kernel
abbrev b_Te_bucketOf : ByteArray := prog_8_method_16_code
def y_Te_bucketOf : MethodName := ⟨R_Te, "bucketOf", "(III)I"⟩
theorem k_Te_bucketOf : kS y_Te_bucketOf b_Te_bucketOf 3 (some .int) 3 := ⟨gmem (List.mem_append_right _ (List.mem_of_getElem? (i := 430) (by decide +kernel))) (by decide +kernel), in_Te, gmem (List.mem_append_right _ (List.mem_of_getElem? (i := 431) (by decide +kernel))) (by decide +kernel), by decide, by decide, by decide +kernel⟩
theorem d_Te_bucketOf_0 : decode b_Te_bucketOf 0 = .ok (.iload_n 0, 1) := by decide +kernel
theorem d_Te_bucketOf_1 : decode b_Te_bucketOf 1 = .ok (.sipush 961, 3) := by decide +kernel
theorem d_Te_bucketOf_4 : decode b_Te_bucketOf 4 = .ok (.imul, 1) := by decide +kernel
theorem d_Te_bucketOf_5 : decode b_Te_bucketOf 5 = .ok (.iload_n 1, 1) := by decide +kernel
theorem d_Te_bucketOf_6 : decode b_Te_bucketOf 6 = .ok (.bipush 31, 2) := by decide +kernel
theorem d_Te_bucketOf_8 : decode b_Te_bucketOf 8 = .ok (.imul, 1) := by decide +kernel
theorem d_Te_bucketOf_9 : decode b_Te_bucketOf 9 = .ok (.iadd, 1) := by decide +kernel
theorem d_Te_bucketOf_10 : decode b_Te_bucketOf 10 = .ok (.iload_n 2, 1) := by decide +kernel
theorem d_Te_bucketOf_11 : decode b_Te_bucketOf 11 = .ok (.iadd, 1) := by decide +kernel
theorem d_Te_bucketOf_12 : decode b_Te_bucketOf 12 = .ok (.sipush 255, 3) := by decide +kernel
theorem d_Te_bucketOf_15 : decode b_Te_bucketOf 15 = .ok (.iand, 1) := by decide +kernel
theorem d_Te_bucketOf_16 : decode b_Te_bucketOf 16 = .ok (.ireturn, 1) := by decide +kernel
abbrev b_Te_find : ByteArray := prog_8_method_12_code
def y_Te_find : MethodName := ⟨R_Te, "find", "(III)I"⟩
theorem k_Te_find : kV y_Te_find b_Te_find 8 (some .int) 3 := ⟨gmem (List.mem_append_right _ (List.mem_of_getElem? (i := 426) (by decide +kernel))) (by decide +kernel), gmem (List.mem_append_right _ (List.mem_of_getElem? (i := 427) (by decide +kernel))) (by decide +kernel), in_Te, gmem (List.mem_append_right _ (List.mem_of_getElem? (i := 428) (by decide +kernel))) (by decide +kernel), by decide, by decide, by decide +kernel⟩
theorem d_Te_find_0 : decode b_Te_find 0 = .ok (.aload_n 0, 1) := by decide +kernel
theorem d_Te_find_1 : decode b_Te_find 1 = .ok (.getfield 9, 3) := by decide +kernel
theorem d_Te_find_4 : decode b_Te_find 4 = .ok (.iload_n 1, 1) := by decide +kernel
theorem d_Te_find_5 : decode b_Te_find 5 = .ok (.iaload, 1) := by decide +kernel
theorem d_Te_find_6 : decode b_Te_find 6 = .ok (.iconst 1, 1) := by decide +kernel
theorem d_Te_find_7 : decode b_Te_find 7 = .ok (.if_icmp .ge 7, 3) := by decide +kernel
theorem d_Te_find_10 : decode b_Te_find 10 = .ok (.iconst (-1), 1) := by decide +kernel
theorem d_Te_find_11 : decode b_Te_find 11 = .ok (.goto 4, 3) := by decide +kernel
theorem d_Te_find_14 : decode b_Te_find 14 = .ok (.iload_n 2, 1) := by decide +kernel
theorem d_Te_find_15 : decode b_Te_find 15 = .ok (.istore 4, 2) := by decide +kernel
theorem d_Te_find_17 : decode b_Te_find 17 = .ok (.aload_n 0, 1) := by decide +kernel
theorem d_Te_find_18 : decode b_Te_find 18 = .ok (.getfield 9, 3) := by decide +kernel
theorem d_Te_find_21 : decode b_Te_find 21 = .ok (.iload_n 1, 1) := by decide +kernel
theorem d_Te_find_22 : decode b_Te_find 22 = .ok (.iaload, 1) := by decide +kernel
theorem d_Te_find_23 : decode b_Te_find 23 = .ok (.iconst 2, 1) := by decide +kernel
theorem d_Te_find_24 : decode b_Te_find 24 = .ok (.if_icmp .ge 7, 3) := by decide +kernel
theorem d_Te_find_27 : decode b_Te_find 27 = .ok (.iconst (-1), 1) := by decide +kernel
theorem d_Te_find_28 : decode b_Te_find 28 = .ok (.goto 4, 3) := by decide +kernel
theorem d_Te_find_31 : decode b_Te_find 31 = .ok (.iload_n 3, 1) := by decide +kernel
theorem d_Te_find_32 : decode b_Te_find 32 = .ok (.istore 5, 2) := by decide +kernel
theorem d_Te_find_34 : decode b_Te_find 34 = .ok (.aload_n 0, 1) := by decide +kernel
theorem d_Te_find_35 : decode b_Te_find 35 = .ok (.getfield 27, 3) := by decide +kernel
theorem d_Te_find_38 : decode b_Te_find 38 = .ok (.iload_n 1, 1) := by decide +kernel
theorem d_Te_find_39 : decode b_Te_find 39 = .ok (.iload 4, 2) := by decide +kernel
theorem d_Te_find_41 : decode b_Te_find 41 = .ok (.iload 5, 2) := by decide +kernel
theorem d_Te_find_43 : decode b_Te_find 43 = .ok (.invokestatic 63, 3) := by decide +kernel
theorem d_Te_find_46 : decode b_Te_find 46 = .ok (.iaload, 1) := by decide +kernel
theorem d_Te_find_47 : decode b_Te_find 47 = .ok (.istore 6, 2) := by decide +kernel
theorem d_Te_find_49 : decode b_Te_find 49 = .ok (.iconst 0, 1) := by decide +kernel
theorem d_Te_find_50 : decode b_Te_find 50 = .ok (.istore 7, 2) := by decide +kernel
theorem d_Te_find_52 : decode b_Te_find 52 = .ok (.iload 7, 2) := by decide +kernel
theorem d_Te_find_54 : decode b_Te_find 54 = .ok (.sipush 448, 3) := by decide +kernel
theorem d_Te_find_57 : decode b_Te_find 57 = .ok (.if_icmp .ge 62, 3) := by decide +kernel
theorem d_Te_find_60 : decode b_Te_find 60 = .ok (.iload 6, 2) := by decide +kernel
theorem d_Te_find_62 : decode b_Te_find 62 = .ok (.iconst (-1), 1) := by decide +kernel
theorem d_Te_find_63 : decode b_Te_find 63 = .ok (.if_icmp .eq 56, 3) := by decide +kernel
theorem d_Te_find_66 : decode b_Te_find 66 = .ok (.aload_n 0, 1) := by decide +kernel
theorem d_Te_find_67 : decode b_Te_find 67 = .ok (.getfield 15, 3) := by decide +kernel
theorem d_Te_find_70 : decode b_Te_find 70 = .ok (.iload 6, 2) := by decide +kernel
theorem d_Te_find_72 : decode b_Te_find 72 = .ok (.iaload, 1) := by decide +kernel
theorem d_Te_find_73 : decode b_Te_find 73 = .ok (.iload_n 1, 1) := by decide +kernel
theorem d_Te_find_74 : decode b_Te_find 74 = .ok (.if_icmp .ne 30, 3) := by decide +kernel
theorem d_Te_find_77 : decode b_Te_find 77 = .ok (.aload_n 0, 1) := by decide +kernel
theorem d_Te_find_78 : decode b_Te_find 78 = .ok (.getfield 18, 3) := by decide +kernel
theorem d_Te_find_81 : decode b_Te_find 81 = .ok (.iload 6, 2) := by decide +kernel
theorem d_Te_find_83 : decode b_Te_find 83 = .ok (.iaload, 1) := by decide +kernel
theorem d_Te_find_84 : decode b_Te_find 84 = .ok (.iload 4, 2) := by decide +kernel
theorem d_Te_find_86 : decode b_Te_find 86 = .ok (.if_icmp .ne 18, 3) := by decide +kernel
theorem d_Te_find_89 : decode b_Te_find 89 = .ok (.aload_n 0, 1) := by decide +kernel
theorem d_Te_find_90 : decode b_Te_find 90 = .ok (.getfield 21, 3) := by decide +kernel
theorem d_Te_find_93 : decode b_Te_find 93 = .ok (.iload 6, 2) := by decide +kernel
theorem d_Te_find_95 : decode b_Te_find 95 = .ok (.iaload, 1) := by decide +kernel
theorem d_Te_find_96 : decode b_Te_find 96 = .ok (.iload 5, 2) := by decide +kernel
theorem d_Te_find_98 : decode b_Te_find 98 = .ok (.if_icmp .ne 6, 3) := by decide +kernel
theorem d_Te_find_101 : decode b_Te_find 101 = .ok (.iload 6, 2) := by decide +kernel
theorem d_Te_find_103 : decode b_Te_find 103 = .ok (.ireturn, 1) := by decide +kernel
theorem d_Te_find_104 : decode b_Te_find 104 = .ok (.aload_n 0, 1) := by decide +kernel
theorem d_Te_find_105 : decode b_Te_find 105 = .ok (.getfield 30, 3) := by decide +kernel
theorem d_Te_find_108 : decode b_Te_find 108 = .ok (.iload 6, 2) := by decide +kernel
theorem d_Te_find_110 : decode b_Te_find 110 = .ok (.iaload, 1) := by decide +kernel
theorem d_Te_find_111 : decode b_Te_find 111 = .ok (.istore 6, 2) := by decide +kernel
theorem d_Te_find_113 : decode b_Te_find 113 = .ok (.iinc 7 1, 3) := by decide +kernel
theorem d_Te_find_116 : decode b_Te_find 116 = .ok (.goto (-64), 3) := by decide +kernel
theorem d_Te_find_119 : decode b_Te_find 119 = .ok (.iconst (-1), 1) := by decide +kernel
theorem d_Te_find_120 : decode b_Te_find 120 = .ok (.ireturn, 1) := by decide +kernel
abbrev b_Te_joinedSize : ByteArray := prog_8_method_15_code
def y_Te_joinedSize : MethodName := ⟨R_Te, "joinedSize", "(III)I"⟩
theorem k_Te_joinedSize : kV y_Te_joinedSize b_Te_joinedSize 5 (some .int) 3 := ⟨gmem (List.mem_append_right _ (List.mem_of_getElem? (i := 438) (by decide +kernel))) (by decide +kernel), gmem (List.mem_append_left _ (List.mem_of_getElem? (i := 3) (by decide +kernel))) (by decide +kernel), in_Te, gmem (List.mem_append_right _ (List.mem_of_getElem? (i := 439) (by decide +kernel))) (by decide +kernel), by decide, by decide, by decide +kernel⟩
theorem d_Te_joinedSize_0 : decode b_Te_joinedSize 0 = .ok (.aload_n 0, 1) := by decide +kernel
theorem d_Te_joinedSize_1 : decode b_Te_joinedSize 1 = .ok (.getfield 9, 3) := by decide +kernel
theorem d_Te_joinedSize_4 : decode b_Te_joinedSize 4 = .ok (.iload_n 1, 1) := by decide +kernel
theorem d_Te_joinedSize_5 : decode b_Te_joinedSize 5 = .ok (.iaload, 1) := by decide +kernel
theorem d_Te_joinedSize_6 : decode b_Te_joinedSize 6 = .ok (.iconst 1, 1) := by decide +kernel
theorem d_Te_joinedSize_7 : decode b_Te_joinedSize 7 = .ok (.if_icmp .ge 7, 3) := by decide +kernel
theorem d_Te_joinedSize_10 : decode b_Te_joinedSize 10 = .ok (.iconst 0, 1) := by decide +kernel
theorem d_Te_joinedSize_11 : decode b_Te_joinedSize 11 = .ok (.goto 9, 3) := by decide +kernel
theorem d_Te_joinedSize_14 : decode b_Te_joinedSize 14 = .ok (.aload_n 0, 1) := by decide +kernel
theorem d_Te_joinedSize_15 : decode b_Te_joinedSize 15 = .ok (.getfield 24, 3) := by decide +kernel
theorem d_Te_joinedSize_18 : decode b_Te_joinedSize 18 = .ok (.iload_n 2, 1) := by decide +kernel
theorem d_Te_joinedSize_19 : decode b_Te_joinedSize 19 = .ok (.iaload, 1) := by decide +kernel
theorem d_Te_joinedSize_20 : decode b_Te_joinedSize 20 = .ok (.aload_n 0, 1) := by decide +kernel
theorem d_Te_joinedSize_21 : decode b_Te_joinedSize 21 = .ok (.getfield 9, 3) := by decide +kernel
theorem d_Te_joinedSize_24 : decode b_Te_joinedSize 24 = .ok (.iload_n 1, 1) := by decide +kernel
theorem d_Te_joinedSize_25 : decode b_Te_joinedSize 25 = .ok (.iaload, 1) := by decide +kernel
theorem d_Te_joinedSize_26 : decode b_Te_joinedSize 26 = .ok (.iconst 2, 1) := by decide +kernel
theorem d_Te_joinedSize_27 : decode b_Te_joinedSize 27 = .ok (.if_icmp .ge 7, 3) := by decide +kernel
theorem d_Te_joinedSize_30 : decode b_Te_joinedSize 30 = .ok (.iconst 0, 1) := by decide +kernel
theorem d_Te_joinedSize_31 : decode b_Te_joinedSize 31 = .ok (.goto 9, 3) := by decide +kernel
theorem d_Te_joinedSize_34 : decode b_Te_joinedSize 34 = .ok (.aload_n 0, 1) := by decide +kernel
theorem d_Te_joinedSize_35 : decode b_Te_joinedSize 35 = .ok (.getfield 24, 3) := by decide +kernel
theorem d_Te_joinedSize_38 : decode b_Te_joinedSize 38 = .ok (.iload_n 3, 1) := by decide +kernel
theorem d_Te_joinedSize_39 : decode b_Te_joinedSize 39 = .ok (.iaload, 1) := by decide +kernel
theorem d_Te_joinedSize_40 : decode b_Te_joinedSize 40 = .ok (.iadd, 1) := by decide +kernel
theorem d_Te_joinedSize_41 : decode b_Te_joinedSize 41 = .ok (.istore 4, 2) := by decide +kernel
theorem d_Te_joinedSize_43 : decode b_Te_joinedSize 43 = .ok (.ldc 69, 2) := by decide +kernel
theorem d_Te_joinedSize_45 : decode b_Te_joinedSize 45 = .ok (.iconst 1, 1) := by decide +kernel
theorem d_Te_joinedSize_46 : decode b_Te_joinedSize 46 = .ok (.iload 4, 2) := by decide +kernel
theorem d_Te_joinedSize_48 : decode b_Te_joinedSize 48 = .ok (.iadd, 1) := by decide +kernel
theorem d_Te_joinedSize_49 : decode b_Te_joinedSize 49 = .ok (.invokestatic 33, 3) := by decide +kernel
theorem d_Te_joinedSize_52 : decode b_Te_joinedSize 52 = .ok (.ireturn, 1) := by decide +kernel
abbrev b_Te_append : ByteArray := prog_8_method_13_code
def y_Te_append : MethodName := ⟨R_Te, "append", "(III)I"⟩
theorem k_Te_append : kV y_Te_append b_Te_append 6 (some .int) 3 := ⟨gmem (List.mem_append_right _ (List.mem_of_getElem? (i := 433) (by decide +kernel))) (by decide +kernel), gmem (List.mem_append_right _ (List.mem_of_getElem? (i := 434) (by decide +kernel))) (by decide +kernel), in_Te, gmem (List.mem_append_right _ (List.mem_of_getElem? (i := 435) (by decide +kernel))) (by decide +kernel), by decide, by decide, by decide +kernel⟩
theorem d_Te_append_0 : decode b_Te_append 0 = .ok (.aload_n 0, 1) := by decide +kernel
theorem d_Te_append_1 : decode b_Te_append 1 = .ok (.getfield 45, 3) := by decide +kernel
theorem d_Te_append_4 : decode b_Te_append 4 = .ok (.sipush 448, 3) := by decide +kernel
theorem d_Te_append_7 : decode b_Te_append 7 = .ok (.if_icmp .lt 5, 3) := by decide +kernel
theorem d_Te_append_10 : decode b_Te_append 10 = .ok (.iconst (-1), 1) := by decide +kernel
theorem d_Te_append_11 : decode b_Te_append 11 = .ok (.ireturn, 1) := by decide +kernel
theorem d_Te_append_12 : decode b_Te_append 12 = .ok (.aload_n 0, 1) := by decide +kernel
theorem d_Te_append_13 : decode b_Te_append 13 = .ok (.dup, 1) := by decide +kernel
theorem d_Te_append_14 : decode b_Te_append 14 = .ok (.getfield 45, 3) := by decide +kernel
theorem d_Te_append_17 : decode b_Te_append 17 = .ok (.dup_x1, 1) := by decide +kernel
theorem d_Te_append_18 : decode b_Te_append 18 = .ok (.iconst 1, 1) := by decide +kernel
theorem d_Te_append_19 : decode b_Te_append 19 = .ok (.iadd, 1) := by decide +kernel
theorem d_Te_append_20 : decode b_Te_append 20 = .ok (.putfield 45, 3) := by decide +kernel
theorem d_Te_append_23 : decode b_Te_append 23 = .ok (.istore 4, 2) := by decide +kernel
theorem d_Te_append_25 : decode b_Te_append 25 = .ok (.aload_n 0, 1) := by decide +kernel
theorem d_Te_append_26 : decode b_Te_append 26 = .ok (.getfield 15, 3) := by decide +kernel
theorem d_Te_append_29 : decode b_Te_append 29 = .ok (.iload 4, 2) := by decide +kernel
theorem d_Te_append_31 : decode b_Te_append 31 = .ok (.iload_n 1, 1) := by decide +kernel
theorem d_Te_append_32 : decode b_Te_append 32 = .ok (.iastore, 1) := by decide +kernel
theorem d_Te_append_33 : decode b_Te_append 33 = .ok (.aload_n 0, 1) := by decide +kernel
theorem d_Te_append_34 : decode b_Te_append 34 = .ok (.getfield 18, 3) := by decide +kernel
theorem d_Te_append_37 : decode b_Te_append 37 = .ok (.iload 4, 2) := by decide +kernel
theorem d_Te_append_39 : decode b_Te_append 39 = .ok (.aload_n 0, 1) := by decide +kernel
theorem d_Te_append_40 : decode b_Te_append 40 = .ok (.getfield 9, 3) := by decide +kernel
theorem d_Te_append_43 : decode b_Te_append 43 = .ok (.iload_n 1, 1) := by decide +kernel
theorem d_Te_append_44 : decode b_Te_append 44 = .ok (.iaload, 1) := by decide +kernel
theorem d_Te_append_45 : decode b_Te_append 45 = .ok (.iconst 1, 1) := by decide +kernel
theorem d_Te_append_46 : decode b_Te_append 46 = .ok (.if_icmp .ge 7, 3) := by decide +kernel
theorem d_Te_append_49 : decode b_Te_append 49 = .ok (.iconst (-1), 1) := by decide +kernel
theorem d_Te_append_50 : decode b_Te_append 50 = .ok (.goto 4, 3) := by decide +kernel
theorem d_Te_append_53 : decode b_Te_append 53 = .ok (.iload_n 2, 1) := by decide +kernel
theorem d_Te_append_54 : decode b_Te_append 54 = .ok (.iastore, 1) := by decide +kernel
theorem d_Te_append_55 : decode b_Te_append 55 = .ok (.aload_n 0, 1) := by decide +kernel
theorem d_Te_append_56 : decode b_Te_append 56 = .ok (.getfield 21, 3) := by decide +kernel
theorem d_Te_append_59 : decode b_Te_append 59 = .ok (.iload 4, 2) := by decide +kernel
theorem d_Te_append_61 : decode b_Te_append 61 = .ok (.aload_n 0, 1) := by decide +kernel
theorem d_Te_append_62 : decode b_Te_append 62 = .ok (.getfield 9, 3) := by decide +kernel
theorem d_Te_append_65 : decode b_Te_append 65 = .ok (.iload_n 1, 1) := by decide +kernel
theorem d_Te_append_66 : decode b_Te_append 66 = .ok (.iaload, 1) := by decide +kernel
theorem d_Te_append_67 : decode b_Te_append 67 = .ok (.iconst 2, 1) := by decide +kernel
theorem d_Te_append_68 : decode b_Te_append 68 = .ok (.if_icmp .ge 7, 3) := by decide +kernel
theorem d_Te_append_71 : decode b_Te_append 71 = .ok (.iconst (-1), 1) := by decide +kernel
theorem d_Te_append_72 : decode b_Te_append 72 = .ok (.goto 4, 3) := by decide +kernel
theorem d_Te_append_75 : decode b_Te_append 75 = .ok (.iload_n 3, 1) := by decide +kernel
theorem d_Te_append_76 : decode b_Te_append 76 = .ok (.iastore, 1) := by decide +kernel
theorem d_Te_append_77 : decode b_Te_append 77 = .ok (.aload_n 0, 1) := by decide +kernel
theorem d_Te_append_78 : decode b_Te_append 78 = .ok (.getfield 24, 3) := by decide +kernel
theorem d_Te_append_81 : decode b_Te_append 81 = .ok (.iload 4, 2) := by decide +kernel
theorem d_Te_append_83 : decode b_Te_append 83 = .ok (.aload_n 0, 1) := by decide +kernel
theorem d_Te_append_84 : decode b_Te_append 84 = .ok (.iload_n 1, 1) := by decide +kernel
theorem d_Te_append_85 : decode b_Te_append 85 = .ok (.aload_n 0, 1) := by decide +kernel
theorem d_Te_append_86 : decode b_Te_append 86 = .ok (.getfield 18, 3) := by decide +kernel
theorem d_Te_append_89 : decode b_Te_append 89 = .ok (.iload 4, 2) := by decide +kernel
theorem d_Te_append_91 : decode b_Te_append 91 = .ok (.iaload, 1) := by decide +kernel
theorem d_Te_append_92 : decode b_Te_append 92 = .ok (.aload_n 0, 1) := by decide +kernel
theorem d_Te_append_93 : decode b_Te_append 93 = .ok (.getfield 21, 3) := by decide +kernel
theorem d_Te_append_96 : decode b_Te_append 96 = .ok (.iload 4, 2) := by decide +kernel
theorem d_Te_append_98 : decode b_Te_append 98 = .ok (.iaload, 1) := by decide +kernel
theorem d_Te_append_99 : decode b_Te_append 99 = .ok (.invokevirtual 66, 3) := by decide +kernel
theorem d_Te_append_102 : decode b_Te_append 102 = .ok (.iastore, 1) := by decide +kernel
theorem d_Te_append_103 : decode b_Te_append 103 = .ok (.iload_n 1, 1) := by decide +kernel
theorem d_Te_append_104 : decode b_Te_append 104 = .ok (.aload_n 0, 1) := by decide +kernel
theorem d_Te_append_105 : decode b_Te_append 105 = .ok (.getfield 18, 3) := by decide +kernel
theorem d_Te_append_108 : decode b_Te_append 108 = .ok (.iload 4, 2) := by decide +kernel
theorem d_Te_append_110 : decode b_Te_append 110 = .ok (.iaload, 1) := by decide +kernel
theorem d_Te_append_111 : decode b_Te_append 111 = .ok (.aload_n 0, 1) := by decide +kernel
theorem d_Te_append_112 : decode b_Te_append 112 = .ok (.getfield 21, 3) := by decide +kernel
theorem d_Te_append_115 : decode b_Te_append 115 = .ok (.iload 4, 2) := by decide +kernel
theorem d_Te_append_117 : decode b_Te_append 117 = .ok (.iaload, 1) := by decide +kernel
theorem d_Te_append_118 : decode b_Te_append 118 = .ok (.invokestatic 63, 3) := by decide +kernel
theorem d_Te_append_121 : decode b_Te_append 121 = .ok (.istore 5, 2) := by decide +kernel
theorem d_Te_append_123 : decode b_Te_append 123 = .ok (.aload_n 0, 1) := by decide +kernel
theorem d_Te_append_124 : decode b_Te_append 124 = .ok (.getfield 30, 3) := by decide +kernel
theorem d_Te_append_127 : decode b_Te_append 127 = .ok (.iload 4, 2) := by decide +kernel
theorem d_Te_append_129 : decode b_Te_append 129 = .ok (.aload_n 0, 1) := by decide +kernel
theorem d_Te_append_130 : decode b_Te_append 130 = .ok (.getfield 27, 3) := by decide +kernel
theorem d_Te_append_133 : decode b_Te_append 133 = .ok (.iload 5, 2) := by decide +kernel
theorem d_Te_append_135 : decode b_Te_append 135 = .ok (.iaload, 1) := by decide +kernel
theorem d_Te_append_136 : decode b_Te_append 136 = .ok (.iastore, 1) := by decide +kernel
theorem d_Te_append_137 : decode b_Te_append 137 = .ok (.aload_n 0, 1) := by decide +kernel
theorem d_Te_append_138 : decode b_Te_append 138 = .ok (.getfield 27, 3) := by decide +kernel
theorem d_Te_append_141 : decode b_Te_append 141 = .ok (.iload 5, 2) := by decide +kernel
theorem d_Te_append_143 : decode b_Te_append 143 = .ok (.iload 4, 2) := by decide +kernel
theorem d_Te_append_145 : decode b_Te_append 145 = .ok (.iastore, 1) := by decide +kernel
theorem d_Te_append_146 : decode b_Te_append 146 = .ok (.iload 4, 2) := by decide +kernel
theorem d_Te_append_148 : decode b_Te_append 148 = .ok (.ireturn, 1) := by decide +kernel
abbrev b_Te_findOrAppend : ByteArray := prog_8_method_11_code
def y_Te_findOrAppend : MethodName := ⟨R_Te, "findOrAppend", "(III)I"⟩
theorem k_Te_findOrAppend : kV y_Te_findOrAppend b_Te_findOrAppend 5 (some .int) 3 := ⟨gmem (List.mem_append_right _ (List.mem_of_getElem? (i := 422) (by decide +kernel))) (by decide +kernel), gmem (List.mem_append_right _ (List.mem_of_getElem? (i := 423) (by decide +kernel))) (by decide +kernel), in_Te, gmem (List.mem_append_right _ (List.mem_of_getElem? (i := 424) (by decide +kernel))) (by decide +kernel), by decide, by decide, by decide +kernel⟩
theorem d_Te_findOrAppend_0 : decode b_Te_findOrAppend 0 = .ok (.aload_n 0, 1) := by decide +kernel
theorem d_Te_findOrAppend_1 : decode b_Te_findOrAppend 1 = .ok (.iload_n 1, 1) := by decide +kernel
theorem d_Te_findOrAppend_2 : decode b_Te_findOrAppend 2 = .ok (.iload_n 2, 1) := by decide +kernel
theorem d_Te_findOrAppend_3 : decode b_Te_findOrAppend 3 = .ok (.iload_n 3, 1) := by decide +kernel
theorem d_Te_findOrAppend_4 : decode b_Te_findOrAppend 4 = .ok (.invokevirtual 56, 3) := by decide +kernel
theorem d_Te_findOrAppend_7 : decode b_Te_findOrAppend 7 = .ok (.istore 4, 2) := by decide +kernel
theorem d_Te_findOrAppend_9 : decode b_Te_findOrAppend 9 = .ok (.iload 4, 2) := by decide +kernel
theorem d_Te_findOrAppend_11 : decode b_Te_findOrAppend 11 = .ok (.iconst (-1), 1) := by decide +kernel
theorem d_Te_findOrAppend_12 : decode b_Te_findOrAppend 12 = .ok (.if_icmp .ne 12, 3) := by decide +kernel
theorem d_Te_findOrAppend_15 : decode b_Te_findOrAppend 15 = .ok (.aload_n 0, 1) := by decide +kernel
theorem d_Te_findOrAppend_16 : decode b_Te_findOrAppend 16 = .ok (.getfield 45, 3) := by decide +kernel
theorem d_Te_findOrAppend_19 : decode b_Te_findOrAppend 19 = .ok (.bipush 48, 2) := by decide +kernel
theorem d_Te_findOrAppend_21 : decode b_Te_findOrAppend 21 = .ok (.if_icmp .lt 8, 3) := by decide +kernel
theorem d_Te_findOrAppend_24 : decode b_Te_findOrAppend 24 = .ok (.iload 4, 2) := by decide +kernel
theorem d_Te_findOrAppend_26 : decode b_Te_findOrAppend 26 = .ok (.goto 10, 3) := by decide +kernel
theorem d_Te_findOrAppend_29 : decode b_Te_findOrAppend 29 = .ok (.aload_n 0, 1) := by decide +kernel
theorem d_Te_findOrAppend_30 : decode b_Te_findOrAppend 30 = .ok (.iload_n 1, 1) := by decide +kernel
theorem d_Te_findOrAppend_31 : decode b_Te_findOrAppend 31 = .ok (.iload_n 2, 1) := by decide +kernel
theorem d_Te_findOrAppend_32 : decode b_Te_findOrAppend 32 = .ok (.iload_n 3, 1) := by decide +kernel
theorem d_Te_findOrAppend_33 : decode b_Te_findOrAppend 33 = .ok (.invokevirtual 60, 3) := by decide +kernel
theorem d_Te_findOrAppend_36 : decode b_Te_findOrAppend 36 = .ok (.ireturn, 1) := by decide +kernel
abbrev b_Te_keepFirst : ByteArray := prog_8_method_14_code
def y_Te_keepFirst : MethodName := ⟨R_Te, "keepFirst", "(I)V"⟩
theorem k_Te_keepFirst : kV y_Te_keepFirst b_Te_keepFirst 2 none 1 := ⟨gmem (List.mem_append_right _ (List.mem_of_getElem? (i := 700) (by decide +kernel))) (by decide +kernel), gmem (List.mem_append_right _ (List.mem_of_getElem? (i := 701) (by decide +kernel))) (by decide +kernel), in_Te, gmem (List.mem_append_right _ (List.mem_of_getElem? (i := 702) (by decide +kernel))) (by decide +kernel), by decide, by decide, by decide +kernel⟩
theorem d_Te_keepFirst_0 : decode b_Te_keepFirst 0 = .ok (.aload_n 0, 1) := by decide +kernel
theorem d_Te_keepFirst_1 : decode b_Te_keepFirst 1 = .ok (.getfield 45, 3) := by decide +kernel
theorem d_Te_keepFirst_4 : decode b_Te_keepFirst 4 = .ok (.iload_n 1, 1) := by decide +kernel
theorem d_Te_keepFirst_5 : decode b_Te_keepFirst 5 = .ok (.if_icmp .le 60, 3) := by decide +kernel
theorem d_Te_keepFirst_8 : decode b_Te_keepFirst 8 = .ok (.aload_n 0, 1) := by decide +kernel
theorem d_Te_keepFirst_9 : decode b_Te_keepFirst 9 = .ok (.dup, 1) := by decide +kernel
theorem d_Te_keepFirst_10 : decode b_Te_keepFirst 10 = .ok (.getfield 45, 3) := by decide +kernel
theorem d_Te_keepFirst_13 : decode b_Te_keepFirst 13 = .ok (.iconst 1, 1) := by decide +kernel
theorem d_Te_keepFirst_14 : decode b_Te_keepFirst 14 = .ok (.isub, 1) := by decide +kernel
theorem d_Te_keepFirst_15 : decode b_Te_keepFirst 15 = .ok (.putfield 45, 3) := by decide +kernel
theorem d_Te_keepFirst_18 : decode b_Te_keepFirst 18 = .ok (.aload_n 0, 1) := by decide +kernel
theorem d_Te_keepFirst_19 : decode b_Te_keepFirst 19 = .ok (.getfield 27, 3) := by decide +kernel
theorem d_Te_keepFirst_22 : decode b_Te_keepFirst 22 = .ok (.aload_n 0, 1) := by decide +kernel
theorem d_Te_keepFirst_23 : decode b_Te_keepFirst 23 = .ok (.getfield 15, 3) := by decide +kernel
theorem d_Te_keepFirst_26 : decode b_Te_keepFirst 26 = .ok (.aload_n 0, 1) := by decide +kernel
theorem d_Te_keepFirst_27 : decode b_Te_keepFirst 27 = .ok (.getfield 45, 3) := by decide +kernel
theorem d_Te_keepFirst_30 : decode b_Te_keepFirst 30 = .ok (.iaload, 1) := by decide +kernel
theorem d_Te_keepFirst_31 : decode b_Te_keepFirst 31 = .ok (.aload_n 0, 1) := by decide +kernel
theorem d_Te_keepFirst_32 : decode b_Te_keepFirst 32 = .ok (.getfield 18, 3) := by decide +kernel
theorem d_Te_keepFirst_35 : decode b_Te_keepFirst 35 = .ok (.aload_n 0, 1) := by decide +kernel
theorem d_Te_keepFirst_36 : decode b_Te_keepFirst 36 = .ok (.getfield 45, 3) := by decide +kernel
theorem d_Te_keepFirst_39 : decode b_Te_keepFirst 39 = .ok (.iaload, 1) := by decide +kernel
theorem d_Te_keepFirst_40 : decode b_Te_keepFirst 40 = .ok (.aload_n 0, 1) := by decide +kernel
theorem d_Te_keepFirst_41 : decode b_Te_keepFirst 41 = .ok (.getfield 21, 3) := by decide +kernel
theorem d_Te_keepFirst_44 : decode b_Te_keepFirst 44 = .ok (.aload_n 0, 1) := by decide +kernel
theorem d_Te_keepFirst_45 : decode b_Te_keepFirst 45 = .ok (.getfield 45, 3) := by decide +kernel
theorem d_Te_keepFirst_48 : decode b_Te_keepFirst 48 = .ok (.iaload, 1) := by decide +kernel
theorem d_Te_keepFirst_49 : decode b_Te_keepFirst 49 = .ok (.invokestatic 63, 3) := by decide +kernel
theorem d_Te_keepFirst_52 : decode b_Te_keepFirst 52 = .ok (.aload_n 0, 1) := by decide +kernel
theorem d_Te_keepFirst_53 : decode b_Te_keepFirst 53 = .ok (.getfield 30, 3) := by decide +kernel
theorem d_Te_keepFirst_56 : decode b_Te_keepFirst 56 = .ok (.aload_n 0, 1) := by decide +kernel
theorem d_Te_keepFirst_57 : decode b_Te_keepFirst 57 = .ok (.getfield 45, 3) := by decide +kernel
theorem d_Te_keepFirst_60 : decode b_Te_keepFirst 60 = .ok (.iaload, 1) := by decide +kernel
theorem d_Te_keepFirst_61 : decode b_Te_keepFirst 61 = .ok (.iastore, 1) := by decide +kernel
theorem d_Te_keepFirst_62 : decode b_Te_keepFirst 62 = .ok (.goto (-62), 3) := by decide +kernel
theorem d_Te_keepFirst_65 : decode b_Te_keepFirst 65 = .ok (.return_, 1) := by decide +kernel
abbrev b_Ru_changes : ByteArray := prog_6_method_3_code
def y_Ru_changes : MethodName := ⟨R_Ru, "changes", "()I"⟩
theorem k_Ru_changes : kV y_Ru_changes b_Ru_changes 1 (some .int) 0 := ⟨gmem (List.mem_append_right _ (List.mem_of_getElem? (i := 502) (by decide +kernel))) (by decide +kernel), gmem (List.mem_append_right _ (List.mem_of_getElem? (i := 503) (by decide +kernel))) (by decide +kernel), in_Ru, gmem (List.mem_append_right _ (List.mem_of_getElem? (i := 504) (by decide +kernel))) (by decide +kernel), by decide, by decide, by decide +kernel⟩
theorem d_Ru_changes_0 : decode b_Ru_changes 0 = .ok (.aload_n 0, 1) := by decide +kernel
theorem d_Ru_changes_1 : decode b_Ru_changes 1 = .ok (.getfield 22, 3) := by decide +kernel
theorem d_Ru_changes_4 : decode b_Ru_changes 4 = .ok (.ireturn, 1) := by decide +kernel
abbrev b_Ru_leftOf : ByteArray := prog_6_method_4_code
def y_Ru_leftOf : MethodName := ⟨R_Ru, "leftOf", "(I)I"⟩
theorem k_Ru_leftOf : kV y_Ru_leftOf b_Ru_leftOf 2 (some .int) 1 := ⟨gmem (List.mem_append_right _ (List.mem_of_getElem? (i := 511) (by decide +kernel))) (by decide +kernel), gmem (List.mem_append_right _ (List.mem_of_getElem? (i := 512) (by decide +kernel))) (by decide +kernel), in_Ru, gmem (List.mem_append_right _ (List.mem_of_getElem? (i := 513) (by decide +kernel))) (by decide +kernel), by decide, by decide, by decide +kernel⟩
theorem d_Ru_leftOf_0 : decode b_Ru_leftOf 0 = .ok (.aload_n 0, 1) := by decide +kernel
theorem d_Ru_leftOf_1 : decode b_Ru_leftOf 1 = .ok (.getfield 9, 3) := by decide +kernel
theorem d_Ru_leftOf_4 : decode b_Ru_leftOf 4 = .ok (.iload_n 1, 1) := by decide +kernel
theorem d_Ru_leftOf_5 : decode b_Ru_leftOf 5 = .ok (.iaload, 1) := by decide +kernel
theorem d_Ru_leftOf_6 : decode b_Ru_leftOf 6 = .ok (.ireturn, 1) := by decide +kernel
abbrev b_Ru_rightOf : ByteArray := prog_6_method_5_code
def y_Ru_rightOf : MethodName := ⟨R_Ru, "rightOf", "(I)I"⟩
theorem k_Ru_rightOf : kV y_Ru_rightOf b_Ru_rightOf 2 (some .int) 1 := ⟨gmem (List.mem_append_right _ (List.mem_of_getElem? (i := 515) (by decide +kernel))) (by decide +kernel), gmem (List.mem_append_right _ (List.mem_of_getElem? (i := 516) (by decide +kernel))) (by decide +kernel), in_Ru, gmem (List.mem_append_right _ (List.mem_of_getElem? (i := 517) (by decide +kernel))) (by decide +kernel), by decide, by decide, by decide +kernel⟩
theorem d_Ru_rightOf_0 : decode b_Ru_rightOf 0 = .ok (.aload_n 0, 1) := by decide +kernel
theorem d_Ru_rightOf_1 : decode b_Ru_rightOf 1 = .ok (.getfield 15, 3) := by decide +kernel
theorem d_Ru_rightOf_4 : decode b_Ru_rightOf 4 = .ok (.iload_n 1, 1) := by decide +kernel
theorem d_Ru_rightOf_5 : decode b_Ru_rightOf 5 = .ok (.iaload, 1) := by decide +kernel
theorem d_Ru_rightOf_6 : decode b_Ru_rightOf 6 = .ok (.ireturn, 1) := by decide +kernel
abbrev b_Ru_append : ByteArray := prog_6_method_6_code
def y_Ru_append : MethodName := ⟨R_Ru, "append", "(II)I"⟩
theorem k_Ru_append : kV y_Ru_append b_Ru_append 3 (some .int) 2 := ⟨gmem (List.mem_append_right _ (List.mem_of_getElem? (i := 464) (by decide +kernel))) (by decide +kernel), gmem (List.mem_append_right _ (List.mem_of_getElem? (i := 465) (by decide +kernel))) (by decide +kernel), in_Ru, gmem (List.mem_append_right _ (List.mem_of_getElem? (i := 466) (by decide +kernel))) (by decide +kernel), by decide, by decide, by decide +kernel⟩
theorem d_Ru_append_0 : decode b_Ru_append 0 = .ok (.aload_n 0, 1) := by decide +kernel
theorem d_Ru_append_1 : decode b_Ru_append 1 = .ok (.getfield 18, 3) := by decide +kernel
theorem d_Ru_append_4 : decode b_Ru_append 4 = .ok (.bipush 8, 2) := by decide +kernel
theorem d_Ru_append_6 : decode b_Ru_append 6 = .ok (.if_icmp .lt 5, 3) := by decide +kernel
theorem d_Ru_append_9 : decode b_Ru_append 9 = .ok (.iconst (-1), 1) := by decide +kernel
theorem d_Ru_append_10 : decode b_Ru_append 10 = .ok (.ireturn, 1) := by decide +kernel
theorem d_Ru_append_11 : decode b_Ru_append 11 = .ok (.aload_n 0, 1) := by decide +kernel
theorem d_Ru_append_12 : decode b_Ru_append 12 = .ok (.getfield 9, 3) := by decide +kernel
theorem d_Ru_append_15 : decode b_Ru_append 15 = .ok (.aload_n 0, 1) := by decide +kernel
theorem d_Ru_append_16 : decode b_Ru_append 16 = .ok (.getfield 18, 3) := by decide +kernel
theorem d_Ru_append_19 : decode b_Ru_append 19 = .ok (.iload_n 1, 1) := by decide +kernel
theorem d_Ru_append_20 : decode b_Ru_append 20 = .ok (.iastore, 1) := by decide +kernel
theorem d_Ru_append_21 : decode b_Ru_append 21 = .ok (.aload_n 0, 1) := by decide +kernel
theorem d_Ru_append_22 : decode b_Ru_append 22 = .ok (.getfield 15, 3) := by decide +kernel
theorem d_Ru_append_25 : decode b_Ru_append 25 = .ok (.aload_n 0, 1) := by decide +kernel
theorem d_Ru_append_26 : decode b_Ru_append 26 = .ok (.getfield 18, 3) := by decide +kernel
theorem d_Ru_append_29 : decode b_Ru_append 29 = .ok (.iload_n 2, 1) := by decide +kernel
theorem d_Ru_append_30 : decode b_Ru_append 30 = .ok (.iastore, 1) := by decide +kernel
theorem d_Ru_append_31 : decode b_Ru_append 31 = .ok (.aload_n 0, 1) := by decide +kernel
theorem d_Ru_append_32 : decode b_Ru_append 32 = .ok (.dup, 1) := by decide +kernel
theorem d_Ru_append_33 : decode b_Ru_append 33 = .ok (.getfield 22, 3) := by decide +kernel
theorem d_Ru_append_36 : decode b_Ru_append 36 = .ok (.iconst 1, 1) := by decide +kernel
theorem d_Ru_append_37 : decode b_Ru_append 37 = .ok (.iadd, 1) := by decide +kernel
theorem d_Ru_append_38 : decode b_Ru_append 38 = .ok (.putfield 22, 3) := by decide +kernel
theorem d_Ru_append_41 : decode b_Ru_append 41 = .ok (.aload_n 0, 1) := by decide +kernel
theorem d_Ru_append_42 : decode b_Ru_append 42 = .ok (.dup, 1) := by decide +kernel
theorem d_Ru_append_43 : decode b_Ru_append 43 = .ok (.getfield 18, 3) := by decide +kernel
theorem d_Ru_append_46 : decode b_Ru_append 46 = .ok (.dup_x1, 1) := by decide +kernel
theorem d_Ru_append_47 : decode b_Ru_append 47 = .ok (.iconst 1, 1) := by decide +kernel
theorem d_Ru_append_48 : decode b_Ru_append 48 = .ok (.iadd, 1) := by decide +kernel
theorem d_Ru_append_49 : decode b_Ru_append 49 = .ok (.putfield 18, 3) := by decide +kernel
theorem d_Ru_append_52 : decode b_Ru_append 52 = .ok (.ireturn, 1) := by decide +kernel
abbrev b_Ru_rightAt : ByteArray := prog_6_method_9_code
def y_Ru_rightAt : MethodName := ⟨R_Ru, "rightAt", "(II)I"⟩
theorem k_Ru_rightAt : kV y_Ru_rightAt b_Ru_rightAt 5 (some .int) 2 := ⟨gmem (List.mem_append_right _ (List.mem_of_getElem? (i := 690) (by decide +kernel))) (by decide +kernel), gmem (List.mem_append_right _ (List.mem_of_getElem? (i := 691) (by decide +kernel))) (by decide +kernel), in_Ru, gmem (List.mem_append_right _ (List.mem_of_getElem? (i := 692) (by decide +kernel))) (by decide +kernel), by decide, by decide, by decide +kernel⟩
theorem d_Ru_rightAt_0 : decode b_Ru_rightAt 0 = .ok (.iconst 0, 1) := by decide +kernel
theorem d_Ru_rightAt_1 : decode b_Ru_rightAt 1 = .ok (.istore_n 3, 1) := by decide +kernel
theorem d_Ru_rightAt_2 : decode b_Ru_rightAt 2 = .ok (.iconst 0, 1) := by decide +kernel
theorem d_Ru_rightAt_3 : decode b_Ru_rightAt 3 = .ok (.istore 4, 2) := by decide +kernel
theorem d_Ru_rightAt_5 : decode b_Ru_rightAt 5 = .ok (.iload 4, 2) := by decide +kernel
theorem d_Ru_rightAt_7 : decode b_Ru_rightAt 7 = .ok (.aload_n 0, 1) := by decide +kernel
theorem d_Ru_rightAt_8 : decode b_Ru_rightAt 8 = .ok (.getfield 18, 3) := by decide +kernel
theorem d_Ru_rightAt_11 : decode b_Ru_rightAt 11 = .ok (.if_icmp .ge 39, 3) := by decide +kernel
theorem d_Ru_rightAt_14 : decode b_Ru_rightAt 14 = .ok (.aload_n 0, 1) := by decide +kernel
theorem d_Ru_rightAt_15 : decode b_Ru_rightAt 15 = .ok (.getfield 9, 3) := by decide +kernel
theorem d_Ru_rightAt_18 : decode b_Ru_rightAt 18 = .ok (.iload 4, 2) := by decide +kernel
theorem d_Ru_rightAt_20 : decode b_Ru_rightAt 20 = .ok (.iaload, 1) := by decide +kernel
theorem d_Ru_rightAt_21 : decode b_Ru_rightAt 21 = .ok (.iload_n 1, 1) := by decide +kernel
theorem d_Ru_rightAt_22 : decode b_Ru_rightAt 22 = .ok (.if_icmp .eq 6, 3) := by decide +kernel
theorem d_Ru_rightAt_25 : decode b_Ru_rightAt 25 = .ok (.goto 19, 3) := by decide +kernel
theorem d_Ru_rightAt_28 : decode b_Ru_rightAt 28 = .ok (.iload_n 3, 1) := by decide +kernel
theorem d_Ru_rightAt_29 : decode b_Ru_rightAt 29 = .ok (.iload_n 2, 1) := by decide +kernel
theorem d_Ru_rightAt_30 : decode b_Ru_rightAt 30 = .ok (.if_icmp .ne 11, 3) := by decide +kernel
theorem d_Ru_rightAt_33 : decode b_Ru_rightAt 33 = .ok (.aload_n 0, 1) := by decide +kernel
theorem d_Ru_rightAt_34 : decode b_Ru_rightAt 34 = .ok (.getfield 15, 3) := by decide +kernel
theorem d_Ru_rightAt_37 : decode b_Ru_rightAt 37 = .ok (.iload 4, 2) := by decide +kernel
theorem d_Ru_rightAt_39 : decode b_Ru_rightAt 39 = .ok (.iaload, 1) := by decide +kernel
theorem d_Ru_rightAt_40 : decode b_Ru_rightAt 40 = .ok (.ireturn, 1) := by decide +kernel
theorem d_Ru_rightAt_41 : decode b_Ru_rightAt 41 = .ok (.iinc 3 1, 3) := by decide +kernel
theorem d_Ru_rightAt_44 : decode b_Ru_rightAt 44 = .ok (.iinc 4 1, 3) := by decide +kernel
theorem d_Ru_rightAt_47 : decode b_Ru_rightAt 47 = .ok (.goto (-42), 3) := by decide +kernel
theorem d_Ru_rightAt_50 : decode b_Ru_rightAt 50 = .ok (.iconst (-1), 1) := by decide +kernel
theorem d_Ru_rightAt_51 : decode b_Ru_rightAt 51 = .ok (.ireturn, 1) := by decide +kernel
abbrev b_Au_anyFinal : ByteArray := prog_2_method_4_code
def y_Au_anyFinal : MethodName := ⟨R_Au, "anyFinal", "(I)Z"⟩
theorem k_Au_anyFinal : kV y_Au_anyFinal b_Au_anyFinal 2 (some .boolean) 1 := ⟨gmem (List.mem_append_right _ (List.mem_of_getElem? (i := 590) (by decide +kernel))) (by decide +kernel), gmem (List.mem_append_right _ (List.mem_of_getElem? (i := 591) (by decide +kernel))) (by decide +kernel), in_Au, gmem (List.mem_append_right _ (List.mem_of_getElem? (i := 592) (by decide +kernel))) (by decide +kernel), by decide, by decide, by decide +kernel⟩
theorem d_Au_anyFinal_0 : decode b_Au_anyFinal 0 = .ok (.iload_n 1, 1) := by decide +kernel
theorem d_Au_anyFinal_1 : decode b_Au_anyFinal 1 = .ok (.aload_n 0, 1) := by decide +kernel
theorem d_Au_anyFinal_2 : decode b_Au_anyFinal 2 = .ok (.getfield 35, 3) := by decide +kernel
theorem d_Au_anyFinal_5 : decode b_Au_anyFinal 5 = .ok (.iand, 1) := by decide +kernel
theorem d_Au_anyFinal_6 : decode b_Au_anyFinal 6 = .ok (.ifCond .eq 7, 3) := by decide +kernel
theorem d_Au_anyFinal_9 : decode b_Au_anyFinal 9 = .ok (.iconst 1, 1) := by decide +kernel
theorem d_Au_anyFinal_10 : decode b_Au_anyFinal 10 = .ok (.goto 4, 3) := by decide +kernel
theorem d_Au_anyFinal_13 : decode b_Au_anyFinal 13 = .ok (.iconst 0, 1) := by decide +kernel
theorem d_Au_anyFinal_14 : decode b_Au_anyFinal 14 = .ok (.ireturn, 1) := by decide +kernel
abbrev b_Au_canStand : ByteArray := prog_2_method_6_code
def y_Au_canStand : MethodName := ⟨R_Au, "canStand", "(IIII)Z"⟩
theorem k_Au_canStand : kV y_Au_canStand b_Au_canStand 5 (some .boolean) 4 := ⟨gmem (List.mem_append_right _ (List.mem_of_getElem? (i := 475) (by decide +kernel))) (by decide +kernel), gmem (List.mem_append_right _ (List.mem_of_getElem? (i := 476) (by decide +kernel))) (by decide +kernel), in_Au, gmem (List.mem_append_right _ (List.mem_of_getElem? (i := 477) (by decide +kernel))) (by decide +kernel), by decide, by decide, by decide +kernel⟩
theorem d_Au_canStand_0 : decode b_Au_canStand 0 = .ok (.aload_n 0, 1) := by decide +kernel
theorem d_Au_canStand_1 : decode b_Au_canStand 1 = .ok (.getfield 27, 3) := by decide +kernel
theorem d_Au_canStand_4 : decode b_Au_canStand 4 = .ok (.iload_n 1, 1) := by decide +kernel
theorem d_Au_canStand_5 : decode b_Au_canStand 5 = .ok (.invokevirtual 38, 3) := by decide +kernel
theorem d_Au_canStand_8 : decode b_Au_canStand 8 = .ok (.ifCond .eq 53, 3) := by decide +kernel
theorem d_Au_canStand_11 : decode b_Au_canStand 11 = .ok (.iload 4, 2) := by decide +kernel
theorem d_Au_canStand_13 : decode b_Au_canStand 13 = .ok (.invokestatic 44, 3) := by decide +kernel
theorem d_Au_canStand_16 : decode b_Au_canStand 16 = .ok (.ifCond .eq 45, 3) := by decide +kernel
theorem d_Au_canStand_19 : decode b_Au_canStand 19 = .ok (.aload_n 0, 1) := by decide +kernel
theorem d_Au_canStand_20 : decode b_Au_canStand 20 = .ok (.getfield 27, 3) := by decide +kernel
theorem d_Au_canStand_23 : decode b_Au_canStand 23 = .ok (.iload_n 1, 1) := by decide +kernel
theorem d_Au_canStand_24 : decode b_Au_canStand 24 = .ok (.invokevirtual 47, 3) := by decide +kernel
theorem d_Au_canStand_27 : decode b_Au_canStand 27 = .ok (.iconst 1, 1) := by decide +kernel
theorem d_Au_canStand_28 : decode b_Au_canStand 28 = .ok (.if_icmp .lt 10, 3) := by decide +kernel
theorem d_Au_canStand_31 : decode b_Au_canStand 31 = .ok (.iload_n 2, 1) := by decide +kernel
theorem d_Au_canStand_32 : decode b_Au_canStand 32 = .ok (.invokestatic 44, 3) := by decide +kernel
theorem d_Au_canStand_35 : decode b_Au_canStand 35 = .ok (.ifCond .eq 26, 3) := by decide +kernel
theorem d_Au_canStand_38 : decode b_Au_canStand 38 = .ok (.aload_n 0, 1) := by decide +kernel
theorem d_Au_canStand_39 : decode b_Au_canStand 39 = .ok (.getfield 27, 3) := by decide +kernel
theorem d_Au_canStand_42 : decode b_Au_canStand 42 = .ok (.iload_n 1, 1) := by decide +kernel
theorem d_Au_canStand_43 : decode b_Au_canStand 43 = .ok (.invokevirtual 47, 3) := by decide +kernel
theorem d_Au_canStand_46 : decode b_Au_canStand 46 = .ok (.iconst 2, 1) := by decide +kernel
theorem d_Au_canStand_47 : decode b_Au_canStand 47 = .ok (.if_icmp .lt 10, 3) := by decide +kernel
theorem d_Au_canStand_50 : decode b_Au_canStand 50 = .ok (.iload_n 3, 1) := by decide +kernel
theorem d_Au_canStand_51 : decode b_Au_canStand 51 = .ok (.invokestatic 44, 3) := by decide +kernel
theorem d_Au_canStand_54 : decode b_Au_canStand 54 = .ok (.ifCond .eq 7, 3) := by decide +kernel
theorem d_Au_canStand_57 : decode b_Au_canStand 57 = .ok (.iconst 1, 1) := by decide +kernel
theorem d_Au_canStand_58 : decode b_Au_canStand 58 = .ok (.goto 4, 3) := by decide +kernel
theorem d_Au_canStand_61 : decode b_Au_canStand 61 = .ok (.iconst 0, 1) := by decide +kernel
theorem d_Au_canStand_62 : decode b_Au_canStand 62 = .ok (.ireturn, 1) := by decide +kernel
abbrev b_Au_holds : ByteArray := prog_2_method_7_code
def y_Au_holds : MethodName := ⟨R_Au, "holds", "(IIII)Z"⟩
theorem k_Au_holds : kV y_Au_holds b_Au_holds 6 (some .boolean) 4 := ⟨gmem (List.mem_append_right _ (List.mem_of_getElem? (i := 482) (by decide +kernel))) (by decide +kernel), gmem (List.mem_append_right _ (List.mem_of_getElem? (i := 483) (by decide +kernel))) (by decide +kernel), in_Au, gmem (List.mem_append_right _ (List.mem_of_getElem? (i := 484) (by decide +kernel))) (by decide +kernel), by decide, by decide, by decide +kernel⟩
theorem d_Au_holds_0 : decode b_Au_holds 0 = .ok (.iconst 0, 1) := by decide +kernel
theorem d_Au_holds_1 : decode b_Au_holds 1 = .ok (.istore 5, 2) := by decide +kernel
theorem d_Au_holds_3 : decode b_Au_holds 3 = .ok (.iload 5, 2) := by decide +kernel
theorem d_Au_holds_5 : decode b_Au_holds 5 = .ok (.aload_n 0, 1) := by decide +kernel
theorem d_Au_holds_6 : decode b_Au_holds 6 = .ok (.getfield 31, 3) := by decide +kernel
theorem d_Au_holds_9 : decode b_Au_holds 9 = .ok (.if_icmp .ge 80, 3) := by decide +kernel
theorem d_Au_holds_12 : decode b_Au_holds 12 = .ok (.aload_n 0, 1) := by decide +kernel
theorem d_Au_holds_13 : decode b_Au_holds 13 = .ok (.getfield 9, 3) := by decide +kernel
theorem d_Au_holds_16 : decode b_Au_holds 16 = .ok (.iload 5, 2) := by decide +kernel
theorem d_Au_holds_18 : decode b_Au_holds 18 = .ok (.iaload, 1) := by decide +kernel
theorem d_Au_holds_19 : decode b_Au_holds 19 = .ok (.iload_n 1, 1) := by decide +kernel
theorem d_Au_holds_20 : decode b_Au_holds 20 = .ok (.if_icmp .ne 63, 3) := by decide +kernel
theorem d_Au_holds_23 : decode b_Au_holds 23 = .ok (.aload_n 0, 1) := by decide +kernel
theorem d_Au_holds_24 : decode b_Au_holds 24 = .ok (.getfield 21, 3) := by decide +kernel
theorem d_Au_holds_27 : decode b_Au_holds 27 = .ok (.iload 5, 2) := by decide +kernel
theorem d_Au_holds_29 : decode b_Au_holds 29 = .ok (.iaload, 1) := by decide +kernel
theorem d_Au_holds_30 : decode b_Au_holds 30 = .ok (.iload 4, 2) := by decide +kernel
theorem d_Au_holds_32 : decode b_Au_holds 32 = .ok (.if_icmp .ne 51, 3) := by decide +kernel
theorem d_Au_holds_35 : decode b_Au_holds 35 = .ok (.aload_n 0, 1) := by decide +kernel
theorem d_Au_holds_36 : decode b_Au_holds 36 = .ok (.getfield 27, 3) := by decide +kernel
theorem d_Au_holds_39 : decode b_Au_holds 39 = .ok (.iload_n 1, 1) := by decide +kernel
theorem d_Au_holds_40 : decode b_Au_holds 40 = .ok (.invokevirtual 47, 3) := by decide +kernel
theorem d_Au_holds_43 : decode b_Au_holds 43 = .ok (.iconst 1, 1) := by decide +kernel
theorem d_Au_holds_44 : decode b_Au_holds 44 = .ok (.if_icmp .lt 14, 3) := by decide +kernel
theorem d_Au_holds_47 : decode b_Au_holds 47 = .ok (.aload_n 0, 1) := by decide +kernel
theorem d_Au_holds_48 : decode b_Au_holds 48 = .ok (.getfield 15, 3) := by decide +kernel
theorem d_Au_holds_51 : decode b_Au_holds 51 = .ok (.iload 5, 2) := by decide +kernel
theorem d_Au_holds_53 : decode b_Au_holds 53 = .ok (.iaload, 1) := by decide +kernel
theorem d_Au_holds_54 : decode b_Au_holds 54 = .ok (.iload_n 2, 1) := by decide +kernel
theorem d_Au_holds_55 : decode b_Au_holds 55 = .ok (.if_icmp .ne 28, 3) := by decide +kernel
theorem d_Au_holds_58 : decode b_Au_holds 58 = .ok (.aload_n 0, 1) := by decide +kernel
theorem d_Au_holds_59 : decode b_Au_holds 59 = .ok (.getfield 27, 3) := by decide +kernel
theorem d_Au_holds_62 : decode b_Au_holds 62 = .ok (.iload_n 1, 1) := by decide +kernel
theorem d_Au_holds_63 : decode b_Au_holds 63 = .ok (.invokevirtual 47, 3) := by decide +kernel
theorem d_Au_holds_66 : decode b_Au_holds 66 = .ok (.iconst 2, 1) := by decide +kernel
theorem d_Au_holds_67 : decode b_Au_holds 67 = .ok (.if_icmp .lt 14, 3) := by decide +kernel
theorem d_Au_holds_70 : decode b_Au_holds 70 = .ok (.aload_n 0, 1) := by decide +kernel
theorem d_Au_holds_71 : decode b_Au_holds 71 = .ok (.getfield 18, 3) := by decide +kernel
theorem d_Au_holds_74 : decode b_Au_holds 74 = .ok (.iload 5, 2) := by decide +kernel
theorem d_Au_holds_76 : decode b_Au_holds 76 = .ok (.iaload, 1) := by decide +kernel
theorem d_Au_holds_77 : decode b_Au_holds 77 = .ok (.iload_n 3, 1) := by decide +kernel
theorem d_Au_holds_78 : decode b_Au_holds 78 = .ok (.if_icmp .ne 5, 3) := by decide +kernel
theorem d_Au_holds_81 : decode b_Au_holds 81 = .ok (.iconst 1, 1) := by decide +kernel
theorem d_Au_holds_82 : decode b_Au_holds 82 = .ok (.ireturn, 1) := by decide +kernel
theorem d_Au_holds_83 : decode b_Au_holds 83 = .ok (.iinc 5 1, 3) := by decide +kernel
theorem d_Au_holds_86 : decode b_Au_holds 86 = .ok (.goto (-83), 3) := by decide +kernel
theorem d_Au_holds_89 : decode b_Au_holds 89 = .ok (.iconst 0, 1) := by decide +kernel
theorem d_Au_holds_90 : decode b_Au_holds 90 = .ok (.ireturn, 1) := by decide +kernel
abbrev b_Au_append : ByteArray := prog_2_method_8_code
def y_Au_append : MethodName := ⟨R_Au, "append", "(IIII)Z"⟩
theorem k_Au_append : kV y_Au_append b_Au_append 5 (some .boolean) 4 := ⟨gmem (List.mem_append_right _ (List.mem_of_getElem? (i := 486) (by decide +kernel))) (by decide +kernel), gmem (List.mem_append_right _ (List.mem_of_getElem? (i := 487) (by decide +kernel))) (by decide +kernel), in_Au, gmem (List.mem_append_right _ (List.mem_of_getElem? (i := 488) (by decide +kernel))) (by decide +kernel), by decide, by decide, by decide +kernel⟩
theorem d_Au_append_0 : decode b_Au_append 0 = .ok (.aload_n 0, 1) := by decide +kernel
theorem d_Au_append_1 : decode b_Au_append 1 = .ok (.getfield 31, 3) := by decide +kernel
theorem d_Au_append_4 : decode b_Au_append 4 = .ok (.bipush 20, 2) := by decide +kernel
theorem d_Au_append_6 : decode b_Au_append 6 = .ok (.if_icmp .lt 5, 3) := by decide +kernel
theorem d_Au_append_9 : decode b_Au_append 9 = .ok (.iconst 0, 1) := by decide +kernel
theorem d_Au_append_10 : decode b_Au_append 10 = .ok (.ireturn, 1) := by decide +kernel
theorem d_Au_append_11 : decode b_Au_append 11 = .ok (.aload_n 0, 1) := by decide +kernel
theorem d_Au_append_12 : decode b_Au_append 12 = .ok (.getfield 9, 3) := by decide +kernel
theorem d_Au_append_15 : decode b_Au_append 15 = .ok (.aload_n 0, 1) := by decide +kernel
theorem d_Au_append_16 : decode b_Au_append 16 = .ok (.getfield 31, 3) := by decide +kernel
theorem d_Au_append_19 : decode b_Au_append 19 = .ok (.iload_n 1, 1) := by decide +kernel
theorem d_Au_append_20 : decode b_Au_append 20 = .ok (.iastore, 1) := by decide +kernel
theorem d_Au_append_21 : decode b_Au_append 21 = .ok (.aload_n 0, 1) := by decide +kernel
theorem d_Au_append_22 : decode b_Au_append 22 = .ok (.getfield 15, 3) := by decide +kernel
theorem d_Au_append_25 : decode b_Au_append 25 = .ok (.aload_n 0, 1) := by decide +kernel
theorem d_Au_append_26 : decode b_Au_append 26 = .ok (.getfield 31, 3) := by decide +kernel
theorem d_Au_append_29 : decode b_Au_append 29 = .ok (.aload_n 0, 1) := by decide +kernel
theorem d_Au_append_30 : decode b_Au_append 30 = .ok (.getfield 27, 3) := by decide +kernel
theorem d_Au_append_33 : decode b_Au_append 33 = .ok (.iload_n 1, 1) := by decide +kernel
theorem d_Au_append_34 : decode b_Au_append 34 = .ok (.invokevirtual 47, 3) := by decide +kernel
theorem d_Au_append_37 : decode b_Au_append 37 = .ok (.iconst 1, 1) := by decide +kernel
theorem d_Au_append_38 : decode b_Au_append 38 = .ok (.if_icmp .ge 7, 3) := by decide +kernel
theorem d_Au_append_41 : decode b_Au_append 41 = .ok (.iconst 0, 1) := by decide +kernel
theorem d_Au_append_42 : decode b_Au_append 42 = .ok (.goto 4, 3) := by decide +kernel
theorem d_Au_append_45 : decode b_Au_append 45 = .ok (.iload_n 2, 1) := by decide +kernel
theorem d_Au_append_46 : decode b_Au_append 46 = .ok (.iastore, 1) := by decide +kernel
theorem d_Au_append_47 : decode b_Au_append 47 = .ok (.aload_n 0, 1) := by decide +kernel
theorem d_Au_append_48 : decode b_Au_append 48 = .ok (.getfield 18, 3) := by decide +kernel
theorem d_Au_append_51 : decode b_Au_append 51 = .ok (.aload_n 0, 1) := by decide +kernel
theorem d_Au_append_52 : decode b_Au_append 52 = .ok (.getfield 31, 3) := by decide +kernel
theorem d_Au_append_55 : decode b_Au_append 55 = .ok (.aload_n 0, 1) := by decide +kernel
theorem d_Au_append_56 : decode b_Au_append 56 = .ok (.getfield 27, 3) := by decide +kernel
theorem d_Au_append_59 : decode b_Au_append 59 = .ok (.iload_n 1, 1) := by decide +kernel
theorem d_Au_append_60 : decode b_Au_append 60 = .ok (.invokevirtual 47, 3) := by decide +kernel
theorem d_Au_append_63 : decode b_Au_append 63 = .ok (.iconst 2, 1) := by decide +kernel
theorem d_Au_append_64 : decode b_Au_append 64 = .ok (.if_icmp .ge 7, 3) := by decide +kernel
theorem d_Au_append_67 : decode b_Au_append 67 = .ok (.iconst 0, 1) := by decide +kernel
theorem d_Au_append_68 : decode b_Au_append 68 = .ok (.goto 4, 3) := by decide +kernel
theorem d_Au_append_71 : decode b_Au_append 71 = .ok (.iload_n 3, 1) := by decide +kernel
theorem d_Au_append_72 : decode b_Au_append 72 = .ok (.iastore, 1) := by decide +kernel
theorem d_Au_append_73 : decode b_Au_append 73 = .ok (.aload_n 0, 1) := by decide +kernel
theorem d_Au_append_74 : decode b_Au_append 74 = .ok (.getfield 21, 3) := by decide +kernel
theorem d_Au_append_77 : decode b_Au_append 77 = .ok (.aload_n 0, 1) := by decide +kernel
theorem d_Au_append_78 : decode b_Au_append 78 = .ok (.getfield 31, 3) := by decide +kernel
theorem d_Au_append_81 : decode b_Au_append 81 = .ok (.iload 4, 2) := by decide +kernel
theorem d_Au_append_83 : decode b_Au_append 83 = .ok (.iastore, 1) := by decide +kernel
theorem d_Au_append_84 : decode b_Au_append 84 = .ok (.aload_n 0, 1) := by decide +kernel
theorem d_Au_append_85 : decode b_Au_append 85 = .ok (.dup, 1) := by decide +kernel
theorem d_Au_append_86 : decode b_Au_append 86 = .ok (.getfield 31, 3) := by decide +kernel
theorem d_Au_append_89 : decode b_Au_append 89 = .ok (.iconst 1, 1) := by decide +kernel
theorem d_Au_append_90 : decode b_Au_append 90 = .ok (.iadd, 1) := by decide +kernel
theorem d_Au_append_91 : decode b_Au_append 91 = .ok (.putfield 31, 3) := by decide +kernel
theorem d_Au_append_94 : decode b_Au_append 94 = .ok (.iconst 1, 1) := by decide +kernel
theorem d_Au_append_95 : decode b_Au_append 95 = .ok (.ireturn, 1) := by decide +kernel
abbrev b_Au_targetsOf : ByteArray := prog_2_method_9_code
def y_Au_targetsOf : MethodName := ⟨R_Au, "targetsOf", "(III)I"⟩
theorem k_Au_targetsOf : kV y_Au_targetsOf b_Au_targetsOf 6 (some .int) 3 := ⟨gmem (List.mem_append_right _ (List.mem_of_getElem? (i := 582) (by decide +kernel))) (by decide +kernel), gmem (List.mem_append_right _ (List.mem_of_getElem? (i := 583) (by decide +kernel))) (by decide +kernel), in_Au, gmem (List.mem_append_right _ (List.mem_of_getElem? (i := 584) (by decide +kernel))) (by decide +kernel), by decide, by decide, by decide +kernel⟩
theorem d_Au_targetsOf_0 : decode b_Au_targetsOf 0 = .ok (.iconst 0, 1) := by decide +kernel
theorem d_Au_targetsOf_1 : decode b_Au_targetsOf 1 = .ok (.istore 4, 2) := by decide +kernel
theorem d_Au_targetsOf_3 : decode b_Au_targetsOf 3 = .ok (.iconst 0, 1) := by decide +kernel
theorem d_Au_targetsOf_4 : decode b_Au_targetsOf 4 = .ok (.istore 5, 2) := by decide +kernel
theorem d_Au_targetsOf_6 : decode b_Au_targetsOf 6 = .ok (.iload 5, 2) := by decide +kernel
theorem d_Au_targetsOf_8 : decode b_Au_targetsOf 8 = .ok (.aload_n 0, 1) := by decide +kernel
theorem d_Au_targetsOf_9 : decode b_Au_targetsOf 9 = .ok (.getfield 31, 3) := by decide +kernel
theorem d_Au_targetsOf_12 : decode b_Au_targetsOf 12 = .ok (.if_icmp .ge 62, 3) := by decide +kernel
theorem d_Au_targetsOf_15 : decode b_Au_targetsOf 15 = .ok (.aload_n 0, 1) := by decide +kernel
theorem d_Au_targetsOf_16 : decode b_Au_targetsOf 16 = .ok (.getfield 9, 3) := by decide +kernel
theorem d_Au_targetsOf_19 : decode b_Au_targetsOf 19 = .ok (.iload 5, 2) := by decide +kernel
theorem d_Au_targetsOf_21 : decode b_Au_targetsOf 21 = .ok (.iaload, 1) := by decide +kernel
theorem d_Au_targetsOf_22 : decode b_Au_targetsOf 22 = .ok (.iload_n 1, 1) := by decide +kernel
theorem d_Au_targetsOf_23 : decode b_Au_targetsOf 23 = .ok (.if_icmp .ne 45, 3) := by decide +kernel
theorem d_Au_targetsOf_26 : decode b_Au_targetsOf 26 = .ok (.iload_n 2, 1) := by decide +kernel
theorem d_Au_targetsOf_27 : decode b_Au_targetsOf 27 = .ok (.aload_n 0, 1) := by decide +kernel
theorem d_Au_targetsOf_28 : decode b_Au_targetsOf 28 = .ok (.getfield 15, 3) := by decide +kernel
theorem d_Au_targetsOf_31 : decode b_Au_targetsOf 31 = .ok (.iload 5, 2) := by decide +kernel
theorem d_Au_targetsOf_33 : decode b_Au_targetsOf 33 = .ok (.iaload, 1) := by decide +kernel
theorem d_Au_targetsOf_34 : decode b_Au_targetsOf 34 = .ok (.ishr, 1) := by decide +kernel
theorem d_Au_targetsOf_35 : decode b_Au_targetsOf 35 = .ok (.iconst 1, 1) := by decide +kernel
theorem d_Au_targetsOf_36 : decode b_Au_targetsOf 36 = .ok (.iand, 1) := by decide +kernel
theorem d_Au_targetsOf_37 : decode b_Au_targetsOf 37 = .ok (.ifCond .eq 31, 3) := by decide +kernel
theorem d_Au_targetsOf_40 : decode b_Au_targetsOf 40 = .ok (.iload_n 3, 1) := by decide +kernel
theorem d_Au_targetsOf_41 : decode b_Au_targetsOf 41 = .ok (.aload_n 0, 1) := by decide +kernel
theorem d_Au_targetsOf_42 : decode b_Au_targetsOf 42 = .ok (.getfield 18, 3) := by decide +kernel
theorem d_Au_targetsOf_45 : decode b_Au_targetsOf 45 = .ok (.iload 5, 2) := by decide +kernel
theorem d_Au_targetsOf_47 : decode b_Au_targetsOf 47 = .ok (.iaload, 1) := by decide +kernel
theorem d_Au_targetsOf_48 : decode b_Au_targetsOf 48 = .ok (.ishr, 1) := by decide +kernel
theorem d_Au_targetsOf_49 : decode b_Au_targetsOf 49 = .ok (.iconst 1, 1) := by decide +kernel
theorem d_Au_targetsOf_50 : decode b_Au_targetsOf 50 = .ok (.iand, 1) := by decide +kernel
theorem d_Au_targetsOf_51 : decode b_Au_targetsOf 51 = .ok (.ifCond .eq 17, 3) := by decide +kernel
theorem d_Au_targetsOf_54 : decode b_Au_targetsOf 54 = .ok (.iload 4, 2) := by decide +kernel
theorem d_Au_targetsOf_56 : decode b_Au_targetsOf 56 = .ok (.iconst 1, 1) := by decide +kernel
theorem d_Au_targetsOf_57 : decode b_Au_targetsOf 57 = .ok (.aload_n 0, 1) := by decide +kernel
theorem d_Au_targetsOf_58 : decode b_Au_targetsOf 58 = .ok (.getfield 21, 3) := by decide +kernel
theorem d_Au_targetsOf_61 : decode b_Au_targetsOf 61 = .ok (.iload 5, 2) := by decide +kernel
theorem d_Au_targetsOf_63 : decode b_Au_targetsOf 63 = .ok (.iaload, 1) := by decide +kernel
theorem d_Au_targetsOf_64 : decode b_Au_targetsOf 64 = .ok (.ishl, 1) := by decide +kernel
theorem d_Au_targetsOf_65 : decode b_Au_targetsOf 65 = .ok (.ior, 1) := by decide +kernel
theorem d_Au_targetsOf_66 : decode b_Au_targetsOf 66 = .ok (.istore 4, 2) := by decide +kernel
theorem d_Au_targetsOf_68 : decode b_Au_targetsOf 68 = .ok (.iinc 5 1, 3) := by decide +kernel
theorem d_Au_targetsOf_71 : decode b_Au_targetsOf 71 = .ok (.goto (-65), 3) := by decide +kernel
theorem d_Au_targetsOf_74 : decode b_Au_targetsOf 74 = .ok (.iload 4, 2) := by decide +kernel
theorem d_Au_targetsOf_76 : decode b_Au_targetsOf 76 = .ok (.ireturn, 1) := by decide +kernel
abbrev b_Ar_fillI : ByteArray := prog_18_method_103_code
def y_Ar_fillI : MethodName := ⟨R_Ar, "fill", "([II)V"⟩
theorem k_Ar_fillI : kS y_Ar_fillI b_Ar_fillI 4 none 2 := ⟨gmem (List.mem_append_right _ (List.mem_of_getElem? (i := 36) (by decide +kernel))) (by decide +kernel), in_Ar, gmem (List.mem_append_right _ (List.mem_of_getElem? (i := 37) (by decide +kernel))) (by decide +kernel), by decide, by decide, by decide +kernel⟩
theorem d_Ar_fillI_0 : decode b_Ar_fillI 0 = .ok (.iconst 0, 1) := by decide +kernel
theorem d_Ar_fillI_1 : decode b_Ar_fillI 1 = .ok (.istore_n 2, 1) := by decide +kernel
theorem d_Ar_fillI_2 : decode b_Ar_fillI 2 = .ok (.aload_n 0, 1) := by decide +kernel
theorem d_Ar_fillI_3 : decode b_Ar_fillI 3 = .ok (.arraylength, 1) := by decide +kernel
theorem d_Ar_fillI_4 : decode b_Ar_fillI 4 = .ok (.istore_n 3, 1) := by decide +kernel
theorem d_Ar_fillI_5 : decode b_Ar_fillI 5 = .ok (.iload_n 2, 1) := by decide +kernel
theorem d_Ar_fillI_6 : decode b_Ar_fillI 6 = .ok (.iload_n 3, 1) := by decide +kernel
theorem d_Ar_fillI_7 : decode b_Ar_fillI 7 = .ok (.if_icmp .ge 13, 3) := by decide +kernel
theorem d_Ar_fillI_10 : decode b_Ar_fillI 10 = .ok (.aload_n 0, 1) := by decide +kernel
theorem d_Ar_fillI_11 : decode b_Ar_fillI 11 = .ok (.iload_n 2, 1) := by decide +kernel
theorem d_Ar_fillI_12 : decode b_Ar_fillI 12 = .ok (.iload_n 1, 1) := by decide +kernel
theorem d_Ar_fillI_13 : decode b_Ar_fillI 13 = .ok (.iastore, 1) := by decide +kernel
theorem d_Ar_fillI_14 : decode b_Ar_fillI 14 = .ok (.iinc 2 1, 3) := by decide +kernel
theorem d_Ar_fillI_17 : decode b_Ar_fillI 17 = .ok (.goto (-12), 3) := by decide +kernel
theorem d_Ar_fillI_20 : decode b_Ar_fillI 20 = .ok (.return_, 1) := by decide +kernel
abbrev b_Au_lighten : ByteArray := prog_2_method_11_code
def y_Au_lighten : MethodName := ⟨R_Au, "lighten", "(I)V"⟩
theorem k_Au_lighten : kV y_Au_lighten b_Au_lighten 5 none 1 := ⟨gmem (List.mem_append_right _ (List.mem_of_getElem? (i := 660) (by decide +kernel))) (by decide +kernel), gmem (List.mem_append_left _ (List.mem_of_getElem? (i := 16) (by decide +kernel))) (by decide +kernel), in_Au, gmem (List.mem_append_right _ (List.mem_of_getElem? (i := 661) (by decide +kernel))) (by decide +kernel), by decide, by decide, by decide +kernel⟩
theorem d_Au_lighten_0 : decode b_Au_lighten 0 = .ok (.aload_n 0, 1) := by decide +kernel
theorem d_Au_lighten_1 : decode b_Au_lighten 1 = .ok (.getfield 27, 3) := by decide +kernel
theorem d_Au_lighten_4 : decode b_Au_lighten 4 = .ok (.aload_n 0, 1) := by decide +kernel
theorem d_Au_lighten_5 : decode b_Au_lighten 5 = .ok (.getfield 9, 3) := by decide +kernel
theorem d_Au_lighten_8 : decode b_Au_lighten 8 = .ok (.iload_n 1, 1) := by decide +kernel
theorem d_Au_lighten_9 : decode b_Au_lighten 9 = .ok (.iaload, 1) := by decide +kernel
theorem d_Au_lighten_10 : decode b_Au_lighten 10 = .ok (.invokevirtual 47, 3) := by decide +kernel
theorem d_Au_lighten_13 : decode b_Au_lighten 13 = .ok (.iconst 1, 1) := by decide +kernel
theorem d_Au_lighten_14 : decode b_Au_lighten 14 = .ok (.if_icmp .ge 7, 3) := by decide +kernel
theorem d_Au_lighten_17 : decode b_Au_lighten 17 = .ok (.iconst 0, 1) := by decide +kernel
theorem d_Au_lighten_18 : decode b_Au_lighten 18 = .ok (.goto 14, 3) := by decide +kernel
theorem d_Au_lighten_21 : decode b_Au_lighten 21 = .ok (.aload_n 0, 1) := by decide +kernel
theorem d_Au_lighten_22 : decode b_Au_lighten 22 = .ok (.getfield 24, 3) := by decide +kernel
theorem d_Au_lighten_25 : decode b_Au_lighten 25 = .ok (.aload_n 0, 1) := by decide +kernel
theorem d_Au_lighten_26 : decode b_Au_lighten 26 = .ok (.getfield 15, 3) := by decide +kernel
theorem d_Au_lighten_29 : decode b_Au_lighten 29 = .ok (.iload_n 1, 1) := by decide +kernel
theorem d_Au_lighten_30 : decode b_Au_lighten 30 = .ok (.iaload, 1) := by decide +kernel
theorem d_Au_lighten_31 : decode b_Au_lighten 31 = .ok (.iaload, 1) := by decide +kernel
theorem d_Au_lighten_32 : decode b_Au_lighten 32 = .ok (.istore_n 2, 1) := by decide +kernel
theorem d_Au_lighten_33 : decode b_Au_lighten 33 = .ok (.aload_n 0, 1) := by decide +kernel
theorem d_Au_lighten_34 : decode b_Au_lighten 34 = .ok (.getfield 27, 3) := by decide +kernel
theorem d_Au_lighten_37 : decode b_Au_lighten 37 = .ok (.aload_n 0, 1) := by decide +kernel
theorem d_Au_lighten_38 : decode b_Au_lighten 38 = .ok (.getfield 9, 3) := by decide +kernel
theorem d_Au_lighten_41 : decode b_Au_lighten 41 = .ok (.iload_n 1, 1) := by decide +kernel
theorem d_Au_lighten_42 : decode b_Au_lighten 42 = .ok (.iaload, 1) := by decide +kernel
theorem d_Au_lighten_43 : decode b_Au_lighten 43 = .ok (.invokevirtual 47, 3) := by decide +kernel
theorem d_Au_lighten_46 : decode b_Au_lighten 46 = .ok (.iconst 2, 1) := by decide +kernel
theorem d_Au_lighten_47 : decode b_Au_lighten 47 = .ok (.if_icmp .ge 7, 3) := by decide +kernel
theorem d_Au_lighten_50 : decode b_Au_lighten 50 = .ok (.iconst 0, 1) := by decide +kernel
theorem d_Au_lighten_51 : decode b_Au_lighten 51 = .ok (.goto 14, 3) := by decide +kernel
theorem d_Au_lighten_54 : decode b_Au_lighten 54 = .ok (.aload_n 0, 1) := by decide +kernel
theorem d_Au_lighten_55 : decode b_Au_lighten 55 = .ok (.getfield 24, 3) := by decide +kernel
theorem d_Au_lighten_58 : decode b_Au_lighten 58 = .ok (.aload_n 0, 1) := by decide +kernel
theorem d_Au_lighten_59 : decode b_Au_lighten 59 = .ok (.getfield 18, 3) := by decide +kernel
theorem d_Au_lighten_62 : decode b_Au_lighten 62 = .ok (.iload_n 1, 1) := by decide +kernel
theorem d_Au_lighten_63 : decode b_Au_lighten 63 = .ok (.iaload, 1) := by decide +kernel
theorem d_Au_lighten_64 : decode b_Au_lighten 64 = .ok (.iaload, 1) := by decide +kernel
theorem d_Au_lighten_65 : decode b_Au_lighten 65 = .ok (.istore_n 3, 1) := by decide +kernel
theorem d_Au_lighten_66 : decode b_Au_lighten 66 = .ok (.iload_n 2, 1) := by decide +kernel
theorem d_Au_lighten_67 : decode b_Au_lighten 67 = .ok (.iconst (-1), 1) := by decide +kernel
theorem d_Au_lighten_68 : decode b_Au_lighten 68 = .ok (.if_icmp .eq 8, 3) := by decide +kernel
theorem d_Au_lighten_71 : decode b_Au_lighten 71 = .ok (.iload_n 3, 1) := by decide +kernel
theorem d_Au_lighten_72 : decode b_Au_lighten 72 = .ok (.iconst (-1), 1) := by decide +kernel
theorem d_Au_lighten_73 : decode b_Au_lighten 73 = .ok (.if_icmp .ne 4, 3) := by decide +kernel
theorem d_Au_lighten_76 : decode b_Au_lighten 76 = .ok (.return_, 1) := by decide +kernel
theorem d_Au_lighten_77 : decode b_Au_lighten 77 = .ok (.aload_n 0, 1) := by decide +kernel
theorem d_Au_lighten_78 : decode b_Au_lighten 78 = .ok (.getfield 24, 3) := by decide +kernel
theorem d_Au_lighten_81 : decode b_Au_lighten 81 = .ok (.aload_n 0, 1) := by decide +kernel
theorem d_Au_lighten_82 : decode b_Au_lighten 82 = .ok (.getfield 21, 3) := by decide +kernel
theorem d_Au_lighten_85 : decode b_Au_lighten 85 = .ok (.iload_n 1, 1) := by decide +kernel
theorem d_Au_lighten_86 : decode b_Au_lighten 86 = .ok (.iaload, 1) := by decide +kernel
theorem d_Au_lighten_87 : decode b_Au_lighten 87 = .ok (.iaload, 1) := by decide +kernel
theorem d_Au_lighten_88 : decode b_Au_lighten 88 = .ok (.istore 4, 2) := by decide +kernel
theorem d_Au_lighten_90 : decode b_Au_lighten 90 = .ok (.iload 4, 2) := by decide +kernel
theorem d_Au_lighten_92 : decode b_Au_lighten 92 = .ok (.iconst (-1), 1) := by decide +kernel
theorem d_Au_lighten_93 : decode b_Au_lighten 93 = .ok (.if_icmp .eq 13, 3) := by decide +kernel
theorem d_Au_lighten_96 : decode b_Au_lighten 96 = .ok (.iconst 1, 1) := by decide +kernel
theorem d_Au_lighten_97 : decode b_Au_lighten 97 = .ok (.iload_n 2, 1) := by decide +kernel
theorem d_Au_lighten_98 : decode b_Au_lighten 98 = .ok (.iadd, 1) := by decide +kernel
theorem d_Au_lighten_99 : decode b_Au_lighten 99 = .ok (.iload_n 3, 1) := by decide +kernel
theorem d_Au_lighten_100 : decode b_Au_lighten 100 = .ok (.iadd, 1) := by decide +kernel
theorem d_Au_lighten_101 : decode b_Au_lighten 101 = .ok (.iload 4, 2) := by decide +kernel
theorem d_Au_lighten_103 : decode b_Au_lighten 103 = .ok (.if_icmp .ge 19, 3) := by decide +kernel
theorem d_Au_lighten_106 : decode b_Au_lighten 106 = .ok (.aload_n 0, 1) := by decide +kernel
theorem d_Au_lighten_107 : decode b_Au_lighten 107 = .ok (.getfield 24, 3) := by decide +kernel
theorem d_Au_lighten_110 : decode b_Au_lighten 110 = .ok (.aload_n 0, 1) := by decide +kernel
theorem d_Au_lighten_111 : decode b_Au_lighten 111 = .ok (.getfield 21, 3) := by decide +kernel
theorem d_Au_lighten_114 : decode b_Au_lighten 114 = .ok (.iload_n 1, 1) := by decide +kernel
theorem d_Au_lighten_115 : decode b_Au_lighten 115 = .ok (.iaload, 1) := by decide +kernel
theorem d_Au_lighten_116 : decode b_Au_lighten 116 = .ok (.iconst 1, 1) := by decide +kernel
theorem d_Au_lighten_117 : decode b_Au_lighten 117 = .ok (.iload_n 2, 1) := by decide +kernel
theorem d_Au_lighten_118 : decode b_Au_lighten 118 = .ok (.iadd, 1) := by decide +kernel
theorem d_Au_lighten_119 : decode b_Au_lighten 119 = .ok (.iload_n 3, 1) := by decide +kernel
theorem d_Au_lighten_120 : decode b_Au_lighten 120 = .ok (.iadd, 1) := by decide +kernel
theorem d_Au_lighten_121 : decode b_Au_lighten 121 = .ok (.iastore, 1) := by decide +kernel
theorem d_Au_lighten_122 : decode b_Au_lighten 122 = .ok (.return_, 1) := by decide +kernel
abbrev b_Au_leastSize : ByteArray := prog_2_method_10_code
def y_Au_leastSize : MethodName := ⟨R_Au, "leastSize", "(I)I"⟩
theorem k_Au_leastSize : kV y_Au_leastSize b_Au_leastSize 4 (some .int) 1 := ⟨gmem (List.mem_append_right _ (List.mem_of_getElem? (i := 654) (by decide +kernel))) (by decide +kernel), gmem (List.mem_append_right _ (List.mem_of_getElem? (i := 655) (by decide +kernel))) (by decide +kernel), in_Au, gmem (List.mem_append_right _ (List.mem_of_getElem? (i := 656) (by decide +kernel))) (by decide +kernel), by decide, by decide, by decide +kernel⟩
theorem d_Au_leastSize_0 : decode b_Au_leastSize 0 = .ok (.aload_n 0, 1) := by decide +kernel
theorem d_Au_leastSize_1 : decode b_Au_leastSize 1 = .ok (.getfield 24, 3) := by decide +kernel
theorem d_Au_leastSize_4 : decode b_Au_leastSize 4 = .ok (.iconst (-1), 1) := by decide +kernel
theorem d_Au_leastSize_5 : decode b_Au_leastSize 5 = .ok (.invokestatic 51, 3) := by decide +kernel
theorem d_Au_leastSize_8 : decode b_Au_leastSize 8 = .ok (.iconst 0, 1) := by decide +kernel
theorem d_Au_leastSize_9 : decode b_Au_leastSize 9 = .ok (.istore_n 2, 1) := by decide +kernel
theorem d_Au_leastSize_10 : decode b_Au_leastSize 10 = .ok (.iload_n 2, 1) := by decide +kernel
theorem d_Au_leastSize_11 : decode b_Au_leastSize 11 = .ok (.bipush 6, 2) := by decide +kernel
theorem d_Au_leastSize_13 : decode b_Au_leastSize 13 = .ok (.if_icmp .ge 30, 3) := by decide +kernel
theorem d_Au_leastSize_16 : decode b_Au_leastSize 16 = .ok (.iconst 0, 1) := by decide +kernel
theorem d_Au_leastSize_17 : decode b_Au_leastSize 17 = .ok (.istore_n 3, 1) := by decide +kernel
theorem d_Au_leastSize_18 : decode b_Au_leastSize 18 = .ok (.iload_n 3, 1) := by decide +kernel
theorem d_Au_leastSize_19 : decode b_Au_leastSize 19 = .ok (.aload_n 0, 1) := by decide +kernel
theorem d_Au_leastSize_20 : decode b_Au_leastSize 20 = .ok (.getfield 31, 3) := by decide +kernel
theorem d_Au_leastSize_23 : decode b_Au_leastSize 23 = .ok (.if_icmp .ge 14, 3) := by decide +kernel
theorem d_Au_leastSize_26 : decode b_Au_leastSize 26 = .ok (.aload_n 0, 1) := by decide +kernel
theorem d_Au_leastSize_27 : decode b_Au_leastSize 27 = .ok (.iload_n 3, 1) := by decide +kernel
theorem d_Au_leastSize_28 : decode b_Au_leastSize 28 = .ok (.invokevirtual 57, 3) := by decide +kernel
theorem d_Au_leastSize_31 : decode b_Au_leastSize 31 = .ok (.iinc 3 1, 3) := by decide +kernel
theorem d_Au_leastSize_34 : decode b_Au_leastSize 34 = .ok (.goto (-16), 3) := by decide +kernel
theorem d_Au_leastSize_37 : decode b_Au_leastSize 37 = .ok (.iinc 2 1, 3) := by decide +kernel
theorem d_Au_leastSize_40 : decode b_Au_leastSize 40 = .ok (.goto (-30), 3) := by decide +kernel
theorem d_Au_leastSize_43 : decode b_Au_leastSize 43 = .ok (.aload_n 0, 1) := by decide +kernel
theorem d_Au_leastSize_44 : decode b_Au_leastSize 44 = .ok (.getfield 24, 3) := by decide +kernel
theorem d_Au_leastSize_47 : decode b_Au_leastSize 47 = .ok (.iload_n 1, 1) := by decide +kernel
theorem d_Au_leastSize_48 : decode b_Au_leastSize 48 = .ok (.iaload, 1) := by decide +kernel
theorem d_Au_leastSize_49 : decode b_Au_leastSize 49 = .ok (.ireturn, 1) := by decide +kernel
abbrev b_Re_isIn : ByteArray := prog_5_method_14_code
def y_Re_isIn : MethodName := ⟨R_Re, "isIn", "([JII)Z"⟩
theorem k_Re_isIn : kS y_Re_isIn b_Re_isIn 3 (some .boolean) 3 := ⟨gmem (List.mem_append_right _ (List.mem_of_getElem? (i := 523) (by decide +kernel))) (by decide +kernel), in_Re, gmem (List.mem_append_right _ (List.mem_of_getElem? (i := 524) (by decide +kernel))) (by decide +kernel), by decide, by decide, by decide +kernel⟩
theorem d_Re_isIn_0 : decode b_Re_isIn 0 = .ok (.aload_n 0, 1) := by decide +kernel
theorem d_Re_isIn_1 : decode b_Re_isIn 1 = .ok (.iload_n 1, 1) := by decide +kernel
theorem d_Re_isIn_2 : decode b_Re_isIn 2 = .ok (.laload, 1) := by decide +kernel
theorem d_Re_isIn_3 : decode b_Re_isIn 3 = .ok (.iload_n 2, 1) := by decide +kernel
theorem d_Re_isIn_4 : decode b_Re_isIn 4 = .ok (.lshr, 1) := by decide +kernel
theorem d_Re_isIn_5 : decode b_Re_isIn 5 = .ok (.lconst 1, 1) := by decide +kernel
theorem d_Re_isIn_6 : decode b_Re_isIn 6 = .ok (.land, 1) := by decide +kernel
theorem d_Re_isIn_7 : decode b_Re_isIn 7 = .ok (.lconst 0, 1) := by decide +kernel
theorem d_Re_isIn_8 : decode b_Re_isIn 8 = .ok (.lcmp, 1) := by decide +kernel
theorem d_Re_isIn_9 : decode b_Re_isIn 9 = .ok (.ifCond .eq 7, 3) := by decide +kernel
theorem d_Re_isIn_12 : decode b_Re_isIn 12 = .ok (.iconst 1, 1) := by decide +kernel
theorem d_Re_isIn_13 : decode b_Re_isIn 13 = .ok (.goto 4, 3) := by decide +kernel
theorem d_Re_isIn_16 : decode b_Re_isIn 16 = .ok (.iconst 0, 1) := by decide +kernel
theorem d_Re_isIn_17 : decode b_Re_isIn 17 = .ok (.ireturn, 1) := by decide +kernel
abbrev b_Re_chain : ByteArray := prog_5_method_7_code
def y_Re_chain : MethodName := ⟨R_Re, "chain", "(I)V"⟩
theorem k_Re_chain : kV y_Re_chain b_Re_chain 4 none 1 := ⟨gmem (List.mem_append_right _ (List.mem_of_getElem? (i := 520) (by decide +kernel))) (by decide +kernel), gmem (List.mem_append_left _ (List.mem_of_getElem? (i := 5) (by decide +kernel))) (by decide +kernel), in_Re, gmem (List.mem_append_right _ (List.mem_of_getElem? (i := 521) (by decide +kernel))) (by decide +kernel), by decide, by decide, by decide +kernel⟩
theorem d_Re_chain_0 : decode b_Re_chain 0 = .ok (.iconst 0, 1) := by decide +kernel
theorem d_Re_chain_1 : decode b_Re_chain 1 = .ok (.istore_n 2, 1) := by decide +kernel
theorem d_Re_chain_2 : decode b_Re_chain 2 = .ok (.iload_n 2, 1) := by decide +kernel
theorem d_Re_chain_3 : decode b_Re_chain 3 = .ok (.iload_n 1, 1) := by decide +kernel
theorem d_Re_chain_4 : decode b_Re_chain 4 = .ok (.if_icmp .ge 49, 3) := by decide +kernel
theorem d_Re_chain_7 : decode b_Re_chain 7 = .ok (.iconst 0, 1) := by decide +kernel
theorem d_Re_chain_8 : decode b_Re_chain 8 = .ok (.istore_n 3, 1) := by decide +kernel
theorem d_Re_chain_9 : decode b_Re_chain 9 = .ok (.iload_n 3, 1) := by decide +kernel
theorem d_Re_chain_10 : decode b_Re_chain 10 = .ok (.iload_n 1, 1) := by decide +kernel
theorem d_Re_chain_11 : decode b_Re_chain 11 = .ok (.if_icmp .ge 36, 3) := by decide +kernel
theorem d_Re_chain_14 : decode b_Re_chain 14 = .ok (.aload_n 0, 1) := by decide +kernel
theorem d_Re_chain_15 : decode b_Re_chain 15 = .ok (.getfield 9, 3) := by decide +kernel
theorem d_Re_chain_18 : decode b_Re_chain 18 = .ok (.iload_n 3, 1) := by decide +kernel
theorem d_Re_chain_19 : decode b_Re_chain 19 = .ok (.iload_n 2, 1) := by decide +kernel
theorem d_Re_chain_20 : decode b_Re_chain 20 = .ok (.invokestatic 55, 3) := by decide +kernel
theorem d_Re_chain_23 : decode b_Re_chain 23 = .ok (.ifCond .eq 18, 3) := by decide +kernel
theorem d_Re_chain_26 : decode b_Re_chain 26 = .ok (.aload_n 0, 1) := by decide +kernel
theorem d_Re_chain_27 : decode b_Re_chain 27 = .ok (.getfield 9, 3) := by decide +kernel
theorem d_Re_chain_30 : decode b_Re_chain 30 = .ok (.iload_n 3, 1) := by decide +kernel
theorem d_Re_chain_31 : decode b_Re_chain 31 = .ok (.dup2, 1) := by decide +kernel
theorem d_Re_chain_32 : decode b_Re_chain 32 = .ok (.laload, 1) := by decide +kernel
theorem d_Re_chain_33 : decode b_Re_chain 33 = .ok (.aload_n 0, 1) := by decide +kernel
theorem d_Re_chain_34 : decode b_Re_chain 34 = .ok (.getfield 9, 3) := by decide +kernel
theorem d_Re_chain_37 : decode b_Re_chain 37 = .ok (.iload_n 2, 1) := by decide +kernel
theorem d_Re_chain_38 : decode b_Re_chain 38 = .ok (.laload, 1) := by decide +kernel
theorem d_Re_chain_39 : decode b_Re_chain 39 = .ok (.lor, 1) := by decide +kernel
theorem d_Re_chain_40 : decode b_Re_chain 40 = .ok (.lastore, 1) := by decide +kernel
theorem d_Re_chain_41 : decode b_Re_chain 41 = .ok (.iinc 3 1, 3) := by decide +kernel
theorem d_Re_chain_44 : decode b_Re_chain 44 = .ok (.goto (-35), 3) := by decide +kernel
theorem d_Re_chain_47 : decode b_Re_chain 47 = .ok (.iinc 2 1, 3) := by decide +kernel
theorem d_Re_chain_50 : decode b_Re_chain 50 = .ok (.goto (-48), 3) := by decide +kernel
theorem d_Re_chain_53 : decode b_Re_chain 53 = .ok (.return_, 1) := by decide +kernel
abbrev b_Re_partsRelated : ByteArray := prog_5_method_11_code
def y_Re_partsRelated : MethodName := ⟨R_Re, "partsRelated", "([JII)Z"⟩
theorem k_Re_partsRelated : kV y_Re_partsRelated b_Re_partsRelated 5 (some .boolean) 3 := ⟨gmem (List.mem_append_right _ (List.mem_of_getElem? (i := 531) (by decide +kernel))) (by decide +kernel), gmem (List.mem_append_left _ (List.mem_of_getElem? (i := 7) (by decide +kernel))) (by decide +kernel), in_Re, gmem (List.mem_append_right _ (List.mem_of_getElem? (i := 532) (by decide +kernel))) (by decide +kernel), by decide, by decide, by decide +kernel⟩
theorem d_Re_partsRelated_0 : decode b_Re_partsRelated 0 = .ok (.aload_n 0, 1) := by decide +kernel
theorem d_Re_partsRelated_1 : decode b_Re_partsRelated 1 = .ok (.getfield 29, 3) := by decide +kernel
theorem d_Re_partsRelated_4 : decode b_Re_partsRelated 4 = .ok (.iload_n 2, 1) := by decide +kernel
theorem d_Re_partsRelated_5 : decode b_Re_partsRelated 5 = .ok (.invokevirtual 91, 3) := by decide +kernel
theorem d_Re_partsRelated_8 : decode b_Re_partsRelated 8 = .ok (.aload_n 0, 1) := by decide +kernel
theorem d_Re_partsRelated_9 : decode b_Re_partsRelated 9 = .ok (.getfield 29, 3) := by decide +kernel
theorem d_Re_partsRelated_12 : decode b_Re_partsRelated 12 = .ok (.iload_n 3, 1) := by decide +kernel
theorem d_Re_partsRelated_13 : decode b_Re_partsRelated 13 = .ok (.invokevirtual 91, 3) := by decide +kernel
theorem d_Re_partsRelated_16 : decode b_Re_partsRelated 16 = .ok (.if_icmp .eq 5, 3) := by decide +kernel
theorem d_Re_partsRelated_19 : decode b_Re_partsRelated 19 = .ok (.iconst 0, 1) := by decide +kernel
theorem d_Re_partsRelated_20 : decode b_Re_partsRelated 20 = .ok (.ireturn, 1) := by decide +kernel
theorem d_Re_partsRelated_21 : decode b_Re_partsRelated 21 = .ok (.aload_n 0, 1) := by decide +kernel
theorem d_Re_partsRelated_22 : decode b_Re_partsRelated 22 = .ok (.getfield 29, 3) := by decide +kernel
theorem d_Re_partsRelated_25 : decode b_Re_partsRelated 25 = .ok (.aload_n 0, 1) := by decide +kernel
theorem d_Re_partsRelated_26 : decode b_Re_partsRelated 26 = .ok (.getfield 29, 3) := by decide +kernel
theorem d_Re_partsRelated_29 : decode b_Re_partsRelated 29 = .ok (.iload_n 2, 1) := by decide +kernel
theorem d_Re_partsRelated_30 : decode b_Re_partsRelated 30 = .ok (.invokevirtual 91, 3) := by decide +kernel
theorem d_Re_partsRelated_33 : decode b_Re_partsRelated 33 = .ok (.invokevirtual 94, 3) := by decide +kernel
theorem d_Re_partsRelated_36 : decode b_Re_partsRelated 36 = .ok (.istore 4, 2) := by decide +kernel
theorem d_Re_partsRelated_38 : decode b_Re_partsRelated 38 = .ok (.iload 4, 2) := by decide +kernel
theorem d_Re_partsRelated_40 : decode b_Re_partsRelated 40 = .ok (.iconst 1, 1) := by decide +kernel
theorem d_Re_partsRelated_41 : decode b_Re_partsRelated 41 = .ok (.if_icmp .lt 26, 3) := by decide +kernel
theorem d_Re_partsRelated_44 : decode b_Re_partsRelated 44 = .ok (.aload_n 1, 1) := by decide +kernel
theorem d_Re_partsRelated_45 : decode b_Re_partsRelated 45 = .ok (.aload_n 0, 1) := by decide +kernel
theorem d_Re_partsRelated_46 : decode b_Re_partsRelated 46 = .ok (.getfield 29, 3) := by decide +kernel
theorem d_Re_partsRelated_49 : decode b_Re_partsRelated 49 = .ok (.iload_n 2, 1) := by decide +kernel
theorem d_Re_partsRelated_50 : decode b_Re_partsRelated 50 = .ok (.invokevirtual 97, 3) := by decide +kernel
theorem d_Re_partsRelated_53 : decode b_Re_partsRelated 53 = .ok (.aload_n 0, 1) := by decide +kernel
theorem d_Re_partsRelated_54 : decode b_Re_partsRelated 54 = .ok (.getfield 29, 3) := by decide +kernel
theorem d_Re_partsRelated_57 : decode b_Re_partsRelated 57 = .ok (.iload_n 3, 1) := by decide +kernel
theorem d_Re_partsRelated_58 : decode b_Re_partsRelated 58 = .ok (.invokevirtual 97, 3) := by decide +kernel
theorem d_Re_partsRelated_61 : decode b_Re_partsRelated 61 = .ok (.invokestatic 55, 3) := by decide +kernel
theorem d_Re_partsRelated_64 : decode b_Re_partsRelated 64 = .ok (.ifCond .eq 36, 3) := by decide +kernel
theorem d_Re_partsRelated_67 : decode b_Re_partsRelated 67 = .ok (.iload 4, 2) := by decide +kernel
theorem d_Re_partsRelated_69 : decode b_Re_partsRelated 69 = .ok (.iconst 2, 1) := by decide +kernel
theorem d_Re_partsRelated_70 : decode b_Re_partsRelated 70 = .ok (.if_icmp .lt 26, 3) := by decide +kernel
theorem d_Re_partsRelated_73 : decode b_Re_partsRelated 73 = .ok (.aload_n 1, 1) := by decide +kernel
theorem d_Re_partsRelated_74 : decode b_Re_partsRelated 74 = .ok (.aload_n 0, 1) := by decide +kernel
theorem d_Re_partsRelated_75 : decode b_Re_partsRelated 75 = .ok (.getfield 29, 3) := by decide +kernel
theorem d_Re_partsRelated_78 : decode b_Re_partsRelated 78 = .ok (.iload_n 2, 1) := by decide +kernel
theorem d_Re_partsRelated_79 : decode b_Re_partsRelated 79 = .ok (.invokevirtual 100, 3) := by decide +kernel
theorem d_Re_partsRelated_82 : decode b_Re_partsRelated 82 = .ok (.aload_n 0, 1) := by decide +kernel
theorem d_Re_partsRelated_83 : decode b_Re_partsRelated 83 = .ok (.getfield 29, 3) := by decide +kernel
theorem d_Re_partsRelated_86 : decode b_Re_partsRelated 86 = .ok (.iload_n 3, 1) := by decide +kernel
theorem d_Re_partsRelated_87 : decode b_Re_partsRelated 87 = .ok (.invokevirtual 100, 3) := by decide +kernel
theorem d_Re_partsRelated_90 : decode b_Re_partsRelated 90 = .ok (.invokestatic 55, 3) := by decide +kernel
theorem d_Re_partsRelated_93 : decode b_Re_partsRelated 93 = .ok (.ifCond .eq 7, 3) := by decide +kernel
theorem d_Re_partsRelated_96 : decode b_Re_partsRelated 96 = .ok (.iconst 1, 1) := by decide +kernel
theorem d_Re_partsRelated_97 : decode b_Re_partsRelated 97 = .ok (.goto 4, 3) := by decide +kernel
theorem d_Re_partsRelated_100 : decode b_Re_partsRelated 100 = .ok (.iconst 0, 1) := by decide +kernel
theorem d_Re_partsRelated_101 : decode b_Re_partsRelated 101 = .ok (.ireturn, 1) := by decide +kernel
abbrev b_Re_liftFromParts : ByteArray := prog_5_method_10_code
def y_Re_liftFromParts : MethodName := ⟨R_Re, "liftFromParts", "([JI)Z"⟩
theorem k_Re_liftFromParts : kV y_Re_liftFromParts b_Re_liftFromParts 6 (some .boolean) 2 := ⟨gmem (List.mem_append_right _ (List.mem_of_getElem? (i := 527) (by decide +kernel))) (by decide +kernel), gmem (List.mem_append_left _ (List.mem_of_getElem? (i := 6) (by decide +kernel))) (by decide +kernel), in_Re, gmem (List.mem_append_right _ (List.mem_of_getElem? (i := 528) (by decide +kernel))) (by decide +kernel), by decide, by decide, by decide +kernel⟩
theorem d_Re_liftFromParts_0 : decode b_Re_liftFromParts 0 = .ok (.iconst 0, 1) := by decide +kernel
theorem d_Re_liftFromParts_1 : decode b_Re_liftFromParts 1 = .ok (.istore_n 3, 1) := by decide +kernel
theorem d_Re_liftFromParts_2 : decode b_Re_liftFromParts 2 = .ok (.iconst 0, 1) := by decide +kernel
theorem d_Re_liftFromParts_3 : decode b_Re_liftFromParts 3 = .ok (.istore 4, 2) := by decide +kernel
theorem d_Re_liftFromParts_5 : decode b_Re_liftFromParts 5 = .ok (.iload 4, 2) := by decide +kernel
theorem d_Re_liftFromParts_7 : decode b_Re_liftFromParts 7 = .ok (.iload_n 2, 1) := by decide +kernel
theorem d_Re_liftFromParts_8 : decode b_Re_liftFromParts 8 = .ok (.if_icmp .ge 60, 3) := by decide +kernel
theorem d_Re_liftFromParts_11 : decode b_Re_liftFromParts 11 = .ok (.iconst 0, 1) := by decide +kernel
theorem d_Re_liftFromParts_12 : decode b_Re_liftFromParts 12 = .ok (.istore 5, 2) := by decide +kernel
theorem d_Re_liftFromParts_14 : decode b_Re_liftFromParts 14 = .ok (.iload 5, 2) := by decide +kernel
theorem d_Re_liftFromParts_16 : decode b_Re_liftFromParts 16 = .ok (.iload_n 2, 1) := by decide +kernel
theorem d_Re_liftFromParts_17 : decode b_Re_liftFromParts 17 = .ok (.if_icmp .ge 45, 3) := by decide +kernel
theorem d_Re_liftFromParts_20 : decode b_Re_liftFromParts 20 = .ok (.aload_n 1, 1) := by decide +kernel
theorem d_Re_liftFromParts_21 : decode b_Re_liftFromParts 21 = .ok (.iload 4, 2) := by decide +kernel
theorem d_Re_liftFromParts_23 : decode b_Re_liftFromParts 23 = .ok (.iload 5, 2) := by decide +kernel
theorem d_Re_liftFromParts_25 : decode b_Re_liftFromParts 25 = .ok (.invokestatic 55, 3) := by decide +kernel
theorem d_Re_liftFromParts_28 : decode b_Re_liftFromParts 28 = .ok (.ifCond .ne 28, 3) := by decide +kernel
theorem d_Re_liftFromParts_31 : decode b_Re_liftFromParts 31 = .ok (.aload_n 0, 1) := by decide +kernel
theorem d_Re_liftFromParts_32 : decode b_Re_liftFromParts 32 = .ok (.aload_n 1, 1) := by decide +kernel
theorem d_Re_liftFromParts_33 : decode b_Re_liftFromParts 33 = .ok (.iload 4, 2) := by decide +kernel
theorem d_Re_liftFromParts_35 : decode b_Re_liftFromParts 35 = .ok (.iload 5, 2) := by decide +kernel
theorem d_Re_liftFromParts_37 : decode b_Re_liftFromParts 37 = .ok (.invokevirtual 88, 3) := by decide +kernel
theorem d_Re_liftFromParts_40 : decode b_Re_liftFromParts 40 = .ok (.ifCond .eq 16, 3) := by decide +kernel
theorem d_Re_liftFromParts_43 : decode b_Re_liftFromParts 43 = .ok (.aload_n 1, 1) := by decide +kernel
theorem d_Re_liftFromParts_44 : decode b_Re_liftFromParts 44 = .ok (.iload 4, 2) := by decide +kernel
theorem d_Re_liftFromParts_46 : decode b_Re_liftFromParts 46 = .ok (.dup2, 1) := by decide +kernel
theorem d_Re_liftFromParts_47 : decode b_Re_liftFromParts 47 = .ok (.laload, 1) := by decide +kernel
theorem d_Re_liftFromParts_48 : decode b_Re_liftFromParts 48 = .ok (.lconst 1, 1) := by decide +kernel
theorem d_Re_liftFromParts_49 : decode b_Re_liftFromParts 49 = .ok (.iload 5, 2) := by decide +kernel
theorem d_Re_liftFromParts_51 : decode b_Re_liftFromParts 51 = .ok (.lshl, 1) := by decide +kernel
theorem d_Re_liftFromParts_52 : decode b_Re_liftFromParts 52 = .ok (.lor, 1) := by decide +kernel
theorem d_Re_liftFromParts_53 : decode b_Re_liftFromParts 53 = .ok (.lastore, 1) := by decide +kernel
theorem d_Re_liftFromParts_54 : decode b_Re_liftFromParts 54 = .ok (.iconst 1, 1) := by decide +kernel
theorem d_Re_liftFromParts_55 : decode b_Re_liftFromParts 55 = .ok (.istore_n 3, 1) := by decide +kernel
theorem d_Re_liftFromParts_56 : decode b_Re_liftFromParts 56 = .ok (.iinc 5 1, 3) := by decide +kernel
theorem d_Re_liftFromParts_59 : decode b_Re_liftFromParts 59 = .ok (.goto (-45), 3) := by decide +kernel
theorem d_Re_liftFromParts_62 : decode b_Re_liftFromParts 62 = .ok (.iinc 4 1, 3) := by decide +kernel
theorem d_Re_liftFromParts_65 : decode b_Re_liftFromParts 65 = .ok (.goto (-60), 3) := by decide +kernel
theorem d_Re_liftFromParts_68 : decode b_Re_liftFromParts 68 = .ok (.iload_n 3, 1) := by decide +kernel
theorem d_Re_liftFromParts_69 : decode b_Re_liftFromParts 69 = .ok (.ireturn, 1) := by decide +kernel
abbrev b_Re_findReached : ByteArray := prog_5_method_6_code
def y_Re_findReached : MethodName := ⟨R_Re, "findReached", "()V"⟩
theorem k_Re_findReached : kV y_Re_findReached b_Re_findReached 4 none 0 := ⟨gmem (List.mem_append_right _ (List.mem_of_getElem? (i := 507) (by decide +kernel))) (by decide +kernel), gmem (List.mem_append_left _ (List.mem_of_getElem? (i := 4) (by decide +kernel))) (by decide +kernel), in_Re, gmem (List.mem_append_right _ (List.mem_of_getElem? (i := 508) (by decide +kernel))) (by decide +kernel), by decide, by decide, by decide +kernel⟩
theorem d_Re_findReached_0 : decode b_Re_findReached 0 = .ok (.aload_n 0, 1) := by decide +kernel
theorem d_Re_findReached_1 : decode b_Re_findReached 1 = .ok (.getfield 29, 3) := by decide +kernel
theorem d_Re_findReached_4 : decode b_Re_findReached 4 = .ok (.invokevirtual 37, 3) := by decide +kernel
theorem d_Re_findReached_7 : decode b_Re_findReached 7 = .ok (.istore_n 1, 1) := by decide +kernel
theorem d_Re_findReached_8 : decode b_Re_findReached 8 = .ok (.iconst 0, 1) := by decide +kernel
theorem d_Re_findReached_9 : decode b_Re_findReached 9 = .ok (.istore_n 2, 1) := by decide +kernel
theorem d_Re_findReached_10 : decode b_Re_findReached 10 = .ok (.iload_n 2, 1) := by decide +kernel
theorem d_Re_findReached_11 : decode b_Re_findReached 11 = .ok (.iload_n 1, 1) := by decide +kernel
theorem d_Re_findReached_12 : decode b_Re_findReached 12 = .ok (.if_icmp .ge 18, 3) := by decide +kernel
theorem d_Re_findReached_15 : decode b_Re_findReached 15 = .ok (.aload_n 0, 1) := by decide +kernel
theorem d_Re_findReached_16 : decode b_Re_findReached 16 = .ok (.getfield 9, 3) := by decide +kernel
theorem d_Re_findReached_19 : decode b_Re_findReached 19 = .ok (.iload_n 2, 1) := by decide +kernel
theorem d_Re_findReached_20 : decode b_Re_findReached 20 = .ok (.lconst 1, 1) := by decide +kernel
theorem d_Re_findReached_21 : decode b_Re_findReached 21 = .ok (.iload_n 2, 1) := by decide +kernel
theorem d_Re_findReached_22 : decode b_Re_findReached 22 = .ok (.lshl, 1) := by decide +kernel
theorem d_Re_findReached_23 : decode b_Re_findReached 23 = .ok (.lastore, 1) := by decide +kernel
theorem d_Re_findReached_24 : decode b_Re_findReached 24 = .ok (.iinc 2 1, 3) := by decide +kernel
theorem d_Re_findReached_27 : decode b_Re_findReached 27 = .ok (.goto (-17), 3) := by decide +kernel
theorem d_Re_findReached_30 : decode b_Re_findReached 30 = .ok (.iconst 0, 1) := by decide +kernel
theorem d_Re_findReached_31 : decode b_Re_findReached 31 = .ok (.istore_n 2, 1) := by decide +kernel
theorem d_Re_findReached_32 : decode b_Re_findReached 32 = .ok (.iload_n 2, 1) := by decide +kernel
theorem d_Re_findReached_33 : decode b_Re_findReached 33 = .ok (.aload_n 0, 1) := by decide +kernel
theorem d_Re_findReached_34 : decode b_Re_findReached 34 = .ok (.getfield 33, 3) := by decide +kernel
theorem d_Re_findReached_37 : decode b_Re_findReached 37 = .ok (.invokevirtual 70, 3) := by decide +kernel
theorem d_Re_findReached_40 : decode b_Re_findReached 40 = .ok (.if_icmp .ge 35, 3) := by decide +kernel
theorem d_Re_findReached_43 : decode b_Re_findReached 43 = .ok (.aload_n 0, 1) := by decide +kernel
theorem d_Re_findReached_44 : decode b_Re_findReached 44 = .ok (.getfield 9, 3) := by decide +kernel
theorem d_Re_findReached_47 : decode b_Re_findReached 47 = .ok (.aload_n 0, 1) := by decide +kernel
theorem d_Re_findReached_48 : decode b_Re_findReached 48 = .ok (.getfield 33, 3) := by decide +kernel
theorem d_Re_findReached_51 : decode b_Re_findReached 51 = .ok (.iload_n 2, 1) := by decide +kernel
theorem d_Re_findReached_52 : decode b_Re_findReached 52 = .ok (.invokevirtual 71, 3) := by decide +kernel
theorem d_Re_findReached_55 : decode b_Re_findReached 55 = .ok (.dup2, 1) := by decide +kernel
theorem d_Re_findReached_56 : decode b_Re_findReached 56 = .ok (.laload, 1) := by decide +kernel
theorem d_Re_findReached_57 : decode b_Re_findReached 57 = .ok (.lconst 1, 1) := by decide +kernel
theorem d_Re_findReached_58 : decode b_Re_findReached 58 = .ok (.aload_n 0, 1) := by decide +kernel
theorem d_Re_findReached_59 : decode b_Re_findReached 59 = .ok (.getfield 33, 3) := by decide +kernel
theorem d_Re_findReached_62 : decode b_Re_findReached 62 = .ok (.iload_n 2, 1) := by decide +kernel
theorem d_Re_findReached_63 : decode b_Re_findReached 63 = .ok (.invokevirtual 74, 3) := by decide +kernel
theorem d_Re_findReached_66 : decode b_Re_findReached 66 = .ok (.lshl, 1) := by decide +kernel
theorem d_Re_findReached_67 : decode b_Re_findReached 67 = .ok (.lor, 1) := by decide +kernel
theorem d_Re_findReached_68 : decode b_Re_findReached 68 = .ok (.lastore, 1) := by decide +kernel
theorem d_Re_findReached_69 : decode b_Re_findReached 69 = .ok (.iinc 2 1, 3) := by decide +kernel
theorem d_Re_findReached_72 : decode b_Re_findReached 72 = .ok (.goto (-40), 3) := by decide +kernel
theorem d_Re_findReached_75 : decode b_Re_findReached 75 = .ok (.iconst 1, 1) := by decide +kernel
theorem d_Re_findReached_76 : decode b_Re_findReached 76 = .ok (.istore_n 2, 1) := by decide +kernel
theorem d_Re_findReached_77 : decode b_Re_findReached 77 = .ok (.iconst 0, 1) := by decide +kernel
theorem d_Re_findReached_78 : decode b_Re_findReached 78 = .ok (.istore_n 3, 1) := by decide +kernel
end
section
theorem d_Re_findReached_79 : decode b_Re_findReached 79 = .ok (.iload_n 3, 1) := by decide +kernel
theorem d_Re_findReached_80 : decode b_Re_findReached 80 = .ok (.sipush 2305, 3) := by decide +kernel
theorem d_Re_findReached_83 : decode b_Re_findReached 83 = .ok (.if_icmp .ge 28, 3) := by decide +kernel
theorem d_Re_findReached_86 : decode b_Re_findReached 86 = .ok (.iload_n 2, 1) := by decide +kernel
theorem d_Re_findReached_87 : decode b_Re_findReached 87 = .ok (.ifCond .eq 24, 3) := by decide +kernel
theorem d_Re_findReached_90 : decode b_Re_findReached 90 = .ok (.aload_n 0, 1) := by decide +kernel
theorem d_Re_findReached_91 : decode b_Re_findReached 91 = .ok (.iload_n 1, 1) := by decide +kernel
theorem d_Re_findReached_92 : decode b_Re_findReached 92 = .ok (.invokevirtual 77, 3) := by decide +kernel
theorem d_Re_findReached_95 : decode b_Re_findReached 95 = .ok (.aload_n 0, 1) := by decide +kernel
theorem d_Re_findReached_96 : decode b_Re_findReached 96 = .ok (.aload_n 0, 1) := by decide +kernel
theorem d_Re_findReached_97 : decode b_Re_findReached 97 = .ok (.getfield 9, 3) := by decide +kernel
theorem d_Re_findReached_100 : decode b_Re_findReached 100 = .ok (.iload_n 1, 1) := by decide +kernel
theorem d_Re_findReached_101 : decode b_Re_findReached 101 = .ok (.invokevirtual 81, 3) := by decide +kernel
theorem d_Re_findReached_104 : decode b_Re_findReached 104 = .ok (.istore_n 2, 1) := by decide +kernel
theorem d_Re_findReached_105 : decode b_Re_findReached 105 = .ok (.iinc 3 1, 3) := by decide +kernel
theorem d_Re_findReached_108 : decode b_Re_findReached 108 = .ok (.goto (-29), 3) := by decide +kernel
theorem d_Re_findReached_111 : decode b_Re_findReached 111 = .ok (.return_, 1) := by decide +kernel
abbrev b_Re_renew : ByteArray := prog_5_method_2_code
def y_Re_renew : MethodName := ⟨R_Re, "renew", "()V"⟩
theorem k_Re_renew : kV y_Re_renew b_Re_renew 1 none 0 := ⟨gmem (List.mem_append_right _ (List.mem_of_getElem? (i := 497) (by decide +kernel))) (by decide +kernel), gmem (List.mem_append_right _ (List.mem_of_getElem? (i := 498) (by decide +kernel))) (by decide +kernel), in_Re, gmem (List.mem_append_right _ (List.mem_of_getElem? (i := 499) (by decide +kernel))) (by decide +kernel), by decide, by decide, by decide +kernel⟩
theorem d_Re_renew_0 : decode b_Re_renew 0 = .ok (.aload_n 0, 1) := by decide +kernel
theorem d_Re_renew_1 : decode b_Re_renew 1 = .ok (.getfield 22, 3) := by decide +kernel
theorem d_Re_renew_4 : decode b_Re_renew 4 = .ok (.aload_n 0, 1) := by decide +kernel
theorem d_Re_renew_5 : decode b_Re_renew 5 = .ok (.getfield 29, 3) := by decide +kernel
theorem d_Re_renew_8 : decode b_Re_renew 8 = .ok (.invokevirtual 37, 3) := by decide +kernel
theorem d_Re_renew_11 : decode b_Re_renew 11 = .ok (.if_icmp .ne 18, 3) := by decide +kernel
theorem d_Re_renew_14 : decode b_Re_renew 14 = .ok (.aload_n 0, 1) := by decide +kernel
theorem d_Re_renew_15 : decode b_Re_renew 15 = .ok (.getfield 26, 3) := by decide +kernel
theorem d_Re_renew_18 : decode b_Re_renew 18 = .ok (.aload_n 0, 1) := by decide +kernel
theorem d_Re_renew_19 : decode b_Re_renew 19 = .ok (.getfield 33, 3) := by decide +kernel
theorem d_Re_renew_22 : decode b_Re_renew 22 = .ok (.invokevirtual 43, 3) := by decide +kernel
theorem d_Re_renew_25 : decode b_Re_renew 25 = .ok (.if_icmp .ne 4, 3) := by decide +kernel
theorem d_Re_renew_28 : decode b_Re_renew 28 = .ok (.return_, 1) := by decide +kernel
theorem d_Re_renew_29 : decode b_Re_renew 29 = .ok (.aload_n 0, 1) := by decide +kernel
theorem d_Re_renew_30 : decode b_Re_renew 30 = .ok (.aload_n 0, 1) := by decide +kernel
theorem d_Re_renew_31 : decode b_Re_renew 31 = .ok (.getfield 29, 3) := by decide +kernel
theorem d_Re_renew_34 : decode b_Re_renew 34 = .ok (.invokevirtual 37, 3) := by decide +kernel
theorem d_Re_renew_37 : decode b_Re_renew 37 = .ok (.putfield 22, 3) := by decide +kernel
theorem d_Re_renew_40 : decode b_Re_renew 40 = .ok (.aload_n 0, 1) := by decide +kernel
theorem d_Re_renew_41 : decode b_Re_renew 41 = .ok (.aload_n 0, 1) := by decide +kernel
theorem d_Re_renew_42 : decode b_Re_renew 42 = .ok (.getfield 33, 3) := by decide +kernel
theorem d_Re_renew_45 : decode b_Re_renew 45 = .ok (.invokevirtual 43, 3) := by decide +kernel
theorem d_Re_renew_48 : decode b_Re_renew 48 = .ok (.putfield 26, 3) := by decide +kernel
theorem d_Re_renew_51 : decode b_Re_renew 51 = .ok (.aload_n 0, 1) := by decide +kernel
theorem d_Re_renew_52 : decode b_Re_renew 52 = .ok (.iconst 0, 1) := by decide +kernel
theorem d_Re_renew_53 : decode b_Re_renew 53 = .ok (.putfield 48, 3) := by decide +kernel
theorem d_Re_renew_56 : decode b_Re_renew 56 = .ok (.aload_n 0, 1) := by decide +kernel
theorem d_Re_renew_57 : decode b_Re_renew 57 = .ok (.invokevirtual 52, 3) := by decide +kernel
theorem d_Re_renew_60 : decode b_Re_renew 60 = .ok (.return_, 1) := by decide +kernel
abbrev b_Re_leads : ByteArray := prog_5_method_3_code
def y_Re_leads : MethodName := ⟨R_Re, "leads", "(II)Z"⟩
theorem k_Re_leads : kV y_Re_leads b_Re_leads 3 (some .boolean) 2 := ⟨gmem (List.mem_append_right _ (List.mem_of_getElem? (i := 538) (by decide +kernel))) (by decide +kernel), gmem (List.mem_append_right _ (List.mem_of_getElem? (i := 539) (by decide +kernel))) (by decide +kernel), in_Re, gmem (List.mem_append_right _ (List.mem_of_getElem? (i := 540) (by decide +kernel))) (by decide +kernel), by decide, by decide, by decide +kernel⟩
theorem d_Re_leads_0 : decode b_Re_leads 0 = .ok (.aload_n 0, 1) := by decide +kernel
theorem d_Re_leads_1 : decode b_Re_leads 1 = .ok (.getfield 9, 3) := by decide +kernel
theorem d_Re_leads_4 : decode b_Re_leads 4 = .ok (.iload_n 1, 1) := by decide +kernel
theorem d_Re_leads_5 : decode b_Re_leads 5 = .ok (.iload_n 2, 1) := by decide +kernel
theorem d_Re_leads_6 : decode b_Re_leads 6 = .ok (.invokestatic 55, 3) := by decide +kernel
theorem d_Re_leads_9 : decode b_Re_leads 9 = .ok (.ireturn, 1) := by decide +kernel
abbrev b_Re_inheritJoined : ByteArray := prog_5_method_9_code
def y_Re_inheritJoined : MethodName := ⟨R_Re, "inheritJoined", "(I)Z"⟩
theorem k_Re_inheritJoined : kV y_Re_inheritJoined b_Re_inheritJoined 7 (some .boolean) 1 := ⟨gmem (List.mem_append_right _ (List.mem_of_getElem? (i := 558) (by decide +kernel))) (by decide +kernel), gmem (List.mem_append_left _ (List.mem_of_getElem? (i := 9) (by decide +kernel))) (by decide +kernel), in_Re, gmem (List.mem_append_right _ (List.mem_of_getElem? (i := 559) (by decide +kernel))) (by decide +kernel), by decide, by decide, by decide +kernel⟩
theorem d_Re_inheritJoined_0 : decode b_Re_inheritJoined 0 = .ok (.iconst 0, 1) := by decide +kernel
theorem d_Re_inheritJoined_1 : decode b_Re_inheritJoined 1 = .ok (.istore_n 2, 1) := by decide +kernel
theorem d_Re_inheritJoined_2 : decode b_Re_inheritJoined 2 = .ok (.iconst 0, 1) := by decide +kernel
theorem d_Re_inheritJoined_3 : decode b_Re_inheritJoined 3 = .ok (.istore_n 3, 1) := by decide +kernel
theorem d_Re_inheritJoined_4 : decode b_Re_inheritJoined 4 = .ok (.iload_n 3, 1) := by decide +kernel
theorem d_Re_inheritJoined_5 : decode b_Re_inheritJoined 5 = .ok (.iload_n 1, 1) := by decide +kernel
theorem d_Re_inheritJoined_6 : decode b_Re_inheritJoined 6 = .ok (.if_icmp .ge 107, 3) := by decide +kernel
theorem d_Re_inheritJoined_9 : decode b_Re_inheritJoined 9 = .ok (.aload_n 0, 1) := by decide +kernel
theorem d_Re_inheritJoined_10 : decode b_Re_inheritJoined 10 = .ok (.getfield 15, 3) := by decide +kernel
theorem d_Re_inheritJoined_13 : decode b_Re_inheritJoined 13 = .ok (.iload_n 3, 1) := by decide +kernel
theorem d_Re_inheritJoined_14 : decode b_Re_inheritJoined 14 = .ok (.laload, 1) := by decide +kernel
theorem d_Re_inheritJoined_15 : decode b_Re_inheritJoined 15 = .ok (.lstore 4, 2) := by decide +kernel
theorem d_Re_inheritJoined_17 : decode b_Re_inheritJoined 17 = .ok (.iconst 0, 1) := by decide +kernel
theorem d_Re_inheritJoined_18 : decode b_Re_inheritJoined 18 = .ok (.istore 6, 2) := by decide +kernel
theorem d_Re_inheritJoined_20 : decode b_Re_inheritJoined 20 = .ok (.iload 6, 2) := by decide +kernel
theorem d_Re_inheritJoined_22 : decode b_Re_inheritJoined 22 = .ok (.iload_n 1, 1) := by decide +kernel
theorem d_Re_inheritJoined_23 : decode b_Re_inheritJoined 23 = .ok (.if_icmp .ge 56, 3) := by decide +kernel
theorem d_Re_inheritJoined_26 : decode b_Re_inheritJoined 26 = .ok (.aload_n 0, 1) := by decide +kernel
theorem d_Re_inheritJoined_27 : decode b_Re_inheritJoined 27 = .ok (.getfield 9, 3) := by decide +kernel
theorem d_Re_inheritJoined_30 : decode b_Re_inheritJoined 30 = .ok (.iload_n 3, 1) := by decide +kernel
theorem d_Re_inheritJoined_31 : decode b_Re_inheritJoined 31 = .ok (.iload 6, 2) := by decide +kernel
theorem d_Re_inheritJoined_33 : decode b_Re_inheritJoined 33 = .ok (.invokestatic 55, 3) := by decide +kernel
theorem d_Re_inheritJoined_36 : decode b_Re_inheritJoined 36 = .ok (.ifCond .eq 15, 3) := by decide +kernel
theorem d_Re_inheritJoined_39 : decode b_Re_inheritJoined 39 = .ok (.lload 4, 2) := by decide +kernel
theorem d_Re_inheritJoined_41 : decode b_Re_inheritJoined 41 = .ok (.aload_n 0, 1) := by decide +kernel
theorem d_Re_inheritJoined_42 : decode b_Re_inheritJoined 42 = .ok (.getfield 15, 3) := by decide +kernel
theorem d_Re_inheritJoined_45 : decode b_Re_inheritJoined 45 = .ok (.iload 6, 2) := by decide +kernel
theorem d_Re_inheritJoined_47 : decode b_Re_inheritJoined 47 = .ok (.laload, 1) := by decide +kernel
theorem d_Re_inheritJoined_48 : decode b_Re_inheritJoined 48 = .ok (.lor, 1) := by decide +kernel
theorem d_Re_inheritJoined_49 : decode b_Re_inheritJoined 49 = .ok (.lstore 4, 2) := by decide +kernel
theorem d_Re_inheritJoined_51 : decode b_Re_inheritJoined 51 = .ok (.aload_n 0, 1) := by decide +kernel
theorem d_Re_inheritJoined_52 : decode b_Re_inheritJoined 52 = .ok (.getfield 15, 3) := by decide +kernel
theorem d_Re_inheritJoined_55 : decode b_Re_inheritJoined 55 = .ok (.iload 6, 2) := by decide +kernel
theorem d_Re_inheritJoined_57 : decode b_Re_inheritJoined 57 = .ok (.iload_n 3, 1) := by decide +kernel
theorem d_Re_inheritJoined_58 : decode b_Re_inheritJoined 58 = .ok (.invokestatic 55, 3) := by decide +kernel
theorem d_Re_inheritJoined_61 : decode b_Re_inheritJoined 61 = .ok (.ifCond .eq 12, 3) := by decide +kernel
theorem d_Re_inheritJoined_64 : decode b_Re_inheritJoined 64 = .ok (.lload 4, 2) := by decide +kernel
theorem d_Re_inheritJoined_66 : decode b_Re_inheritJoined 66 = .ok (.lconst 1, 1) := by decide +kernel
theorem d_Re_inheritJoined_67 : decode b_Re_inheritJoined 67 = .ok (.iload 6, 2) := by decide +kernel
theorem d_Re_inheritJoined_69 : decode b_Re_inheritJoined 69 = .ok (.lshl, 1) := by decide +kernel
theorem d_Re_inheritJoined_70 : decode b_Re_inheritJoined 70 = .ok (.lor, 1) := by decide +kernel
theorem d_Re_inheritJoined_71 : decode b_Re_inheritJoined 71 = .ok (.lstore 4, 2) := by decide +kernel
theorem d_Re_inheritJoined_73 : decode b_Re_inheritJoined 73 = .ok (.iinc 6 1, 3) := by decide +kernel
theorem d_Re_inheritJoined_76 : decode b_Re_inheritJoined 76 = .ok (.goto (-56), 3) := by decide +kernel
theorem d_Re_inheritJoined_79 : decode b_Re_inheritJoined 79 = .ok (.iload_n 2, 1) := by decide +kernel
theorem d_Re_inheritJoined_80 : decode b_Re_inheritJoined 80 = .ok (.lload 4, 2) := by decide +kernel
theorem d_Re_inheritJoined_82 : decode b_Re_inheritJoined 82 = .ok (.aload_n 0, 1) := by decide +kernel
theorem d_Re_inheritJoined_83 : decode b_Re_inheritJoined 83 = .ok (.getfield 15, 3) := by decide +kernel
theorem d_Re_inheritJoined_86 : decode b_Re_inheritJoined 86 = .ok (.iload_n 3, 1) := by decide +kernel
theorem d_Re_inheritJoined_87 : decode b_Re_inheritJoined 87 = .ok (.laload, 1) := by decide +kernel
theorem d_Re_inheritJoined_88 : decode b_Re_inheritJoined 88 = .ok (.lcmp, 1) := by decide +kernel
theorem d_Re_inheritJoined_89 : decode b_Re_inheritJoined 89 = .ok (.ifCond .eq 7, 3) := by decide +kernel
theorem d_Re_inheritJoined_92 : decode b_Re_inheritJoined 92 = .ok (.iconst 1, 1) := by decide +kernel
theorem d_Re_inheritJoined_93 : decode b_Re_inheritJoined 93 = .ok (.goto 4, 3) := by decide +kernel
theorem d_Re_inheritJoined_96 : decode b_Re_inheritJoined 96 = .ok (.iconst 0, 1) := by decide +kernel
theorem d_Re_inheritJoined_97 : decode b_Re_inheritJoined 97 = .ok (.ior, 1) := by decide +kernel
theorem d_Re_inheritJoined_98 : decode b_Re_inheritJoined 98 = .ok (.istore_n 2, 1) := by decide +kernel
theorem d_Re_inheritJoined_99 : decode b_Re_inheritJoined 99 = .ok (.aload_n 0, 1) := by decide +kernel
theorem d_Re_inheritJoined_100 : decode b_Re_inheritJoined 100 = .ok (.getfield 15, 3) := by decide +kernel
theorem d_Re_inheritJoined_103 : decode b_Re_inheritJoined 103 = .ok (.iload_n 3, 1) := by decide +kernel
theorem d_Re_inheritJoined_104 : decode b_Re_inheritJoined 104 = .ok (.lload 4, 2) := by decide +kernel
theorem d_Re_inheritJoined_106 : decode b_Re_inheritJoined 106 = .ok (.lastore, 1) := by decide +kernel
theorem d_Re_inheritJoined_107 : decode b_Re_inheritJoined 107 = .ok (.iinc 3 1, 3) := by decide +kernel
theorem d_Re_inheritJoined_110 : decode b_Re_inheritJoined 110 = .ok (.goto (-106), 3) := by decide +kernel
theorem d_Re_inheritJoined_113 : decode b_Re_inheritJoined 113 = .ok (.iload_n 2, 1) := by decide +kernel
theorem d_Re_inheritJoined_114 : decode b_Re_inheritJoined 114 = .ok (.ireturn, 1) := by decide +kernel
abbrev b_Re_findJoined : ByteArray := prog_5_method_8_code
def y_Re_findJoined : MethodName := ⟨R_Re, "findJoined", "()V"⟩
theorem k_Re_findJoined : kV y_Re_findJoined b_Re_findJoined 4 none 0 := ⟨gmem (List.mem_append_right _ (List.mem_of_getElem? (i := 554) (by decide +kernel))) (by decide +kernel), gmem (List.mem_append_left _ (List.mem_of_getElem? (i := 8) (by decide +kernel))) (by decide +kernel), in_Re, gmem (List.mem_append_right _ (List.mem_of_getElem? (i := 555) (by decide +kernel))) (by decide +kernel), by decide, by decide, by decide +kernel⟩
theorem d_Re_findJoined_0 : decode b_Re_findJoined 0 = .ok (.aload_n 0, 1) := by decide +kernel
theorem d_Re_findJoined_1 : decode b_Re_findJoined 1 = .ok (.getfield 29, 3) := by decide +kernel
theorem d_Re_findJoined_4 : decode b_Re_findJoined 4 = .ok (.invokevirtual 37, 3) := by decide +kernel
theorem d_Re_findJoined_7 : decode b_Re_findJoined 7 = .ok (.istore_n 1, 1) := by decide +kernel
theorem d_Re_findJoined_8 : decode b_Re_findJoined 8 = .ok (.iconst 0, 1) := by decide +kernel
theorem d_Re_findJoined_9 : decode b_Re_findJoined 9 = .ok (.istore_n 2, 1) := by decide +kernel
theorem d_Re_findJoined_10 : decode b_Re_findJoined 10 = .ok (.iload_n 2, 1) := by decide +kernel
theorem d_Re_findJoined_11 : decode b_Re_findJoined 11 = .ok (.iload_n 1, 1) := by decide +kernel
theorem d_Re_findJoined_12 : decode b_Re_findJoined 12 = .ok (.if_icmp .ge 18, 3) := by decide +kernel
theorem d_Re_findJoined_15 : decode b_Re_findJoined 15 = .ok (.aload_n 0, 1) := by decide +kernel
theorem d_Re_findJoined_16 : decode b_Re_findJoined 16 = .ok (.getfield 15, 3) := by decide +kernel
theorem d_Re_findJoined_19 : decode b_Re_findJoined 19 = .ok (.iload_n 2, 1) := by decide +kernel
theorem d_Re_findJoined_20 : decode b_Re_findJoined 20 = .ok (.lconst 1, 1) := by decide +kernel
theorem d_Re_findJoined_21 : decode b_Re_findJoined 21 = .ok (.iload_n 2, 1) := by decide +kernel
theorem d_Re_findJoined_22 : decode b_Re_findJoined 22 = .ok (.lshl, 1) := by decide +kernel
theorem d_Re_findJoined_23 : decode b_Re_findJoined 23 = .ok (.lastore, 1) := by decide +kernel
theorem d_Re_findJoined_24 : decode b_Re_findJoined 24 = .ok (.iinc 2 1, 3) := by decide +kernel
theorem d_Re_findJoined_27 : decode b_Re_findJoined 27 = .ok (.goto (-17), 3) := by decide +kernel
theorem d_Re_findJoined_30 : decode b_Re_findJoined 30 = .ok (.iconst 1, 1) := by decide +kernel
theorem d_Re_findJoined_31 : decode b_Re_findJoined 31 = .ok (.istore_n 2, 1) := by decide +kernel
theorem d_Re_findJoined_32 : decode b_Re_findJoined 32 = .ok (.iconst 0, 1) := by decide +kernel
theorem d_Re_findJoined_33 : decode b_Re_findJoined 33 = .ok (.istore_n 3, 1) := by decide +kernel
theorem d_Re_findJoined_34 : decode b_Re_findJoined 34 = .ok (.iload_n 3, 1) := by decide +kernel
theorem d_Re_findJoined_35 : decode b_Re_findJoined 35 = .ok (.sipush 2305, 3) := by decide +kernel
theorem d_Re_findJoined_38 : decode b_Re_findJoined 38 = .ok (.if_icmp .ge 33, 3) := by decide +kernel
theorem d_Re_findJoined_41 : decode b_Re_findJoined 41 = .ok (.iload_n 2, 1) := by decide +kernel
theorem d_Re_findJoined_42 : decode b_Re_findJoined 42 = .ok (.ifCond .eq 29, 3) := by decide +kernel
theorem d_Re_findJoined_45 : decode b_Re_findJoined 45 = .ok (.aload_n 0, 1) := by decide +kernel
theorem d_Re_findJoined_46 : decode b_Re_findJoined 46 = .ok (.iload_n 1, 1) := by decide +kernel
theorem d_Re_findJoined_47 : decode b_Re_findJoined 47 = .ok (.invokevirtual 85, 3) := by decide +kernel
theorem d_Re_findJoined_50 : decode b_Re_findJoined 50 = .ok (.istore_n 2, 1) := by decide +kernel
theorem d_Re_findJoined_51 : decode b_Re_findJoined 51 = .ok (.aload_n 0, 1) := by decide +kernel
theorem d_Re_findJoined_52 : decode b_Re_findJoined 52 = .ok (.aload_n 0, 1) := by decide +kernel
theorem d_Re_findJoined_53 : decode b_Re_findJoined 53 = .ok (.getfield 15, 3) := by decide +kernel
theorem d_Re_findJoined_56 : decode b_Re_findJoined 56 = .ok (.iload_n 1, 1) := by decide +kernel
theorem d_Re_findJoined_57 : decode b_Re_findJoined 57 = .ok (.invokevirtual 81, 3) := by decide +kernel
theorem d_Re_findJoined_60 : decode b_Re_findJoined 60 = .ok (.ifCond .eq 5, 3) := by decide +kernel
theorem d_Re_findJoined_63 : decode b_Re_findJoined 63 = .ok (.iconst 1, 1) := by decide +kernel
theorem d_Re_findJoined_64 : decode b_Re_findJoined 64 = .ok (.istore_n 2, 1) := by decide +kernel
theorem d_Re_findJoined_65 : decode b_Re_findJoined 65 = .ok (.iinc 3 1, 3) := by decide +kernel
theorem d_Re_findJoined_68 : decode b_Re_findJoined 68 = .ok (.goto (-34), 3) := by decide +kernel
theorem d_Re_findJoined_71 : decode b_Re_findJoined 71 = .ok (.return_, 1) := by decide +kernel
abbrev b_Re_joins : ByteArray := prog_5_method_4_code
def y_Re_joins : MethodName := ⟨R_Re, "joins", "(II)Z"⟩
theorem k_Re_joins : kV y_Re_joins b_Re_joins 3 (some .boolean) 2 := ⟨gmem (List.mem_append_right _ (List.mem_of_getElem? (i := 549) (by decide +kernel))) (by decide +kernel), gmem (List.mem_append_right _ (List.mem_of_getElem? (i := 550) (by decide +kernel))) (by decide +kernel), in_Re, gmem (List.mem_append_right _ (List.mem_of_getElem? (i := 551) (by decide +kernel))) (by decide +kernel), by decide, by decide, by decide +kernel⟩
theorem d_Re_joins_0 : decode b_Re_joins 0 = .ok (.aload_n 0, 1) := by decide +kernel
theorem d_Re_joins_1 : decode b_Re_joins 1 = .ok (.getfield 48, 3) := by decide +kernel
theorem d_Re_joins_4 : decode b_Re_joins 4 = .ok (.ifCond .ne 12, 3) := by decide +kernel
theorem d_Re_joins_7 : decode b_Re_joins 7 = .ok (.aload_n 0, 1) := by decide +kernel
theorem d_Re_joins_8 : decode b_Re_joins 8 = .ok (.invokevirtual 59, 3) := by decide +kernel
theorem d_Re_joins_11 : decode b_Re_joins 11 = .ok (.aload_n 0, 1) := by decide +kernel
theorem d_Re_joins_12 : decode b_Re_joins 12 = .ok (.iconst 1, 1) := by decide +kernel
theorem d_Re_joins_13 : decode b_Re_joins 13 = .ok (.putfield 48, 3) := by decide +kernel
theorem d_Re_joins_16 : decode b_Re_joins 16 = .ok (.aload_n 0, 1) := by decide +kernel
theorem d_Re_joins_17 : decode b_Re_joins 17 = .ok (.getfield 15, 3) := by decide +kernel
theorem d_Re_joins_20 : decode b_Re_joins 20 = .ok (.iload_n 1, 1) := by decide +kernel
theorem d_Re_joins_21 : decode b_Re_joins 21 = .ok (.iload_n 2, 1) := by decide +kernel
theorem d_Re_joins_22 : decode b_Re_joins 22 = .ok (.invokestatic 55, 3) := by decide +kernel
theorem d_Re_joins_25 : decode b_Re_joins 25 = .ok (.ireturn, 1) := by decide +kernel
abbrev b_Re_sizeWithLeastParts : ByteArray := prog_5_method_13_code
def y_Re_sizeWithLeastParts : MethodName := ⟨R_Re, "sizeWithLeastParts", "(I)I"⟩
theorem k_Re_sizeWithLeastParts : kV y_Re_sizeWithLeastParts b_Re_sizeWithLeastParts 4 (some .int) 1 := ⟨gmem (List.mem_append_right _ (List.mem_of_getElem? (i := 642) (by decide +kernel))) (by decide +kernel), gmem (List.mem_append_left _ (List.mem_of_getElem? (i := 15) (by decide +kernel))) (by decide +kernel), in_Re, gmem (List.mem_append_right _ (List.mem_of_getElem? (i := 643) (by decide +kernel))) (by decide +kernel), by decide, by decide, by decide +kernel⟩
theorem d_Re_sizeWithLeastParts_0 : decode b_Re_sizeWithLeastParts 0 = .ok (.aload_n 0, 1) := by decide +kernel
theorem d_Re_sizeWithLeastParts_1 : decode b_Re_sizeWithLeastParts 1 = .ok (.getfield 29, 3) := by decide +kernel
theorem d_Re_sizeWithLeastParts_4 : decode b_Re_sizeWithLeastParts 4 = .ok (.aload_n 0, 1) := by decide +kernel
theorem d_Re_sizeWithLeastParts_5 : decode b_Re_sizeWithLeastParts 5 = .ok (.getfield 29, 3) := by decide +kernel
theorem d_Re_sizeWithLeastParts_8 : decode b_Re_sizeWithLeastParts 8 = .ok (.iload_n 1, 1) := by decide +kernel
theorem d_Re_sizeWithLeastParts_9 : decode b_Re_sizeWithLeastParts 9 = .ok (.invokevirtual 91, 3) := by decide +kernel
theorem d_Re_sizeWithLeastParts_12 : decode b_Re_sizeWithLeastParts 12 = .ok (.invokevirtual 94, 3) := by decide +kernel
theorem d_Re_sizeWithLeastParts_15 : decode b_Re_sizeWithLeastParts 15 = .ok (.istore_n 2, 1) := by decide +kernel
theorem d_Re_sizeWithLeastParts_16 : decode b_Re_sizeWithLeastParts 16 = .ok (.iload_n 2, 1) := by decide +kernel
theorem d_Re_sizeWithLeastParts_17 : decode b_Re_sizeWithLeastParts 17 = .ok (.iconst 1, 1) := by decide +kernel
theorem d_Re_sizeWithLeastParts_18 : decode b_Re_sizeWithLeastParts 18 = .ok (.if_icmp .ge 7, 3) := by decide +kernel
theorem d_Re_sizeWithLeastParts_21 : decode b_Re_sizeWithLeastParts 21 = .ok (.iconst 0, 1) := by decide +kernel
theorem d_Re_sizeWithLeastParts_22 : decode b_Re_sizeWithLeastParts 22 = .ok (.goto 16, 3) := by decide +kernel
theorem d_Re_sizeWithLeastParts_25 : decode b_Re_sizeWithLeastParts 25 = .ok (.aload_n 0, 1) := by decide +kernel
theorem d_Re_sizeWithLeastParts_26 : decode b_Re_sizeWithLeastParts 26 = .ok (.getfield 18, 3) := by decide +kernel
theorem d_Re_sizeWithLeastParts_29 : decode b_Re_sizeWithLeastParts 29 = .ok (.aload_n 0, 1) := by decide +kernel
theorem d_Re_sizeWithLeastParts_30 : decode b_Re_sizeWithLeastParts 30 = .ok (.getfield 29, 3) := by decide +kernel
theorem d_Re_sizeWithLeastParts_33 : decode b_Re_sizeWithLeastParts 33 = .ok (.iload_n 1, 1) := by decide +kernel
theorem d_Re_sizeWithLeastParts_34 : decode b_Re_sizeWithLeastParts 34 = .ok (.invokevirtual 97, 3) := by decide +kernel
theorem d_Re_sizeWithLeastParts_37 : decode b_Re_sizeWithLeastParts 37 = .ok (.iaload, 1) := by decide +kernel
theorem d_Re_sizeWithLeastParts_38 : decode b_Re_sizeWithLeastParts 38 = .ok (.iload_n 2, 1) := by decide +kernel
theorem d_Re_sizeWithLeastParts_39 : decode b_Re_sizeWithLeastParts 39 = .ok (.iconst 2, 1) := by decide +kernel
theorem d_Re_sizeWithLeastParts_40 : decode b_Re_sizeWithLeastParts 40 = .ok (.if_icmp .ge 7, 3) := by decide +kernel
theorem d_Re_sizeWithLeastParts_43 : decode b_Re_sizeWithLeastParts 43 = .ok (.iconst 0, 1) := by decide +kernel
theorem d_Re_sizeWithLeastParts_44 : decode b_Re_sizeWithLeastParts 44 = .ok (.goto 16, 3) := by decide +kernel
theorem d_Re_sizeWithLeastParts_47 : decode b_Re_sizeWithLeastParts 47 = .ok (.aload_n 0, 1) := by decide +kernel
theorem d_Re_sizeWithLeastParts_48 : decode b_Re_sizeWithLeastParts 48 = .ok (.getfield 18, 3) := by decide +kernel
theorem d_Re_sizeWithLeastParts_51 : decode b_Re_sizeWithLeastParts 51 = .ok (.aload_n 0, 1) := by decide +kernel
theorem d_Re_sizeWithLeastParts_52 : decode b_Re_sizeWithLeastParts 52 = .ok (.getfield 29, 3) := by decide +kernel
theorem d_Re_sizeWithLeastParts_55 : decode b_Re_sizeWithLeastParts 55 = .ok (.iload_n 1, 1) := by decide +kernel
theorem d_Re_sizeWithLeastParts_56 : decode b_Re_sizeWithLeastParts 56 = .ok (.invokevirtual 100, 3) := by decide +kernel
theorem d_Re_sizeWithLeastParts_59 : decode b_Re_sizeWithLeastParts 59 = .ok (.iaload, 1) := by decide +kernel
theorem d_Re_sizeWithLeastParts_60 : decode b_Re_sizeWithLeastParts 60 = .ok (.iadd, 1) := by decide +kernel
theorem d_Re_sizeWithLeastParts_61 : decode b_Re_sizeWithLeastParts 61 = .ok (.istore_n 3, 1) := by decide +kernel
theorem d_Re_sizeWithLeastParts_62 : decode b_Re_sizeWithLeastParts 62 = .ok (.ldc 106, 2) := by decide +kernel
theorem d_Re_sizeWithLeastParts_64 : decode b_Re_sizeWithLeastParts 64 = .ok (.iconst 1, 1) := by decide +kernel
theorem d_Re_sizeWithLeastParts_65 : decode b_Re_sizeWithLeastParts 65 = .ok (.iload_n 3, 1) := by decide +kernel
theorem d_Re_sizeWithLeastParts_66 : decode b_Re_sizeWithLeastParts 66 = .ok (.iadd, 1) := by decide +kernel
theorem d_Re_sizeWithLeastParts_67 : decode b_Re_sizeWithLeastParts 67 = .ok (.invokestatic 107, 3) := by decide +kernel
theorem d_Re_sizeWithLeastParts_70 : decode b_Re_sizeWithLeastParts 70 = .ok (.ireturn, 1) := by decide +kernel
abbrev b_Re_shrink : ByteArray := prog_5_method_12_code
def y_Re_shrink : MethodName := ⟨R_Re, "shrink", "(I)Z"⟩
theorem k_Re_shrink : kV y_Re_shrink b_Re_shrink 6 (some .boolean) 1 := ⟨gmem (List.mem_append_right _ (List.mem_of_getElem? (i := 638) (by decide +kernel))) (by decide +kernel), gmem (List.mem_append_left _ (List.mem_of_getElem? (i := 14) (by decide +kernel))) (by decide +kernel), in_Re, gmem (List.mem_append_right _ (List.mem_of_getElem? (i := 639) (by decide +kernel))) (by decide +kernel), by decide, by decide, by decide +kernel⟩
theorem d_Re_shrink_0 : decode b_Re_shrink 0 = .ok (.iconst 0, 1) := by decide +kernel
theorem d_Re_shrink_1 : decode b_Re_shrink 1 = .ok (.istore_n 2, 1) := by decide +kernel
theorem d_Re_shrink_2 : decode b_Re_shrink 2 = .ok (.iconst 0, 1) := by decide +kernel
theorem d_Re_shrink_3 : decode b_Re_shrink 3 = .ok (.istore_n 3, 1) := by decide +kernel
theorem d_Re_shrink_4 : decode b_Re_shrink 4 = .ok (.iload_n 3, 1) := by decide +kernel
theorem d_Re_shrink_5 : decode b_Re_shrink 5 = .ok (.iload_n 1, 1) := by decide +kernel
theorem d_Re_shrink_6 : decode b_Re_shrink 6 = .ok (.if_icmp .ge 67, 3) := by decide +kernel
theorem d_Re_shrink_9 : decode b_Re_shrink 9 = .ok (.aload_n 0, 1) := by decide +kernel
theorem d_Re_shrink_10 : decode b_Re_shrink 10 = .ok (.iload_n 3, 1) := by decide +kernel
theorem d_Re_shrink_11 : decode b_Re_shrink 11 = .ok (.invokevirtual 103, 3) := by decide +kernel
theorem d_Re_shrink_14 : decode b_Re_shrink 14 = .ok (.istore 4, 2) := by decide +kernel
theorem d_Re_shrink_16 : decode b_Re_shrink 16 = .ok (.iconst 0, 1) := by decide +kernel
theorem d_Re_shrink_17 : decode b_Re_shrink 17 = .ok (.istore 5, 2) := by decide +kernel
theorem d_Re_shrink_19 : decode b_Re_shrink 19 = .ok (.iload 5, 2) := by decide +kernel
theorem d_Re_shrink_21 : decode b_Re_shrink 21 = .ok (.iload_n 1, 1) := by decide +kernel
theorem d_Re_shrink_22 : decode b_Re_shrink 22 = .ok (.if_icmp .ge 45, 3) := by decide +kernel
theorem d_Re_shrink_25 : decode b_Re_shrink 25 = .ok (.aload_n 0, 1) := by decide +kernel
theorem d_Re_shrink_26 : decode b_Re_shrink 26 = .ok (.getfield 9, 3) := by decide +kernel
theorem d_Re_shrink_29 : decode b_Re_shrink 29 = .ok (.iload 5, 2) := by decide +kernel
theorem d_Re_shrink_31 : decode b_Re_shrink 31 = .ok (.iload_n 3, 1) := by decide +kernel
theorem d_Re_shrink_32 : decode b_Re_shrink 32 = .ok (.invokestatic 55, 3) := by decide +kernel
theorem d_Re_shrink_35 : decode b_Re_shrink 35 = .ok (.ifCond .eq 26, 3) := by decide +kernel
theorem d_Re_shrink_38 : decode b_Re_shrink 38 = .ok (.iload 4, 2) := by decide +kernel
theorem d_Re_shrink_40 : decode b_Re_shrink 40 = .ok (.aload_n 0, 1) := by decide +kernel
theorem d_Re_shrink_41 : decode b_Re_shrink 41 = .ok (.getfield 18, 3) := by decide +kernel
theorem d_Re_shrink_44 : decode b_Re_shrink 44 = .ok (.iload 5, 2) := by decide +kernel
theorem d_Re_shrink_46 : decode b_Re_shrink 46 = .ok (.iaload, 1) := by decide +kernel
theorem d_Re_shrink_47 : decode b_Re_shrink 47 = .ok (.if_icmp .ge 14, 3) := by decide +kernel
theorem d_Re_shrink_50 : decode b_Re_shrink 50 = .ok (.aload_n 0, 1) := by decide +kernel
theorem d_Re_shrink_51 : decode b_Re_shrink 51 = .ok (.getfield 18, 3) := by decide +kernel
theorem d_Re_shrink_54 : decode b_Re_shrink 54 = .ok (.iload 5, 2) := by decide +kernel
theorem d_Re_shrink_56 : decode b_Re_shrink 56 = .ok (.iload 4, 2) := by decide +kernel
theorem d_Re_shrink_58 : decode b_Re_shrink 58 = .ok (.iastore, 1) := by decide +kernel
theorem d_Re_shrink_59 : decode b_Re_shrink 59 = .ok (.iconst 1, 1) := by decide +kernel
theorem d_Re_shrink_60 : decode b_Re_shrink 60 = .ok (.istore_n 2, 1) := by decide +kernel
theorem d_Re_shrink_61 : decode b_Re_shrink 61 = .ok (.iinc 5 1, 3) := by decide +kernel
theorem d_Re_shrink_64 : decode b_Re_shrink 64 = .ok (.goto (-45), 3) := by decide +kernel
theorem d_Re_shrink_67 : decode b_Re_shrink 67 = .ok (.iinc 3 1, 3) := by decide +kernel
theorem d_Re_shrink_70 : decode b_Re_shrink 70 = .ok (.goto (-66), 3) := by decide +kernel
theorem d_Re_shrink_73 : decode b_Re_shrink 73 = .ok (.iload_n 2, 1) := by decide +kernel
theorem d_Re_shrink_74 : decode b_Re_shrink 74 = .ok (.ireturn, 1) := by decide +kernel
abbrev b_Re_leastSize : ByteArray := prog_5_method_5_code
def y_Re_leastSize : MethodName := ⟨R_Re, "leastSize", "(I)I"⟩
theorem k_Re_leastSize : kV y_Re_leastSize b_Re_leastSize 5 (some .int) 1 := ⟨gmem (List.mem_append_right _ (List.mem_of_getElem? (i := 632) (by decide +kernel))) (by decide +kernel), gmem (List.mem_append_right _ (List.mem_of_getElem? (i := 633) (by decide +kernel))) (by decide +kernel), in_Re, gmem (List.mem_append_right _ (List.mem_of_getElem? (i := 634) (by decide +kernel))) (by decide +kernel), by decide, by decide, by decide +kernel⟩
theorem d_Re_leastSize_0 : decode b_Re_leastSize 0 = .ok (.aload_n 0, 1) := by decide +kernel
theorem d_Re_leastSize_1 : decode b_Re_leastSize 1 = .ok (.getfield 29, 3) := by decide +kernel
theorem d_Re_leastSize_4 : decode b_Re_leastSize 4 = .ok (.invokevirtual 37, 3) := by decide +kernel
theorem d_Re_leastSize_7 : decode b_Re_leastSize 7 = .ok (.istore_n 2, 1) := by decide +kernel
theorem d_Re_leastSize_8 : decode b_Re_leastSize 8 = .ok (.iconst 0, 1) := by decide +kernel
theorem d_Re_leastSize_9 : decode b_Re_leastSize 9 = .ok (.istore_n 3, 1) := by decide +kernel
theorem d_Re_leastSize_10 : decode b_Re_leastSize 10 = .ok (.iload_n 3, 1) := by decide +kernel
theorem d_Re_leastSize_11 : decode b_Re_leastSize 11 = .ok (.iload_n 2, 1) := by decide +kernel
theorem d_Re_leastSize_12 : decode b_Re_leastSize 12 = .ok (.if_icmp .ge 23, 3) := by decide +kernel
theorem d_Re_leastSize_15 : decode b_Re_leastSize 15 = .ok (.aload_n 0, 1) := by decide +kernel
theorem d_Re_leastSize_16 : decode b_Re_leastSize 16 = .ok (.getfield 18, 3) := by decide +kernel
theorem d_Re_leastSize_19 : decode b_Re_leastSize 19 = .ok (.iload_n 3, 1) := by decide +kernel
theorem d_Re_leastSize_20 : decode b_Re_leastSize 20 = .ok (.aload_n 0, 1) := by decide +kernel
theorem d_Re_leastSize_21 : decode b_Re_leastSize 21 = .ok (.getfield 29, 3) := by decide +kernel
theorem d_Re_leastSize_24 : decode b_Re_leastSize 24 = .ok (.iload_n 3, 1) := by decide +kernel
theorem d_Re_leastSize_25 : decode b_Re_leastSize 25 = .ok (.invokevirtual 62, 3) := by decide +kernel
theorem d_Re_leastSize_28 : decode b_Re_leastSize 28 = .ok (.iastore, 1) := by decide +kernel
theorem d_Re_leastSize_29 : decode b_Re_leastSize 29 = .ok (.iinc 3 1, 3) := by decide +kernel
theorem d_Re_leastSize_32 : decode b_Re_leastSize 32 = .ok (.goto (-22), 3) := by decide +kernel
theorem d_Re_leastSize_35 : decode b_Re_leastSize 35 = .ok (.iconst 1, 1) := by decide +kernel
theorem d_Re_leastSize_36 : decode b_Re_leastSize 36 = .ok (.istore_n 3, 1) := by decide +kernel
theorem d_Re_leastSize_37 : decode b_Re_leastSize 37 = .ok (.iconst 0, 1) := by decide +kernel
theorem d_Re_leastSize_38 : decode b_Re_leastSize 38 = .ok (.istore 4, 2) := by decide +kernel
theorem d_Re_leastSize_40 : decode b_Re_leastSize 40 = .ok (.iload 4, 2) := by decide +kernel
theorem d_Re_leastSize_42 : decode b_Re_leastSize 42 = .ok (.bipush 48, 2) := by decide +kernel
theorem d_Re_leastSize_44 : decode b_Re_leastSize 44 = .ok (.if_icmp .gt 19, 3) := by decide +kernel
theorem d_Re_leastSize_47 : decode b_Re_leastSize 47 = .ok (.iload_n 3, 1) := by decide +kernel
theorem d_Re_leastSize_48 : decode b_Re_leastSize 48 = .ok (.ifCond .eq 15, 3) := by decide +kernel
theorem d_Re_leastSize_51 : decode b_Re_leastSize 51 = .ok (.aload_n 0, 1) := by decide +kernel
theorem d_Re_leastSize_52 : decode b_Re_leastSize 52 = .ok (.iload_n 2, 1) := by decide +kernel
theorem d_Re_leastSize_53 : decode b_Re_leastSize 53 = .ok (.invokevirtual 66, 3) := by decide +kernel
theorem d_Re_leastSize_56 : decode b_Re_leastSize 56 = .ok (.istore_n 3, 1) := by decide +kernel
theorem d_Re_leastSize_57 : decode b_Re_leastSize 57 = .ok (.iinc 4 1, 3) := by decide +kernel
theorem d_Re_leastSize_60 : decode b_Re_leastSize 60 = .ok (.goto (-20), 3) := by decide +kernel
theorem d_Re_leastSize_63 : decode b_Re_leastSize 63 = .ok (.aload_n 0, 1) := by decide +kernel
theorem d_Re_leastSize_64 : decode b_Re_leastSize 64 = .ok (.getfield 18, 3) := by decide +kernel
theorem d_Re_leastSize_67 : decode b_Re_leastSize 67 = .ok (.iload_n 1, 1) := by decide +kernel
theorem d_Re_leastSize_68 : decode b_Re_leastSize 68 = .ok (.iaload, 1) := by decide +kernel
theorem d_Re_leastSize_69 : decode b_Re_leastSize 69 = .ok (.ireturn, 1) := by decide +kernel
abbrev b_La_addStates : ByteArray := prog_3_method_8_code
def y_La_addStates : MethodName := ⟨R_La, "addStates", "(II)Z"⟩
theorem k_La_addStates : kV y_La_addStates b_La_addStates 5 (some .boolean) 2 := ⟨gmem (List.mem_append_right _ (List.mem_of_getElem? (i := 587) (by decide +kernel))) (by decide +kernel), gmem (List.mem_append_left _ (List.mem_of_getElem? (i := 11) (by decide +kernel))) (by decide +kernel), in_La, gmem (List.mem_append_right _ (List.mem_of_getElem? (i := 588) (by decide +kernel))) (by decide +kernel), by decide, by decide, by decide +kernel⟩
theorem d_La_addStates_0 : decode b_La_addStates 0 = .ok (.aload_n 0, 1) := by decide +kernel
theorem d_La_addStates_1 : decode b_La_addStates 1 = .ok (.getfield 9, 3) := by decide +kernel
theorem d_La_addStates_4 : decode b_La_addStates 4 = .ok (.iload_n 1, 1) := by decide +kernel
theorem d_La_addStates_5 : decode b_La_addStates 5 = .ok (.iaload, 1) := by decide +kernel
theorem d_La_addStates_6 : decode b_La_addStates 6 = .ok (.iload_n 2, 1) := by decide +kernel
theorem d_La_addStates_7 : decode b_La_addStates 7 = .ok (.ior, 1) := by decide +kernel
theorem d_La_addStates_8 : decode b_La_addStates 8 = .ok (.istore_n 3, 1) := by decide +kernel
theorem d_La_addStates_9 : decode b_La_addStates 9 = .ok (.iload_n 3, 1) := by decide +kernel
theorem d_La_addStates_10 : decode b_La_addStates 10 = .ok (.aload_n 0, 1) := by decide +kernel
theorem d_La_addStates_11 : decode b_La_addStates 11 = .ok (.getfield 9, 3) := by decide +kernel
theorem d_La_addStates_14 : decode b_La_addStates 14 = .ok (.iload_n 1, 1) := by decide +kernel
theorem d_La_addStates_15 : decode b_La_addStates 15 = .ok (.iaload, 1) := by decide +kernel
theorem d_La_addStates_16 : decode b_La_addStates 16 = .ok (.if_icmp .eq 7, 3) := by decide +kernel
theorem d_La_addStates_19 : decode b_La_addStates 19 = .ok (.iconst 1, 1) := by decide +kernel
theorem d_La_addStates_20 : decode b_La_addStates 20 = .ok (.goto 4, 3) := by decide +kernel
theorem d_La_addStates_23 : decode b_La_addStates 23 = .ok (.iconst 0, 1) := by decide +kernel
theorem d_La_addStates_24 : decode b_La_addStates 24 = .ok (.istore 4, 2) := by decide +kernel
theorem d_La_addStates_26 : decode b_La_addStates 26 = .ok (.aload_n 0, 1) := by decide +kernel
theorem d_La_addStates_27 : decode b_La_addStates 27 = .ok (.getfield 9, 3) := by decide +kernel
theorem d_La_addStates_30 : decode b_La_addStates 30 = .ok (.iload_n 1, 1) := by decide +kernel
theorem d_La_addStates_31 : decode b_La_addStates 31 = .ok (.iload_n 3, 1) := by decide +kernel
theorem d_La_addStates_32 : decode b_La_addStates 32 = .ok (.iastore, 1) := by decide +kernel
theorem d_La_addStates_33 : decode b_La_addStates 33 = .ok (.iload 4, 2) := by decide +kernel
theorem d_La_addStates_35 : decode b_La_addStates 35 = .ok (.ireturn, 1) := by decide +kernel
abbrev b_La_runFromParts : ByteArray := prog_3_method_6_code
def y_La_runFromParts : MethodName := ⟨R_La, "runFromParts", "()Z"⟩
theorem k_La_runFromParts : kV y_La_runFromParts b_La_runFromParts 7 (some .boolean) 0 := ⟨gmem (List.mem_append_right _ (List.mem_of_getElem? (i := 574) (by decide +kernel))) (by decide +kernel), gmem (List.mem_append_left _ (List.mem_of_getElem? (i := 10) (by decide +kernel))) (by decide +kernel), in_La, gmem (List.mem_append_right _ (List.mem_of_getElem? (i := 575) (by decide +kernel))) (by decide +kernel), by decide, by decide, by decide +kernel⟩
theorem d_La_runFromParts_0 : decode b_La_runFromParts 0 = .ok (.iconst 0, 1) := by decide +kernel
theorem d_La_runFromParts_1 : decode b_La_runFromParts 1 = .ok (.istore_n 1, 1) := by decide +kernel
theorem d_La_runFromParts_2 : decode b_La_runFromParts 2 = .ok (.iconst 0, 1) := by decide +kernel
theorem d_La_runFromParts_3 : decode b_La_runFromParts 3 = .ok (.istore_n 2, 1) := by decide +kernel
theorem d_La_runFromParts_4 : decode b_La_runFromParts 4 = .ok (.iload_n 2, 1) := by decide +kernel
theorem d_La_runFromParts_5 : decode b_La_runFromParts 5 = .ok (.aload_n 0, 1) := by decide +kernel
theorem d_La_runFromParts_6 : decode b_La_runFromParts 6 = .ok (.getfield 15, 3) := by decide +kernel
theorem d_La_runFromParts_9 : decode b_La_runFromParts 9 = .ok (.invokevirtual 45, 3) := by decide +kernel
theorem d_La_runFromParts_12 : decode b_La_runFromParts 12 = .ok (.if_icmp .ge 100, 3) := by decide +kernel
theorem d_La_runFromParts_15 : decode b_La_runFromParts 15 = .ok (.aload_n 0, 1) := by decide +kernel
theorem d_La_runFromParts_16 : decode b_La_runFromParts 16 = .ok (.getfield 15, 3) := by decide +kernel
theorem d_La_runFromParts_19 : decode b_La_runFromParts 19 = .ok (.iload_n 2, 1) := by decide +kernel
theorem d_La_runFromParts_20 : decode b_La_runFromParts 20 = .ok (.invokevirtual 51, 3) := by decide +kernel
theorem d_La_runFromParts_23 : decode b_La_runFromParts 23 = .ok (.istore_n 3, 1) := by decide +kernel
theorem d_La_runFromParts_24 : decode b_La_runFromParts 24 = .ok (.aload_n 0, 1) := by decide +kernel
theorem d_La_runFromParts_25 : decode b_La_runFromParts 25 = .ok (.getfield 15, 3) := by decide +kernel
theorem d_La_runFromParts_28 : decode b_La_runFromParts 28 = .ok (.iload_n 3, 1) := by decide +kernel
theorem d_La_runFromParts_29 : decode b_La_runFromParts 29 = .ok (.invokevirtual 55, 3) := by decide +kernel
theorem d_La_runFromParts_32 : decode b_La_runFromParts 32 = .ok (.istore 4, 2) := by decide +kernel
theorem d_La_runFromParts_34 : decode b_La_runFromParts 34 = .ok (.iload 4, 2) := by decide +kernel
theorem d_La_runFromParts_36 : decode b_La_runFromParts 36 = .ok (.iconst 1, 1) := by decide +kernel
theorem d_La_runFromParts_37 : decode b_La_runFromParts 37 = .ok (.if_icmp .ge 8, 3) := by decide +kernel
theorem d_La_runFromParts_40 : decode b_La_runFromParts 40 = .ok (.bipush 63, 2) := by decide +kernel
theorem d_La_runFromParts_42 : decode b_La_runFromParts 42 = .ok (.goto 16, 3) := by decide +kernel
theorem d_La_runFromParts_45 : decode b_La_runFromParts 45 = .ok (.aload_n 0, 1) := by decide +kernel
theorem d_La_runFromParts_46 : decode b_La_runFromParts 46 = .ok (.getfield 9, 3) := by decide +kernel
theorem d_La_runFromParts_49 : decode b_La_runFromParts 49 = .ok (.aload_n 0, 1) := by decide +kernel
theorem d_La_runFromParts_50 : decode b_La_runFromParts 50 = .ok (.getfield 15, 3) := by decide +kernel
theorem d_La_runFromParts_53 : decode b_La_runFromParts 53 = .ok (.iload_n 2, 1) := by decide +kernel
theorem d_La_runFromParts_54 : decode b_La_runFromParts 54 = .ok (.invokevirtual 58, 3) := by decide +kernel
theorem d_La_runFromParts_57 : decode b_La_runFromParts 57 = .ok (.iaload, 1) := by decide +kernel
theorem d_La_runFromParts_58 : decode b_La_runFromParts 58 = .ok (.istore 5, 2) := by decide +kernel
theorem d_La_runFromParts_60 : decode b_La_runFromParts 60 = .ok (.iload 4, 2) := by decide +kernel
theorem d_La_runFromParts_62 : decode b_La_runFromParts 62 = .ok (.iconst 2, 1) := by decide +kernel
theorem d_La_runFromParts_63 : decode b_La_runFromParts 63 = .ok (.if_icmp .ge 8, 3) := by decide +kernel
theorem d_La_runFromParts_66 : decode b_La_runFromParts 66 = .ok (.bipush 63, 2) := by decide +kernel
theorem d_La_runFromParts_68 : decode b_La_runFromParts 68 = .ok (.goto 16, 3) := by decide +kernel
theorem d_La_runFromParts_71 : decode b_La_runFromParts 71 = .ok (.aload_n 0, 1) := by decide +kernel
theorem d_La_runFromParts_72 : decode b_La_runFromParts 72 = .ok (.getfield 9, 3) := by decide +kernel
theorem d_La_runFromParts_75 : decode b_La_runFromParts 75 = .ok (.aload_n 0, 1) := by decide +kernel
theorem d_La_runFromParts_76 : decode b_La_runFromParts 76 = .ok (.getfield 15, 3) := by decide +kernel
theorem d_La_runFromParts_79 : decode b_La_runFromParts 79 = .ok (.iload_n 2, 1) := by decide +kernel
theorem d_La_runFromParts_80 : decode b_La_runFromParts 80 = .ok (.invokevirtual 61, 3) := by decide +kernel
theorem d_La_runFromParts_83 : decode b_La_runFromParts 83 = .ok (.iaload, 1) := by decide +kernel
theorem d_La_runFromParts_84 : decode b_La_runFromParts 84 = .ok (.istore 6, 2) := by decide +kernel
theorem d_La_runFromParts_86 : decode b_La_runFromParts 86 = .ok (.iload_n 1, 1) := by decide +kernel
theorem d_La_runFromParts_87 : decode b_La_runFromParts 87 = .ok (.aload_n 0, 1) := by decide +kernel
theorem d_La_runFromParts_88 : decode b_La_runFromParts 88 = .ok (.iload_n 2, 1) := by decide +kernel
theorem d_La_runFromParts_89 : decode b_La_runFromParts 89 = .ok (.aload_n 0, 1) := by decide +kernel
theorem d_La_runFromParts_90 : decode b_La_runFromParts 90 = .ok (.getfield 19, 3) := by decide +kernel
theorem d_La_runFromParts_93 : decode b_La_runFromParts 93 = .ok (.iload_n 3, 1) := by decide +kernel
theorem d_La_runFromParts_94 : decode b_La_runFromParts 94 = .ok (.iload 5, 2) := by decide +kernel
theorem d_La_runFromParts_96 : decode b_La_runFromParts 96 = .ok (.iload 6, 2) := by decide +kernel
theorem d_La_runFromParts_98 : decode b_La_runFromParts 98 = .ok (.invokevirtual 64, 3) := by decide +kernel
theorem d_La_runFromParts_101 : decode b_La_runFromParts 101 = .ok (.invokevirtual 70, 3) := by decide +kernel
theorem d_La_runFromParts_104 : decode b_La_runFromParts 104 = .ok (.ior, 1) := by decide +kernel
theorem d_La_runFromParts_105 : decode b_La_runFromParts 105 = .ok (.istore_n 1, 1) := by decide +kernel
theorem d_La_runFromParts_106 : decode b_La_runFromParts 106 = .ok (.iinc 2 1, 3) := by decide +kernel
theorem d_La_runFromParts_109 : decode b_La_runFromParts 109 = .ok (.goto (-105), 3) := by decide +kernel
theorem d_La_runFromParts_112 : decode b_La_runFromParts 112 = .ok (.iload_n 1, 1) := by decide +kernel
theorem d_La_runFromParts_113 : decode b_La_runFromParts 113 = .ok (.ireturn, 1) := by decide +kernel
abbrev b_La_statesAt : ByteArray := prog_3_method_2_code
def y_La_statesAt : MethodName := ⟨R_La, "statesAt", "(I)I"⟩
theorem k_La_statesAt : kV y_La_statesAt b_La_statesAt 2 (some .int) 1 := ⟨gmem (List.mem_append_right _ (List.mem_of_getElem? (i := 568) (by decide +kernel))) (by decide +kernel), gmem (List.mem_append_right _ (List.mem_of_getElem? (i := 569) (by decide +kernel))) (by decide +kernel), in_La, gmem (List.mem_append_right _ (List.mem_of_getElem? (i := 570) (by decide +kernel))) (by decide +kernel), by decide, by decide, by decide +kernel⟩
theorem d_La_statesAt_0 : decode b_La_statesAt 0 = .ok (.aload_n 0, 1) := by decide +kernel
theorem d_La_statesAt_1 : decode b_La_statesAt 1 = .ok (.getfield 9, 3) := by decide +kernel
theorem d_La_statesAt_4 : decode b_La_statesAt 4 = .ok (.iconst 0, 1) := by decide +kernel
theorem d_La_statesAt_5 : decode b_La_statesAt 5 = .ok (.invokestatic 27, 3) := by decide +kernel
theorem d_La_statesAt_8 : decode b_La_statesAt 8 = .ok (.aload_n 0, 1) := by decide +kernel
theorem d_La_statesAt_9 : decode b_La_statesAt 9 = .ok (.invokevirtual 33, 3) := by decide +kernel
theorem d_La_statesAt_12 : decode b_La_statesAt 12 = .ok (.pop, 1) := by decide +kernel
theorem d_La_statesAt_13 : decode b_La_statesAt 13 = .ok (.aload_n 0, 1) := by decide +kernel
theorem d_La_statesAt_14 : decode b_La_statesAt 14 = .ok (.getfield 9, 3) := by decide +kernel
theorem d_La_statesAt_17 : decode b_La_statesAt 17 = .ok (.iload_n 1, 1) := by decide +kernel
theorem d_La_statesAt_18 : decode b_La_statesAt 18 = .ok (.iaload, 1) := by decide +kernel
theorem d_La_statesAt_19 : decode b_La_statesAt 19 = .ok (.ireturn, 1) := by decide +kernel
abbrev b_La_passOn : ByteArray := prog_3_method_7_code
def y_La_passOn : MethodName := ⟨R_La, "passOn", "(Z)Z"⟩
theorem k_La_passOn : kV y_La_passOn b_La_passOn 6 (some .boolean) 1 := ⟨gmem (List.mem_append_right _ (List.mem_of_getElem? (i := 610) (by decide +kernel))) (by decide +kernel), gmem (List.mem_append_left _ (List.mem_of_getElem? (i := 13) (by decide +kernel))) (by decide +kernel), in_La, gmem (List.mem_append_right _ (List.mem_of_getElem? (i := 611) (by decide +kernel))) (by decide +kernel), by decide, by decide, by decide +kernel⟩
theorem d_La_passOn_0 : decode b_La_passOn 0 = .ok (.iconst 0, 1) := by decide +kernel
theorem d_La_passOn_1 : decode b_La_passOn 1 = .ok (.istore_n 2, 1) := by decide +kernel
theorem d_La_passOn_2 : decode b_La_passOn 2 = .ok (.aload_n 0, 1) := by decide +kernel
theorem d_La_passOn_3 : decode b_La_passOn 3 = .ok (.getfield 15, 3) := by decide +kernel
theorem d_La_passOn_6 : decode b_La_passOn 6 = .ok (.invokevirtual 45, 3) := by decide +kernel
theorem d_La_passOn_9 : decode b_La_passOn 9 = .ok (.istore_n 3, 1) := by decide +kernel
theorem d_La_passOn_10 : decode b_La_passOn 10 = .ok (.iconst 0, 1) := by decide +kernel
theorem d_La_passOn_11 : decode b_La_passOn 11 = .ok (.istore 4, 2) := by decide +kernel
theorem d_La_passOn_13 : decode b_La_passOn 13 = .ok (.iload 4, 2) := by decide +kernel
theorem d_La_passOn_15 : decode b_La_passOn 15 = .ok (.iload_n 3, 1) := by decide +kernel
theorem d_La_passOn_16 : decode b_La_passOn 16 = .ok (.if_icmp .ge 74, 3) := by decide +kernel
theorem d_La_passOn_19 : decode b_La_passOn 19 = .ok (.iconst 0, 1) := by decide +kernel
theorem d_La_passOn_20 : decode b_La_passOn 20 = .ok (.istore 5, 2) := by decide +kernel
theorem d_La_passOn_22 : decode b_La_passOn 22 = .ok (.iload 5, 2) := by decide +kernel
theorem d_La_passOn_24 : decode b_La_passOn 24 = .ok (.iload_n 3, 1) := by decide +kernel
theorem d_La_passOn_25 : decode b_La_passOn 25 = .ok (.if_icmp .ge 59, 3) := by decide +kernel
theorem d_La_passOn_28 : decode b_La_passOn 28 = .ok (.aload_n 0, 1) := by decide +kernel
theorem d_La_passOn_29 : decode b_La_passOn 29 = .ok (.getfield 23, 3) := by decide +kernel
theorem d_La_passOn_32 : decode b_La_passOn 32 = .ok (.iload 4, 2) := by decide +kernel
theorem d_La_passOn_34 : decode b_La_passOn 34 = .ok (.iload 5, 2) := by decide +kernel
theorem d_La_passOn_36 : decode b_La_passOn 36 = .ok (.invokevirtual 74, 3) := by decide +kernel
theorem d_La_passOn_39 : decode b_La_passOn 39 = .ok (.ifCond .eq 39, 3) := by decide +kernel
theorem d_La_passOn_42 : decode b_La_passOn 42 = .ok (.iload_n 2, 1) := by decide +kernel
theorem d_La_passOn_43 : decode b_La_passOn 43 = .ok (.iload_n 1, 1) := by decide +kernel
theorem d_La_passOn_44 : decode b_La_passOn 44 = .ok (.ifCond .eq 19, 3) := by decide +kernel
theorem d_La_passOn_47 : decode b_La_passOn 47 = .ok (.aload_n 0, 1) := by decide +kernel
theorem d_La_passOn_48 : decode b_La_passOn 48 = .ok (.iload 5, 2) := by decide +kernel
theorem d_La_passOn_50 : decode b_La_passOn 50 = .ok (.aload_n 0, 1) := by decide +kernel
theorem d_La_passOn_51 : decode b_La_passOn 51 = .ok (.getfield 9, 3) := by decide +kernel
theorem d_La_passOn_54 : decode b_La_passOn 54 = .ok (.iload 4, 2) := by decide +kernel
theorem d_La_passOn_56 : decode b_La_passOn 56 = .ok (.iaload, 1) := by decide +kernel
theorem d_La_passOn_57 : decode b_La_passOn 57 = .ok (.invokevirtual 70, 3) := by decide +kernel
theorem d_La_passOn_60 : decode b_La_passOn 60 = .ok (.goto 16, 3) := by decide +kernel
theorem d_La_passOn_63 : decode b_La_passOn 63 = .ok (.aload_n 0, 1) := by decide +kernel
theorem d_La_passOn_64 : decode b_La_passOn 64 = .ok (.iload 4, 2) := by decide +kernel
theorem d_La_passOn_66 : decode b_La_passOn 66 = .ok (.aload_n 0, 1) := by decide +kernel
theorem d_La_passOn_67 : decode b_La_passOn 67 = .ok (.getfield 9, 3) := by decide +kernel
theorem d_La_passOn_70 : decode b_La_passOn 70 = .ok (.iload 5, 2) := by decide +kernel
theorem d_La_passOn_72 : decode b_La_passOn 72 = .ok (.iaload, 1) := by decide +kernel
theorem d_La_passOn_73 : decode b_La_passOn 73 = .ok (.invokevirtual 70, 3) := by decide +kernel
theorem d_La_passOn_76 : decode b_La_passOn 76 = .ok (.ior, 1) := by decide +kernel
theorem d_La_passOn_77 : decode b_La_passOn 77 = .ok (.istore_n 2, 1) := by decide +kernel
theorem d_La_passOn_78 : decode b_La_passOn 78 = .ok (.iinc 5 1, 3) := by decide +kernel
theorem d_La_passOn_81 : decode b_La_passOn 81 = .ok (.goto (-59), 3) := by decide +kernel
theorem d_La_passOn_84 : decode b_La_passOn 84 = .ok (.iinc 4 1, 3) := by decide +kernel
theorem d_La_passOn_87 : decode b_La_passOn 87 = .ok (.goto (-74), 3) := by decide +kernel
theorem d_La_passOn_90 : decode b_La_passOn 90 = .ok (.iload_n 2, 1) := by decide +kernel
theorem d_La_passOn_91 : decode b_La_passOn 91 = .ok (.ireturn, 1) := by decide +kernel
abbrev b_La_spread : ByteArray := prog_3_method_5_code
def y_La_spread : MethodName := ⟨R_La, "spread", "(Z)V"⟩
theorem k_La_spread : kV y_La_spread b_La_spread 4 none 1 := ⟨gmem (List.mem_append_right _ (List.mem_of_getElem? (i := 606) (by decide +kernel))) (by decide +kernel), gmem (List.mem_append_left _ (List.mem_of_getElem? (i := 12) (by decide +kernel))) (by decide +kernel), in_La, gmem (List.mem_append_right _ (List.mem_of_getElem? (i := 607) (by decide +kernel))) (by decide +kernel), by decide, by decide, by decide +kernel⟩
theorem d_La_spread_0 : decode b_La_spread 0 = .ok (.aload_n 0, 1) := by decide +kernel
theorem d_La_spread_1 : decode b_La_spread 1 = .ok (.getfield 9, 3) := by decide +kernel
theorem d_La_spread_4 : decode b_La_spread 4 = .ok (.iconst 0, 1) := by decide +kernel
theorem d_La_spread_5 : decode b_La_spread 5 = .ok (.invokestatic 27, 3) := by decide +kernel
theorem d_La_spread_8 : decode b_La_spread 8 = .ok (.iconst 1, 1) := by decide +kernel
theorem d_La_spread_9 : decode b_La_spread 9 = .ok (.istore_n 2, 1) := by decide +kernel
theorem d_La_spread_10 : decode b_La_spread 10 = .ok (.iconst 0, 1) := by decide +kernel
theorem d_La_spread_11 : decode b_La_spread 11 = .ok (.istore_n 3, 1) := by decide +kernel
theorem d_La_spread_12 : decode b_La_spread 12 = .ok (.iload_n 3, 1) := by decide +kernel
theorem d_La_spread_13 : decode b_La_spread 13 = .ok (.sipush 289, 3) := by decide +kernel
theorem d_La_spread_16 : decode b_La_spread 16 = .ok (.if_icmp .ge 28, 3) := by decide +kernel
theorem d_La_spread_19 : decode b_La_spread 19 = .ok (.iload_n 2, 1) := by decide +kernel
theorem d_La_spread_20 : decode b_La_spread 20 = .ok (.ifCond .eq 24, 3) := by decide +kernel
theorem d_La_spread_23 : decode b_La_spread 23 = .ok (.aload_n 0, 1) := by decide +kernel
theorem d_La_spread_24 : decode b_La_spread 24 = .ok (.invokevirtual 33, 3) := by decide +kernel
theorem d_La_spread_27 : decode b_La_spread 27 = .ok (.istore_n 2, 1) := by decide +kernel
theorem d_La_spread_28 : decode b_La_spread 28 = .ok (.aload_n 0, 1) := by decide +kernel
theorem d_La_spread_29 : decode b_La_spread 29 = .ok (.iload_n 1, 1) := by decide +kernel
theorem d_La_spread_30 : decode b_La_spread 30 = .ok (.invokevirtual 41, 3) := by decide +kernel
theorem d_La_spread_33 : decode b_La_spread 33 = .ok (.ifCond .eq 5, 3) := by decide +kernel
theorem d_La_spread_36 : decode b_La_spread 36 = .ok (.iconst 1, 1) := by decide +kernel
theorem d_La_spread_37 : decode b_La_spread 37 = .ok (.istore_n 2, 1) := by decide +kernel
theorem d_La_spread_38 : decode b_La_spread 38 = .ok (.iinc 3 1, 3) := by decide +kernel
theorem d_La_spread_41 : decode b_La_spread 41 = .ok (.goto (-29), 3) := by decide +kernel
theorem d_La_spread_44 : decode b_La_spread 44 = .ok (.return_, 1) := by decide +kernel
abbrev b_La_statesBefore : ByteArray := prog_3_method_3_code
def y_La_statesBefore : MethodName := ⟨R_La, "statesBefore", "(I)I"⟩
theorem k_La_statesBefore : kV y_La_statesBefore b_La_statesBefore 2 (some .int) 1 := ⟨gmem (List.mem_append_right _ (List.mem_of_getElem? (i := 601) (by decide +kernel))) (by decide +kernel), gmem (List.mem_append_right _ (List.mem_of_getElem? (i := 602) (by decide +kernel))) (by decide +kernel), in_La, gmem (List.mem_append_right _ (List.mem_of_getElem? (i := 603) (by decide +kernel))) (by decide +kernel), by decide, by decide, by decide +kernel⟩
theorem d_La_statesBefore_0 : decode b_La_statesBefore 0 = .ok (.aload_n 0, 1) := by decide +kernel
theorem d_La_statesBefore_1 : decode b_La_statesBefore 1 = .ok (.iconst 1, 1) := by decide +kernel
theorem d_La_statesBefore_2 : decode b_La_statesBefore 2 = .ok (.invokevirtual 37, 3) := by decide +kernel
theorem d_La_statesBefore_5 : decode b_La_statesBefore 5 = .ok (.aload_n 0, 1) := by decide +kernel
theorem d_La_statesBefore_6 : decode b_La_statesBefore 6 = .ok (.getfield 9, 3) := by decide +kernel
theorem d_La_statesBefore_9 : decode b_La_statesBefore 9 = .ok (.iload_n 1, 1) := by decide +kernel
theorem d_La_statesBefore_10 : decode b_La_statesBefore 10 = .ok (.iaload, 1) := by decide +kernel
theorem d_La_statesBefore_11 : decode b_La_statesBefore 11 = .ok (.ireturn, 1) := by decide +kernel
abbrev b_La_statesBehind : ByteArray := prog_3_method_4_code
def y_La_statesBehind : MethodName := ⟨R_La, "statesBehind", "(I)I"⟩
theorem k_La_statesBehind : kV y_La_statesBehind b_La_statesBehind 2 (some .int) 1 := ⟨gmem (List.mem_append_right _ (List.mem_of_getElem? (i := 621) (by decide +kernel))) (by decide +kernel), gmem (List.mem_append_right _ (List.mem_of_getElem? (i := 622) (by decide +kernel))) (by decide +kernel), in_La, gmem (List.mem_append_right _ (List.mem_of_getElem? (i := 623) (by decide +kernel))) (by decide +kernel), by decide, by decide, by decide +kernel⟩
theorem d_La_statesBehind_0 : decode b_La_statesBehind 0 = .ok (.aload_n 0, 1) := by decide +kernel
theorem d_La_statesBehind_1 : decode b_La_statesBehind 1 = .ok (.iconst 0, 1) := by decide +kernel
theorem d_La_statesBehind_2 : decode b_La_statesBehind 2 = .ok (.invokevirtual 37, 3) := by decide +kernel
theorem d_La_statesBehind_5 : decode b_La_statesBehind 5 = .ok (.aload_n 0, 1) := by decide +kernel
theorem d_La_statesBehind_6 : decode b_La_statesBehind 6 = .ok (.getfield 9, 3) := by decide +kernel
theorem d_La_statesBehind_9 : decode b_La_statesBehind 9 = .ok (.iload_n 1, 1) := by decide +kernel
theorem d_La_statesBehind_10 : decode b_La_statesBehind 10 = .ok (.iaload, 1) := by decide +kernel
theorem d_La_statesBehind_11 : decode b_La_statesBehind 11 = .ok (.ireturn, 1) := by decide +kernel
abbrev b_Sp_rebuild : ByteArray := prog_7_method_4_code
def y_Sp_rebuild : MethodName := ⟨R_Sp, "rebuild", "(II)I"⟩
theorem k_Sp_rebuild : kV y_Sp_rebuild b_Sp_rebuild 9 (some .int) 2 := ⟨gmem (List.mem_append_right _ (List.mem_of_getElem? (i := 695) (by decide +kernel))) (by decide +kernel), gmem (List.mem_append_left _ (List.mem_of_getElem? (i := 17) (by decide +kernel))) (by decide +kernel), in_Sp, gmem (List.mem_append_right _ (List.mem_of_getElem? (i := 696) (by decide +kernel))) (by decide +kernel), by decide, by decide, by decide +kernel⟩
theorem d_Sp_rebuild_0 : decode b_Sp_rebuild 0 = .ok (.aload_n 0, 1) := by decide +kernel
theorem d_Sp_rebuild_1 : decode b_Sp_rebuild 1 = .ok (.getfield 23, 3) := by decide +kernel
theorem d_Sp_rebuild_4 : decode b_Sp_rebuild 4 = .ok (.invokevirtual 67, 3) := by decide +kernel
theorem d_Sp_rebuild_7 : decode b_Sp_rebuild 7 = .ok (.istore_n 3, 1) := by decide +kernel
theorem d_Sp_rebuild_8 : decode b_Sp_rebuild 8 = .ok (.iload_n 2, 1) := by decide +kernel
theorem d_Sp_rebuild_9 : decode b_Sp_rebuild 9 = .ok (.istore 4, 2) := by decide +kernel
theorem d_Sp_rebuild_11 : decode b_Sp_rebuild 11 = .ok (.iload_n 1, 1) := by decide +kernel
theorem d_Sp_rebuild_12 : decode b_Sp_rebuild 12 = .ok (.iconst 1, 1) := by decide +kernel
theorem d_Sp_rebuild_13 : decode b_Sp_rebuild 13 = .ok (.isub, 1) := by decide +kernel
theorem d_Sp_rebuild_14 : decode b_Sp_rebuild 14 = .ok (.istore 5, 2) := by decide +kernel
theorem d_Sp_rebuild_16 : decode b_Sp_rebuild 16 = .ok (.iload 5, 2) := by decide +kernel
theorem d_Sp_rebuild_18 : decode b_Sp_rebuild 18 = .ok (.ifCond .lt 98, 3) := by decide +kernel
theorem d_Sp_rebuild_21 : decode b_Sp_rebuild 21 = .ok (.iload 4, 2) := by decide +kernel
theorem d_Sp_rebuild_23 : decode b_Sp_rebuild 23 = .ok (.iconst (-1), 1) := by decide +kernel
theorem d_Sp_rebuild_24 : decode b_Sp_rebuild 24 = .ok (.if_icmp .eq 92, 3) := by decide +kernel
theorem d_Sp_rebuild_27 : decode b_Sp_rebuild 27 = .ok (.aload_n 0, 1) := by decide +kernel
theorem d_Sp_rebuild_28 : decode b_Sp_rebuild 28 = .ok (.getfield 15, 3) := by decide +kernel
theorem d_Sp_rebuild_31 : decode b_Sp_rebuild 31 = .ok (.iload 5, 2) := by decide +kernel
theorem d_Sp_rebuild_33 : decode b_Sp_rebuild 33 = .ok (.iaload, 1) := by decide +kernel
theorem d_Sp_rebuild_34 : decode b_Sp_rebuild 34 = .ok (.istore 6, 2) := by decide +kernel
theorem d_Sp_rebuild_36 : decode b_Sp_rebuild 36 = .ok (.aload_n 0, 1) := by decide +kernel
theorem d_Sp_rebuild_37 : decode b_Sp_rebuild 37 = .ok (.getfield 19, 3) := by decide +kernel
theorem d_Sp_rebuild_40 : decode b_Sp_rebuild 40 = .ok (.iload 5, 2) := by decide +kernel
theorem d_Sp_rebuild_42 : decode b_Sp_rebuild 42 = .ok (.baload, 1) := by decide +kernel
theorem d_Sp_rebuild_43 : decode b_Sp_rebuild 43 = .ok (.ifCond .eq 8, 3) := by decide +kernel
theorem d_Sp_rebuild_46 : decode b_Sp_rebuild 46 = .ok (.iload 4, 2) := by decide +kernel
theorem d_Sp_rebuild_48 : decode b_Sp_rebuild 48 = .ok (.goto 12, 3) := by decide +kernel
theorem d_Sp_rebuild_51 : decode b_Sp_rebuild 51 = .ok (.aload_n 0, 1) := by decide +kernel
theorem d_Sp_rebuild_52 : decode b_Sp_rebuild 52 = .ok (.getfield 23, 3) := by decide +kernel
theorem d_Sp_rebuild_55 : decode b_Sp_rebuild 55 = .ok (.iload 6, 2) := by decide +kernel
theorem d_Sp_rebuild_57 : decode b_Sp_rebuild 57 = .ok (.invokevirtual 48, 3) := by decide +kernel
theorem d_Sp_rebuild_60 : decode b_Sp_rebuild 60 = .ok (.istore 7, 2) := by decide +kernel
theorem d_Sp_rebuild_62 : decode b_Sp_rebuild 62 = .ok (.aload_n 0, 1) := by decide +kernel
theorem d_Sp_rebuild_63 : decode b_Sp_rebuild 63 = .ok (.getfield 19, 3) := by decide +kernel
theorem d_Sp_rebuild_66 : decode b_Sp_rebuild 66 = .ok (.iload 5, 2) := by decide +kernel
theorem d_Sp_rebuild_68 : decode b_Sp_rebuild 68 = .ok (.baload, 1) := by decide +kernel
theorem d_Sp_rebuild_69 : decode b_Sp_rebuild 69 = .ok (.ifCond .eq 15, 3) := by decide +kernel
theorem d_Sp_rebuild_72 : decode b_Sp_rebuild 72 = .ok (.aload_n 0, 1) := by decide +kernel
theorem d_Sp_rebuild_73 : decode b_Sp_rebuild 73 = .ok (.getfield 23, 3) := by decide +kernel
theorem d_Sp_rebuild_76 : decode b_Sp_rebuild 76 = .ok (.iload 6, 2) := by decide +kernel
theorem d_Sp_rebuild_78 : decode b_Sp_rebuild 78 = .ok (.invokevirtual 57, 3) := by decide +kernel
theorem d_Sp_rebuild_81 : decode b_Sp_rebuild 81 = .ok (.goto 5, 3) := by decide +kernel
theorem d_Sp_rebuild_84 : decode b_Sp_rebuild 84 = .ok (.iload 4, 2) := by decide +kernel
theorem d_Sp_rebuild_86 : decode b_Sp_rebuild 86 = .ok (.istore 8, 2) := by decide +kernel
theorem d_Sp_rebuild_88 : decode b_Sp_rebuild 88 = .ok (.aload_n 0, 1) := by decide +kernel
theorem d_Sp_rebuild_89 : decode b_Sp_rebuild 89 = .ok (.getfield 23, 3) := by decide +kernel
theorem d_Sp_rebuild_92 : decode b_Sp_rebuild 92 = .ok (.aload_n 0, 1) := by decide +kernel
theorem d_Sp_rebuild_93 : decode b_Sp_rebuild 93 = .ok (.getfield 23, 3) := by decide +kernel
theorem d_Sp_rebuild_96 : decode b_Sp_rebuild 96 = .ok (.iload 6, 2) := by decide +kernel
theorem d_Sp_rebuild_98 : decode b_Sp_rebuild 98 = .ok (.invokevirtual 71, 3) := by decide +kernel
theorem d_Sp_rebuild_101 : decode b_Sp_rebuild 101 = .ok (.iload 7, 2) := by decide +kernel
theorem d_Sp_rebuild_103 : decode b_Sp_rebuild 103 = .ok (.iload 8, 2) := by decide +kernel
theorem d_Sp_rebuild_105 : decode b_Sp_rebuild 105 = .ok (.invokevirtual 74, 3) := by decide +kernel
theorem d_Sp_rebuild_108 : decode b_Sp_rebuild 108 = .ok (.istore 4, 2) := by decide +kernel
theorem d_Sp_rebuild_110 : decode b_Sp_rebuild 110 = .ok (.iinc 5 (-1), 3) := by decide +kernel
theorem d_Sp_rebuild_113 : decode b_Sp_rebuild 113 = .ok (.goto (-97), 3) := by decide +kernel
theorem d_Sp_rebuild_116 : decode b_Sp_rebuild 116 = .ok (.iload 4, 2) := by decide +kernel
theorem d_Sp_rebuild_118 : decode b_Sp_rebuild 118 = .ok (.iconst (-1), 1) := by decide +kernel
theorem d_Sp_rebuild_119 : decode b_Sp_rebuild 119 = .ok (.if_icmp .ne 11, 3) := by decide +kernel
theorem d_Sp_rebuild_122 : decode b_Sp_rebuild 122 = .ok (.aload_n 0, 1) := by decide +kernel
theorem d_Sp_rebuild_123 : decode b_Sp_rebuild 123 = .ok (.getfield 23, 3) := by decide +kernel
theorem d_Sp_rebuild_126 : decode b_Sp_rebuild 126 = .ok (.iload_n 3, 1) := by decide +kernel
theorem d_Sp_rebuild_127 : decode b_Sp_rebuild 127 = .ok (.invokevirtual 78, 3) := by decide +kernel
theorem d_Sp_rebuild_130 : decode b_Sp_rebuild 130 = .ok (.iload 4, 2) := by decide +kernel
theorem d_Sp_rebuild_132 : decode b_Sp_rebuild 132 = .ok (.ireturn, 1) := by decide +kernel
abbrev b_Sp_targetOf : ByteArray := prog_7_method_3_code
def y_Sp_targetOf : MethodName := ⟨R_Sp, "targetOf", "(II)I"⟩
theorem k_Sp_targetOf : kV y_Sp_targetOf b_Sp_targetOf 8 (some .int) 2 := ⟨gmem (List.mem_append_right _ (List.mem_of_getElem? (i := 686) (by decide +kernel))) (by decide +kernel), gmem (List.mem_append_right _ (List.mem_of_getElem? (i := 687) (by decide +kernel))) (by decide +kernel), in_Sp, gmem (List.mem_append_right _ (List.mem_of_getElem? (i := 688) (by decide +kernel))) (by decide +kernel), by decide, by decide, by decide +kernel⟩
theorem d_Sp_targetOf_0 : decode b_Sp_targetOf 0 = .ok (.aload_n 0, 1) := by decide +kernel
theorem d_Sp_targetOf_1 : decode b_Sp_targetOf 1 = .ok (.invokevirtual 31, 3) := by decide +kernel
theorem d_Sp_targetOf_4 : decode b_Sp_targetOf 4 = .ok (.iload_n 1, 1) := by decide +kernel
theorem d_Sp_targetOf_5 : decode b_Sp_targetOf 5 = .ok (.istore_n 3, 1) := by decide +kernel
theorem d_Sp_targetOf_6 : decode b_Sp_targetOf 6 = .ok (.iconst 0, 1) := by decide +kernel
theorem d_Sp_targetOf_7 : decode b_Sp_targetOf 7 = .ok (.istore 4, 2) := by decide +kernel
theorem d_Sp_targetOf_9 : decode b_Sp_targetOf 9 = .ok (.iload_n 2, 1) := by decide +kernel
theorem d_Sp_targetOf_10 : decode b_Sp_targetOf 10 = .ok (.i2l, 1) := by decide +kernel
theorem d_Sp_targetOf_11 : decode b_Sp_targetOf 11 = .ok (.lstore 5, 2) := by decide +kernel
theorem d_Sp_targetOf_13 : decode b_Sp_targetOf 13 = .ok (.iload 4, 2) := by decide +kernel
theorem d_Sp_targetOf_15 : decode b_Sp_targetOf 15 = .ok (.bipush 48, 2) := by decide +kernel
theorem d_Sp_targetOf_17 : decode b_Sp_targetOf 17 = .ok (.if_icmp .ge 134, 3) := by decide +kernel
theorem d_Sp_targetOf_20 : decode b_Sp_targetOf 20 = .ok (.iload_n 3, 1) := by decide +kernel
theorem d_Sp_targetOf_21 : decode b_Sp_targetOf 21 = .ok (.iconst (-1), 1) := by decide +kernel
theorem d_Sp_targetOf_22 : decode b_Sp_targetOf 22 = .ok (.if_icmp .eq 129, 3) := by decide +kernel
theorem d_Sp_targetOf_25 : decode b_Sp_targetOf 25 = .ok (.lload 5, 2) := by decide +kernel
theorem d_Sp_targetOf_27 : decode b_Sp_targetOf 27 = .ok (.aload_n 0, 1) := by decide +kernel
theorem d_Sp_targetOf_28 : decode b_Sp_targetOf 28 = .ok (.getfield 27, 3) := by decide +kernel
theorem d_Sp_targetOf_31 : decode b_Sp_targetOf 31 = .ok (.iload_n 3, 1) := by decide +kernel
theorem d_Sp_targetOf_32 : decode b_Sp_targetOf 32 = .ok (.invokevirtual 42, 3) := by decide +kernel
theorem d_Sp_targetOf_35 : decode b_Sp_targetOf 35 = .ok (.i2l, 1) := by decide +kernel
theorem d_Sp_targetOf_36 : decode b_Sp_targetOf 36 = .ok (.lcmp, 1) := by decide +kernel
theorem d_Sp_targetOf_37 : decode b_Sp_targetOf 37 = .ok (.ifCond .lt 114, 3) := by decide +kernel
theorem d_Sp_targetOf_40 : decode b_Sp_targetOf 40 = .ok (.lload 5, 2) := by decide +kernel
theorem d_Sp_targetOf_42 : decode b_Sp_targetOf 42 = .ok (.aload_n 0, 1) := by decide +kernel
theorem d_Sp_targetOf_43 : decode b_Sp_targetOf 43 = .ok (.getfield 27, 3) := by decide +kernel
theorem d_Sp_targetOf_46 : decode b_Sp_targetOf 46 = .ok (.iload_n 3, 1) := by decide +kernel
theorem d_Sp_targetOf_47 : decode b_Sp_targetOf 47 = .ok (.invokevirtual 42, 3) := by decide +kernel
theorem d_Sp_targetOf_50 : decode b_Sp_targetOf 50 = .ok (.i2l, 1) := by decide +kernel
theorem d_Sp_targetOf_51 : decode b_Sp_targetOf 51 = .ok (.lsub, 1) := by decide +kernel
theorem d_Sp_targetOf_52 : decode b_Sp_targetOf 52 = .ok (.lstore 5, 2) := by decide +kernel
theorem d_Sp_targetOf_54 : decode b_Sp_targetOf 54 = .ok (.aload_n 0, 1) := by decide +kernel
theorem d_Sp_targetOf_55 : decode b_Sp_targetOf 55 = .ok (.getfield 23, 3) := by decide +kernel
theorem d_Sp_targetOf_58 : decode b_Sp_targetOf 58 = .ok (.iload_n 3, 1) := by decide +kernel
theorem d_Sp_targetOf_59 : decode b_Sp_targetOf 59 = .ok (.invokevirtual 48, 3) := by decide +kernel
theorem d_Sp_targetOf_62 : decode b_Sp_targetOf 62 = .ok (.istore 7, 2) := by decide +kernel
theorem d_Sp_targetOf_64 : decode b_Sp_targetOf 64 = .ok (.aload_n 0, 1) := by decide +kernel
theorem d_Sp_targetOf_65 : decode b_Sp_targetOf 65 = .ok (.getfield 15, 3) := by decide +kernel
theorem d_Sp_targetOf_68 : decode b_Sp_targetOf 68 = .ok (.iload 4, 2) := by decide +kernel
theorem d_Sp_targetOf_70 : decode b_Sp_targetOf 70 = .ok (.iload_n 3, 1) := by decide +kernel
theorem d_Sp_targetOf_71 : decode b_Sp_targetOf 71 = .ok (.iastore, 1) := by decide +kernel
theorem d_Sp_targetOf_72 : decode b_Sp_targetOf 72 = .ok (.aload_n 0, 1) := by decide +kernel
theorem d_Sp_targetOf_73 : decode b_Sp_targetOf 73 = .ok (.getfield 19, 3) := by decide +kernel
theorem d_Sp_targetOf_76 : decode b_Sp_targetOf 76 = .ok (.iload 4, 2) := by decide +kernel
theorem d_Sp_targetOf_78 : decode b_Sp_targetOf 78 = .ok (.lload 5, 2) := by decide +kernel
theorem d_Sp_targetOf_80 : decode b_Sp_targetOf 80 = .ok (.aload_n 0, 1) := by decide +kernel
theorem d_Sp_targetOf_81 : decode b_Sp_targetOf 81 = .ok (.iload 7, 2) := by decide +kernel
theorem d_Sp_targetOf_83 : decode b_Sp_targetOf 83 = .ok (.invokevirtual 53, 3) := by decide +kernel
theorem d_Sp_targetOf_86 : decode b_Sp_targetOf 86 = .ok (.lcmp, 1) := by decide +kernel
theorem d_Sp_targetOf_87 : decode b_Sp_targetOf 87 = .ok (.ifCond .ge 7, 3) := by decide +kernel
theorem d_Sp_targetOf_90 : decode b_Sp_targetOf 90 = .ok (.iconst 1, 1) := by decide +kernel
theorem d_Sp_targetOf_91 : decode b_Sp_targetOf 91 = .ok (.goto 4, 3) := by decide +kernel
theorem d_Sp_targetOf_94 : decode b_Sp_targetOf 94 = .ok (.iconst 0, 1) := by decide +kernel
theorem d_Sp_targetOf_95 : decode b_Sp_targetOf 95 = .ok (.bastore, 1) := by decide +kernel
theorem d_Sp_targetOf_96 : decode b_Sp_targetOf 96 = .ok (.lload 5, 2) := by decide +kernel
theorem d_Sp_targetOf_98 : decode b_Sp_targetOf 98 = .ok (.aload_n 0, 1) := by decide +kernel
theorem d_Sp_targetOf_99 : decode b_Sp_targetOf 99 = .ok (.getfield 19, 3) := by decide +kernel
theorem d_Sp_targetOf_102 : decode b_Sp_targetOf 102 = .ok (.iload 4, 2) := by decide +kernel
theorem d_Sp_targetOf_104 : decode b_Sp_targetOf 104 = .ok (.baload, 1) := by decide +kernel
theorem d_Sp_targetOf_105 : decode b_Sp_targetOf 105 = .ok (.ifCond .eq 7, 3) := by decide +kernel
theorem d_Sp_targetOf_108 : decode b_Sp_targetOf 108 = .ok (.lconst 0, 1) := by decide +kernel
theorem d_Sp_targetOf_109 : decode b_Sp_targetOf 109 = .ok (.goto 9, 3) := by decide +kernel
theorem d_Sp_targetOf_112 : decode b_Sp_targetOf 112 = .ok (.aload_n 0, 1) := by decide +kernel
theorem d_Sp_targetOf_113 : decode b_Sp_targetOf 113 = .ok (.iload 7, 2) := by decide +kernel
theorem d_Sp_targetOf_115 : decode b_Sp_targetOf 115 = .ok (.invokevirtual 53, 3) := by decide +kernel
theorem d_Sp_targetOf_118 : decode b_Sp_targetOf 118 = .ok (.lsub, 1) := by decide +kernel
theorem d_Sp_targetOf_119 : decode b_Sp_targetOf 119 = .ok (.lstore 5, 2) := by decide +kernel
theorem d_Sp_targetOf_121 : decode b_Sp_targetOf 121 = .ok (.aload_n 0, 1) := by decide +kernel
theorem d_Sp_targetOf_122 : decode b_Sp_targetOf 122 = .ok (.getfield 19, 3) := by decide +kernel
theorem d_Sp_targetOf_125 : decode b_Sp_targetOf 125 = .ok (.iload 4, 2) := by decide +kernel
theorem d_Sp_targetOf_127 : decode b_Sp_targetOf 127 = .ok (.baload, 1) := by decide +kernel
theorem d_Sp_targetOf_128 : decode b_Sp_targetOf 128 = .ok (.ifCond .eq 8, 3) := by decide +kernel
theorem d_Sp_targetOf_131 : decode b_Sp_targetOf 131 = .ok (.iload 7, 2) := by decide +kernel
theorem d_Sp_targetOf_133 : decode b_Sp_targetOf 133 = .ok (.goto 11, 3) := by decide +kernel
theorem d_Sp_targetOf_136 : decode b_Sp_targetOf 136 = .ok (.aload_n 0, 1) := by decide +kernel
theorem d_Sp_targetOf_137 : decode b_Sp_targetOf 137 = .ok (.getfield 23, 3) := by decide +kernel
theorem d_Sp_targetOf_140 : decode b_Sp_targetOf 140 = .ok (.iload_n 3, 1) := by decide +kernel
theorem d_Sp_targetOf_141 : decode b_Sp_targetOf 141 = .ok (.invokevirtual 57, 3) := by decide +kernel
theorem d_Sp_targetOf_144 : decode b_Sp_targetOf 144 = .ok (.istore_n 3, 1) := by decide +kernel
theorem d_Sp_targetOf_145 : decode b_Sp_targetOf 145 = .ok (.iinc 4 1, 3) := by decide +kernel
theorem d_Sp_targetOf_148 : decode b_Sp_targetOf 148 = .ok (.goto (-135), 3) := by decide +kernel
theorem d_Sp_targetOf_151 : decode b_Sp_targetOf 151 = .ok (.aload_n 0, 1) := by decide +kernel
theorem d_Sp_targetOf_152 : decode b_Sp_targetOf 152 = .ok (.iload 4, 2) := by decide +kernel
theorem d_Sp_targetOf_154 : decode b_Sp_targetOf 154 = .ok (.aload_n 0, 1) := by decide +kernel
theorem d_Sp_targetOf_155 : decode b_Sp_targetOf 155 = .ok (.getfield 27, 3) := by decide +kernel
theorem d_Sp_targetOf_158 : decode b_Sp_targetOf 158 = .ok (.iload_n 3, 1) := by decide +kernel
theorem d_Sp_targetOf_159 : decode b_Sp_targetOf 159 = .ok (.lload 5, 2) := by decide +kernel
theorem d_Sp_targetOf_161 : decode b_Sp_targetOf 161 = .ok (.l2i, 1) := by decide +kernel
theorem d_Sp_targetOf_162 : decode b_Sp_targetOf 162 = .ok (.invokevirtual 60, 3) := by decide +kernel
theorem d_Sp_targetOf_165 : decode b_Sp_targetOf 165 = .ok (.invokevirtual 64, 3) := by decide +kernel
theorem d_Sp_targetOf_168 : decode b_Sp_targetOf 168 = .ok (.ireturn, 1) := by decide +kernel
abbrev b_Ar_fillJ : ByteArray := prog_18_method_101_code
def y_Ar_fillJ : MethodName := ⟨R_Ar, "fill", "([JJ)V"⟩
theorem k_Ar_fillJ : kS y_Ar_fillJ b_Ar_fillJ 5 none 2 := ⟨gmem (List.mem_append_right _ (List.mem_of_getElem? (i := 720) (by decide +kernel))) (by decide +kernel), in_Ar, gmem (List.mem_append_right _ (List.mem_of_getElem? (i := 721) (by decide +kernel))) (by decide +kernel), by decide, by decide, by decide +kernel⟩
theorem d_Ar_fillJ_0 : decode b_Ar_fillJ 0 = .ok (.iconst 0, 1) := by decide +kernel
theorem d_Ar_fillJ_1 : decode b_Ar_fillJ 1 = .ok (.istore_n 3, 1) := by decide +kernel
theorem d_Ar_fillJ_2 : decode b_Ar_fillJ 2 = .ok (.aload_n 0, 1) := by decide +kernel
theorem d_Ar_fillJ_3 : decode b_Ar_fillJ 3 = .ok (.arraylength, 1) := by decide +kernel
theorem d_Ar_fillJ_4 : decode b_Ar_fillJ 4 = .ok (.istore 4, 2) := by decide +kernel
theorem d_Ar_fillJ_6 : decode b_Ar_fillJ 6 = .ok (.iload_n 3, 1) := by decide +kernel
theorem d_Ar_fillJ_7 : decode b_Ar_fillJ 7 = .ok (.iload 4, 2) := by decide +kernel
theorem d_Ar_fillJ_9 : decode b_Ar_fillJ 9 = .ok (.if_icmp .ge 13, 3) := by decide +kernel
theorem d_Ar_fillJ_12 : decode b_Ar_fillJ 12 = .ok (.aload_n 0, 1) := by decide +kernel
theorem d_Ar_fillJ_13 : decode b_Ar_fillJ 13 = .ok (.iload_n 3, 1) := by decide +kernel
theorem d_Ar_fillJ_14 : decode b_Ar_fillJ 14 = .ok (.lload_n 1, 1) := by decide +kernel
theorem d_Ar_fillJ_15 : decode b_Ar_fillJ 15 = .ok (.lastore, 1) := by decide +kernel
theorem d_Ar_fillJ_16 : decode b_Ar_fillJ 16 = .ok (.iinc 3 1, 3) := by decide +kernel
theorem d_Ar_fillJ_19 : decode b_Ar_fillJ 19 = .ok (.goto (-13), 3) := by decide +kernel
theorem d_Ar_fillJ_22 : decode b_Ar_fillJ 22 = .ok (.return_, 1) := by decide +kernel
abbrev b_Le_countWithParts : ByteArray := prog_4_method_8_code
def y_Le_countWithParts : MethodName := ⟨R_Le, "countWithParts", "(I)V"⟩
theorem k_Le_countWithParts : kV y_Le_countWithParts b_Le_countWithParts 6 none 1 := ⟨gmem (List.mem_append_right _ (List.mem_of_getElem? (i := 724) (by decide +kernel))) (by decide +kernel), gmem (List.mem_append_left _ (List.mem_of_getElem? (i := 19) (by decide +kernel))) (by decide +kernel), in_Le, gmem (List.mem_append_right _ (List.mem_of_getElem? (i := 725) (by decide +kernel))) (by decide +kernel), by decide, by decide, by decide +kernel⟩
theorem d_Le_countWithParts_0 : decode b_Le_countWithParts 0 = .ok (.aload_n 0, 1) := by decide +kernel
theorem d_Le_countWithParts_1 : decode b_Le_countWithParts 1 = .ok (.getfield 15, 3) := by decide +kernel
theorem d_Le_countWithParts_4 : decode b_Le_countWithParts 4 = .ok (.iload_n 1, 1) := by decide +kernel
theorem d_Le_countWithParts_5 : decode b_Le_countWithParts 5 = .ok (.baload, 1) := by decide +kernel
theorem d_Le_countWithParts_6 : decode b_Le_countWithParts 6 = .ok (.ifCond .eq 4, 3) := by decide +kernel
theorem d_Le_countWithParts_9 : decode b_Le_countWithParts 9 = .ok (.return_, 1) := by decide +kernel
theorem d_Le_countWithParts_10 : decode b_Le_countWithParts 10 = .ok (.lconst 1, 1) := by decide +kernel
theorem d_Le_countWithParts_11 : decode b_Le_countWithParts 11 = .ok (.iload_n 1, 1) := by decide +kernel
theorem d_Le_countWithParts_12 : decode b_Le_countWithParts 12 = .ok (.lshl, 1) := by decide +kernel
theorem d_Le_countWithParts_13 : decode b_Le_countWithParts 13 = .ok (.lstore_n 2, 1) := by decide +kernel
theorem d_Le_countWithParts_14 : decode b_Le_countWithParts 14 = .ok (.iload_n 1, 1) := by decide +kernel
theorem d_Le_countWithParts_15 : decode b_Le_countWithParts 15 = .ok (.istore 4, 2) := by decide +kernel
theorem d_Le_countWithParts_17 : decode b_Le_countWithParts 17 = .ok (.iload 4, 2) := by decide +kernel
theorem d_Le_countWithParts_19 : decode b_Le_countWithParts 19 = .ok (.ifCond .lt 117, 3) := by decide +kernel
theorem d_Le_countWithParts_22 : decode b_Le_countWithParts 22 = .ok (.lload_n 2, 1) := by decide +kernel
theorem d_Le_countWithParts_23 : decode b_Le_countWithParts 23 = .ok (.iload 4, 2) := by decide +kernel
theorem d_Le_countWithParts_25 : decode b_Le_countWithParts 25 = .ok (.lshr, 1) := by decide +kernel
theorem d_Le_countWithParts_26 : decode b_Le_countWithParts 26 = .ok (.lconst 1, 1) := by decide +kernel
theorem d_Le_countWithParts_27 : decode b_Le_countWithParts 27 = .ok (.land, 1) := by decide +kernel
theorem d_Le_countWithParts_28 : decode b_Le_countWithParts 28 = .ok (.lconst 0, 1) := by decide +kernel
theorem d_Le_countWithParts_29 : decode b_Le_countWithParts 29 = .ok (.lcmp, 1) := by decide +kernel
theorem d_Le_countWithParts_30 : decode b_Le_countWithParts 30 = .ok (.ifCond .eq 100, 3) := by decide +kernel
theorem d_Le_countWithParts_33 : decode b_Le_countWithParts 33 = .ok (.aload_n 0, 1) := by decide +kernel
theorem d_Le_countWithParts_34 : decode b_Le_countWithParts 34 = .ok (.getfield 15, 3) := by decide +kernel
theorem d_Le_countWithParts_37 : decode b_Le_countWithParts 37 = .ok (.iload 4, 2) := by decide +kernel
theorem d_Le_countWithParts_39 : decode b_Le_countWithParts 39 = .ok (.baload, 1) := by decide +kernel
theorem d_Le_countWithParts_40 : decode b_Le_countWithParts 40 = .ok (.ifCond .eq 6, 3) := by decide +kernel
theorem d_Le_countWithParts_43 : decode b_Le_countWithParts 43 = .ok (.goto 87, 3) := by decide +kernel
theorem d_Le_countWithParts_46 : decode b_Le_countWithParts 46 = .ok (.aload_n 0, 1) := by decide +kernel
theorem d_Le_countWithParts_47 : decode b_Le_countWithParts 47 = .ok (.getfield 15, 3) := by decide +kernel
theorem d_Le_countWithParts_50 : decode b_Le_countWithParts 50 = .ok (.iload 4, 2) := by decide +kernel
theorem d_Le_countWithParts_52 : decode b_Le_countWithParts 52 = .ok (.iconst 1, 1) := by decide +kernel
theorem d_Le_countWithParts_53 : decode b_Le_countWithParts 53 = .ok (.bastore, 1) := by decide +kernel
theorem d_Le_countWithParts_54 : decode b_Le_countWithParts 54 = .ok (.aload_n 0, 1) := by decide +kernel
theorem d_Le_countWithParts_55 : decode b_Le_countWithParts 55 = .ok (.dup, 1) := by decide +kernel
theorem d_Le_countWithParts_56 : decode b_Le_countWithParts 56 = .ok (.getfield 53, 3) := by decide +kernel
theorem d_Le_countWithParts_59 : decode b_Le_countWithParts 59 = .ok (.iconst 1, 1) := by decide +kernel
theorem d_Le_countWithParts_60 : decode b_Le_countWithParts 60 = .ok (.iadd, 1) := by decide +kernel
theorem d_Le_countWithParts_61 : decode b_Le_countWithParts 61 = .ok (.putfield 53, 3) := by decide +kernel
theorem d_Le_countWithParts_64 : decode b_Le_countWithParts 64 = .ok (.aload_n 0, 1) := by decide +kernel
theorem d_Le_countWithParts_65 : decode b_Le_countWithParts 65 = .ok (.getfield 35, 3) := by decide +kernel
theorem d_Le_countWithParts_68 : decode b_Le_countWithParts 68 = .ok (.aload_n 0, 1) := by decide +kernel
theorem d_Le_countWithParts_69 : decode b_Le_countWithParts 69 = .ok (.getfield 35, 3) := by decide +kernel
theorem d_Le_countWithParts_72 : decode b_Le_countWithParts 72 = .ok (.iload 4, 2) := by decide +kernel
theorem d_Le_countWithParts_74 : decode b_Le_countWithParts 74 = .ok (.invokevirtual 96, 3) := by decide +kernel
theorem d_Le_countWithParts_77 : decode b_Le_countWithParts 77 = .ok (.invokevirtual 99, 3) := by decide +kernel
theorem d_Le_countWithParts_80 : decode b_Le_countWithParts 80 = .ok (.istore 5, 2) := by decide +kernel
theorem d_Le_countWithParts_82 : decode b_Le_countWithParts 82 = .ok (.lload_n 2, 1) := by decide +kernel
theorem d_Le_countWithParts_83 : decode b_Le_countWithParts 83 = .ok (.iload 5, 2) := by decide +kernel
theorem d_Le_countWithParts_85 : decode b_Le_countWithParts 85 = .ok (.iconst 1, 1) := by decide +kernel
theorem d_Le_countWithParts_86 : decode b_Le_countWithParts 86 = .ok (.if_icmp .ge 7, 3) := by decide +kernel
theorem d_Le_countWithParts_89 : decode b_Le_countWithParts 89 = .ok (.lconst 0, 1) := by decide +kernel
theorem d_Le_countWithParts_90 : decode b_Le_countWithParts 90 = .ok (.goto 14, 3) := by decide +kernel
theorem d_Le_countWithParts_93 : decode b_Le_countWithParts 93 = .ok (.lconst 1, 1) := by decide +kernel
theorem d_Le_countWithParts_94 : decode b_Le_countWithParts 94 = .ok (.aload_n 0, 1) := by decide +kernel
theorem d_Le_countWithParts_95 : decode b_Le_countWithParts 95 = .ok (.getfield 35, 3) := by decide +kernel
theorem d_Le_countWithParts_98 : decode b_Le_countWithParts 98 = .ok (.iload 4, 2) := by decide +kernel
theorem d_Le_countWithParts_100 : decode b_Le_countWithParts 100 = .ok (.invokevirtual 102, 3) := by decide +kernel
theorem d_Le_countWithParts_103 : decode b_Le_countWithParts 103 = .ok (.lshl, 1) := by decide +kernel
theorem d_Le_countWithParts_104 : decode b_Le_countWithParts 104 = .ok (.lor, 1) := by decide +kernel
theorem d_Le_countWithParts_105 : decode b_Le_countWithParts 105 = .ok (.lstore_n 2, 1) := by decide +kernel
theorem d_Le_countWithParts_106 : decode b_Le_countWithParts 106 = .ok (.lload_n 2, 1) := by decide +kernel
theorem d_Le_countWithParts_107 : decode b_Le_countWithParts 107 = .ok (.iload 5, 2) := by decide +kernel
theorem d_Le_countWithParts_109 : decode b_Le_countWithParts 109 = .ok (.iconst 2, 1) := by decide +kernel
theorem d_Le_countWithParts_110 : decode b_Le_countWithParts 110 = .ok (.if_icmp .ge 7, 3) := by decide +kernel
theorem d_Le_countWithParts_113 : decode b_Le_countWithParts 113 = .ok (.lconst 0, 1) := by decide +kernel
theorem d_Le_countWithParts_114 : decode b_Le_countWithParts 114 = .ok (.goto 14, 3) := by decide +kernel
theorem d_Le_countWithParts_117 : decode b_Le_countWithParts 117 = .ok (.lconst 1, 1) := by decide +kernel
theorem d_Le_countWithParts_118 : decode b_Le_countWithParts 118 = .ok (.aload_n 0, 1) := by decide +kernel
theorem d_Le_countWithParts_119 : decode b_Le_countWithParts 119 = .ok (.getfield 35, 3) := by decide +kernel
theorem d_Le_countWithParts_122 : decode b_Le_countWithParts 122 = .ok (.iload 4, 2) := by decide +kernel
theorem d_Le_countWithParts_124 : decode b_Le_countWithParts 124 = .ok (.invokevirtual 109, 3) := by decide +kernel
theorem d_Le_countWithParts_127 : decode b_Le_countWithParts 127 = .ok (.lshl, 1) := by decide +kernel
theorem d_Le_countWithParts_128 : decode b_Le_countWithParts 128 = .ok (.lor, 1) := by decide +kernel
theorem d_Le_countWithParts_129 : decode b_Le_countWithParts 129 = .ok (.lstore_n 2, 1) := by decide +kernel
theorem d_Le_countWithParts_130 : decode b_Le_countWithParts 130 = .ok (.iinc 4 (-1), 3) := by decide +kernel
theorem d_Le_countWithParts_133 : decode b_Le_countWithParts 133 = .ok (.goto (-116), 3) := by decide +kernel
theorem d_Le_countWithParts_136 : decode b_Le_countWithParts 136 = .ok (.return_, 1) := by decide +kernel
abbrev b_Le_include : ByteArray := prog_4_method_10_code
def y_Le_include : MethodName := ⟨R_Le, "include", "([JII)V"⟩
theorem k_Le_include : kS y_Le_include b_Le_include 3 none 3 := ⟨gmem (List.mem_append_right _ (List.mem_of_getElem? (i := 731) (by decide +kernel))) (by decide +kernel), in_Le, gmem (List.mem_append_right _ (List.mem_of_getElem? (i := 732) (by decide +kernel))) (by decide +kernel), by decide, by decide, by decide +kernel⟩
theorem d_Le_include_0 : decode b_Le_include 0 = .ok (.iload_n 2, 1) := by decide +kernel
theorem d_Le_include_1 : decode b_Le_include 1 = .ok (.iconst (-1), 1) := by decide +kernel
theorem d_Le_include_2 : decode b_Le_include 2 = .ok (.if_icmp .eq 20, 3) := by decide +kernel
theorem d_Le_include_5 : decode b_Le_include 5 = .ok (.aload_n 0, 1) := by decide +kernel
theorem d_Le_include_6 : decode b_Le_include 6 = .ok (.iload_n 1, 1) := by decide +kernel
theorem d_Le_include_7 : decode b_Le_include 7 = .ok (.iload_n 2, 1) := by decide +kernel
theorem d_Le_include_8 : decode b_Le_include 8 = .ok (.bipush 64, 2) := by decide +kernel
theorem d_Le_include_10 : decode b_Le_include 10 = .ok (.idiv, 1) := by decide +kernel
theorem d_Le_include_11 : decode b_Le_include 11 = .ok (.iadd, 1) := by decide +kernel
theorem d_Le_include_12 : decode b_Le_include 12 = .ok (.dup2, 1) := by decide +kernel
theorem d_Le_include_13 : decode b_Le_include 13 = .ok (.laload, 1) := by decide +kernel
theorem d_Le_include_14 : decode b_Le_include 14 = .ok (.lconst 1, 1) := by decide +kernel
theorem d_Le_include_15 : decode b_Le_include 15 = .ok (.iload_n 2, 1) := by decide +kernel
theorem d_Le_include_16 : decode b_Le_include 16 = .ok (.bipush 64, 2) := by decide +kernel
theorem d_Le_include_18 : decode b_Le_include 18 = .ok (.irem, 1) := by decide +kernel
theorem d_Le_include_19 : decode b_Le_include 19 = .ok (.lshl, 1) := by decide +kernel
theorem d_Le_include_20 : decode b_Le_include 20 = .ok (.lor, 1) := by decide +kernel
theorem d_Le_include_21 : decode b_Le_include 21 = .ok (.lastore, 1) := by decide +kernel
theorem d_Le_include_22 : decode b_Le_include 22 = .ok (.return_, 1) := by decide +kernel
abbrev b_Le_start : ByteArray := prog_4_method_3_code
def y_Le_start : MethodName := ⟨R_Le, "start", "(I)V"⟩
theorem k_Le_start : kV y_Le_start b_Le_start 3 none 1 := ⟨gmem (List.mem_append_right _ (List.mem_of_getElem? (i := 717) (by decide +kernel))) (by decide +kernel), gmem (List.mem_append_left _ (List.mem_of_getElem? (i := 18) (by decide +kernel))) (by decide +kernel), in_Le, gmem (List.mem_append_right _ (List.mem_of_getElem? (i := 718) (by decide +kernel))) (by decide +kernel), by decide, by decide, by decide +kernel⟩
theorem d_Le_start_0 : decode b_Le_start 0 = .ok (.aload_n 0, 1) := by decide +kernel
theorem d_Le_start_1 : decode b_Le_start 1 = .ok (.getfield 11, 3) := by decide +kernel
theorem d_Le_start_4 : decode b_Le_start 4 = .ok (.lconst 0, 1) := by decide +kernel
theorem d_Le_start_5 : decode b_Le_start 5 = .ok (.invokestatic 73, 3) := by decide +kernel
theorem d_Le_start_8 : decode b_Le_start 8 = .ok (.aload_n 0, 1) := by decide +kernel
theorem d_Le_start_9 : decode b_Le_start 9 = .ok (.getfield 22, 3) := by decide +kernel
theorem d_Le_start_12 : decode b_Le_start 12 = .ok (.lconst 0, 1) := by decide +kernel
theorem d_Le_start_13 : decode b_Le_start 13 = .ok (.invokestatic 73, 3) := by decide +kernel
theorem d_Le_start_16 : decode b_Le_start 16 = .ok (.aload_n 0, 1) := by decide +kernel
theorem d_Le_start_17 : decode b_Le_start 17 = .ok (.getfield 25, 3) := by decide +kernel
theorem d_Le_start_20 : decode b_Le_start 20 = .ok (.lconst 0, 1) := by decide +kernel
theorem d_Le_start_21 : decode b_Le_start 21 = .ok (.invokestatic 73, 3) := by decide +kernel
theorem d_Le_start_24 : decode b_Le_start 24 = .ok (.iconst 0, 1) := by decide +kernel
theorem d_Le_start_25 : decode b_Le_start 25 = .ok (.istore_n 2, 1) := by decide +kernel
theorem d_Le_start_26 : decode b_Le_start 26 = .ok (.iload_n 2, 1) := by decide +kernel
theorem d_Le_start_27 : decode b_Le_start 27 = .ok (.sipush 448, 3) := by decide +kernel
theorem d_Le_start_30 : decode b_Le_start 30 = .ok (.if_icmp .ge 23, 3) := by decide +kernel
theorem d_Le_start_33 : decode b_Le_start 33 = .ok (.aload_n 0, 1) := by decide +kernel
theorem d_Le_start_34 : decode b_Le_start 34 = .ok (.getfield 15, 3) := by decide +kernel
theorem d_Le_start_37 : decode b_Le_start 37 = .ok (.iload_n 2, 1) := by decide +kernel
theorem d_Le_start_38 : decode b_Le_start 38 = .ok (.iconst 0, 1) := by decide +kernel
theorem d_Le_start_39 : decode b_Le_start 39 = .ok (.bastore, 1) := by decide +kernel
theorem d_Le_start_40 : decode b_Le_start 40 = .ok (.aload_n 0, 1) := by decide +kernel
theorem d_Le_start_41 : decode b_Le_start 41 = .ok (.getfield 19, 3) := by decide +kernel
theorem d_Le_start_44 : decode b_Le_start 44 = .ok (.iload_n 2, 1) := by decide +kernel
theorem d_Le_start_45 : decode b_Le_start 45 = .ok (.iconst 0, 1) := by decide +kernel
theorem d_Le_start_46 : decode b_Le_start 46 = .ok (.bastore, 1) := by decide +kernel
theorem d_Le_start_47 : decode b_Le_start 47 = .ok (.iinc 2 1, 3) := by decide +kernel
theorem d_Le_start_50 : decode b_Le_start 50 = .ok (.goto (-24), 3) := by decide +kernel
theorem d_Le_start_53 : decode b_Le_start 53 = .ok (.aload_n 0, 1) := by decide +kernel
theorem d_Le_start_54 : decode b_Le_start 54 = .ok (.iconst 0, 1) := by decide +kernel
theorem d_Le_start_55 : decode b_Le_start 55 = .ok (.putfield 53, 3) := by decide +kernel
theorem d_Le_start_58 : decode b_Le_start 58 = .ok (.aload_n 0, 1) := by decide +kernel
theorem d_Le_start_59 : decode b_Le_start 59 = .ok (.iload_n 1, 1) := by decide +kernel
theorem d_Le_start_60 : decode b_Le_start 60 = .ok (.invokevirtual 79, 3) := by decide +kernel
theorem d_Le_start_63 : decode b_Le_start 63 = .ok (.aload_n 0, 1) := by decide +kernel
theorem d_Le_start_64 : decode b_Le_start 64 = .ok (.getfield 22, 3) := by decide +kernel
theorem d_Le_start_67 : decode b_Le_start 67 = .ok (.iconst 0, 1) := by decide +kernel
theorem d_Le_start_68 : decode b_Le_start 68 = .ok (.iload_n 1, 1) := by decide +kernel
theorem d_Le_start_69 : decode b_Le_start 69 = .ok (.invokestatic 82, 3) := by decide +kernel
theorem d_Le_start_72 : decode b_Le_start 72 = .ok (.aload_n 0, 1) := by decide +kernel
theorem d_Le_start_73 : decode b_Le_start 73 = .ok (.getfield 25, 3) := by decide +kernel
theorem d_Le_start_76 : decode b_Le_start 76 = .ok (.iconst 0, 1) := by decide +kernel
theorem d_Le_start_77 : decode b_Le_start 77 = .ok (.iload_n 1, 1) := by decide +kernel
theorem d_Le_start_78 : decode b_Le_start 78 = .ok (.invokestatic 82, 3) := by decide +kernel
theorem d_Le_start_81 : decode b_Le_start 81 = .ok (.return_, 1) := by decide +kernel
abbrev b_Le_isIn : ByteArray := prog_4_method_11_code
def y_Le_isIn : MethodName := ⟨R_Le, "isIn", "([JI)Z"⟩
theorem k_Le_isIn : kS y_Le_isIn b_Le_isIn 2 (some .boolean) 2 := ⟨gmem (List.mem_append_right _ (List.mem_of_getElem? (i := 734) (by decide +kernel))) (by decide +kernel), in_Le, gmem (List.mem_append_right _ (List.mem_of_getElem? (i := 735) (by decide +kernel))) (by decide +kernel), by decide, by decide, by decide +kernel⟩
theorem d_Le_isIn_0 : decode b_Le_isIn 0 = .ok (.aload_n 0, 1) := by decide +kernel
theorem d_Le_isIn_1 : decode b_Le_isIn 1 = .ok (.iload_n 1, 1) := by decide +kernel
theorem d_Le_isIn_2 : decode b_Le_isIn 2 = .ok (.bipush 64, 2) := by decide +kernel
theorem d_Le_isIn_4 : decode b_Le_isIn 4 = .ok (.idiv, 1) := by decide +kernel
theorem d_Le_isIn_5 : decode b_Le_isIn 5 = .ok (.laload, 1) := by decide +kernel
theorem d_Le_isIn_6 : decode b_Le_isIn 6 = .ok (.iload_n 1, 1) := by decide +kernel
theorem d_Le_isIn_7 : decode b_Le_isIn 7 = .ok (.bipush 64, 2) := by decide +kernel
theorem d_Le_isIn_9 : decode b_Le_isIn 9 = .ok (.irem, 1) := by decide +kernel
theorem d_Le_isIn_10 : decode b_Le_isIn 10 = .ok (.lshr, 1) := by decide +kernel
theorem d_Le_isIn_11 : decode b_Le_isIn 11 = .ok (.lconst 1, 1) := by decide +kernel
theorem d_Le_isIn_12 : decode b_Le_isIn 12 = .ok (.land, 1) := by decide +kernel
theorem d_Le_isIn_13 : decode b_Le_isIn 13 = .ok (.lconst 0, 1) := by decide +kernel
theorem d_Le_isIn_14 : decode b_Le_isIn 14 = .ok (.lcmp, 1) := by decide +kernel
theorem d_Le_isIn_15 : decode b_Le_isIn 15 = .ok (.ifCond .eq 7, 3) := by decide +kernel
theorem d_Le_isIn_18 : decode b_Le_isIn 18 = .ok (.iconst 1, 1) := by decide +kernel
theorem d_Le_isIn_19 : decode b_Le_isIn 19 = .ok (.goto 4, 3) := by decide +kernel
theorem d_Le_isIn_22 : decode b_Le_isIn 22 = .ok (.iconst 0, 1) := by decide +kernel
theorem d_Le_isIn_23 : decode b_Le_isIn 23 = .ok (.ireturn, 1) := by decide +kernel
abbrev b_Le_findWaiting : ByteArray := prog_4_method_4_code
def y_Le_findWaiting : MethodName := ⟨R_Le, "findWaiting", "()I"⟩
theorem k_Le_findWaiting : kV y_Le_findWaiting b_Le_findWaiting 3 (some .int) 0 := ⟨gmem (List.mem_append_right _ (List.mem_of_getElem? (i := 738) (by decide +kernel))) (by decide +kernel), gmem (List.mem_append_left _ (List.mem_of_getElem? (i := 20) (by decide +kernel))) (by decide +kernel), in_Le, gmem (List.mem_append_right _ (List.mem_of_getElem? (i := 739) (by decide +kernel))) (by decide +kernel), by decide, by decide, by decide +kernel⟩
theorem d_Le_findWaiting_0 : decode b_Le_findWaiting 0 = .ok (.iconst 0, 1) := by decide +kernel
theorem d_Le_findWaiting_1 : decode b_Le_findWaiting 1 = .ok (.istore_n 1, 1) := by decide +kernel
theorem d_Le_findWaiting_2 : decode b_Le_findWaiting 2 = .ok (.iconst 0, 1) := by decide +kernel
theorem d_Le_findWaiting_3 : decode b_Le_findWaiting 3 = .ok (.istore_n 2, 1) := by decide +kernel
theorem d_Le_findWaiting_4 : decode b_Le_findWaiting 4 = .ok (.iload_n 2, 1) := by decide +kernel
theorem d_Le_findWaiting_5 : decode b_Le_findWaiting 5 = .ok (.aload_n 0, 1) := by decide +kernel
theorem d_Le_findWaiting_6 : decode b_Le_findWaiting 6 = .ok (.getfield 35, 3) := by decide +kernel
theorem d_Le_findWaiting_9 : decode b_Le_findWaiting 9 = .ok (.invokevirtual 43, 3) := by decide +kernel
theorem d_Le_findWaiting_12 : decode b_Le_findWaiting 12 = .ok (.if_icmp .ge 37, 3) := by decide +kernel
theorem d_Le_findWaiting_15 : decode b_Le_findWaiting 15 = .ok (.aload_n 0, 1) := by decide +kernel
theorem d_Le_findWaiting_16 : decode b_Le_findWaiting 16 = .ok (.getfield 15, 3) := by decide +kernel
theorem d_Le_findWaiting_19 : decode b_Le_findWaiting 19 = .ok (.iload_n 2, 1) := by decide +kernel
theorem d_Le_findWaiting_20 : decode b_Le_findWaiting 20 = .ok (.baload, 1) := by decide +kernel
theorem d_Le_findWaiting_21 : decode b_Le_findWaiting 21 = .ok (.ifCond .eq 22, 3) := by decide +kernel
theorem d_Le_findWaiting_24 : decode b_Le_findWaiting 24 = .ok (.aload_n 0, 1) := by decide +kernel
theorem d_Le_findWaiting_25 : decode b_Le_findWaiting 25 = .ok (.getfield 19, 3) := by decide +kernel
theorem d_Le_findWaiting_28 : decode b_Le_findWaiting 28 = .ok (.iload_n 2, 1) := by decide +kernel
theorem d_Le_findWaiting_29 : decode b_Le_findWaiting 29 = .ok (.baload, 1) := by decide +kernel
theorem d_Le_findWaiting_30 : decode b_Le_findWaiting 30 = .ok (.ifCond .ne 13, 3) := by decide +kernel
theorem d_Le_findWaiting_33 : decode b_Le_findWaiting 33 = .ok (.aload_n 0, 1) := by decide +kernel
theorem d_Le_findWaiting_34 : decode b_Le_findWaiting 34 = .ok (.getfield 31, 3) := by decide +kernel
theorem d_Le_findWaiting_37 : decode b_Le_findWaiting 37 = .ok (.iload_n 1, 1) := by decide +kernel
theorem d_Le_findWaiting_38 : decode b_Le_findWaiting 38 = .ok (.iinc 1 1, 3) := by decide +kernel
theorem d_Le_findWaiting_41 : decode b_Le_findWaiting 41 = .ok (.iload_n 2, 1) := by decide +kernel
theorem d_Le_findWaiting_42 : decode b_Le_findWaiting 42 = .ok (.iastore, 1) := by decide +kernel
theorem d_Le_findWaiting_43 : decode b_Le_findWaiting 43 = .ok (.iinc 2 1, 3) := by decide +kernel
theorem d_Le_findWaiting_46 : decode b_Le_findWaiting 46 = .ok (.goto (-42), 3) := by decide +kernel
theorem d_Le_findWaiting_49 : decode b_Le_findWaiting 49 = .ok (.iload_n 1, 1) := by decide +kernel
theorem d_Le_findWaiting_50 : decode b_Le_findWaiting 50 = .ok (.ireturn, 1) := by decide +kernel
abbrev b_Le_goOn : ByteArray := prog_4_method_9_code
def y_Le_goOn : MethodName := ⟨R_Le, "goOn", "()V"⟩
theorem k_Le_goOn : kV y_Le_goOn b_Le_goOn 3 none 0 := ⟨gmem (List.mem_append_right _ (List.mem_of_getElem? (i := 759) (by decide +kernel))) (by decide +kernel), gmem (List.mem_append_left _ (List.mem_of_getElem? (i := 24) (by decide +kernel))) (by decide +kernel), in_Le, gmem (List.mem_append_right _ (List.mem_of_getElem? (i := 760) (by decide +kernel))) (by decide +kernel), by decide, by decide, by decide +kernel⟩
theorem d_Le_goOn_0 : decode b_Le_goOn 0 = .ok (.aload_n 0, 1) := by decide +kernel
theorem d_Le_goOn_1 : decode b_Le_goOn 1 = .ok (.getfield 28, 3) := by decide +kernel
theorem d_Le_goOn_4 : decode b_Le_goOn 4 = .ok (.lconst 0, 1) := by decide +kernel
theorem d_Le_goOn_5 : decode b_Le_goOn 5 = .ok (.invokestatic 73, 3) := by decide +kernel
theorem d_Le_goOn_8 : decode b_Le_goOn 8 = .ok (.iconst 0, 1) := by decide +kernel
theorem d_Le_goOn_9 : decode b_Le_goOn 9 = .ok (.istore_n 1, 1) := by decide +kernel
theorem d_Le_goOn_10 : decode b_Le_goOn 10 = .ok (.iload_n 1, 1) := by decide +kernel
theorem d_Le_goOn_11 : decode b_Le_goOn 11 = .ok (.aload_n 0, 1) := by decide +kernel
theorem d_Le_goOn_12 : decode b_Le_goOn 12 = .ok (.getfield 35, 3) := by decide +kernel
theorem d_Le_goOn_15 : decode b_Le_goOn 15 = .ok (.invokevirtual 43, 3) := by decide +kernel
theorem d_Le_goOn_18 : decode b_Le_goOn 18 = .ok (.if_icmp .ge 54, 3) := by decide +kernel
theorem d_Le_goOn_21 : decode b_Le_goOn 21 = .ok (.iconst 0, 1) := by decide +kernel
theorem d_Le_goOn_22 : decode b_Le_goOn 22 = .ok (.istore_n 2, 1) := by decide +kernel
theorem d_Le_goOn_23 : decode b_Le_goOn 23 = .ok (.iload_n 2, 1) := by decide +kernel
theorem d_Le_goOn_24 : decode b_Le_goOn 24 = .ok (.bipush 7, 2) := by decide +kernel
theorem d_Le_goOn_26 : decode b_Le_goOn 26 = .ok (.if_icmp .ge 40, 3) := by decide +kernel
theorem d_Le_goOn_29 : decode b_Le_goOn 29 = .ok (.aload_n 0, 1) := by decide +kernel
theorem d_Le_goOn_30 : decode b_Le_goOn 30 = .ok (.getfield 25, 3) := by decide +kernel
theorem d_Le_goOn_33 : decode b_Le_goOn 33 = .ok (.iload_n 1, 1) := by decide +kernel
theorem d_Le_goOn_34 : decode b_Le_goOn 34 = .ok (.invokestatic 57, 3) := by decide +kernel
theorem d_Le_goOn_37 : decode b_Le_goOn 37 = .ok (.ifCond .eq 29, 3) := by decide +kernel
theorem d_Le_goOn_40 : decode b_Le_goOn 40 = .ok (.aload_n 0, 1) := by decide +kernel
theorem d_Le_goOn_41 : decode b_Le_goOn 41 = .ok (.getfield 28, 3) := by decide +kernel
theorem d_Le_goOn_44 : decode b_Le_goOn 44 = .ok (.iload_n 2, 1) := by decide +kernel
theorem d_Le_goOn_45 : decode b_Le_goOn 45 = .ok (.dup2, 1) := by decide +kernel
theorem d_Le_goOn_46 : decode b_Le_goOn 46 = .ok (.laload, 1) := by decide +kernel
theorem d_Le_goOn_47 : decode b_Le_goOn 47 = .ok (.aload_n 0, 1) := by decide +kernel
theorem d_Le_goOn_48 : decode b_Le_goOn 48 = .ok (.getfield 11, 3) := by decide +kernel
theorem d_Le_goOn_51 : decode b_Le_goOn 51 = .ok (.iload_n 1, 1) := by decide +kernel
theorem d_Le_goOn_52 : decode b_Le_goOn 52 = .ok (.bipush 7, 2) := by decide +kernel
theorem d_Le_goOn_54 : decode b_Le_goOn 54 = .ok (.imul, 1) := by decide +kernel
theorem d_Le_goOn_55 : decode b_Le_goOn 55 = .ok (.iload_n 2, 1) := by decide +kernel
theorem d_Le_goOn_56 : decode b_Le_goOn 56 = .ok (.iadd, 1) := by decide +kernel
theorem d_Le_goOn_57 : decode b_Le_goOn 57 = .ok (.laload, 1) := by decide +kernel
theorem d_Le_goOn_58 : decode b_Le_goOn 58 = .ok (.lor, 1) := by decide +kernel
theorem d_Le_goOn_59 : decode b_Le_goOn 59 = .ok (.lastore, 1) := by decide +kernel
theorem d_Le_goOn_60 : decode b_Le_goOn 60 = .ok (.iinc 2 1, 3) := by decide +kernel
theorem d_Le_goOn_63 : decode b_Le_goOn 63 = .ok (.goto (-40), 3) := by decide +kernel
theorem d_Le_goOn_66 : decode b_Le_goOn 66 = .ok (.iinc 1 1, 3) := by decide +kernel
theorem d_Le_goOn_69 : decode b_Le_goOn 69 = .ok (.goto (-59), 3) := by decide +kernel
theorem d_Le_goOn_72 : decode b_Le_goOn 72 = .ok (.iconst 0, 1) := by decide +kernel
theorem d_Le_goOn_73 : decode b_Le_goOn 73 = .ok (.istore_n 1, 1) := by decide +kernel
theorem d_Le_goOn_74 : decode b_Le_goOn 74 = .ok (.iload_n 1, 1) := by decide +kernel
theorem d_Le_goOn_75 : decode b_Le_goOn 75 = .ok (.bipush 7, 2) := by decide +kernel
theorem d_Le_goOn_77 : decode b_Le_goOn 77 = .ok (.if_icmp .ge 47, 3) := by decide +kernel
theorem d_Le_goOn_80 : decode b_Le_goOn 80 = .ok (.aload_n 0, 1) := by decide +kernel
theorem d_Le_goOn_81 : decode b_Le_goOn 81 = .ok (.getfield 25, 3) := by decide +kernel
theorem d_Le_goOn_84 : decode b_Le_goOn 84 = .ok (.iload_n 1, 1) := by decide +kernel
theorem d_Le_goOn_85 : decode b_Le_goOn 85 = .ok (.aload_n 0, 1) := by decide +kernel
theorem d_Le_goOn_86 : decode b_Le_goOn 86 = .ok (.getfield 28, 3) := by decide +kernel
theorem d_Le_goOn_89 : decode b_Le_goOn 89 = .ok (.iload_n 1, 1) := by decide +kernel
theorem d_Le_goOn_90 : decode b_Le_goOn 90 = .ok (.laload, 1) := by decide +kernel
theorem d_Le_goOn_91 : decode b_Le_goOn 91 = .ok (.aload_n 0, 1) := by decide +kernel
theorem d_Le_goOn_92 : decode b_Le_goOn 92 = .ok (.getfield 22, 3) := by decide +kernel
theorem d_Le_goOn_95 : decode b_Le_goOn 95 = .ok (.iload_n 1, 1) := by decide +kernel
theorem d_Le_goOn_96 : decode b_Le_goOn 96 = .ok (.laload, 1) := by decide +kernel
theorem d_Le_goOn_97 : decode b_Le_goOn 97 = .ok (.ldc2_w 122, 3) := by decide +kernel
theorem d_Le_goOn_100 : decode b_Le_goOn 100 = .ok (.lxor, 1) := by decide +kernel
theorem d_Le_goOn_101 : decode b_Le_goOn 101 = .ok (.land, 1) := by decide +kernel
theorem d_Le_goOn_102 : decode b_Le_goOn 102 = .ok (.lastore, 1) := by decide +kernel
theorem d_Le_goOn_103 : decode b_Le_goOn 103 = .ok (.aload_n 0, 1) := by decide +kernel
theorem d_Le_goOn_104 : decode b_Le_goOn 104 = .ok (.getfield 22, 3) := by decide +kernel
theorem d_Le_goOn_107 : decode b_Le_goOn 107 = .ok (.iload_n 1, 1) := by decide +kernel
theorem d_Le_goOn_108 : decode b_Le_goOn 108 = .ok (.dup2, 1) := by decide +kernel
theorem d_Le_goOn_109 : decode b_Le_goOn 109 = .ok (.laload, 1) := by decide +kernel
theorem d_Le_goOn_110 : decode b_Le_goOn 110 = .ok (.aload_n 0, 1) := by decide +kernel
theorem d_Le_goOn_111 : decode b_Le_goOn 111 = .ok (.getfield 25, 3) := by decide +kernel
theorem d_Le_goOn_114 : decode b_Le_goOn 114 = .ok (.iload_n 1, 1) := by decide +kernel
theorem d_Le_goOn_115 : decode b_Le_goOn 115 = .ok (.laload, 1) := by decide +kernel
theorem d_Le_goOn_116 : decode b_Le_goOn 116 = .ok (.lor, 1) := by decide +kernel
theorem d_Le_goOn_117 : decode b_Le_goOn 117 = .ok (.lastore, 1) := by decide +kernel
theorem d_Le_goOn_118 : decode b_Le_goOn 118 = .ok (.iinc 1 1, 3) := by decide +kernel
theorem d_Le_goOn_121 : decode b_Le_goOn 121 = .ok (.goto (-47), 3) := by decide +kernel
theorem d_Le_goOn_124 : decode b_Le_goOn 124 = .ok (.return_, 1) := by decide +kernel
abbrev b_Le_findCounted : ByteArray := prog_4_method_7_code
def y_Le_findCounted : MethodName := ⟨R_Le, "findCounted", "(III)I"⟩
theorem k_Le_findCounted : kV y_Le_findCounted b_Le_findCounted 6 (some .int) 3 := ⟨gmem (List.mem_append_right _ (List.mem_of_getElem? (i := 753) (by decide +kernel))) (by decide +kernel), gmem (List.mem_append_left _ (List.mem_of_getElem? (i := 23) (by decide +kernel))) (by decide +kernel), in_Le, gmem (List.mem_append_right _ (List.mem_of_getElem? (i := 754) (by decide +kernel))) (by decide +kernel), by decide, by decide, by decide +kernel⟩
theorem d_Le_findCounted_0 : decode b_Le_findCounted 0 = .ok (.aload_n 0, 1) := by decide +kernel
theorem d_Le_findCounted_1 : decode b_Le_findCounted 1 = .ok (.getfield 35, 3) := by decide +kernel
theorem d_Le_findCounted_4 : decode b_Le_findCounted 4 = .ok (.iload_n 1, 1) := by decide +kernel
theorem d_Le_findCounted_5 : decode b_Le_findCounted 5 = .ok (.iload_n 2, 1) := by decide +kernel
theorem d_Le_findCounted_6 : decode b_Le_findCounted 6 = .ok (.iload_n 3, 1) := by decide +kernel
theorem d_Le_findCounted_7 : decode b_Le_findCounted 7 = .ok (.invokevirtual 116, 3) := by decide +kernel
theorem d_Le_findCounted_10 : decode b_Le_findCounted 10 = .ok (.istore 4, 2) := by decide +kernel
theorem d_Le_findCounted_12 : decode b_Le_findCounted 12 = .ok (.iload 4, 2) := by decide +kernel
theorem d_Le_findCounted_14 : decode b_Le_findCounted 14 = .ok (.iconst (-1), 1) := by decide +kernel
theorem d_Le_findCounted_15 : decode b_Le_findCounted 15 = .ok (.if_icmp .eq 12, 3) := by decide +kernel
theorem d_Le_findCounted_18 : decode b_Le_findCounted 18 = .ok (.aload_n 0, 1) := by decide +kernel
theorem d_Le_findCounted_19 : decode b_Le_findCounted 19 = .ok (.iload 4, 2) := by decide +kernel
theorem d_Le_findCounted_21 : decode b_Le_findCounted 21 = .ok (.invokevirtual 79, 3) := by decide +kernel
theorem d_Le_findCounted_24 : decode b_Le_findCounted 24 = .ok (.iload 4, 2) := by decide +kernel
theorem d_Le_findCounted_26 : decode b_Le_findCounted 26 = .ok (.ireturn, 1) := by decide +kernel
theorem d_Le_findCounted_27 : decode b_Le_findCounted 27 = .ok (.aload_n 0, 1) := by decide +kernel
theorem d_Le_findCounted_28 : decode b_Le_findCounted 28 = .ok (.dup, 1) := by decide +kernel
theorem d_Le_findCounted_29 : decode b_Le_findCounted 29 = .ok (.getfield 53, 3) := by decide +kernel
theorem d_Le_findCounted_32 : decode b_Le_findCounted 32 = .ok (.iconst 1, 1) := by decide +kernel
theorem d_Le_findCounted_33 : decode b_Le_findCounted 33 = .ok (.iadd, 1) := by decide +kernel
theorem d_Le_findCounted_34 : decode b_Le_findCounted 34 = .ok (.putfield 53, 3) := by decide +kernel
theorem d_Le_findCounted_37 : decode b_Le_findCounted 37 = .ok (.aload_n 0, 1) := by decide +kernel
theorem d_Le_findCounted_38 : decode b_Le_findCounted 38 = .ok (.getfield 53, 3) := by decide +kernel
theorem d_Le_findCounted_41 : decode b_Le_findCounted 41 = .ok (.sipush 400, 3) := by decide +kernel
theorem d_Le_findCounted_44 : decode b_Le_findCounted 44 = .ok (.if_icmp .le 5, 3) := by decide +kernel
theorem d_Le_findCounted_47 : decode b_Le_findCounted 47 = .ok (.iconst (-1), 1) := by decide +kernel
theorem d_Le_findCounted_48 : decode b_Le_findCounted 48 = .ok (.ireturn, 1) := by decide +kernel
theorem d_Le_findCounted_49 : decode b_Le_findCounted 49 = .ok (.aload_n 0, 1) := by decide +kernel
theorem d_Le_findCounted_50 : decode b_Le_findCounted 50 = .ok (.getfield 35, 3) := by decide +kernel
theorem d_Le_findCounted_53 : decode b_Le_findCounted 53 = .ok (.iload_n 1, 1) := by decide +kernel
theorem d_Le_findCounted_54 : decode b_Le_findCounted 54 = .ok (.iload_n 2, 1) := by decide +kernel
theorem d_Le_findCounted_55 : decode b_Le_findCounted 55 = .ok (.iload_n 3, 1) := by decide +kernel
theorem d_Le_findCounted_56 : decode b_Le_findCounted 56 = .ok (.invokevirtual 119, 3) := by decide +kernel
theorem d_Le_findCounted_59 : decode b_Le_findCounted 59 = .ok (.istore 5, 2) := by decide +kernel
theorem d_Le_findCounted_61 : decode b_Le_findCounted 61 = .ok (.iload 5, 2) := by decide +kernel
theorem d_Le_findCounted_63 : decode b_Le_findCounted 63 = .ok (.iconst (-1), 1) := by decide +kernel
theorem d_Le_findCounted_64 : decode b_Le_findCounted 64 = .ok (.if_icmp .eq 11, 3) := by decide +kernel
theorem d_Le_findCounted_67 : decode b_Le_findCounted 67 = .ok (.aload_n 0, 1) := by decide +kernel
theorem d_Le_findCounted_68 : decode b_Le_findCounted 68 = .ok (.getfield 15, 3) := by decide +kernel
theorem d_Le_findCounted_71 : decode b_Le_findCounted 71 = .ok (.iload 5, 2) := by decide +kernel
theorem d_Le_findCounted_73 : decode b_Le_findCounted 73 = .ok (.iconst 1, 1) := by decide +kernel
theorem d_Le_findCounted_74 : decode b_Le_findCounted 74 = .ok (.bastore, 1) := by decide +kernel
theorem d_Le_findCounted_75 : decode b_Le_findCounted 75 = .ok (.iload 5, 2) := by decide +kernel
theorem d_Le_findCounted_77 : decode b_Le_findCounted 77 = .ok (.ireturn, 1) := by decide +kernel
abbrev b_Le_stepInPart : ByteArray := prog_4_method_6_code
def y_Le_stepInPart : MethodName := ⟨R_Le, "stepInPart", "(IIZ)V"⟩
theorem k_Le_stepInPart : kV y_Le_stepInPart b_Le_stepInPart 9 none 3 := ⟨gmem (List.mem_append_right _ (List.mem_of_getElem? (i := 749) (by decide +kernel))) (by decide +kernel), gmem (List.mem_append_left _ (List.mem_of_getElem? (i := 22) (by decide +kernel))) (by decide +kernel), in_Le, gmem (List.mem_append_right _ (List.mem_of_getElem? (i := 750) (by decide +kernel))) (by decide +kernel), by decide, by decide, by decide +kernel⟩
theorem d_Le_stepInPart_0 : decode b_Le_stepInPart 0 = .ok (.iconst 0, 1) := by decide +kernel
theorem d_Le_stepInPart_1 : decode b_Le_stepInPart 1 = .ok (.istore 4, 2) := by decide +kernel
theorem d_Le_stepInPart_3 : decode b_Le_stepInPart 3 = .ok (.iload 4, 2) := by decide +kernel
theorem d_Le_stepInPart_5 : decode b_Le_stepInPart 5 = .ok (.bipush 7, 2) := by decide +kernel
theorem d_Le_stepInPart_7 : decode b_Le_stepInPart 7 = .ok (.if_icmp .ge 133, 3) := by decide +kernel
theorem d_Le_stepInPart_10 : decode b_Le_stepInPart 10 = .ok (.aload_n 0, 1) := by decide +kernel
theorem d_Le_stepInPart_11 : decode b_Le_stepInPart 11 = .ok (.getfield 11, 3) := by decide +kernel
theorem d_Le_stepInPart_14 : decode b_Le_stepInPart 14 = .ok (.iload_n 2, 1) := by decide +kernel
theorem d_Le_stepInPart_15 : decode b_Le_stepInPart 15 = .ok (.bipush 7, 2) := by decide +kernel
theorem d_Le_stepInPart_17 : decode b_Le_stepInPart 17 = .ok (.imul, 1) := by decide +kernel
theorem d_Le_stepInPart_18 : decode b_Le_stepInPart 18 = .ok (.iload 4, 2) := by decide +kernel
theorem d_Le_stepInPart_20 : decode b_Le_stepInPart 20 = .ok (.iadd, 1) := by decide +kernel
theorem d_Le_stepInPart_21 : decode b_Le_stepInPart 21 = .ok (.laload, 1) := by decide +kernel
theorem d_Le_stepInPart_22 : decode b_Le_stepInPart 22 = .ok (.lstore 5, 2) := by decide +kernel
theorem d_Le_stepInPart_24 : decode b_Le_stepInPart 24 = .ok (.iconst 0, 1) := by decide +kernel
theorem d_Le_stepInPart_25 : decode b_Le_stepInPart 25 = .ok (.istore 7, 2) := by decide +kernel
theorem d_Le_stepInPart_27 : decode b_Le_stepInPart 27 = .ok (.iload 7, 2) := by decide +kernel
theorem d_Le_stepInPart_29 : decode b_Le_stepInPart 29 = .ok (.bipush 64, 2) := by decide +kernel
theorem d_Le_stepInPart_31 : decode b_Le_stepInPart 31 = .ok (.if_icmp .ge 103, 3) := by decide +kernel
theorem d_Le_stepInPart_34 : decode b_Le_stepInPart 34 = .ok (.lload 5, 2) := by decide +kernel
theorem d_Le_stepInPart_36 : decode b_Le_stepInPart 36 = .ok (.lconst 0, 1) := by decide +kernel
theorem d_Le_stepInPart_37 : decode b_Le_stepInPart 37 = .ok (.lcmp, 1) := by decide +kernel
theorem d_Le_stepInPart_38 : decode b_Le_stepInPart 38 = .ok (.ifCond .eq 96, 3) := by decide +kernel
theorem d_Le_stepInPart_41 : decode b_Le_stepInPart 41 = .ok (.lload 5, 2) := by decide +kernel
theorem d_Le_stepInPart_43 : decode b_Le_stepInPart 43 = .ok (.lconst 1, 1) := by decide +kernel
theorem d_Le_stepInPart_44 : decode b_Le_stepInPart 44 = .ok (.land, 1) := by decide +kernel
theorem d_Le_stepInPart_45 : decode b_Le_stepInPart 45 = .ok (.lconst 0, 1) := by decide +kernel
theorem d_Le_stepInPart_46 : decode b_Le_stepInPart 46 = .ok (.lcmp, 1) := by decide +kernel
theorem d_Le_stepInPart_47 : decode b_Le_stepInPart 47 = .ok (.ifCond .eq 75, 3) := by decide +kernel
theorem d_Le_stepInPart_50 : decode b_Le_stepInPart 50 = .ok (.iload 4, 2) := by decide +kernel
theorem d_Le_stepInPart_52 : decode b_Le_stepInPart 52 = .ok (.bipush 64, 2) := by decide +kernel
theorem d_Le_stepInPart_54 : decode b_Le_stepInPart 54 = .ok (.imul, 1) := by decide +kernel
theorem d_Le_stepInPart_55 : decode b_Le_stepInPart 55 = .ok (.iload 7, 2) := by decide +kernel
theorem d_Le_stepInPart_57 : decode b_Le_stepInPart 57 = .ok (.iadd, 1) := by decide +kernel
theorem d_Le_stepInPart_58 : decode b_Le_stepInPart 58 = .ok (.istore 8, 2) := by decide +kernel
theorem d_Le_stepInPart_60 : decode b_Le_stepInPart 60 = .ok (.aload_n 0, 1) := by decide +kernel
theorem d_Le_stepInPart_61 : decode b_Le_stepInPart 61 = .ok (.getfield 11, 3) := by decide +kernel
theorem d_Le_stepInPart_64 : decode b_Le_stepInPart 64 = .ok (.iload_n 1, 1) := by decide +kernel
theorem d_Le_stepInPart_65 : decode b_Le_stepInPart 65 = .ok (.bipush 7, 2) := by decide +kernel
theorem d_Le_stepInPart_67 : decode b_Le_stepInPart 67 = .ok (.imul, 1) := by decide +kernel
theorem d_Le_stepInPart_68 : decode b_Le_stepInPart 68 = .ok (.iload_n 3, 1) := by decide +kernel
theorem d_Le_stepInPart_69 : decode b_Le_stepInPart 69 = .ok (.ifCond .eq 28, 3) := by decide +kernel
theorem d_Le_stepInPart_72 : decode b_Le_stepInPart 72 = .ok (.aload_n 0, 1) := by decide +kernel
theorem d_Le_stepInPart_73 : decode b_Le_stepInPart 73 = .ok (.aload_n 0, 1) := by decide +kernel
theorem d_Le_stepInPart_74 : decode b_Le_stepInPart 74 = .ok (.getfield 35, 3) := by decide +kernel
theorem d_Le_stepInPart_77 : decode b_Le_stepInPart 77 = .ok (.iload_n 1, 1) := by decide +kernel
theorem d_Le_stepInPart_78 : decode b_Le_stepInPart 78 = .ok (.invokevirtual 96, 3) := by decide +kernel
theorem d_Le_stepInPart_81 : decode b_Le_stepInPart 81 = .ok (.iload 8, 2) := by decide +kernel
theorem d_Le_stepInPart_83 : decode b_Le_stepInPart 83 = .ok (.aload_n 0, 1) := by decide +kernel
theorem d_Le_stepInPart_84 : decode b_Le_stepInPart 84 = .ok (.getfield 35, 3) := by decide +kernel
theorem d_Le_stepInPart_87 : decode b_Le_stepInPart 87 = .ok (.iload_n 1, 1) := by decide +kernel
theorem d_Le_stepInPart_88 : decode b_Le_stepInPart 88 = .ok (.invokevirtual 109, 3) := by decide +kernel
theorem d_Le_stepInPart_91 : decode b_Le_stepInPart 91 = .ok (.invokevirtual 112, 3) := by decide +kernel
theorem d_Le_stepInPart_94 : decode b_Le_stepInPart 94 = .ok (.goto 25, 3) := by decide +kernel
theorem d_Le_stepInPart_97 : decode b_Le_stepInPart 97 = .ok (.aload_n 0, 1) := by decide +kernel
theorem d_Le_stepInPart_98 : decode b_Le_stepInPart 98 = .ok (.aload_n 0, 1) := by decide +kernel
theorem d_Le_stepInPart_99 : decode b_Le_stepInPart 99 = .ok (.getfield 35, 3) := by decide +kernel
theorem d_Le_stepInPart_102 : decode b_Le_stepInPart 102 = .ok (.iload_n 1, 1) := by decide +kernel
theorem d_Le_stepInPart_103 : decode b_Le_stepInPart 103 = .ok (.invokevirtual 96, 3) := by decide +kernel
theorem d_Le_stepInPart_106 : decode b_Le_stepInPart 106 = .ok (.aload_n 0, 1) := by decide +kernel
theorem d_Le_stepInPart_107 : decode b_Le_stepInPart 107 = .ok (.getfield 35, 3) := by decide +kernel
theorem d_Le_stepInPart_110 : decode b_Le_stepInPart 110 = .ok (.iload_n 1, 1) := by decide +kernel
theorem d_Le_stepInPart_111 : decode b_Le_stepInPart 111 = .ok (.invokevirtual 102, 3) := by decide +kernel
theorem d_Le_stepInPart_114 : decode b_Le_stepInPart 114 = .ok (.iload 8, 2) := by decide +kernel
theorem d_Le_stepInPart_116 : decode b_Le_stepInPart 116 = .ok (.invokevirtual 112, 3) := by decide +kernel
theorem d_Le_stepInPart_119 : decode b_Le_stepInPart 119 = .ok (.invokestatic 82, 3) := by decide +kernel
theorem d_Le_stepInPart_122 : decode b_Le_stepInPart 122 = .ok (.lload 5, 2) := by decide +kernel
theorem d_Le_stepInPart_124 : decode b_Le_stepInPart 124 = .ok (.iconst 1, 1) := by decide +kernel
theorem d_Le_stepInPart_125 : decode b_Le_stepInPart 125 = .ok (.lushr, 1) := by decide +kernel
theorem d_Le_stepInPart_126 : decode b_Le_stepInPart 126 = .ok (.lstore 5, 2) := by decide +kernel
theorem d_Le_stepInPart_128 : decode b_Le_stepInPart 128 = .ok (.iinc 7 1, 3) := by decide +kernel
theorem d_Le_stepInPart_131 : decode b_Le_stepInPart 131 = .ok (.goto (-104), 3) := by decide +kernel
theorem d_Le_stepInPart_134 : decode b_Le_stepInPart 134 = .ok (.iinc 4 1, 3) := by decide +kernel
theorem d_Le_stepInPart_137 : decode b_Le_stepInPart 137 = .ok (.goto (-134), 3) := by decide +kernel
theorem d_Le_stepInPart_140 : decode b_Le_stepInPart 140 = .ok (.return_, 1) := by decide +kernel
abbrev b_Le_expand : ByteArray := prog_4_method_5_code
def y_Le_expand : MethodName := ⟨R_Le, "expand", "(I)V"⟩
theorem k_Le_expand : kV y_Le_expand b_Le_expand 3 none 1 := ⟨gmem (List.mem_append_right _ (List.mem_of_getElem? (i := 742) (by decide +kernel))) (by decide +kernel), gmem (List.mem_append_left _ (List.mem_of_getElem? (i := 21) (by decide +kernel))) (by decide +kernel), in_Le, gmem (List.mem_append_right _ (List.mem_of_getElem? (i := 743) (by decide +kernel))) (by decide +kernel), by decide, by decide, by decide +kernel⟩
theorem d_Le_expand_0 : decode b_Le_expand 0 = .ok (.iconst 0, 1) := by decide +kernel
theorem d_Le_expand_1 : decode b_Le_expand 1 = .ok (.istore_n 2, 1) := by decide +kernel
theorem d_Le_expand_2 : decode b_Le_expand 2 = .ok (.iload_n 2, 1) := by decide +kernel
theorem d_Le_expand_3 : decode b_Le_expand 3 = .ok (.aload_n 0, 1) := by decide +kernel
theorem d_Le_expand_4 : decode b_Le_expand 4 = .ok (.getfield 39, 3) := by decide +kernel
theorem d_Le_expand_7 : decode b_Le_expand 7 = .ok (.invokevirtual 86, 3) := by decide +kernel
theorem d_Le_expand_10 : decode b_Le_expand 10 = .ok (.if_icmp .ge 52, 3) := by decide +kernel
theorem d_Le_expand_13 : decode b_Le_expand 13 = .ok (.aload_n 0, 1) := by decide +kernel
theorem d_Le_expand_14 : decode b_Le_expand 14 = .ok (.getfield 39, 3) := by decide +kernel
theorem d_Le_expand_17 : decode b_Le_expand 17 = .ok (.iload_n 2, 1) := by decide +kernel
theorem d_Le_expand_18 : decode b_Le_expand 18 = .ok (.invokevirtual 89, 3) := by decide +kernel
theorem d_Le_expand_21 : decode b_Le_expand 21 = .ok (.iload_n 1, 1) := by decide +kernel
theorem d_Le_expand_22 : decode b_Le_expand 22 = .ok (.if_icmp .ne 34, 3) := by decide +kernel
theorem d_Le_expand_25 : decode b_Le_expand 25 = .ok (.aload_n 0, 1) := by decide +kernel
theorem d_Le_expand_26 : decode b_Le_expand 26 = .ok (.aload_n 0, 1) := by decide +kernel
theorem d_Le_expand_27 : decode b_Le_expand 27 = .ok (.getfield 39, 3) := by decide +kernel
theorem d_Le_expand_30 : decode b_Le_expand 30 = .ok (.iload_n 2, 1) := by decide +kernel
theorem d_Le_expand_31 : decode b_Le_expand 31 = .ok (.invokevirtual 93, 3) := by decide +kernel
theorem d_Le_expand_34 : decode b_Le_expand 34 = .ok (.invokevirtual 79, 3) := by decide +kernel
theorem d_Le_expand_37 : decode b_Le_expand 37 = .ok (.aload_n 0, 1) := by decide +kernel
theorem d_Le_expand_38 : decode b_Le_expand 38 = .ok (.getfield 11, 3) := by decide +kernel
theorem d_Le_expand_41 : decode b_Le_expand 41 = .ok (.iload_n 1, 1) := by decide +kernel
theorem d_Le_expand_42 : decode b_Le_expand 42 = .ok (.bipush 7, 2) := by decide +kernel
theorem d_Le_expand_44 : decode b_Le_expand 44 = .ok (.imul, 1) := by decide +kernel
theorem d_Le_expand_45 : decode b_Le_expand 45 = .ok (.aload_n 0, 1) := by decide +kernel
theorem d_Le_expand_46 : decode b_Le_expand 46 = .ok (.getfield 39, 3) := by decide +kernel
theorem d_Le_expand_49 : decode b_Le_expand 49 = .ok (.iload_n 2, 1) := by decide +kernel
theorem d_Le_expand_50 : decode b_Le_expand 50 = .ok (.invokevirtual 93, 3) := by decide +kernel
theorem d_Le_expand_53 : decode b_Le_expand 53 = .ok (.invokestatic 82, 3) := by decide +kernel
theorem d_Le_expand_56 : decode b_Le_expand 56 = .ok (.iinc 2 1, 3) := by decide +kernel
theorem d_Le_expand_59 : decode b_Le_expand 59 = .ok (.goto (-57), 3) := by decide +kernel
theorem d_Le_expand_62 : decode b_Le_expand 62 = .ok (.aload_n 0, 1) := by decide +kernel
theorem d_Le_expand_63 : decode b_Le_expand 63 = .ok (.getfield 35, 3) := by decide +kernel
theorem d_Le_expand_66 : decode b_Le_expand 66 = .ok (.aload_n 0, 1) := by decide +kernel
theorem d_Le_expand_67 : decode b_Le_expand 67 = .ok (.getfield 35, 3) := by decide +kernel
theorem d_Le_expand_70 : decode b_Le_expand 70 = .ok (.iload_n 1, 1) := by decide +kernel
theorem d_Le_expand_71 : decode b_Le_expand 71 = .ok (.invokevirtual 96, 3) := by decide +kernel
theorem d_Le_expand_74 : decode b_Le_expand 74 = .ok (.invokevirtual 99, 3) := by decide +kernel
theorem d_Le_expand_77 : decode b_Le_expand 77 = .ok (.istore_n 2, 1) := by decide +kernel
theorem d_Le_expand_78 : decode b_Le_expand 78 = .ok (.iload_n 2, 1) := by decide +kernel
theorem d_Le_expand_79 : decode b_Le_expand 79 = .ok (.ifCond .le 17, 3) := by decide +kernel
theorem d_Le_expand_82 : decode b_Le_expand 82 = .ok (.aload_n 0, 1) := by decide +kernel
theorem d_Le_expand_83 : decode b_Le_expand 83 = .ok (.iload_n 1, 1) := by decide +kernel
theorem d_Le_expand_84 : decode b_Le_expand 84 = .ok (.aload_n 0, 1) := by decide +kernel
theorem d_Le_expand_85 : decode b_Le_expand 85 = .ok (.getfield 35, 3) := by decide +kernel
theorem d_Le_expand_88 : decode b_Le_expand 88 = .ok (.iload_n 1, 1) := by decide +kernel
theorem d_Le_expand_89 : decode b_Le_expand 89 = .ok (.invokevirtual 102, 3) := by decide +kernel
theorem d_Le_expand_92 : decode b_Le_expand 92 = .ok (.iconst 1, 1) := by decide +kernel
theorem d_Le_expand_93 : decode b_Le_expand 93 = .ok (.invokevirtual 105, 3) := by decide +kernel
theorem d_Le_expand_96 : decode b_Le_expand 96 = .ok (.iload_n 2, 1) := by decide +kernel
theorem d_Le_expand_97 : decode b_Le_expand 97 = .ok (.iconst 1, 1) := by decide +kernel
theorem d_Le_expand_98 : decode b_Le_expand 98 = .ok (.if_icmp .le 17, 3) := by decide +kernel
theorem d_Le_expand_101 : decode b_Le_expand 101 = .ok (.aload_n 0, 1) := by decide +kernel
theorem d_Le_expand_102 : decode b_Le_expand 102 = .ok (.iload_n 1, 1) := by decide +kernel
theorem d_Le_expand_103 : decode b_Le_expand 103 = .ok (.aload_n 0, 1) := by decide +kernel
theorem d_Le_expand_104 : decode b_Le_expand 104 = .ok (.getfield 35, 3) := by decide +kernel
theorem d_Le_expand_107 : decode b_Le_expand 107 = .ok (.iload_n 1, 1) := by decide +kernel
theorem d_Le_expand_108 : decode b_Le_expand 108 = .ok (.invokevirtual 109, 3) := by decide +kernel
theorem d_Le_expand_111 : decode b_Le_expand 111 = .ok (.iconst 0, 1) := by decide +kernel
theorem d_Le_expand_112 : decode b_Le_expand 112 = .ok (.invokevirtual 105, 3) := by decide +kernel
theorem d_Le_expand_115 : decode b_Le_expand 115 = .ok (.return_, 1) := by decide +kernel
abbrev b_Le_levelOf : ByteArray := prog_4_method_2_code
def y_Le_levelOf : MethodName := ⟨R_Le, "levelOf", "(II)I"⟩
theorem k_Le_levelOf : kV y_Le_levelOf b_Le_levelOf 7 (some .int) 2 := ⟨gmem (List.mem_append_right _ (List.mem_of_getElem? (i := 711) (by decide +kernel))) (by decide +kernel), gmem (List.mem_append_right _ (List.mem_of_getElem? (i := 712) (by decide +kernel))) (by decide +kernel), in_Le, gmem (List.mem_append_right _ (List.mem_of_getElem? (i := 713) (by decide +kernel))) (by decide +kernel), by decide, by decide, by decide +kernel⟩
theorem d_Le_levelOf_0 : decode b_Le_levelOf 0 = .ok (.aload_n 0, 1) := by decide +kernel
theorem d_Le_levelOf_1 : decode b_Le_levelOf 1 = .ok (.getfield 35, 3) := by decide +kernel
theorem d_Le_levelOf_4 : decode b_Le_levelOf 4 = .ok (.invokevirtual 43, 3) := by decide +kernel
theorem d_Le_levelOf_7 : decode b_Le_levelOf 7 = .ok (.istore_n 3, 1) := by decide +kernel
theorem d_Le_levelOf_8 : decode b_Le_levelOf 8 = .ok (.aload_n 0, 1) := by decide +kernel
theorem d_Le_levelOf_9 : decode b_Le_levelOf 9 = .ok (.iload_n 1, 1) := by decide +kernel
theorem d_Le_levelOf_10 : decode b_Le_levelOf 10 = .ok (.invokevirtual 49, 3) := by decide +kernel
theorem d_Le_levelOf_13 : decode b_Le_levelOf 13 = .ok (.iconst 0, 1) := by decide +kernel
theorem d_Le_levelOf_14 : decode b_Le_levelOf 14 = .ok (.istore 4, 2) := by decide +kernel
theorem d_Le_levelOf_16 : decode b_Le_levelOf 16 = .ok (.iload 4, 2) := by decide +kernel
theorem d_Le_levelOf_18 : decode b_Le_levelOf 18 = .ok (.sipush 400, 3) := by decide +kernel
theorem d_Le_levelOf_21 : decode b_Le_levelOf 21 = .ok (.if_icmp .ge 90, 3) := by decide +kernel
theorem d_Le_levelOf_24 : decode b_Le_levelOf 24 = .ok (.aload_n 0, 1) := by decide +kernel
theorem d_Le_levelOf_25 : decode b_Le_levelOf 25 = .ok (.getfield 53, 3) := by decide +kernel
theorem d_Le_levelOf_28 : decode b_Le_levelOf 28 = .ok (.sipush 400, 3) := by decide +kernel
theorem d_Le_levelOf_31 : decode b_Le_levelOf 31 = .ok (.if_icmp .gt 80, 3) := by decide +kernel
theorem d_Le_levelOf_34 : decode b_Le_levelOf 34 = .ok (.aload_n 0, 1) := by decide +kernel
theorem d_Le_levelOf_35 : decode b_Le_levelOf 35 = .ok (.getfield 22, 3) := by decide +kernel
theorem d_Le_levelOf_38 : decode b_Le_levelOf 38 = .ok (.iload_n 2, 1) := by decide +kernel
theorem d_Le_levelOf_39 : decode b_Le_levelOf 39 = .ok (.invokestatic 57, 3) := by decide +kernel
theorem d_Le_levelOf_42 : decode b_Le_levelOf 42 = .ok (.ifCond .ne 69, 3) := by decide +kernel
theorem d_Le_levelOf_45 : decode b_Le_levelOf 45 = .ok (.aload_n 0, 1) := by decide +kernel
theorem d_Le_levelOf_46 : decode b_Le_levelOf 46 = .ok (.invokevirtual 61, 3) := by decide +kernel
theorem d_Le_levelOf_49 : decode b_Le_levelOf 49 = .ok (.istore 5, 2) := by decide +kernel
theorem d_Le_levelOf_51 : decode b_Le_levelOf 51 = .ok (.iconst 0, 1) := by decide +kernel
theorem d_Le_levelOf_52 : decode b_Le_levelOf 52 = .ok (.istore 6, 2) := by decide +kernel
theorem d_Le_levelOf_54 : decode b_Le_levelOf 54 = .ok (.iload 6, 2) := by decide +kernel
theorem d_Le_levelOf_56 : decode b_Le_levelOf 56 = .ok (.iload 5, 2) := by decide +kernel
theorem d_Le_levelOf_58 : decode b_Le_levelOf 58 = .ok (.if_icmp .ge 43, 3) := by decide +kernel
theorem d_Le_levelOf_61 : decode b_Le_levelOf 61 = .ok (.aload_n 0, 1) := by decide +kernel
theorem d_Le_levelOf_62 : decode b_Le_levelOf 62 = .ok (.getfield 53, 3) := by decide +kernel
theorem d_Le_levelOf_65 : decode b_Le_levelOf 65 = .ok (.sipush 400, 3) := by decide +kernel
theorem d_Le_levelOf_68 : decode b_Le_levelOf 68 = .ok (.if_icmp .gt 33, 3) := by decide +kernel
theorem d_Le_levelOf_71 : decode b_Le_levelOf 71 = .ok (.aload_n 0, 1) := by decide +kernel
theorem d_Le_levelOf_72 : decode b_Le_levelOf 72 = .ok (.aload_n 0, 1) := by decide +kernel
theorem d_Le_levelOf_73 : decode b_Le_levelOf 73 = .ok (.getfield 31, 3) := by decide +kernel
theorem d_Le_levelOf_76 : decode b_Le_levelOf 76 = .ok (.iload 6, 2) := by decide +kernel
theorem d_Le_levelOf_78 : decode b_Le_levelOf 78 = .ok (.iaload, 1) := by decide +kernel
theorem d_Le_levelOf_79 : decode b_Le_levelOf 79 = .ok (.invokevirtual 64, 3) := by decide +kernel
theorem d_Le_levelOf_82 : decode b_Le_levelOf 82 = .ok (.aload_n 0, 1) := by decide +kernel
theorem d_Le_levelOf_83 : decode b_Le_levelOf 83 = .ok (.getfield 19, 3) := by decide +kernel
theorem d_Le_levelOf_86 : decode b_Le_levelOf 86 = .ok (.aload_n 0, 1) := by decide +kernel
theorem d_Le_levelOf_87 : decode b_Le_levelOf 87 = .ok (.getfield 31, 3) := by decide +kernel
theorem d_Le_levelOf_90 : decode b_Le_levelOf 90 = .ok (.iload 6, 2) := by decide +kernel
theorem d_Le_levelOf_92 : decode b_Le_levelOf 92 = .ok (.iaload, 1) := by decide +kernel
theorem d_Le_levelOf_93 : decode b_Le_levelOf 93 = .ok (.iconst 1, 1) := by decide +kernel
theorem d_Le_levelOf_94 : decode b_Le_levelOf 94 = .ok (.bastore, 1) := by decide +kernel
theorem d_Le_levelOf_95 : decode b_Le_levelOf 95 = .ok (.iinc 6 1, 3) := by decide +kernel
theorem d_Le_levelOf_98 : decode b_Le_levelOf 98 = .ok (.goto (-44), 3) := by decide +kernel
theorem d_Le_levelOf_101 : decode b_Le_levelOf 101 = .ok (.aload_n 0, 1) := by decide +kernel
theorem d_Le_levelOf_102 : decode b_Le_levelOf 102 = .ok (.invokevirtual 67, 3) := by decide +kernel
theorem d_Le_levelOf_105 : decode b_Le_levelOf 105 = .ok (.iinc 4 1, 3) := by decide +kernel
theorem d_Le_levelOf_108 : decode b_Le_levelOf 108 = .ok (.goto (-92), 3) := by decide +kernel
theorem d_Le_levelOf_111 : decode b_Le_levelOf 111 = .ok (.aload_n 0, 1) := by decide +kernel
theorem d_Le_levelOf_112 : decode b_Le_levelOf 112 = .ok (.getfield 35, 3) := by decide +kernel
theorem d_Le_levelOf_115 : decode b_Le_levelOf 115 = .ok (.iload_n 3, 1) := by decide +kernel
theorem d_Le_levelOf_116 : decode b_Le_levelOf 116 = .ok (.invokevirtual 70, 3) := by decide +kernel
theorem d_Le_levelOf_119 : decode b_Le_levelOf 119 = .ok (.aload_n 0, 1) := by decide +kernel
theorem d_Le_levelOf_120 : decode b_Le_levelOf 120 = .ok (.getfield 53, 3) := by decide +kernel
theorem d_Le_levelOf_123 : decode b_Le_levelOf 123 = .ok (.sipush 400, 3) := by decide +kernel
theorem d_Le_levelOf_126 : decode b_Le_levelOf 126 = .ok (.if_icmp .gt 19, 3) := by decide +kernel
theorem d_Le_levelOf_129 : decode b_Le_levelOf 129 = .ok (.aload_n 0, 1) := by decide +kernel
theorem d_Le_levelOf_130 : decode b_Le_levelOf 130 = .ok (.getfield 22, 3) := by decide +kernel
theorem d_Le_levelOf_133 : decode b_Le_levelOf 133 = .ok (.iload_n 2, 1) := by decide +kernel
theorem d_Le_levelOf_134 : decode b_Le_levelOf 134 = .ok (.invokestatic 57, 3) := by decide +kernel
theorem d_Le_levelOf_137 : decode b_Le_levelOf 137 = .ok (.ifCond .eq 8, 3) := by decide +kernel
theorem d_Le_levelOf_140 : decode b_Le_levelOf 140 = .ok (.iload 4, 2) := by decide +kernel
theorem d_Le_levelOf_142 : decode b_Le_levelOf 142 = .ok (.goto 5, 3) := by decide +kernel
theorem d_Le_levelOf_145 : decode b_Le_levelOf 145 = .ok (.bipush (-2), 2) := by decide +kernel
theorem d_Le_levelOf_147 : decode b_Le_levelOf 147 = .ok (.ireturn, 1) := by decide +kernel
theorem st_min : Cond.static Lib.Math.min.name ∈ gtbl := gmem (List.mem_append_right _ (List.mem_of_getElem? (i := 33) (by decide +kernel))) (by decide +kernel)
theorem co_min : Cond.code Lib.Math.min.name Lib.Math.min.code 2 (some .int) ∈ gtbl := gmem (List.mem_append_right _ (List.mem_of_getElem? (i := 34) (by decide +kernel))) (by decide +kernel)
theorem st_minl : Cond.static Lib.MathLoose.min_long.x ∈ gtbl := gmem (List.mem_append_right _ (List.mem_of_getElem? (i := 295) (by decide +kernel))) (by decide +kernel)
theorem co_minl : Cond.code Lib.MathLoose.min_long.x Lib.MathLoose.min_long.code 4 (some .long) ∈ gtbl := gmem (List.mem_append_right _ (List.mem_of_getElem? (i := 296) (by decide +kernel))) (by decide +kernel)
end
section
theorem ml_Sp_67 : Cond.methodLink R_Sp 67 y_Te_count ∈ gtbl := gmem (List.mem_append_right _ (List.mem_of_getElem? (i := 279) (by decide +kernel))) (by decide +kernel)
theorem ml_Sp_42 : Cond.methodLink R_Sp 42 y_Ru_countAt ∈ gtbl := gmem (List.mem_append_right _ (List.mem_of_getElem? (i := 283) (by decide +kernel))) (by decide +kernel)
theorem ml_Sp_48 : Cond.methodLink R_Sp 48 y_Te_firstOf ∈ gtbl := gmem (List.mem_append_right _ (List.mem_of_getElem? (i := 287) (by decide +kernel))) (by decide +kernel)
theorem ml_Sp_53 : Cond.methodLink R_Sp 53 y_Sp_countIn ∈ gtbl := gmem (List.mem_append_right _ (List.mem_of_getElem? (i := 288) (by decide +kernel))) (by decide +kernel)
theorem ml_Sp_57 : Cond.methodLink R_Sp 57 y_Te_secondOf ∈ gtbl := gmem (List.mem_append_right _ (List.mem_of_getElem? (i := 292) (by decide +kernel))) (by decide +kernel)
theorem ml_Sp_31 : Cond.methodLink R_Sp 31 y_Sp_countAll ∈ gtbl := gmem (List.mem_append_right _ (List.mem_of_getElem? (i := 275) (by decide +kernel))) (by decide +kernel)
theorem kn_Sp_34 : Cond.constantLong R_Sp 34 (1000000000 : Int64) ∈ gtbl := gmem (List.mem_append_right _ (List.mem_of_getElem? (i := 293) (by decide +kernel))) (by decide +kernel)
theorem ml_Sp_36 : Cond.methodLink R_Sp 36 Lib.MathLoose.min_long.x ∈ gtbl := gmem (List.mem_append_right _ (List.mem_of_getElem? (i := 294) (by decide +kernel))) (by decide +kernel)
theorem ml_Gr_80 : Cond.methodLink R_Gr 80 y_Te_isMade ∈ gtbl := gmem (List.mem_append_right _ (List.mem_of_getElem? (i := 251) (by decide +kernel))) (by decide +kernel)
theorem ml_Gr_84 : Cond.methodLink R_Gr 84 y_Te_symbolOf ∈ gtbl := gmem (List.mem_append_right _ (List.mem_of_getElem? (i := 255) (by decide +kernel))) (by decide +kernel)
theorem ml_Gr_88 : Cond.methodLink R_Gr 88 y_Te_firstOf ∈ gtbl := gmem (List.mem_append_right _ (List.mem_of_getElem? (i := 259) (by decide +kernel))) (by decide +kernel)
theorem ml_Gr_91 : Cond.methodLink R_Gr 91 y_Te_secondOf ∈ gtbl := gmem (List.mem_append_right _ (List.mem_of_getElem? (i := 263) (by decide +kernel))) (by decide +kernel)
theorem ml_Gr_94 : Cond.methodLink R_Gr 94 y_Te_sizeOf ∈ gtbl := gmem (List.mem_append_right _ (List.mem_of_getElem? (i := 267) (by decide +kernel))) (by decide +kernel)
theorem ml_Gr_97 : Cond.methodLink R_Gr 97 y_Sp_countOf ∈ gtbl := gmem (List.mem_append_right _ (List.mem_of_getElem? (i := 271) (by decide +kernel))) (by decide +kernel)
theorem ml_Gr_104 : Cond.methodLink R_Gr 104 y_Ru_dropLast ∈ gtbl := gmem (List.mem_append_right _ (List.mem_of_getElem? (i := 301) (by decide +kernel))) (by decide +kernel)
theorem ml_Gr_116 : Cond.methodLink R_Gr 116 y_Gr_isState ∈ gtbl := gmem (List.mem_append_right _ (List.mem_of_getElem? (i := 309) (by decide +kernel))) (by decide +kernel)
theorem ml_Gr_119 : Cond.methodLink R_Gr 119 y_Au_setFinal ∈ gtbl := gmem (List.mem_append_right _ (List.mem_of_getElem? (i := 312) (by decide +kernel))) (by decide +kernel)
theorem ml_Gr_158 : Cond.methodLink R_Gr 158 y_Te_count ∈ gtbl := gmem (List.mem_append_right _ (List.mem_of_getElem? (i := 320) (by decide +kernel))) (by decide +kernel)
theorem ml_Gr_162 : Cond.methodLink R_Gr 162 y_Ru_count ∈ gtbl := gmem (List.mem_append_right _ (List.mem_of_getElem? (i := 321) (by decide +kernel))) (by decide +kernel)
theorem ml_Gr_163 : Cond.methodLink R_Gr 163 y_Au_count ∈ gtbl := gmem (List.mem_append_right _ (List.mem_of_getElem? (i := 325) (by decide +kernel))) (by decide +kernel)
theorem ml_Gr_164 : Cond.methodLink R_Gr 164 y_Au_finals ∈ gtbl := gmem (List.mem_append_right _ (List.mem_of_getElem? (i := 329) (by decide +kernel))) (by decide +kernel)
theorem ml_Gr_167 : Cond.methodLink R_Gr 167 y_Te_placesOf ∈ gtbl := gmem (List.mem_append_right _ (List.mem_of_getElem? (i := 333) (by decide +kernel))) (by decide +kernel)
theorem ml_Te_49 : Cond.methodLink R_Te 49 y_Te_isSymbol ∈ gtbl := gmem (List.mem_append_right _ (List.mem_of_getElem? (i := 353) (by decide +kernel))) (by decide +kernel)
theorem ml_Te_53 : Cond.methodLink R_Te 53 y_Te_isMade ∈ gtbl := gmem (List.mem_append_right _ (List.mem_of_getElem? (i := 357) (by decide +kernel))) (by decide +kernel)
theorem ml_Te_63 : Cond.methodLink R_Te 63 y_Te_bucketOf ∈ gtbl := gmem (List.mem_append_right _ (List.mem_of_getElem? (i := 429) (by decide +kernel))) (by decide +kernel)
theorem kn_Te_69 : Cond.constant R_Te 69 (1000000000 : Int32) ∈ gtbl := gmem (List.mem_append_right _ (List.mem_of_getElem? (i := 440) (by decide +kernel))) (by decide +kernel)
theorem ml_Te_33 : Cond.methodLink R_Te 33 Lib.Math.min.name ∈ gtbl := gmem (List.mem_append_right _ (List.mem_of_getElem? (i := 32) (by decide +kernel))) (by decide +kernel)
theorem ml_Te_66 : Cond.methodLink R_Te 66 y_Te_joinedSize ∈ gtbl := gmem (List.mem_append_right _ (List.mem_of_getElem? (i := 436) (by decide +kernel))) (by decide +kernel)
theorem ml_Te_56 : Cond.methodLink R_Te 56 y_Te_find ∈ gtbl := gmem (List.mem_append_right _ (List.mem_of_getElem? (i := 425) (by decide +kernel))) (by decide +kernel)
theorem ml_Te_60 : Cond.methodLink R_Te 60 y_Te_append ∈ gtbl := gmem (List.mem_append_right _ (List.mem_of_getElem? (i := 432) (by decide +kernel))) (by decide +kernel)
theorem ml_Au_38 : Cond.methodLink R_Au 38 y_Te_isSymbol ∈ gtbl := gmem (List.mem_append_right _ (List.mem_of_getElem? (i := 478) (by decide +kernel))) (by decide +kernel)
theorem ml_Au_47 : Cond.methodLink R_Au 47 y_Te_placesOf ∈ gtbl := gmem (List.mem_append_right _ (List.mem_of_getElem? (i := 480) (by decide +kernel))) (by decide +kernel)
theorem ml_Au_51 : Cond.methodLink R_Au 51 y_Ar_fillI ∈ gtbl := gmem (List.mem_append_right _ (List.mem_of_getElem? (i := 657) (by decide +kernel))) (by decide +kernel)
theorem ml_Au_57 : Cond.methodLink R_Au 57 y_Au_lighten ∈ gtbl := gmem (List.mem_append_right _ (List.mem_of_getElem? (i := 658) (by decide +kernel))) (by decide +kernel)
theorem ml_Re_55 : Cond.methodLink R_Re 55 y_Re_isIn ∈ gtbl := gmem (List.mem_append_right _ (List.mem_of_getElem? (i := 522) (by decide +kernel))) (by decide +kernel)
theorem ml_Re_91 : Cond.methodLink R_Re 91 y_Te_symbolOf ∈ gtbl := gmem (List.mem_append_right _ (List.mem_of_getElem? (i := 533) (by decide +kernel))) (by decide +kernel)
theorem ml_Re_94 : Cond.methodLink R_Re 94 y_Te_placesOf ∈ gtbl := gmem (List.mem_append_right _ (List.mem_of_getElem? (i := 534) (by decide +kernel))) (by decide +kernel)
theorem ml_Re_97 : Cond.methodLink R_Re 97 y_Te_firstOf ∈ gtbl := gmem (List.mem_append_right _ (List.mem_of_getElem? (i := 535) (by decide +kernel))) (by decide +kernel)
theorem ml_Re_100 : Cond.methodLink R_Re 100 y_Te_secondOf ∈ gtbl := gmem (List.mem_append_right _ (List.mem_of_getElem? (i := 536) (by decide +kernel))) (by decide +kernel)
theorem ml_Re_88 : Cond.methodLink R_Re 88 y_Re_partsRelated ∈ gtbl := gmem (List.mem_append_right _ (List.mem_of_getElem? (i := 529) (by decide +kernel))) (by decide +kernel)
theorem ml_Re_37 : Cond.methodLink R_Re 37 y_Te_count ∈ gtbl := gmem (List.mem_append_right _ (List.mem_of_getElem? (i := 500) (by decide +kernel))) (by decide +kernel)
theorem ml_Re_70 : Cond.methodLink R_Re 70 y_Ru_count ∈ gtbl := gmem (List.mem_append_right _ (List.mem_of_getElem? (i := 509) (by decide +kernel))) (by decide +kernel)
theorem ml_Re_71 : Cond.methodLink R_Re 71 y_Ru_leftOf ∈ gtbl := gmem (List.mem_append_right _ (List.mem_of_getElem? (i := 510) (by decide +kernel))) (by decide +kernel)
theorem ml_Re_74 : Cond.methodLink R_Re 74 y_Ru_rightOf ∈ gtbl := gmem (List.mem_append_right _ (List.mem_of_getElem? (i := 514) (by decide +kernel))) (by decide +kernel)
theorem ml_Re_77 : Cond.methodLink R_Re 77 y_Re_chain ∈ gtbl := gmem (List.mem_append_right _ (List.mem_of_getElem? (i := 518) (by decide +kernel))) (by decide +kernel)
theorem ml_Re_81 : Cond.methodLink R_Re 81 y_Re_liftFromParts ∈ gtbl := gmem (List.mem_append_right _ (List.mem_of_getElem? (i := 525) (by decide +kernel))) (by decide +kernel)
theorem ml_Re_43 : Cond.methodLink R_Re 43 y_Ru_changes ∈ gtbl := gmem (List.mem_append_right _ (List.mem_of_getElem? (i := 501) (by decide +kernel))) (by decide +kernel)
theorem ml_Re_52 : Cond.methodLink R_Re 52 y_Re_findReached ∈ gtbl := gmem (List.mem_append_right _ (List.mem_of_getElem? (i := 505) (by decide +kernel))) (by decide +kernel)
theorem ml_Re_85 : Cond.methodLink R_Re 85 y_Re_inheritJoined ∈ gtbl := gmem (List.mem_append_right _ (List.mem_of_getElem? (i := 556) (by decide +kernel))) (by decide +kernel)
theorem ml_Re_59 : Cond.methodLink R_Re 59 y_Re_findJoined ∈ gtbl := gmem (List.mem_append_right _ (List.mem_of_getElem? (i := 552) (by decide +kernel))) (by decide +kernel)
theorem kn_Re_106 : Cond.constant R_Re 106 (1000000000 : Int32) ∈ gtbl := gmem (List.mem_append_right _ (List.mem_of_getElem? (i := 644) (by decide +kernel))) (by decide +kernel)
theorem ml_Re_107 : Cond.methodLink R_Re 107 Lib.Math.min.name ∈ gtbl := gmem (List.mem_append_right _ (List.mem_of_getElem? (i := 645) (by decide +kernel))) (by decide +kernel)
theorem ml_Re_103 : Cond.methodLink R_Re 103 y_Re_sizeWithLeastParts ∈ gtbl := gmem (List.mem_append_right _ (List.mem_of_getElem? (i := 640) (by decide +kernel))) (by decide +kernel)
theorem ml_Re_62 : Cond.methodLink R_Re 62 y_Te_sizeOf ∈ gtbl := gmem (List.mem_append_right _ (List.mem_of_getElem? (i := 635) (by decide +kernel))) (by decide +kernel)
theorem ml_Re_66 : Cond.methodLink R_Re 66 y_Re_shrink ∈ gtbl := gmem (List.mem_append_right _ (List.mem_of_getElem? (i := 636) (by decide +kernel))) (by decide +kernel)
theorem ml_La_45 : Cond.methodLink R_La 45 y_Te_count ∈ gtbl := gmem (List.mem_append_right _ (List.mem_of_getElem? (i := 576) (by decide +kernel))) (by decide +kernel)
theorem ml_La_51 : Cond.methodLink R_La 51 y_Te_symbolOf ∈ gtbl := gmem (List.mem_append_right _ (List.mem_of_getElem? (i := 577) (by decide +kernel))) (by decide +kernel)
theorem ml_La_55 : Cond.methodLink R_La 55 y_Te_placesOf ∈ gtbl := gmem (List.mem_append_right _ (List.mem_of_getElem? (i := 578) (by decide +kernel))) (by decide +kernel)
theorem ml_La_58 : Cond.methodLink R_La 58 y_Te_firstOf ∈ gtbl := gmem (List.mem_append_right _ (List.mem_of_getElem? (i := 579) (by decide +kernel))) (by decide +kernel)
theorem ml_La_61 : Cond.methodLink R_La 61 y_Te_secondOf ∈ gtbl := gmem (List.mem_append_right _ (List.mem_of_getElem? (i := 580) (by decide +kernel))) (by decide +kernel)
theorem ml_La_64 : Cond.methodLink R_La 64 y_Au_targetsOf ∈ gtbl := gmem (List.mem_append_right _ (List.mem_of_getElem? (i := 581) (by decide +kernel))) (by decide +kernel)
theorem ml_La_70 : Cond.methodLink R_La 70 y_La_addStates ∈ gtbl := gmem (List.mem_append_right _ (List.mem_of_getElem? (i := 585) (by decide +kernel))) (by decide +kernel)
theorem ml_La_27 : Cond.methodLink R_La 27 y_Ar_fillI ∈ gtbl := gmem (List.mem_append_right _ (List.mem_of_getElem? (i := 571) (by decide +kernel))) (by decide +kernel)
theorem ml_La_33 : Cond.methodLink R_La 33 y_La_runFromParts ∈ gtbl := gmem (List.mem_append_right _ (List.mem_of_getElem? (i := 572) (by decide +kernel))) (by decide +kernel)
theorem ml_La_74 : Cond.methodLink R_La 74 y_Re_leads ∈ gtbl := gmem (List.mem_append_right _ (List.mem_of_getElem? (i := 612) (by decide +kernel))) (by decide +kernel)
theorem ml_La_41 : Cond.methodLink R_La 41 y_La_passOn ∈ gtbl := gmem (List.mem_append_right _ (List.mem_of_getElem? (i := 608) (by decide +kernel))) (by decide +kernel)
theorem ml_La_37 : Cond.methodLink R_La 37 y_La_spread ∈ gtbl := gmem (List.mem_append_right _ (List.mem_of_getElem? (i := 604) (by decide +kernel))) (by decide +kernel)
theorem ml_Sp_71 : Cond.methodLink R_Sp 71 y_Te_symbolOf ∈ gtbl := gmem (List.mem_append_right _ (List.mem_of_getElem? (i := 697) (by decide +kernel))) (by decide +kernel)
theorem ml_Sp_74 : Cond.methodLink R_Sp 74 y_Te_findOrAppend ∈ gtbl := gmem (List.mem_append_right _ (List.mem_of_getElem? (i := 698) (by decide +kernel))) (by decide +kernel)
theorem ml_Sp_78 : Cond.methodLink R_Sp 78 y_Te_keepFirst ∈ gtbl := gmem (List.mem_append_right _ (List.mem_of_getElem? (i := 699) (by decide +kernel))) (by decide +kernel)
theorem ml_Sp_60 : Cond.methodLink R_Sp 60 y_Ru_rightAt ∈ gtbl := gmem (List.mem_append_right _ (List.mem_of_getElem? (i := 689) (by decide +kernel))) (by decide +kernel)
theorem ml_Sp_64 : Cond.methodLink R_Sp 64 y_Sp_rebuild ∈ gtbl := gmem (List.mem_append_right _ (List.mem_of_getElem? (i := 693) (by decide +kernel))) (by decide +kernel)
theorem ml_Le_96 : Cond.methodLink R_Le 96 y_Te_symbolOf ∈ gtbl := gmem (List.mem_append_right _ (List.mem_of_getElem? (i := 726) (by decide +kernel))) (by decide +kernel)
theorem ml_Le_99 : Cond.methodLink R_Le 99 y_Te_placesOf ∈ gtbl := gmem (List.mem_append_right _ (List.mem_of_getElem? (i := 727) (by decide +kernel))) (by decide +kernel)
theorem ml_Le_102 : Cond.methodLink R_Le 102 y_Te_firstOf ∈ gtbl := gmem (List.mem_append_right _ (List.mem_of_getElem? (i := 728) (by decide +kernel))) (by decide +kernel)
theorem ml_Le_109 : Cond.methodLink R_Le 109 y_Te_secondOf ∈ gtbl := gmem (List.mem_append_right _ (List.mem_of_getElem? (i := 729) (by decide +kernel))) (by decide +kernel)
theorem ml_Le_73 : Cond.methodLink R_Le 73 y_Ar_fillJ ∈ gtbl := gmem (List.mem_append_right _ (List.mem_of_getElem? (i := 719) (by decide +kernel))) (by decide +kernel)
theorem ml_Le_79 : Cond.methodLink R_Le 79 y_Le_countWithParts ∈ gtbl := gmem (List.mem_append_right _ (List.mem_of_getElem? (i := 722) (by decide +kernel))) (by decide +kernel)
theorem ml_Le_82 : Cond.methodLink R_Le 82 y_Le_include ∈ gtbl := gmem (List.mem_append_right _ (List.mem_of_getElem? (i := 730) (by decide +kernel))) (by decide +kernel)
theorem ml_Le_43 : Cond.methodLink R_Le 43 y_Te_count ∈ gtbl := gmem (List.mem_append_right _ (List.mem_of_getElem? (i := 714) (by decide +kernel))) (by decide +kernel)
theorem ml_Le_57 : Cond.methodLink R_Le 57 y_Le_isIn ∈ gtbl := gmem (List.mem_append_right _ (List.mem_of_getElem? (i := 733) (by decide +kernel))) (by decide +kernel)
theorem kn_Le_122 : Cond.constantLong R_Le 122 (-1 : Int64) ∈ gtbl := gmem (List.mem_append_right _ (List.mem_of_getElem? (i := 761) (by decide +kernel))) (by decide +kernel)
theorem ml_Le_116 : Cond.methodLink R_Le 116 y_Te_find ∈ gtbl := gmem (List.mem_append_right _ (List.mem_of_getElem? (i := 755) (by decide +kernel))) (by decide +kernel)
theorem ml_Le_119 : Cond.methodLink R_Le 119 y_Te_append ∈ gtbl := gmem (List.mem_append_right _ (List.mem_of_getElem? (i := 756) (by decide +kernel))) (by decide +kernel)
theorem ml_Le_112 : Cond.methodLink R_Le 112 y_Le_findCounted ∈ gtbl := gmem (List.mem_append_right _ (List.mem_of_getElem? (i := 751) (by decide +kernel))) (by decide +kernel)
theorem ml_Le_86 : Cond.methodLink R_Le 86 y_Ru_count ∈ gtbl := gmem (List.mem_append_right _ (List.mem_of_getElem? (i := 744) (by decide +kernel))) (by decide +kernel)
theorem ml_Le_89 : Cond.methodLink R_Le 89 y_Ru_leftOf ∈ gtbl := gmem (List.mem_append_right _ (List.mem_of_getElem? (i := 745) (by decide +kernel))) (by decide +kernel)
theorem ml_Le_93 : Cond.methodLink R_Le 93 y_Ru_rightOf ∈ gtbl := gmem (List.mem_append_right _ (List.mem_of_getElem? (i := 746) (by decide +kernel))) (by decide +kernel)
theorem ml_Le_105 : Cond.methodLink R_Le 105 y_Le_stepInPart ∈ gtbl := gmem (List.mem_append_right _ (List.mem_of_getElem? (i := 747) (by decide +kernel))) (by decide +kernel)
theorem ml_Le_49 : Cond.methodLink R_Le 49 y_Le_start ∈ gtbl := gmem (List.mem_append_right _ (List.mem_of_getElem? (i := 715) (by decide +kernel))) (by decide +kernel)
theorem ml_Le_61 : Cond.methodLink R_Le 61 y_Le_findWaiting ∈ gtbl := gmem (List.mem_append_right _ (List.mem_of_getElem? (i := 736) (by decide +kernel))) (by decide +kernel)
theorem ml_Le_64 : Cond.methodLink R_Le 64 y_Le_expand ∈ gtbl := gmem (List.mem_append_right _ (List.mem_of_getElem? (i := 740) (by decide +kernel))) (by decide +kernel)
theorem ml_Le_67 : Cond.methodLink R_Le 67 y_Le_goOn ∈ gtbl := gmem (List.mem_append_right _ (List.mem_of_getElem? (i := 757) (by decide +kernel))) (by decide +kernel)
theorem ml_Le_70 : Cond.methodLink R_Le 70 y_Te_keepFirst ∈ gtbl := gmem (List.mem_append_right _ (List.mem_of_getElem? (i := 762) (by decide +kernel))) (by decide +kernel)
end
section
abbrev rm_Te_isMade : Room := { frames := 0, cells := 0, slots := 0, locals := 0 }
def p_Te_isMade (x1 : Int32) (te : Te) (Q : Int32 → Prop) : Prop :=
  ((x1 < 0 → Q (0 : Int32)) ∧
    (¬ x1 < 0 → (((Te_count te) ≤ x1 → Q (0 : Int32)) ∧
      (¬ (Te_count te) ≤ x1 → Q (1 : Int32)))))

abbrev rm_Te_count : Room := { frames := 0, cells := 0, slots := 0, locals := 0 }
def p_Te_count  (te : Te) (Q : Int32 → Prop) : Prop :=
  Q (Te_count te)

abbrev rm_Ru_countAt : Room := { frames := 0, cells := 0, slots := 0, locals := 0 }
def p_Ru_countAt_4 (x1 : Int32) (ru : Ru) (Q : Int32 → Prop) : Nat → Int32 → Int32 → Prop
  | 0, _, _ => False
  | n + 1, x2, x3 => (((Ru_count ru) ≤ x3 → Q x2) ∧
    (¬ (Ru_count ru) ≤ x3 → (vp_in x3 8 ∧ ((¬ (Ru_left ru x3.toNatClampNeg) = x1 → p_Ru_countAt_4 x1 ru Q n x2 (x3 + (1 : Int32))) ∧
      ((Ru_left ru x3.toNatClampNeg) = x1 → p_Ru_countAt_4 x1 ru Q n (x2 + (1 : Int32)) (x3 + (1 : Int32)))))))
def p_Ru_countAt (x1 : Int32) (ru : Ru) (Q : Int32 → Prop) : Prop :=
  (∃ f, p_Ru_countAt_4 x1 ru Q f (0 : Int32) (0 : Int32))

abbrev rm_Te_firstOf : Room := { frames := 0, cells := 0, slots := 0, locals := 0 }
def p_Te_firstOf (x1 : Int32) (te : Te) (Q : Int32 → Prop) : Prop :=
  (vp_in x1 448 ∧ Q (Te_first te x1.toNatClampNeg))

abbrev rm_Sp_countIn : Room := { frames := 0, cells := 0, slots := 0, locals := 0 }
def p_Sp_countIn (x1 : Int32) (sp : Sp) (Q : Int64 → Prop) : Prop :=
  ((¬ x1 = (-1 : Int32) → (vp_in x1 48 ∧ Q (Sp_counts sp x1.toNatClampNeg))) ∧
    (x1 = (-1 : Int32) → Q (0 : Int64)))

abbrev rm_Te_secondOf : Room := { frames := 0, cells := 0, slots := 0, locals := 0 }
def p_Te_secondOf (x1 : Int32) (te : Te) (Q : Int32 → Prop) : Prop :=
  (vp_in x1 448 ∧ Q (Te_second te x1.toNatClampNeg))

abbrev rm_Sp_countAll : Room := { frames := 1, cells := 0, slots := 0, locals := 23 }
def p_Sp_countAll_2 (te : Te) (ru : Ru) (Q : Sp → Prop) : Nat → Int32 → Sp → Prop
  | 0, _, _ => False
  | n + 1, x1, sp => p_Te_count te (fun r7 => ((r7 ≤ x1 → Q sp) ∧
    (¬ r7 ≤ x1 → p_Ru_countAt x1 ru (fun r23 => p_Te_firstOf x1 te (fun r33 => p_Sp_countIn r33 sp (fun r36 => p_Te_secondOf x1 te (fun r46 => p_Sp_countIn r46 sp (fun r49 => (vp_in x1 48 ∧ ∀ sp53 : Sp, sp53 = Sp_counts_s sp (vp_updL (Sp_counts sp) x1.toNatClampNeg ((r23.toInt64 + r36) + r49)) → p_Sp_countAll_2 te ru Q n (x1 + (1 : Int32)) sp53)))))))))
def p_Sp_countAll  (te : Te) (ru : Ru) (sp : Sp) (Q : Sp → Prop) : Prop :=
  (∃ f, p_Sp_countAll_2 te ru Q f (0 : Int32) sp)

abbrev rm_Sp_countOf : Room := { frames := 2, cells := 0, slots := 0, locals := 44 }
def p_Sp_countOf (x1 : Int32) (te : Te) (ru : Ru) (sp : Sp) (Q : Int32 → Sp → Prop) : Prop :=
  p_Sp_countAll te ru sp (fun sp1 => (vp_in x1 48 ∧ Q ((if Sp_counts sp1 x1.toNatClampNeg < (1000000000 : Int64) then Sp_counts sp1 x1.toNatClampNeg else (1000000000 : Int64)).toInt32) sp1))

abbrev rm_Te_sizeOf : Room := { frames := 0, cells := 0, slots := 0, locals := 0 }
def p_Te_sizeOf (x1 : Int32) (te : Te) (Q : Int32 → Prop) : Prop :=
  (vp_in x1 448 ∧ Q (Te_size te x1.toNatClampNeg))

abbrev rm_Te_symbolOf : Room := { frames := 0, cells := 0, slots := 0, locals := 0 }
def p_Te_symbolOf (x1 : Int32) (te : Te) (Q : Int32 → Prop) : Prop :=
  (vp_in x1 448 ∧ Q (Te_symbol te x1.toNatClampNeg))

abbrev rm_Gr_of : Room := { frames := 3, cells := 0, slots := 0, locals := 65 }
def p_Gr_of (x1 : Int32) (x2 : Int32) (te : Te) (ru : Ru) (sp : Sp) (Q : Int32 → Sp → Prop) : Prop :=
  p_Te_isMade x1 te (fun r5 => ((¬ r5 = 0 → (((x2).toInt < 0 ∨ (4 : Int) < (x2).toInt → Q (-1 : Int32) sp) ∧
      (x2 = nI 0 → p_Te_symbolOf x1 te (fun r53 => Q r53 sp)) ∧
      (x2 = nI 1 → p_Te_firstOf x1 te (fun r62 => Q r62 sp)) ∧
      (x2 = nI 2 → p_Te_secondOf x1 te (fun r71 => Q r71 sp)) ∧
      (x2 = nI 3 → p_Te_sizeOf x1 te (fun r80 => Q r80 sp)) ∧
      (x2 = nI 4 → p_Sp_countOf x1 te ru sp (fun r89 sp89 => Q r89 sp89)))) ∧
    (r5 = 0 → Q (-1 : Int32) sp)))

abbrev rm_Ru_dropLast : Room := { frames := 0, cells := 0, slots := 0, locals := 0 }
def p_Ru_dropLast  (ru : Ru) (Q : Int32 → Ru → Prop) : Prop :=
  ((¬ (Ru_count ru) = 0 → (∀ ru16 : Ru, ru16 = Ru_count_s ru ((Ru_count ru) - (1 : Int32)) → (∀ ru26 : Ru, ru26 = Ru_changes_s ru16 ((Ru_changes ru16) + (1 : Int32)) → Q (1 : Int32) ru26))) ∧
    ((Ru_count ru) = 0 → Q (0 : Int32) ru))

abbrev rm_Gr_cut : Room := { frames := 1, cells := 0, slots := 0, locals := 20 }
def p_Gr_cut  (ru : Ru) (Q : Int32 → Ru → Prop) : Prop :=
  p_Ru_dropLast ru (fun r4 ru4 => (isB r4 ∧ Q r4 ru4))

abbrev rm_Gr_isState : Room := { frames := 0, cells := 0, slots := 0, locals := 0 }
def p_Gr_isState (x0 : Int32)  (Q : Int32 → Prop) : Prop :=
  ((x0 < 0 → Q (0 : Int32)) ∧
    (¬ x0 < 0 → (((6 : Int32) ≤ x0 → Q (0 : Int32)) ∧
      (¬ (6 : Int32) ≤ x0 → Q (1 : Int32)))))

abbrev rm_Au_setFinal : Room := { frames := 0, cells := 0, slots := 0, locals := 0 }
def p_Au_setFinal_25 (x1 : Int32) (x2 : Int32) (Q : Int32 → Au → Prop) (y0 : Int32) (au : Au) : Prop :=
  ((¬ y0 = (Au_finals au) → (∀ au38 : Au, au38 = Au_finals_s au y0 → Q (1 : Int32) au38)) ∧
    (y0 = (Au_finals au) → Q (0 : Int32) au))
def p_Au_setFinal (x1 : Int32) (x2 : Int32) (au : Au) (Q : Int32 → Au → Prop) : Prop :=
  ((x2 = 0 → p_Au_setFinal_25 x1 x2 Q ((Au_finals au) &&& (((1 : Int32) <<< (x1 &&& 31)) ^^^ (-1 : Int32))) au) ∧
    (¬ x2 = 0 → p_Au_setFinal_25 x1 x2 Q ((Au_finals au) ||| ((1 : Int32) <<< (x1 &&& 31))) au))

abbrev rm_Gr_mark : Room := { frames := 1, cells := 0, slots := 0, locals := 23 }
def p_Gr_mark (x1 : Int32) (x2 : Int32) (au : Au) (Q : Int32 → Au → Prop) : Prop :=
  p_Gr_isState x1 (fun r1 => ((r1 = 0 → Q (0 : Int32) au) ∧
    (¬ r1 = 0 → p_Au_setFinal x1 x2 au (fun r13 au13 => ((r13 = 0 → Q (0 : Int32) au13) ∧
      (¬ r13 = 0 → Q (1 : Int32) au13))))))

abbrev rm_Te_placesOf : Room := { frames := 0, cells := 0, slots := 0, locals := 0 }
def p_Te_placesOf (x1 : Int32) (te : Te) (Q : Int32 → Prop) : Prop :=
  (vp_in x1 6 ∧ Q (Te_places te x1.toNatClampNeg))

abbrev rm_Au_finals : Room := { frames := 0, cells := 0, slots := 0, locals := 0 }
def p_Au_finals  (au : Au) (Q : Int32 → Prop) : Prop :=
  Q (Au_finals au)

abbrev rm_Au_count : Room := { frames := 0, cells := 0, slots := 0, locals := 0 }
def p_Au_count  (au : Au) (Q : Int32 → Prop) : Prop :=
  Q (Au_count au)

abbrev rm_Ru_count : Room := { frames := 0, cells := 0, slots := 0, locals := 0 }
def p_Ru_count  (ru : Ru) (Q : Int32 → Prop) : Prop :=
  Q (Ru_count ru)

abbrev rm_Gr_look : Room := { frames := 1, cells := 0, slots := 0, locals := 21 }
def p_Gr_look (x1 : Int32) (te : Te) (ru : Ru) (au : Au) (Q : Int32 → Prop) : Prop :=
  (((x1).toInt < 0 ∨ (3 : Int) < (x1).toInt → ((x1 < (4 : Int32) → Q (-1 : Int32)) ∧
      (¬ x1 < (4 : Int32) → (((10 : Int32) ≤ x1 → Q (-1 : Int32)) ∧
        (¬ (10 : Int32) ≤ x1 → p_Te_placesOf (x1 - (4 : Int32)) te (fun r82 => Q r82)))))) ∧
    (x1 = nI 0 → p_Te_count te (fun r36 => Q r36)) ∧
    (x1 = nI 1 → p_Ru_count ru (fun r44 => Q r44)) ∧
    (x1 = nI 2 → p_Au_count au (fun r52 => Q r52)) ∧
    (x1 = nI 3 → p_Au_finals au (fun r60 => Q r60)))

abbrev rm_Te_isSymbol : Room := { frames := 0, cells := 0, slots := 0, locals := 0 }
def p_Te_isSymbol (x1 : Int32)  (Q : Int32 → Prop) : Prop :=
  ((x1 < 0 → Q (0 : Int32)) ∧
    (¬ x1 < 0 → (((6 : Int32) ≤ x1 → Q (0 : Int32)) ∧
      (¬ (6 : Int32) ≤ x1 → Q (1 : Int32)))))

abbrev rm_Te_canStand : Room := { frames := 1, cells := 0, slots := 0, locals := 21 }
def p_Te_canStand_44 (x1 : Int32) (x2 : Int32) (x3 : Int32) (te : Te) (Q : Int32 → Prop)  : Prop :=
  Q (1 : Int32)
def p_Te_canStand_26 (x1 : Int32) (x2 : Int32) (x3 : Int32) (te : Te) (Q : Int32 → Prop)  : Prop :=
  (vp_in x1 6 ∧ (((Te_places te x1.toNatClampNeg) < (2 : Int32) → p_Te_canStand_44 x1 x2 x3 te Q) ∧
    (¬ (Te_places te x1.toNatClampNeg) < (2 : Int32) → p_Te_isMade x3 te (fun r38 => ((r38 = 0 → Q (0 : Int32)) ∧
      (¬ r38 = 0 → p_Te_canStand_44 x1 x2 x3 te Q))))))
def p_Te_canStand (x1 : Int32) (x2 : Int32) (x3 : Int32) (te : Te) (Q : Int32 → Prop) : Prop :=
  p_Te_isSymbol x1 (fun r2 => ((r2 = 0 → Q (0 : Int32)) ∧
    (¬ r2 = 0 → (vp_in x1 6 ∧ (((Te_places te x1.toNatClampNeg) < (1 : Int32) → p_Te_canStand_26 x1 x2 x3 te Q) ∧
      (¬ (Te_places te x1.toNatClampNeg) < (1 : Int32) → p_Te_isMade x2 te (fun r20 => ((r20 = 0 → Q (0 : Int32)) ∧
        (¬ r20 = 0 → p_Te_canStand_26 x1 x2 x3 te Q)))))))))

abbrev rm_Te_bucketOf : Room := { frames := 0, cells := 0, slots := 0, locals := 0 }
def p_Te_bucketOf (x0 : Int32) (x1 : Int32) (x2 : Int32)  (Q : Int32 → Prop) : Prop :=
  Q ((((x0 * (961 : Int32)) + (x1 * (31 : Int32))) + x2) &&& (255 : Int32))

abbrev rm_Te_find : Room := { frames := 1, cells := 0, slots := 0, locals := 22 }
def p_Te_find_104 (x1 : Int32) (x2 : Int32) (x3 : Int32) (te : Te) (Q : Int32 → Prop) (k52 : Int32 → Int32 → Int32 → Int32 → Prop) (x4 : Int32) (x5 : Int32) (x6 : Int32) (x7 : Int32) : Prop :=
  (vp_in x6 448 ∧ k52 x4 x5 (Te_olderInBucket te x6.toNatClampNeg) (x7 + (1 : Int32)))
def p_Te_find_52 (x1 : Int32) (x2 : Int32) (x3 : Int32) (te : Te) (Q : Int32 → Prop) : Nat → Int32 → Int32 → Int32 → Int32 → Prop
  | 0, _, _, _, _ => False
  | n + 1, x4, x5, x6, x7 => (((448 : Int32) ≤ x7 → Q (-1 : Int32)) ∧
    (¬ (448 : Int32) ≤ x7 → ((x6 = (-1 : Int32) → Q (-1 : Int32)) ∧
      (¬ x6 = (-1 : Int32) → (vp_in x6 448 ∧ ((¬ (Te_symbol te x6.toNatClampNeg) = x1 → p_Te_find_104 x1 x2 x3 te Q (fun a0 a1 a2 a3 => p_Te_find_52 x1 x2 x3 te Q n a0 a1 a2 a3) x4 x5 x6 x7) ∧
        ((Te_symbol te x6.toNatClampNeg) = x1 → (vp_in x6 448 ∧ ((¬ (Te_first te x6.toNatClampNeg) = x4 → p_Te_find_104 x1 x2 x3 te Q (fun a0 a1 a2 a3 => p_Te_find_52 x1 x2 x3 te Q n a0 a1 a2 a3) x4 x5 x6 x7) ∧
          ((Te_first te x6.toNatClampNeg) = x4 → (vp_in x6 448 ∧ ((¬ (Te_second te x6.toNatClampNeg) = x5 → p_Te_find_104 x1 x2 x3 te Q (fun a0 a1 a2 a3 => p_Te_find_52 x1 x2 x3 te Q n a0 a1 a2 a3) x4 x5 x6 x7) ∧
            ((Te_second te x6.toNatClampNeg) = x5 → Q x6)))))))))))))
def p_Te_find_32 (x1 : Int32) (x2 : Int32) (x3 : Int32) (te : Te) (Q : Int32 → Prop) (x4 : Int32) (y0 : Int32) : Prop :=
  p_Te_bucketOf x1 x4 y0 (fun r43 => (vp_in r43 256 ∧ (∃ f, p_Te_find_52 x1 x2 x3 te Q f x4 y0 (Te_newestIn te r43.toNatClampNeg) (0 : Int32))))
def p_Te_find_15 (x1 : Int32) (x2 : Int32) (x3 : Int32) (te : Te) (Q : Int32 → Prop) (y0 : Int32) : Prop :=
  (vp_in x1 6 ∧ (((2 : Int32) ≤ (Te_places te x1.toNatClampNeg) → p_Te_find_32 x1 x2 x3 te Q y0 x3) ∧
    (¬ (2 : Int32) ≤ (Te_places te x1.toNatClampNeg) → p_Te_find_32 x1 x2 x3 te Q y0 (-1 : Int32))))
def p_Te_find (x1 : Int32) (x2 : Int32) (x3 : Int32) (te : Te) (Q : Int32 → Prop) : Prop :=
  (vp_in x1 6 ∧ (((1 : Int32) ≤ (Te_places te x1.toNatClampNeg) → p_Te_find_15 x1 x2 x3 te Q x2) ∧
    (¬ (1 : Int32) ≤ (Te_places te x1.toNatClampNeg) → p_Te_find_15 x1 x2 x3 te Q (-1 : Int32))))

abbrev rm_Te_joinedSize : Room := { frames := 1, cells := 0, slots := 0, locals := 21 }
def p_Te_joinedSize_40 (x1 : Int32) (x2 : Int32) (x3 : Int32) (te : Te) (Q : Int32 → Prop) (y0 : Int32) (y1 : Int32) : Prop :=
  Q (if (1 : Int32) + (y1 + y0) < (1000000000 : Int32) then (1 : Int32) + (y1 + y0) else (1000000000 : Int32))
def p_Te_joinedSize_20 (x1 : Int32) (x2 : Int32) (x3 : Int32) (te : Te) (Q : Int32 → Prop) (y0 : Int32) : Prop :=
  (vp_in x1 6 ∧ (((2 : Int32) ≤ (Te_places te x1.toNatClampNeg) → (vp_in x3 448 ∧ p_Te_joinedSize_40 x1 x2 x3 te Q (Te_size te x3.toNatClampNeg) y0)) ∧
    (¬ (2 : Int32) ≤ (Te_places te x1.toNatClampNeg) → p_Te_joinedSize_40 x1 x2 x3 te Q (0 : Int32) y0)))
def p_Te_joinedSize (x1 : Int32) (x2 : Int32) (x3 : Int32) (te : Te) (Q : Int32 → Prop) : Prop :=
  (vp_in x1 6 ∧ (((1 : Int32) ≤ (Te_places te x1.toNatClampNeg) → (vp_in x2 448 ∧ p_Te_joinedSize_20 x1 x2 x3 te Q (Te_size te x2.toNatClampNeg))) ∧
    (¬ (1 : Int32) ≤ (Te_places te x1.toNatClampNeg) → p_Te_joinedSize_20 x1 x2 x3 te Q (0 : Int32))))

abbrev rm_Te_append : Room := { frames := 2, cells := 0, slots := 0, locals := 45 }
def p_Te_append_76 (x1 : Int32) (x2 : Int32) (x3 : Int32) (Q : Int32 → Te → Prop) (x4 : Int32) (y0 : Int32) (y1 : Int32) (te : Te) : Prop :=
  (vp_in y1 448 ∧ ∀ te76 : Te, te76 = Te_second_s te (upd (Te_second te) y1.toNatClampNeg y0) → (vp_in x4 448 ∧ (vp_in x4 448 ∧ p_Te_joinedSize x1 (Te_first te76 x4.toNatClampNeg) (Te_second te76 x4.toNatClampNeg) te76 (fun r99 => (vp_in x4 448 ∧ ∀ te102 : Te, te102 = Te_size_s te76 (upd (Te_size te76) x4.toNatClampNeg r99) → (vp_in x4 448 ∧ (vp_in x4 448 ∧ p_Te_bucketOf x1 (Te_first te102 x4.toNatClampNeg) (Te_second te102 x4.toNatClampNeg) (fun r118 => (vp_in r118 256 ∧ (vp_in x4 448 ∧ ∀ te136 : Te, te136 = Te_olderInBucket_s te102 (upd (Te_olderInBucket te102) x4.toNatClampNeg (Te_newestIn te102 r118.toNatClampNeg)) → (vp_in r118 256 ∧ ∀ te145 : Te, te145 = Te_newestIn_s te136 (upd (Te_newestIn te136) r118.toNatClampNeg x4) → Q x4 te145)))))))))))
def p_Te_append_54 (x1 : Int32) (x2 : Int32) (x3 : Int32) (Q : Int32 → Te → Prop) (x4 : Int32) (y0 : Int32) (y1 : Int32) (te : Te) : Prop :=
  (vp_in y1 448 ∧ ∀ te54 : Te, te54 = Te_first_s te (upd (Te_first te) y1.toNatClampNeg y0) → (vp_in x1 6 ∧ (((2 : Int32) ≤ (Te_places te54 x1.toNatClampNeg) → p_Te_append_76 x1 x2 x3 Q x4 x3 x4 te54) ∧
    (¬ (2 : Int32) ≤ (Te_places te54 x1.toNatClampNeg) → p_Te_append_76 x1 x2 x3 Q x4 (-1 : Int32) x4 te54))))
def p_Te_append (x1 : Int32) (x2 : Int32) (x3 : Int32) (te : Te) (Q : Int32 → Te → Prop) : Prop :=
  (((Te_count te) < (448 : Int32) → (∀ te20 : Te, te20 = Te_count_s te ((Te_count te) + (1 : Int32)) → (vp_in (Te_count te) 448 ∧ ∀ te32 : Te, te32 = Te_symbol_s te20 (upd (Te_symbol te20) (Te_count te).toNatClampNeg x1) → (vp_in x1 6 ∧ (((1 : Int32) ≤ (Te_places te32 x1.toNatClampNeg) → p_Te_append_54 x1 x2 x3 Q (Te_count te) x2 (Te_count te) te32) ∧
      (¬ (1 : Int32) ≤ (Te_places te32 x1.toNatClampNeg) → p_Te_append_54 x1 x2 x3 Q (Te_count te) (-1 : Int32) (Te_count te) te32)))))) ∧
    (¬ (Te_count te) < (448 : Int32) → Q (-1 : Int32) te))

abbrev rm_Te_findOrAppend : Room := { frames := 3, cells := 0, slots := 0, locals := 70 }
def p_Te_findOrAppend_24 (x1 : Int32) (x2 : Int32) (x3 : Int32) (Q : Int32 → Te → Prop) (x4 : Int32) (te : Te) : Prop :=
  Q x4 te
def p_Te_findOrAppend (x1 : Int32) (x2 : Int32) (x3 : Int32) (te : Te) (Q : Int32 → Te → Prop) : Prop :=
  p_Te_find x1 x2 x3 te (fun r4 => ((¬ r4 = (-1 : Int32) → p_Te_findOrAppend_24 x1 x2 x3 Q r4 te) ∧
    (r4 = (-1 : Int32) → (((Te_count te) < (48 : Int32) → p_Te_append x1 x2 x3 te (fun r33 te33 => Q r33 te33)) ∧
      (¬ (Te_count te) < (48 : Int32) → p_Te_findOrAppend_24 x1 x2 x3 Q r4 te)))))

abbrev rm_Te_keepFirst : Room := { frames := 1, cells := 0, slots := 0, locals := 22 }
def p_Te_keepFirst_0 (x1 : Int32) (Q : Te → Prop) : Nat → Te → Prop
  | 0, _ => False
  | n + 1, te => (((Te_count te) ≤ x1 → Q te) ∧
    (¬ (Te_count te) ≤ x1 → (∀ te15 : Te, te15 = Te_count_s te ((Te_count te) - (1 : Int32)) → (vp_in (Te_count te15) 448 ∧ (vp_in (Te_count te15) 448 ∧ (vp_in (Te_count te15) 448 ∧ p_Te_bucketOf (Te_symbol te15 (Te_count te15).toNatClampNeg) (Te_first te15 (Te_count te15).toNatClampNeg) (Te_second te15 (Te_count te15).toNatClampNeg) (fun r49 => (vp_in (Te_count te15) 448 ∧ (vp_in r49 256 ∧ ∀ te61 : Te, te61 = Te_newestIn_s te15 (upd (Te_newestIn te15) r49.toNatClampNeg (Te_olderInBucket te15 (Te_count te15).toNatClampNeg)) → p_Te_keepFirst_0 x1 Q n te61)))))))))
def p_Te_keepFirst (x1 : Int32) (te : Te) (Q : Te → Prop) : Prop :=
  (∃ f, p_Te_keepFirst_0 x1 Q f te)

abbrev rm_Ru_changes : Room := { frames := 0, cells := 0, slots := 0, locals := 0 }
def p_Ru_changes  (ru : Ru) (Q : Int32 → Prop) : Prop :=
  Q (Ru_changes ru)

abbrev rm_Ru_leftOf : Room := { frames := 0, cells := 0, slots := 0, locals := 0 }
def p_Ru_leftOf (x1 : Int32) (ru : Ru) (Q : Int32 → Prop) : Prop :=
  (vp_in x1 8 ∧ Q (Ru_left ru x1.toNatClampNeg))

abbrev rm_Ru_rightOf : Room := { frames := 0, cells := 0, slots := 0, locals := 0 }
def p_Ru_rightOf (x1 : Int32) (ru : Ru) (Q : Int32 → Prop) : Prop :=
  (vp_in x1 8 ∧ Q (Ru_right ru x1.toNatClampNeg))

abbrev rm_Ru_append : Room := { frames := 0, cells := 0, slots := 0, locals := 0 }
def p_Ru_append (x1 : Int32) (x2 : Int32) (ru : Ru) (Q : Int32 → Ru → Prop) : Prop :=
  (((Ru_count ru) < (8 : Int32) → (vp_in (Ru_count ru) 8 ∧ ∀ ru20 : Ru, ru20 = Ru_left_s ru (upd (Ru_left ru) (Ru_count ru).toNatClampNeg x1) → (vp_in (Ru_count ru20) 8 ∧ ∀ ru30 : Ru, ru30 = Ru_right_s ru20 (upd (Ru_right ru20) (Ru_count ru20).toNatClampNeg x2) → (∀ ru38 : Ru, ru38 = Ru_changes_s ru30 ((Ru_changes ru30) + (1 : Int32)) → (∀ ru49 : Ru, ru49 = Ru_count_s ru38 ((Ru_count ru38) + (1 : Int32)) → Q (Ru_count ru38) ru49))))) ∧
    (¬ (Ru_count ru) < (8 : Int32) → Q (-1 : Int32) ru))

abbrev rm_Ru_rightAt : Room := { frames := 0, cells := 0, slots := 0, locals := 0 }
def p_Ru_rightAt_5 (x1 : Int32) (x2 : Int32) (ru : Ru) (Q : Int32 → Prop) : Nat → Int32 → Int32 → Prop
  | 0, _, _ => False
  | n + 1, x3, x4 => (((Ru_count ru) ≤ x4 → Q (-1 : Int32)) ∧
    (¬ (Ru_count ru) ≤ x4 → (vp_in x4 8 ∧ (((Ru_left ru x4.toNatClampNeg) = x1 → ((¬ x3 = x2 → p_Ru_rightAt_5 x1 x2 ru Q n (x3 + (1 : Int32)) (x4 + (1 : Int32))) ∧
        (x3 = x2 → (vp_in x4 8 ∧ Q (Ru_right ru x4.toNatClampNeg))))) ∧
      (¬ (Ru_left ru x4.toNatClampNeg) = x1 → p_Ru_rightAt_5 x1 x2 ru Q n x3 (x4 + (1 : Int32)))))))
def p_Ru_rightAt (x1 : Int32) (x2 : Int32) (ru : Ru) (Q : Int32 → Prop) : Prop :=
  (∃ f, p_Ru_rightAt_5 x1 x2 ru Q f (0 : Int32) (0 : Int32))

abbrev rm_Au_anyFinal : Room := { frames := 0, cells := 0, slots := 0, locals := 0 }
def p_Au_anyFinal (x1 : Int32) (au : Au) (Q : Int32 → Prop) : Prop :=
  (((x1 &&& (Au_finals au)) = 0 → Q (0 : Int32)) ∧
    (¬ (x1 &&& (Au_finals au)) = 0 → Q (1 : Int32)))

abbrev rm_Au_canStand : Room := { frames := 1, cells := 0, slots := 0, locals := 21 }
def p_Au_canStand_57 (x1 : Int32) (x2 : Int32) (x3 : Int32) (x4 : Int32) (te : Te) (Q : Int32 → Prop)  : Prop :=
  Q (1 : Int32)
def p_Au_canStand_38 (x1 : Int32) (x2 : Int32) (x3 : Int32) (x4 : Int32) (te : Te) (Q : Int32 → Prop)  : Prop :=
  p_Te_placesOf x1 te (fun r43 => ((r43 < (2 : Int32) → p_Au_canStand_57 x1 x2 x3 x4 te Q) ∧
    (¬ r43 < (2 : Int32) → p_Gr_isState x3 (fun r51 => ((r51 = 0 → Q (0 : Int32)) ∧
      (¬ r51 = 0 → p_Au_canStand_57 x1 x2 x3 x4 te Q))))))
def p_Au_canStand (x1 : Int32) (x2 : Int32) (x3 : Int32) (x4 : Int32) (te : Te) (Q : Int32 → Prop) : Prop :=
  p_Te_isSymbol x1 (fun r5 => ((r5 = 0 → Q (0 : Int32)) ∧
    (¬ r5 = 0 → p_Gr_isState x4 (fun r13 => ((r13 = 0 → Q (0 : Int32)) ∧
      (¬ r13 = 0 → p_Te_placesOf x1 te (fun r24 => ((r24 < (1 : Int32) → p_Au_canStand_38 x1 x2 x3 x4 te Q) ∧
        (¬ r24 < (1 : Int32) → p_Gr_isState x2 (fun r32 => ((r32 = 0 → Q (0 : Int32)) ∧
          (¬ r32 = 0 → p_Au_canStand_38 x1 x2 x3 x4 te Q))))))))))))

abbrev rm_Au_holds : Room := { frames := 1, cells := 0, slots := 0, locals := 21 }
def p_Au_holds_58 (x1 : Int32) (x2 : Int32) (x3 : Int32) (x4 : Int32) (te : Te) (au : Au) (Q : Int32 → Prop) (k3 : Int32 → Prop) (x5 : Int32) : Prop :=
  p_Te_placesOf x1 te (fun r63 => ((r63 < (2 : Int32) → Q (1 : Int32)) ∧
    (¬ r63 < (2 : Int32) → (vp_in x5 20 ∧ ((¬ (Au_second au x5.toNatClampNeg) = x3 → k3 (x5 + (1 : Int32))) ∧
      ((Au_second au x5.toNatClampNeg) = x3 → Q (1 : Int32)))))))
def p_Au_holds_3 (x1 : Int32) (x2 : Int32) (x3 : Int32) (x4 : Int32) (te : Te) (au : Au) (Q : Int32 → Prop) : Nat → Int32 → Prop
  | 0, _ => False
  | n + 1, x5 => (((Au_count au) ≤ x5 → Q (0 : Int32)) ∧
    (¬ (Au_count au) ≤ x5 → (vp_in x5 20 ∧ ((¬ (Au_symbol au x5.toNatClampNeg) = x1 → p_Au_holds_3 x1 x2 x3 x4 te au Q n (x5 + (1 : Int32))) ∧
      ((Au_symbol au x5.toNatClampNeg) = x1 → (vp_in x5 20 ∧ ((¬ (Au_target au x5.toNatClampNeg) = x4 → p_Au_holds_3 x1 x2 x3 x4 te au Q n (x5 + (1 : Int32))) ∧
        ((Au_target au x5.toNatClampNeg) = x4 → p_Te_placesOf x1 te (fun r40 => ((r40 < (1 : Int32) → p_Au_holds_58 x1 x2 x3 x4 te au Q (fun a0 => p_Au_holds_3 x1 x2 x3 x4 te au Q n a0) x5) ∧
          (¬ r40 < (1 : Int32) → (vp_in x5 20 ∧ ((¬ (Au_first au x5.toNatClampNeg) = x2 → p_Au_holds_3 x1 x2 x3 x4 te au Q n (x5 + (1 : Int32))) ∧
            ((Au_first au x5.toNatClampNeg) = x2 → p_Au_holds_58 x1 x2 x3 x4 te au Q (fun a0 => p_Au_holds_3 x1 x2 x3 x4 te au Q n a0) x5))))))))))))))
def p_Au_holds (x1 : Int32) (x2 : Int32) (x3 : Int32) (x4 : Int32) (te : Te) (au : Au) (Q : Int32 → Prop) : Prop :=
  (∃ f, p_Au_holds_3 x1 x2 x3 x4 te au Q f (0 : Int32))

abbrev rm_Au_append : Room := { frames := 1, cells := 0, slots := 0, locals := 21 }
def p_Au_append_72 (x1 : Int32) (x2 : Int32) (x3 : Int32) (x4 : Int32) (te : Te) (Q : Int32 → Au → Prop) (y0 : Int32) (y1 : Int32) (au : Au) : Prop :=
  (vp_in y1 20 ∧ ∀ au72 : Au, au72 = Au_second_s au (upd (Au_second au) y1.toNatClampNeg y0) → (vp_in (Au_count au72) 20 ∧ ∀ au83 : Au, au83 = Au_target_s au72 (upd (Au_target au72) (Au_count au72).toNatClampNeg x4) → (∀ au91 : Au, au91 = Au_count_s au83 ((Au_count au83) + (1 : Int32)) → Q (1 : Int32) au91)))
def p_Au_append_46 (x1 : Int32) (x2 : Int32) (x3 : Int32) (x4 : Int32) (te : Te) (Q : Int32 → Au → Prop) (y0 : Int32) (y1 : Int32) (au : Au) : Prop :=
  (vp_in y1 20 ∧ ∀ au46 : Au, au46 = Au_first_s au (upd (Au_first au) y1.toNatClampNeg y0) → p_Te_placesOf x1 te (fun r60 => (((2 : Int32) ≤ r60 → p_Au_append_72 x1 x2 x3 x4 te Q x3 (Au_count au46) au46) ∧
    (¬ (2 : Int32) ≤ r60 → p_Au_append_72 x1 x2 x3 x4 te Q (0 : Int32) (Au_count au46) au46))))
def p_Au_append (x1 : Int32) (x2 : Int32) (x3 : Int32) (x4 : Int32) (te : Te) (au : Au) (Q : Int32 → Au → Prop) : Prop :=
  (((Au_count au) < (20 : Int32) → (vp_in (Au_count au) 20 ∧ ∀ au20 : Au, au20 = Au_symbol_s au (upd (Au_symbol au) (Au_count au).toNatClampNeg x1) → p_Te_placesOf x1 te (fun r34 => (((1 : Int32) ≤ r34 → p_Au_append_46 x1 x2 x3 x4 te Q x2 (Au_count au20) au20) ∧
      (¬ (1 : Int32) ≤ r34 → p_Au_append_46 x1 x2 x3 x4 te Q (0 : Int32) (Au_count au20) au20))))) ∧
    (¬ (Au_count au) < (20 : Int32) → Q (0 : Int32) au))

abbrev rm_Au_targetsOf : Room := { frames := 0, cells := 0, slots := 0, locals := 0 }
def p_Au_targetsOf_6 (x1 : Int32) (x2 : Int32) (x3 : Int32) (au : Au) (Q : Int32 → Prop) : Nat → Int32 → Int32 → Prop
  | 0, _, _ => False
  | n + 1, x4, x5 => (((Au_count au) ≤ x5 → Q x4) ∧
    (¬ (Au_count au) ≤ x5 → (vp_in x5 20 ∧ ((¬ (Au_symbol au x5.toNatClampNeg) = x1 → p_Au_targetsOf_6 x1 x2 x3 au Q n x4 (x5 + (1 : Int32))) ∧
      ((Au_symbol au x5.toNatClampNeg) = x1 → (vp_in x5 20 ∧ ((((x2 >>> ((Au_first au x5.toNatClampNeg) &&& 31)) &&& (1 : Int32)) = 0 → p_Au_targetsOf_6 x1 x2 x3 au Q n x4 (x5 + (1 : Int32))) ∧
        (¬ ((x2 >>> ((Au_first au x5.toNatClampNeg) &&& 31)) &&& (1 : Int32)) = 0 → (vp_in x5 20 ∧ ((((x3 >>> ((Au_second au x5.toNatClampNeg) &&& 31)) &&& (1 : Int32)) = 0 → p_Au_targetsOf_6 x1 x2 x3 au Q n x4 (x5 + (1 : Int32))) ∧
          (¬ ((x3 >>> ((Au_second au x5.toNatClampNeg) &&& 31)) &&& (1 : Int32)) = 0 → (vp_in x5 20 ∧ p_Au_targetsOf_6 x1 x2 x3 au Q n (x4 ||| ((1 : Int32) <<< ((Au_target au x5.toNatClampNeg) &&& 31))) (x5 + (1 : Int32))))))))))))))
def p_Au_targetsOf (x1 : Int32) (x2 : Int32) (x3 : Int32) (au : Au) (Q : Int32 → Prop) : Prop :=
  (∃ f, p_Au_targetsOf_6 x1 x2 x3 au Q f (0 : Int32) (0 : Int32))

abbrev rm_Ar_fillI_weight : Room := { frames := 0, cells := 0, slots := 0, locals := 0 }
def p_Ar_fillI_weight_5 (x1 : Int32) (Q : Au → Prop) : Nat → Int32 → Int32 → Au → Prop
  | 0, _, _, _ => False
  | n + 1, x2, x3, au => ((x3 ≤ x2 → Q au) ∧
    (¬ x3 ≤ x2 → (vp_in x2 6 ∧ ∀ au13 : Au, au13 = Au_weight_s au (upd (Au_weight au) x2.toNatClampNeg x1) → p_Ar_fillI_weight_5 x1 Q n (x2 + (1 : Int32)) x3 au13)))
def p_Ar_fillI_weight (x1 : Int32) (au : Au) (Q : Au → Prop) : Prop :=
  (∃ f, p_Ar_fillI_weight_5 x1 Q f (0 : Int32) (6 : Int32) au)

abbrev rm_Au_lighten : Room := { frames := 1, cells := 0, slots := 0, locals := 21 }
def p_Au_lighten_106 (x1 : Int32) (te : Te) (Q : Au → Prop) (x2 : Int32) (x3 : Int32) (au : Au) : Prop :=
  (vp_in x1 20 ∧ (vp_in (Au_target au x1.toNatClampNeg) 6 ∧ ∀ au121 : Au, au121 = Au_weight_s au (upd (Au_weight au) (Au_target au x1.toNatClampNeg).toNatClampNeg (((1 : Int32) + x2) + x3)) → Q au121))
def p_Au_lighten_65 (x1 : Int32) (te : Te) (Q : Au → Prop) (x2 : Int32) (y0 : Int32) (au : Au) : Prop :=
  ((x2 = (-1 : Int32) → Q au) ∧
    (¬ x2 = (-1 : Int32) → ((¬ y0 = (-1 : Int32) → (vp_in x1 20 ∧ (vp_in (Au_target au x1.toNatClampNeg) 6 ∧ (((Au_weight au (Au_target au x1.toNatClampNeg).toNatClampNeg) = (-1 : Int32) → p_Au_lighten_106 x1 te Q x2 y0 au) ∧
        (¬ (Au_weight au (Au_target au x1.toNatClampNeg).toNatClampNeg) = (-1 : Int32) → (((Au_weight au (Au_target au x1.toNatClampNeg).toNatClampNeg) ≤ (((1 : Int32) + x2) + y0) → Q au) ∧
          (¬ (Au_weight au (Au_target au x1.toNatClampNeg).toNatClampNeg) ≤ (((1 : Int32) + x2) + y0) → p_Au_lighten_106 x1 te Q x2 y0 au))))))) ∧
      (y0 = (-1 : Int32) → Q au))))
def p_Au_lighten_32 (x1 : Int32) (te : Te) (Q : Au → Prop) (y0 : Int32) (au : Au) : Prop :=
  (vp_in x1 20 ∧ p_Te_placesOf (Au_symbol au x1.toNatClampNeg) te (fun r43 => (((2 : Int32) ≤ r43 → (vp_in x1 20 ∧ (vp_in (Au_second au x1.toNatClampNeg) 6 ∧ p_Au_lighten_65 x1 te Q y0 (Au_weight au (Au_second au x1.toNatClampNeg).toNatClampNeg) au))) ∧
    (¬ (2 : Int32) ≤ r43 → p_Au_lighten_65 x1 te Q y0 (0 : Int32) au))))
def p_Au_lighten (x1 : Int32) (te : Te) (au : Au) (Q : Au → Prop) : Prop :=
  (vp_in x1 20 ∧ p_Te_placesOf (Au_symbol au x1.toNatClampNeg) te (fun r10 => (((1 : Int32) ≤ r10 → (vp_in x1 20 ∧ (vp_in (Au_first au x1.toNatClampNeg) 6 ∧ p_Au_lighten_32 x1 te Q (Au_weight au (Au_first au x1.toNatClampNeg).toNatClampNeg) au))) ∧
    (¬ (1 : Int32) ≤ r10 → p_Au_lighten_32 x1 te Q (0 : Int32) au))))

abbrev rm_Au_leastSize : Room := { frames := 2, cells := 0, slots := 0, locals := 45 }
def p_Au_leastSize_18 (x1 : Int32) (te : Te) (Q : Int32 → Au → Prop) (k10 : Int32 → Au → Prop) : Nat → Int32 → Int32 → Au → Prop
  | 0, _, _, _ => False
  | n + 1, x2, x3, au => (((Au_count au) ≤ x3 → k10 (x2 + (1 : Int32)) au) ∧
    (¬ (Au_count au) ≤ x3 → p_Au_lighten x3 te au (fun au28 => p_Au_leastSize_18 x1 te Q k10 n x2 (x3 + (1 : Int32)) au28)))
def p_Au_leastSize_10 (x1 : Int32) (te : Te) (Q : Int32 → Au → Prop) : Nat → Int32 → Au → Prop
  | 0, _, _ => False
  | n + 1, x2, au => (((6 : Int32) ≤ x2 → (vp_in x1 6 ∧ Q (Au_weight au x1.toNatClampNeg) au)) ∧
    (¬ (6 : Int32) ≤ x2 → (∃ f, p_Au_leastSize_18 x1 te Q (fun a0 a1 => p_Au_leastSize_10 x1 te Q n a0 a1) f x2 (0 : Int32) au)))
def p_Au_leastSize (x1 : Int32) (te : Te) (au : Au) (Q : Int32 → Au → Prop) : Prop :=
  p_Ar_fillI_weight (-1 : Int32) au (fun au5 => (∃ f, p_Au_leastSize_10 x1 te Q f (0 : Int32) au5))

abbrev rm_Re_isIn_reached : Room := { frames := 0, cells := 0, slots := 0, locals := 0 }
def p_Re_isIn_reached (x1 : Int32) (x2 : Int32) (re : Re) (Q : Int32 → Prop) : Prop :=
  (vp_in x1 48 ∧ (((lg_cmp (((Re_reached re x1.toNatClampNeg) >>> (x2.toInt64 &&& 63)) &&& (1 : Int64)) (0 : Int64)) = 0 → Q (0 : Int32)) ∧
    (¬ (lg_cmp (((Re_reached re x1.toNatClampNeg) >>> (x2.toInt64 &&& 63)) &&& (1 : Int64)) (0 : Int64)) = 0 → Q (1 : Int32))))

abbrev rm_Re_chain : Room := { frames := 1, cells := 0, slots := 0, locals := 22 }
def p_Re_chain_9 (x1 : Int32) (Q : Re → Prop) (k2 : Int32 → Re → Prop) : Nat → Int32 → Int32 → Re → Prop
  | 0, _, _, _ => False
  | n + 1, x2, x3, re => ((x1 ≤ x3 → k2 (x2 + (1 : Int32)) re) ∧
    (¬ x1 ≤ x3 → p_Re_isIn_reached x3 x2 re (fun r20 => ((r20 = 0 → p_Re_chain_9 x1 Q k2 n x2 (x3 + (1 : Int32)) re) ∧
      (¬ r20 = 0 → (vp_in x3 48 ∧ (vp_in x2 48 ∧ (vp_in x3 48 ∧ ∀ re40 : Re, re40 = Re_reached_s re (vp_updL (Re_reached re) x3.toNatClampNeg ((Re_reached re x3.toNatClampNeg) ||| (Re_reached re x2.toNatClampNeg))) → p_Re_chain_9 x1 Q k2 n x2 (x3 + (1 : Int32)) re40))))))))
def p_Re_chain_2 (x1 : Int32) (Q : Re → Prop) : Nat → Int32 → Re → Prop
  | 0, _, _ => False
  | n + 1, x2, re => ((x1 ≤ x2 → Q re) ∧
    (¬ x1 ≤ x2 → (∃ f, p_Re_chain_9 x1 Q (fun a0 a1 => p_Re_chain_2 x1 Q n a0 a1) f x2 (0 : Int32) re)))
def p_Re_chain (x1 : Int32) (re : Re) (Q : Re → Prop) : Prop :=
  (∃ f, p_Re_chain_2 x1 Q f (0 : Int32) re)

abbrev rm_Re_partsRelated_reached : Room := { frames := 1, cells := 0, slots := 0, locals := 22 }
def p_Re_partsRelated_reached_96 (x2 : Int32) (x3 : Int32) (te : Te) (re : Re) (Q : Int32 → Prop)  : Prop :=
  Q (1 : Int32)
def p_Re_partsRelated_reached_67 (x2 : Int32) (x3 : Int32) (te : Te) (re : Re) (Q : Int32 → Prop) (x4 : Int32) : Prop :=
  ((x4 < (2 : Int32) → p_Re_partsRelated_reached_96 x2 x3 te re Q) ∧
    (¬ x4 < (2 : Int32) → p_Te_secondOf x2 te (fun r79 => p_Te_secondOf x3 te (fun r87 => p_Re_isIn_reached r79 r87 re (fun r90 => ((r90 = 0 → Q (0 : Int32)) ∧
      (¬ r90 = 0 → p_Re_partsRelated_reached_96 x2 x3 te re Q)))))))
def p_Re_partsRelated_reached (x2 : Int32) (x3 : Int32) (te : Te) (re : Re) (Q : Int32 → Prop) : Prop :=
  p_Te_symbolOf x2 te (fun r5 => p_Te_symbolOf x3 te (fun r13 => ((r5 = r13 → p_Te_symbolOf x2 te (fun r30 => p_Te_placesOf r30 te (fun r33 => ((r33 < (1 : Int32) → p_Re_partsRelated_reached_67 x2 x3 te re Q r33) ∧
      (¬ r33 < (1 : Int32) → p_Te_firstOf x2 te (fun r50 => p_Te_firstOf x3 te (fun r58 => p_Re_isIn_reached r50 r58 re (fun r61 => ((r61 = 0 → Q (0 : Int32)) ∧
        (¬ r61 = 0 → p_Re_partsRelated_reached_67 x2 x3 te re Q r33)))))))))) ∧
    (¬ r5 = r13 → Q (0 : Int32)))))

abbrev rm_Re_liftFromParts_reached : Room := { frames := 2, cells := 0, slots := 0, locals := 46 }
def p_Re_liftFromParts_reached_14 (x2 : Int32) (te : Te) (Q : Int32 → Re → Prop) (k5 : Int32 → Int32 → Re → Prop) : Nat → Int32 → Int32 → Int32 → Re → Prop
  | 0, _, _, _, _ => False
  | n + 1, x3, x4, x5, re => ((x2 ≤ x5 → k5 x3 (x4 + (1 : Int32)) re) ∧
    (¬ x2 ≤ x5 → p_Re_isIn_reached x4 x5 re (fun r25 => ((¬ r25 = 0 → p_Re_liftFromParts_reached_14 x2 te Q k5 n x3 x4 (x5 + (1 : Int32)) re) ∧
      (r25 = 0 → p_Re_partsRelated_reached x4 x5 te re (fun r37 => ((r37 = 0 → p_Re_liftFromParts_reached_14 x2 te Q k5 n x3 x4 (x5 + (1 : Int32)) re) ∧
        (¬ r37 = 0 → (vp_in x4 48 ∧ (vp_in x4 48 ∧ ∀ re53 : Re, re53 = Re_reached_s re (vp_updL (Re_reached re) x4.toNatClampNeg ((Re_reached re x4.toNatClampNeg) ||| ((1 : Int64) <<< (x5.toInt64 &&& 63)))) → p_Re_liftFromParts_reached_14 x2 te Q k5 n (1 : Int32) x4 (x5 + (1 : Int32)) re53))))))))))
def p_Re_liftFromParts_reached_5 (x2 : Int32) (te : Te) (Q : Int32 → Re → Prop) : Nat → Int32 → Int32 → Re → Prop
  | 0, _, _, _ => False
  | n + 1, x3, x4, re => ((x2 ≤ x4 → (isB x3 ∧ Q x3 re)) ∧
    (¬ x2 ≤ x4 → (∃ f, p_Re_liftFromParts_reached_14 x2 te Q (fun a0 a1 a2 => p_Re_liftFromParts_reached_5 x2 te Q n a0 a1 a2) f x3 x4 (0 : Int32) re)))
def p_Re_liftFromParts_reached (x2 : Int32) (te : Te) (re : Re) (Q : Int32 → Re → Prop) : Prop :=
  (∃ f, p_Re_liftFromParts_reached_5 x2 te Q f (0 : Int32) (0 : Int32) re)

abbrev rm_Re_findReached : Room := { frames := 3, cells := 0, slots := 0, locals := 71 }
def p_Re_findReached_79 (te : Te) (ru : Ru) (Q : Re → Prop) : Nat → Int32 → Int32 → Int32 → Re → Prop
  | 0, _, _, _, _ => False
  | n + 1, x1, x2, x3, re => (((2305 : Int32) ≤ x3 → Q re) ∧
    (¬ (2305 : Int32) ≤ x3 → ((x2 = 0 → Q re) ∧
      (¬ x2 = 0 → p_Re_chain x1 re (fun re92 => p_Re_liftFromParts_reached x1 te re92 (fun r101 re101 => p_Re_findReached_79 te ru Q n x1 r101 (x3 + (1 : Int32)) re101))))))
def p_Re_findReached_32 (te : Te) (ru : Ru) (Q : Re → Prop) : Nat → Int32 → Int32 → Re → Prop
  | 0, _, _, _ => False
  | n + 1, x1, x2, re => p_Ru_count ru (fun r37 => ((r37 ≤ x2 → (∃ f, p_Re_findReached_79 te ru Q f x1 (1 : Int32) (0 : Int32) re)) ∧
    (¬ r37 ≤ x2 → p_Ru_leftOf x2 ru (fun r52 => (vp_in r52 48 ∧ p_Ru_rightOf x2 ru (fun r63 => (vp_in r52 48 ∧ ∀ re68 : Re, re68 = Re_reached_s re (vp_updL (Re_reached re) r52.toNatClampNeg ((Re_reached re r52.toNatClampNeg) ||| ((1 : Int64) <<< (r63.toInt64 &&& 63)))) → p_Re_findReached_32 te ru Q n x1 (x2 + (1 : Int32)) re68)))))))
def p_Re_findReached_10 (te : Te) (ru : Ru) (Q : Re → Prop) : Nat → Int32 → Int32 → Re → Prop
  | 0, _, _, _ => False
  | n + 1, x1, x2, re => ((x1 ≤ x2 → (∃ f, p_Re_findReached_32 te ru Q f x1 (0 : Int32) re)) ∧
    (¬ x1 ≤ x2 → (vp_in x2 48 ∧ ∀ re23 : Re, re23 = Re_reached_s re (vp_updL (Re_reached re) x2.toNatClampNeg ((1 : Int64) <<< (x2.toInt64 &&& 63))) → p_Re_findReached_10 te ru Q n x1 (x2 + (1 : Int32)) re23)))
def p_Re_findReached  (te : Te) (ru : Ru) (re : Re) (Q : Re → Prop) : Prop :=
  p_Te_count te (fun r4 => (∃ f, p_Re_findReached_10 te ru Q f r4 (0 : Int32) re))

abbrev rm_Re_renew : Room := { frames := 4, cells := 0, slots := 0, locals := 94 }
def p_Re_renew_29 (te : Te) (ru : Ru) (Q : Re → Prop) (re : Re) : Prop :=
  p_Te_count te (fun r34 => (∀ re37 : Re, re37 = Re_termsThen_s re r34 → p_Ru_changes ru (fun r45 => (∀ re48 : Re, re48 = Re_changesThen_s re37 r45 → (∀ re53 : Re, re53 = Re_joinedKnown_s re48 (0 : Int32) → p_Re_findReached te ru re53 (fun re57 => Q re57))))))
def p_Re_renew  (te : Te) (ru : Ru) (re : Re) (Q : Re → Prop) : Prop :=
  p_Te_count te (fun r8 => ((¬ (Re_termsThen re) = r8 → p_Re_renew_29 te ru Q re) ∧
    ((Re_termsThen re) = r8 → p_Ru_changes ru (fun r22 => ((¬ (Re_changesThen re) = r22 → p_Re_renew_29 te ru Q re) ∧
      ((Re_changesThen re) = r22 → Q re))))))

abbrev rm_Re_leads : Room := { frames := 1, cells := 0, slots := 0, locals := 22 }
def p_Re_leads (x1 : Int32) (x2 : Int32) (re : Re) (Q : Int32 → Prop) : Prop :=
  p_Re_isIn_reached x1 x2 re (fun r6 => (isB r6 ∧ Q r6))

abbrev rm_Re_isIn_joined : Room := { frames := 0, cells := 0, slots := 0, locals := 0 }
def p_Re_isIn_joined (x1 : Int32) (x2 : Int32) (re : Re) (Q : Int32 → Prop) : Prop :=
  (vp_in x1 48 ∧ (((lg_cmp (((Re_joined re x1.toNatClampNeg) >>> (x2.toInt64 &&& 63)) &&& (1 : Int64)) (0 : Int64)) = 0 → Q (0 : Int32)) ∧
    (¬ (lg_cmp (((Re_joined re x1.toNatClampNeg) >>> (x2.toInt64 &&& 63)) &&& (1 : Int64)) (0 : Int64)) = 0 → Q (1 : Int32))))

abbrev rm_Re_inheritJoined : Room := { frames := 1, cells := 0, slots := 0, locals := 22 }
def p_Re_inheritJoined_97 (x1 : Int32) (Q : Int32 → Re → Prop) (k4 : Int32 → Int32 → Re → Prop) (x3 : Int32) (x4 : Int64) (y0 : Int32) (y1 : Int32) (re : Re) : Prop :=
  (vp_in x3 48 ∧ ∀ re106 : Re, re106 = Re_joined_s re (vp_updL (Re_joined re) x3.toNatClampNeg x4) → k4 (y1 ||| y0) (x3 + (1 : Int32)) re106)
def p_Re_inheritJoined_51 (x1 : Int32) (Q : Int32 → Re → Prop) (k4 : Int32 → Int32 → Re → Prop) (k20 : Int32 → Int32 → Int64 → Int32 → Re → Prop) (x2 : Int32) (x3 : Int32) (x4 : Int64) (x6 : Int32) (re : Re) : Prop :=
  p_Re_isIn_joined x6 x3 re (fun r58 => ((r58 = 0 → k20 x2 x3 x4 (x6 + (1 : Int32)) re) ∧
    (¬ r58 = 0 → k20 x2 x3 (x4 ||| ((1 : Int64) <<< (x6.toInt64 &&& 63))) (x6 + (1 : Int32)) re)))
def p_Re_inheritJoined_20 (x1 : Int32) (Q : Int32 → Re → Prop) (k4 : Int32 → Int32 → Re → Prop) : Nat → Int32 → Int32 → Int64 → Int32 → Re → Prop
  | 0, _, _, _, _, _ => False
  | n + 1, x2, x3, x4, x6, re => ((x1 ≤ x6 → (vp_in x3 48 ∧ (((lg_cmp x4 (Re_joined re x3.toNatClampNeg)) = 0 → p_Re_inheritJoined_97 x1 Q k4 x3 x4 (0 : Int32) x2 re) ∧
      (¬ (lg_cmp x4 (Re_joined re x3.toNatClampNeg)) = 0 → p_Re_inheritJoined_97 x1 Q k4 x3 x4 (1 : Int32) x2 re)))) ∧
    (¬ x1 ≤ x6 → p_Re_isIn_reached x3 x6 re (fun r33 => ((r33 = 0 → p_Re_inheritJoined_51 x1 Q k4 (fun a0 a1 a2 a3 a4 => p_Re_inheritJoined_20 x1 Q k4 n a0 a1 a2 a3 a4) x2 x3 x4 x6 re) ∧
      (¬ r33 = 0 → (vp_in x6 48 ∧ p_Re_inheritJoined_51 x1 Q k4 (fun a0 a1 a2 a3 a4 => p_Re_inheritJoined_20 x1 Q k4 n a0 a1 a2 a3 a4) x2 x3 (x4 ||| (Re_joined re x6.toNatClampNeg)) x6 re))))))
def p_Re_inheritJoined_4 (x1 : Int32) (Q : Int32 → Re → Prop) : Nat → Int32 → Int32 → Re → Prop
  | 0, _, _, _ => False
  | n + 1, x2, x3, re => ((x1 ≤ x3 → (isB x2 ∧ Q x2 re)) ∧
    (¬ x1 ≤ x3 → (vp_in x3 48 ∧ (∃ f, p_Re_inheritJoined_20 x1 Q (fun a0 a1 a2 => p_Re_inheritJoined_4 x1 Q n a0 a1 a2) f x2 x3 (Re_joined re x3.toNatClampNeg) (0 : Int32) re))))
def p_Re_inheritJoined (x1 : Int32) (re : Re) (Q : Int32 → Re → Prop) : Prop :=
  (∃ f, p_Re_inheritJoined_4 x1 Q f (0 : Int32) (0 : Int32) re)

abbrev rm_Re_partsRelated_joined : Room := { frames := 1, cells := 0, slots := 0, locals := 22 }
def p_Re_partsRelated_joined_96 (x2 : Int32) (x3 : Int32) (te : Te) (re : Re) (Q : Int32 → Prop)  : Prop :=
  Q (1 : Int32)
def p_Re_partsRelated_joined_67 (x2 : Int32) (x3 : Int32) (te : Te) (re : Re) (Q : Int32 → Prop) (x4 : Int32) : Prop :=
  ((x4 < (2 : Int32) → p_Re_partsRelated_joined_96 x2 x3 te re Q) ∧
    (¬ x4 < (2 : Int32) → p_Te_secondOf x2 te (fun r79 => p_Te_secondOf x3 te (fun r87 => p_Re_isIn_joined r79 r87 re (fun r90 => ((r90 = 0 → Q (0 : Int32)) ∧
      (¬ r90 = 0 → p_Re_partsRelated_joined_96 x2 x3 te re Q)))))))
def p_Re_partsRelated_joined (x2 : Int32) (x3 : Int32) (te : Te) (re : Re) (Q : Int32 → Prop) : Prop :=
  p_Te_symbolOf x2 te (fun r5 => p_Te_symbolOf x3 te (fun r13 => ((r5 = r13 → p_Te_symbolOf x2 te (fun r30 => p_Te_placesOf r30 te (fun r33 => ((r33 < (1 : Int32) → p_Re_partsRelated_joined_67 x2 x3 te re Q r33) ∧
      (¬ r33 < (1 : Int32) → p_Te_firstOf x2 te (fun r50 => p_Te_firstOf x3 te (fun r58 => p_Re_isIn_joined r50 r58 re (fun r61 => ((r61 = 0 → Q (0 : Int32)) ∧
        (¬ r61 = 0 → p_Re_partsRelated_joined_67 x2 x3 te re Q r33)))))))))) ∧
    (¬ r5 = r13 → Q (0 : Int32)))))

abbrev rm_Re_liftFromParts_joined : Room := { frames := 2, cells := 0, slots := 0, locals := 46 }
def p_Re_liftFromParts_joined_14 (x2 : Int32) (te : Te) (Q : Int32 → Re → Prop) (k5 : Int32 → Int32 → Re → Prop) : Nat → Int32 → Int32 → Int32 → Re → Prop
  | 0, _, _, _, _ => False
  | n + 1, x3, x4, x5, re => ((x2 ≤ x5 → k5 x3 (x4 + (1 : Int32)) re) ∧
    (¬ x2 ≤ x5 → p_Re_isIn_joined x4 x5 re (fun r25 => ((¬ r25 = 0 → p_Re_liftFromParts_joined_14 x2 te Q k5 n x3 x4 (x5 + (1 : Int32)) re) ∧
      (r25 = 0 → p_Re_partsRelated_joined x4 x5 te re (fun r37 => ((r37 = 0 → p_Re_liftFromParts_joined_14 x2 te Q k5 n x3 x4 (x5 + (1 : Int32)) re) ∧
        (¬ r37 = 0 → (vp_in x4 48 ∧ (vp_in x4 48 ∧ ∀ re53 : Re, re53 = Re_joined_s re (vp_updL (Re_joined re) x4.toNatClampNeg ((Re_joined re x4.toNatClampNeg) ||| ((1 : Int64) <<< (x5.toInt64 &&& 63)))) → p_Re_liftFromParts_joined_14 x2 te Q k5 n (1 : Int32) x4 (x5 + (1 : Int32)) re53))))))))))
def p_Re_liftFromParts_joined_5 (x2 : Int32) (te : Te) (Q : Int32 → Re → Prop) : Nat → Int32 → Int32 → Re → Prop
  | 0, _, _, _ => False
  | n + 1, x3, x4, re => ((x2 ≤ x4 → (isB x3 ∧ Q x3 re)) ∧
    (¬ x2 ≤ x4 → (∃ f, p_Re_liftFromParts_joined_14 x2 te Q (fun a0 a1 a2 => p_Re_liftFromParts_joined_5 x2 te Q n a0 a1 a2) f x3 x4 (0 : Int32) re)))
def p_Re_liftFromParts_joined (x2 : Int32) (te : Te) (re : Re) (Q : Int32 → Re → Prop) : Prop :=
  (∃ f, p_Re_liftFromParts_joined_5 x2 te Q f (0 : Int32) (0 : Int32) re)

abbrev rm_Re_findJoined : Room := { frames := 3, cells := 0, slots := 0, locals := 71 }
def p_Re_findJoined_34 (te : Te) (Q : Re → Prop) : Nat → Int32 → Int32 → Int32 → Re → Prop
  | 0, _, _, _, _ => False
  | n + 1, x1, x2, x3, re => (((2305 : Int32) ≤ x3 → Q re) ∧
    (¬ (2305 : Int32) ≤ x3 → ((x2 = 0 → Q re) ∧
      (¬ x2 = 0 → p_Re_inheritJoined x1 re (fun r47 re47 => p_Re_liftFromParts_joined x1 te re47 (fun r57 re57 => ((r57 = 0 → p_Re_findJoined_34 te Q n x1 r47 (x3 + (1 : Int32)) re57) ∧
        (¬ r57 = 0 → p_Re_findJoined_34 te Q n x1 (1 : Int32) (x3 + (1 : Int32)) re57))))))))
def p_Re_findJoined_10 (te : Te) (Q : Re → Prop) : Nat → Int32 → Int32 → Re → Prop
  | 0, _, _, _ => False
  | n + 1, x1, x2, re => ((x1 ≤ x2 → (∃ f, p_Re_findJoined_34 te Q f x1 (1 : Int32) (0 : Int32) re)) ∧
    (¬ x1 ≤ x2 → (vp_in x2 48 ∧ ∀ re23 : Re, re23 = Re_joined_s re (vp_updL (Re_joined re) x2.toNatClampNeg ((1 : Int64) <<< (x2.toInt64 &&& 63))) → p_Re_findJoined_10 te Q n x1 (x2 + (1 : Int32)) re23)))
def p_Re_findJoined  (te : Te) (re : Re) (Q : Re → Prop) : Prop :=
  p_Te_count te (fun r4 => (∃ f, p_Re_findJoined_10 te Q f r4 (0 : Int32) re))

abbrev rm_Re_joins : Room := { frames := 4, cells := 0, slots := 0, locals := 94 }
def p_Re_joins_16 (x1 : Int32) (x2 : Int32) (te : Te) (Q : Int32 → Re → Prop) (re : Re) : Prop :=
  p_Re_isIn_joined x1 x2 re (fun r22 => (isB r22 ∧ Q r22 re))
def p_Re_joins (x1 : Int32) (x2 : Int32) (te : Te) (re : Re) (Q : Int32 → Re → Prop) : Prop :=
  ((¬ (Re_joinedKnown re) = 0 → p_Re_joins_16 x1 x2 te Q re) ∧
    ((Re_joinedKnown re) = 0 → p_Re_findJoined te re (fun re8 => (∀ re13 : Re, re13 = Re_joinedKnown_s re8 (1 : Int32) → p_Re_joins_16 x1 x2 te Q re13))))

abbrev rm_Re_sizeWithLeastParts : Room := { frames := 1, cells := 0, slots := 0, locals := 21 }
def p_Re_sizeWithLeastParts_60 (x1 : Int32) (te : Te) (re : Re) (Q : Int32 → Prop) (y0 : Int32) (y1 : Int32) : Prop :=
  Q (if (1 : Int32) + (y1 + y0) < (1000000000 : Int32) then (1 : Int32) + (y1 + y0) else (1000000000 : Int32))
def p_Re_sizeWithLeastParts_38 (x1 : Int32) (te : Te) (re : Re) (Q : Int32 → Prop) (x2 : Int32) (y0 : Int32) : Prop :=
  (((2 : Int32) ≤ x2 → p_Te_secondOf x1 te (fun r56 => (vp_in r56 48 ∧ p_Re_sizeWithLeastParts_60 x1 te re Q (Re_least re r56.toNatClampNeg) y0))) ∧
    (¬ (2 : Int32) ≤ x2 → p_Re_sizeWithLeastParts_60 x1 te re Q (0 : Int32) y0))
def p_Re_sizeWithLeastParts (x1 : Int32) (te : Te) (re : Re) (Q : Int32 → Prop) : Prop :=
  p_Te_symbolOf x1 te (fun r9 => p_Te_placesOf r9 te (fun r12 => (((1 : Int32) ≤ r12 → p_Te_firstOf x1 te (fun r34 => (vp_in r34 48 ∧ p_Re_sizeWithLeastParts_38 x1 te re Q r12 (Re_least re r34.toNatClampNeg)))) ∧
    (¬ (1 : Int32) ≤ r12 → p_Re_sizeWithLeastParts_38 x1 te re Q r12 (0 : Int32)))))

abbrev rm_Re_shrink : Room := { frames := 2, cells := 0, slots := 0, locals := 44 }
def p_Re_shrink_19 (x1 : Int32) (te : Te) (Q : Int32 → Re → Prop) (k4 : Int32 → Int32 → Re → Prop) : Nat → Int32 → Int32 → Int32 → Int32 → Re → Prop
  | 0, _, _, _, _, _ => False
  | n + 1, x2, x3, x4, x5, re => ((x1 ≤ x5 → k4 x2 (x3 + (1 : Int32)) re) ∧
    (¬ x1 ≤ x5 → p_Re_isIn_reached x5 x3 re (fun r32 => ((r32 = 0 → p_Re_shrink_19 x1 te Q k4 n x2 x3 x4 (x5 + (1 : Int32)) re) ∧
      (¬ r32 = 0 → (vp_in x5 48 ∧ (((Re_least re x5.toNatClampNeg) ≤ x4 → p_Re_shrink_19 x1 te Q k4 n x2 x3 x4 (x5 + (1 : Int32)) re) ∧
        (¬ (Re_least re x5.toNatClampNeg) ≤ x4 → (vp_in x5 48 ∧ ∀ re58 : Re, re58 = Re_least_s re (upd (Re_least re) x5.toNatClampNeg x4) → p_Re_shrink_19 x1 te Q k4 n (1 : Int32) x3 x4 (x5 + (1 : Int32)) re58)))))))))
def p_Re_shrink_4 (x1 : Int32) (te : Te) (Q : Int32 → Re → Prop) : Nat → Int32 → Int32 → Re → Prop
  | 0, _, _, _ => False
  | n + 1, x2, x3, re => ((x1 ≤ x3 → (isB x2 ∧ Q x2 re)) ∧
    (¬ x1 ≤ x3 → p_Re_sizeWithLeastParts x3 te re (fun r11 => (∃ f, p_Re_shrink_19 x1 te Q (fun a0 a1 a2 => p_Re_shrink_4 x1 te Q n a0 a1 a2) f x2 x3 r11 (0 : Int32) re))))
def p_Re_shrink (x1 : Int32) (te : Te) (re : Re) (Q : Int32 → Re → Prop) : Prop :=
  (∃ f, p_Re_shrink_4 x1 te Q f (0 : Int32) (0 : Int32) re)

abbrev rm_Re_leastSize : Room := { frames := 3, cells := 0, slots := 0, locals := 69 }
def p_Re_leastSize_63 (x1 : Int32) (te : Te) (Q : Int32 → Re → Prop) (re : Re) : Prop :=
  (vp_in x1 48 ∧ Q (Re_least re x1.toNatClampNeg) re)
def p_Re_leastSize_40 (x1 : Int32) (te : Te) (Q : Int32 → Re → Prop) : Nat → Int32 → Int32 → Int32 → Re → Prop
  | 0, _, _, _, _ => False
  | n + 1, x2, x3, x4, re => (((48 : Int32) < x4 → p_Re_leastSize_63 x1 te Q re) ∧
    (¬ (48 : Int32) < x4 → ((x3 = 0 → p_Re_leastSize_63 x1 te Q re) ∧
      (¬ x3 = 0 → p_Re_shrink x2 te re (fun r53 re53 => p_Re_leastSize_40 x1 te Q n x2 r53 (x4 + (1 : Int32)) re53)))))
def p_Re_leastSize_10 (x1 : Int32) (te : Te) (Q : Int32 → Re → Prop) : Nat → Int32 → Int32 → Re → Prop
  | 0, _, _, _ => False
  | n + 1, x2, x3, re => ((x2 ≤ x3 → (∃ f, p_Re_leastSize_40 x1 te Q f x2 (1 : Int32) (0 : Int32) re)) ∧
    (¬ x2 ≤ x3 → p_Te_sizeOf x3 te (fun r25 => (vp_in x3 48 ∧ ∀ re28 : Re, re28 = Re_least_s re (upd (Re_least re) x3.toNatClampNeg r25) → p_Re_leastSize_10 x1 te Q n x2 (x3 + (1 : Int32)) re28))))
def p_Re_leastSize (x1 : Int32) (te : Te) (re : Re) (Q : Int32 → Re → Prop) : Prop :=
  p_Te_count te (fun r4 => (∃ f, p_Re_leastSize_10 x1 te Q f r4 (0 : Int32) re))

abbrev rm_Ar_fillI_states : Room := { frames := 0, cells := 0, slots := 0, locals := 0 }
def p_Ar_fillI_states_5 (x1 : Int32) (Q : La → Prop) : Nat → Int32 → Int32 → La → Prop
  | 0, _, _, _ => False
  | n + 1, x2, x3, la => ((x3 ≤ x2 → Q la) ∧
    (¬ x3 ≤ x2 → (vp_in x2 48 ∧ ∀ la13 : La, la13 = La_states_s la (upd (La_states la) x2.toNatClampNeg x1) → p_Ar_fillI_states_5 x1 Q n (x2 + (1 : Int32)) x3 la13)))
def p_Ar_fillI_states (x1 : Int32) (la : La) (Q : La → Prop) : Prop :=
  (∃ f, p_Ar_fillI_states_5 x1 Q f (0 : Int32) (48 : Int32) la)

abbrev rm_La_addStates : Room := { frames := 0, cells := 0, slots := 0, locals := 0 }
def p_La_addStates_24 (x1 : Int32) (x2 : Int32) (Q : Int32 → La → Prop) (x3 : Int32) (y0 : Int32) (la : La) : Prop :=
  (vp_in x1 48 ∧ ∀ la32 : La, la32 = La_states_s la (upd (La_states la) x1.toNatClampNeg x3) → (isB y0 ∧ Q y0 la32))
def p_La_addStates (x1 : Int32) (x2 : Int32) (la : La) (Q : Int32 → La → Prop) : Prop :=
  (vp_in x1 48 ∧ (vp_in x1 48 ∧ ((((La_states la x1.toNatClampNeg) ||| x2) = (La_states la x1.toNatClampNeg) → p_La_addStates_24 x1 x2 Q ((La_states la x1.toNatClampNeg) ||| x2) (0 : Int32) la) ∧
    (¬ ((La_states la x1.toNatClampNeg) ||| x2) = (La_states la x1.toNatClampNeg) → p_La_addStates_24 x1 x2 Q ((La_states la x1.toNatClampNeg) ||| x2) (1 : Int32) la))))

abbrev rm_La_runFromParts : Room := { frames := 1, cells := 0, slots := 0, locals := 25 }
def p_La_runFromParts_84 (te : Te) (au : Au) (Q : Int32 → La → Prop) (k4 : Int32 → Int32 → La → Prop) (x1 : Int32) (x2 : Int32) (x3 : Int32) (x5 : Int32) (y0 : Int32) (la : La) : Prop :=
  p_Au_targetsOf x3 x5 y0 au (fun r98 => p_La_addStates x2 r98 la (fun r101 la101 => k4 (x1 ||| r101) (x2 + (1 : Int32)) la101))
def p_La_runFromParts_58 (te : Te) (au : Au) (Q : Int32 → La → Prop) (k4 : Int32 → Int32 → La → Prop) (x1 : Int32) (x2 : Int32) (x3 : Int32) (x4 : Int32) (y0 : Int32) (la : La) : Prop :=
  (((2 : Int32) ≤ x4 → p_Te_secondOf x2 te (fun r80 => (vp_in r80 48 ∧ p_La_runFromParts_84 te au Q k4 x1 x2 x3 y0 (La_states la r80.toNatClampNeg) la))) ∧
    (¬ (2 : Int32) ≤ x4 → p_La_runFromParts_84 te au Q k4 x1 x2 x3 y0 (63 : Int32) la))
def p_La_runFromParts_4 (te : Te) (au : Au) (Q : Int32 → La → Prop) : Nat → Int32 → Int32 → La → Prop
  | 0, _, _, _ => False
  | n + 1, x1, x2, la => p_Te_count te (fun r9 => ((r9 ≤ x2 → (isB x1 ∧ Q x1 la)) ∧
    (¬ r9 ≤ x2 → p_Te_symbolOf x2 te (fun r20 => p_Te_placesOf r20 te (fun r29 => (((1 : Int32) ≤ r29 → p_Te_firstOf x2 te (fun r54 => (vp_in r54 48 ∧ p_La_runFromParts_58 te au Q (fun a0 a1 a2 => p_La_runFromParts_4 te au Q n a0 a1 a2) x1 x2 r20 r29 (La_states la r54.toNatClampNeg) la))) ∧
      (¬ (1 : Int32) ≤ r29 → p_La_runFromParts_58 te au Q (fun a0 a1 a2 => p_La_runFromParts_4 te au Q n a0 a1 a2) x1 x2 r20 r29 (63 : Int32) la)))))))
def p_La_runFromParts  (te : Te) (au : Au) (la : La) (Q : Int32 → La → Prop) : Prop :=
  (∃ f, p_La_runFromParts_4 te au Q f (0 : Int32) (0 : Int32) la)

abbrev rm_La_statesAt : Room := { frames := 2, cells := 0, slots := 0, locals := 51 }
def p_La_statesAt (x1 : Int32) (te : Te) (au : Au) (la : La) (Q : Int32 → La → Prop) : Prop :=
  p_Ar_fillI_states (0 : Int32) la (fun la5 => p_La_runFromParts te au la5 (fun r9 la9 => (vp_in x1 48 ∧ Q (La_states la9 x1.toNatClampNeg) la9)))

abbrev rm_La_passOn : Room := { frames := 2, cells := 0, slots := 0, locals := 44 }
def p_La_passOn_22 (x1 : Int32) (te : Te) (re : Re) (Q : Int32 → La → Prop) (k13 : Int32 → Int32 → Int32 → La → Prop) : Nat → Int32 → Int32 → Int32 → Int32 → La → Prop
  | 0, _, _, _, _, _ => False
  | n + 1, x2, x3, x4, x5, la => ((x3 ≤ x5 → k13 x2 x3 (x4 + (1 : Int32)) la) ∧
    (¬ x3 ≤ x5 → p_Re_leads x4 x5 re (fun r36 => ((r36 = 0 → p_La_passOn_22 x1 te re Q k13 n x2 x3 x4 (x5 + (1 : Int32)) la) ∧
      (¬ r36 = 0 → ((x1 = 0 → (vp_in x5 48 ∧ p_La_addStates x4 (La_states la x5.toNatClampNeg) la (fun r73 la73 => p_La_passOn_22 x1 te re Q k13 n (x2 ||| r73) x3 x4 (x5 + (1 : Int32)) la73))) ∧
        (¬ x1 = 0 → (vp_in x4 48 ∧ p_La_addStates x5 (La_states la x4.toNatClampNeg) la (fun r57 la57 => p_La_passOn_22 x1 te re Q k13 n (x2 ||| r57) x3 x4 (x5 + (1 : Int32)) la57)))))))))
def p_La_passOn_13 (x1 : Int32) (te : Te) (re : Re) (Q : Int32 → La → Prop) : Nat → Int32 → Int32 → Int32 → La → Prop
  | 0, _, _, _, _ => False
  | n + 1, x2, x3, x4, la => ((x3 ≤ x4 → (isB x2 ∧ Q x2 la)) ∧
    (¬ x3 ≤ x4 → (∃ f, p_La_passOn_22 x1 te re Q (fun a0 a1 a2 a3 => p_La_passOn_13 x1 te re Q n a0 a1 a2 a3) f x2 x3 x4 (0 : Int32) la)))
def p_La_passOn (x1 : Int32) (te : Te) (re : Re) (la : La) (Q : Int32 → La → Prop) : Prop :=
  p_Te_count te (fun r6 => (∃ f, p_La_passOn_13 x1 te re Q f (0 : Int32) r6 (0 : Int32) la))

abbrev rm_La_spread : Room := { frames := 3, cells := 0, slots := 0, locals := 69 }
def p_La_spread_12 (x1 : Int32) (te : Te) (au : Au) (re : Re) (Q : La → Prop) : Nat → Int32 → Int32 → La → Prop
  | 0, _, _, _ => False
  | n + 1, x2, x3, la => (((289 : Int32) ≤ x3 → Q la) ∧
    (¬ (289 : Int32) ≤ x3 → ((x2 = 0 → Q la) ∧
      (¬ x2 = 0 → p_La_runFromParts te au la (fun r24 la24 => p_La_passOn x1 te re la24 (fun r30 la30 => ((r30 = 0 → p_La_spread_12 x1 te au re Q n r24 (x3 + (1 : Int32)) la30) ∧
        (¬ r30 = 0 → p_La_spread_12 x1 te au re Q n (1 : Int32) (x3 + (1 : Int32)) la30))))))))
def p_La_spread (x1 : Int32) (te : Te) (au : Au) (re : Re) (la : La) (Q : La → Prop) : Prop :=
  p_Ar_fillI_states (0 : Int32) la (fun la5 => (∃ f, p_La_spread_12 x1 te au re Q f (1 : Int32) (0 : Int32) la5))

abbrev rm_La_statesBefore : Room := { frames := 4, cells := 0, slots := 0, locals := 92 }
def p_La_statesBefore (x1 : Int32) (te : Te) (au : Au) (re : Re) (la : La) (Q : Int32 → La → Prop) : Prop :=
  p_La_spread (1 : Int32) te au re la (fun la2 => (vp_in x1 48 ∧ Q (La_states la2 x1.toNatClampNeg) la2))

abbrev rm_La_statesBehind : Room := { frames := 4, cells := 0, slots := 0, locals := 92 }
def p_La_statesBehind (x1 : Int32) (te : Te) (au : Au) (re : Re) (la : La) (Q : Int32 → La → Prop) : Prop :=
  p_La_spread (0 : Int32) te au re la (fun la2 => (vp_in x1 48 ∧ Q (La_states la2 x1.toNatClampNeg) la2))

abbrev rm_Sp_rebuild : Room := { frames := 4, cells := 0, slots := 0, locals := 94 }
def p_Sp_rebuild_116 (x1 : Int32) (x2 : Int32) (sp : Sp) (Q : Int32 → Te → Prop) (x3 : Int32) (x4 : Int32) (te : Te) : Prop :=
  ((¬ x4 = (-1 : Int32) → Q x4 te) ∧
    (x4 = (-1 : Int32) → p_Te_keepFirst x3 te (fun te127 => Q x4 te127)))
def p_Sp_rebuild_86 (x1 : Int32) (x2 : Int32) (sp : Sp) (Q : Int32 → Te → Prop) (k16 : Int32 → Int32 → Int32 → Te → Prop) (x3 : Int32) (x5 : Int32) (x6 : Int32) (x7 : Int32) (y0 : Int32) (te : Te) : Prop :=
  p_Te_symbolOf x6 te (fun r98 => p_Te_findOrAppend r98 x7 y0 te (fun r105 te105 => k16 x3 r105 (x5 + (-1 : Int32)) te105))
def p_Sp_rebuild_60 (x1 : Int32) (x2 : Int32) (sp : Sp) (Q : Int32 → Te → Prop) (k16 : Int32 → Int32 → Int32 → Te → Prop) (x3 : Int32) (x4 : Int32) (x5 : Int32) (x6 : Int32) (y0 : Int32) (te : Te) : Prop :=
  (vp_in x5 48 ∧ (((Sp_wentFirst sp x5.toNatClampNeg) = 0 → p_Sp_rebuild_86 x1 x2 sp Q k16 x3 x5 x6 y0 x4 te) ∧
    (¬ (Sp_wentFirst sp x5.toNatClampNeg) = 0 → p_Te_secondOf x6 te (fun r78 => p_Sp_rebuild_86 x1 x2 sp Q k16 x3 x5 x6 y0 r78 te))))
def p_Sp_rebuild_16 (x1 : Int32) (x2 : Int32) (sp : Sp) (Q : Int32 → Te → Prop) : Nat → Int32 → Int32 → Int32 → Te → Prop
  | 0, _, _, _, _ => False
  | n + 1, x3, x4, x5, te => ((x5 < 0 → p_Sp_rebuild_116 x1 x2 sp Q x3 x4 te) ∧
    (¬ x5 < 0 → ((x4 = (-1 : Int32) → p_Sp_rebuild_116 x1 x2 sp Q x3 x4 te) ∧
      (¬ x4 = (-1 : Int32) → (vp_in x5 48 ∧ (vp_in x5 48 ∧ (((Sp_wentFirst sp x5.toNatClampNeg) = 0 → p_Te_firstOf (Sp_path sp x5.toNatClampNeg) te (fun r57 => p_Sp_rebuild_60 x1 x2 sp Q (fun a0 a1 a2 a3 => p_Sp_rebuild_16 x1 x2 sp Q n a0 a1 a2 a3) x3 x4 x5 (Sp_path sp x5.toNatClampNeg) r57 te)) ∧
        (¬ (Sp_wentFirst sp x5.toNatClampNeg) = 0 → p_Sp_rebuild_60 x1 x2 sp Q (fun a0 a1 a2 a3 => p_Sp_rebuild_16 x1 x2 sp Q n a0 a1 a2 a3) x3 x4 x5 (Sp_path sp x5.toNatClampNeg) x4 te))))))))
def p_Sp_rebuild (x1 : Int32) (x2 : Int32) (te : Te) (sp : Sp) (Q : Int32 → Te → Prop) : Prop :=
  p_Te_count te (fun r4 => (∃ f, p_Sp_rebuild_16 x1 x2 sp Q f r4 x2 (x1 - (1 : Int32)) te))

abbrev rm_Sp_targetOf : Room := { frames := 5, cells := 0, slots := 0, locals := 122 }
def p_Sp_targetOf_151 (x1 : Int32) (x2 : Int32) (ru : Ru) (Q : Int32 → Te → Sp → Prop) (x3 : Int32) (x4 : Int32) (x5 : Int64) (te : Te) (sp : Sp) : Prop :=
  p_Ru_rightAt x3 x5.toInt32 ru (fun r162 => p_Sp_rebuild x4 r162 te sp (fun r165 te165 => Q r165 te165 sp))
def p_Sp_targetOf_118 (x1 : Int32) (x2 : Int32) (ru : Ru) (Q : Int32 → Te → Sp → Prop) (k13 : Int32 → Int32 → Int64 → Te → Sp → Prop) (x3 : Int32) (x4 : Int32) (x7 : Int32) (y0 : Int64) (y1 : Int64) (te : Te) (sp : Sp) : Prop :=
  (vp_in x4 48 ∧ (((Sp_wentFirst sp x4.toNatClampNeg) = 0 → p_Te_secondOf x3 te (fun r141 => k13 r141 (x4 + (1 : Int32)) (y1 - y0) te sp)) ∧
    (¬ (Sp_wentFirst sp x4.toNatClampNeg) = 0 → k13 x7 (x4 + (1 : Int32)) (y1 - y0) te sp)))
def p_Sp_targetOf_95 (x1 : Int32) (x2 : Int32) (ru : Ru) (Q : Int32 → Te → Sp → Prop) (k13 : Int32 → Int32 → Int64 → Te → Sp → Prop) (x3 : Int32) (x4 : Int32) (x5 : Int64) (x7 : Int32) (y0 : Int32) (y1 : Int32) (te : Te) (sp : Sp) : Prop :=
  (vp_in y1 48 ∧ ∀ sp95 : Sp, sp95 = Sp_wentFirst_s sp (upd (Sp_wentFirst sp) y1.toNatClampNeg (vp_nar .boolean y0)) → (vp_in x4 48 ∧ (((Sp_wentFirst sp95 x4.toNatClampNeg) = 0 → p_Sp_countIn x7 sp95 (fun r115 => p_Sp_targetOf_118 x1 x2 ru Q k13 x3 x4 x7 r115 x5 te sp95)) ∧
    (¬ (Sp_wentFirst sp95 x4.toNatClampNeg) = 0 → p_Sp_targetOf_118 x1 x2 ru Q k13 x3 x4 x7 (0 : Int64) x5 te sp95))))
def p_Sp_targetOf_13 (x1 : Int32) (x2 : Int32) (ru : Ru) (Q : Int32 → Te → Sp → Prop) : Nat → Int32 → Int32 → Int64 → Te → Sp → Prop
  | 0, _, _, _, _, _ => False
  | n + 1, x3, x4, x5, te, sp => (((48 : Int32) ≤ x4 → p_Sp_targetOf_151 x1 x2 ru Q x3 x4 x5 te sp) ∧
    (¬ (48 : Int32) ≤ x4 → ((x3 = (-1 : Int32) → p_Sp_targetOf_151 x1 x2 ru Q x3 x4 x5 te sp) ∧
      (¬ x3 = (-1 : Int32) → p_Ru_countAt x3 ru (fun r32 => (((lg_cmp x5 r32.toInt64) < 0 → p_Sp_targetOf_151 x1 x2 ru Q x3 x4 x5 te sp) ∧
        (¬ (lg_cmp x5 r32.toInt64) < 0 → p_Ru_countAt x3 ru (fun r47 => p_Te_firstOf x3 te (fun r59 => (vp_in x4 48 ∧ ∀ sp71 : Sp, sp71 = Sp_path_s sp (upd (Sp_path sp) x4.toNatClampNeg x3) → p_Sp_countIn r59 sp71 (fun r83 => ((0 ≤ (lg_cmp (x5 - r47.toInt64) r83) → p_Sp_targetOf_95 x1 x2 ru Q (fun a0 a1 a2 a3 a4 => p_Sp_targetOf_13 x1 x2 ru Q n a0 a1 a2 a3 a4) x3 x4 (x5 - r47.toInt64) r59 (0 : Int32) x4 te sp71) ∧
          (¬ 0 ≤ (lg_cmp (x5 - r47.toInt64) r83) → p_Sp_targetOf_95 x1 x2 ru Q (fun a0 a1 a2 a3 a4 => p_Sp_targetOf_13 x1 x2 ru Q n a0 a1 a2 a3 a4) x3 x4 (x5 - r47.toInt64) r59 (1 : Int32) x4 te sp71)))))))))))))
def p_Sp_targetOf (x1 : Int32) (x2 : Int32) (te : Te) (ru : Ru) (sp : Sp) (Q : Int32 → Te → Sp → Prop) : Prop :=
  p_Sp_countAll te ru sp (fun sp1 => (∃ f, p_Sp_targetOf_13 x1 x2 ru Q f x1 (0 : Int32) x2.toInt64 te sp1))

abbrev rm_Ar_fillJ_after : Room := { frames := 0, cells := 0, slots := 0, locals := 0 }
def p_Ar_fillJ_after_6 (x1 : Int64) (Q : Le → Prop) : Nat → Int32 → Int32 → Le → Prop
  | 0, _, _, _ => False
  | n + 1, x3, x4, le => ((x4 ≤ x3 → Q le) ∧
    (¬ x4 ≤ x3 → (vp_in x3 3136 ∧ ∀ le15 : Le, le15 = Le_after_s le (vp_updL (Le_after le) x3.toNatClampNeg x1) → p_Ar_fillJ_after_6 x1 Q n (x3 + (1 : Int32)) x4 le15)))
def p_Ar_fillJ_after (x1 : Int64) (le : Le) (Q : Le → Prop) : Prop :=
  (∃ f, p_Ar_fillJ_after_6 x1 Q f (0 : Int32) (3136 : Int32) le)

abbrev rm_Ar_fillJ_inLevels : Room := { frames := 0, cells := 0, slots := 0, locals := 0 }
def p_Ar_fillJ_inLevels_6 (x1 : Int64) (Q : Le → Prop) : Nat → Int32 → Int32 → Le → Prop
  | 0, _, _, _ => False
  | n + 1, x3, x4, le => ((x4 ≤ x3 → Q le) ∧
    (¬ x4 ≤ x3 → (vp_in x3 7 ∧ ∀ le15 : Le, le15 = Le_inLevels_s le (vp_updL (Le_inLevels le) x3.toNatClampNeg x1) → p_Ar_fillJ_inLevels_6 x1 Q n (x3 + (1 : Int32)) x4 le15)))
def p_Ar_fillJ_inLevels (x1 : Int64) (le : Le) (Q : Le → Prop) : Prop :=
  (∃ f, p_Ar_fillJ_inLevels_6 x1 Q f (0 : Int32) (7 : Int32) le)

abbrev rm_Ar_fillJ_newest : Room := { frames := 0, cells := 0, slots := 0, locals := 0 }
def p_Ar_fillJ_newest_6 (x1 : Int64) (Q : Le → Prop) : Nat → Int32 → Int32 → Le → Prop
  | 0, _, _, _ => False
  | n + 1, x3, x4, le => ((x4 ≤ x3 → Q le) ∧
    (¬ x4 ≤ x3 → (vp_in x3 7 ∧ ∀ le15 : Le, le15 = Le_newest_s le (vp_updL (Le_newest le) x3.toNatClampNeg x1) → p_Ar_fillJ_newest_6 x1 Q n (x3 + (1 : Int32)) x4 le15)))
def p_Ar_fillJ_newest (x1 : Int64) (le : Le) (Q : Le → Prop) : Prop :=
  (∃ f, p_Ar_fillJ_newest_6 x1 Q f (0 : Int32) (7 : Int32) le)

abbrev rm_Le_countWithParts : Room := { frames := 1, cells := 0, slots := 0, locals := 21 }
def p_Le_countWithParts_104 (x1 : Int32) (te : Te) (Q : Le → Prop) (k17 : Int64 → Int32 → Le → Prop) (x4 : Int32) (x5 : Int32) (y0 : Int64) (y1 : Int64) (le : Le) : Prop :=
  (((2 : Int32) ≤ x5 → p_Te_secondOf x4 te (fun r124 => k17 ((y1 ||| y0) ||| ((1 : Int64) <<< (r124.toInt64 &&& 63))) (x4 + (-1 : Int32)) le)) ∧
    (¬ (2 : Int32) ≤ x5 → k17 ((y1 ||| y0) ||| (0 : Int64)) (x4 + (-1 : Int32)) le))
def p_Le_countWithParts_17 (x1 : Int32) (te : Te) (Q : Le → Prop) : Nat → Int64 → Int32 → Le → Prop
  | 0, _, _, _ => False
  | n + 1, x2, x4, le => ((x4 < 0 → Q le) ∧
    (¬ x4 < 0 → (((lg_cmp ((x2 >>> (x4.toInt64 &&& 63)) &&& (1 : Int64)) (0 : Int64)) = 0 → p_Le_countWithParts_17 x1 te Q n x2 (x4 + (-1 : Int32)) le) ∧
      (¬ (lg_cmp ((x2 >>> (x4.toInt64 &&& 63)) &&& (1 : Int64)) (0 : Int64)) = 0 → (vp_in x4 448 ∧ (((Le_counted le x4.toNatClampNeg) = 0 → (vp_in x4 448 ∧ ∀ le53 : Le, le53 = Le_counted_s le (upd (Le_counted le) x4.toNatClampNeg (vp_nar .boolean (1 : Int32))) → (∀ le61 : Le, le61 = Le_countedTerms_s le53 ((Le_countedTerms le53) + (1 : Int32)) → p_Te_symbolOf x4 te (fun r74 => p_Te_placesOf r74 te (fun r77 => (((1 : Int32) ≤ r77 → p_Te_firstOf x4 te (fun r100 => p_Le_countWithParts_104 x1 te Q (fun a0 a1 a2 => p_Le_countWithParts_17 x1 te Q n a0 a1 a2) x4 r77 ((1 : Int64) <<< (r100.toInt64 &&& 63)) x2 le61)) ∧
          (¬ (1 : Int32) ≤ r77 → p_Le_countWithParts_104 x1 te Q (fun a0 a1 a2 => p_Le_countWithParts_17 x1 te Q n a0 a1 a2) x4 r77 (0 : Int64) x2 le61))))))) ∧
        (¬ (Le_counted le x4.toNatClampNeg) = 0 → p_Le_countWithParts_17 x1 te Q n x2 (x4 + (-1 : Int32)) le)))))))
def p_Le_countWithParts (x1 : Int32) (te : Te) (le : Le) (Q : Le → Prop) : Prop :=
  (vp_in x1 448 ∧ (((Le_counted le x1.toNatClampNeg) = 0 → (∃ f, p_Le_countWithParts_17 x1 te Q f ((1 : Int64) <<< (x1.toInt64 &&& 63)) x1 le)) ∧
    (¬ (Le_counted le x1.toNatClampNeg) = 0 → Q le)))

abbrev rm_Le_include_inLevels : Room := { frames := 0, cells := 0, slots := 0, locals := 0 }
def p_Le_include_inLevels (x1 : Int32) (x2 : Int32) (le : Le) (Q : Le → Prop) : Prop :=
  ((x2 = (-1 : Int32) → Q le) ∧
    (¬ x2 = (-1 : Int32) → (vp_in (x1 + (x2 / (64 : Int32))) 7 ∧ (vp_in (x1 + (x2 / (64 : Int32))) 7 ∧ ∀ le21 : Le, le21 = Le_inLevels_s le (vp_updL (Le_inLevels le) (x1 + (x2 / (64 : Int32))).toNatClampNeg ((Le_inLevels le (x1 + (x2 / (64 : Int32))).toNatClampNeg) ||| ((1 : Int64) <<< ((x2 - x2 / (64 : Int32) * (64 : Int32)).toInt64 &&& 63)))) → Q le21))))

abbrev rm_Le_include_newest : Room := { frames := 0, cells := 0, slots := 0, locals := 0 }
def p_Le_include_newest (x1 : Int32) (x2 : Int32) (le : Le) (Q : Le → Prop) : Prop :=
  ((x2 = (-1 : Int32) → Q le) ∧
    (¬ x2 = (-1 : Int32) → (vp_in (x1 + (x2 / (64 : Int32))) 7 ∧ (vp_in (x1 + (x2 / (64 : Int32))) 7 ∧ ∀ le21 : Le, le21 = Le_newest_s le (vp_updL (Le_newest le) (x1 + (x2 / (64 : Int32))).toNatClampNeg ((Le_newest le (x1 + (x2 / (64 : Int32))).toNatClampNeg) ||| ((1 : Int64) <<< ((x2 - x2 / (64 : Int32) * (64 : Int32)).toInt64 &&& 63)))) → Q le21))))

abbrev rm_Le_start : Room := { frames := 2, cells := 0, slots := 0, locals := 46 }
def p_Le_start_26 (x1 : Int32) (te : Te) (Q : Le → Prop) : Nat → Int32 → Le → Prop
  | 0, _, _ => False
  | n + 1, x2, le => (((448 : Int32) ≤ x2 → (∀ le55 : Le, le55 = Le_countedTerms_s le (0 : Int32) → p_Le_countWithParts x1 te le55 (fun le60 => p_Le_include_inLevels (0 : Int32) x1 le60 (fun le69 => p_Le_include_newest (0 : Int32) x1 le69 (fun le78 => Q le78))))) ∧
    (¬ (448 : Int32) ≤ x2 → (vp_in x2 448 ∧ ∀ le39 : Le, le39 = Le_counted_s le (upd (Le_counted le) x2.toNatClampNeg (vp_nar .boolean (0 : Int32))) → (vp_in x2 448 ∧ ∀ le46 : Le, le46 = Le_expanded_s le39 (upd (Le_expanded le39) x2.toNatClampNeg (vp_nar .boolean (0 : Int32))) → p_Le_start_26 x1 te Q n (x2 + (1 : Int32)) le46))))
def p_Le_start (x1 : Int32) (te : Te) (le : Le) (Q : Le → Prop) : Prop :=
  p_Ar_fillJ_after (0 : Int64) le (fun le5 => p_Ar_fillJ_inLevels (0 : Int64) le5 (fun le13 => p_Ar_fillJ_newest (0 : Int64) le13 (fun le21 => (∃ f, p_Le_start_26 x1 te Q f (0 : Int32) le21))))

abbrev rm_Le_isIn_inLevels : Room := { frames := 0, cells := 0, slots := 0, locals := 0 }
def p_Le_isIn_inLevels (x1 : Int32) (le : Le) (Q : Int32 → Prop) : Prop :=
  (vp_in (x1 / (64 : Int32)) 7 ∧ (((lg_cmp (((Le_inLevels le (x1 / (64 : Int32)).toNatClampNeg) >>> ((x1 - x1 / (64 : Int32) * (64 : Int32)).toInt64 &&& 63)) &&& (1 : Int64)) (0 : Int64)) = 0 → Q (0 : Int32)) ∧
    (¬ (lg_cmp (((Le_inLevels le (x1 / (64 : Int32)).toNatClampNeg) >>> ((x1 - x1 / (64 : Int32) * (64 : Int32)).toInt64 &&& 63)) &&& (1 : Int64)) (0 : Int64)) = 0 → Q (1 : Int32))))

abbrev rm_Le_findWaiting : Room := { frames := 1, cells := 0, slots := 0, locals := 20 }
def p_Le_findWaiting_4 (te : Te) (Q : Int32 → Le → Prop) : Nat → Int32 → Int32 → Le → Prop
  | 0, _, _, _ => False
  | n + 1, x1, x2, le => p_Te_count te (fun r9 => ((r9 ≤ x2 → Q x1 le) ∧
    (¬ r9 ≤ x2 → (vp_in x2 448 ∧ (((Le_counted le x2.toNatClampNeg) = 0 → p_Le_findWaiting_4 te Q n x1 (x2 + (1 : Int32)) le) ∧
      (¬ (Le_counted le x2.toNatClampNeg) = 0 → (vp_in x2 448 ∧ ((¬ (Le_expanded le x2.toNatClampNeg) = 0 → p_Le_findWaiting_4 te Q n x1 (x2 + (1 : Int32)) le) ∧
        ((Le_expanded le x2.toNatClampNeg) = 0 → (vp_in x1 448 ∧ ∀ le42 : Le, le42 = Le_waiting_s le (upd (Le_waiting le) x1.toNatClampNeg x2) → p_Le_findWaiting_4 te Q n (x1 + (1 : Int32)) (x2 + (1 : Int32)) le42))))))))))
def p_Le_findWaiting  (te : Te) (le : Le) (Q : Int32 → Le → Prop) : Prop :=
  (∃ f, p_Le_findWaiting_4 te Q f (0 : Int32) (0 : Int32) le)

abbrev rm_Ar_fillJ_coming : Room := { frames := 0, cells := 0, slots := 0, locals := 0 }
def p_Ar_fillJ_coming_6 (x1 : Int64) (Q : Le → Prop) : Nat → Int32 → Int32 → Le → Prop
  | 0, _, _, _ => False
  | n + 1, x3, x4, le => ((x4 ≤ x3 → Q le) ∧
    (¬ x4 ≤ x3 → (vp_in x3 7 ∧ ∀ le15 : Le, le15 = Le_coming_s le (vp_updL (Le_coming le) x3.toNatClampNeg x1) → p_Ar_fillJ_coming_6 x1 Q n (x3 + (1 : Int32)) x4 le15)))
def p_Ar_fillJ_coming (x1 : Int64) (le : Le) (Q : Le → Prop) : Prop :=
  (∃ f, p_Ar_fillJ_coming_6 x1 Q f (0 : Int32) (7 : Int32) le)

abbrev rm_Le_isIn_newest : Room := { frames := 0, cells := 0, slots := 0, locals := 0 }
def p_Le_isIn_newest (x1 : Int32) (le : Le) (Q : Int32 → Prop) : Prop :=
  (vp_in (x1 / (64 : Int32)) 7 ∧ (((lg_cmp (((Le_newest le (x1 / (64 : Int32)).toNatClampNeg) >>> ((x1 - x1 / (64 : Int32) * (64 : Int32)).toInt64 &&& 63)) &&& (1 : Int64)) (0 : Int64)) = 0 → Q (0 : Int32)) ∧
    (¬ (lg_cmp (((Le_newest le (x1 / (64 : Int32)).toNatClampNeg) >>> ((x1 - x1 / (64 : Int32) * (64 : Int32)).toInt64 &&& 63)) &&& (1 : Int64)) (0 : Int64)) = 0 → Q (1 : Int32))))

abbrev rm_Le_goOn : Room := { frames := 1, cells := 0, slots := 0, locals := 24 }
def p_Le_goOn_74 (te : Te) (Q : Le → Prop) : Nat → Int32 → Le → Prop
  | 0, _, _ => False
  | n + 1, x1, le => (((7 : Int32) ≤ x1 → Q le) ∧
    (¬ (7 : Int32) ≤ x1 → (vp_in x1 7 ∧ (vp_in x1 7 ∧ (vp_in x1 7 ∧ ∀ le102 : Le, le102 = Le_newest_s le (vp_updL (Le_newest le) x1.toNatClampNeg ((Le_coming le x1.toNatClampNeg) &&& ((Le_inLevels le x1.toNatClampNeg) ^^^ (-1 : Int64)))) → (vp_in x1 7 ∧ (vp_in x1 7 ∧ (vp_in x1 7 ∧ ∀ le117 : Le, le117 = Le_inLevels_s le102 (vp_updL (Le_inLevels le102) x1.toNatClampNeg ((Le_inLevels le102 x1.toNatClampNeg) ||| (Le_newest le102 x1.toNatClampNeg))) → p_Le_goOn_74 te Q n (x1 + (1 : Int32)) le117))))))))
def p_Le_goOn_23 (te : Te) (Q : Le → Prop) (k10 : Int32 → Le → Prop) : Nat → Int32 → Int32 → Le → Prop
  | 0, _, _, _ => False
  | n + 1, x1, x2, le => (((7 : Int32) ≤ x2 → k10 (x1 + (1 : Int32)) le) ∧
    (¬ (7 : Int32) ≤ x2 → p_Le_isIn_newest x1 le (fun r34 => ((r34 = 0 → k10 (x1 + (1 : Int32)) le) ∧
      (¬ r34 = 0 → (vp_in x2 7 ∧ (vp_in ((x1 * (7 : Int32)) + x2) 3136 ∧ (vp_in x2 7 ∧ ∀ le59 : Le, le59 = Le_coming_s le (vp_updL (Le_coming le) x2.toNatClampNeg ((Le_coming le x2.toNatClampNeg) ||| (Le_after le ((x1 * (7 : Int32)) + x2).toNatClampNeg))) → p_Le_goOn_23 te Q k10 n x1 (x2 + (1 : Int32)) le59))))))))
def p_Le_goOn_10 (te : Te) (Q : Le → Prop) : Nat → Int32 → Le → Prop
  | 0, _, _ => False
  | n + 1, x1, le => p_Te_count te (fun r15 => ((r15 ≤ x1 → (∃ f, p_Le_goOn_74 te Q f (0 : Int32) le)) ∧
    (¬ r15 ≤ x1 → (∃ f, p_Le_goOn_23 te Q (fun a0 a1 => p_Le_goOn_10 te Q n a0 a1) f x1 (0 : Int32) le))))
def p_Le_goOn  (te : Te) (le : Le) (Q : Le → Prop) : Prop :=
  p_Ar_fillJ_coming (0 : Int64) le (fun le5 => (∃ f, p_Le_goOn_10 te Q f (0 : Int32) le5))

abbrev rm_Le_findCounted : Room := { frames := 3, cells := 0, slots := 0, locals := 70 }
def p_Le_findCounted (x1 : Int32) (x2 : Int32) (x3 : Int32) (te : Te) (le : Le) (Q : Int32 → Te → Le → Prop) : Prop :=
  p_Te_find x1 x2 x3 te (fun r7 => ((r7 = (-1 : Int32) → (∀ le34 : Le, le34 = Le_countedTerms_s le ((Le_countedTerms le) + (1 : Int32)) → (((Le_countedTerms le34) ≤ (400 : Int32) → p_Te_append x1 x2 x3 te (fun r56 te56 => ((r56 = (-1 : Int32) → Q r56 te56 le34) ∧
        (¬ r56 = (-1 : Int32) → (vp_in r56 448 ∧ ∀ le74 : Le, le74 = Le_counted_s le34 (upd (Le_counted le34) r56.toNatClampNeg (vp_nar .boolean (1 : Int32))) → Q r56 te56 le74))))) ∧
      (¬ (Le_countedTerms le34) ≤ (400 : Int32) → Q (-1 : Int32) te le34)))) ∧
    (¬ r7 = (-1 : Int32) → p_Le_countWithParts r7 te le (fun le21 => Q r7 te le21))))

abbrev rm_Le_include_after : Room := { frames := 0, cells := 0, slots := 0, locals := 0 }
def p_Le_include_after (x1 : Int32) (x2 : Int32) (le : Le) (Q : Le → Prop) : Prop :=
  ((x2 = (-1 : Int32) → Q le) ∧
    (¬ x2 = (-1 : Int32) → (vp_in (x1 + (x2 / (64 : Int32))) 3136 ∧ (vp_in (x1 + (x2 / (64 : Int32))) 3136 ∧ ∀ le21 : Le, le21 = Le_after_s le (vp_updL (Le_after le) (x1 + (x2 / (64 : Int32))).toNatClampNeg ((Le_after le (x1 + (x2 / (64 : Int32))).toNatClampNeg) ||| ((1 : Int64) <<< ((x2 - x2 / (64 : Int32) * (64 : Int32)).toInt64 &&& 63)))) → Q le21))))

abbrev rm_Le_stepInPart : Room := { frames := 4, cells := 0, slots := 0, locals := 95 }
def p_Le_stepInPart_122 (x1 : Int32) (x2 : Int32) (x3 : Int32) (Q : Te → Le → Prop) (k3 : Int32 → Te → Le → Prop) (k27 : Int32 → Int64 → Int32 → Te → Le → Prop) (x4 : Int32) (x5 : Int64) (x7 : Int32) (te : Te) (le : Le) : Prop :=
  k27 x4 ((x5.toUInt64 >>> ((1 : Int32).toInt64.toUInt64 &&& Int64.toUInt64 63)).toInt64) (x7 + (1 : Int32)) te le
def p_Le_stepInPart_119 (x1 : Int32) (x2 : Int32) (x3 : Int32) (Q : Te → Le → Prop) (k3 : Int32 → Te → Le → Prop) (k27 : Int32 → Int64 → Int32 → Te → Le → Prop) (x4 : Int32) (x5 : Int64) (x7 : Int32) (y0 : Int32) (y1 : Int32) (te : Te) (le : Le) : Prop :=
  p_Le_include_after y1 y0 le (fun le119 => p_Le_stepInPart_122 x1 x2 x3 Q k3 k27 x4 x5 x7 te le119)
def p_Le_stepInPart_27 (x1 : Int32) (x2 : Int32) (x3 : Int32) (Q : Te → Le → Prop) (k3 : Int32 → Te → Le → Prop) : Nat → Int32 → Int64 → Int32 → Te → Le → Prop
  | 0, _, _, _, _, _ => False
  | n + 1, x4, x5, x7, te, le => (((64 : Int32) ≤ x7 → k3 (x4 + (1 : Int32)) te le) ∧
    (¬ (64 : Int32) ≤ x7 → (((lg_cmp x5 (0 : Int64)) = 0 → k3 (x4 + (1 : Int32)) te le) ∧
      (¬ (lg_cmp x5 (0 : Int64)) = 0 → (((lg_cmp (x5 &&& (1 : Int64)) (0 : Int64)) = 0 → p_Le_stepInPart_122 x1 x2 x3 Q k3 (fun a0 a1 a2 a3 a4 => p_Le_stepInPart_27 x1 x2 x3 Q k3 n a0 a1 a2 a3 a4) x4 x5 x7 te le) ∧
        (¬ (lg_cmp (x5 &&& (1 : Int64)) (0 : Int64)) = 0 → ((x3 = 0 → p_Te_symbolOf x1 te (fun r103 => p_Te_firstOf x1 te (fun r111 => p_Le_findCounted r103 r111 ((x4 * (64 : Int32)) + x7) te le (fun r116 te116 le116 => p_Le_stepInPart_119 x1 x2 x3 Q k3 (fun a0 a1 a2 a3 a4 => p_Le_stepInPart_27 x1 x2 x3 Q k3 n a0 a1 a2 a3 a4) x4 x5 x7 r116 (x1 * (7 : Int32)) te116 le116)))) ∧
          (¬ x3 = 0 → p_Te_symbolOf x1 te (fun r78 => p_Te_secondOf x1 te (fun r88 => p_Le_findCounted r78 ((x4 * (64 : Int32)) + x7) r88 te le (fun r91 te91 le91 => p_Le_stepInPart_119 x1 x2 x3 Q k3 (fun a0 a1 a2 a3 a4 => p_Le_stepInPart_27 x1 x2 x3 Q k3 n a0 a1 a2 a3 a4) x4 x5 x7 r91 (x1 * (7 : Int32)) te91 le91)))))))))))
def p_Le_stepInPart_3 (x1 : Int32) (x2 : Int32) (x3 : Int32) (Q : Te → Le → Prop) : Nat → Int32 → Te → Le → Prop
  | 0, _, _, _ => False
  | n + 1, x4, te, le => (((7 : Int32) ≤ x4 → Q te le) ∧
    (¬ (7 : Int32) ≤ x4 → (vp_in ((x2 * (7 : Int32)) + x4) 3136 ∧ (∃ f, p_Le_stepInPart_27 x1 x2 x3 Q (fun a0 a1 a2 => p_Le_stepInPart_3 x1 x2 x3 Q n a0 a1 a2) f x4 (Le_after le ((x2 * (7 : Int32)) + x4).toNatClampNeg) (0 : Int32) te le))))
def p_Le_stepInPart (x1 : Int32) (x2 : Int32) (x3 : Int32) (te : Te) (le : Le) (Q : Te → Le → Prop) : Prop :=
  (∃ f, p_Le_stepInPart_3 x1 x2 x3 Q f (0 : Int32) te le)

abbrev rm_Le_expand : Room := { frames := 5, cells := 0, slots := 0, locals := 123 }
def p_Le_expand_96 (x1 : Int32) (ru : Ru) (Q : Te → Le → Prop) (x2 : Int32) (te : Te) (le : Le) : Prop :=
  ((x2 ≤ (1 : Int32) → Q te le) ∧
    (¬ x2 ≤ (1 : Int32) → p_Te_secondOf x1 te (fun r108 => p_Le_stepInPart x1 r108 (0 : Int32) te le (fun te112 le112 => Q te112 le112))))
def p_Le_expand_2 (x1 : Int32) (ru : Ru) (Q : Te → Le → Prop) : Nat → Int32 → Te → Le → Prop
  | 0, _, _, _ => False
  | n + 1, x2, te, le => p_Ru_count ru (fun r7 => ((r7 ≤ x2 → p_Te_symbolOf x1 te (fun r71 => p_Te_placesOf r71 te (fun r74 => ((r74 ≤ 0 → p_Le_expand_96 x1 ru Q r74 te le) ∧
      (¬ r74 ≤ 0 → p_Te_firstOf x1 te (fun r89 => p_Le_stepInPart x1 r89 (1 : Int32) te le (fun te93 le93 => p_Le_expand_96 x1 ru Q r74 te93 le93))))))) ∧
    (¬ r7 ≤ x2 → p_Ru_leftOf x2 ru (fun r18 => ((¬ r18 = x1 → p_Le_expand_2 x1 ru Q n (x2 + (1 : Int32)) te le) ∧
      (r18 = x1 → p_Ru_rightOf x2 ru (fun r31 => p_Le_countWithParts r31 te le (fun le34 => p_Ru_rightOf x2 ru (fun r50 => p_Le_include_after (x1 * (7 : Int32)) r50 le34 (fun le53 => p_Le_expand_2 x1 ru Q n (x2 + (1 : Int32)) te le53))))))))))
def p_Le_expand (x1 : Int32) (te : Te) (ru : Ru) (le : Le) (Q : Te → Le → Prop) : Prop :=
  (∃ f, p_Le_expand_2 x1 ru Q f (0 : Int32) te le)

abbrev rm_Le_levelOf : Room := { frames := 6, cells := 0, slots := 0, locals := 145 }
def p_Le_levelOf_111 (x1 : Int32) (x2 : Int32) (ru : Ru) (Q : Int32 → Te → Le → Prop) (x3 : Int32) (x4 : Int32) (te : Te) (le : Le) : Prop :=
  p_Te_keepFirst x3 te (fun te116 => (((400 : Int32) < (Le_countedTerms le) → Q (-2 : Int32) te116 le) ∧
    (¬ (400 : Int32) < (Le_countedTerms le) → p_Le_isIn_inLevels x2 le (fun r134 => ((r134 = 0 → Q (-2 : Int32) te116 le) ∧
      (¬ r134 = 0 → Q x4 te116 le))))))
def p_Le_levelOf_101 (x1 : Int32) (x2 : Int32) (ru : Ru) (Q : Int32 → Te → Le → Prop) (k16 : Int32 → Int32 → Te → Le → Prop) (x3 : Int32) (x4 : Int32) (te : Te) (le : Le) : Prop :=
  p_Le_goOn te le (fun le102 => k16 x3 (x4 + (1 : Int32)) te le102)
def p_Le_levelOf_54 (x1 : Int32) (x2 : Int32) (ru : Ru) (Q : Int32 → Te → Le → Prop) (k16 : Int32 → Int32 → Te → Le → Prop) : Nat → Int32 → Int32 → Int32 → Int32 → Te → Le → Prop
  | 0, _, _, _, _, _, _ => False
  | n + 1, x3, x4, x5, x6, te, le => ((x5 ≤ x6 → p_Le_levelOf_101 x1 x2 ru Q k16 x3 x4 te le) ∧
    (¬ x5 ≤ x6 → (((400 : Int32) < (Le_countedTerms le) → p_Le_levelOf_101 x1 x2 ru Q k16 x3 x4 te le) ∧
      (¬ (400 : Int32) < (Le_countedTerms le) → (vp_in x6 448 ∧ p_Le_expand (Le_waiting le x6.toNatClampNeg) te ru le (fun te79 le79 => (vp_in x6 448 ∧ (vp_in (Le_waiting le79 x6.toNatClampNeg) 448 ∧ ∀ le94 : Le, le94 = Le_expanded_s le79 (upd (Le_expanded le79) (Le_waiting le79 x6.toNatClampNeg).toNatClampNeg (vp_nar .boolean (1 : Int32))) → p_Le_levelOf_54 x1 x2 ru Q k16 n x3 x4 x5 (x6 + (1 : Int32)) te79 le94))))))))
def p_Le_levelOf_16 (x1 : Int32) (x2 : Int32) (ru : Ru) (Q : Int32 → Te → Le → Prop) : Nat → Int32 → Int32 → Te → Le → Prop
  | 0, _, _, _, _ => False
  | n + 1, x3, x4, te, le => (((400 : Int32) ≤ x4 → p_Le_levelOf_111 x1 x2 ru Q x3 x4 te le) ∧
    (¬ (400 : Int32) ≤ x4 → (((400 : Int32) < (Le_countedTerms le) → p_Le_levelOf_111 x1 x2 ru Q x3 x4 te le) ∧
      (¬ (400 : Int32) < (Le_countedTerms le) → p_Le_isIn_inLevels x2 le (fun r39 => ((¬ r39 = 0 → p_Le_levelOf_111 x1 x2 ru Q x3 x4 te le) ∧
        (r39 = 0 → p_Le_findWaiting te le (fun r46 le46 => (∃ f, p_Le_levelOf_54 x1 x2 ru Q (fun a0 a1 a2 a3 => p_Le_levelOf_16 x1 x2 ru Q n a0 a1 a2 a3) f x3 x4 r46 (0 : Int32) te le46)))))))))
def p_Le_levelOf (x1 : Int32) (x2 : Int32) (te : Te) (ru : Ru) (le : Le) (Q : Int32 → Te → Le → Prop) : Prop :=
  p_Te_count te (fun r4 => p_Le_start x1 te le (fun le10 => (∃ f, p_Le_levelOf_16 x1 x2 ru Q f r4 (0 : Int32) te le10)))
end
section
set_option maxHeartbeats 4000000 in
set_option maxRecDepth 100000 in
theorem c_Te_isMade (l : Launch) (D : va_G) (ad : Nat → Nat) (cA : ClassId × ClassId × ClassId) (te : Te) (ru : Ru) (au : Au) (re : Re) (la : La) (sp : Sp) (le : Le) (x1 : Int32) (Q : Int32 → Prop) (h : p_Te_isMade x1 te Q) : roI l y_Te_isMade (wsOf y_Te_isMade b_Te_isMade 2 (some .boolean)) rm_Te_isMade D (tyA cA) (wC ad cA) [.ref (ad 1), .int x1] (te, ru, au, re, la, sp, le) Q := by
  refine roI_of (by decide) (Nat.le_of_ble_eq_true rfl) ?_
  intro p e s m below meth c S hr hlk hK hP ls hl
  have hl : lv_has ls 2 [(0, .ref (ad 1)), (1, .int x1)] := hl
  refine lv_iload_n S.1 S.2.1 d_Te_isMade_0 rfl (lv_at hl 1 rfl) ?_
  refine lv_if_lt (tgt := 16) S.1 S.2.1 d_Te_isMade_1 (by decide) (fun hc => ?_) (fun hc => ?_)
  · have h := h.1 hc
    refine lv_iconst (v := (0 : Int32)) S.1 S.2.1 d_Te_isMade_16 rfl ?_
    exact ret_roz S hr hlk (by decide) h d_Te_isMade_17
  · have h := h.2 hc
    refine lv_iload_n S.1 S.2.1 d_Te_isMade_4 rfl (lv_at hl 1 rfl) ?_
    refine lv_aload_n S.1 S.2.1 d_Te_isMade_5 rfl (lv_at hl 0 rfl) ?_
    refine g_Te_count S hK hP d_Te_isMade_6 ?_
    refine lv_icmp_ge (tgt := 16) S.1 S.2.1 d_Te_isMade_9 (by decide) (fun hc => ?_) (fun hc => ?_)
    · have h := h.1 hc
      refine lv_iconst (v := (0 : Int32)) S.1 S.2.1 d_Te_isMade_16 rfl ?_
      exact ret_roz S hr hlk (by decide) h d_Te_isMade_17
    · have h := h.2 hc
      refine lv_iconst (v := (1 : Int32)) S.1 S.2.1 d_Te_isMade_12 rfl ?_
      refine lv_goto (tgt := 17) S.1 S.2.1 d_Te_isMade_13 (by decide) ?_
      exact ret_roz S hr hlk (by decide) h d_Te_isMade_17

set_option maxHeartbeats 4000000 in
set_option maxRecDepth 100000 in
theorem c_Te_count (l : Launch) (D : va_G) (ad : Nat → Nat) (cA : ClassId × ClassId × ClassId) (te : Te) (ru : Ru) (au : Au) (re : Re) (la : La) (sp : Sp) (le : Le)  (Q : Int32 → Prop) (h : p_Te_count  te Q) : roI l y_Te_count (wsOf y_Te_count b_Te_count 1 (some .int)) rm_Te_count D (tyA cA) (wC ad cA) [.ref (ad 1)] (te, ru, au, re, la, sp, le) Q := by
  refine roI_of (by decide) (Nat.le_of_ble_eq_true rfl) ?_
  intro p e s m below meth c S hr hlk hK hP ls hl
  have hl : lv_has ls 1 [(0, .ref (ad 1))] := hl
  refine lv_aload_n S.1 S.2.1 d_Te_count_0 rfl (lv_at hl 0 rfl) ?_
  refine g_Te_count S hK hP d_Te_count_1 ?_
  exact ret_roi S hr hlk h d_Te_count_4

set_option maxHeartbeats 4000000 in
set_option maxRecDepth 100000 in
theorem n_Ru_countAt_4 {p : Program} {l : Launch} {e : Env} {s : State} {m : MethodId} {args : Array Value} {below : List Frame} {meth : Method} {c : Code} {D : va_G} {ad : Nat → Nat} {cA : ClassId × ClassId × ClassId} {te : Te} {ru : Ru} {au : Au} {re : Re} {la : La} {sp : Sp} {le : Le} {x1 : Int32} {Q : Int32 → Prop} (S : CallFix p m c b_Ru_countAt 4 s args gtbl R_Ru) (hr : meth.sig.returnType = (some .int)) (hlk : meth.locks = false) (hK : gK D (tyA cA) s) (hP : va_P D classes (wC ad cA (te, ru, au, re, la, sp, le)) s.heap) : ∀ n : Nat, ∀ (ls : Array Slot) (x2 : Int32) (x3 : Int32), p_Ru_countAt_4 x1 ru Q n x2 x3 → lv_has ls 4 [(0, .ref (ad 9)), (1, .int x1), (2, .int x2), (3, .int x3)] → W p l e rm_Ru_countAt s m args below meth c s.heap [] 0 0 (qRI Q below args s) (F0 m 4 ls []) := by
  intro n
  induction n with
  | zero =>
    intro ls x2 x3 h
    exact (show False from h).elim
  | succ n ih =>
    intro ls x2 x3 h hl
    refine lv_iload_n S.1 S.2.1 d_Ru_countAt_4 rfl (lv_at hl 3 rfl) ?_
    refine lv_aload_n S.1 S.2.1 d_Ru_countAt_5 rfl (lv_at hl 0 rfl) ?_
    refine g_Ru_count S hK hP d_Ru_countAt_6 ?_
    refine lv_icmp_ge (tgt := 31) S.1 S.2.1 d_Ru_countAt_9 (by decide) (fun hc => ?_) (fun hc => ?_)
    · have h := h.1 hc
      refine lv_iload_n S.1 S.2.1 d_Ru_countAt_31 rfl (lv_at hl 2 rfl) ?_
      exact ret_roi S hr hlk h d_Ru_countAt_32
    · have h := h.2 hc
      refine lv_aload_n S.1 S.2.1 d_Ru_countAt_12 rfl (lv_at hl 0 rfl) ?_
      refine g_Ru_left S hK hP d_Ru_countAt_13 ?_
      refine lv_iload_n S.1 S.2.1 d_Ru_countAt_16 rfl (lv_at hl 3 rfl) ?_
      obtain ⟨hin, h⟩ := h
      refine a_Ru_left S hK hP hin d_Ru_countAt_17 ?_
      refine lv_iload_n S.1 S.2.1 d_Ru_countAt_18 rfl (lv_at hl 1 rfl) ?_
      refine lv_icmp_ne (tgt := 25) S.1 S.2.1 d_Ru_countAt_19 (by decide) (fun hc => ?_) (fun hc => ?_)
      · have h := h.1 hc
        refine lv_iinc (k := 3) (v := x3 + (1 : Int32)) (lv' := [(3, .int (x3 + (1 : Int32))), (0, .ref (ad 9)), (1, .int x1), (2, .int x2)]) S.1 S.2.1 d_Ru_countAt_25 hl rfl rfl (by decide) rfl (fun ls hl => ?_)
        refine lv_goto (tgt := 4) S.1 S.2.1 d_Ru_countAt_28 (by decide) ?_
        exact ih _ _ _ h (lv_sub hl [1, 2, 3, 0] rfl)
      · have h := h.2 hc
        refine lv_iinc (k := 2) (v := x2 + (1 : Int32)) (lv' := [(2, .int (x2 + (1 : Int32))), (0, .ref (ad 9)), (1, .int x1), (3, .int x3)]) S.1 S.2.1 d_Ru_countAt_22 hl rfl rfl (by decide) rfl (fun ls hl => ?_)
        refine lv_iinc (k := 3) (v := x3 + (1 : Int32)) (lv' := [(3, .int (x3 + (1 : Int32))), (2, .int (x2 + (1 : Int32))), (0, .ref (ad 9)), (1, .int x1)]) S.1 S.2.1 d_Ru_countAt_25 hl rfl rfl (by decide) rfl (fun ls hl => ?_)
        refine lv_goto (tgt := 4) S.1 S.2.1 d_Ru_countAt_28 (by decide) ?_
        exact ih _ _ _ h (lv_sub hl [2, 3, 1, 0] rfl)
set_option maxHeartbeats 4000000 in
set_option maxRecDepth 100000 in
theorem c_Ru_countAt (l : Launch) (D : va_G) (ad : Nat → Nat) (cA : ClassId × ClassId × ClassId) (te : Te) (ru : Ru) (au : Au) (re : Re) (la : La) (sp : Sp) (le : Le) (x1 : Int32) (Q : Int32 → Prop) (h : p_Ru_countAt x1 ru Q) : roI l y_Ru_countAt (wsOf y_Ru_countAt b_Ru_countAt 4 (some .int)) rm_Ru_countAt D (tyA cA) (wC ad cA) [.ref (ad 9), .int x1] (te, ru, au, re, la, sp, le) Q := by
  refine roI_of (by decide) (Nat.le_of_ble_eq_true rfl) ?_
  intro p e s m below meth c S hr hlk hK hP ls hl
  have hl : lv_has ls 4 [(0, .ref (ad 9)), (1, .int x1)] := hl
  refine lv_iconst (v := (0 : Int32)) S.1 S.2.1 d_Ru_countAt_0 rfl ?_
  refine lv_istore_n (lv' := [(2, .int (0 : Int32)), (0, .ref (ad 9)), (1, .int x1)]) S.1 S.2.1 d_Ru_countAt_1 rfl hl (by decide) rfl (fun ls hl => ?_)
  refine lv_iconst (v := (0 : Int32)) S.1 S.2.1 d_Ru_countAt_2 rfl ?_
  refine lv_istore_n (lv' := [(3, .int (0 : Int32)), (2, .int (0 : Int32)), (0, .ref (ad 9)), (1, .int x1)]) S.1 S.2.1 d_Ru_countAt_3 rfl hl (by decide) rfl (fun ls hl => ?_)
  obtain ⟨n', h⟩ := h
  exact n_Ru_countAt_4 S hr hlk hK hP n' _ _ _ h (lv_sub hl [2, 3, 1, 0] rfl)

set_option maxHeartbeats 4000000 in
set_option maxRecDepth 100000 in
theorem c_Te_firstOf (l : Launch) (D : va_G) (ad : Nat → Nat) (cA : ClassId × ClassId × ClassId) (te : Te) (ru : Ru) (au : Au) (re : Re) (la : La) (sp : Sp) (le : Le) (x1 : Int32) (Q : Int32 → Prop) (h : p_Te_firstOf x1 te Q) : roI l y_Te_firstOf (wsOf y_Te_firstOf b_Te_firstOf 2 (some .int)) rm_Te_firstOf D (tyA cA) (wC ad cA) [.ref (ad 1), .int x1] (te, ru, au, re, la, sp, le) Q := by
  refine roI_of (by decide) (Nat.le_of_ble_eq_true rfl) ?_
  intro p e s m below meth c S hr hlk hK hP ls hl
  have hl : lv_has ls 2 [(0, .ref (ad 1)), (1, .int x1)] := hl
  refine lv_aload_n S.1 S.2.1 d_Te_firstOf_0 rfl (lv_at hl 0 rfl) ?_
  refine g_Te_first S hK hP d_Te_firstOf_1 ?_
  refine lv_iload_n S.1 S.2.1 d_Te_firstOf_4 rfl (lv_at hl 1 rfl) ?_
  obtain ⟨hin, h⟩ := h
  refine a_Te_first S hK hP hin d_Te_firstOf_5 ?_
  exact ret_roi S hr hlk h d_Te_firstOf_6

set_option maxHeartbeats 4000000 in
set_option maxRecDepth 100000 in
theorem c_Sp_countIn (l : Launch) (D : va_G) (ad : Nat → Nat) (cA : ClassId × ClassId × ClassId) (te : Te) (ru : Ru) (au : Au) (re : Re) (la : La) (sp : Sp) (le : Le) (x1 : Int32) (Q : Int64 → Prop) (h : p_Sp_countIn x1 sp Q) : roL l y_Sp_countIn (wsOf y_Sp_countIn b_Sp_countIn 2 (some .long)) rm_Sp_countIn D (tyA cA) (wC ad cA) [.ref (ad 24), .int x1] (te, ru, au, re, la, sp, le) Q := by
  refine roL_of (by decide) (Nat.le_of_ble_eq_true rfl) ?_
  intro p e s m below meth c S hr hlk hK hP ls hl
  have hl : lv_has ls 2 [(0, .ref (ad 24)), (1, .int x1)] := hl
  refine lv_iload_n S.1 S.2.1 d_Sp_countIn_0 rfl (lv_at hl 1 rfl) ?_
  refine lv_iconst (v := (-1 : Int32)) S.1 S.2.1 d_Sp_countIn_1 rfl ?_
  refine lv_icmp_ne (tgt := 9) S.1 S.2.1 d_Sp_countIn_2 (by decide) (fun hc => ?_) (fun hc => ?_)
  · have h := h.1 hc
    refine lv_aload_n S.1 S.2.1 d_Sp_countIn_9 rfl (lv_at hl 0 rfl) ?_
    refine g_Sp_counts S hK hP d_Sp_countIn_10 ?_
    refine lv_iload_n S.1 S.2.1 d_Sp_countIn_13 rfl (lv_at hl 1 rfl) ?_
    obtain ⟨hin, h⟩ := h
    refine a_Sp_counts S hK hP hin d_Sp_countIn_14 ?_
    exact ret_rol S hr hlk h d_Sp_countIn_15
  · have h := h.2 hc
    refine lv_lconst (v := (0 : Int64)) S.1 S.2.1 d_Sp_countIn_5 rfl ?_
    refine lv_goto (tgt := 15) S.1 S.2.1 d_Sp_countIn_6 (by decide) ?_
    exact ret_rol S hr hlk h d_Sp_countIn_15

set_option maxHeartbeats 4000000 in
set_option maxRecDepth 100000 in
theorem c_Te_secondOf (l : Launch) (D : va_G) (ad : Nat → Nat) (cA : ClassId × ClassId × ClassId) (te : Te) (ru : Ru) (au : Au) (re : Re) (la : La) (sp : Sp) (le : Le) (x1 : Int32) (Q : Int32 → Prop) (h : p_Te_secondOf x1 te Q) : roI l y_Te_secondOf (wsOf y_Te_secondOf b_Te_secondOf 2 (some .int)) rm_Te_secondOf D (tyA cA) (wC ad cA) [.ref (ad 1), .int x1] (te, ru, au, re, la, sp, le) Q := by
  refine roI_of (by decide) (Nat.le_of_ble_eq_true rfl) ?_
  intro p e s m below meth c S hr hlk hK hP ls hl
  have hl : lv_has ls 2 [(0, .ref (ad 1)), (1, .int x1)] := hl
  refine lv_aload_n S.1 S.2.1 d_Te_secondOf_0 rfl (lv_at hl 0 rfl) ?_
  refine g_Te_second S hK hP d_Te_secondOf_1 ?_
  refine lv_iload_n S.1 S.2.1 d_Te_secondOf_4 rfl (lv_at hl 1 rfl) ?_
  obtain ⟨hin, h⟩ := h
  refine a_Te_second S hK hP hin d_Te_secondOf_5 ?_
  exact ret_roi S hr hlk h d_Te_secondOf_6

set_option maxHeartbeats 4000000 in
set_option maxRecDepth 100000 in
theorem n_Sp_countAll_2 {p : Program} {l : Launch} {e : Env} {s : State} {m : MethodId} {args : Array Value} {below : List Frame} {meth : Method} {c : Code} {D : va_G} {A : Nat → Prop} {ad : Nat → Nat} {cA : ClassId × ClassId × ClassId} {te : Te} {ru : Ru} {au : Au} {re : Re} {la : La} {le : Le} {Q : Sp → Prop} (S : CallFix p m c b_Sp_countAll 2 s args gtbl R_Sp) (hr : meth.sig.returnType = none) (hlk : meth.locks = false) (hK : gK D (tyA cA) s) (hA : ∀ q : Nat, s.heap.size ≤ q → A q) : ∀ n : Nat, ∀ (ls : Array Slot) (H : Heap) (locs : List Loc) (x1 : Int32) (sp : Sp), p_Sp_countAll_2 te ru Q n x1 sp → lv_has ls 2 [(0, .ref (ad 24)), (1, .int x1)] → gIn D A s (wC ad cA) (te, ru, au, re, la, sp, le) H locs → W p l e rm_Sp_countAll s m args below meth c H locs 0 0 (qV D (tyA cA) A (wC ad cA) (fun u : Sp => (te, ru, au, re, la, u, le)) (fun u : Sp => Q u) below args s) (F0 m 2 ls []) := by
  intro n
  induction n with
  | zero =>
    intro ls H locs x1 sp h
    exact (show False from h).elim
  | succ n ih =>
    intro ls H locs x1 sp h hl I
    refine lv_iload_n S.1 S.2.1 d_Sp_countAll_2 rfl (lv_at hl 1 rfl) ?_
    refine lv_aload_n S.1 S.2.1 d_Sp_countAll_3 rfl (lv_at hl 0 rfl) ?_
    refine g_Sp_terms S hK I.1 d_Sp_countAll_4 ?_
    refine callV_roi S (c_Te_count l D ad cA _ _ _ _ _ _ _ _ h) (mkV S.2.2.2.2 ml_Sp_67 k_Te_count rfl rfl ⟨Nat.le_of_ble_eq_true rfl, Nat.le_of_ble_eq_true rfl⟩) (rv_Te hK I.1) hK I.1 hl.1 rfl rfl (Nat.le_of_ble_eq_true rfl) d_Sp_countAll_7 ⟨Nat.zero_le _, Nat.zero_le _⟩ (fun r7 h => ?_)
    refine lv_icmp_ge (tgt := 60) S.1 S.2.1 d_Sp_countAll_10 (by decide) (fun hc => ?_) (fun hc => ?_)
    · have h := h.1 hc
      exact ret_rwv S hr hlk hK I h d_Sp_countAll_60
    · have h := h.2 hc
      refine lv_aload_n S.1 S.2.1 d_Sp_countAll_13 rfl (lv_at hl 0 rfl) ?_
      refine g_Sp_counts S hK I.1 d_Sp_countAll_14 ?_
      refine lv_iload_n S.1 S.2.1 d_Sp_countAll_17 rfl (lv_at hl 1 rfl) ?_
      refine lv_aload_n S.1 S.2.1 d_Sp_countAll_18 rfl (lv_at hl 0 rfl) ?_
      refine g_Sp_rules S hK I.1 d_Sp_countAll_19 ?_
      refine lv_iload_n S.1 S.2.1 d_Sp_countAll_22 rfl (lv_at hl 1 rfl) ?_
      refine callV_roi S (c_Ru_countAt l D ad cA _ _ _ _ _ _ _ _ _ h) (mkV S.2.2.2.2 ml_Sp_42 k_Ru_countAt rfl rfl ⟨Nat.le_of_ble_eq_true rfl, Nat.le_of_ble_eq_true rfl⟩) (rv_Ru hK I.1) hK I.1 hl.1 rfl rfl (Nat.le_of_ble_eq_true rfl) d_Sp_countAll_23 ⟨Nat.zero_le _, Nat.zero_le _⟩ (fun r23 h => ?_)
      refine lv_i2l S.1 S.2.1 d_Sp_countAll_26 rfl ?_
      refine lv_aload_n S.1 S.2.1 d_Sp_countAll_27 rfl (lv_at hl 0 rfl) ?_
      refine lv_aload_n S.1 S.2.1 d_Sp_countAll_28 rfl (lv_at hl 0 rfl) ?_
      refine g_Sp_terms S hK I.1 d_Sp_countAll_29 ?_
      refine lv_iload_n S.1 S.2.1 d_Sp_countAll_32 rfl (lv_at hl 1 rfl) ?_
      refine callV_roi S (c_Te_firstOf l D ad cA _ _ _ _ _ _ _ _ _ h) (mkV S.2.2.2.2 ml_Sp_48 k_Te_firstOf rfl rfl ⟨Nat.le_of_ble_eq_true rfl, Nat.le_of_ble_eq_true rfl⟩) (rv_Te hK I.1) hK I.1 hl.1 rfl rfl (Nat.le_of_ble_eq_true rfl) d_Sp_countAll_33 ⟨Nat.zero_le _, Nat.zero_le _⟩ (fun r33 h => ?_)
      refine callV_rol S (c_Sp_countIn l D ad cA _ _ _ _ _ _ _ _ _ h) (mkV S.2.2.2.2 ml_Sp_53 k_Sp_countIn rfl rfl ⟨Nat.le_of_ble_eq_true rfl, Nat.le_of_ble_eq_true rfl⟩) (rv_Sp hK I.1) hK I.1 hl.1 rfl rfl (Nat.le_of_ble_eq_true rfl) d_Sp_countAll_36 ⟨Nat.zero_le _, Nat.zero_le _⟩ (fun r36 h => ?_)
      refine lv_ladd S.1 S.2.1 d_Sp_countAll_39 ?_
      refine lv_aload_n S.1 S.2.1 d_Sp_countAll_40 rfl (lv_at hl 0 rfl) ?_
      refine lv_aload_n S.1 S.2.1 d_Sp_countAll_41 rfl (lv_at hl 0 rfl) ?_
      refine g_Sp_terms S hK I.1 d_Sp_countAll_42 ?_
      refine lv_iload_n S.1 S.2.1 d_Sp_countAll_45 rfl (lv_at hl 1 rfl) ?_
      refine callV_roi S (c_Te_secondOf l D ad cA _ _ _ _ _ _ _ _ _ h) (mkV S.2.2.2.2 ml_Sp_57 k_Te_secondOf rfl rfl ⟨Nat.le_of_ble_eq_true rfl, Nat.le_of_ble_eq_true rfl⟩) (rv_Te hK I.1) hK I.1 hl.1 rfl rfl (Nat.le_of_ble_eq_true rfl) d_Sp_countAll_46 ⟨Nat.zero_le _, Nat.zero_le _⟩ (fun r46 h => ?_)
      refine callV_rol S (c_Sp_countIn l D ad cA _ _ _ _ _ _ _ _ _ h) (mkV S.2.2.2.2 ml_Sp_53 k_Sp_countIn rfl rfl ⟨Nat.le_of_ble_eq_true rfl, Nat.le_of_ble_eq_true rfl⟩) (rv_Sp hK I.1) hK I.1 hl.1 rfl rfl (Nat.le_of_ble_eq_true rfl) d_Sp_countAll_49 ⟨Nat.zero_le _, Nat.zero_le _⟩ (fun r49 h => ?_)
      refine lv_ladd S.1 S.2.1 d_Sp_countAll_52 ?_
      obtain ⟨hin, h⟩ := h
      refine s_Sp_counts S hK I hin d_Sp_countAll_53 (fun H locs sp53 esp53 I => ?_)
      have h := h sp53 esp53
      refine lv_iinc (k := 1) (v := x1 + (1 : Int32)) (lv' := [(1, .int (x1 + (1 : Int32))), (0, .ref (ad 24))]) S.1 S.2.1 d_Sp_countAll_54 hl rfl rfl (by decide) rfl (fun ls hl => ?_)
      refine lv_goto (tgt := 2) S.1 S.2.1 d_Sp_countAll_57 (by decide) ?_
      exact ih _ _ _ _ _ h (lv_sub hl [1, 0] rfl) I
set_option maxHeartbeats 4000000 in
set_option maxRecDepth 100000 in
theorem c_Sp_countAll (l : Launch) (D : va_G) (ad : Nat → Nat) (cA : ClassId × ClassId × ClassId) (te : Te) (ru : Ru) (au : Au) (re : Re) (la : La) (sp : Sp) (le : Le)  (Q : Sp → Prop) (h : p_Sp_countAll  te ru sp Q) : rwV l y_Sp_countAll (wsOf y_Sp_countAll b_Sp_countAll 2 none) rm_Sp_countAll D (tyA cA) (wC ad cA) [.ref (ad 24)] (te, ru, au, re, la, sp, le) (fun u : Sp => (te, ru, au, re, la, u, le)) (fun u : Sp => Q u) := by
  refine rwV_of (by decide) (Nat.le_of_ble_eq_true rfl) ?_
  intro p e s m below meth c S hr hlk hK A hA I ls hl
  have hl : lv_has ls 2 [(0, .ref (ad 24))] := hl
  refine lv_iconst (v := (0 : Int32)) S.1 S.2.1 d_Sp_countAll_0 rfl ?_
  refine lv_istore_n (lv' := [(1, .int (0 : Int32)), (0, .ref (ad 24))]) S.1 S.2.1 d_Sp_countAll_1 rfl hl (by decide) rfl (fun ls hl => ?_)
  obtain ⟨n', h⟩ := h
  exact n_Sp_countAll_2 S hr hlk hK hA n' _ _ _ _ _ h (lv_sub hl [1, 0] rfl) I

set_option maxHeartbeats 4000000 in
set_option maxRecDepth 100000 in
theorem c_Sp_countOf (l : Launch) (D : va_G) (ad : Nat → Nat) (cA : ClassId × ClassId × ClassId) (te : Te) (ru : Ru) (au : Au) (re : Re) (la : La) (sp : Sp) (le : Le) (x1 : Int32) (Q : Int32 → Sp → Prop) (h : p_Sp_countOf x1 te ru sp Q) : rwI l y_Sp_countOf (wsOf y_Sp_countOf b_Sp_countOf 2 (some .int)) rm_Sp_countOf D (tyA cA) (wC ad cA) [.ref (ad 24), .int x1] (te, ru, au, re, la, sp, le) (fun u : Sp => (te, ru, au, re, la, u, le)) (fun (r : Int32) (u : Sp) => Q r u) := by
  refine rwI_of (by decide) (Nat.le_of_ble_eq_true rfl) ?_
  intro p e s m below meth c S hr hlk hK A hA I ls hl
  have hl : lv_has ls 2 [(0, .ref (ad 24)), (1, .int x1)] := hl
  refine lv_aload_n S.1 S.2.1 d_Sp_countOf_0 rfl (lv_at hl 0 rfl) ?_
  refine callV_rwv S (c_Sp_countAll l D ad cA _ _ _ _ _ _ _ _ h) (mkV S.2.2.2.2 ml_Sp_31 k_Sp_countAll rfl rfl ⟨Nat.le_of_ble_eq_true rfl, Nat.le_of_ble_eq_true rfl⟩) (rv_Sp hK I.1) hK hA I hl.1 rfl rfl (Nat.le_of_ble_eq_true rfl) d_Sp_countOf_1 ⟨Nat.zero_le _, Nat.zero_le _⟩ (fun sp1 H locs h I => ?_)
  refine lv_ldc2 (v := (1000000000 : Int64)) S.1 S.2.1 S.2.2.2.1 (S.2.2.2.2 _ kn_Sp_34) d_Sp_countOf_4 ?_
  refine lv_aload_n S.1 S.2.1 d_Sp_countOf_7 rfl (lv_at hl 0 rfl) ?_
  refine g_Sp_counts S hK I.1 d_Sp_countOf_8 ?_
  refine lv_iload_n S.1 S.2.1 d_Sp_countOf_11 rfl (lv_at hl 1 rfl) ?_
  obtain ⟨hin, h⟩ := h
  refine a_Sp_counts S hK I.1 hin d_Sp_countOf_12 ?_
  refine va_mmin_long S.1 S.2.1 (S.2.2.1.trans hl.1.symm) S.2.2.2.1 (S.2.2.2.2 _ ml_Sp_36) (S.2.2.2.2 _ st_minl) (S.2.2.2.2 _ in_Ma) (S.2.2.2.2 _ co_minl) (Nat.le_of_ble_eq_true rfl) (Nat.le_of_ble_eq_true rfl) (Nat.le_refl _) (Nat.le_refl _) d_Sp_countOf_13 ?_
  refine lv_l2i S.1 S.2.1 d_Sp_countOf_16 rfl ?_
  exact ret_rwi S hr hlk hK I h d_Sp_countOf_17

set_option maxHeartbeats 4000000 in
set_option maxRecDepth 100000 in
theorem c_Te_sizeOf (l : Launch) (D : va_G) (ad : Nat → Nat) (cA : ClassId × ClassId × ClassId) (te : Te) (ru : Ru) (au : Au) (re : Re) (la : La) (sp : Sp) (le : Le) (x1 : Int32) (Q : Int32 → Prop) (h : p_Te_sizeOf x1 te Q) : roI l y_Te_sizeOf (wsOf y_Te_sizeOf b_Te_sizeOf 2 (some .int)) rm_Te_sizeOf D (tyA cA) (wC ad cA) [.ref (ad 1), .int x1] (te, ru, au, re, la, sp, le) Q := by
  refine roI_of (by decide) (Nat.le_of_ble_eq_true rfl) ?_
  intro p e s m below meth c S hr hlk hK hP ls hl
  have hl : lv_has ls 2 [(0, .ref (ad 1)), (1, .int x1)] := hl
  refine lv_aload_n S.1 S.2.1 d_Te_sizeOf_0 rfl (lv_at hl 0 rfl) ?_
  refine g_Te_size S hK hP d_Te_sizeOf_1 ?_
  refine lv_iload_n S.1 S.2.1 d_Te_sizeOf_4 rfl (lv_at hl 1 rfl) ?_
  obtain ⟨hin, h⟩ := h
  refine a_Te_size S hK hP hin d_Te_sizeOf_5 ?_
  exact ret_roi S hr hlk h d_Te_sizeOf_6

set_option maxHeartbeats 4000000 in
set_option maxRecDepth 100000 in
theorem c_Te_symbolOf (l : Launch) (D : va_G) (ad : Nat → Nat) (cA : ClassId × ClassId × ClassId) (te : Te) (ru : Ru) (au : Au) (re : Re) (la : La) (sp : Sp) (le : Le) (x1 : Int32) (Q : Int32 → Prop) (h : p_Te_symbolOf x1 te Q) : roI l y_Te_symbolOf (wsOf y_Te_symbolOf b_Te_symbolOf 2 (some .int)) rm_Te_symbolOf D (tyA cA) (wC ad cA) [.ref (ad 1), .int x1] (te, ru, au, re, la, sp, le) Q := by
  refine roI_of (by decide) (Nat.le_of_ble_eq_true rfl) ?_
  intro p e s m below meth c S hr hlk hK hP ls hl
  have hl : lv_has ls 2 [(0, .ref (ad 1)), (1, .int x1)] := hl
  refine lv_aload_n S.1 S.2.1 d_Te_symbolOf_0 rfl (lv_at hl 0 rfl) ?_
  refine g_Te_symbol S hK hP d_Te_symbolOf_1 ?_
  refine lv_iload_n S.1 S.2.1 d_Te_symbolOf_4 rfl (lv_at hl 1 rfl) ?_
  obtain ⟨hin, h⟩ := h
  refine a_Te_symbol S hK hP hin d_Te_symbolOf_5 ?_
  exact ret_roi S hr hlk h d_Te_symbolOf_6

set_option maxHeartbeats 4000000 in
set_option maxRecDepth 100000 in
theorem c_Gr_of (l : Launch) (D : va_G) (ad : Nat → Nat) (cA : ClassId × ClassId × ClassId) (te : Te) (ru : Ru) (au : Au) (re : Re) (la : La) (sp : Sp) (le : Le) (x1 : Int32) (x2 : Int32) (Q : Int32 → Sp → Prop) (h : p_Gr_of x1 x2 te ru sp Q) : rwI l y_Gr_of (wsOf y_Gr_of b_Gr_of 3 (some .int)) rm_Gr_of D (tyA cA) (wC ad cA) [.ref (ad 0), .int x1, .int x2] (te, ru, au, re, la, sp, le) (fun u : Sp => (te, ru, au, re, la, u, le)) (fun (r : Int32) (u : Sp) => Q r u) := by
  refine rwI_of (by decide) (Nat.le_of_ble_eq_true rfl) ?_
  intro p e s m below meth c S hr hlk hK A hA I ls hl
  have hl : lv_has ls 3 [(0, .ref (ad 0)), (1, .int x1), (2, .int x2)] := hl
  refine lv_aload_n S.1 S.2.1 d_Gr_of_0 rfl (lv_at hl 0 rfl) ?_
  refine g_Gr_terms S hK I.1 d_Gr_of_1 ?_
  refine lv_iload_n S.1 S.2.1 d_Gr_of_4 rfl (lv_at hl 1 rfl) ?_
  refine callV_roi S (c_Te_isMade l D ad cA _ _ _ _ _ _ _ _ _ h) (mkV S.2.2.2.2 ml_Gr_80 k_Te_isMade rfl rfl ⟨Nat.le_of_ble_eq_true rfl, Nat.le_of_ble_eq_true rfl⟩) (rv_Te hK I.1) hK I.1 hl.1 rfl rfl (Nat.le_of_ble_eq_true rfl) d_Gr_of_5 ⟨Nat.zero_le _, Nat.zero_le _⟩ (fun r5 h => ?_)
  refine lv_if_ne (tgt := 13) S.1 S.2.1 d_Gr_of_8 (by decide) (fun hc => ?_) (fun hc => ?_)
  · have h := h.1 hc
    refine lv_iload_n S.1 S.2.1 d_Gr_of_13 rfl (lv_at hl 2 rfl) ?_
    rcases sw_cases x2 4 (by decide) with hc | hc | ⟨j, hj, hx⟩
    · refine lv_tableOut (tgt := 93) S.1 S.2.1 d_Gr_of_14 (Or.inl hc) (by decide) ?_
      have h := h.1 (Or.inl hc)
      refine lv_iconst (v := (-1 : Int32)) S.1 S.2.1 d_Gr_of_93 rfl ?_
      exact ret_rwi S hr hlk hK I h d_Gr_of_94
    · refine lv_tableOut (tgt := 93) S.1 S.2.1 d_Gr_of_14 (Or.inr hc) (by decide) ?_
      have h := h.1 (Or.inr hc)
      refine lv_iconst (v := (-1 : Int32)) S.1 S.2.1 d_Gr_of_93 rfl ?_
      exact ret_rwi S hr hlk hK I h d_Gr_of_94
    · have hj2 : j = 0 ∨ j = 1 ∨ j = 2 ∨ j = 3 ∨ j = 4 := by omega
      rcases hj2 with rfl | rfl | rfl | rfl | rfl
      · have h := h.2.1 hx
        refine lv_tableIn (tgt := 48) (off := 34) S.1 S.2.1 d_Gr_of_14 (by rw [hx]; decide) (by rw [hx]; decide) (by rw [hx]; decide) (by decide) ?_
        refine lv_aload_n S.1 S.2.1 d_Gr_of_48 rfl (lv_at hl 0 rfl) ?_
        refine g_Gr_terms S hK I.1 d_Gr_of_49 ?_
        refine lv_iload_n S.1 S.2.1 d_Gr_of_52 rfl (lv_at hl 1 rfl) ?_
        refine callV_roi S (c_Te_symbolOf l D ad cA _ _ _ _ _ _ _ _ _ h) (mkV S.2.2.2.2 ml_Gr_84 k_Te_symbolOf rfl rfl ⟨Nat.le_of_ble_eq_true rfl, Nat.le_of_ble_eq_true rfl⟩) (rv_Te hK I.1) hK I.1 hl.1 rfl rfl (Nat.le_of_ble_eq_true rfl) d_Gr_of_53 ⟨Nat.zero_le _, Nat.zero_le _⟩ (fun r53 h => ?_)
        exact ret_rwi S hr hlk hK I h d_Gr_of_56
      · have h := h.2.2.1 hx
        refine lv_tableIn (tgt := 57) (off := 43) S.1 S.2.1 d_Gr_of_14 (by rw [hx]; decide) (by rw [hx]; decide) (by rw [hx]; decide) (by decide) ?_
        refine lv_aload_n S.1 S.2.1 d_Gr_of_57 rfl (lv_at hl 0 rfl) ?_
        refine g_Gr_terms S hK I.1 d_Gr_of_58 ?_
        refine lv_iload_n S.1 S.2.1 d_Gr_of_61 rfl (lv_at hl 1 rfl) ?_
        refine callV_roi S (c_Te_firstOf l D ad cA _ _ _ _ _ _ _ _ _ h) (mkV S.2.2.2.2 ml_Gr_88 k_Te_firstOf rfl rfl ⟨Nat.le_of_ble_eq_true rfl, Nat.le_of_ble_eq_true rfl⟩) (rv_Te hK I.1) hK I.1 hl.1 rfl rfl (Nat.le_of_ble_eq_true rfl) d_Gr_of_62 ⟨Nat.zero_le _, Nat.zero_le _⟩ (fun r62 h => ?_)
        exact ret_rwi S hr hlk hK I h d_Gr_of_65
      · have h := h.2.2.2.1 hx
        refine lv_tableIn (tgt := 66) (off := 52) S.1 S.2.1 d_Gr_of_14 (by rw [hx]; decide) (by rw [hx]; decide) (by rw [hx]; decide) (by decide) ?_
        refine lv_aload_n S.1 S.2.1 d_Gr_of_66 rfl (lv_at hl 0 rfl) ?_
        refine g_Gr_terms S hK I.1 d_Gr_of_67 ?_
        refine lv_iload_n S.1 S.2.1 d_Gr_of_70 rfl (lv_at hl 1 rfl) ?_
        refine callV_roi S (c_Te_secondOf l D ad cA _ _ _ _ _ _ _ _ _ h) (mkV S.2.2.2.2 ml_Gr_91 k_Te_secondOf rfl rfl ⟨Nat.le_of_ble_eq_true rfl, Nat.le_of_ble_eq_true rfl⟩) (rv_Te hK I.1) hK I.1 hl.1 rfl rfl (Nat.le_of_ble_eq_true rfl) d_Gr_of_71 ⟨Nat.zero_le _, Nat.zero_le _⟩ (fun r71 h => ?_)
        exact ret_rwi S hr hlk hK I h d_Gr_of_74
      · have h := h.2.2.2.2.1 hx
        refine lv_tableIn (tgt := 75) (off := 61) S.1 S.2.1 d_Gr_of_14 (by rw [hx]; decide) (by rw [hx]; decide) (by rw [hx]; decide) (by decide) ?_
        refine lv_aload_n S.1 S.2.1 d_Gr_of_75 rfl (lv_at hl 0 rfl) ?_
        refine g_Gr_terms S hK I.1 d_Gr_of_76 ?_
        refine lv_iload_n S.1 S.2.1 d_Gr_of_79 rfl (lv_at hl 1 rfl) ?_
        refine callV_roi S (c_Te_sizeOf l D ad cA _ _ _ _ _ _ _ _ _ h) (mkV S.2.2.2.2 ml_Gr_94 k_Te_sizeOf rfl rfl ⟨Nat.le_of_ble_eq_true rfl, Nat.le_of_ble_eq_true rfl⟩) (rv_Te hK I.1) hK I.1 hl.1 rfl rfl (Nat.le_of_ble_eq_true rfl) d_Gr_of_80 ⟨Nat.zero_le _, Nat.zero_le _⟩ (fun r80 h => ?_)
        exact ret_rwi S hr hlk hK I h d_Gr_of_83
      · have h := h.2.2.2.2.2 hx
        refine lv_tableIn (tgt := 84) (off := 70) S.1 S.2.1 d_Gr_of_14 (by rw [hx]; decide) (by rw [hx]; decide) (by rw [hx]; decide) (by decide) ?_
        refine lv_aload_n S.1 S.2.1 d_Gr_of_84 rfl (lv_at hl 0 rfl) ?_
        refine g_Gr_steps S hK I.1 d_Gr_of_85 ?_
        refine lv_iload_n S.1 S.2.1 d_Gr_of_88 rfl (lv_at hl 1 rfl) ?_
        refine callV_rwi S (c_Sp_countOf l D ad cA _ _ _ _ _ _ _ _ _ h) (mkV S.2.2.2.2 ml_Gr_97 k_Sp_countOf rfl rfl ⟨Nat.le_of_ble_eq_true rfl, Nat.le_of_ble_eq_true rfl⟩) (rv_Sp hK I.1) hK hA I hl.1 rfl rfl (Nat.le_of_ble_eq_true rfl) d_Gr_of_89 ⟨Nat.zero_le _, Nat.zero_le _⟩ (fun r89 sp89 H locs h I => ?_)
        exact ret_rwi S hr hlk hK I h d_Gr_of_92
  · have h := h.2 hc
    refine lv_iconst (v := (-1 : Int32)) S.1 S.2.1 d_Gr_of_11 rfl ?_
    exact ret_rwi S hr hlk hK I h d_Gr_of_12

set_option maxHeartbeats 4000000 in
set_option maxRecDepth 100000 in
theorem c_Ru_dropLast (l : Launch) (D : va_G) (ad : Nat → Nat) (cA : ClassId × ClassId × ClassId) (te : Te) (ru : Ru) (au : Au) (re : Re) (la : La) (sp : Sp) (le : Le)  (Q : Int32 → Ru → Prop) (h : p_Ru_dropLast  ru Q) : rwI l y_Ru_dropLast (wsOf y_Ru_dropLast b_Ru_dropLast 1 (some .boolean)) rm_Ru_dropLast D (tyA cA) (wC ad cA) [.ref (ad 9)] (te, ru, au, re, la, sp, le) (fun u : Ru => (te, u, au, re, la, sp, le)) (fun (r : Int32) (u : Ru) => Q r u) := by
  refine rwI_of (by decide) (Nat.le_of_ble_eq_true rfl) ?_
  intro p e s m below meth c S hr hlk hK A hA I ls hl
  have hl : lv_has ls 1 [(0, .ref (ad 9))] := hl
  refine lv_aload_n S.1 S.2.1 d_Ru_dropLast_0 rfl (lv_at hl 0 rfl) ?_
  refine g_Ru_count S hK I.1 d_Ru_dropLast_1 ?_
  refine lv_if_ne (tgt := 9) S.1 S.2.1 d_Ru_dropLast_4 (by decide) (fun hc => ?_) (fun hc => ?_)
  · have h := h.1 hc
    refine lv_aload_n S.1 S.2.1 d_Ru_dropLast_9 rfl (lv_at hl 0 rfl) ?_
    refine lv_dup S.1 S.2.1 d_Ru_dropLast_10 rfl ?_
    refine g_Ru_count S hK I.1 d_Ru_dropLast_11 ?_
    refine lv_iconst (v := (1 : Int32)) S.1 S.2.1 d_Ru_dropLast_14 rfl ?_
    refine lv_isub S.1 S.2.1 d_Ru_dropLast_15 ?_
    refine q_Ru_count S hK I d_Ru_dropLast_16 (fun H locs ru16 eru16 I => ?_)
    have h := h ru16 eru16
    refine lv_aload_n S.1 S.2.1 d_Ru_dropLast_19 rfl (lv_at hl 0 rfl) ?_
    refine lv_dup S.1 S.2.1 d_Ru_dropLast_20 rfl ?_
    refine g_Ru_changes S hK I.1 d_Ru_dropLast_21 ?_
    refine lv_iconst (v := (1 : Int32)) S.1 S.2.1 d_Ru_dropLast_24 rfl ?_
    refine lv_iadd S.1 S.2.1 d_Ru_dropLast_25 ?_
    refine q_Ru_changes S hK I d_Ru_dropLast_26 (fun H locs ru26 eru26 I => ?_)
    have h := h ru26 eru26
    refine lv_iconst (v := (1 : Int32)) S.1 S.2.1 d_Ru_dropLast_29 rfl ?_
    exact ret_rwz S hr hlk hK (by decide) I h d_Ru_dropLast_30
  · have h := h.2 hc
    refine lv_iconst (v := (0 : Int32)) S.1 S.2.1 d_Ru_dropLast_7 rfl ?_
    exact ret_rwz S hr hlk hK (by decide) I h d_Ru_dropLast_8

set_option maxHeartbeats 4000000 in
set_option maxRecDepth 100000 in
theorem c_Gr_cut (l : Launch) (D : va_G) (ad : Nat → Nat) (cA : ClassId × ClassId × ClassId) (te : Te) (ru : Ru) (au : Au) (re : Re) (la : La) (sp : Sp) (le : Le)  (Q : Int32 → Ru → Prop) (h : p_Gr_cut  ru Q) : rwI l y_Gr_cut (wsOf y_Gr_cut b_Gr_cut 1 (some .boolean)) rm_Gr_cut D (tyA cA) (wC ad cA) [.ref (ad 0)] (te, ru, au, re, la, sp, le) (fun u : Ru => (te, u, au, re, la, sp, le)) (fun (r : Int32) (u : Ru) => Q r u) := by
  refine rwI_of (by decide) (Nat.le_of_ble_eq_true rfl) ?_
  intro p e s m below meth c S hr hlk hK A hA I ls hl
  have hl : lv_has ls 1 [(0, .ref (ad 0))] := hl
  refine lv_aload_n S.1 S.2.1 d_Gr_cut_0 rfl (lv_at hl 0 rfl) ?_
  refine g_Gr_rules S hK I.1 d_Gr_cut_1 ?_
  refine callV_rwi S (c_Ru_dropLast l D ad cA _ _ _ _ _ _ _ _ h) (mkV S.2.2.2.2 ml_Gr_104 k_Ru_dropLast rfl rfl ⟨Nat.le_of_ble_eq_true rfl, Nat.le_of_ble_eq_true rfl⟩) (rv_Ru hK I.1) hK hA I hl.1 rfl rfl (Nat.le_of_ble_eq_true rfl) d_Gr_cut_4 ⟨Nat.zero_le _, Nat.zero_le _⟩ (fun r4 ru4 H locs h I => ?_)
  obtain ⟨hz, h⟩ := h
  exact ret_rwz S hr hlk hK (isB_n hz) I h d_Gr_cut_7

set_option maxHeartbeats 4000000 in
set_option maxRecDepth 100000 in
theorem c_Gr_isState (l : Launch) (D : va_G) (ad : Nat → Nat) (cA : ClassId × ClassId × ClassId) (te : Te) (ru : Ru) (au : Au) (re : Re) (la : La) (sp : Sp) (le : Le) (x0 : Int32) (Q : Int32 → Prop) (h : p_Gr_isState x0  Q) : roI l y_Gr_isState (wsOf y_Gr_isState b_Gr_isState 1 (some .boolean)) rm_Gr_isState D (tyA cA) (wC ad cA) [.int x0] (te, ru, au, re, la, sp, le) Q := by
  refine roI_of (by decide) (Nat.le_of_ble_eq_true rfl) ?_
  intro p e s m below meth c S hr hlk hK hP ls hl
  have hl : lv_has ls 1 [(0, .int x0)] := hl
  refine lv_iload_n S.1 S.2.1 d_Gr_isState_0 rfl (lv_at hl 0 rfl) ?_
  refine lv_if_lt (tgt := 14) S.1 S.2.1 d_Gr_isState_1 (by decide) (fun hc => ?_) (fun hc => ?_)
  · have h := h.1 hc
    refine lv_iconst (v := (0 : Int32)) S.1 S.2.1 d_Gr_isState_14 rfl ?_
    exact ret_roz S hr hlk (by decide) h d_Gr_isState_15
  · have h := h.2 hc
    refine lv_iload_n S.1 S.2.1 d_Gr_isState_4 rfl (lv_at hl 0 rfl) ?_
    refine lv_bipush (v := (6 : Int32)) S.1 S.2.1 d_Gr_isState_5 rfl ?_
    refine lv_icmp_ge (tgt := 14) S.1 S.2.1 d_Gr_isState_7 (by decide) (fun hc => ?_) (fun hc => ?_)
    · have h := h.1 hc
      refine lv_iconst (v := (0 : Int32)) S.1 S.2.1 d_Gr_isState_14 rfl ?_
      exact ret_roz S hr hlk (by decide) h d_Gr_isState_15
    · have h := h.2 hc
      refine lv_iconst (v := (1 : Int32)) S.1 S.2.1 d_Gr_isState_10 rfl ?_
      refine lv_goto (tgt := 15) S.1 S.2.1 d_Gr_isState_11 (by decide) ?_
      exact ret_roz S hr hlk (by decide) h d_Gr_isState_15

set_option maxHeartbeats 4000000 in
set_option maxRecDepth 100000 in
theorem n_Au_setFinal_25 {p : Program} {l : Launch} {e : Env} {s : State} {m : MethodId} {args : Array Value} {below : List Frame} {meth : Method} {c : Code} {D : va_G} {A : Nat → Prop} {ad : Nat → Nat} {cA : ClassId × ClassId × ClassId} {te : Te} {ru : Ru} {re : Re} {la : La} {sp : Sp} {le : Le} {x1 : Int32} {x2 : Int32} {Q : Int32 → Au → Prop} (S : CallFix p m c b_Au_setFinal 4 s args gtbl R_Au) (hr : meth.sig.returnType = (some .boolean)) (hlk : meth.locks = false) (hK : gK D (tyA cA) s) (hA : ∀ q : Nat, s.heap.size ≤ q → A q) : ∀ (ls : Array Slot) (H : Heap) (locs : List Loc) (y0 : Int32) (au : Au), p_Au_setFinal_25 x1 x2 Q y0 au → lv_has ls 4 [(0, .ref (ad 12))] → gIn D A s (wC ad cA) (te, ru, au, re, la, sp, le) H locs → W p l e rm_Au_setFinal s m args below meth c H locs 0 0 (qI D (tyA cA) A (wC ad cA) (fun u : Au => (te, ru, u, re, la, sp, le)) (fun (r : Int32) (u : Au) => Q r u) below args s) (F0 m 25 ls [.int y0]) := by
  intro ls H locs y0 au h hl I
  refine lv_istore_n (lv' := [(3, .int y0), (0, .ref (ad 12))]) S.1 S.2.1 d_Au_setFinal_25 rfl hl (by decide) rfl (fun ls hl => ?_)
  refine lv_iload_n S.1 S.2.1 d_Au_setFinal_26 rfl (lv_at hl 0 rfl) ?_
  refine lv_aload_n S.1 S.2.1 d_Au_setFinal_27 rfl (lv_at hl 1 rfl) ?_
  refine g_Au_finals S hK I.1 d_Au_setFinal_28 ?_
  refine lv_icmp_ne (tgt := 36) S.1 S.2.1 d_Au_setFinal_31 (by decide) (fun hc => ?_) (fun hc => ?_)
  · have h := h.1 hc
    refine lv_aload_n S.1 S.2.1 d_Au_setFinal_36 rfl (lv_at hl 1 rfl) ?_
    refine lv_iload_n S.1 S.2.1 d_Au_setFinal_37 rfl (lv_at hl 0 rfl) ?_
    refine q_Au_finals S hK I d_Au_setFinal_38 (fun H locs au38 eau38 I => ?_)
    have h := h au38 eau38
    refine lv_iconst (v := (1 : Int32)) S.1 S.2.1 d_Au_setFinal_41 rfl ?_
    exact ret_rwz S hr hlk hK (by decide) I h d_Au_setFinal_42
  · have h := h.2 hc
    refine lv_iconst (v := (0 : Int32)) S.1 S.2.1 d_Au_setFinal_34 rfl ?_
    exact ret_rwz S hr hlk hK (by decide) I h d_Au_setFinal_35
set_option maxHeartbeats 4000000 in
set_option maxRecDepth 100000 in
theorem c_Au_setFinal (l : Launch) (D : va_G) (ad : Nat → Nat) (cA : ClassId × ClassId × ClassId) (te : Te) (ru : Ru) (au : Au) (re : Re) (la : La) (sp : Sp) (le : Le) (x1 : Int32) (x2 : Int32) (Q : Int32 → Au → Prop) (h : p_Au_setFinal x1 x2 au Q) : rwI l y_Au_setFinal (wsOf y_Au_setFinal b_Au_setFinal 4 (some .boolean)) rm_Au_setFinal D (tyA cA) (wC ad cA) [.ref (ad 12), .int x1, .int x2] (te, ru, au, re, la, sp, le) (fun u : Au => (te, ru, u, re, la, sp, le)) (fun (r : Int32) (u : Au) => Q r u) := by
  refine rwI_of (by decide) (Nat.le_of_ble_eq_true rfl) ?_
  intro p e s m below meth c S hr hlk hK A hA I ls hl
  have hl : lv_has ls 4 [(0, .ref (ad 12)), (1, .int x1), (2, .int x2)] := hl
  refine lv_iload_n S.1 S.2.1 d_Au_setFinal_0 rfl (lv_at hl 2 rfl) ?_
  refine lv_if_eq (tgt := 15) S.1 S.2.1 d_Au_setFinal_1 (by decide) (fun hc => ?_) (fun hc => ?_)
  · have h := h.1 hc
    refine lv_aload_n S.1 S.2.1 d_Au_setFinal_15 rfl (lv_at hl 0 rfl) ?_
    refine g_Au_finals S hK I.1 d_Au_setFinal_16 ?_
    refine lv_iconst (v := (1 : Int32)) S.1 S.2.1 d_Au_setFinal_19 rfl ?_
    refine lv_iload_n S.1 S.2.1 d_Au_setFinal_20 rfl (lv_at hl 1 rfl) ?_
    refine lv_ishl S.1 S.2.1 d_Au_setFinal_21 ?_
    refine lv_iconst (v := (-1 : Int32)) S.1 S.2.1 d_Au_setFinal_22 rfl ?_
    refine lv_ixor S.1 S.2.1 d_Au_setFinal_23 ?_
    refine lv_iand S.1 S.2.1 d_Au_setFinal_24 ?_
    exact n_Au_setFinal_25 S hr hlk hK hA _ _ _ _ _ h (lv_sub hl [0] rfl) I
  · have h := h.2 hc
    refine lv_aload_n S.1 S.2.1 d_Au_setFinal_4 rfl (lv_at hl 0 rfl) ?_
    refine g_Au_finals S hK I.1 d_Au_setFinal_5 ?_
    refine lv_iconst (v := (1 : Int32)) S.1 S.2.1 d_Au_setFinal_8 rfl ?_
    refine lv_iload_n S.1 S.2.1 d_Au_setFinal_9 rfl (lv_at hl 1 rfl) ?_
    refine lv_ishl S.1 S.2.1 d_Au_setFinal_10 ?_
    refine lv_ior S.1 S.2.1 d_Au_setFinal_11 ?_
    refine lv_goto (tgt := 25) S.1 S.2.1 d_Au_setFinal_12 (by decide) ?_
    exact n_Au_setFinal_25 S hr hlk hK hA _ _ _ _ _ h (lv_sub hl [0] rfl) I

set_option maxHeartbeats 4000000 in
set_option maxRecDepth 100000 in
theorem c_Gr_mark (l : Launch) (D : va_G) (ad : Nat → Nat) (cA : ClassId × ClassId × ClassId) (te : Te) (ru : Ru) (au : Au) (re : Re) (la : La) (sp : Sp) (le : Le) (x1 : Int32) (x2 : Int32) (Q : Int32 → Au → Prop) (h : p_Gr_mark x1 x2 au Q) : rwI l y_Gr_mark (wsOf y_Gr_mark b_Gr_mark 3 (some .boolean)) rm_Gr_mark D (tyA cA) (wC ad cA) [.ref (ad 0), .int x1, .int x2] (te, ru, au, re, la, sp, le) (fun u : Au => (te, ru, u, re, la, sp, le)) (fun (r : Int32) (u : Au) => Q r u) := by
  refine rwI_of (by decide) (Nat.le_of_ble_eq_true rfl) ?_
  intro p e s m below meth c S hr hlk hK A hA I ls hl
  have hl : lv_has ls 3 [(0, .ref (ad 0)), (1, .int x1), (2, .int x2)] := hl
  refine lv_iload_n S.1 S.2.1 d_Gr_mark_0 rfl (lv_at hl 1 rfl) ?_
  refine callS_roi S (c_Gr_isState l D ad cA _ _ _ _ _ _ _ _ _ h) (mkS S.2.2.2.2 ml_Gr_116 k_Gr_isState rfl rfl ⟨Nat.le_of_ble_eq_true rfl, Nat.le_of_ble_eq_true rfl⟩) hK I.1 hl.1 rfl rfl (Nat.le_of_ble_eq_true rfl) d_Gr_mark_1 ⟨Nat.zero_le _, Nat.zero_le _⟩ (fun r1 h => ?_)
  refine lv_if_eq (tgt := 23) S.1 S.2.1 d_Gr_mark_4 (by decide) (fun hc => ?_) (fun hc => ?_)
  · have h := h.1 hc
    refine lv_iconst (v := (0 : Int32)) S.1 S.2.1 d_Gr_mark_23 rfl ?_
    exact ret_rwz S hr hlk hK (by decide) I h d_Gr_mark_24
  · have h := h.2 hc
    refine lv_aload_n S.1 S.2.1 d_Gr_mark_7 rfl (lv_at hl 0 rfl) ?_
    refine g_Gr_automaton S hK I.1 d_Gr_mark_8 ?_
    refine lv_iload_n S.1 S.2.1 d_Gr_mark_11 rfl (lv_at hl 1 rfl) ?_
    refine lv_iload_n S.1 S.2.1 d_Gr_mark_12 rfl (lv_at hl 2 rfl) ?_
    refine callV_rwi S (c_Au_setFinal l D ad cA _ _ _ _ _ _ _ _ _ _ h) (mkV S.2.2.2.2 ml_Gr_119 k_Au_setFinal rfl rfl ⟨Nat.le_of_ble_eq_true rfl, Nat.le_of_ble_eq_true rfl⟩) (rv_Au hK I.1) hK hA I hl.1 rfl rfl (Nat.le_of_ble_eq_true rfl) d_Gr_mark_13 ⟨Nat.zero_le _, Nat.zero_le _⟩ (fun r13 au13 H locs h I => ?_)
    refine lv_if_eq (tgt := 23) S.1 S.2.1 d_Gr_mark_16 (by decide) (fun hc => ?_) (fun hc => ?_)
    · have h := h.1 hc
      refine lv_iconst (v := (0 : Int32)) S.1 S.2.1 d_Gr_mark_23 rfl ?_
      exact ret_rwz S hr hlk hK (by decide) I h d_Gr_mark_24
    · have h := h.2 hc
      refine lv_iconst (v := (1 : Int32)) S.1 S.2.1 d_Gr_mark_19 rfl ?_
      refine lv_goto (tgt := 24) S.1 S.2.1 d_Gr_mark_20 (by decide) ?_
      exact ret_rwz S hr hlk hK (by decide) I h d_Gr_mark_24

set_option maxHeartbeats 4000000 in
set_option maxRecDepth 100000 in
theorem c_Te_placesOf (l : Launch) (D : va_G) (ad : Nat → Nat) (cA : ClassId × ClassId × ClassId) (te : Te) (ru : Ru) (au : Au) (re : Re) (la : La) (sp : Sp) (le : Le) (x1 : Int32) (Q : Int32 → Prop) (h : p_Te_placesOf x1 te Q) : roI l y_Te_placesOf (wsOf y_Te_placesOf b_Te_placesOf 2 (some .int)) rm_Te_placesOf D (tyA cA) (wC ad cA) [.ref (ad 1), .int x1] (te, ru, au, re, la, sp, le) Q := by
  refine roI_of (by decide) (Nat.le_of_ble_eq_true rfl) ?_
  intro p e s m below meth c S hr hlk hK hP ls hl
  have hl : lv_has ls 2 [(0, .ref (ad 1)), (1, .int x1)] := hl
  refine lv_aload_n S.1 S.2.1 d_Te_placesOf_0 rfl (lv_at hl 0 rfl) ?_
  refine g_Te_places S hK hP d_Te_placesOf_1 ?_
  refine lv_iload_n S.1 S.2.1 d_Te_placesOf_4 rfl (lv_at hl 1 rfl) ?_
  obtain ⟨hin, h⟩ := h
  refine a_Te_places S hK hP hin d_Te_placesOf_5 ?_
  exact ret_roi S hr hlk h d_Te_placesOf_6

set_option maxHeartbeats 4000000 in
set_option maxRecDepth 100000 in
theorem c_Au_finals (l : Launch) (D : va_G) (ad : Nat → Nat) (cA : ClassId × ClassId × ClassId) (te : Te) (ru : Ru) (au : Au) (re : Re) (la : La) (sp : Sp) (le : Le)  (Q : Int32 → Prop) (h : p_Au_finals  au Q) : roI l y_Au_finals (wsOf y_Au_finals b_Au_finals 1 (some .int)) rm_Au_finals D (tyA cA) (wC ad cA) [.ref (ad 12)] (te, ru, au, re, la, sp, le) Q := by
  refine roI_of (by decide) (Nat.le_of_ble_eq_true rfl) ?_
  intro p e s m below meth c S hr hlk hK hP ls hl
  have hl : lv_has ls 1 [(0, .ref (ad 12))] := hl
  refine lv_aload_n S.1 S.2.1 d_Au_finals_0 rfl (lv_at hl 0 rfl) ?_
  refine g_Au_finals S hK hP d_Au_finals_1 ?_
  exact ret_roi S hr hlk h d_Au_finals_4

set_option maxHeartbeats 4000000 in
set_option maxRecDepth 100000 in
theorem c_Au_count (l : Launch) (D : va_G) (ad : Nat → Nat) (cA : ClassId × ClassId × ClassId) (te : Te) (ru : Ru) (au : Au) (re : Re) (la : La) (sp : Sp) (le : Le)  (Q : Int32 → Prop) (h : p_Au_count  au Q) : roI l y_Au_count (wsOf y_Au_count b_Au_count 1 (some .int)) rm_Au_count D (tyA cA) (wC ad cA) [.ref (ad 12)] (te, ru, au, re, la, sp, le) Q := by
  refine roI_of (by decide) (Nat.le_of_ble_eq_true rfl) ?_
  intro p e s m below meth c S hr hlk hK hP ls hl
  have hl : lv_has ls 1 [(0, .ref (ad 12))] := hl
  refine lv_aload_n S.1 S.2.1 d_Au_count_0 rfl (lv_at hl 0 rfl) ?_
  refine g_Au_count S hK hP d_Au_count_1 ?_
  exact ret_roi S hr hlk h d_Au_count_4

set_option maxHeartbeats 4000000 in
set_option maxRecDepth 100000 in
theorem c_Ru_count (l : Launch) (D : va_G) (ad : Nat → Nat) (cA : ClassId × ClassId × ClassId) (te : Te) (ru : Ru) (au : Au) (re : Re) (la : La) (sp : Sp) (le : Le)  (Q : Int32 → Prop) (h : p_Ru_count  ru Q) : roI l y_Ru_count (wsOf y_Ru_count b_Ru_count 1 (some .int)) rm_Ru_count D (tyA cA) (wC ad cA) [.ref (ad 9)] (te, ru, au, re, la, sp, le) Q := by
  refine roI_of (by decide) (Nat.le_of_ble_eq_true rfl) ?_
  intro p e s m below meth c S hr hlk hK hP ls hl
  have hl : lv_has ls 1 [(0, .ref (ad 9))] := hl
  refine lv_aload_n S.1 S.2.1 d_Ru_count_0 rfl (lv_at hl 0 rfl) ?_
  refine g_Ru_count S hK hP d_Ru_count_1 ?_
  exact ret_roi S hr hlk h d_Ru_count_4

set_option maxHeartbeats 4000000 in
set_option maxRecDepth 100000 in
theorem c_Gr_look (l : Launch) (D : va_G) (ad : Nat → Nat) (cA : ClassId × ClassId × ClassId) (te : Te) (ru : Ru) (au : Au) (re : Re) (la : La) (sp : Sp) (le : Le) (x1 : Int32) (Q : Int32 → Prop) (h : p_Gr_look x1 te ru au Q) : roI l y_Gr_look (wsOf y_Gr_look b_Gr_look 2 (some .int)) rm_Gr_look D (tyA cA) (wC ad cA) [.ref (ad 0), .int x1] (te, ru, au, re, la, sp, le) Q := by
  refine roI_of (by decide) (Nat.le_of_ble_eq_true rfl) ?_
  intro p e s m below meth c S hr hlk hK hP ls hl
  have hl : lv_has ls 2 [(0, .ref (ad 0)), (1, .int x1)] := hl
  refine lv_iload_n S.1 S.2.1 d_Gr_look_0 rfl (lv_at hl 1 rfl) ?_
  rcases sw_cases x1 3 (by decide) with hc | hc | ⟨j, hj, hx⟩
  · refine lv_tableOut (tgt := 64) S.1 S.2.1 d_Gr_look_1 (Or.inl hc) (by decide) ?_
    have h := h.1 (Or.inl hc)
    refine lv_iload_n S.1 S.2.1 d_Gr_look_64 rfl (lv_at hl 1 rfl) ?_
    refine lv_iconst (v := (4 : Int32)) S.1 S.2.1 d_Gr_look_65 rfl ?_
    refine lv_icmp_lt (tgt := 88) S.1 S.2.1 d_Gr_look_66 (by decide) (fun hc => ?_) (fun hc => ?_)
    · have h := h.1 hc
      refine lv_iconst (v := (-1 : Int32)) S.1 S.2.1 d_Gr_look_88 rfl ?_
      exact ret_roi S hr hlk h d_Gr_look_89
    · have h := h.2 hc
      refine lv_iload_n S.1 S.2.1 d_Gr_look_69 rfl (lv_at hl 1 rfl) ?_
      refine lv_bipush (v := (10 : Int32)) S.1 S.2.1 d_Gr_look_70 rfl ?_
      refine lv_icmp_ge (tgt := 88) S.1 S.2.1 d_Gr_look_72 (by decide) (fun hc => ?_) (fun hc => ?_)
      · have h := h.1 hc
        refine lv_iconst (v := (-1 : Int32)) S.1 S.2.1 d_Gr_look_88 rfl ?_
        exact ret_roi S hr hlk h d_Gr_look_89
      · have h := h.2 hc
        refine lv_aload_n S.1 S.2.1 d_Gr_look_75 rfl (lv_at hl 0 rfl) ?_
        refine g_Gr_terms S hK hP d_Gr_look_76 ?_
        refine lv_iload_n S.1 S.2.1 d_Gr_look_79 rfl (lv_at hl 1 rfl) ?_
        refine lv_iconst (v := (4 : Int32)) S.1 S.2.1 d_Gr_look_80 rfl ?_
        refine lv_isub S.1 S.2.1 d_Gr_look_81 ?_
        refine callV_roi S (c_Te_placesOf l D ad cA _ _ _ _ _ _ _ _ _ h) (mkV S.2.2.2.2 ml_Gr_167 k_Te_placesOf rfl rfl ⟨Nat.le_of_ble_eq_true rfl, Nat.le_of_ble_eq_true rfl⟩) (rv_Te hK hP) hK hP hl.1 rfl rfl (Nat.le_of_ble_eq_true rfl) d_Gr_look_82 ⟨Nat.zero_le _, Nat.zero_le _⟩ (fun r82 h => ?_)
        refine lv_goto (tgt := 89) S.1 S.2.1 d_Gr_look_85 (by decide) ?_
        exact ret_roi S hr hlk h d_Gr_look_89
  · refine lv_tableOut (tgt := 64) S.1 S.2.1 d_Gr_look_1 (Or.inr hc) (by decide) ?_
    have h := h.1 (Or.inr hc)
    refine lv_iload_n S.1 S.2.1 d_Gr_look_64 rfl (lv_at hl 1 rfl) ?_
    refine lv_iconst (v := (4 : Int32)) S.1 S.2.1 d_Gr_look_65 rfl ?_
    refine lv_icmp_lt (tgt := 88) S.1 S.2.1 d_Gr_look_66 (by decide) (fun hc => ?_) (fun hc => ?_)
    · have h := h.1 hc
      refine lv_iconst (v := (-1 : Int32)) S.1 S.2.1 d_Gr_look_88 rfl ?_
      exact ret_roi S hr hlk h d_Gr_look_89
    · have h := h.2 hc
      refine lv_iload_n S.1 S.2.1 d_Gr_look_69 rfl (lv_at hl 1 rfl) ?_
      refine lv_bipush (v := (10 : Int32)) S.1 S.2.1 d_Gr_look_70 rfl ?_
      refine lv_icmp_ge (tgt := 88) S.1 S.2.1 d_Gr_look_72 (by decide) (fun hc => ?_) (fun hc => ?_)
      · have h := h.1 hc
        refine lv_iconst (v := (-1 : Int32)) S.1 S.2.1 d_Gr_look_88 rfl ?_
        exact ret_roi S hr hlk h d_Gr_look_89
      · have h := h.2 hc
        refine lv_aload_n S.1 S.2.1 d_Gr_look_75 rfl (lv_at hl 0 rfl) ?_
        refine g_Gr_terms S hK hP d_Gr_look_76 ?_
        refine lv_iload_n S.1 S.2.1 d_Gr_look_79 rfl (lv_at hl 1 rfl) ?_
        refine lv_iconst (v := (4 : Int32)) S.1 S.2.1 d_Gr_look_80 rfl ?_
        refine lv_isub S.1 S.2.1 d_Gr_look_81 ?_
        refine callV_roi S (c_Te_placesOf l D ad cA _ _ _ _ _ _ _ _ _ h) (mkV S.2.2.2.2 ml_Gr_167 k_Te_placesOf rfl rfl ⟨Nat.le_of_ble_eq_true rfl, Nat.le_of_ble_eq_true rfl⟩) (rv_Te hK hP) hK hP hl.1 rfl rfl (Nat.le_of_ble_eq_true rfl) d_Gr_look_82 ⟨Nat.zero_le _, Nat.zero_le _⟩ (fun r82 h => ?_)
        refine lv_goto (tgt := 89) S.1 S.2.1 d_Gr_look_85 (by decide) ?_
        exact ret_roi S hr hlk h d_Gr_look_89
  · have hj2 : j = 0 ∨ j = 1 ∨ j = 2 ∨ j = 3 := by omega
    rcases hj2 with rfl | rfl | rfl | rfl
    · have h := h.2.1 hx
      refine lv_tableIn (tgt := 32) (off := 31) S.1 S.2.1 d_Gr_look_1 (by rw [hx]; decide) (by rw [hx]; decide) (by rw [hx]; decide) (by decide) ?_
      refine lv_aload_n S.1 S.2.1 d_Gr_look_32 rfl (lv_at hl 0 rfl) ?_
      refine g_Gr_terms S hK hP d_Gr_look_33 ?_
      refine callV_roi S (c_Te_count l D ad cA _ _ _ _ _ _ _ _ h) (mkV S.2.2.2.2 ml_Gr_158 k_Te_count rfl rfl ⟨Nat.le_of_ble_eq_true rfl, Nat.le_of_ble_eq_true rfl⟩) (rv_Te hK hP) hK hP hl.1 rfl rfl (Nat.le_of_ble_eq_true rfl) d_Gr_look_36 ⟨Nat.zero_le _, Nat.zero_le _⟩ (fun r36 h => ?_)
      exact ret_roi S hr hlk h d_Gr_look_39
    · have h := h.2.2.1 hx
      refine lv_tableIn (tgt := 40) (off := 39) S.1 S.2.1 d_Gr_look_1 (by rw [hx]; decide) (by rw [hx]; decide) (by rw [hx]; decide) (by decide) ?_
      refine lv_aload_n S.1 S.2.1 d_Gr_look_40 rfl (lv_at hl 0 rfl) ?_
      refine g_Gr_rules S hK hP d_Gr_look_41 ?_
      refine callV_roi S (c_Ru_count l D ad cA _ _ _ _ _ _ _ _ h) (mkV S.2.2.2.2 ml_Gr_162 k_Ru_count rfl rfl ⟨Nat.le_of_ble_eq_true rfl, Nat.le_of_ble_eq_true rfl⟩) (rv_Ru hK hP) hK hP hl.1 rfl rfl (Nat.le_of_ble_eq_true rfl) d_Gr_look_44 ⟨Nat.zero_le _, Nat.zero_le _⟩ (fun r44 h => ?_)
      exact ret_roi S hr hlk h d_Gr_look_47
    · have h := h.2.2.2.1 hx
      refine lv_tableIn (tgt := 48) (off := 47) S.1 S.2.1 d_Gr_look_1 (by rw [hx]; decide) (by rw [hx]; decide) (by rw [hx]; decide) (by decide) ?_
      refine lv_aload_n S.1 S.2.1 d_Gr_look_48 rfl (lv_at hl 0 rfl) ?_
      refine g_Gr_automaton S hK hP d_Gr_look_49 ?_
      refine callV_roi S (c_Au_count l D ad cA _ _ _ _ _ _ _ _ h) (mkV S.2.2.2.2 ml_Gr_163 k_Au_count rfl rfl ⟨Nat.le_of_ble_eq_true rfl, Nat.le_of_ble_eq_true rfl⟩) (rv_Au hK hP) hK hP hl.1 rfl rfl (Nat.le_of_ble_eq_true rfl) d_Gr_look_52 ⟨Nat.zero_le _, Nat.zero_le _⟩ (fun r52 h => ?_)
      exact ret_roi S hr hlk h d_Gr_look_55
    · have h := h.2.2.2.2 hx
      refine lv_tableIn (tgt := 56) (off := 55) S.1 S.2.1 d_Gr_look_1 (by rw [hx]; decide) (by rw [hx]; decide) (by rw [hx]; decide) (by decide) ?_
      refine lv_aload_n S.1 S.2.1 d_Gr_look_56 rfl (lv_at hl 0 rfl) ?_
      refine g_Gr_automaton S hK hP d_Gr_look_57 ?_
      refine callV_roi S (c_Au_finals l D ad cA _ _ _ _ _ _ _ _ h) (mkV S.2.2.2.2 ml_Gr_164 k_Au_finals rfl rfl ⟨Nat.le_of_ble_eq_true rfl, Nat.le_of_ble_eq_true rfl⟩) (rv_Au hK hP) hK hP hl.1 rfl rfl (Nat.le_of_ble_eq_true rfl) d_Gr_look_60 ⟨Nat.zero_le _, Nat.zero_le _⟩ (fun r60 h => ?_)
      exact ret_roi S hr hlk h d_Gr_look_63

set_option maxHeartbeats 4000000 in
set_option maxRecDepth 100000 in
theorem c_Te_isSymbol (l : Launch) (D : va_G) (ad : Nat → Nat) (cA : ClassId × ClassId × ClassId) (te : Te) (ru : Ru) (au : Au) (re : Re) (la : La) (sp : Sp) (le : Le) (x1 : Int32) (Q : Int32 → Prop) (h : p_Te_isSymbol x1  Q) : roI l y_Te_isSymbol (wsOf y_Te_isSymbol b_Te_isSymbol 2 (some .boolean)) rm_Te_isSymbol D (tyA cA) (wC ad cA) [.ref (ad 1), .int x1] (te, ru, au, re, la, sp, le) Q := by
  refine roI_of (by decide) (Nat.le_of_ble_eq_true rfl) ?_
  intro p e s m below meth c S hr hlk hK hP ls hl
  have hl : lv_has ls 2 [(0, .ref (ad 1)), (1, .int x1)] := hl
  refine lv_iload_n S.1 S.2.1 d_Te_isSymbol_0 rfl (lv_at hl 1 rfl) ?_
  refine lv_if_lt (tgt := 14) S.1 S.2.1 d_Te_isSymbol_1 (by decide) (fun hc => ?_) (fun hc => ?_)
  · have h := h.1 hc
    refine lv_iconst (v := (0 : Int32)) S.1 S.2.1 d_Te_isSymbol_14 rfl ?_
    exact ret_roz S hr hlk (by decide) h d_Te_isSymbol_15
  · have h := h.2 hc
    refine lv_iload_n S.1 S.2.1 d_Te_isSymbol_4 rfl (lv_at hl 1 rfl) ?_
    refine lv_bipush (v := (6 : Int32)) S.1 S.2.1 d_Te_isSymbol_5 rfl ?_
    refine lv_icmp_ge (tgt := 14) S.1 S.2.1 d_Te_isSymbol_7 (by decide) (fun hc => ?_) (fun hc => ?_)
    · have h := h.1 hc
      refine lv_iconst (v := (0 : Int32)) S.1 S.2.1 d_Te_isSymbol_14 rfl ?_
      exact ret_roz S hr hlk (by decide) h d_Te_isSymbol_15
    · have h := h.2 hc
      refine lv_iconst (v := (1 : Int32)) S.1 S.2.1 d_Te_isSymbol_10 rfl ?_
      refine lv_goto (tgt := 15) S.1 S.2.1 d_Te_isSymbol_11 (by decide) ?_
      exact ret_roz S hr hlk (by decide) h d_Te_isSymbol_15

set_option maxHeartbeats 4000000 in
set_option maxRecDepth 100000 in
theorem n_Te_canStand_44 {p : Program} {l : Launch} {e : Env} {s : State} {m : MethodId} {args : Array Value} {below : List Frame} {meth : Method} {c : Code} {D : va_G} {ad : Nat → Nat} {cA : ClassId × ClassId × ClassId} {te : Te} {ru : Ru} {au : Au} {re : Re} {la : La} {sp : Sp} {le : Le} {x1 : Int32} {x2 : Int32} {x3 : Int32} {Q : Int32 → Prop} (S : CallFix p m c b_Te_canStand 4 s args gtbl R_Te) (hr : meth.sig.returnType = (some .boolean)) (hlk : meth.locks = false) (hK : gK D (tyA cA) s) (hP : va_P D classes (wC ad cA (te, ru, au, re, la, sp, le)) s.heap) : ∀ (ls : Array Slot) , p_Te_canStand_44 x1 x2 x3 te Q  → lv_has ls 4 [] → W p l e rm_Te_canStand s m args below meth c s.heap [] 0 0 (qRI Q below args s) (F0 m 44 ls []) := by
  intro ls  h hl
  refine lv_iconst (v := (1 : Int32)) S.1 S.2.1 d_Te_canStand_44 rfl ?_
  refine lv_goto (tgt := 49) S.1 S.2.1 d_Te_canStand_45 (by decide) ?_
  exact ret_roz S hr hlk (by decide) h d_Te_canStand_49
set_option maxHeartbeats 4000000 in
set_option maxRecDepth 100000 in
theorem n_Te_canStand_26 {p : Program} {l : Launch} {e : Env} {s : State} {m : MethodId} {args : Array Value} {below : List Frame} {meth : Method} {c : Code} {D : va_G} {ad : Nat → Nat} {cA : ClassId × ClassId × ClassId} {te : Te} {ru : Ru} {au : Au} {re : Re} {la : La} {sp : Sp} {le : Le} {x1 : Int32} {x2 : Int32} {x3 : Int32} {Q : Int32 → Prop} (S : CallFix p m c b_Te_canStand 4 s args gtbl R_Te) (hr : meth.sig.returnType = (some .boolean)) (hlk : meth.locks = false) (hK : gK D (tyA cA) s) (hP : va_P D classes (wC ad cA (te, ru, au, re, la, sp, le)) s.heap) : ∀ (ls : Array Slot) , p_Te_canStand_26 x1 x2 x3 te Q  → lv_has ls 4 [(0, .ref (ad 1)), (1, .int x1), (3, .int x3)] → W p l e rm_Te_canStand s m args below meth c s.heap [] 0 0 (qRI Q below args s) (F0 m 26 ls []) := by
  intro ls  h hl
  refine lv_aload_n S.1 S.2.1 d_Te_canStand_26 rfl (lv_at hl 0 rfl) ?_
  refine g_Te_places S hK hP d_Te_canStand_27 ?_
  refine lv_iload_n S.1 S.2.1 d_Te_canStand_30 rfl (lv_at hl 1 rfl) ?_
  obtain ⟨hin, h⟩ := h
  refine a_Te_places S hK hP hin d_Te_canStand_31 ?_
  refine lv_iconst (v := (2 : Int32)) S.1 S.2.1 d_Te_canStand_32 rfl ?_
  refine lv_icmp_lt (tgt := 44) S.1 S.2.1 d_Te_canStand_33 (by decide) (fun hc => ?_) (fun hc => ?_)
  · have h := h.1 hc
    exact n_Te_canStand_44 S hr hlk hK hP _ h (lv_sub hl [] rfl)
  · have h := h.2 hc
    refine lv_aload_n S.1 S.2.1 d_Te_canStand_36 rfl (lv_at hl 0 rfl) ?_
    refine lv_iload_n S.1 S.2.1 d_Te_canStand_37 rfl (lv_at hl 2 rfl) ?_
    refine callV_roi S (c_Te_isMade l D ad cA _ _ _ _ _ _ _ _ _ h) (mkV S.2.2.2.2 ml_Te_53 k_Te_isMade rfl rfl ⟨Nat.le_of_ble_eq_true rfl, Nat.le_of_ble_eq_true rfl⟩) (rv_Te hK hP) hK hP hl.1 rfl rfl (Nat.le_of_ble_eq_true rfl) d_Te_canStand_38 ⟨Nat.zero_le _, Nat.zero_le _⟩ (fun r38 h => ?_)
    refine lv_if_eq (tgt := 48) S.1 S.2.1 d_Te_canStand_41 (by decide) (fun hc => ?_) (fun hc => ?_)
    · have h := h.1 hc
      refine lv_iconst (v := (0 : Int32)) S.1 S.2.1 d_Te_canStand_48 rfl ?_
      exact ret_roz S hr hlk (by decide) h d_Te_canStand_49
    · have h := h.2 hc
      exact n_Te_canStand_44 S hr hlk hK hP _ h (lv_sub hl [] rfl)
set_option maxHeartbeats 4000000 in
set_option maxRecDepth 100000 in
theorem c_Te_canStand (l : Launch) (D : va_G) (ad : Nat → Nat) (cA : ClassId × ClassId × ClassId) (te : Te) (ru : Ru) (au : Au) (re : Re) (la : La) (sp : Sp) (le : Le) (x1 : Int32) (x2 : Int32) (x3 : Int32) (Q : Int32 → Prop) (h : p_Te_canStand x1 x2 x3 te Q) : roI l y_Te_canStand (wsOf y_Te_canStand b_Te_canStand 4 (some .boolean)) rm_Te_canStand D (tyA cA) (wC ad cA) [.ref (ad 1), .int x1, .int x2, .int x3] (te, ru, au, re, la, sp, le) Q := by
  refine roI_of (by decide) (Nat.le_of_ble_eq_true rfl) ?_
  intro p e s m below meth c S hr hlk hK hP ls hl
  have hl : lv_has ls 4 [(0, .ref (ad 1)), (1, .int x1), (2, .int x2), (3, .int x3)] := hl
  refine lv_aload_n S.1 S.2.1 d_Te_canStand_0 rfl (lv_at hl 0 rfl) ?_
  refine lv_iload_n S.1 S.2.1 d_Te_canStand_1 rfl (lv_at hl 1 rfl) ?_
  refine callV_roi S (c_Te_isSymbol l D ad cA _ _ _ _ _ _ _ _ _ h) (mkV S.2.2.2.2 ml_Te_49 k_Te_isSymbol rfl rfl ⟨Nat.le_of_ble_eq_true rfl, Nat.le_of_ble_eq_true rfl⟩) (rv_Te hK hP) hK hP hl.1 rfl rfl (Nat.le_of_ble_eq_true rfl) d_Te_canStand_2 ⟨Nat.zero_le _, Nat.zero_le _⟩ (fun r2 h => ?_)
  refine lv_if_eq (tgt := 48) S.1 S.2.1 d_Te_canStand_5 (by decide) (fun hc => ?_) (fun hc => ?_)
  · have h := h.1 hc
    refine lv_iconst (v := (0 : Int32)) S.1 S.2.1 d_Te_canStand_48 rfl ?_
    exact ret_roz S hr hlk (by decide) h d_Te_canStand_49
  · have h := h.2 hc
    refine lv_aload_n S.1 S.2.1 d_Te_canStand_8 rfl (lv_at hl 0 rfl) ?_
    refine g_Te_places S hK hP d_Te_canStand_9 ?_
    refine lv_iload_n S.1 S.2.1 d_Te_canStand_12 rfl (lv_at hl 1 rfl) ?_
    obtain ⟨hin, h⟩ := h
    refine a_Te_places S hK hP hin d_Te_canStand_13 ?_
    refine lv_iconst (v := (1 : Int32)) S.1 S.2.1 d_Te_canStand_14 rfl ?_
    refine lv_icmp_lt (tgt := 26) S.1 S.2.1 d_Te_canStand_15 (by decide) (fun hc => ?_) (fun hc => ?_)
    · have h := h.1 hc
      exact n_Te_canStand_26 S hr hlk hK hP _ h (lv_sub hl [0, 1, 3] rfl)
    · have h := h.2 hc
      refine lv_aload_n S.1 S.2.1 d_Te_canStand_18 rfl (lv_at hl 0 rfl) ?_
      refine lv_iload_n S.1 S.2.1 d_Te_canStand_19 rfl (lv_at hl 2 rfl) ?_
      refine callV_roi S (c_Te_isMade l D ad cA _ _ _ _ _ _ _ _ _ h) (mkV S.2.2.2.2 ml_Te_53 k_Te_isMade rfl rfl ⟨Nat.le_of_ble_eq_true rfl, Nat.le_of_ble_eq_true rfl⟩) (rv_Te hK hP) hK hP hl.1 rfl rfl (Nat.le_of_ble_eq_true rfl) d_Te_canStand_20 ⟨Nat.zero_le _, Nat.zero_le _⟩ (fun r20 h => ?_)
      refine lv_if_eq (tgt := 48) S.1 S.2.1 d_Te_canStand_23 (by decide) (fun hc => ?_) (fun hc => ?_)
      · have h := h.1 hc
        refine lv_iconst (v := (0 : Int32)) S.1 S.2.1 d_Te_canStand_48 rfl ?_
        exact ret_roz S hr hlk (by decide) h d_Te_canStand_49
      · have h := h.2 hc
        exact n_Te_canStand_26 S hr hlk hK hP _ h (lv_sub hl [0, 1, 3] rfl)

set_option maxHeartbeats 4000000 in
set_option maxRecDepth 100000 in
theorem c_Te_bucketOf (l : Launch) (D : va_G) (ad : Nat → Nat) (cA : ClassId × ClassId × ClassId) (te : Te) (ru : Ru) (au : Au) (re : Re) (la : La) (sp : Sp) (le : Le) (x0 : Int32) (x1 : Int32) (x2 : Int32) (Q : Int32 → Prop) (h : p_Te_bucketOf x0 x1 x2  Q) : roI l y_Te_bucketOf (wsOf y_Te_bucketOf b_Te_bucketOf 3 (some .int)) rm_Te_bucketOf D (tyA cA) (wC ad cA) [.int x0, .int x1, .int x2] (te, ru, au, re, la, sp, le) Q := by
  refine roI_of (by decide) (Nat.le_of_ble_eq_true rfl) ?_
  intro p e s m below meth c S hr hlk hK hP ls hl
  have hl : lv_has ls 3 [(0, .int x0), (1, .int x1), (2, .int x2)] := hl
  refine lv_iload_n S.1 S.2.1 d_Te_bucketOf_0 rfl (lv_at hl 0 rfl) ?_
  refine lv_sipush (v := (961 : Int32)) S.1 S.2.1 d_Te_bucketOf_1 rfl ?_
  refine lv_imul S.1 S.2.1 d_Te_bucketOf_4 ?_
  refine lv_iload_n S.1 S.2.1 d_Te_bucketOf_5 rfl (lv_at hl 1 rfl) ?_
  refine lv_bipush (v := (31 : Int32)) S.1 S.2.1 d_Te_bucketOf_6 rfl ?_
  refine lv_imul S.1 S.2.1 d_Te_bucketOf_8 ?_
  refine lv_iadd S.1 S.2.1 d_Te_bucketOf_9 ?_
  refine lv_iload_n S.1 S.2.1 d_Te_bucketOf_10 rfl (lv_at hl 2 rfl) ?_
  refine lv_iadd S.1 S.2.1 d_Te_bucketOf_11 ?_
  refine lv_sipush (v := (255 : Int32)) S.1 S.2.1 d_Te_bucketOf_12 rfl ?_
  refine lv_iand S.1 S.2.1 d_Te_bucketOf_15 ?_
  exact ret_roi S hr hlk h d_Te_bucketOf_16

set_option maxHeartbeats 4000000 in
set_option maxRecDepth 100000 in
theorem n_Te_find_104 {p : Program} {l : Launch} {e : Env} {s : State} {m : MethodId} {args : Array Value} {below : List Frame} {meth : Method} {c : Code} {D : va_G} {ad : Nat → Nat} {cA : ClassId × ClassId × ClassId} {te : Te} {ru : Ru} {au : Au} {re : Re} {la : La} {sp : Sp} {le : Le} {x1 : Int32} {x2 : Int32} {x3 : Int32} {Q : Int32 → Prop} (S : CallFix p m c b_Te_find 8 s args gtbl R_Te) (hr : meth.sig.returnType = (some .int)) (hlk : meth.locks = false) (hK : gK D (tyA cA) s) (hP : va_P D classes (wC ad cA (te, ru, au, re, la, sp, le)) s.heap) {k52 : Int32 → Int32 → Int32 → Int32 → Prop} (hk52 : ∀ (ls : Array Slot) (x4 : Int32) (x5 : Int32) (x6 : Int32) (x7 : Int32), k52 x4 x5 x6 x7 → lv_has ls 8 [(0, .ref (ad 1)), (1, .int x1), (4, .int x4), (5, .int x5), (6, .int x6), (7, .int x7)] → W p l e rm_Te_find s m args below meth c s.heap [] 0 0 (qRI Q below args s) (F0 m 52 ls [])) : ∀ (ls : Array Slot) (x4 : Int32) (x5 : Int32) (x6 : Int32) (x7 : Int32), p_Te_find_104 x1 x2 x3 te Q k52 x4 x5 x6 x7 → lv_has ls 8 [(0, .ref (ad 1)), (1, .int x1), (4, .int x4), (5, .int x5), (6, .int x6), (7, .int x7)] → W p l e rm_Te_find s m args below meth c s.heap [] 0 0 (qRI Q below args s) (F0 m 104 ls []) := by
  intro ls x4 x5 x6 x7 h hl
  refine lv_aload_n S.1 S.2.1 d_Te_find_104 rfl (lv_at hl 0 rfl) ?_
  refine g_Te_olderInBucket S hK hP d_Te_find_105 ?_
  refine lv_iload S.1 S.2.1 d_Te_find_108 (lv_at hl 4 rfl) ?_
  obtain ⟨hin, h⟩ := h
  refine a_Te_olderInBucket S hK hP hin d_Te_find_110 ?_
  refine lv_istore (lv' := [(6, .int (Te_olderInBucket te x6.toNatClampNeg)), (0, .ref (ad 1)), (1, .int x1), (4, .int x4), (5, .int x5), (7, .int x7)]) S.1 S.2.1 d_Te_find_111 hl (by decide) rfl (fun ls hl => ?_)
  refine lv_iinc (k := 5) (v := x7 + (1 : Int32)) (lv' := [(7, .int (x7 + (1 : Int32))), (6, .int (Te_olderInBucket te x6.toNatClampNeg)), (0, .ref (ad 1)), (1, .int x1), (4, .int x4), (5, .int x5)]) S.1 S.2.1 d_Te_find_113 hl rfl rfl (by decide) rfl (fun ls hl => ?_)
  refine lv_goto (tgt := 52) S.1 S.2.1 d_Te_find_116 (by decide) ?_
  exact hk52 _ _ _ _ _ h (lv_sub hl [2, 3, 4, 5, 1, 0] rfl)
set_option maxHeartbeats 4000000 in
set_option maxRecDepth 100000 in
theorem n_Te_find_52 {p : Program} {l : Launch} {e : Env} {s : State} {m : MethodId} {args : Array Value} {below : List Frame} {meth : Method} {c : Code} {D : va_G} {ad : Nat → Nat} {cA : ClassId × ClassId × ClassId} {te : Te} {ru : Ru} {au : Au} {re : Re} {la : La} {sp : Sp} {le : Le} {x1 : Int32} {x2 : Int32} {x3 : Int32} {Q : Int32 → Prop} (S : CallFix p m c b_Te_find 8 s args gtbl R_Te) (hr : meth.sig.returnType = (some .int)) (hlk : meth.locks = false) (hK : gK D (tyA cA) s) (hP : va_P D classes (wC ad cA (te, ru, au, re, la, sp, le)) s.heap) : ∀ n : Nat, ∀ (ls : Array Slot) (x4 : Int32) (x5 : Int32) (x6 : Int32) (x7 : Int32), p_Te_find_52 x1 x2 x3 te Q n x4 x5 x6 x7 → lv_has ls 8 [(0, .ref (ad 1)), (1, .int x1), (4, .int x4), (5, .int x5), (6, .int x6), (7, .int x7)] → W p l e rm_Te_find s m args below meth c s.heap [] 0 0 (qRI Q below args s) (F0 m 52 ls []) := by
  intro n
  induction n with
  | zero =>
    intro ls x4 x5 x6 x7 h
    exact (show False from h).elim
  | succ n ih =>
    intro ls x4 x5 x6 x7 h hl
    refine lv_iload S.1 S.2.1 d_Te_find_52 (lv_at hl 5 rfl) ?_
    refine lv_sipush (v := (448 : Int32)) S.1 S.2.1 d_Te_find_54 rfl ?_
    refine lv_icmp_ge (tgt := 119) S.1 S.2.1 d_Te_find_57 (by decide) (fun hc => ?_) (fun hc => ?_)
    · have h := h.1 hc
      refine lv_iconst (v := (-1 : Int32)) S.1 S.2.1 d_Te_find_119 rfl ?_
      exact ret_roi S hr hlk h d_Te_find_120
    · have h := h.2 hc
      refine lv_iload S.1 S.2.1 d_Te_find_60 (lv_at hl 4 rfl) ?_
      refine lv_iconst (v := (-1 : Int32)) S.1 S.2.1 d_Te_find_62 rfl ?_
      refine lv_icmp_eq (tgt := 119) S.1 S.2.1 d_Te_find_63 (by decide) (fun hc => ?_) (fun hc => ?_)
      · have h := h.1 hc
        refine lv_iconst (v := (-1 : Int32)) S.1 S.2.1 d_Te_find_119 rfl ?_
        exact ret_roi S hr hlk h d_Te_find_120
      · have h := h.2 hc
        refine lv_aload_n S.1 S.2.1 d_Te_find_66 rfl (lv_at hl 0 rfl) ?_
        refine g_Te_symbol S hK hP d_Te_find_67 ?_
        refine lv_iload S.1 S.2.1 d_Te_find_70 (lv_at hl 4 rfl) ?_
        obtain ⟨hin, h⟩ := h
        refine a_Te_symbol S hK hP hin d_Te_find_72 ?_
        refine lv_iload_n S.1 S.2.1 d_Te_find_73 rfl (lv_at hl 1 rfl) ?_
        refine lv_icmp_ne (tgt := 104) S.1 S.2.1 d_Te_find_74 (by decide) (fun hc => ?_) (fun hc => ?_)
        · have h := h.1 hc
          exact n_Te_find_104 S hr hlk hK hP ih _ _ _ _ _ h (lv_sub hl [0, 1, 2, 3, 4, 5] rfl)
        · have h := h.2 hc
          refine lv_aload_n S.1 S.2.1 d_Te_find_77 rfl (lv_at hl 0 rfl) ?_
          refine g_Te_first S hK hP d_Te_find_78 ?_
          refine lv_iload S.1 S.2.1 d_Te_find_81 (lv_at hl 4 rfl) ?_
          obtain ⟨hin, h⟩ := h
          refine a_Te_first S hK hP hin d_Te_find_83 ?_
          refine lv_iload S.1 S.2.1 d_Te_find_84 (lv_at hl 2 rfl) ?_
          refine lv_icmp_ne (tgt := 104) S.1 S.2.1 d_Te_find_86 (by decide) (fun hc => ?_) (fun hc => ?_)
          · have h := h.1 hc
            exact n_Te_find_104 S hr hlk hK hP ih _ _ _ _ _ h (lv_sub hl [0, 1, 2, 3, 4, 5] rfl)
          · have h := h.2 hc
            refine lv_aload_n S.1 S.2.1 d_Te_find_89 rfl (lv_at hl 0 rfl) ?_
            refine g_Te_second S hK hP d_Te_find_90 ?_
            refine lv_iload S.1 S.2.1 d_Te_find_93 (lv_at hl 4 rfl) ?_
            obtain ⟨hin, h⟩ := h
            refine a_Te_second S hK hP hin d_Te_find_95 ?_
            refine lv_iload S.1 S.2.1 d_Te_find_96 (lv_at hl 3 rfl) ?_
            refine lv_icmp_ne (tgt := 104) S.1 S.2.1 d_Te_find_98 (by decide) (fun hc => ?_) (fun hc => ?_)
            · have h := h.1 hc
              exact n_Te_find_104 S hr hlk hK hP ih _ _ _ _ _ h (lv_sub hl [0, 1, 2, 3, 4, 5] rfl)
            · have h := h.2 hc
              refine lv_iload S.1 S.2.1 d_Te_find_101 (lv_at hl 4 rfl) ?_
              exact ret_roi S hr hlk h d_Te_find_103
set_option maxHeartbeats 4000000 in
set_option maxRecDepth 100000 in
theorem n_Te_find_32 {p : Program} {l : Launch} {e : Env} {s : State} {m : MethodId} {args : Array Value} {below : List Frame} {meth : Method} {c : Code} {D : va_G} {ad : Nat → Nat} {cA : ClassId × ClassId × ClassId} {te : Te} {ru : Ru} {au : Au} {re : Re} {la : La} {sp : Sp} {le : Le} {x1 : Int32} {x2 : Int32} {x3 : Int32} {Q : Int32 → Prop} (S : CallFix p m c b_Te_find 8 s args gtbl R_Te) (hr : meth.sig.returnType = (some .int)) (hlk : meth.locks = false) (hK : gK D (tyA cA) s) (hP : va_P D classes (wC ad cA (te, ru, au, re, la, sp, le)) s.heap) : ∀ (ls : Array Slot) (x4 : Int32) (y0 : Int32), p_Te_find_32 x1 x2 x3 te Q x4 y0 → lv_has ls 8 [(0, .ref (ad 1)), (1, .int x1), (4, .int x4)] → W p l e rm_Te_find s m args below meth c s.heap [] 0 0 (qRI Q below args s) (F0 m 32 ls [.int y0]) := by
  intro ls x4 y0 h hl
  refine lv_istore (lv' := [(5, .int y0), (0, .ref (ad 1)), (1, .int x1), (4, .int x4)]) S.1 S.2.1 d_Te_find_32 hl (by decide) rfl (fun ls hl => ?_)
  refine lv_aload_n S.1 S.2.1 d_Te_find_34 rfl (lv_at hl 1 rfl) ?_
  refine g_Te_newestIn S hK hP d_Te_find_35 ?_
  refine lv_iload_n S.1 S.2.1 d_Te_find_38 rfl (lv_at hl 2 rfl) ?_
  refine lv_iload S.1 S.2.1 d_Te_find_39 (lv_at hl 3 rfl) ?_
  refine lv_iload S.1 S.2.1 d_Te_find_41 (lv_at hl 0 rfl) ?_
  refine callS_roi S (c_Te_bucketOf l D ad cA _ _ _ _ _ _ _ _ _ _ _ h) (mkS S.2.2.2.2 ml_Te_63 k_Te_bucketOf rfl rfl ⟨Nat.le_of_ble_eq_true rfl, Nat.le_of_ble_eq_true rfl⟩) hK hP hl.1 rfl rfl (Nat.le_of_ble_eq_true rfl) d_Te_find_43 ⟨Nat.zero_le _, Nat.zero_le _⟩ (fun r43 h => ?_)
  obtain ⟨hin, h⟩ := h
  refine a_Te_newestIn S hK hP hin d_Te_find_46 ?_
  refine lv_istore (lv' := [(6, .int (Te_newestIn te r43.toNatClampNeg)), (5, .int y0), (0, .ref (ad 1)), (1, .int x1), (4, .int x4)]) S.1 S.2.1 d_Te_find_47 hl (by decide) rfl (fun ls hl => ?_)
  refine lv_iconst (v := (0 : Int32)) S.1 S.2.1 d_Te_find_49 rfl ?_
  refine lv_istore (lv' := [(7, .int (0 : Int32)), (6, .int (Te_newestIn te r43.toNatClampNeg)), (5, .int y0), (0, .ref (ad 1)), (1, .int x1), (4, .int x4)]) S.1 S.2.1 d_Te_find_50 hl (by decide) rfl (fun ls hl => ?_)
  obtain ⟨n', h⟩ := h
  exact n_Te_find_52 S hr hlk hK hP n' _ _ _ _ _ h (lv_sub hl [3, 4, 5, 2, 1, 0] rfl)
set_option maxHeartbeats 4000000 in
set_option maxRecDepth 100000 in
theorem n_Te_find_15 {p : Program} {l : Launch} {e : Env} {s : State} {m : MethodId} {args : Array Value} {below : List Frame} {meth : Method} {c : Code} {D : va_G} {ad : Nat → Nat} {cA : ClassId × ClassId × ClassId} {te : Te} {ru : Ru} {au : Au} {re : Re} {la : La} {sp : Sp} {le : Le} {x1 : Int32} {x2 : Int32} {x3 : Int32} {Q : Int32 → Prop} (S : CallFix p m c b_Te_find 8 s args gtbl R_Te) (hr : meth.sig.returnType = (some .int)) (hlk : meth.locks = false) (hK : gK D (tyA cA) s) (hP : va_P D classes (wC ad cA (te, ru, au, re, la, sp, le)) s.heap) : ∀ (ls : Array Slot) (y0 : Int32), p_Te_find_15 x1 x2 x3 te Q y0 → lv_has ls 8 [(0, .ref (ad 1)), (1, .int x1), (3, .int x3)] → W p l e rm_Te_find s m args below meth c s.heap [] 0 0 (qRI Q below args s) (F0 m 15 ls [.int y0]) := by
  intro ls y0 h hl
  refine lv_istore (lv' := [(4, .int y0), (0, .ref (ad 1)), (1, .int x1), (3, .int x3)]) S.1 S.2.1 d_Te_find_15 hl (by decide) rfl (fun ls hl => ?_)
  refine lv_aload_n S.1 S.2.1 d_Te_find_17 rfl (lv_at hl 1 rfl) ?_
  refine g_Te_places S hK hP d_Te_find_18 ?_
  refine lv_iload_n S.1 S.2.1 d_Te_find_21 rfl (lv_at hl 2 rfl) ?_
  obtain ⟨hin, h⟩ := h
  refine a_Te_places S hK hP hin d_Te_find_22 ?_
  refine lv_iconst (v := (2 : Int32)) S.1 S.2.1 d_Te_find_23 rfl ?_
  refine lv_icmp_ge (tgt := 31) S.1 S.2.1 d_Te_find_24 (by decide) (fun hc => ?_) (fun hc => ?_)
  · have h := h.1 hc
    refine lv_iload_n S.1 S.2.1 d_Te_find_31 rfl (lv_at hl 3 rfl) ?_
    exact n_Te_find_32 S hr hlk hK hP _ _ _ h (lv_sub hl [1, 2, 0] rfl)
  · have h := h.2 hc
    refine lv_iconst (v := (-1 : Int32)) S.1 S.2.1 d_Te_find_27 rfl ?_
    refine lv_goto (tgt := 32) S.1 S.2.1 d_Te_find_28 (by decide) ?_
    exact n_Te_find_32 S hr hlk hK hP _ _ _ h (lv_sub hl [1, 2, 0] rfl)
set_option maxHeartbeats 4000000 in
set_option maxRecDepth 100000 in
theorem c_Te_find (l : Launch) (D : va_G) (ad : Nat → Nat) (cA : ClassId × ClassId × ClassId) (te : Te) (ru : Ru) (au : Au) (re : Re) (la : La) (sp : Sp) (le : Le) (x1 : Int32) (x2 : Int32) (x3 : Int32) (Q : Int32 → Prop) (h : p_Te_find x1 x2 x3 te Q) : roI l y_Te_find (wsOf y_Te_find b_Te_find 8 (some .int)) rm_Te_find D (tyA cA) (wC ad cA) [.ref (ad 1), .int x1, .int x2, .int x3] (te, ru, au, re, la, sp, le) Q := by
  refine roI_of (by decide) (Nat.le_of_ble_eq_true rfl) ?_
  intro p e s m below meth c S hr hlk hK hP ls hl
  have hl : lv_has ls 8 [(0, .ref (ad 1)), (1, .int x1), (2, .int x2), (3, .int x3)] := hl
  refine lv_aload_n S.1 S.2.1 d_Te_find_0 rfl (lv_at hl 0 rfl) ?_
  refine g_Te_places S hK hP d_Te_find_1 ?_
  refine lv_iload_n S.1 S.2.1 d_Te_find_4 rfl (lv_at hl 1 rfl) ?_
  obtain ⟨hin, h⟩ := h
  refine a_Te_places S hK hP hin d_Te_find_5 ?_
  refine lv_iconst (v := (1 : Int32)) S.1 S.2.1 d_Te_find_6 rfl ?_
  refine lv_icmp_ge (tgt := 14) S.1 S.2.1 d_Te_find_7 (by decide) (fun hc => ?_) (fun hc => ?_)
  · have h := h.1 hc
    refine lv_iload_n S.1 S.2.1 d_Te_find_14 rfl (lv_at hl 2 rfl) ?_
    exact n_Te_find_15 S hr hlk hK hP _ _ h (lv_sub hl [0, 1, 3] rfl)
  · have h := h.2 hc
    refine lv_iconst (v := (-1 : Int32)) S.1 S.2.1 d_Te_find_10 rfl ?_
    refine lv_goto (tgt := 15) S.1 S.2.1 d_Te_find_11 (by decide) ?_
    exact n_Te_find_15 S hr hlk hK hP _ _ h (lv_sub hl [0, 1, 3] rfl)
end
section
set_option maxHeartbeats 4000000 in
set_option maxRecDepth 100000 in
theorem n_Te_joinedSize_40 {p : Program} {l : Launch} {e : Env} {s : State} {m : MethodId} {args : Array Value} {below : List Frame} {meth : Method} {c : Code} {D : va_G} {ad : Nat → Nat} {cA : ClassId × ClassId × ClassId} {te : Te} {ru : Ru} {au : Au} {re : Re} {la : La} {sp : Sp} {le : Le} {x1 : Int32} {x2 : Int32} {x3 : Int32} {Q : Int32 → Prop} (S : CallFix p m c b_Te_joinedSize 5 s args gtbl R_Te) (hr : meth.sig.returnType = (some .int)) (hlk : meth.locks = false) (hK : gK D (tyA cA) s) (hP : va_P D classes (wC ad cA (te, ru, au, re, la, sp, le)) s.heap) : ∀ (ls : Array Slot) (y0 : Int32) (y1 : Int32), p_Te_joinedSize_40 x1 x2 x3 te Q y0 y1 → lv_has ls 5 [] → W p l e rm_Te_joinedSize s m args below meth c s.heap [] 0 0 (qRI Q below args s) (F0 m 40 ls [.int y0, .int y1]) := by
  intro ls y0 y1 h hl
  refine lv_iadd S.1 S.2.1 d_Te_joinedSize_40 ?_
  refine lv_istore (lv' := [(4, .int (y1 + y0))]) S.1 S.2.1 d_Te_joinedSize_41 hl (by decide) rfl (fun ls hl => ?_)
  refine lv_ldc (v := (1000000000 : Int32)) S.1 S.2.1 S.2.2.2.1 (S.2.2.2.2 _ kn_Te_69) d_Te_joinedSize_43 ?_
  refine lv_iconst (v := (1 : Int32)) S.1 S.2.1 d_Te_joinedSize_45 rfl ?_
  refine lv_iload S.1 S.2.1 d_Te_joinedSize_46 (lv_at hl 0 rfl) ?_
  refine lv_iadd S.1 S.2.1 d_Te_joinedSize_48 ?_
  refine va_mmin S.1 S.2.1 (S.2.2.1.trans hl.1.symm) S.2.2.2.1 (S.2.2.2.2 _ ml_Te_33) (S.2.2.2.2 _ st_min) (S.2.2.2.2 _ in_Ma) (S.2.2.2.2 _ co_min) (Nat.le_of_ble_eq_true rfl) (Nat.le_of_ble_eq_true rfl) (Nat.le_refl _) (Nat.le_refl _) d_Te_joinedSize_49 ?_
  exact ret_roi S hr hlk h d_Te_joinedSize_52
set_option maxHeartbeats 4000000 in
set_option maxRecDepth 100000 in
theorem n_Te_joinedSize_20 {p : Program} {l : Launch} {e : Env} {s : State} {m : MethodId} {args : Array Value} {below : List Frame} {meth : Method} {c : Code} {D : va_G} {ad : Nat → Nat} {cA : ClassId × ClassId × ClassId} {te : Te} {ru : Ru} {au : Au} {re : Re} {la : La} {sp : Sp} {le : Le} {x1 : Int32} {x2 : Int32} {x3 : Int32} {Q : Int32 → Prop} (S : CallFix p m c b_Te_joinedSize 5 s args gtbl R_Te) (hr : meth.sig.returnType = (some .int)) (hlk : meth.locks = false) (hK : gK D (tyA cA) s) (hP : va_P D classes (wC ad cA (te, ru, au, re, la, sp, le)) s.heap) : ∀ (ls : Array Slot) (y0 : Int32), p_Te_joinedSize_20 x1 x2 x3 te Q y0 → lv_has ls 5 [(0, .ref (ad 1)), (1, .int x1), (3, .int x3)] → W p l e rm_Te_joinedSize s m args below meth c s.heap [] 0 0 (qRI Q below args s) (F0 m 20 ls [.int y0]) := by
  intro ls y0 h hl
  refine lv_aload_n S.1 S.2.1 d_Te_joinedSize_20 rfl (lv_at hl 0 rfl) ?_
  refine g_Te_places S hK hP d_Te_joinedSize_21 ?_
  refine lv_iload_n S.1 S.2.1 d_Te_joinedSize_24 rfl (lv_at hl 1 rfl) ?_
  obtain ⟨hin, h⟩ := h
  refine a_Te_places S hK hP hin d_Te_joinedSize_25 ?_
  refine lv_iconst (v := (2 : Int32)) S.1 S.2.1 d_Te_joinedSize_26 rfl ?_
  refine lv_icmp_ge (tgt := 34) S.1 S.2.1 d_Te_joinedSize_27 (by decide) (fun hc => ?_) (fun hc => ?_)
  · have h := h.1 hc
    refine lv_aload_n S.1 S.2.1 d_Te_joinedSize_34 rfl (lv_at hl 0 rfl) ?_
    refine g_Te_size S hK hP d_Te_joinedSize_35 ?_
    refine lv_iload_n S.1 S.2.1 d_Te_joinedSize_38 rfl (lv_at hl 2 rfl) ?_
    obtain ⟨hin, h⟩ := h
    refine a_Te_size S hK hP hin d_Te_joinedSize_39 ?_
    exact n_Te_joinedSize_40 S hr hlk hK hP _ _ _ h (lv_sub hl [] rfl)
  · have h := h.2 hc
    refine lv_iconst (v := (0 : Int32)) S.1 S.2.1 d_Te_joinedSize_30 rfl ?_
    refine lv_goto (tgt := 40) S.1 S.2.1 d_Te_joinedSize_31 (by decide) ?_
    exact n_Te_joinedSize_40 S hr hlk hK hP _ _ _ h (lv_sub hl [] rfl)
set_option maxHeartbeats 4000000 in
set_option maxRecDepth 100000 in
theorem c_Te_joinedSize (l : Launch) (D : va_G) (ad : Nat → Nat) (cA : ClassId × ClassId × ClassId) (te : Te) (ru : Ru) (au : Au) (re : Re) (la : La) (sp : Sp) (le : Le) (x1 : Int32) (x2 : Int32) (x3 : Int32) (Q : Int32 → Prop) (h : p_Te_joinedSize x1 x2 x3 te Q) : roI l y_Te_joinedSize (wsOf y_Te_joinedSize b_Te_joinedSize 5 (some .int)) rm_Te_joinedSize D (tyA cA) (wC ad cA) [.ref (ad 1), .int x1, .int x2, .int x3] (te, ru, au, re, la, sp, le) Q := by
  refine roI_of (by decide) (Nat.le_of_ble_eq_true rfl) ?_
  intro p e s m below meth c S hr hlk hK hP ls hl
  have hl : lv_has ls 5 [(0, .ref (ad 1)), (1, .int x1), (2, .int x2), (3, .int x3)] := hl
  refine lv_aload_n S.1 S.2.1 d_Te_joinedSize_0 rfl (lv_at hl 0 rfl) ?_
  refine g_Te_places S hK hP d_Te_joinedSize_1 ?_
  refine lv_iload_n S.1 S.2.1 d_Te_joinedSize_4 rfl (lv_at hl 1 rfl) ?_
  obtain ⟨hin, h⟩ := h
  refine a_Te_places S hK hP hin d_Te_joinedSize_5 ?_
  refine lv_iconst (v := (1 : Int32)) S.1 S.2.1 d_Te_joinedSize_6 rfl ?_
  refine lv_icmp_ge (tgt := 14) S.1 S.2.1 d_Te_joinedSize_7 (by decide) (fun hc => ?_) (fun hc => ?_)
  · have h := h.1 hc
    refine lv_aload_n S.1 S.2.1 d_Te_joinedSize_14 rfl (lv_at hl 0 rfl) ?_
    refine g_Te_size S hK hP d_Te_joinedSize_15 ?_
    refine lv_iload_n S.1 S.2.1 d_Te_joinedSize_18 rfl (lv_at hl 2 rfl) ?_
    obtain ⟨hin, h⟩ := h
    refine a_Te_size S hK hP hin d_Te_joinedSize_19 ?_
    exact n_Te_joinedSize_20 S hr hlk hK hP _ _ h (lv_sub hl [0, 1, 3] rfl)
  · have h := h.2 hc
    refine lv_iconst (v := (0 : Int32)) S.1 S.2.1 d_Te_joinedSize_10 rfl ?_
    refine lv_goto (tgt := 20) S.1 S.2.1 d_Te_joinedSize_11 (by decide) ?_
    exact n_Te_joinedSize_20 S hr hlk hK hP _ _ h (lv_sub hl [0, 1, 3] rfl)

set_option maxHeartbeats 4000000 in
set_option maxRecDepth 100000 in
theorem n_Te_append_76 {p : Program} {l : Launch} {e : Env} {s : State} {m : MethodId} {args : Array Value} {below : List Frame} {meth : Method} {c : Code} {D : va_G} {A : Nat → Prop} {ad : Nat → Nat} {cA : ClassId × ClassId × ClassId} {ru : Ru} {au : Au} {re : Re} {la : La} {sp : Sp} {le : Le} {x1 : Int32} {x2 : Int32} {x3 : Int32} {Q : Int32 → Te → Prop} (S : CallFix p m c b_Te_append 6 s args gtbl R_Te) (hr : meth.sig.returnType = (some .int)) (hlk : meth.locks = false) (hK : gK D (tyA cA) s) (hA : ∀ q : Nat, s.heap.size ≤ q → A q) : ∀ (ls : Array Slot) (H : Heap) (locs : List Loc) (x4 : Int32) (y0 : Int32) (y1 : Int32) (te : Te), p_Te_append_76 x1 x2 x3 Q x4 y0 y1 te → lv_has ls 6 [(0, .ref (ad 1)), (1, .int x1), (4, .int x4)] → gIn D A s (wC ad cA) (te, ru, au, re, la, sp, le) H locs → W p l e rm_Te_append s m args below meth c H locs 0 0 (qI D (tyA cA) A (wC ad cA) (fun u : Te => (u, ru, au, re, la, sp, le)) (fun (r : Int32) (u : Te) => Q r u) below args s) (F0 m 76 ls [.int y0, .int y1, .ref (ad 5)]) := by
  intro ls H locs x4 y0 y1 te h hl I
  obtain ⟨hin, h⟩ := h
  refine s_Te_second S hK I hin d_Te_append_76 (fun H locs te76 ete76 I => ?_)
  have h := h te76 ete76
  refine lv_aload_n S.1 S.2.1 d_Te_append_77 rfl (lv_at hl 0 rfl) ?_
  refine g_Te_size S hK I.1 d_Te_append_78 ?_
  refine lv_iload S.1 S.2.1 d_Te_append_81 (lv_at hl 2 rfl) ?_
  refine lv_aload_n S.1 S.2.1 d_Te_append_83 rfl (lv_at hl 0 rfl) ?_
  refine lv_iload_n S.1 S.2.1 d_Te_append_84 rfl (lv_at hl 1 rfl) ?_
  refine lv_aload_n S.1 S.2.1 d_Te_append_85 rfl (lv_at hl 0 rfl) ?_
  refine g_Te_first S hK I.1 d_Te_append_86 ?_
  refine lv_iload S.1 S.2.1 d_Te_append_89 (lv_at hl 2 rfl) ?_
  obtain ⟨hin, h⟩ := h
  refine a_Te_first S hK I.1 hin d_Te_append_91 ?_
  refine lv_aload_n S.1 S.2.1 d_Te_append_92 rfl (lv_at hl 0 rfl) ?_
  refine g_Te_second S hK I.1 d_Te_append_93 ?_
  refine lv_iload S.1 S.2.1 d_Te_append_96 (lv_at hl 2 rfl) ?_
  obtain ⟨hin, h⟩ := h
  refine a_Te_second S hK I.1 hin d_Te_append_98 ?_
  refine callV_roi S (c_Te_joinedSize l D ad cA _ _ _ _ _ _ _ _ _ _ _ h) (mkV S.2.2.2.2 ml_Te_66 k_Te_joinedSize rfl rfl ⟨Nat.le_of_ble_eq_true rfl, Nat.le_of_ble_eq_true rfl⟩) (rv_Te hK I.1) hK I.1 hl.1 rfl rfl (Nat.le_of_ble_eq_true rfl) d_Te_append_99 ⟨Nat.zero_le _, Nat.zero_le _⟩ (fun r99 h => ?_)
  obtain ⟨hin, h⟩ := h
  refine s_Te_size S hK I hin d_Te_append_102 (fun H locs te102 ete102 I => ?_)
  have h := h te102 ete102
  refine lv_iload_n S.1 S.2.1 d_Te_append_103 rfl (lv_at hl 1 rfl) ?_
  refine lv_aload_n S.1 S.2.1 d_Te_append_104 rfl (lv_at hl 0 rfl) ?_
  refine g_Te_first S hK I.1 d_Te_append_105 ?_
  refine lv_iload S.1 S.2.1 d_Te_append_108 (lv_at hl 2 rfl) ?_
  obtain ⟨hin, h⟩ := h
  refine a_Te_first S hK I.1 hin d_Te_append_110 ?_
  refine lv_aload_n S.1 S.2.1 d_Te_append_111 rfl (lv_at hl 0 rfl) ?_
  refine g_Te_second S hK I.1 d_Te_append_112 ?_
  refine lv_iload S.1 S.2.1 d_Te_append_115 (lv_at hl 2 rfl) ?_
  obtain ⟨hin, h⟩ := h
  refine a_Te_second S hK I.1 hin d_Te_append_117 ?_
  refine callS_roi S (c_Te_bucketOf l D ad cA _ _ _ _ _ _ _ _ _ _ _ h) (mkS S.2.2.2.2 ml_Te_63 k_Te_bucketOf rfl rfl ⟨Nat.le_of_ble_eq_true rfl, Nat.le_of_ble_eq_true rfl⟩) hK I.1 hl.1 rfl rfl (Nat.le_of_ble_eq_true rfl) d_Te_append_118 ⟨Nat.zero_le _, Nat.zero_le _⟩ (fun r118 h => ?_)
  refine lv_istore (lv' := [(5, .int r118), (0, .ref (ad 1)), (1, .int x1), (4, .int x4)]) S.1 S.2.1 d_Te_append_121 hl (by decide) rfl (fun ls hl => ?_)
  refine lv_aload_n S.1 S.2.1 d_Te_append_123 rfl (lv_at hl 1 rfl) ?_
  refine g_Te_olderInBucket S hK I.1 d_Te_append_124 ?_
  refine lv_iload S.1 S.2.1 d_Te_append_127 (lv_at hl 3 rfl) ?_
  refine lv_aload_n S.1 S.2.1 d_Te_append_129 rfl (lv_at hl 1 rfl) ?_
  refine g_Te_newestIn S hK I.1 d_Te_append_130 ?_
  refine lv_iload S.1 S.2.1 d_Te_append_133 (lv_at hl 0 rfl) ?_
  obtain ⟨hin, h⟩ := h
  refine a_Te_newestIn S hK I.1 hin d_Te_append_135 ?_
  obtain ⟨hin, h⟩ := h
  refine s_Te_olderInBucket S hK I hin d_Te_append_136 (fun H locs te136 ete136 I => ?_)
  have h := h te136 ete136
  refine lv_aload_n S.1 S.2.1 d_Te_append_137 rfl (lv_at hl 1 rfl) ?_
  refine g_Te_newestIn S hK I.1 d_Te_append_138 ?_
  refine lv_iload S.1 S.2.1 d_Te_append_141 (lv_at hl 0 rfl) ?_
  refine lv_iload S.1 S.2.1 d_Te_append_143 (lv_at hl 3 rfl) ?_
  obtain ⟨hin, h⟩ := h
  refine s_Te_newestIn S hK I hin d_Te_append_145 (fun H locs te145 ete145 I => ?_)
  have h := h te145 ete145
  refine lv_iload S.1 S.2.1 d_Te_append_146 (lv_at hl 3 rfl) ?_
  exact ret_rwi S hr hlk hK I h d_Te_append_148
set_option maxHeartbeats 4000000 in
set_option maxRecDepth 100000 in
theorem n_Te_append_54 {p : Program} {l : Launch} {e : Env} {s : State} {m : MethodId} {args : Array Value} {below : List Frame} {meth : Method} {c : Code} {D : va_G} {A : Nat → Prop} {ad : Nat → Nat} {cA : ClassId × ClassId × ClassId} {ru : Ru} {au : Au} {re : Re} {la : La} {sp : Sp} {le : Le} {x1 : Int32} {x2 : Int32} {x3 : Int32} {Q : Int32 → Te → Prop} (S : CallFix p m c b_Te_append 6 s args gtbl R_Te) (hr : meth.sig.returnType = (some .int)) (hlk : meth.locks = false) (hK : gK D (tyA cA) s) (hA : ∀ q : Nat, s.heap.size ≤ q → A q) : ∀ (ls : Array Slot) (H : Heap) (locs : List Loc) (x4 : Int32) (y0 : Int32) (y1 : Int32) (te : Te), p_Te_append_54 x1 x2 x3 Q x4 y0 y1 te → lv_has ls 6 [(0, .ref (ad 1)), (1, .int x1), (3, .int x3), (4, .int x4)] → gIn D A s (wC ad cA) (te, ru, au, re, la, sp, le) H locs → W p l e rm_Te_append s m args below meth c H locs 0 0 (qI D (tyA cA) A (wC ad cA) (fun u : Te => (u, ru, au, re, la, sp, le)) (fun (r : Int32) (u : Te) => Q r u) below args s) (F0 m 54 ls [.int y0, .int y1, .ref (ad 4)]) := by
  intro ls H locs x4 y0 y1 te h hl I
  obtain ⟨hin, h⟩ := h
  refine s_Te_first S hK I hin d_Te_append_54 (fun H locs te54 ete54 I => ?_)
  have h := h te54 ete54
  refine lv_aload_n S.1 S.2.1 d_Te_append_55 rfl (lv_at hl 0 rfl) ?_
  refine g_Te_second S hK I.1 d_Te_append_56 ?_
  refine lv_iload S.1 S.2.1 d_Te_append_59 (lv_at hl 3 rfl) ?_
  refine lv_aload_n S.1 S.2.1 d_Te_append_61 rfl (lv_at hl 0 rfl) ?_
  refine g_Te_places S hK I.1 d_Te_append_62 ?_
  refine lv_iload_n S.1 S.2.1 d_Te_append_65 rfl (lv_at hl 1 rfl) ?_
  obtain ⟨hin, h⟩ := h
  refine a_Te_places S hK I.1 hin d_Te_append_66 ?_
  refine lv_iconst (v := (2 : Int32)) S.1 S.2.1 d_Te_append_67 rfl ?_
  refine lv_icmp_ge (tgt := 75) S.1 S.2.1 d_Te_append_68 (by decide) (fun hc => ?_) (fun hc => ?_)
  · have h := h.1 hc
    refine lv_iload_n S.1 S.2.1 d_Te_append_75 rfl (lv_at hl 2 rfl) ?_
    exact n_Te_append_76 S hr hlk hK hA _ _ _ _ _ _ _ h (lv_sub hl [0, 1, 3] rfl) I
  · have h := h.2 hc
    refine lv_iconst (v := (-1 : Int32)) S.1 S.2.1 d_Te_append_71 rfl ?_
    refine lv_goto (tgt := 76) S.1 S.2.1 d_Te_append_72 (by decide) ?_
    exact n_Te_append_76 S hr hlk hK hA _ _ _ _ _ _ _ h (lv_sub hl [0, 1, 3] rfl) I
set_option maxHeartbeats 4000000 in
set_option maxRecDepth 100000 in
theorem c_Te_append (l : Launch) (D : va_G) (ad : Nat → Nat) (cA : ClassId × ClassId × ClassId) (te : Te) (ru : Ru) (au : Au) (re : Re) (la : La) (sp : Sp) (le : Le) (x1 : Int32) (x2 : Int32) (x3 : Int32) (Q : Int32 → Te → Prop) (h : p_Te_append x1 x2 x3 te Q) : rwI l y_Te_append (wsOf y_Te_append b_Te_append 6 (some .int)) rm_Te_append D (tyA cA) (wC ad cA) [.ref (ad 1), .int x1, .int x2, .int x3] (te, ru, au, re, la, sp, le) (fun u : Te => (u, ru, au, re, la, sp, le)) (fun (r : Int32) (u : Te) => Q r u) := by
  refine rwI_of (by decide) (Nat.le_of_ble_eq_true rfl) ?_
  intro p e s m below meth c S hr hlk hK A hA I ls hl
  have hl : lv_has ls 6 [(0, .ref (ad 1)), (1, .int x1), (2, .int x2), (3, .int x3)] := hl
  refine lv_aload_n S.1 S.2.1 d_Te_append_0 rfl (lv_at hl 0 rfl) ?_
  refine g_Te_count S hK I.1 d_Te_append_1 ?_
  refine lv_sipush (v := (448 : Int32)) S.1 S.2.1 d_Te_append_4 rfl ?_
  refine lv_icmp_lt (tgt := 12) S.1 S.2.1 d_Te_append_7 (by decide) (fun hc => ?_) (fun hc => ?_)
  · have h := h.1 hc
    refine lv_aload_n S.1 S.2.1 d_Te_append_12 rfl (lv_at hl 0 rfl) ?_
    refine lv_dup S.1 S.2.1 d_Te_append_13 rfl ?_
    refine g_Te_count S hK I.1 d_Te_append_14 ?_
    refine lv_dup_x1 S.1 S.2.1 d_Te_append_17 rfl rfl ?_
    refine lv_iconst (v := (1 : Int32)) S.1 S.2.1 d_Te_append_18 rfl ?_
    refine lv_iadd S.1 S.2.1 d_Te_append_19 ?_
    refine q_Te_count S hK I d_Te_append_20 (fun H locs te20 ete20 I => ?_)
    have h := h te20 ete20
    refine lv_istore (lv' := [(4, .int (Te_count te)), (0, .ref (ad 1)), (1, .int x1), (2, .int x2), (3, .int x3)]) S.1 S.2.1 d_Te_append_23 hl (by decide) rfl (fun ls hl => ?_)
    refine lv_aload_n S.1 S.2.1 d_Te_append_25 rfl (lv_at hl 1 rfl) ?_
    refine g_Te_symbol S hK I.1 d_Te_append_26 ?_
    refine lv_iload S.1 S.2.1 d_Te_append_29 (lv_at hl 0 rfl) ?_
    refine lv_iload_n S.1 S.2.1 d_Te_append_31 rfl (lv_at hl 2 rfl) ?_
    obtain ⟨hin, h⟩ := h
    refine s_Te_symbol S hK I hin d_Te_append_32 (fun H locs te32 ete32 I => ?_)
    have h := h te32 ete32
    refine lv_aload_n S.1 S.2.1 d_Te_append_33 rfl (lv_at hl 1 rfl) ?_
    refine g_Te_first S hK I.1 d_Te_append_34 ?_
    refine lv_iload S.1 S.2.1 d_Te_append_37 (lv_at hl 0 rfl) ?_
    refine lv_aload_n S.1 S.2.1 d_Te_append_39 rfl (lv_at hl 1 rfl) ?_
    refine g_Te_places S hK I.1 d_Te_append_40 ?_
    refine lv_iload_n S.1 S.2.1 d_Te_append_43 rfl (lv_at hl 2 rfl) ?_
    obtain ⟨hin, h⟩ := h
    refine a_Te_places S hK I.1 hin d_Te_append_44 ?_
    refine lv_iconst (v := (1 : Int32)) S.1 S.2.1 d_Te_append_45 rfl ?_
    refine lv_icmp_ge (tgt := 53) S.1 S.2.1 d_Te_append_46 (by decide) (fun hc => ?_) (fun hc => ?_)
    · have h := h.1 hc
      refine lv_iload_n S.1 S.2.1 d_Te_append_53 rfl (lv_at hl 3 rfl) ?_
      exact n_Te_append_54 S hr hlk hK hA _ _ _ _ _ _ _ h (lv_sub hl [1, 2, 4, 0] rfl) I
    · have h := h.2 hc
      refine lv_iconst (v := (-1 : Int32)) S.1 S.2.1 d_Te_append_49 rfl ?_
      refine lv_goto (tgt := 54) S.1 S.2.1 d_Te_append_50 (by decide) ?_
      exact n_Te_append_54 S hr hlk hK hA _ _ _ _ _ _ _ h (lv_sub hl [1, 2, 4, 0] rfl) I
  · have h := h.2 hc
    refine lv_iconst (v := (-1 : Int32)) S.1 S.2.1 d_Te_append_10 rfl ?_
    exact ret_rwi S hr hlk hK I h d_Te_append_11

set_option maxHeartbeats 4000000 in
set_option maxRecDepth 100000 in
theorem n_Te_findOrAppend_24 {p : Program} {l : Launch} {e : Env} {s : State} {m : MethodId} {args : Array Value} {below : List Frame} {meth : Method} {c : Code} {D : va_G} {A : Nat → Prop} {ad : Nat → Nat} {cA : ClassId × ClassId × ClassId} {ru : Ru} {au : Au} {re : Re} {la : La} {sp : Sp} {le : Le} {x1 : Int32} {x2 : Int32} {x3 : Int32} {Q : Int32 → Te → Prop} (S : CallFix p m c b_Te_findOrAppend 5 s args gtbl R_Te) (hr : meth.sig.returnType = (some .int)) (hlk : meth.locks = false) (hK : gK D (tyA cA) s) (hA : ∀ q : Nat, s.heap.size ≤ q → A q) : ∀ (ls : Array Slot) (H : Heap) (locs : List Loc) (x4 : Int32) (te : Te), p_Te_findOrAppend_24 x1 x2 x3 Q x4 te → lv_has ls 5 [(4, .int x4)] → gIn D A s (wC ad cA) (te, ru, au, re, la, sp, le) H locs → W p l e rm_Te_findOrAppend s m args below meth c H locs 0 0 (qI D (tyA cA) A (wC ad cA) (fun u : Te => (u, ru, au, re, la, sp, le)) (fun (r : Int32) (u : Te) => Q r u) below args s) (F0 m 24 ls []) := by
  intro ls H locs x4 te h hl I
  refine lv_iload S.1 S.2.1 d_Te_findOrAppend_24 (lv_at hl 0 rfl) ?_
  refine lv_goto (tgt := 36) S.1 S.2.1 d_Te_findOrAppend_26 (by decide) ?_
  exact ret_rwi S hr hlk hK I h d_Te_findOrAppend_36
set_option maxHeartbeats 4000000 in
set_option maxRecDepth 100000 in
theorem c_Te_findOrAppend (l : Launch) (D : va_G) (ad : Nat → Nat) (cA : ClassId × ClassId × ClassId) (te : Te) (ru : Ru) (au : Au) (re : Re) (la : La) (sp : Sp) (le : Le) (x1 : Int32) (x2 : Int32) (x3 : Int32) (Q : Int32 → Te → Prop) (h : p_Te_findOrAppend x1 x2 x3 te Q) : rwI l y_Te_findOrAppend (wsOf y_Te_findOrAppend b_Te_findOrAppend 5 (some .int)) rm_Te_findOrAppend D (tyA cA) (wC ad cA) [.ref (ad 1), .int x1, .int x2, .int x3] (te, ru, au, re, la, sp, le) (fun u : Te => (u, ru, au, re, la, sp, le)) (fun (r : Int32) (u : Te) => Q r u) := by
  refine rwI_of (by decide) (Nat.le_of_ble_eq_true rfl) ?_
  intro p e s m below meth c S hr hlk hK A hA I ls hl
  have hl : lv_has ls 5 [(0, .ref (ad 1)), (1, .int x1), (2, .int x2), (3, .int x3)] := hl
  refine lv_aload_n S.1 S.2.1 d_Te_findOrAppend_0 rfl (lv_at hl 0 rfl) ?_
  refine lv_iload_n S.1 S.2.1 d_Te_findOrAppend_1 rfl (lv_at hl 1 rfl) ?_
  refine lv_iload_n S.1 S.2.1 d_Te_findOrAppend_2 rfl (lv_at hl 2 rfl) ?_
  refine lv_iload_n S.1 S.2.1 d_Te_findOrAppend_3 rfl (lv_at hl 3 rfl) ?_
  refine callV_roi S (c_Te_find l D ad cA _ _ _ _ _ _ _ _ _ _ _ h) (mkV S.2.2.2.2 ml_Te_56 k_Te_find rfl rfl ⟨Nat.le_of_ble_eq_true rfl, Nat.le_of_ble_eq_true rfl⟩) (rv_Te hK I.1) hK I.1 hl.1 rfl rfl (Nat.le_of_ble_eq_true rfl) d_Te_findOrAppend_4 ⟨Nat.zero_le _, Nat.zero_le _⟩ (fun r4 h => ?_)
  refine lv_istore (lv' := [(4, .int r4), (0, .ref (ad 1)), (1, .int x1), (2, .int x2), (3, .int x3)]) S.1 S.2.1 d_Te_findOrAppend_7 hl (by decide) rfl (fun ls hl => ?_)
  refine lv_iload S.1 S.2.1 d_Te_findOrAppend_9 (lv_at hl 0 rfl) ?_
  refine lv_iconst (v := (-1 : Int32)) S.1 S.2.1 d_Te_findOrAppend_11 rfl ?_
  refine lv_icmp_ne (tgt := 24) S.1 S.2.1 d_Te_findOrAppend_12 (by decide) (fun hc => ?_) (fun hc => ?_)
  · have h := h.1 hc
    exact n_Te_findOrAppend_24 S hr hlk hK hA _ _ _ _ _ h (lv_sub hl [0] rfl) I
  · have h := h.2 hc
    refine lv_aload_n S.1 S.2.1 d_Te_findOrAppend_15 rfl (lv_at hl 1 rfl) ?_
    refine g_Te_count S hK I.1 d_Te_findOrAppend_16 ?_
    refine lv_bipush (v := (48 : Int32)) S.1 S.2.1 d_Te_findOrAppend_19 rfl ?_
    refine lv_icmp_lt (tgt := 29) S.1 S.2.1 d_Te_findOrAppend_21 (by decide) (fun hc => ?_) (fun hc => ?_)
    · have h := h.1 hc
      refine lv_aload_n S.1 S.2.1 d_Te_findOrAppend_29 rfl (lv_at hl 1 rfl) ?_
      refine lv_iload_n S.1 S.2.1 d_Te_findOrAppend_30 rfl (lv_at hl 2 rfl) ?_
      refine lv_iload_n S.1 S.2.1 d_Te_findOrAppend_31 rfl (lv_at hl 3 rfl) ?_
      refine lv_iload_n S.1 S.2.1 d_Te_findOrAppend_32 rfl (lv_at hl 4 rfl) ?_
      refine callV_rwi S (c_Te_append l D ad cA _ _ _ _ _ _ _ _ _ _ _ h) (mkV S.2.2.2.2 ml_Te_60 k_Te_append rfl rfl ⟨Nat.le_of_ble_eq_true rfl, Nat.le_of_ble_eq_true rfl⟩) (rv_Te hK I.1) hK hA I hl.1 rfl rfl (Nat.le_of_ble_eq_true rfl) d_Te_findOrAppend_33 ⟨Nat.zero_le _, Nat.zero_le _⟩ (fun r33 te33 H locs h I => ?_)
      exact ret_rwi S hr hlk hK I h d_Te_findOrAppend_36
    · have h := h.2 hc
      exact n_Te_findOrAppend_24 S hr hlk hK hA _ _ _ _ _ h (lv_sub hl [0] rfl) I

set_option maxHeartbeats 4000000 in
set_option maxRecDepth 100000 in
theorem n_Te_keepFirst_0 {p : Program} {l : Launch} {e : Env} {s : State} {m : MethodId} {args : Array Value} {below : List Frame} {meth : Method} {c : Code} {D : va_G} {A : Nat → Prop} {ad : Nat → Nat} {cA : ClassId × ClassId × ClassId} {ru : Ru} {au : Au} {re : Re} {la : La} {sp : Sp} {le : Le} {x1 : Int32} {Q : Te → Prop} (S : CallFix p m c b_Te_keepFirst 2 s args gtbl R_Te) (hr : meth.sig.returnType = none) (hlk : meth.locks = false) (hK : gK D (tyA cA) s) (hA : ∀ q : Nat, s.heap.size ≤ q → A q) : ∀ n : Nat, ∀ (ls : Array Slot) (H : Heap) (locs : List Loc) (te : Te), p_Te_keepFirst_0 x1 Q n te → lv_has ls 2 [(0, .ref (ad 1)), (1, .int x1)] → gIn D A s (wC ad cA) (te, ru, au, re, la, sp, le) H locs → W p l e rm_Te_keepFirst s m args below meth c H locs 0 0 (qV D (tyA cA) A (wC ad cA) (fun u : Te => (u, ru, au, re, la, sp, le)) (fun u : Te => Q u) below args s) (F0 m 0 ls []) := by
  intro n
  induction n with
  | zero =>
    intro ls H locs te h
    exact (show False from h).elim
  | succ n ih =>
    intro ls H locs te h hl I
    refine lv_aload_n S.1 S.2.1 d_Te_keepFirst_0 rfl (lv_at hl 0 rfl) ?_
    refine g_Te_count S hK I.1 d_Te_keepFirst_1 ?_
    refine lv_iload_n S.1 S.2.1 d_Te_keepFirst_4 rfl (lv_at hl 1 rfl) ?_
    refine lv_icmp_le (tgt := 65) S.1 S.2.1 d_Te_keepFirst_5 (by decide) (fun hc => ?_) (fun hc => ?_)
    · have h := h.1 hc
      exact ret_rwv S hr hlk hK I h d_Te_keepFirst_65
    · have h := h.2 hc
      refine lv_aload_n S.1 S.2.1 d_Te_keepFirst_8 rfl (lv_at hl 0 rfl) ?_
      refine lv_dup S.1 S.2.1 d_Te_keepFirst_9 rfl ?_
      refine g_Te_count S hK I.1 d_Te_keepFirst_10 ?_
      refine lv_iconst (v := (1 : Int32)) S.1 S.2.1 d_Te_keepFirst_13 rfl ?_
      refine lv_isub S.1 S.2.1 d_Te_keepFirst_14 ?_
      refine q_Te_count S hK I d_Te_keepFirst_15 (fun H locs te15 ete15 I => ?_)
      have h := h te15 ete15
      refine lv_aload_n S.1 S.2.1 d_Te_keepFirst_18 rfl (lv_at hl 0 rfl) ?_
      refine g_Te_newestIn S hK I.1 d_Te_keepFirst_19 ?_
      refine lv_aload_n S.1 S.2.1 d_Te_keepFirst_22 rfl (lv_at hl 0 rfl) ?_
      refine g_Te_symbol S hK I.1 d_Te_keepFirst_23 ?_
      refine lv_aload_n S.1 S.2.1 d_Te_keepFirst_26 rfl (lv_at hl 0 rfl) ?_
      refine g_Te_count S hK I.1 d_Te_keepFirst_27 ?_
      obtain ⟨hin, h⟩ := h
      refine a_Te_symbol S hK I.1 hin d_Te_keepFirst_30 ?_
      refine lv_aload_n S.1 S.2.1 d_Te_keepFirst_31 rfl (lv_at hl 0 rfl) ?_
      refine g_Te_first S hK I.1 d_Te_keepFirst_32 ?_
      refine lv_aload_n S.1 S.2.1 d_Te_keepFirst_35 rfl (lv_at hl 0 rfl) ?_
      refine g_Te_count S hK I.1 d_Te_keepFirst_36 ?_
      obtain ⟨hin, h⟩ := h
      refine a_Te_first S hK I.1 hin d_Te_keepFirst_39 ?_
      refine lv_aload_n S.1 S.2.1 d_Te_keepFirst_40 rfl (lv_at hl 0 rfl) ?_
      refine g_Te_second S hK I.1 d_Te_keepFirst_41 ?_
      refine lv_aload_n S.1 S.2.1 d_Te_keepFirst_44 rfl (lv_at hl 0 rfl) ?_
      refine g_Te_count S hK I.1 d_Te_keepFirst_45 ?_
      obtain ⟨hin, h⟩ := h
      refine a_Te_second S hK I.1 hin d_Te_keepFirst_48 ?_
      refine callS_roi S (c_Te_bucketOf l D ad cA _ _ _ _ _ _ _ _ _ _ _ h) (mkS S.2.2.2.2 ml_Te_63 k_Te_bucketOf rfl rfl ⟨Nat.le_of_ble_eq_true rfl, Nat.le_of_ble_eq_true rfl⟩) hK I.1 hl.1 rfl rfl (Nat.le_of_ble_eq_true rfl) d_Te_keepFirst_49 ⟨Nat.zero_le _, Nat.zero_le _⟩ (fun r49 h => ?_)
      refine lv_aload_n S.1 S.2.1 d_Te_keepFirst_52 rfl (lv_at hl 0 rfl) ?_
      refine g_Te_olderInBucket S hK I.1 d_Te_keepFirst_53 ?_
      refine lv_aload_n S.1 S.2.1 d_Te_keepFirst_56 rfl (lv_at hl 0 rfl) ?_
      refine g_Te_count S hK I.1 d_Te_keepFirst_57 ?_
      obtain ⟨hin, h⟩ := h
      refine a_Te_olderInBucket S hK I.1 hin d_Te_keepFirst_60 ?_
      obtain ⟨hin, h⟩ := h
      refine s_Te_newestIn S hK I hin d_Te_keepFirst_61 (fun H locs te61 ete61 I => ?_)
      have h := h te61 ete61
      refine lv_goto (tgt := 0) S.1 S.2.1 d_Te_keepFirst_62 (by decide) ?_
      exact ih _ _ _ _ h (lv_sub hl [0, 1] rfl) I
set_option maxHeartbeats 4000000 in
set_option maxRecDepth 100000 in
theorem c_Te_keepFirst (l : Launch) (D : va_G) (ad : Nat → Nat) (cA : ClassId × ClassId × ClassId) (te : Te) (ru : Ru) (au : Au) (re : Re) (la : La) (sp : Sp) (le : Le) (x1 : Int32) (Q : Te → Prop) (h : p_Te_keepFirst x1 te Q) : rwV l y_Te_keepFirst (wsOf y_Te_keepFirst b_Te_keepFirst 2 none) rm_Te_keepFirst D (tyA cA) (wC ad cA) [.ref (ad 1), .int x1] (te, ru, au, re, la, sp, le) (fun u : Te => (u, ru, au, re, la, sp, le)) (fun u : Te => Q u) := by
  refine rwV_of (by decide) (Nat.le_of_ble_eq_true rfl) ?_
  intro p e s m below meth c S hr hlk hK A hA I ls hl
  have hl : lv_has ls 2 [(0, .ref (ad 1)), (1, .int x1)] := hl
  obtain ⟨n', h⟩ := h
  exact n_Te_keepFirst_0 S hr hlk hK hA n' _ _ _ _ h (lv_sub hl [0, 1] rfl) I

set_option maxHeartbeats 4000000 in
set_option maxRecDepth 100000 in
theorem c_Ru_changes (l : Launch) (D : va_G) (ad : Nat → Nat) (cA : ClassId × ClassId × ClassId) (te : Te) (ru : Ru) (au : Au) (re : Re) (la : La) (sp : Sp) (le : Le)  (Q : Int32 → Prop) (h : p_Ru_changes  ru Q) : roI l y_Ru_changes (wsOf y_Ru_changes b_Ru_changes 1 (some .int)) rm_Ru_changes D (tyA cA) (wC ad cA) [.ref (ad 9)] (te, ru, au, re, la, sp, le) Q := by
  refine roI_of (by decide) (Nat.le_of_ble_eq_true rfl) ?_
  intro p e s m below meth c S hr hlk hK hP ls hl
  have hl : lv_has ls 1 [(0, .ref (ad 9))] := hl
  refine lv_aload_n S.1 S.2.1 d_Ru_changes_0 rfl (lv_at hl 0 rfl) ?_
  refine g_Ru_changes S hK hP d_Ru_changes_1 ?_
  exact ret_roi S hr hlk h d_Ru_changes_4

set_option maxHeartbeats 4000000 in
set_option maxRecDepth 100000 in
theorem c_Ru_leftOf (l : Launch) (D : va_G) (ad : Nat → Nat) (cA : ClassId × ClassId × ClassId) (te : Te) (ru : Ru) (au : Au) (re : Re) (la : La) (sp : Sp) (le : Le) (x1 : Int32) (Q : Int32 → Prop) (h : p_Ru_leftOf x1 ru Q) : roI l y_Ru_leftOf (wsOf y_Ru_leftOf b_Ru_leftOf 2 (some .int)) rm_Ru_leftOf D (tyA cA) (wC ad cA) [.ref (ad 9), .int x1] (te, ru, au, re, la, sp, le) Q := by
  refine roI_of (by decide) (Nat.le_of_ble_eq_true rfl) ?_
  intro p e s m below meth c S hr hlk hK hP ls hl
  have hl : lv_has ls 2 [(0, .ref (ad 9)), (1, .int x1)] := hl
  refine lv_aload_n S.1 S.2.1 d_Ru_leftOf_0 rfl (lv_at hl 0 rfl) ?_
  refine g_Ru_left S hK hP d_Ru_leftOf_1 ?_
  refine lv_iload_n S.1 S.2.1 d_Ru_leftOf_4 rfl (lv_at hl 1 rfl) ?_
  obtain ⟨hin, h⟩ := h
  refine a_Ru_left S hK hP hin d_Ru_leftOf_5 ?_
  exact ret_roi S hr hlk h d_Ru_leftOf_6

set_option maxHeartbeats 4000000 in
set_option maxRecDepth 100000 in
theorem c_Ru_rightOf (l : Launch) (D : va_G) (ad : Nat → Nat) (cA : ClassId × ClassId × ClassId) (te : Te) (ru : Ru) (au : Au) (re : Re) (la : La) (sp : Sp) (le : Le) (x1 : Int32) (Q : Int32 → Prop) (h : p_Ru_rightOf x1 ru Q) : roI l y_Ru_rightOf (wsOf y_Ru_rightOf b_Ru_rightOf 2 (some .int)) rm_Ru_rightOf D (tyA cA) (wC ad cA) [.ref (ad 9), .int x1] (te, ru, au, re, la, sp, le) Q := by
  refine roI_of (by decide) (Nat.le_of_ble_eq_true rfl) ?_
  intro p e s m below meth c S hr hlk hK hP ls hl
  have hl : lv_has ls 2 [(0, .ref (ad 9)), (1, .int x1)] := hl
  refine lv_aload_n S.1 S.2.1 d_Ru_rightOf_0 rfl (lv_at hl 0 rfl) ?_
  refine g_Ru_right S hK hP d_Ru_rightOf_1 ?_
  refine lv_iload_n S.1 S.2.1 d_Ru_rightOf_4 rfl (lv_at hl 1 rfl) ?_
  obtain ⟨hin, h⟩ := h
  refine a_Ru_right S hK hP hin d_Ru_rightOf_5 ?_
  exact ret_roi S hr hlk h d_Ru_rightOf_6

set_option maxHeartbeats 4000000 in
set_option maxRecDepth 100000 in
theorem c_Ru_append (l : Launch) (D : va_G) (ad : Nat → Nat) (cA : ClassId × ClassId × ClassId) (te : Te) (ru : Ru) (au : Au) (re : Re) (la : La) (sp : Sp) (le : Le) (x1 : Int32) (x2 : Int32) (Q : Int32 → Ru → Prop) (h : p_Ru_append x1 x2 ru Q) : rwI l y_Ru_append (wsOf y_Ru_append b_Ru_append 3 (some .int)) rm_Ru_append D (tyA cA) (wC ad cA) [.ref (ad 9), .int x1, .int x2] (te, ru, au, re, la, sp, le) (fun u : Ru => (te, u, au, re, la, sp, le)) (fun (r : Int32) (u : Ru) => Q r u) := by
  refine rwI_of (by decide) (Nat.le_of_ble_eq_true rfl) ?_
  intro p e s m below meth c S hr hlk hK A hA I ls hl
  have hl : lv_has ls 3 [(0, .ref (ad 9)), (1, .int x1), (2, .int x2)] := hl
  refine lv_aload_n S.1 S.2.1 d_Ru_append_0 rfl (lv_at hl 0 rfl) ?_
  refine g_Ru_count S hK I.1 d_Ru_append_1 ?_
  refine lv_bipush (v := (8 : Int32)) S.1 S.2.1 d_Ru_append_4 rfl ?_
  refine lv_icmp_lt (tgt := 11) S.1 S.2.1 d_Ru_append_6 (by decide) (fun hc => ?_) (fun hc => ?_)
  · have h := h.1 hc
    refine lv_aload_n S.1 S.2.1 d_Ru_append_11 rfl (lv_at hl 0 rfl) ?_
    refine g_Ru_left S hK I.1 d_Ru_append_12 ?_
    refine lv_aload_n S.1 S.2.1 d_Ru_append_15 rfl (lv_at hl 0 rfl) ?_
    refine g_Ru_count S hK I.1 d_Ru_append_16 ?_
    refine lv_iload_n S.1 S.2.1 d_Ru_append_19 rfl (lv_at hl 1 rfl) ?_
    obtain ⟨hin, h⟩ := h
    refine s_Ru_left S hK I hin d_Ru_append_20 (fun H locs ru20 eru20 I => ?_)
    have h := h ru20 eru20
    refine lv_aload_n S.1 S.2.1 d_Ru_append_21 rfl (lv_at hl 0 rfl) ?_
    refine g_Ru_right S hK I.1 d_Ru_append_22 ?_
    refine lv_aload_n S.1 S.2.1 d_Ru_append_25 rfl (lv_at hl 0 rfl) ?_
    refine g_Ru_count S hK I.1 d_Ru_append_26 ?_
    refine lv_iload_n S.1 S.2.1 d_Ru_append_29 rfl (lv_at hl 2 rfl) ?_
    obtain ⟨hin, h⟩ := h
    refine s_Ru_right S hK I hin d_Ru_append_30 (fun H locs ru30 eru30 I => ?_)
    have h := h ru30 eru30
    refine lv_aload_n S.1 S.2.1 d_Ru_append_31 rfl (lv_at hl 0 rfl) ?_
    refine lv_dup S.1 S.2.1 d_Ru_append_32 rfl ?_
    refine g_Ru_changes S hK I.1 d_Ru_append_33 ?_
    refine lv_iconst (v := (1 : Int32)) S.1 S.2.1 d_Ru_append_36 rfl ?_
    refine lv_iadd S.1 S.2.1 d_Ru_append_37 ?_
    refine q_Ru_changes S hK I d_Ru_append_38 (fun H locs ru38 eru38 I => ?_)
    have h := h ru38 eru38
    refine lv_aload_n S.1 S.2.1 d_Ru_append_41 rfl (lv_at hl 0 rfl) ?_
    refine lv_dup S.1 S.2.1 d_Ru_append_42 rfl ?_
    refine g_Ru_count S hK I.1 d_Ru_append_43 ?_
    refine lv_dup_x1 S.1 S.2.1 d_Ru_append_46 rfl rfl ?_
    refine lv_iconst (v := (1 : Int32)) S.1 S.2.1 d_Ru_append_47 rfl ?_
    refine lv_iadd S.1 S.2.1 d_Ru_append_48 ?_
    refine q_Ru_count S hK I d_Ru_append_49 (fun H locs ru49 eru49 I => ?_)
    have h := h ru49 eru49
    exact ret_rwi S hr hlk hK I h d_Ru_append_52
  · have h := h.2 hc
    refine lv_iconst (v := (-1 : Int32)) S.1 S.2.1 d_Ru_append_9 rfl ?_
    exact ret_rwi S hr hlk hK I h d_Ru_append_10

set_option maxHeartbeats 4000000 in
set_option maxRecDepth 100000 in
theorem n_Ru_rightAt_5 {p : Program} {l : Launch} {e : Env} {s : State} {m : MethodId} {args : Array Value} {below : List Frame} {meth : Method} {c : Code} {D : va_G} {ad : Nat → Nat} {cA : ClassId × ClassId × ClassId} {te : Te} {ru : Ru} {au : Au} {re : Re} {la : La} {sp : Sp} {le : Le} {x1 : Int32} {x2 : Int32} {Q : Int32 → Prop} (S : CallFix p m c b_Ru_rightAt 5 s args gtbl R_Ru) (hr : meth.sig.returnType = (some .int)) (hlk : meth.locks = false) (hK : gK D (tyA cA) s) (hP : va_P D classes (wC ad cA (te, ru, au, re, la, sp, le)) s.heap) : ∀ n : Nat, ∀ (ls : Array Slot) (x3 : Int32) (x4 : Int32), p_Ru_rightAt_5 x1 x2 ru Q n x3 x4 → lv_has ls 5 [(0, .ref (ad 9)), (1, .int x1), (2, .int x2), (3, .int x3), (4, .int x4)] → W p l e rm_Ru_rightAt s m args below meth c s.heap [] 0 0 (qRI Q below args s) (F0 m 5 ls []) := by
  intro n
  induction n with
  | zero =>
    intro ls x3 x4 h
    exact (show False from h).elim
  | succ n ih =>
    intro ls x3 x4 h hl
    refine lv_iload S.1 S.2.1 d_Ru_rightAt_5 (lv_at hl 4 rfl) ?_
    refine lv_aload_n S.1 S.2.1 d_Ru_rightAt_7 rfl (lv_at hl 0 rfl) ?_
    refine g_Ru_count S hK hP d_Ru_rightAt_8 ?_
    refine lv_icmp_ge (tgt := 50) S.1 S.2.1 d_Ru_rightAt_11 (by decide) (fun hc => ?_) (fun hc => ?_)
    · have h := h.1 hc
      refine lv_iconst (v := (-1 : Int32)) S.1 S.2.1 d_Ru_rightAt_50 rfl ?_
      exact ret_roi S hr hlk h d_Ru_rightAt_51
    · have h := h.2 hc
      refine lv_aload_n S.1 S.2.1 d_Ru_rightAt_14 rfl (lv_at hl 0 rfl) ?_
      refine g_Ru_left S hK hP d_Ru_rightAt_15 ?_
      refine lv_iload S.1 S.2.1 d_Ru_rightAt_18 (lv_at hl 4 rfl) ?_
      obtain ⟨hin, h⟩ := h
      refine a_Ru_left S hK hP hin d_Ru_rightAt_20 ?_
      refine lv_iload_n S.1 S.2.1 d_Ru_rightAt_21 rfl (lv_at hl 1 rfl) ?_
      refine lv_icmp_eq (tgt := 28) S.1 S.2.1 d_Ru_rightAt_22 (by decide) (fun hc => ?_) (fun hc => ?_)
      · have h := h.1 hc
        refine lv_iload_n S.1 S.2.1 d_Ru_rightAt_28 rfl (lv_at hl 3 rfl) ?_
        refine lv_iload_n S.1 S.2.1 d_Ru_rightAt_29 rfl (lv_at hl 2 rfl) ?_
        refine lv_icmp_ne (tgt := 41) S.1 S.2.1 d_Ru_rightAt_30 (by decide) (fun hc => ?_) (fun hc => ?_)
        · have h := h.1 hc
          refine lv_iinc (k := 3) (v := x3 + (1 : Int32)) (lv' := [(3, .int (x3 + (1 : Int32))), (0, .ref (ad 9)), (1, .int x1), (2, .int x2), (4, .int x4)]) S.1 S.2.1 d_Ru_rightAt_41 hl rfl rfl (by decide) rfl (fun ls hl => ?_)
          refine lv_iinc (k := 4) (v := x4 + (1 : Int32)) (lv' := [(4, .int (x4 + (1 : Int32))), (3, .int (x3 + (1 : Int32))), (0, .ref (ad 9)), (1, .int x1), (2, .int x2)]) S.1 S.2.1 d_Ru_rightAt_44 hl rfl rfl (by decide) rfl (fun ls hl => ?_)
          refine lv_goto (tgt := 5) S.1 S.2.1 d_Ru_rightAt_47 (by decide) ?_
          exact ih _ _ _ h (lv_sub hl [2, 3, 4, 1, 0] rfl)
        · have h := h.2 hc
          refine lv_aload_n S.1 S.2.1 d_Ru_rightAt_33 rfl (lv_at hl 0 rfl) ?_
          refine g_Ru_right S hK hP d_Ru_rightAt_34 ?_
          refine lv_iload S.1 S.2.1 d_Ru_rightAt_37 (lv_at hl 4 rfl) ?_
          obtain ⟨hin, h⟩ := h
          refine a_Ru_right S hK hP hin d_Ru_rightAt_39 ?_
          exact ret_roi S hr hlk h d_Ru_rightAt_40
      · have h := h.2 hc
        refine lv_goto (tgt := 44) S.1 S.2.1 d_Ru_rightAt_25 (by decide) ?_
        refine lv_iinc (k := 4) (v := x4 + (1 : Int32)) (lv' := [(4, .int (x4 + (1 : Int32))), (0, .ref (ad 9)), (1, .int x1), (2, .int x2), (3, .int x3)]) S.1 S.2.1 d_Ru_rightAt_44 hl rfl rfl (by decide) rfl (fun ls hl => ?_)
        refine lv_goto (tgt := 5) S.1 S.2.1 d_Ru_rightAt_47 (by decide) ?_
        exact ih _ _ _ h (lv_sub hl [1, 2, 3, 4, 0] rfl)
set_option maxHeartbeats 4000000 in
set_option maxRecDepth 100000 in
theorem c_Ru_rightAt (l : Launch) (D : va_G) (ad : Nat → Nat) (cA : ClassId × ClassId × ClassId) (te : Te) (ru : Ru) (au : Au) (re : Re) (la : La) (sp : Sp) (le : Le) (x1 : Int32) (x2 : Int32) (Q : Int32 → Prop) (h : p_Ru_rightAt x1 x2 ru Q) : roI l y_Ru_rightAt (wsOf y_Ru_rightAt b_Ru_rightAt 5 (some .int)) rm_Ru_rightAt D (tyA cA) (wC ad cA) [.ref (ad 9), .int x1, .int x2] (te, ru, au, re, la, sp, le) Q := by
  refine roI_of (by decide) (Nat.le_of_ble_eq_true rfl) ?_
  intro p e s m below meth c S hr hlk hK hP ls hl
  have hl : lv_has ls 5 [(0, .ref (ad 9)), (1, .int x1), (2, .int x2)] := hl
  refine lv_iconst (v := (0 : Int32)) S.1 S.2.1 d_Ru_rightAt_0 rfl ?_
  refine lv_istore_n (lv' := [(3, .int (0 : Int32)), (0, .ref (ad 9)), (1, .int x1), (2, .int x2)]) S.1 S.2.1 d_Ru_rightAt_1 rfl hl (by decide) rfl (fun ls hl => ?_)
  refine lv_iconst (v := (0 : Int32)) S.1 S.2.1 d_Ru_rightAt_2 rfl ?_
  refine lv_istore (lv' := [(4, .int (0 : Int32)), (3, .int (0 : Int32)), (0, .ref (ad 9)), (1, .int x1), (2, .int x2)]) S.1 S.2.1 d_Ru_rightAt_3 hl (by decide) rfl (fun ls hl => ?_)
  obtain ⟨n', h⟩ := h
  exact n_Ru_rightAt_5 S hr hlk hK hP n' _ _ _ h (lv_sub hl [2, 3, 4, 1, 0] rfl)

set_option maxHeartbeats 4000000 in
set_option maxRecDepth 100000 in
theorem c_Au_anyFinal (l : Launch) (D : va_G) (ad : Nat → Nat) (cA : ClassId × ClassId × ClassId) (te : Te) (ru : Ru) (au : Au) (re : Re) (la : La) (sp : Sp) (le : Le) (x1 : Int32) (Q : Int32 → Prop) (h : p_Au_anyFinal x1 au Q) : roI l y_Au_anyFinal (wsOf y_Au_anyFinal b_Au_anyFinal 2 (some .boolean)) rm_Au_anyFinal D (tyA cA) (wC ad cA) [.ref (ad 12), .int x1] (te, ru, au, re, la, sp, le) Q := by
  refine roI_of (by decide) (Nat.le_of_ble_eq_true rfl) ?_
  intro p e s m below meth c S hr hlk hK hP ls hl
  have hl : lv_has ls 2 [(0, .ref (ad 12)), (1, .int x1)] := hl
  refine lv_iload_n S.1 S.2.1 d_Au_anyFinal_0 rfl (lv_at hl 1 rfl) ?_
  refine lv_aload_n S.1 S.2.1 d_Au_anyFinal_1 rfl (lv_at hl 0 rfl) ?_
  refine g_Au_finals S hK hP d_Au_anyFinal_2 ?_
  refine lv_iand S.1 S.2.1 d_Au_anyFinal_5 ?_
  refine lv_if_eq (tgt := 13) S.1 S.2.1 d_Au_anyFinal_6 (by decide) (fun hc => ?_) (fun hc => ?_)
  · have h := h.1 hc
    refine lv_iconst (v := (0 : Int32)) S.1 S.2.1 d_Au_anyFinal_13 rfl ?_
    exact ret_roz S hr hlk (by decide) h d_Au_anyFinal_14
  · have h := h.2 hc
    refine lv_iconst (v := (1 : Int32)) S.1 S.2.1 d_Au_anyFinal_9 rfl ?_
    refine lv_goto (tgt := 14) S.1 S.2.1 d_Au_anyFinal_10 (by decide) ?_
    exact ret_roz S hr hlk (by decide) h d_Au_anyFinal_14

set_option maxHeartbeats 4000000 in
set_option maxRecDepth 100000 in
theorem n_Au_canStand_57 {p : Program} {l : Launch} {e : Env} {s : State} {m : MethodId} {args : Array Value} {below : List Frame} {meth : Method} {c : Code} {D : va_G} {ad : Nat → Nat} {cA : ClassId × ClassId × ClassId} {te : Te} {ru : Ru} {au : Au} {re : Re} {la : La} {sp : Sp} {le : Le} {x1 : Int32} {x2 : Int32} {x3 : Int32} {x4 : Int32} {Q : Int32 → Prop} (S : CallFix p m c b_Au_canStand 5 s args gtbl R_Au) (hr : meth.sig.returnType = (some .boolean)) (hlk : meth.locks = false) (hK : gK D (tyA cA) s) (hP : va_P D classes (wC ad cA (te, ru, au, re, la, sp, le)) s.heap) : ∀ (ls : Array Slot) , p_Au_canStand_57 x1 x2 x3 x4 te Q  → lv_has ls 5 [] → W p l e rm_Au_canStand s m args below meth c s.heap [] 0 0 (qRI Q below args s) (F0 m 57 ls []) := by
  intro ls  h hl
  refine lv_iconst (v := (1 : Int32)) S.1 S.2.1 d_Au_canStand_57 rfl ?_
  refine lv_goto (tgt := 62) S.1 S.2.1 d_Au_canStand_58 (by decide) ?_
  exact ret_roz S hr hlk (by decide) h d_Au_canStand_62
set_option maxHeartbeats 4000000 in
set_option maxRecDepth 100000 in
theorem n_Au_canStand_38 {p : Program} {l : Launch} {e : Env} {s : State} {m : MethodId} {args : Array Value} {below : List Frame} {meth : Method} {c : Code} {D : va_G} {ad : Nat → Nat} {cA : ClassId × ClassId × ClassId} {te : Te} {ru : Ru} {au : Au} {re : Re} {la : La} {sp : Sp} {le : Le} {x1 : Int32} {x2 : Int32} {x3 : Int32} {x4 : Int32} {Q : Int32 → Prop} (S : CallFix p m c b_Au_canStand 5 s args gtbl R_Au) (hr : meth.sig.returnType = (some .boolean)) (hlk : meth.locks = false) (hK : gK D (tyA cA) s) (hP : va_P D classes (wC ad cA (te, ru, au, re, la, sp, le)) s.heap) : ∀ (ls : Array Slot) , p_Au_canStand_38 x1 x2 x3 x4 te Q  → lv_has ls 5 [(0, .ref (ad 12)), (1, .int x1), (3, .int x3)] → W p l e rm_Au_canStand s m args below meth c s.heap [] 0 0 (qRI Q below args s) (F0 m 38 ls []) := by
  intro ls  h hl
  refine lv_aload_n S.1 S.2.1 d_Au_canStand_38 rfl (lv_at hl 0 rfl) ?_
  refine g_Au_terms S hK hP d_Au_canStand_39 ?_
  refine lv_iload_n S.1 S.2.1 d_Au_canStand_42 rfl (lv_at hl 1 rfl) ?_
  refine callV_roi S (c_Te_placesOf l D ad cA _ _ _ _ _ _ _ _ _ h) (mkV S.2.2.2.2 ml_Au_47 k_Te_placesOf rfl rfl ⟨Nat.le_of_ble_eq_true rfl, Nat.le_of_ble_eq_true rfl⟩) (rv_Te hK hP) hK hP hl.1 rfl rfl (Nat.le_of_ble_eq_true rfl) d_Au_canStand_43 ⟨Nat.zero_le _, Nat.zero_le _⟩ (fun r43 h => ?_)
  refine lv_iconst (v := (2 : Int32)) S.1 S.2.1 d_Au_canStand_46 rfl ?_
  refine lv_icmp_lt (tgt := 57) S.1 S.2.1 d_Au_canStand_47 (by decide) (fun hc => ?_) (fun hc => ?_)
  · have h := h.1 hc
    exact n_Au_canStand_57 S hr hlk hK hP _ h (lv_sub hl [] rfl)
  · have h := h.2 hc
    refine lv_iload_n S.1 S.2.1 d_Au_canStand_50 rfl (lv_at hl 2 rfl) ?_
    refine callSN_roi S (c_Gr_isState l D ad cA _ _ _ _ _ _ _ _ _ h) (mkSN S.2.2.2.2 hK.2 k_Gr_isState rfl rfl ⟨Nat.le_of_ble_eq_true rfl, Nat.le_of_ble_eq_true rfl⟩) hK hP hl.1 rfl rfl (Nat.le_of_ble_eq_true rfl) d_Au_canStand_51 ⟨Nat.zero_le _, Nat.zero_le _⟩ (fun r51 h => ?_)
    refine lv_if_eq (tgt := 61) S.1 S.2.1 d_Au_canStand_54 (by decide) (fun hc => ?_) (fun hc => ?_)
    · have h := h.1 hc
      refine lv_iconst (v := (0 : Int32)) S.1 S.2.1 d_Au_canStand_61 rfl ?_
      exact ret_roz S hr hlk (by decide) h d_Au_canStand_62
    · have h := h.2 hc
      exact n_Au_canStand_57 S hr hlk hK hP _ h (lv_sub hl [] rfl)
set_option maxHeartbeats 4000000 in
set_option maxRecDepth 100000 in
theorem c_Au_canStand (l : Launch) (D : va_G) (ad : Nat → Nat) (cA : ClassId × ClassId × ClassId) (te : Te) (ru : Ru) (au : Au) (re : Re) (la : La) (sp : Sp) (le : Le) (x1 : Int32) (x2 : Int32) (x3 : Int32) (x4 : Int32) (Q : Int32 → Prop) (h : p_Au_canStand x1 x2 x3 x4 te Q) : roI l y_Au_canStand (wsOf y_Au_canStand b_Au_canStand 5 (some .boolean)) rm_Au_canStand D (tyA cA) (wC ad cA) [.ref (ad 12), .int x1, .int x2, .int x3, .int x4] (te, ru, au, re, la, sp, le) Q := by
  refine roI_of (by decide) (Nat.le_of_ble_eq_true rfl) ?_
  intro p e s m below meth c S hr hlk hK hP ls hl
  have hl : lv_has ls 5 [(0, .ref (ad 12)), (1, .int x1), (2, .int x2), (3, .int x3), (4, .int x4)] := hl
  refine lv_aload_n S.1 S.2.1 d_Au_canStand_0 rfl (lv_at hl 0 rfl) ?_
  refine g_Au_terms S hK hP d_Au_canStand_1 ?_
  refine lv_iload_n S.1 S.2.1 d_Au_canStand_4 rfl (lv_at hl 1 rfl) ?_
  refine callV_roi S (c_Te_isSymbol l D ad cA _ _ _ _ _ _ _ _ _ h) (mkV S.2.2.2.2 ml_Au_38 k_Te_isSymbol rfl rfl ⟨Nat.le_of_ble_eq_true rfl, Nat.le_of_ble_eq_true rfl⟩) (rv_Te hK hP) hK hP hl.1 rfl rfl (Nat.le_of_ble_eq_true rfl) d_Au_canStand_5 ⟨Nat.zero_le _, Nat.zero_le _⟩ (fun r5 h => ?_)
  refine lv_if_eq (tgt := 61) S.1 S.2.1 d_Au_canStand_8 (by decide) (fun hc => ?_) (fun hc => ?_)
  · have h := h.1 hc
    refine lv_iconst (v := (0 : Int32)) S.1 S.2.1 d_Au_canStand_61 rfl ?_
    exact ret_roz S hr hlk (by decide) h d_Au_canStand_62
  · have h := h.2 hc
    refine lv_iload S.1 S.2.1 d_Au_canStand_11 (lv_at hl 4 rfl) ?_
    refine callSN_roi S (c_Gr_isState l D ad cA _ _ _ _ _ _ _ _ _ h) (mkSN S.2.2.2.2 hK.2 k_Gr_isState rfl rfl ⟨Nat.le_of_ble_eq_true rfl, Nat.le_of_ble_eq_true rfl⟩) hK hP hl.1 rfl rfl (Nat.le_of_ble_eq_true rfl) d_Au_canStand_13 ⟨Nat.zero_le _, Nat.zero_le _⟩ (fun r13 h => ?_)
    refine lv_if_eq (tgt := 61) S.1 S.2.1 d_Au_canStand_16 (by decide) (fun hc => ?_) (fun hc => ?_)
    · have h := h.1 hc
      refine lv_iconst (v := (0 : Int32)) S.1 S.2.1 d_Au_canStand_61 rfl ?_
      exact ret_roz S hr hlk (by decide) h d_Au_canStand_62
    · have h := h.2 hc
      refine lv_aload_n S.1 S.2.1 d_Au_canStand_19 rfl (lv_at hl 0 rfl) ?_
      refine g_Au_terms S hK hP d_Au_canStand_20 ?_
      refine lv_iload_n S.1 S.2.1 d_Au_canStand_23 rfl (lv_at hl 1 rfl) ?_
      refine callV_roi S (c_Te_placesOf l D ad cA _ _ _ _ _ _ _ _ _ h) (mkV S.2.2.2.2 ml_Au_47 k_Te_placesOf rfl rfl ⟨Nat.le_of_ble_eq_true rfl, Nat.le_of_ble_eq_true rfl⟩) (rv_Te hK hP) hK hP hl.1 rfl rfl (Nat.le_of_ble_eq_true rfl) d_Au_canStand_24 ⟨Nat.zero_le _, Nat.zero_le _⟩ (fun r24 h => ?_)
      refine lv_iconst (v := (1 : Int32)) S.1 S.2.1 d_Au_canStand_27 rfl ?_
      refine lv_icmp_lt (tgt := 38) S.1 S.2.1 d_Au_canStand_28 (by decide) (fun hc => ?_) (fun hc => ?_)
      · have h := h.1 hc
        exact n_Au_canStand_38 S hr hlk hK hP _ h (lv_sub hl [0, 1, 3] rfl)
      · have h := h.2 hc
        refine lv_iload_n S.1 S.2.1 d_Au_canStand_31 rfl (lv_at hl 2 rfl) ?_
        refine callSN_roi S (c_Gr_isState l D ad cA _ _ _ _ _ _ _ _ _ h) (mkSN S.2.2.2.2 hK.2 k_Gr_isState rfl rfl ⟨Nat.le_of_ble_eq_true rfl, Nat.le_of_ble_eq_true rfl⟩) hK hP hl.1 rfl rfl (Nat.le_of_ble_eq_true rfl) d_Au_canStand_32 ⟨Nat.zero_le _, Nat.zero_le _⟩ (fun r32 h => ?_)
        refine lv_if_eq (tgt := 61) S.1 S.2.1 d_Au_canStand_35 (by decide) (fun hc => ?_) (fun hc => ?_)
        · have h := h.1 hc
          refine lv_iconst (v := (0 : Int32)) S.1 S.2.1 d_Au_canStand_61 rfl ?_
          exact ret_roz S hr hlk (by decide) h d_Au_canStand_62
        · have h := h.2 hc
          exact n_Au_canStand_38 S hr hlk hK hP _ h (lv_sub hl [0, 1, 3] rfl)

set_option maxHeartbeats 4000000 in
set_option maxRecDepth 100000 in
theorem n_Au_holds_58 {p : Program} {l : Launch} {e : Env} {s : State} {m : MethodId} {args : Array Value} {below : List Frame} {meth : Method} {c : Code} {D : va_G} {ad : Nat → Nat} {cA : ClassId × ClassId × ClassId} {te : Te} {ru : Ru} {au : Au} {re : Re} {la : La} {sp : Sp} {le : Le} {x1 : Int32} {x2 : Int32} {x3 : Int32} {x4 : Int32} {Q : Int32 → Prop} (S : CallFix p m c b_Au_holds 6 s args gtbl R_Au) (hr : meth.sig.returnType = (some .boolean)) (hlk : meth.locks = false) (hK : gK D (tyA cA) s) (hP : va_P D classes (wC ad cA (te, ru, au, re, la, sp, le)) s.heap) {k3 : Int32 → Prop} (hk3 : ∀ (ls : Array Slot) (x5 : Int32), k3 x5 → lv_has ls 6 [(0, .ref (ad 12)), (1, .int x1), (2, .int x2), (3, .int x3), (4, .int x4), (5, .int x5)] → W p l e rm_Au_holds s m args below meth c s.heap [] 0 0 (qRI Q below args s) (F0 m 3 ls [])) : ∀ (ls : Array Slot) (x5 : Int32), p_Au_holds_58 x1 x2 x3 x4 te au Q k3 x5 → lv_has ls 6 [(0, .ref (ad 12)), (1, .int x1), (2, .int x2), (3, .int x3), (4, .int x4), (5, .int x5)] → W p l e rm_Au_holds s m args below meth c s.heap [] 0 0 (qRI Q below args s) (F0 m 58 ls []) := by
  intro ls x5 h hl
  refine lv_aload_n S.1 S.2.1 d_Au_holds_58 rfl (lv_at hl 0 rfl) ?_
  refine g_Au_terms S hK hP d_Au_holds_59 ?_
  refine lv_iload_n S.1 S.2.1 d_Au_holds_62 rfl (lv_at hl 1 rfl) ?_
  refine callV_roi S (c_Te_placesOf l D ad cA _ _ _ _ _ _ _ _ _ h) (mkV S.2.2.2.2 ml_Au_47 k_Te_placesOf rfl rfl ⟨Nat.le_of_ble_eq_true rfl, Nat.le_of_ble_eq_true rfl⟩) (rv_Te hK hP) hK hP hl.1 rfl rfl (Nat.le_of_ble_eq_true rfl) d_Au_holds_63 ⟨Nat.zero_le _, Nat.zero_le _⟩ (fun r63 h => ?_)
  refine lv_iconst (v := (2 : Int32)) S.1 S.2.1 d_Au_holds_66 rfl ?_
  refine lv_icmp_lt (tgt := 81) S.1 S.2.1 d_Au_holds_67 (by decide) (fun hc => ?_) (fun hc => ?_)
  · have h := h.1 hc
    refine lv_iconst (v := (1 : Int32)) S.1 S.2.1 d_Au_holds_81 rfl ?_
    exact ret_roz S hr hlk (by decide) h d_Au_holds_82
  · have h := h.2 hc
    refine lv_aload_n S.1 S.2.1 d_Au_holds_70 rfl (lv_at hl 0 rfl) ?_
    refine g_Au_second S hK hP d_Au_holds_71 ?_
    refine lv_iload S.1 S.2.1 d_Au_holds_74 (lv_at hl 5 rfl) ?_
    obtain ⟨hin, h⟩ := h
    refine a_Au_second S hK hP hin d_Au_holds_76 ?_
    refine lv_iload_n S.1 S.2.1 d_Au_holds_77 rfl (lv_at hl 3 rfl) ?_
    refine lv_icmp_ne (tgt := 83) S.1 S.2.1 d_Au_holds_78 (by decide) (fun hc => ?_) (fun hc => ?_)
    · have h := h.1 hc
      refine lv_iinc (k := 5) (v := x5 + (1 : Int32)) (lv' := [(5, .int (x5 + (1 : Int32))), (0, .ref (ad 12)), (1, .int x1), (2, .int x2), (3, .int x3), (4, .int x4)]) S.1 S.2.1 d_Au_holds_83 hl rfl rfl (by decide) rfl (fun ls hl => ?_)
      refine lv_goto (tgt := 3) S.1 S.2.1 d_Au_holds_86 (by decide) ?_
      exact hk3 _ _ h (lv_sub hl [1, 2, 3, 4, 5, 0] rfl)
    · have h := h.2 hc
      refine lv_iconst (v := (1 : Int32)) S.1 S.2.1 d_Au_holds_81 rfl ?_
      exact ret_roz S hr hlk (by decide) h d_Au_holds_82
set_option maxHeartbeats 4000000 in
set_option maxRecDepth 100000 in
theorem n_Au_holds_3 {p : Program} {l : Launch} {e : Env} {s : State} {m : MethodId} {args : Array Value} {below : List Frame} {meth : Method} {c : Code} {D : va_G} {ad : Nat → Nat} {cA : ClassId × ClassId × ClassId} {te : Te} {ru : Ru} {au : Au} {re : Re} {la : La} {sp : Sp} {le : Le} {x1 : Int32} {x2 : Int32} {x3 : Int32} {x4 : Int32} {Q : Int32 → Prop} (S : CallFix p m c b_Au_holds 6 s args gtbl R_Au) (hr : meth.sig.returnType = (some .boolean)) (hlk : meth.locks = false) (hK : gK D (tyA cA) s) (hP : va_P D classes (wC ad cA (te, ru, au, re, la, sp, le)) s.heap) : ∀ n : Nat, ∀ (ls : Array Slot) (x5 : Int32), p_Au_holds_3 x1 x2 x3 x4 te au Q n x5 → lv_has ls 6 [(0, .ref (ad 12)), (1, .int x1), (2, .int x2), (3, .int x3), (4, .int x4), (5, .int x5)] → W p l e rm_Au_holds s m args below meth c s.heap [] 0 0 (qRI Q below args s) (F0 m 3 ls []) := by
  intro n
  induction n with
  | zero =>
    intro ls x5 h
    exact (show False from h).elim
  | succ n ih =>
    intro ls x5 h hl
    refine lv_iload S.1 S.2.1 d_Au_holds_3 (lv_at hl 5 rfl) ?_
    refine lv_aload_n S.1 S.2.1 d_Au_holds_5 rfl (lv_at hl 0 rfl) ?_
    refine g_Au_count S hK hP d_Au_holds_6 ?_
    refine lv_icmp_ge (tgt := 89) S.1 S.2.1 d_Au_holds_9 (by decide) (fun hc => ?_) (fun hc => ?_)
    · have h := h.1 hc
      refine lv_iconst (v := (0 : Int32)) S.1 S.2.1 d_Au_holds_89 rfl ?_
      exact ret_roz S hr hlk (by decide) h d_Au_holds_90
    · have h := h.2 hc
      refine lv_aload_n S.1 S.2.1 d_Au_holds_12 rfl (lv_at hl 0 rfl) ?_
      refine g_Au_symbol S hK hP d_Au_holds_13 ?_
      refine lv_iload S.1 S.2.1 d_Au_holds_16 (lv_at hl 5 rfl) ?_
      obtain ⟨hin, h⟩ := h
      refine a_Au_symbol S hK hP hin d_Au_holds_18 ?_
      refine lv_iload_n S.1 S.2.1 d_Au_holds_19 rfl (lv_at hl 1 rfl) ?_
      refine lv_icmp_ne (tgt := 83) S.1 S.2.1 d_Au_holds_20 (by decide) (fun hc => ?_) (fun hc => ?_)
      · have h := h.1 hc
        refine lv_iinc (k := 5) (v := x5 + (1 : Int32)) (lv' := [(5, .int (x5 + (1 : Int32))), (0, .ref (ad 12)), (1, .int x1), (2, .int x2), (3, .int x3), (4, .int x4)]) S.1 S.2.1 d_Au_holds_83 hl rfl rfl (by decide) rfl (fun ls hl => ?_)
        refine lv_goto (tgt := 3) S.1 S.2.1 d_Au_holds_86 (by decide) ?_
        exact ih _ _ h (lv_sub hl [1, 2, 3, 4, 5, 0] rfl)
      · have h := h.2 hc
        refine lv_aload_n S.1 S.2.1 d_Au_holds_23 rfl (lv_at hl 0 rfl) ?_
        refine g_Au_target S hK hP d_Au_holds_24 ?_
        refine lv_iload S.1 S.2.1 d_Au_holds_27 (lv_at hl 5 rfl) ?_
        obtain ⟨hin, h⟩ := h
        refine a_Au_target S hK hP hin d_Au_holds_29 ?_
        refine lv_iload S.1 S.2.1 d_Au_holds_30 (lv_at hl 4 rfl) ?_
        refine lv_icmp_ne (tgt := 83) S.1 S.2.1 d_Au_holds_32 (by decide) (fun hc => ?_) (fun hc => ?_)
        · have h := h.1 hc
          refine lv_iinc (k := 5) (v := x5 + (1 : Int32)) (lv' := [(5, .int (x5 + (1 : Int32))), (0, .ref (ad 12)), (1, .int x1), (2, .int x2), (3, .int x3), (4, .int x4)]) S.1 S.2.1 d_Au_holds_83 hl rfl rfl (by decide) rfl (fun ls hl => ?_)
          refine lv_goto (tgt := 3) S.1 S.2.1 d_Au_holds_86 (by decide) ?_
          exact ih _ _ h (lv_sub hl [1, 2, 3, 4, 5, 0] rfl)
        · have h := h.2 hc
          refine lv_aload_n S.1 S.2.1 d_Au_holds_35 rfl (lv_at hl 0 rfl) ?_
          refine g_Au_terms S hK hP d_Au_holds_36 ?_
          refine lv_iload_n S.1 S.2.1 d_Au_holds_39 rfl (lv_at hl 1 rfl) ?_
          refine callV_roi S (c_Te_placesOf l D ad cA _ _ _ _ _ _ _ _ _ h) (mkV S.2.2.2.2 ml_Au_47 k_Te_placesOf rfl rfl ⟨Nat.le_of_ble_eq_true rfl, Nat.le_of_ble_eq_true rfl⟩) (rv_Te hK hP) hK hP hl.1 rfl rfl (Nat.le_of_ble_eq_true rfl) d_Au_holds_40 ⟨Nat.zero_le _, Nat.zero_le _⟩ (fun r40 h => ?_)
          refine lv_iconst (v := (1 : Int32)) S.1 S.2.1 d_Au_holds_43 rfl ?_
          refine lv_icmp_lt (tgt := 58) S.1 S.2.1 d_Au_holds_44 (by decide) (fun hc => ?_) (fun hc => ?_)
          · have h := h.1 hc
            exact n_Au_holds_58 S hr hlk hK hP ih _ _ h (lv_sub hl [0, 1, 2, 3, 4, 5] rfl)
          · have h := h.2 hc
            refine lv_aload_n S.1 S.2.1 d_Au_holds_47 rfl (lv_at hl 0 rfl) ?_
            refine g_Au_first S hK hP d_Au_holds_48 ?_
            refine lv_iload S.1 S.2.1 d_Au_holds_51 (lv_at hl 5 rfl) ?_
            obtain ⟨hin, h⟩ := h
            refine a_Au_first S hK hP hin d_Au_holds_53 ?_
            refine lv_iload_n S.1 S.2.1 d_Au_holds_54 rfl (lv_at hl 2 rfl) ?_
            refine lv_icmp_ne (tgt := 83) S.1 S.2.1 d_Au_holds_55 (by decide) (fun hc => ?_) (fun hc => ?_)
            · have h := h.1 hc
              refine lv_iinc (k := 5) (v := x5 + (1 : Int32)) (lv' := [(5, .int (x5 + (1 : Int32))), (0, .ref (ad 12)), (1, .int x1), (2, .int x2), (3, .int x3), (4, .int x4)]) S.1 S.2.1 d_Au_holds_83 hl rfl rfl (by decide) rfl (fun ls hl => ?_)
              refine lv_goto (tgt := 3) S.1 S.2.1 d_Au_holds_86 (by decide) ?_
              exact ih _ _ h (lv_sub hl [1, 2, 3, 4, 5, 0] rfl)
            · have h := h.2 hc
              exact n_Au_holds_58 S hr hlk hK hP ih _ _ h (lv_sub hl [0, 1, 2, 3, 4, 5] rfl)
set_option maxHeartbeats 4000000 in
set_option maxRecDepth 100000 in
theorem c_Au_holds (l : Launch) (D : va_G) (ad : Nat → Nat) (cA : ClassId × ClassId × ClassId) (te : Te) (ru : Ru) (au : Au) (re : Re) (la : La) (sp : Sp) (le : Le) (x1 : Int32) (x2 : Int32) (x3 : Int32) (x4 : Int32) (Q : Int32 → Prop) (h : p_Au_holds x1 x2 x3 x4 te au Q) : roI l y_Au_holds (wsOf y_Au_holds b_Au_holds 6 (some .boolean)) rm_Au_holds D (tyA cA) (wC ad cA) [.ref (ad 12), .int x1, .int x2, .int x3, .int x4] (te, ru, au, re, la, sp, le) Q := by
  refine roI_of (by decide) (Nat.le_of_ble_eq_true rfl) ?_
  intro p e s m below meth c S hr hlk hK hP ls hl
  have hl : lv_has ls 6 [(0, .ref (ad 12)), (1, .int x1), (2, .int x2), (3, .int x3), (4, .int x4)] := hl
  refine lv_iconst (v := (0 : Int32)) S.1 S.2.1 d_Au_holds_0 rfl ?_
  refine lv_istore (lv' := [(5, .int (0 : Int32)), (0, .ref (ad 12)), (1, .int x1), (2, .int x2), (3, .int x3), (4, .int x4)]) S.1 S.2.1 d_Au_holds_1 hl (by decide) rfl (fun ls hl => ?_)
  obtain ⟨n', h⟩ := h
  exact n_Au_holds_3 S hr hlk hK hP n' _ _ h (lv_sub hl [1, 2, 3, 4, 5, 0] rfl)

set_option maxHeartbeats 4000000 in
set_option maxRecDepth 100000 in
theorem n_Au_append_72 {p : Program} {l : Launch} {e : Env} {s : State} {m : MethodId} {args : Array Value} {below : List Frame} {meth : Method} {c : Code} {D : va_G} {A : Nat → Prop} {ad : Nat → Nat} {cA : ClassId × ClassId × ClassId} {te : Te} {ru : Ru} {re : Re} {la : La} {sp : Sp} {le : Le} {x1 : Int32} {x2 : Int32} {x3 : Int32} {x4 : Int32} {Q : Int32 → Au → Prop} (S : CallFix p m c b_Au_append 5 s args gtbl R_Au) (hr : meth.sig.returnType = (some .boolean)) (hlk : meth.locks = false) (hK : gK D (tyA cA) s) (hA : ∀ q : Nat, s.heap.size ≤ q → A q) : ∀ (ls : Array Slot) (H : Heap) (locs : List Loc) (y0 : Int32) (y1 : Int32) (au : Au), p_Au_append_72 x1 x2 x3 x4 te Q y0 y1 au → lv_has ls 5 [(0, .ref (ad 12)), (4, .int x4)] → gIn D A s (wC ad cA) (te, ru, au, re, la, sp, le) H locs → W p l e rm_Au_append s m args below meth c H locs 0 0 (qI D (tyA cA) A (wC ad cA) (fun u : Au => (te, ru, u, re, la, sp, le)) (fun (r : Int32) (u : Au) => Q r u) below args s) (F0 m 72 ls [.int y0, .int y1, .ref (ad 15)]) := by
  intro ls H locs y0 y1 au h hl I
  obtain ⟨hin, h⟩ := h
  refine s_Au_second S hK I hin d_Au_append_72 (fun H locs au72 eau72 I => ?_)
  have h := h au72 eau72
  refine lv_aload_n S.1 S.2.1 d_Au_append_73 rfl (lv_at hl 0 rfl) ?_
  refine g_Au_target S hK I.1 d_Au_append_74 ?_
  refine lv_aload_n S.1 S.2.1 d_Au_append_77 rfl (lv_at hl 0 rfl) ?_
  refine g_Au_count S hK I.1 d_Au_append_78 ?_
  refine lv_iload S.1 S.2.1 d_Au_append_81 (lv_at hl 1 rfl) ?_
  obtain ⟨hin, h⟩ := h
  refine s_Au_target S hK I hin d_Au_append_83 (fun H locs au83 eau83 I => ?_)
  have h := h au83 eau83
  refine lv_aload_n S.1 S.2.1 d_Au_append_84 rfl (lv_at hl 0 rfl) ?_
  refine lv_dup S.1 S.2.1 d_Au_append_85 rfl ?_
  refine g_Au_count S hK I.1 d_Au_append_86 ?_
  refine lv_iconst (v := (1 : Int32)) S.1 S.2.1 d_Au_append_89 rfl ?_
  refine lv_iadd S.1 S.2.1 d_Au_append_90 ?_
  refine q_Au_count S hK I d_Au_append_91 (fun H locs au91 eau91 I => ?_)
  have h := h au91 eau91
  refine lv_iconst (v := (1 : Int32)) S.1 S.2.1 d_Au_append_94 rfl ?_
  exact ret_rwz S hr hlk hK (by decide) I h d_Au_append_95
set_option maxHeartbeats 4000000 in
set_option maxRecDepth 100000 in
theorem n_Au_append_46 {p : Program} {l : Launch} {e : Env} {s : State} {m : MethodId} {args : Array Value} {below : List Frame} {meth : Method} {c : Code} {D : va_G} {A : Nat → Prop} {ad : Nat → Nat} {cA : ClassId × ClassId × ClassId} {te : Te} {ru : Ru} {re : Re} {la : La} {sp : Sp} {le : Le} {x1 : Int32} {x2 : Int32} {x3 : Int32} {x4 : Int32} {Q : Int32 → Au → Prop} (S : CallFix p m c b_Au_append 5 s args gtbl R_Au) (hr : meth.sig.returnType = (some .boolean)) (hlk : meth.locks = false) (hK : gK D (tyA cA) s) (hA : ∀ q : Nat, s.heap.size ≤ q → A q) : ∀ (ls : Array Slot) (H : Heap) (locs : List Loc) (y0 : Int32) (y1 : Int32) (au : Au), p_Au_append_46 x1 x2 x3 x4 te Q y0 y1 au → lv_has ls 5 [(0, .ref (ad 12)), (1, .int x1), (3, .int x3), (4, .int x4)] → gIn D A s (wC ad cA) (te, ru, au, re, la, sp, le) H locs → W p l e rm_Au_append s m args below meth c H locs 0 0 (qI D (tyA cA) A (wC ad cA) (fun u : Au => (te, ru, u, re, la, sp, le)) (fun (r : Int32) (u : Au) => Q r u) below args s) (F0 m 46 ls [.int y0, .int y1, .ref (ad 14)]) := by
  intro ls H locs y0 y1 au h hl I
  obtain ⟨hin, h⟩ := h
  refine s_Au_first S hK I hin d_Au_append_46 (fun H locs au46 eau46 I => ?_)
  have h := h au46 eau46
  refine lv_aload_n S.1 S.2.1 d_Au_append_47 rfl (lv_at hl 0 rfl) ?_
  refine g_Au_second S hK I.1 d_Au_append_48 ?_
  refine lv_aload_n S.1 S.2.1 d_Au_append_51 rfl (lv_at hl 0 rfl) ?_
  refine g_Au_count S hK I.1 d_Au_append_52 ?_
  refine lv_aload_n S.1 S.2.1 d_Au_append_55 rfl (lv_at hl 0 rfl) ?_
  refine g_Au_terms S hK I.1 d_Au_append_56 ?_
  refine lv_iload_n S.1 S.2.1 d_Au_append_59 rfl (lv_at hl 1 rfl) ?_
  refine callV_roi S (c_Te_placesOf l D ad cA _ _ _ _ _ _ _ _ _ h) (mkV S.2.2.2.2 ml_Au_47 k_Te_placesOf rfl rfl ⟨Nat.le_of_ble_eq_true rfl, Nat.le_of_ble_eq_true rfl⟩) (rv_Te hK I.1) hK I.1 hl.1 rfl rfl (Nat.le_of_ble_eq_true rfl) d_Au_append_60 ⟨Nat.zero_le _, Nat.zero_le _⟩ (fun r60 h => ?_)
  refine lv_iconst (v := (2 : Int32)) S.1 S.2.1 d_Au_append_63 rfl ?_
  refine lv_icmp_ge (tgt := 71) S.1 S.2.1 d_Au_append_64 (by decide) (fun hc => ?_) (fun hc => ?_)
  · have h := h.1 hc
    refine lv_iload_n S.1 S.2.1 d_Au_append_71 rfl (lv_at hl 2 rfl) ?_
    exact n_Au_append_72 S hr hlk hK hA _ _ _ _ _ _ h (lv_sub hl [0, 3] rfl) I
  · have h := h.2 hc
    refine lv_iconst (v := (0 : Int32)) S.1 S.2.1 d_Au_append_67 rfl ?_
    refine lv_goto (tgt := 72) S.1 S.2.1 d_Au_append_68 (by decide) ?_
    exact n_Au_append_72 S hr hlk hK hA _ _ _ _ _ _ h (lv_sub hl [0, 3] rfl) I
set_option maxHeartbeats 4000000 in
set_option maxRecDepth 100000 in
theorem c_Au_append (l : Launch) (D : va_G) (ad : Nat → Nat) (cA : ClassId × ClassId × ClassId) (te : Te) (ru : Ru) (au : Au) (re : Re) (la : La) (sp : Sp) (le : Le) (x1 : Int32) (x2 : Int32) (x3 : Int32) (x4 : Int32) (Q : Int32 → Au → Prop) (h : p_Au_append x1 x2 x3 x4 te au Q) : rwI l y_Au_append (wsOf y_Au_append b_Au_append 5 (some .boolean)) rm_Au_append D (tyA cA) (wC ad cA) [.ref (ad 12), .int x1, .int x2, .int x3, .int x4] (te, ru, au, re, la, sp, le) (fun u : Au => (te, ru, u, re, la, sp, le)) (fun (r : Int32) (u : Au) => Q r u) := by
  refine rwI_of (by decide) (Nat.le_of_ble_eq_true rfl) ?_
  intro p e s m below meth c S hr hlk hK A hA I ls hl
  have hl : lv_has ls 5 [(0, .ref (ad 12)), (1, .int x1), (2, .int x2), (3, .int x3), (4, .int x4)] := hl
  refine lv_aload_n S.1 S.2.1 d_Au_append_0 rfl (lv_at hl 0 rfl) ?_
  refine g_Au_count S hK I.1 d_Au_append_1 ?_
  refine lv_bipush (v := (20 : Int32)) S.1 S.2.1 d_Au_append_4 rfl ?_
  refine lv_icmp_lt (tgt := 11) S.1 S.2.1 d_Au_append_6 (by decide) (fun hc => ?_) (fun hc => ?_)
  · have h := h.1 hc
    refine lv_aload_n S.1 S.2.1 d_Au_append_11 rfl (lv_at hl 0 rfl) ?_
    refine g_Au_symbol S hK I.1 d_Au_append_12 ?_
    refine lv_aload_n S.1 S.2.1 d_Au_append_15 rfl (lv_at hl 0 rfl) ?_
    refine g_Au_count S hK I.1 d_Au_append_16 ?_
    refine lv_iload_n S.1 S.2.1 d_Au_append_19 rfl (lv_at hl 1 rfl) ?_
    obtain ⟨hin, h⟩ := h
    refine s_Au_symbol S hK I hin d_Au_append_20 (fun H locs au20 eau20 I => ?_)
    have h := h au20 eau20
    refine lv_aload_n S.1 S.2.1 d_Au_append_21 rfl (lv_at hl 0 rfl) ?_
    refine g_Au_first S hK I.1 d_Au_append_22 ?_
    refine lv_aload_n S.1 S.2.1 d_Au_append_25 rfl (lv_at hl 0 rfl) ?_
    refine g_Au_count S hK I.1 d_Au_append_26 ?_
    refine lv_aload_n S.1 S.2.1 d_Au_append_29 rfl (lv_at hl 0 rfl) ?_
    refine g_Au_terms S hK I.1 d_Au_append_30 ?_
    refine lv_iload_n S.1 S.2.1 d_Au_append_33 rfl (lv_at hl 1 rfl) ?_
    refine callV_roi S (c_Te_placesOf l D ad cA _ _ _ _ _ _ _ _ _ h) (mkV S.2.2.2.2 ml_Au_47 k_Te_placesOf rfl rfl ⟨Nat.le_of_ble_eq_true rfl, Nat.le_of_ble_eq_true rfl⟩) (rv_Te hK I.1) hK I.1 hl.1 rfl rfl (Nat.le_of_ble_eq_true rfl) d_Au_append_34 ⟨Nat.zero_le _, Nat.zero_le _⟩ (fun r34 h => ?_)
    refine lv_iconst (v := (1 : Int32)) S.1 S.2.1 d_Au_append_37 rfl ?_
    refine lv_icmp_ge (tgt := 45) S.1 S.2.1 d_Au_append_38 (by decide) (fun hc => ?_) (fun hc => ?_)
    · have h := h.1 hc
      refine lv_iload_n S.1 S.2.1 d_Au_append_45 rfl (lv_at hl 2 rfl) ?_
      exact n_Au_append_46 S hr hlk hK hA _ _ _ _ _ _ h (lv_sub hl [0, 1, 3, 4] rfl) I
    · have h := h.2 hc
      refine lv_iconst (v := (0 : Int32)) S.1 S.2.1 d_Au_append_41 rfl ?_
      refine lv_goto (tgt := 46) S.1 S.2.1 d_Au_append_42 (by decide) ?_
      exact n_Au_append_46 S hr hlk hK hA _ _ _ _ _ _ h (lv_sub hl [0, 1, 3, 4] rfl) I
  · have h := h.2 hc
    refine lv_iconst (v := (0 : Int32)) S.1 S.2.1 d_Au_append_9 rfl ?_
    exact ret_rwz S hr hlk hK (by decide) I h d_Au_append_10
end
section
set_option maxHeartbeats 4000000 in
set_option maxRecDepth 100000 in
theorem n_Au_targetsOf_6 {p : Program} {l : Launch} {e : Env} {s : State} {m : MethodId} {args : Array Value} {below : List Frame} {meth : Method} {c : Code} {D : va_G} {ad : Nat → Nat} {cA : ClassId × ClassId × ClassId} {te : Te} {ru : Ru} {au : Au} {re : Re} {la : La} {sp : Sp} {le : Le} {x1 : Int32} {x2 : Int32} {x3 : Int32} {Q : Int32 → Prop} (S : CallFix p m c b_Au_targetsOf 6 s args gtbl R_Au) (hr : meth.sig.returnType = (some .int)) (hlk : meth.locks = false) (hK : gK D (tyA cA) s) (hP : va_P D classes (wC ad cA (te, ru, au, re, la, sp, le)) s.heap) : ∀ n : Nat, ∀ (ls : Array Slot) (x4 : Int32) (x5 : Int32), p_Au_targetsOf_6 x1 x2 x3 au Q n x4 x5 → lv_has ls 6 [(0, .ref (ad 12)), (1, .int x1), (2, .int x2), (3, .int x3), (4, .int x4), (5, .int x5)] → W p l e rm_Au_targetsOf s m args below meth c s.heap [] 0 0 (qRI Q below args s) (F0 m 6 ls []) := by
  intro n
  induction n with
  | zero =>
    intro ls x4 x5 h
    exact (show False from h).elim
  | succ n ih =>
    intro ls x4 x5 h hl
    refine lv_iload S.1 S.2.1 d_Au_targetsOf_6 (lv_at hl 5 rfl) ?_
    refine lv_aload_n S.1 S.2.1 d_Au_targetsOf_8 rfl (lv_at hl 0 rfl) ?_
    refine g_Au_count S hK hP d_Au_targetsOf_9 ?_
    refine lv_icmp_ge (tgt := 74) S.1 S.2.1 d_Au_targetsOf_12 (by decide) (fun hc => ?_) (fun hc => ?_)
    · have h := h.1 hc
      refine lv_iload S.1 S.2.1 d_Au_targetsOf_74 (lv_at hl 4 rfl) ?_
      exact ret_roi S hr hlk h d_Au_targetsOf_76
    · have h := h.2 hc
      refine lv_aload_n S.1 S.2.1 d_Au_targetsOf_15 rfl (lv_at hl 0 rfl) ?_
      refine g_Au_symbol S hK hP d_Au_targetsOf_16 ?_
      refine lv_iload S.1 S.2.1 d_Au_targetsOf_19 (lv_at hl 5 rfl) ?_
      obtain ⟨hin, h⟩ := h
      refine a_Au_symbol S hK hP hin d_Au_targetsOf_21 ?_
      refine lv_iload_n S.1 S.2.1 d_Au_targetsOf_22 rfl (lv_at hl 1 rfl) ?_
      refine lv_icmp_ne (tgt := 68) S.1 S.2.1 d_Au_targetsOf_23 (by decide) (fun hc => ?_) (fun hc => ?_)
      · have h := h.1 hc
        refine lv_iinc (k := 5) (v := x5 + (1 : Int32)) (lv' := [(5, .int (x5 + (1 : Int32))), (0, .ref (ad 12)), (1, .int x1), (2, .int x2), (3, .int x3), (4, .int x4)]) S.1 S.2.1 d_Au_targetsOf_68 hl rfl rfl (by decide) rfl (fun ls hl => ?_)
        refine lv_goto (tgt := 6) S.1 S.2.1 d_Au_targetsOf_71 (by decide) ?_
        exact ih _ _ _ h (lv_sub hl [1, 2, 3, 4, 5, 0] rfl)
      · have h := h.2 hc
        refine lv_iload_n S.1 S.2.1 d_Au_targetsOf_26 rfl (lv_at hl 2 rfl) ?_
        refine lv_aload_n S.1 S.2.1 d_Au_targetsOf_27 rfl (lv_at hl 0 rfl) ?_
        refine g_Au_first S hK hP d_Au_targetsOf_28 ?_
        refine lv_iload S.1 S.2.1 d_Au_targetsOf_31 (lv_at hl 5 rfl) ?_
        obtain ⟨hin, h⟩ := h
        refine a_Au_first S hK hP hin d_Au_targetsOf_33 ?_
        refine lv_ishr S.1 S.2.1 d_Au_targetsOf_34 ?_
        refine lv_iconst (v := (1 : Int32)) S.1 S.2.1 d_Au_targetsOf_35 rfl ?_
        refine lv_iand S.1 S.2.1 d_Au_targetsOf_36 ?_
        refine lv_if_eq (tgt := 68) S.1 S.2.1 d_Au_targetsOf_37 (by decide) (fun hc => ?_) (fun hc => ?_)
        · have h := h.1 hc
          refine lv_iinc (k := 5) (v := x5 + (1 : Int32)) (lv' := [(5, .int (x5 + (1 : Int32))), (0, .ref (ad 12)), (1, .int x1), (2, .int x2), (3, .int x3), (4, .int x4)]) S.1 S.2.1 d_Au_targetsOf_68 hl rfl rfl (by decide) rfl (fun ls hl => ?_)
          refine lv_goto (tgt := 6) S.1 S.2.1 d_Au_targetsOf_71 (by decide) ?_
          exact ih _ _ _ h (lv_sub hl [1, 2, 3, 4, 5, 0] rfl)
        · have h := h.2 hc
          refine lv_iload_n S.1 S.2.1 d_Au_targetsOf_40 rfl (lv_at hl 3 rfl) ?_
          refine lv_aload_n S.1 S.2.1 d_Au_targetsOf_41 rfl (lv_at hl 0 rfl) ?_
          refine g_Au_second S hK hP d_Au_targetsOf_42 ?_
          refine lv_iload S.1 S.2.1 d_Au_targetsOf_45 (lv_at hl 5 rfl) ?_
          obtain ⟨hin, h⟩ := h
          refine a_Au_second S hK hP hin d_Au_targetsOf_47 ?_
          refine lv_ishr S.1 S.2.1 d_Au_targetsOf_48 ?_
          refine lv_iconst (v := (1 : Int32)) S.1 S.2.1 d_Au_targetsOf_49 rfl ?_
          refine lv_iand S.1 S.2.1 d_Au_targetsOf_50 ?_
          refine lv_if_eq (tgt := 68) S.1 S.2.1 d_Au_targetsOf_51 (by decide) (fun hc => ?_) (fun hc => ?_)
          · have h := h.1 hc
            refine lv_iinc (k := 5) (v := x5 + (1 : Int32)) (lv' := [(5, .int (x5 + (1 : Int32))), (0, .ref (ad 12)), (1, .int x1), (2, .int x2), (3, .int x3), (4, .int x4)]) S.1 S.2.1 d_Au_targetsOf_68 hl rfl rfl (by decide) rfl (fun ls hl => ?_)
            refine lv_goto (tgt := 6) S.1 S.2.1 d_Au_targetsOf_71 (by decide) ?_
            exact ih _ _ _ h (lv_sub hl [1, 2, 3, 4, 5, 0] rfl)
          · have h := h.2 hc
            refine lv_iload S.1 S.2.1 d_Au_targetsOf_54 (lv_at hl 4 rfl) ?_
            refine lv_iconst (v := (1 : Int32)) S.1 S.2.1 d_Au_targetsOf_56 rfl ?_
            refine lv_aload_n S.1 S.2.1 d_Au_targetsOf_57 rfl (lv_at hl 0 rfl) ?_
            refine g_Au_target S hK hP d_Au_targetsOf_58 ?_
            refine lv_iload S.1 S.2.1 d_Au_targetsOf_61 (lv_at hl 5 rfl) ?_
            obtain ⟨hin, h⟩ := h
            refine a_Au_target S hK hP hin d_Au_targetsOf_63 ?_
            refine lv_ishl S.1 S.2.1 d_Au_targetsOf_64 ?_
            refine lv_ior S.1 S.2.1 d_Au_targetsOf_65 ?_
            refine lv_istore (lv' := [(4, .int (x4 ||| ((1 : Int32) <<< ((Au_target au x5.toNatClampNeg) &&& 31)))), (0, .ref (ad 12)), (1, .int x1), (2, .int x2), (3, .int x3), (5, .int x5)]) S.1 S.2.1 d_Au_targetsOf_66 hl (by decide) rfl (fun ls hl => ?_)
            refine lv_iinc (k := 5) (v := x5 + (1 : Int32)) (lv' := [(5, .int (x5 + (1 : Int32))), (4, .int (x4 ||| ((1 : Int32) <<< ((Au_target au x5.toNatClampNeg) &&& 31)))), (0, .ref (ad 12)), (1, .int x1), (2, .int x2), (3, .int x3)]) S.1 S.2.1 d_Au_targetsOf_68 hl rfl rfl (by decide) rfl (fun ls hl => ?_)
            refine lv_goto (tgt := 6) S.1 S.2.1 d_Au_targetsOf_71 (by decide) ?_
            exact ih _ _ _ h (lv_sub hl [2, 3, 4, 5, 1, 0] rfl)
set_option maxHeartbeats 4000000 in
set_option maxRecDepth 100000 in
theorem c_Au_targetsOf (l : Launch) (D : va_G) (ad : Nat → Nat) (cA : ClassId × ClassId × ClassId) (te : Te) (ru : Ru) (au : Au) (re : Re) (la : La) (sp : Sp) (le : Le) (x1 : Int32) (x2 : Int32) (x3 : Int32) (Q : Int32 → Prop) (h : p_Au_targetsOf x1 x2 x3 au Q) : roI l y_Au_targetsOf (wsOf y_Au_targetsOf b_Au_targetsOf 6 (some .int)) rm_Au_targetsOf D (tyA cA) (wC ad cA) [.ref (ad 12), .int x1, .int x2, .int x3] (te, ru, au, re, la, sp, le) Q := by
  refine roI_of (by decide) (Nat.le_of_ble_eq_true rfl) ?_
  intro p e s m below meth c S hr hlk hK hP ls hl
  have hl : lv_has ls 6 [(0, .ref (ad 12)), (1, .int x1), (2, .int x2), (3, .int x3)] := hl
  refine lv_iconst (v := (0 : Int32)) S.1 S.2.1 d_Au_targetsOf_0 rfl ?_
  refine lv_istore (lv' := [(4, .int (0 : Int32)), (0, .ref (ad 12)), (1, .int x1), (2, .int x2), (3, .int x3)]) S.1 S.2.1 d_Au_targetsOf_1 hl (by decide) rfl (fun ls hl => ?_)
  refine lv_iconst (v := (0 : Int32)) S.1 S.2.1 d_Au_targetsOf_3 rfl ?_
  refine lv_istore (lv' := [(5, .int (0 : Int32)), (4, .int (0 : Int32)), (0, .ref (ad 12)), (1, .int x1), (2, .int x2), (3, .int x3)]) S.1 S.2.1 d_Au_targetsOf_4 hl (by decide) rfl (fun ls hl => ?_)
  obtain ⟨n', h⟩ := h
  exact n_Au_targetsOf_6 S hr hlk hK hP n' _ _ _ h (lv_sub hl [2, 3, 4, 5, 1, 0] rfl)

set_option maxHeartbeats 4000000 in
set_option maxRecDepth 100000 in
theorem n_Ar_fillI_weight_5 {p : Program} {l : Launch} {e : Env} {s : State} {m : MethodId} {args : Array Value} {below : List Frame} {meth : Method} {c : Code} {D : va_G} {A : Nat → Prop} {ad : Nat → Nat} {cA : ClassId × ClassId × ClassId} {te : Te} {ru : Ru} {re : Re} {la : La} {sp : Sp} {le : Le} {x1 : Int32} {Q : Au → Prop} (S : CallFix p m c b_Ar_fillI 4 s args gtbl R_Ar) (hr : meth.sig.returnType = none) (hlk : meth.locks = false) (hK : gK D (tyA cA) s) (hA : ∀ q : Nat, s.heap.size ≤ q → A q) : ∀ n : Nat, ∀ (ls : Array Slot) (H : Heap) (locs : List Loc) (x2 : Int32) (x3 : Int32) (au : Au), p_Ar_fillI_weight_5 x1 Q n x2 x3 au → lv_has ls 4 [(0, .ref (ad 17)), (1, .int x1), (2, .int x2), (3, .int x3)] → gIn D A s (wC ad cA) (te, ru, au, re, la, sp, le) H locs → W p l e rm_Ar_fillI_weight s m args below meth c H locs 0 0 (qV D (tyA cA) A (wC ad cA) (fun u : Au => (te, ru, u, re, la, sp, le)) (fun u : Au => Q u) below args s) (F0 m 5 ls []) := by
  intro n
  induction n with
  | zero =>
    intro ls H locs x2 x3 au h
    exact (show False from h).elim
  | succ n ih =>
    intro ls H locs x2 x3 au h hl I
    refine lv_iload_n S.1 S.2.1 d_Ar_fillI_5 rfl (lv_at hl 2 rfl) ?_
    refine lv_iload_n S.1 S.2.1 d_Ar_fillI_6 rfl (lv_at hl 3 rfl) ?_
    refine lv_icmp_ge (tgt := 20) S.1 S.2.1 d_Ar_fillI_7 (by decide) (fun hc => ?_) (fun hc => ?_)
    · have h := h.1 hc
      exact ret_rwv S hr hlk hK I h d_Ar_fillI_20
    · have h := h.2 hc
      refine lv_aload_n S.1 S.2.1 d_Ar_fillI_10 rfl (lv_at hl 0 rfl) ?_
      refine lv_iload_n S.1 S.2.1 d_Ar_fillI_11 rfl (lv_at hl 2 rfl) ?_
      refine lv_iload_n S.1 S.2.1 d_Ar_fillI_12 rfl (lv_at hl 1 rfl) ?_
      obtain ⟨hin, h⟩ := h
      refine s_Au_weight S hK I hin d_Ar_fillI_13 (fun H locs au13 eau13 I => ?_)
      have h := h au13 eau13
      refine lv_iinc (k := 2) (v := x2 + (1 : Int32)) (lv' := [(2, .int (x2 + (1 : Int32))), (0, .ref (ad 17)), (1, .int x1), (3, .int x3)]) S.1 S.2.1 d_Ar_fillI_14 hl rfl rfl (by decide) rfl (fun ls hl => ?_)
      refine lv_goto (tgt := 5) S.1 S.2.1 d_Ar_fillI_17 (by decide) ?_
      exact ih _ _ _ _ _ _ h (lv_sub hl [1, 2, 0, 3] rfl) I
set_option maxHeartbeats 4000000 in
set_option maxRecDepth 100000 in
theorem c_Ar_fillI_weight (l : Launch) (D : va_G) (ad : Nat → Nat) (cA : ClassId × ClassId × ClassId) (te : Te) (ru : Ru) (au : Au) (re : Re) (la : La) (sp : Sp) (le : Le) (x1 : Int32) (Q : Au → Prop) (h : p_Ar_fillI_weight x1 au Q) : rwV l y_Ar_fillI (wsOf y_Ar_fillI b_Ar_fillI 4 none) rm_Ar_fillI_weight D (tyA cA) (wC ad cA) [.ref (ad 17), .int x1] (te, ru, au, re, la, sp, le) (fun u : Au => (te, ru, u, re, la, sp, le)) (fun u : Au => Q u) := by
  refine rwV_of (by decide) (Nat.le_of_ble_eq_true rfl) ?_
  intro p e s m below meth c S hr hlk hK A hA I ls hl
  have hl : lv_has ls 4 [(0, .ref (ad 17)), (1, .int x1)] := hl
  refine lv_iconst (v := (0 : Int32)) S.1 S.2.1 d_Ar_fillI_0 rfl ?_
  refine lv_istore_n (lv' := [(2, .int (0 : Int32)), (0, .ref (ad 17)), (1, .int x1)]) S.1 S.2.1 d_Ar_fillI_1 rfl hl (by decide) rfl (fun ls hl => ?_)
  refine lv_aload_n S.1 S.2.1 d_Ar_fillI_2 rfl (lv_at hl 1 rfl) ?_
  refine n_Au_weight S hK I.1 d_Ar_fillI_3 ?_
  refine lv_istore_n (lv' := [(3, .int (6 : Int32)), (2, .int (0 : Int32)), (0, .ref (ad 17)), (1, .int x1)]) S.1 S.2.1 d_Ar_fillI_4 rfl hl (by decide) rfl (fun ls hl => ?_)
  obtain ⟨n', h⟩ := h
  exact n_Ar_fillI_weight_5 S hr hlk hK hA n' _ _ _ _ _ _ h (lv_sub hl [2, 3, 1, 0] rfl) I

set_option maxHeartbeats 4000000 in
set_option maxRecDepth 100000 in
theorem n_Au_lighten_106 {p : Program} {l : Launch} {e : Env} {s : State} {m : MethodId} {args : Array Value} {below : List Frame} {meth : Method} {c : Code} {D : va_G} {A : Nat → Prop} {ad : Nat → Nat} {cA : ClassId × ClassId × ClassId} {te : Te} {ru : Ru} {re : Re} {la : La} {sp : Sp} {le : Le} {x1 : Int32} {Q : Au → Prop} (S : CallFix p m c b_Au_lighten 5 s args gtbl R_Au) (hr : meth.sig.returnType = none) (hlk : meth.locks = false) (hK : gK D (tyA cA) s) (hA : ∀ q : Nat, s.heap.size ≤ q → A q) : ∀ (ls : Array Slot) (H : Heap) (locs : List Loc) (x2 : Int32) (x3 : Int32) (au : Au), p_Au_lighten_106 x1 te Q x2 x3 au → lv_has ls 5 [(0, .ref (ad 12)), (1, .int x1), (2, .int x2), (3, .int x3)] → gIn D A s (wC ad cA) (te, ru, au, re, la, sp, le) H locs → W p l e rm_Au_lighten s m args below meth c H locs 0 0 (qV D (tyA cA) A (wC ad cA) (fun u : Au => (te, ru, u, re, la, sp, le)) (fun u : Au => Q u) below args s) (F0 m 106 ls []) := by
  intro ls H locs x2 x3 au h hl I
  refine lv_aload_n S.1 S.2.1 d_Au_lighten_106 rfl (lv_at hl 0 rfl) ?_
  refine g_Au_weight S hK I.1 d_Au_lighten_107 ?_
  refine lv_aload_n S.1 S.2.1 d_Au_lighten_110 rfl (lv_at hl 0 rfl) ?_
  refine g_Au_target S hK I.1 d_Au_lighten_111 ?_
  refine lv_iload_n S.1 S.2.1 d_Au_lighten_114 rfl (lv_at hl 1 rfl) ?_
  obtain ⟨hin, h⟩ := h
  refine a_Au_target S hK I.1 hin d_Au_lighten_115 ?_
  refine lv_iconst (v := (1 : Int32)) S.1 S.2.1 d_Au_lighten_116 rfl ?_
  refine lv_iload_n S.1 S.2.1 d_Au_lighten_117 rfl (lv_at hl 2 rfl) ?_
  refine lv_iadd S.1 S.2.1 d_Au_lighten_118 ?_
  refine lv_iload_n S.1 S.2.1 d_Au_lighten_119 rfl (lv_at hl 3 rfl) ?_
  refine lv_iadd S.1 S.2.1 d_Au_lighten_120 ?_
  obtain ⟨hin, h⟩ := h
  refine s_Au_weight S hK I hin d_Au_lighten_121 (fun H locs au121 eau121 I => ?_)
  have h := h au121 eau121
  exact ret_rwv S hr hlk hK I h d_Au_lighten_122
set_option maxHeartbeats 4000000 in
set_option maxRecDepth 100000 in
theorem n_Au_lighten_65 {p : Program} {l : Launch} {e : Env} {s : State} {m : MethodId} {args : Array Value} {below : List Frame} {meth : Method} {c : Code} {D : va_G} {A : Nat → Prop} {ad : Nat → Nat} {cA : ClassId × ClassId × ClassId} {te : Te} {ru : Ru} {re : Re} {la : La} {sp : Sp} {le : Le} {x1 : Int32} {Q : Au → Prop} (S : CallFix p m c b_Au_lighten 5 s args gtbl R_Au) (hr : meth.sig.returnType = none) (hlk : meth.locks = false) (hK : gK D (tyA cA) s) (hA : ∀ q : Nat, s.heap.size ≤ q → A q) : ∀ (ls : Array Slot) (H : Heap) (locs : List Loc) (x2 : Int32) (y0 : Int32) (au : Au), p_Au_lighten_65 x1 te Q x2 y0 au → lv_has ls 5 [(0, .ref (ad 12)), (1, .int x1), (2, .int x2)] → gIn D A s (wC ad cA) (te, ru, au, re, la, sp, le) H locs → W p l e rm_Au_lighten s m args below meth c H locs 0 0 (qV D (tyA cA) A (wC ad cA) (fun u : Au => (te, ru, u, re, la, sp, le)) (fun u : Au => Q u) below args s) (F0 m 65 ls [.int y0]) := by
  intro ls H locs x2 y0 au h hl I
  refine lv_istore_n (lv' := [(3, .int y0), (0, .ref (ad 12)), (1, .int x1), (2, .int x2)]) S.1 S.2.1 d_Au_lighten_65 rfl hl (by decide) rfl (fun ls hl => ?_)
  refine lv_iload_n S.1 S.2.1 d_Au_lighten_66 rfl (lv_at hl 3 rfl) ?_
  refine lv_iconst (v := (-1 : Int32)) S.1 S.2.1 d_Au_lighten_67 rfl ?_
  refine lv_icmp_eq (tgt := 76) S.1 S.2.1 d_Au_lighten_68 (by decide) (fun hc => ?_) (fun hc => ?_)
  · have h := h.1 hc
    exact ret_rwv S hr hlk hK I h d_Au_lighten_76
  · have h := h.2 hc
    refine lv_iload_n S.1 S.2.1 d_Au_lighten_71 rfl (lv_at hl 0 rfl) ?_
    refine lv_iconst (v := (-1 : Int32)) S.1 S.2.1 d_Au_lighten_72 rfl ?_
    refine lv_icmp_ne (tgt := 77) S.1 S.2.1 d_Au_lighten_73 (by decide) (fun hc => ?_) (fun hc => ?_)
    · have h := h.1 hc
      refine lv_aload_n S.1 S.2.1 d_Au_lighten_77 rfl (lv_at hl 1 rfl) ?_
      refine g_Au_weight S hK I.1 d_Au_lighten_78 ?_
      refine lv_aload_n S.1 S.2.1 d_Au_lighten_81 rfl (lv_at hl 1 rfl) ?_
      refine g_Au_target S hK I.1 d_Au_lighten_82 ?_
      refine lv_iload_n S.1 S.2.1 d_Au_lighten_85 rfl (lv_at hl 2 rfl) ?_
      obtain ⟨hin, h⟩ := h
      refine a_Au_target S hK I.1 hin d_Au_lighten_86 ?_
      obtain ⟨hin, h⟩ := h
      refine a_Au_weight S hK I.1 hin d_Au_lighten_87 ?_
      refine lv_istore (lv' := [(4, .int (Au_weight au (Au_target au x1.toNatClampNeg).toNatClampNeg)), (3, .int y0), (0, .ref (ad 12)), (1, .int x1), (2, .int x2)]) S.1 S.2.1 d_Au_lighten_88 hl (by decide) rfl (fun ls hl => ?_)
      refine lv_iload S.1 S.2.1 d_Au_lighten_90 (lv_at hl 0 rfl) ?_
      refine lv_iconst (v := (-1 : Int32)) S.1 S.2.1 d_Au_lighten_92 rfl ?_
      refine lv_icmp_eq (tgt := 106) S.1 S.2.1 d_Au_lighten_93 (by decide) (fun hc => ?_) (fun hc => ?_)
      · have h := h.1 hc
        exact n_Au_lighten_106 S hr hlk hK hA _ _ _ _ _ _ h (lv_sub hl [2, 3, 4, 1] rfl) I
      · have h := h.2 hc
        refine lv_iconst (v := (1 : Int32)) S.1 S.2.1 d_Au_lighten_96 rfl ?_
        refine lv_iload_n S.1 S.2.1 d_Au_lighten_97 rfl (lv_at hl 4 rfl) ?_
        refine lv_iadd S.1 S.2.1 d_Au_lighten_98 ?_
        refine lv_iload_n S.1 S.2.1 d_Au_lighten_99 rfl (lv_at hl 1 rfl) ?_
        refine lv_iadd S.1 S.2.1 d_Au_lighten_100 ?_
        refine lv_iload S.1 S.2.1 d_Au_lighten_101 (lv_at hl 0 rfl) ?_
        refine lv_icmp_ge (tgt := 122) S.1 S.2.1 d_Au_lighten_103 (by decide) (fun hc => ?_) (fun hc => ?_)
        · have h := h.1 hc
          exact ret_rwv S hr hlk hK I h d_Au_lighten_122
        · have h := h.2 hc
          exact n_Au_lighten_106 S hr hlk hK hA _ _ _ _ _ _ h (lv_sub hl [2, 3, 4, 1] rfl) I
    · have h := h.2 hc
      exact ret_rwv S hr hlk hK I h d_Au_lighten_76
set_option maxHeartbeats 4000000 in
set_option maxRecDepth 100000 in
theorem n_Au_lighten_32 {p : Program} {l : Launch} {e : Env} {s : State} {m : MethodId} {args : Array Value} {below : List Frame} {meth : Method} {c : Code} {D : va_G} {A : Nat → Prop} {ad : Nat → Nat} {cA : ClassId × ClassId × ClassId} {te : Te} {ru : Ru} {re : Re} {la : La} {sp : Sp} {le : Le} {x1 : Int32} {Q : Au → Prop} (S : CallFix p m c b_Au_lighten 5 s args gtbl R_Au) (hr : meth.sig.returnType = none) (hlk : meth.locks = false) (hK : gK D (tyA cA) s) (hA : ∀ q : Nat, s.heap.size ≤ q → A q) : ∀ (ls : Array Slot) (H : Heap) (locs : List Loc) (y0 : Int32) (au : Au), p_Au_lighten_32 x1 te Q y0 au → lv_has ls 5 [(0, .ref (ad 12)), (1, .int x1)] → gIn D A s (wC ad cA) (te, ru, au, re, la, sp, le) H locs → W p l e rm_Au_lighten s m args below meth c H locs 0 0 (qV D (tyA cA) A (wC ad cA) (fun u : Au => (te, ru, u, re, la, sp, le)) (fun u : Au => Q u) below args s) (F0 m 32 ls [.int y0]) := by
  intro ls H locs y0 au h hl I
  refine lv_istore_n (lv' := [(2, .int y0), (0, .ref (ad 12)), (1, .int x1)]) S.1 S.2.1 d_Au_lighten_32 rfl hl (by decide) rfl (fun ls hl => ?_)
  refine lv_aload_n S.1 S.2.1 d_Au_lighten_33 rfl (lv_at hl 1 rfl) ?_
  refine g_Au_terms S hK I.1 d_Au_lighten_34 ?_
  refine lv_aload_n S.1 S.2.1 d_Au_lighten_37 rfl (lv_at hl 1 rfl) ?_
  refine g_Au_symbol S hK I.1 d_Au_lighten_38 ?_
  refine lv_iload_n S.1 S.2.1 d_Au_lighten_41 rfl (lv_at hl 2 rfl) ?_
  obtain ⟨hin, h⟩ := h
  refine a_Au_symbol S hK I.1 hin d_Au_lighten_42 ?_
  refine callV_roi S (c_Te_placesOf l D ad cA _ _ _ _ _ _ _ _ _ h) (mkV S.2.2.2.2 ml_Au_47 k_Te_placesOf rfl rfl ⟨Nat.le_of_ble_eq_true rfl, Nat.le_of_ble_eq_true rfl⟩) (rv_Te hK I.1) hK I.1 hl.1 rfl rfl (Nat.le_of_ble_eq_true rfl) d_Au_lighten_43 ⟨Nat.zero_le _, Nat.zero_le _⟩ (fun r43 h => ?_)
  refine lv_iconst (v := (2 : Int32)) S.1 S.2.1 d_Au_lighten_46 rfl ?_
  refine lv_icmp_ge (tgt := 54) S.1 S.2.1 d_Au_lighten_47 (by decide) (fun hc => ?_) (fun hc => ?_)
  · have h := h.1 hc
    refine lv_aload_n S.1 S.2.1 d_Au_lighten_54 rfl (lv_at hl 1 rfl) ?_
    refine g_Au_weight S hK I.1 d_Au_lighten_55 ?_
    refine lv_aload_n S.1 S.2.1 d_Au_lighten_58 rfl (lv_at hl 1 rfl) ?_
    refine g_Au_second S hK I.1 d_Au_lighten_59 ?_
    refine lv_iload_n S.1 S.2.1 d_Au_lighten_62 rfl (lv_at hl 2 rfl) ?_
    obtain ⟨hin, h⟩ := h
    refine a_Au_second S hK I.1 hin d_Au_lighten_63 ?_
    obtain ⟨hin, h⟩ := h
    refine a_Au_weight S hK I.1 hin d_Au_lighten_64 ?_
    exact n_Au_lighten_65 S hr hlk hK hA _ _ _ _ _ _ h (lv_sub hl [1, 2, 0] rfl) I
  · have h := h.2 hc
    refine lv_iconst (v := (0 : Int32)) S.1 S.2.1 d_Au_lighten_50 rfl ?_
    refine lv_goto (tgt := 65) S.1 S.2.1 d_Au_lighten_51 (by decide) ?_
    exact n_Au_lighten_65 S hr hlk hK hA _ _ _ _ _ _ h (lv_sub hl [1, 2, 0] rfl) I
set_option maxHeartbeats 4000000 in
set_option maxRecDepth 100000 in
theorem c_Au_lighten (l : Launch) (D : va_G) (ad : Nat → Nat) (cA : ClassId × ClassId × ClassId) (te : Te) (ru : Ru) (au : Au) (re : Re) (la : La) (sp : Sp) (le : Le) (x1 : Int32) (Q : Au → Prop) (h : p_Au_lighten x1 te au Q) : rwV l y_Au_lighten (wsOf y_Au_lighten b_Au_lighten 5 none) rm_Au_lighten D (tyA cA) (wC ad cA) [.ref (ad 12), .int x1] (te, ru, au, re, la, sp, le) (fun u : Au => (te, ru, u, re, la, sp, le)) (fun u : Au => Q u) := by
  refine rwV_of (by decide) (Nat.le_of_ble_eq_true rfl) ?_
  intro p e s m below meth c S hr hlk hK A hA I ls hl
  have hl : lv_has ls 5 [(0, .ref (ad 12)), (1, .int x1)] := hl
  refine lv_aload_n S.1 S.2.1 d_Au_lighten_0 rfl (lv_at hl 0 rfl) ?_
  refine g_Au_terms S hK I.1 d_Au_lighten_1 ?_
  refine lv_aload_n S.1 S.2.1 d_Au_lighten_4 rfl (lv_at hl 0 rfl) ?_
  refine g_Au_symbol S hK I.1 d_Au_lighten_5 ?_
  refine lv_iload_n S.1 S.2.1 d_Au_lighten_8 rfl (lv_at hl 1 rfl) ?_
  obtain ⟨hin, h⟩ := h
  refine a_Au_symbol S hK I.1 hin d_Au_lighten_9 ?_
  refine callV_roi S (c_Te_placesOf l D ad cA _ _ _ _ _ _ _ _ _ h) (mkV S.2.2.2.2 ml_Au_47 k_Te_placesOf rfl rfl ⟨Nat.le_of_ble_eq_true rfl, Nat.le_of_ble_eq_true rfl⟩) (rv_Te hK I.1) hK I.1 hl.1 rfl rfl (Nat.le_of_ble_eq_true rfl) d_Au_lighten_10 ⟨Nat.zero_le _, Nat.zero_le _⟩ (fun r10 h => ?_)
  refine lv_iconst (v := (1 : Int32)) S.1 S.2.1 d_Au_lighten_13 rfl ?_
  refine lv_icmp_ge (tgt := 21) S.1 S.2.1 d_Au_lighten_14 (by decide) (fun hc => ?_) (fun hc => ?_)
  · have h := h.1 hc
    refine lv_aload_n S.1 S.2.1 d_Au_lighten_21 rfl (lv_at hl 0 rfl) ?_
    refine g_Au_weight S hK I.1 d_Au_lighten_22 ?_
    refine lv_aload_n S.1 S.2.1 d_Au_lighten_25 rfl (lv_at hl 0 rfl) ?_
    refine g_Au_first S hK I.1 d_Au_lighten_26 ?_
    refine lv_iload_n S.1 S.2.1 d_Au_lighten_29 rfl (lv_at hl 1 rfl) ?_
    obtain ⟨hin, h⟩ := h
    refine a_Au_first S hK I.1 hin d_Au_lighten_30 ?_
    obtain ⟨hin, h⟩ := h
    refine a_Au_weight S hK I.1 hin d_Au_lighten_31 ?_
    exact n_Au_lighten_32 S hr hlk hK hA _ _ _ _ _ h (lv_sub hl [0, 1] rfl) I
  · have h := h.2 hc
    refine lv_iconst (v := (0 : Int32)) S.1 S.2.1 d_Au_lighten_17 rfl ?_
    refine lv_goto (tgt := 32) S.1 S.2.1 d_Au_lighten_18 (by decide) ?_
    exact n_Au_lighten_32 S hr hlk hK hA _ _ _ _ _ h (lv_sub hl [0, 1] rfl) I

set_option maxHeartbeats 4000000 in
set_option maxRecDepth 100000 in
theorem n_Au_leastSize_18 {p : Program} {l : Launch} {e : Env} {s : State} {m : MethodId} {args : Array Value} {below : List Frame} {meth : Method} {c : Code} {D : va_G} {A : Nat → Prop} {ad : Nat → Nat} {cA : ClassId × ClassId × ClassId} {te : Te} {ru : Ru} {re : Re} {la : La} {sp : Sp} {le : Le} {x1 : Int32} {Q : Int32 → Au → Prop} (S : CallFix p m c b_Au_leastSize 4 s args gtbl R_Au) (hr : meth.sig.returnType = (some .int)) (hlk : meth.locks = false) (hK : gK D (tyA cA) s) (hA : ∀ q : Nat, s.heap.size ≤ q → A q) {k10 : Int32 → Au → Prop} (hk10 : ∀ (ls : Array Slot) (H : Heap) (locs : List Loc) (x2 : Int32) (au : Au), k10 x2 au → lv_has ls 4 [(0, .ref (ad 12)), (1, .int x1), (2, .int x2)] → gIn D A s (wC ad cA) (te, ru, au, re, la, sp, le) H locs → W p l e rm_Au_leastSize s m args below meth c H locs 0 0 (qI D (tyA cA) A (wC ad cA) (fun u : Au => (te, ru, u, re, la, sp, le)) (fun (r : Int32) (u : Au) => Q r u) below args s) (F0 m 10 ls [])) : ∀ n : Nat, ∀ (ls : Array Slot) (H : Heap) (locs : List Loc) (x2 : Int32) (x3 : Int32) (au : Au), p_Au_leastSize_18 x1 te Q k10 n x2 x3 au → lv_has ls 4 [(0, .ref (ad 12)), (1, .int x1), (2, .int x2), (3, .int x3)] → gIn D A s (wC ad cA) (te, ru, au, re, la, sp, le) H locs → W p l e rm_Au_leastSize s m args below meth c H locs 0 0 (qI D (tyA cA) A (wC ad cA) (fun u : Au => (te, ru, u, re, la, sp, le)) (fun (r : Int32) (u : Au) => Q r u) below args s) (F0 m 18 ls []) := by
  intro n
  induction n with
  | zero =>
    intro ls H locs x2 x3 au h
    exact (show False from h).elim
  | succ n ih =>
    intro ls H locs x2 x3 au h hl I
    refine lv_iload_n S.1 S.2.1 d_Au_leastSize_18 rfl (lv_at hl 3 rfl) ?_
    refine lv_aload_n S.1 S.2.1 d_Au_leastSize_19 rfl (lv_at hl 0 rfl) ?_
    refine g_Au_count S hK I.1 d_Au_leastSize_20 ?_
    refine lv_icmp_ge (tgt := 37) S.1 S.2.1 d_Au_leastSize_23 (by decide) (fun hc => ?_) (fun hc => ?_)
    · have h := h.1 hc
      refine lv_iinc (k := 2) (v := x2 + (1 : Int32)) (lv' := [(2, .int (x2 + (1 : Int32))), (0, .ref (ad 12)), (1, .int x1), (3, .int x3)]) S.1 S.2.1 d_Au_leastSize_37 hl rfl rfl (by decide) rfl (fun ls hl => ?_)
      refine lv_goto (tgt := 10) S.1 S.2.1 d_Au_leastSize_40 (by decide) ?_
      exact hk10 _ _ _ _ _ h (lv_sub hl [1, 2, 0] rfl) I
    · have h := h.2 hc
      refine lv_aload_n S.1 S.2.1 d_Au_leastSize_26 rfl (lv_at hl 0 rfl) ?_
      refine lv_iload_n S.1 S.2.1 d_Au_leastSize_27 rfl (lv_at hl 3 rfl) ?_
      refine callV_rwv S (c_Au_lighten l D ad cA _ _ _ _ _ _ _ _ _ h) (mkV S.2.2.2.2 ml_Au_57 k_Au_lighten rfl rfl ⟨Nat.le_of_ble_eq_true rfl, Nat.le_of_ble_eq_true rfl⟩) (rv_Au hK I.1) hK hA I hl.1 rfl rfl (Nat.le_of_ble_eq_true rfl) d_Au_leastSize_28 ⟨Nat.zero_le _, Nat.zero_le _⟩ (fun au28 H locs h I => ?_)
      refine lv_iinc (k := 3) (v := x3 + (1 : Int32)) (lv' := [(3, .int (x3 + (1 : Int32))), (0, .ref (ad 12)), (1, .int x1), (2, .int x2)]) S.1 S.2.1 d_Au_leastSize_31 hl rfl rfl (by decide) rfl (fun ls hl => ?_)
      refine lv_goto (tgt := 18) S.1 S.2.1 d_Au_leastSize_34 (by decide) ?_
      exact ih _ _ _ _ _ _ h (lv_sub hl [1, 2, 3, 0] rfl) I
set_option maxHeartbeats 4000000 in
set_option maxRecDepth 100000 in
theorem n_Au_leastSize_10 {p : Program} {l : Launch} {e : Env} {s : State} {m : MethodId} {args : Array Value} {below : List Frame} {meth : Method} {c : Code} {D : va_G} {A : Nat → Prop} {ad : Nat → Nat} {cA : ClassId × ClassId × ClassId} {te : Te} {ru : Ru} {re : Re} {la : La} {sp : Sp} {le : Le} {x1 : Int32} {Q : Int32 → Au → Prop} (S : CallFix p m c b_Au_leastSize 4 s args gtbl R_Au) (hr : meth.sig.returnType = (some .int)) (hlk : meth.locks = false) (hK : gK D (tyA cA) s) (hA : ∀ q : Nat, s.heap.size ≤ q → A q) : ∀ n : Nat, ∀ (ls : Array Slot) (H : Heap) (locs : List Loc) (x2 : Int32) (au : Au), p_Au_leastSize_10 x1 te Q n x2 au → lv_has ls 4 [(0, .ref (ad 12)), (1, .int x1), (2, .int x2)] → gIn D A s (wC ad cA) (te, ru, au, re, la, sp, le) H locs → W p l e rm_Au_leastSize s m args below meth c H locs 0 0 (qI D (tyA cA) A (wC ad cA) (fun u : Au => (te, ru, u, re, la, sp, le)) (fun (r : Int32) (u : Au) => Q r u) below args s) (F0 m 10 ls []) := by
  intro n
  induction n with
  | zero =>
    intro ls H locs x2 au h
    exact (show False from h).elim
  | succ n ih =>
    intro ls H locs x2 au h hl I
    refine lv_iload_n S.1 S.2.1 d_Au_leastSize_10 rfl (lv_at hl 2 rfl) ?_
    refine lv_bipush (v := (6 : Int32)) S.1 S.2.1 d_Au_leastSize_11 rfl ?_
    refine lv_icmp_ge (tgt := 43) S.1 S.2.1 d_Au_leastSize_13 (by decide) (fun hc => ?_) (fun hc => ?_)
    · have h := h.1 hc
      refine lv_aload_n S.1 S.2.1 d_Au_leastSize_43 rfl (lv_at hl 0 rfl) ?_
      refine g_Au_weight S hK I.1 d_Au_leastSize_44 ?_
      refine lv_iload_n S.1 S.2.1 d_Au_leastSize_47 rfl (lv_at hl 1 rfl) ?_
      obtain ⟨hin, h⟩ := h
      refine a_Au_weight S hK I.1 hin d_Au_leastSize_48 ?_
      exact ret_rwi S hr hlk hK I h d_Au_leastSize_49
    · have h := h.2 hc
      refine lv_iconst (v := (0 : Int32)) S.1 S.2.1 d_Au_leastSize_16 rfl ?_
      refine lv_istore_n (lv' := [(3, .int (0 : Int32)), (0, .ref (ad 12)), (1, .int x1), (2, .int x2)]) S.1 S.2.1 d_Au_leastSize_17 rfl hl (by decide) rfl (fun ls hl => ?_)
      obtain ⟨n', h⟩ := h
      exact n_Au_leastSize_18 S hr hlk hK hA ih n' _ _ _ _ _ _ h (lv_sub hl [1, 2, 3, 0] rfl) I
set_option maxHeartbeats 4000000 in
set_option maxRecDepth 100000 in
theorem c_Au_leastSize (l : Launch) (D : va_G) (ad : Nat → Nat) (cA : ClassId × ClassId × ClassId) (te : Te) (ru : Ru) (au : Au) (re : Re) (la : La) (sp : Sp) (le : Le) (x1 : Int32) (Q : Int32 → Au → Prop) (h : p_Au_leastSize x1 te au Q) : rwI l y_Au_leastSize (wsOf y_Au_leastSize b_Au_leastSize 4 (some .int)) rm_Au_leastSize D (tyA cA) (wC ad cA) [.ref (ad 12), .int x1] (te, ru, au, re, la, sp, le) (fun u : Au => (te, ru, u, re, la, sp, le)) (fun (r : Int32) (u : Au) => Q r u) := by
  refine rwI_of (by decide) (Nat.le_of_ble_eq_true rfl) ?_
  intro p e s m below meth c S hr hlk hK A hA I ls hl
  have hl : lv_has ls 4 [(0, .ref (ad 12)), (1, .int x1)] := hl
  refine lv_aload_n S.1 S.2.1 d_Au_leastSize_0 rfl (lv_at hl 0 rfl) ?_
  refine g_Au_weight S hK I.1 d_Au_leastSize_1 ?_
  refine lv_iconst (v := (-1 : Int32)) S.1 S.2.1 d_Au_leastSize_4 rfl ?_
  refine callS_rwv S (c_Ar_fillI_weight l D ad cA _ _ _ _ _ _ _ _ _ h) (mkS S.2.2.2.2 ml_Au_51 k_Ar_fillI rfl rfl ⟨Nat.le_of_ble_eq_true rfl, Nat.le_of_ble_eq_true rfl⟩) hK hA I hl.1 rfl rfl (Nat.le_of_ble_eq_true rfl) d_Au_leastSize_5 ⟨Nat.zero_le _, Nat.zero_le _⟩ (fun au5 H locs h I => ?_)
  refine lv_iconst (v := (0 : Int32)) S.1 S.2.1 d_Au_leastSize_8 rfl ?_
  refine lv_istore_n (lv' := [(2, .int (0 : Int32)), (0, .ref (ad 12)), (1, .int x1)]) S.1 S.2.1 d_Au_leastSize_9 rfl hl (by decide) rfl (fun ls hl => ?_)
  obtain ⟨n', h⟩ := h
  exact n_Au_leastSize_10 S hr hlk hK hA n' _ _ _ _ _ h (lv_sub hl [1, 2, 0] rfl) I

set_option maxHeartbeats 4000000 in
set_option maxRecDepth 100000 in
theorem c_Re_isIn_reached (l : Launch) (D : va_G) (ad : Nat → Nat) (cA : ClassId × ClassId × ClassId) (te : Te) (ru : Ru) (au : Au) (re : Re) (la : La) (sp : Sp) (le : Le) (x1 : Int32) (x2 : Int32) (Q : Int32 → Prop) (h : p_Re_isIn_reached x1 x2 re Q) : roI l y_Re_isIn (wsOf y_Re_isIn b_Re_isIn 3 (some .boolean)) rm_Re_isIn_reached D (tyA cA) (wC ad cA) [.ref (ad 19), .int x1, .int x2] (te, ru, au, re, la, sp, le) Q := by
  refine roI_of (by decide) (Nat.le_of_ble_eq_true rfl) ?_
  intro p e s m below meth c S hr hlk hK hP ls hl
  have hl : lv_has ls 3 [(0, .ref (ad 19)), (1, .int x1), (2, .int x2)] := hl
  refine lv_aload_n S.1 S.2.1 d_Re_isIn_0 rfl (lv_at hl 0 rfl) ?_
  refine lv_iload_n S.1 S.2.1 d_Re_isIn_1 rfl (lv_at hl 1 rfl) ?_
  obtain ⟨hin, h⟩ := h
  refine a_Re_reached S hK hP hin d_Re_isIn_2 ?_
  refine lv_iload_n S.1 S.2.1 d_Re_isIn_3 rfl (lv_at hl 2 rfl) ?_
  refine lv_lshr S.1 S.2.1 d_Re_isIn_4 rfl ?_
  refine lv_lconst (v := (1 : Int64)) S.1 S.2.1 d_Re_isIn_5 rfl ?_
  refine lv_land S.1 S.2.1 d_Re_isIn_6 ?_
  refine lv_lconst (v := (0 : Int64)) S.1 S.2.1 d_Re_isIn_7 rfl ?_
  refine W.lcmp S.1 S.2.1 d_Re_isIn_8 ?_
  refine lv_if_eq (tgt := 16) S.1 S.2.1 d_Re_isIn_9 (by decide) (fun hc => ?_) (fun hc => ?_)
  · have h := h.1 hc
    refine lv_iconst (v := (0 : Int32)) S.1 S.2.1 d_Re_isIn_16 rfl ?_
    exact ret_roz S hr hlk (by decide) h d_Re_isIn_17
  · have h := h.2 hc
    refine lv_iconst (v := (1 : Int32)) S.1 S.2.1 d_Re_isIn_12 rfl ?_
    refine lv_goto (tgt := 17) S.1 S.2.1 d_Re_isIn_13 (by decide) ?_
    exact ret_roz S hr hlk (by decide) h d_Re_isIn_17

set_option maxHeartbeats 4000000 in
set_option maxRecDepth 100000 in
theorem n_Re_chain_9 {p : Program} {l : Launch} {e : Env} {s : State} {m : MethodId} {args : Array Value} {below : List Frame} {meth : Method} {c : Code} {D : va_G} {A : Nat → Prop} {ad : Nat → Nat} {cA : ClassId × ClassId × ClassId} {te : Te} {ru : Ru} {au : Au} {la : La} {sp : Sp} {le : Le} {x1 : Int32} {Q : Re → Prop} (S : CallFix p m c b_Re_chain 4 s args gtbl R_Re) (hr : meth.sig.returnType = none) (hlk : meth.locks = false) (hK : gK D (tyA cA) s) (hA : ∀ q : Nat, s.heap.size ≤ q → A q) {k2 : Int32 → Re → Prop} (hk2 : ∀ (ls : Array Slot) (H : Heap) (locs : List Loc) (x2 : Int32) (re : Re), k2 x2 re → lv_has ls 4 [(0, .ref (ad 18)), (1, .int x1), (2, .int x2)] → gIn D A s (wC ad cA) (te, ru, au, re, la, sp, le) H locs → W p l e rm_Re_chain s m args below meth c H locs 0 0 (qV D (tyA cA) A (wC ad cA) (fun u : Re => (te, ru, au, u, la, sp, le)) (fun u : Re => Q u) below args s) (F0 m 2 ls [])) : ∀ n : Nat, ∀ (ls : Array Slot) (H : Heap) (locs : List Loc) (x2 : Int32) (x3 : Int32) (re : Re), p_Re_chain_9 x1 Q k2 n x2 x3 re → lv_has ls 4 [(0, .ref (ad 18)), (1, .int x1), (2, .int x2), (3, .int x3)] → gIn D A s (wC ad cA) (te, ru, au, re, la, sp, le) H locs → W p l e rm_Re_chain s m args below meth c H locs 0 0 (qV D (tyA cA) A (wC ad cA) (fun u : Re => (te, ru, au, u, la, sp, le)) (fun u : Re => Q u) below args s) (F0 m 9 ls []) := by
  intro n
  induction n with
  | zero =>
    intro ls H locs x2 x3 re h
    exact (show False from h).elim
  | succ n ih =>
    intro ls H locs x2 x3 re h hl I
    refine lv_iload_n S.1 S.2.1 d_Re_chain_9 rfl (lv_at hl 3 rfl) ?_
    refine lv_iload_n S.1 S.2.1 d_Re_chain_10 rfl (lv_at hl 1 rfl) ?_
    refine lv_icmp_ge (tgt := 47) S.1 S.2.1 d_Re_chain_11 (by decide) (fun hc => ?_) (fun hc => ?_)
    · have h := h.1 hc
      refine lv_iinc (k := 2) (v := x2 + (1 : Int32)) (lv' := [(2, .int (x2 + (1 : Int32))), (0, .ref (ad 18)), (1, .int x1), (3, .int x3)]) S.1 S.2.1 d_Re_chain_47 hl rfl rfl (by decide) rfl (fun ls hl => ?_)
      refine lv_goto (tgt := 2) S.1 S.2.1 d_Re_chain_50 (by decide) ?_
      exact hk2 _ _ _ _ _ h (lv_sub hl [1, 2, 0] rfl) I
    · have h := h.2 hc
      refine lv_aload_n S.1 S.2.1 d_Re_chain_14 rfl (lv_at hl 0 rfl) ?_
      refine g_Re_reached S hK I.1 d_Re_chain_15 ?_
      refine lv_iload_n S.1 S.2.1 d_Re_chain_18 rfl (lv_at hl 3 rfl) ?_
      refine lv_iload_n S.1 S.2.1 d_Re_chain_19 rfl (lv_at hl 2 rfl) ?_
      refine callS_roi S (c_Re_isIn_reached l D ad cA _ _ _ _ _ _ _ _ _ _ h) (mkS S.2.2.2.2 ml_Re_55 k_Re_isIn rfl rfl ⟨Nat.le_of_ble_eq_true rfl, Nat.le_of_ble_eq_true rfl⟩) hK I.1 hl.1 rfl rfl (Nat.le_of_ble_eq_true rfl) d_Re_chain_20 ⟨Nat.zero_le _, Nat.zero_le _⟩ (fun r20 h => ?_)
      refine lv_if_eq (tgt := 41) S.1 S.2.1 d_Re_chain_23 (by decide) (fun hc => ?_) (fun hc => ?_)
      · have h := h.1 hc
        refine lv_iinc (k := 3) (v := x3 + (1 : Int32)) (lv' := [(3, .int (x3 + (1 : Int32))), (0, .ref (ad 18)), (1, .int x1), (2, .int x2)]) S.1 S.2.1 d_Re_chain_41 hl rfl rfl (by decide) rfl (fun ls hl => ?_)
        refine lv_goto (tgt := 9) S.1 S.2.1 d_Re_chain_44 (by decide) ?_
        exact ih _ _ _ _ _ _ h (lv_sub hl [1, 2, 3, 0] rfl) I
      · have h := h.2 hc
        refine lv_aload_n S.1 S.2.1 d_Re_chain_26 rfl (lv_at hl 0 rfl) ?_
        refine g_Re_reached S hK I.1 d_Re_chain_27 ?_
        refine lv_iload_n S.1 S.2.1 d_Re_chain_30 rfl (lv_at hl 3 rfl) ?_
        refine lv_dup2_11 S.1 S.2.1 d_Re_chain_31 rfl rfl ?_
        obtain ⟨hin, h⟩ := h
        refine a_Re_reached S hK I.1 hin d_Re_chain_32 ?_
        refine lv_aload_n S.1 S.2.1 d_Re_chain_33 rfl (lv_at hl 0 rfl) ?_
        refine g_Re_reached S hK I.1 d_Re_chain_34 ?_
        refine lv_iload_n S.1 S.2.1 d_Re_chain_37 rfl (lv_at hl 2 rfl) ?_
        obtain ⟨hin, h⟩ := h
        refine a_Re_reached S hK I.1 hin d_Re_chain_38 ?_
        refine lv_lor S.1 S.2.1 d_Re_chain_39 ?_
        obtain ⟨hin, h⟩ := h
        refine s_Re_reached S hK I hin d_Re_chain_40 (fun H locs re40 ere40 I => ?_)
        have h := h re40 ere40
        refine lv_iinc (k := 3) (v := x3 + (1 : Int32)) (lv' := [(3, .int (x3 + (1 : Int32))), (0, .ref (ad 18)), (1, .int x1), (2, .int x2)]) S.1 S.2.1 d_Re_chain_41 hl rfl rfl (by decide) rfl (fun ls hl => ?_)
        refine lv_goto (tgt := 9) S.1 S.2.1 d_Re_chain_44 (by decide) ?_
        exact ih _ _ _ _ _ _ h (lv_sub hl [1, 2, 3, 0] rfl) I
set_option maxHeartbeats 4000000 in
set_option maxRecDepth 100000 in
theorem n_Re_chain_2 {p : Program} {l : Launch} {e : Env} {s : State} {m : MethodId} {args : Array Value} {below : List Frame} {meth : Method} {c : Code} {D : va_G} {A : Nat → Prop} {ad : Nat → Nat} {cA : ClassId × ClassId × ClassId} {te : Te} {ru : Ru} {au : Au} {la : La} {sp : Sp} {le : Le} {x1 : Int32} {Q : Re → Prop} (S : CallFix p m c b_Re_chain 4 s args gtbl R_Re) (hr : meth.sig.returnType = none) (hlk : meth.locks = false) (hK : gK D (tyA cA) s) (hA : ∀ q : Nat, s.heap.size ≤ q → A q) : ∀ n : Nat, ∀ (ls : Array Slot) (H : Heap) (locs : List Loc) (x2 : Int32) (re : Re), p_Re_chain_2 x1 Q n x2 re → lv_has ls 4 [(0, .ref (ad 18)), (1, .int x1), (2, .int x2)] → gIn D A s (wC ad cA) (te, ru, au, re, la, sp, le) H locs → W p l e rm_Re_chain s m args below meth c H locs 0 0 (qV D (tyA cA) A (wC ad cA) (fun u : Re => (te, ru, au, u, la, sp, le)) (fun u : Re => Q u) below args s) (F0 m 2 ls []) := by
  intro n
  induction n with
  | zero =>
    intro ls H locs x2 re h
    exact (show False from h).elim
  | succ n ih =>
    intro ls H locs x2 re h hl I
    refine lv_iload_n S.1 S.2.1 d_Re_chain_2 rfl (lv_at hl 2 rfl) ?_
    refine lv_iload_n S.1 S.2.1 d_Re_chain_3 rfl (lv_at hl 1 rfl) ?_
    refine lv_icmp_ge (tgt := 53) S.1 S.2.1 d_Re_chain_4 (by decide) (fun hc => ?_) (fun hc => ?_)
    · have h := h.1 hc
      exact ret_rwv S hr hlk hK I h d_Re_chain_53
    · have h := h.2 hc
      refine lv_iconst (v := (0 : Int32)) S.1 S.2.1 d_Re_chain_7 rfl ?_
      refine lv_istore_n (lv' := [(3, .int (0 : Int32)), (0, .ref (ad 18)), (1, .int x1), (2, .int x2)]) S.1 S.2.1 d_Re_chain_8 rfl hl (by decide) rfl (fun ls hl => ?_)
      obtain ⟨n', h⟩ := h
      exact n_Re_chain_9 S hr hlk hK hA ih n' _ _ _ _ _ _ h (lv_sub hl [1, 2, 3, 0] rfl) I
set_option maxHeartbeats 4000000 in
set_option maxRecDepth 100000 in
theorem c_Re_chain (l : Launch) (D : va_G) (ad : Nat → Nat) (cA : ClassId × ClassId × ClassId) (te : Te) (ru : Ru) (au : Au) (re : Re) (la : La) (sp : Sp) (le : Le) (x1 : Int32) (Q : Re → Prop) (h : p_Re_chain x1 re Q) : rwV l y_Re_chain (wsOf y_Re_chain b_Re_chain 4 none) rm_Re_chain D (tyA cA) (wC ad cA) [.ref (ad 18), .int x1] (te, ru, au, re, la, sp, le) (fun u : Re => (te, ru, au, u, la, sp, le)) (fun u : Re => Q u) := by
  refine rwV_of (by decide) (Nat.le_of_ble_eq_true rfl) ?_
  intro p e s m below meth c S hr hlk hK A hA I ls hl
  have hl : lv_has ls 4 [(0, .ref (ad 18)), (1, .int x1)] := hl
  refine lv_iconst (v := (0 : Int32)) S.1 S.2.1 d_Re_chain_0 rfl ?_
  refine lv_istore_n (lv' := [(2, .int (0 : Int32)), (0, .ref (ad 18)), (1, .int x1)]) S.1 S.2.1 d_Re_chain_1 rfl hl (by decide) rfl (fun ls hl => ?_)
  obtain ⟨n', h⟩ := h
  exact n_Re_chain_2 S hr hlk hK hA n' _ _ _ _ _ h (lv_sub hl [1, 2, 0] rfl) I

set_option maxHeartbeats 4000000 in
set_option maxRecDepth 100000 in
theorem n_Re_partsRelated_reached_96 {p : Program} {l : Launch} {e : Env} {s : State} {m : MethodId} {args : Array Value} {below : List Frame} {meth : Method} {c : Code} {D : va_G} {ad : Nat → Nat} {cA : ClassId × ClassId × ClassId} {te : Te} {ru : Ru} {au : Au} {re : Re} {la : La} {sp : Sp} {le : Le} {x2 : Int32} {x3 : Int32} {Q : Int32 → Prop} (S : CallFix p m c b_Re_partsRelated 5 s args gtbl R_Re) (hr : meth.sig.returnType = (some .boolean)) (hlk : meth.locks = false) (hK : gK D (tyA cA) s) (hP : va_P D classes (wC ad cA (te, ru, au, re, la, sp, le)) s.heap) : ∀ (ls : Array Slot) , p_Re_partsRelated_reached_96 x2 x3 te re Q  → lv_has ls 5 [] → W p l e rm_Re_partsRelated_reached s m args below meth c s.heap [] 0 0 (qRI Q below args s) (F0 m 96 ls []) := by
  intro ls  h hl
  refine lv_iconst (v := (1 : Int32)) S.1 S.2.1 d_Re_partsRelated_96 rfl ?_
  refine lv_goto (tgt := 101) S.1 S.2.1 d_Re_partsRelated_97 (by decide) ?_
  exact ret_roz S hr hlk (by decide) h d_Re_partsRelated_101
set_option maxHeartbeats 4000000 in
set_option maxRecDepth 100000 in
theorem n_Re_partsRelated_reached_67 {p : Program} {l : Launch} {e : Env} {s : State} {m : MethodId} {args : Array Value} {below : List Frame} {meth : Method} {c : Code} {D : va_G} {ad : Nat → Nat} {cA : ClassId × ClassId × ClassId} {te : Te} {ru : Ru} {au : Au} {re : Re} {la : La} {sp : Sp} {le : Le} {x2 : Int32} {x3 : Int32} {Q : Int32 → Prop} (S : CallFix p m c b_Re_partsRelated 5 s args gtbl R_Re) (hr : meth.sig.returnType = (some .boolean)) (hlk : meth.locks = false) (hK : gK D (tyA cA) s) (hP : va_P D classes (wC ad cA (te, ru, au, re, la, sp, le)) s.heap) : ∀ (ls : Array Slot) (x4 : Int32), p_Re_partsRelated_reached_67 x2 x3 te re Q x4 → lv_has ls 5 [(0, .ref (ad 18)), (1, .ref (ad 19)), (2, .int x2), (3, .int x3), (4, .int x4)] → W p l e rm_Re_partsRelated_reached s m args below meth c s.heap [] 0 0 (qRI Q below args s) (F0 m 67 ls []) := by
  intro ls x4 h hl
  refine lv_iload S.1 S.2.1 d_Re_partsRelated_67 (lv_at hl 4 rfl) ?_
  refine lv_iconst (v := (2 : Int32)) S.1 S.2.1 d_Re_partsRelated_69 rfl ?_
  refine lv_icmp_lt (tgt := 96) S.1 S.2.1 d_Re_partsRelated_70 (by decide) (fun hc => ?_) (fun hc => ?_)
  · have h := h.1 hc
    exact n_Re_partsRelated_reached_96 S hr hlk hK hP _ h (lv_sub hl [] rfl)
  · have h := h.2 hc
    refine lv_aload_n S.1 S.2.1 d_Re_partsRelated_73 rfl (lv_at hl 1 rfl) ?_
    refine lv_aload_n S.1 S.2.1 d_Re_partsRelated_74 rfl (lv_at hl 0 rfl) ?_
    refine g_Re_terms S hK hP d_Re_partsRelated_75 ?_
    refine lv_iload_n S.1 S.2.1 d_Re_partsRelated_78 rfl (lv_at hl 2 rfl) ?_
    refine callV_roi S (c_Te_secondOf l D ad cA _ _ _ _ _ _ _ _ _ h) (mkV S.2.2.2.2 ml_Re_100 k_Te_secondOf rfl rfl ⟨Nat.le_of_ble_eq_true rfl, Nat.le_of_ble_eq_true rfl⟩) (rv_Te hK hP) hK hP hl.1 rfl rfl (Nat.le_of_ble_eq_true rfl) d_Re_partsRelated_79 ⟨Nat.zero_le _, Nat.zero_le _⟩ (fun r79 h => ?_)
    refine lv_aload_n S.1 S.2.1 d_Re_partsRelated_82 rfl (lv_at hl 0 rfl) ?_
    refine g_Re_terms S hK hP d_Re_partsRelated_83 ?_
    refine lv_iload_n S.1 S.2.1 d_Re_partsRelated_86 rfl (lv_at hl 3 rfl) ?_
    refine callV_roi S (c_Te_secondOf l D ad cA _ _ _ _ _ _ _ _ _ h) (mkV S.2.2.2.2 ml_Re_100 k_Te_secondOf rfl rfl ⟨Nat.le_of_ble_eq_true rfl, Nat.le_of_ble_eq_true rfl⟩) (rv_Te hK hP) hK hP hl.1 rfl rfl (Nat.le_of_ble_eq_true rfl) d_Re_partsRelated_87 ⟨Nat.zero_le _, Nat.zero_le _⟩ (fun r87 h => ?_)
    refine callS_roi S (c_Re_isIn_reached l D ad cA _ _ _ _ _ _ _ _ _ _ h) (mkS S.2.2.2.2 ml_Re_55 k_Re_isIn rfl rfl ⟨Nat.le_of_ble_eq_true rfl, Nat.le_of_ble_eq_true rfl⟩) hK hP hl.1 rfl rfl (Nat.le_of_ble_eq_true rfl) d_Re_partsRelated_90 ⟨Nat.zero_le _, Nat.zero_le _⟩ (fun r90 h => ?_)
    refine lv_if_eq (tgt := 100) S.1 S.2.1 d_Re_partsRelated_93 (by decide) (fun hc => ?_) (fun hc => ?_)
    · have h := h.1 hc
      refine lv_iconst (v := (0 : Int32)) S.1 S.2.1 d_Re_partsRelated_100 rfl ?_
      exact ret_roz S hr hlk (by decide) h d_Re_partsRelated_101
    · have h := h.2 hc
      exact n_Re_partsRelated_reached_96 S hr hlk hK hP _ h (lv_sub hl [] rfl)
set_option maxHeartbeats 4000000 in
set_option maxRecDepth 100000 in
theorem c_Re_partsRelated_reached (l : Launch) (D : va_G) (ad : Nat → Nat) (cA : ClassId × ClassId × ClassId) (te : Te) (ru : Ru) (au : Au) (re : Re) (la : La) (sp : Sp) (le : Le) (x2 : Int32) (x3 : Int32) (Q : Int32 → Prop) (h : p_Re_partsRelated_reached x2 x3 te re Q) : roI l y_Re_partsRelated (wsOf y_Re_partsRelated b_Re_partsRelated 5 (some .boolean)) rm_Re_partsRelated_reached D (tyA cA) (wC ad cA) [.ref (ad 18), .ref (ad 19), .int x2, .int x3] (te, ru, au, re, la, sp, le) Q := by
  refine roI_of (by decide) (Nat.le_of_ble_eq_true rfl) ?_
  intro p e s m below meth c S hr hlk hK hP ls hl
  have hl : lv_has ls 5 [(0, .ref (ad 18)), (1, .ref (ad 19)), (2, .int x2), (3, .int x3)] := hl
  refine lv_aload_n S.1 S.2.1 d_Re_partsRelated_0 rfl (lv_at hl 0 rfl) ?_
  refine g_Re_terms S hK hP d_Re_partsRelated_1 ?_
  refine lv_iload_n S.1 S.2.1 d_Re_partsRelated_4 rfl (lv_at hl 2 rfl) ?_
  refine callV_roi S (c_Te_symbolOf l D ad cA _ _ _ _ _ _ _ _ _ h) (mkV S.2.2.2.2 ml_Re_91 k_Te_symbolOf rfl rfl ⟨Nat.le_of_ble_eq_true rfl, Nat.le_of_ble_eq_true rfl⟩) (rv_Te hK hP) hK hP hl.1 rfl rfl (Nat.le_of_ble_eq_true rfl) d_Re_partsRelated_5 ⟨Nat.zero_le _, Nat.zero_le _⟩ (fun r5 h => ?_)
  refine lv_aload_n S.1 S.2.1 d_Re_partsRelated_8 rfl (lv_at hl 0 rfl) ?_
  refine g_Re_terms S hK hP d_Re_partsRelated_9 ?_
  refine lv_iload_n S.1 S.2.1 d_Re_partsRelated_12 rfl (lv_at hl 3 rfl) ?_
  refine callV_roi S (c_Te_symbolOf l D ad cA _ _ _ _ _ _ _ _ _ h) (mkV S.2.2.2.2 ml_Re_91 k_Te_symbolOf rfl rfl ⟨Nat.le_of_ble_eq_true rfl, Nat.le_of_ble_eq_true rfl⟩) (rv_Te hK hP) hK hP hl.1 rfl rfl (Nat.le_of_ble_eq_true rfl) d_Re_partsRelated_13 ⟨Nat.zero_le _, Nat.zero_le _⟩ (fun r13 h => ?_)
  refine lv_icmp_eq (tgt := 21) S.1 S.2.1 d_Re_partsRelated_16 (by decide) (fun hc => ?_) (fun hc => ?_)
  · have h := h.1 hc
    refine lv_aload_n S.1 S.2.1 d_Re_partsRelated_21 rfl (lv_at hl 0 rfl) ?_
    refine g_Re_terms S hK hP d_Re_partsRelated_22 ?_
    refine lv_aload_n S.1 S.2.1 d_Re_partsRelated_25 rfl (lv_at hl 0 rfl) ?_
    refine g_Re_terms S hK hP d_Re_partsRelated_26 ?_
    refine lv_iload_n S.1 S.2.1 d_Re_partsRelated_29 rfl (lv_at hl 2 rfl) ?_
    refine callV_roi S (c_Te_symbolOf l D ad cA _ _ _ _ _ _ _ _ _ h) (mkV S.2.2.2.2 ml_Re_91 k_Te_symbolOf rfl rfl ⟨Nat.le_of_ble_eq_true rfl, Nat.le_of_ble_eq_true rfl⟩) (rv_Te hK hP) hK hP hl.1 rfl rfl (Nat.le_of_ble_eq_true rfl) d_Re_partsRelated_30 ⟨Nat.zero_le _, Nat.zero_le _⟩ (fun r30 h => ?_)
    refine callV_roi S (c_Te_placesOf l D ad cA _ _ _ _ _ _ _ _ _ h) (mkV S.2.2.2.2 ml_Re_94 k_Te_placesOf rfl rfl ⟨Nat.le_of_ble_eq_true rfl, Nat.le_of_ble_eq_true rfl⟩) (rv_Te hK hP) hK hP hl.1 rfl rfl (Nat.le_of_ble_eq_true rfl) d_Re_partsRelated_33 ⟨Nat.zero_le _, Nat.zero_le _⟩ (fun r33 h => ?_)
    refine lv_istore (lv' := [(4, .int r33), (0, .ref (ad 18)), (1, .ref (ad 19)), (2, .int x2), (3, .int x3)]) S.1 S.2.1 d_Re_partsRelated_36 hl (by decide) rfl (fun ls hl => ?_)
    refine lv_iload S.1 S.2.1 d_Re_partsRelated_38 (lv_at hl 0 rfl) ?_
    refine lv_iconst (v := (1 : Int32)) S.1 S.2.1 d_Re_partsRelated_40 rfl ?_
    refine lv_icmp_lt (tgt := 67) S.1 S.2.1 d_Re_partsRelated_41 (by decide) (fun hc => ?_) (fun hc => ?_)
    · have h := h.1 hc
      exact n_Re_partsRelated_reached_67 S hr hlk hK hP _ _ h (lv_sub hl [1, 2, 3, 4, 0] rfl)
    · have h := h.2 hc
      refine lv_aload_n S.1 S.2.1 d_Re_partsRelated_44 rfl (lv_at hl 2 rfl) ?_
      refine lv_aload_n S.1 S.2.1 d_Re_partsRelated_45 rfl (lv_at hl 1 rfl) ?_
      refine g_Re_terms S hK hP d_Re_partsRelated_46 ?_
      refine lv_iload_n S.1 S.2.1 d_Re_partsRelated_49 rfl (lv_at hl 3 rfl) ?_
      refine callV_roi S (c_Te_firstOf l D ad cA _ _ _ _ _ _ _ _ _ h) (mkV S.2.2.2.2 ml_Re_97 k_Te_firstOf rfl rfl ⟨Nat.le_of_ble_eq_true rfl, Nat.le_of_ble_eq_true rfl⟩) (rv_Te hK hP) hK hP hl.1 rfl rfl (Nat.le_of_ble_eq_true rfl) d_Re_partsRelated_50 ⟨Nat.zero_le _, Nat.zero_le _⟩ (fun r50 h => ?_)
      refine lv_aload_n S.1 S.2.1 d_Re_partsRelated_53 rfl (lv_at hl 1 rfl) ?_
      refine g_Re_terms S hK hP d_Re_partsRelated_54 ?_
      refine lv_iload_n S.1 S.2.1 d_Re_partsRelated_57 rfl (lv_at hl 4 rfl) ?_
      refine callV_roi S (c_Te_firstOf l D ad cA _ _ _ _ _ _ _ _ _ h) (mkV S.2.2.2.2 ml_Re_97 k_Te_firstOf rfl rfl ⟨Nat.le_of_ble_eq_true rfl, Nat.le_of_ble_eq_true rfl⟩) (rv_Te hK hP) hK hP hl.1 rfl rfl (Nat.le_of_ble_eq_true rfl) d_Re_partsRelated_58 ⟨Nat.zero_le _, Nat.zero_le _⟩ (fun r58 h => ?_)
      refine callS_roi S (c_Re_isIn_reached l D ad cA _ _ _ _ _ _ _ _ _ _ h) (mkS S.2.2.2.2 ml_Re_55 k_Re_isIn rfl rfl ⟨Nat.le_of_ble_eq_true rfl, Nat.le_of_ble_eq_true rfl⟩) hK hP hl.1 rfl rfl (Nat.le_of_ble_eq_true rfl) d_Re_partsRelated_61 ⟨Nat.zero_le _, Nat.zero_le _⟩ (fun r61 h => ?_)
      refine lv_if_eq (tgt := 100) S.1 S.2.1 d_Re_partsRelated_64 (by decide) (fun hc => ?_) (fun hc => ?_)
      · have h := h.1 hc
        refine lv_iconst (v := (0 : Int32)) S.1 S.2.1 d_Re_partsRelated_100 rfl ?_
        exact ret_roz S hr hlk (by decide) h d_Re_partsRelated_101
      · have h := h.2 hc
        exact n_Re_partsRelated_reached_67 S hr hlk hK hP _ _ h (lv_sub hl [1, 2, 3, 4, 0] rfl)
  · have h := h.2 hc
    refine lv_iconst (v := (0 : Int32)) S.1 S.2.1 d_Re_partsRelated_19 rfl ?_
    exact ret_roz S hr hlk (by decide) h d_Re_partsRelated_20

set_option maxHeartbeats 4000000 in
set_option maxRecDepth 100000 in
theorem n_Re_liftFromParts_reached_14 {p : Program} {l : Launch} {e : Env} {s : State} {m : MethodId} {args : Array Value} {below : List Frame} {meth : Method} {c : Code} {D : va_G} {A : Nat → Prop} {ad : Nat → Nat} {cA : ClassId × ClassId × ClassId} {te : Te} {ru : Ru} {au : Au} {la : La} {sp : Sp} {le : Le} {x2 : Int32} {Q : Int32 → Re → Prop} (S : CallFix p m c b_Re_liftFromParts 6 s args gtbl R_Re) (hr : meth.sig.returnType = (some .boolean)) (hlk : meth.locks = false) (hK : gK D (tyA cA) s) (hA : ∀ q : Nat, s.heap.size ≤ q → A q) {k5 : Int32 → Int32 → Re → Prop} (hk5 : ∀ (ls : Array Slot) (H : Heap) (locs : List Loc) (x3 : Int32) (x4 : Int32) (re : Re), k5 x3 x4 re → lv_has ls 6 [(0, .ref (ad 18)), (1, .ref (ad 19)), (2, .int x2), (3, .int x3), (4, .int x4)] → gIn D A s (wC ad cA) (te, ru, au, re, la, sp, le) H locs → W p l e rm_Re_liftFromParts_reached s m args below meth c H locs 0 0 (qI D (tyA cA) A (wC ad cA) (fun u : Re => (te, ru, au, u, la, sp, le)) (fun (r : Int32) (u : Re) => Q r u) below args s) (F0 m 5 ls [])) : ∀ n : Nat, ∀ (ls : Array Slot) (H : Heap) (locs : List Loc) (x3 : Int32) (x4 : Int32) (x5 : Int32) (re : Re), p_Re_liftFromParts_reached_14 x2 te Q k5 n x3 x4 x5 re → lv_has ls 6 [(0, .ref (ad 18)), (1, .ref (ad 19)), (2, .int x2), (3, .int x3), (4, .int x4), (5, .int x5)] → gIn D A s (wC ad cA) (te, ru, au, re, la, sp, le) H locs → W p l e rm_Re_liftFromParts_reached s m args below meth c H locs 0 0 (qI D (tyA cA) A (wC ad cA) (fun u : Re => (te, ru, au, u, la, sp, le)) (fun (r : Int32) (u : Re) => Q r u) below args s) (F0 m 14 ls []) := by
  intro n
  induction n with
  | zero =>
    intro ls H locs x3 x4 x5 re h
    exact (show False from h).elim
  | succ n ih =>
    intro ls H locs x3 x4 x5 re h hl I
    refine lv_iload S.1 S.2.1 d_Re_liftFromParts_14 (lv_at hl 5 rfl) ?_
    refine lv_iload_n S.1 S.2.1 d_Re_liftFromParts_16 rfl (lv_at hl 2 rfl) ?_
    refine lv_icmp_ge (tgt := 62) S.1 S.2.1 d_Re_liftFromParts_17 (by decide) (fun hc => ?_) (fun hc => ?_)
    · have h := h.1 hc
      refine lv_iinc (k := 4) (v := x4 + (1 : Int32)) (lv' := [(4, .int (x4 + (1 : Int32))), (0, .ref (ad 18)), (1, .ref (ad 19)), (2, .int x2), (3, .int x3), (5, .int x5)]) S.1 S.2.1 d_Re_liftFromParts_62 hl rfl rfl (by decide) rfl (fun ls hl => ?_)
      refine lv_goto (tgt := 5) S.1 S.2.1 d_Re_liftFromParts_65 (by decide) ?_
      exact hk5 _ _ _ _ _ _ h (lv_sub hl [1, 2, 3, 4, 0] rfl) I
    · have h := h.2 hc
      refine lv_aload_n S.1 S.2.1 d_Re_liftFromParts_20 rfl (lv_at hl 1 rfl) ?_
      refine lv_iload S.1 S.2.1 d_Re_liftFromParts_21 (lv_at hl 4 rfl) ?_
      refine lv_iload S.1 S.2.1 d_Re_liftFromParts_23 (lv_at hl 5 rfl) ?_
      refine callS_roi S (c_Re_isIn_reached l D ad cA _ _ _ _ _ _ _ _ _ _ h) (mkS S.2.2.2.2 ml_Re_55 k_Re_isIn rfl rfl ⟨Nat.le_of_ble_eq_true rfl, Nat.le_of_ble_eq_true rfl⟩) hK I.1 hl.1 rfl rfl (Nat.le_of_ble_eq_true rfl) d_Re_liftFromParts_25 ⟨Nat.zero_le _, Nat.zero_le _⟩ (fun r25 h => ?_)
      refine lv_if_ne (tgt := 56) S.1 S.2.1 d_Re_liftFromParts_28 (by decide) (fun hc => ?_) (fun hc => ?_)
      · have h := h.1 hc
        refine lv_iinc (k := 5) (v := x5 + (1 : Int32)) (lv' := [(5, .int (x5 + (1 : Int32))), (0, .ref (ad 18)), (1, .ref (ad 19)), (2, .int x2), (3, .int x3), (4, .int x4)]) S.1 S.2.1 d_Re_liftFromParts_56 hl rfl rfl (by decide) rfl (fun ls hl => ?_)
        refine lv_goto (tgt := 14) S.1 S.2.1 d_Re_liftFromParts_59 (by decide) ?_
        exact ih _ _ _ _ _ _ _ h (lv_sub hl [1, 2, 3, 4, 5, 0] rfl) I
      · have h := h.2 hc
        refine lv_aload_n S.1 S.2.1 d_Re_liftFromParts_31 rfl (lv_at hl 0 rfl) ?_
        refine lv_aload_n S.1 S.2.1 d_Re_liftFromParts_32 rfl (lv_at hl 1 rfl) ?_
        refine lv_iload S.1 S.2.1 d_Re_liftFromParts_33 (lv_at hl 4 rfl) ?_
        refine lv_iload S.1 S.2.1 d_Re_liftFromParts_35 (lv_at hl 5 rfl) ?_
        refine callV_roi S (c_Re_partsRelated_reached l D ad cA _ _ _ _ _ _ _ _ _ _ h) (mkV S.2.2.2.2 ml_Re_88 k_Re_partsRelated rfl rfl ⟨Nat.le_of_ble_eq_true rfl, Nat.le_of_ble_eq_true rfl⟩) (rv_Re hK I.1) hK I.1 hl.1 rfl rfl (Nat.le_of_ble_eq_true rfl) d_Re_liftFromParts_37 ⟨Nat.zero_le _, Nat.zero_le _⟩ (fun r37 h => ?_)
        refine lv_if_eq (tgt := 56) S.1 S.2.1 d_Re_liftFromParts_40 (by decide) (fun hc => ?_) (fun hc => ?_)
        · have h := h.1 hc
          refine lv_iinc (k := 5) (v := x5 + (1 : Int32)) (lv' := [(5, .int (x5 + (1 : Int32))), (0, .ref (ad 18)), (1, .ref (ad 19)), (2, .int x2), (3, .int x3), (4, .int x4)]) S.1 S.2.1 d_Re_liftFromParts_56 hl rfl rfl (by decide) rfl (fun ls hl => ?_)
          refine lv_goto (tgt := 14) S.1 S.2.1 d_Re_liftFromParts_59 (by decide) ?_
          exact ih _ _ _ _ _ _ _ h (lv_sub hl [1, 2, 3, 4, 5, 0] rfl) I
        · have h := h.2 hc
          refine lv_aload_n S.1 S.2.1 d_Re_liftFromParts_43 rfl (lv_at hl 1 rfl) ?_
          refine lv_iload S.1 S.2.1 d_Re_liftFromParts_44 (lv_at hl 4 rfl) ?_
          refine lv_dup2_11 S.1 S.2.1 d_Re_liftFromParts_46 rfl rfl ?_
          obtain ⟨hin, h⟩ := h
          refine a_Re_reached S hK I.1 hin d_Re_liftFromParts_47 ?_
          refine lv_lconst (v := (1 : Int64)) S.1 S.2.1 d_Re_liftFromParts_48 rfl ?_
          refine lv_iload S.1 S.2.1 d_Re_liftFromParts_49 (lv_at hl 5 rfl) ?_
          refine lv_lshl S.1 S.2.1 d_Re_liftFromParts_51 rfl ?_
          refine lv_lor S.1 S.2.1 d_Re_liftFromParts_52 ?_
          obtain ⟨hin, h⟩ := h
          refine s_Re_reached S hK I hin d_Re_liftFromParts_53 (fun H locs re53 ere53 I => ?_)
          have h := h re53 ere53
          refine lv_iconst (v := (1 : Int32)) S.1 S.2.1 d_Re_liftFromParts_54 rfl ?_
          refine lv_istore_n (lv' := [(3, .int (1 : Int32)), (0, .ref (ad 18)), (1, .ref (ad 19)), (2, .int x2), (4, .int x4), (5, .int x5)]) S.1 S.2.1 d_Re_liftFromParts_55 rfl hl (by decide) rfl (fun ls hl => ?_)
          refine lv_iinc (k := 5) (v := x5 + (1 : Int32)) (lv' := [(5, .int (x5 + (1 : Int32))), (3, .int (1 : Int32)), (0, .ref (ad 18)), (1, .ref (ad 19)), (2, .int x2), (4, .int x4)]) S.1 S.2.1 d_Re_liftFromParts_56 hl rfl rfl (by decide) rfl (fun ls hl => ?_)
          refine lv_goto (tgt := 14) S.1 S.2.1 d_Re_liftFromParts_59 (by decide) ?_
          exact ih _ _ _ _ _ _ _ h (lv_sub hl [2, 3, 4, 1, 5, 0] rfl) I
set_option maxHeartbeats 4000000 in
set_option maxRecDepth 100000 in
theorem n_Re_liftFromParts_reached_5 {p : Program} {l : Launch} {e : Env} {s : State} {m : MethodId} {args : Array Value} {below : List Frame} {meth : Method} {c : Code} {D : va_G} {A : Nat → Prop} {ad : Nat → Nat} {cA : ClassId × ClassId × ClassId} {te : Te} {ru : Ru} {au : Au} {la : La} {sp : Sp} {le : Le} {x2 : Int32} {Q : Int32 → Re → Prop} (S : CallFix p m c b_Re_liftFromParts 6 s args gtbl R_Re) (hr : meth.sig.returnType = (some .boolean)) (hlk : meth.locks = false) (hK : gK D (tyA cA) s) (hA : ∀ q : Nat, s.heap.size ≤ q → A q) : ∀ n : Nat, ∀ (ls : Array Slot) (H : Heap) (locs : List Loc) (x3 : Int32) (x4 : Int32) (re : Re), p_Re_liftFromParts_reached_5 x2 te Q n x3 x4 re → lv_has ls 6 [(0, .ref (ad 18)), (1, .ref (ad 19)), (2, .int x2), (3, .int x3), (4, .int x4)] → gIn D A s (wC ad cA) (te, ru, au, re, la, sp, le) H locs → W p l e rm_Re_liftFromParts_reached s m args below meth c H locs 0 0 (qI D (tyA cA) A (wC ad cA) (fun u : Re => (te, ru, au, u, la, sp, le)) (fun (r : Int32) (u : Re) => Q r u) below args s) (F0 m 5 ls []) := by
  intro n
  induction n with
  | zero =>
    intro ls H locs x3 x4 re h
    exact (show False from h).elim
  | succ n ih =>
    intro ls H locs x3 x4 re h hl I
    refine lv_iload S.1 S.2.1 d_Re_liftFromParts_5 (lv_at hl 4 rfl) ?_
    refine lv_iload_n S.1 S.2.1 d_Re_liftFromParts_7 rfl (lv_at hl 2 rfl) ?_
    refine lv_icmp_ge (tgt := 68) S.1 S.2.1 d_Re_liftFromParts_8 (by decide) (fun hc => ?_) (fun hc => ?_)
    · have h := h.1 hc
      refine lv_iload_n S.1 S.2.1 d_Re_liftFromParts_68 rfl (lv_at hl 3 rfl) ?_
      obtain ⟨hz, h⟩ := h
      exact ret_rwz S hr hlk hK (isB_n hz) I h d_Re_liftFromParts_69
    · have h := h.2 hc
      refine lv_iconst (v := (0 : Int32)) S.1 S.2.1 d_Re_liftFromParts_11 rfl ?_
      refine lv_istore (lv' := [(5, .int (0 : Int32)), (0, .ref (ad 18)), (1, .ref (ad 19)), (2, .int x2), (3, .int x3), (4, .int x4)]) S.1 S.2.1 d_Re_liftFromParts_12 hl (by decide) rfl (fun ls hl => ?_)
      obtain ⟨n', h⟩ := h
      exact n_Re_liftFromParts_reached_14 S hr hlk hK hA ih n' _ _ _ _ _ _ _ h (lv_sub hl [1, 2, 3, 4, 5, 0] rfl) I
set_option maxHeartbeats 4000000 in
set_option maxRecDepth 100000 in
theorem c_Re_liftFromParts_reached (l : Launch) (D : va_G) (ad : Nat → Nat) (cA : ClassId × ClassId × ClassId) (te : Te) (ru : Ru) (au : Au) (re : Re) (la : La) (sp : Sp) (le : Le) (x2 : Int32) (Q : Int32 → Re → Prop) (h : p_Re_liftFromParts_reached x2 te re Q) : rwI l y_Re_liftFromParts (wsOf y_Re_liftFromParts b_Re_liftFromParts 6 (some .boolean)) rm_Re_liftFromParts_reached D (tyA cA) (wC ad cA) [.ref (ad 18), .ref (ad 19), .int x2] (te, ru, au, re, la, sp, le) (fun u : Re => (te, ru, au, u, la, sp, le)) (fun (r : Int32) (u : Re) => Q r u) := by
  refine rwI_of (by decide) (Nat.le_of_ble_eq_true rfl) ?_
  intro p e s m below meth c S hr hlk hK A hA I ls hl
  have hl : lv_has ls 6 [(0, .ref (ad 18)), (1, .ref (ad 19)), (2, .int x2)] := hl
  refine lv_iconst (v := (0 : Int32)) S.1 S.2.1 d_Re_liftFromParts_0 rfl ?_
  refine lv_istore_n (lv' := [(3, .int (0 : Int32)), (0, .ref (ad 18)), (1, .ref (ad 19)), (2, .int x2)]) S.1 S.2.1 d_Re_liftFromParts_1 rfl hl (by decide) rfl (fun ls hl => ?_)
  refine lv_iconst (v := (0 : Int32)) S.1 S.2.1 d_Re_liftFromParts_2 rfl ?_
  refine lv_istore (lv' := [(4, .int (0 : Int32)), (3, .int (0 : Int32)), (0, .ref (ad 18)), (1, .ref (ad 19)), (2, .int x2)]) S.1 S.2.1 d_Re_liftFromParts_3 hl (by decide) rfl (fun ls hl => ?_)
  obtain ⟨n', h⟩ := h
  exact n_Re_liftFromParts_reached_5 S hr hlk hK hA n' _ _ _ _ _ _ h (lv_sub hl [2, 3, 4, 1, 0] rfl) I

set_option maxHeartbeats 4000000 in
set_option maxRecDepth 100000 in
theorem n_Re_findReached_79 {p : Program} {l : Launch} {e : Env} {s : State} {m : MethodId} {args : Array Value} {below : List Frame} {meth : Method} {c : Code} {D : va_G} {A : Nat → Prop} {ad : Nat → Nat} {cA : ClassId × ClassId × ClassId} {te : Te} {ru : Ru} {au : Au} {la : La} {sp : Sp} {le : Le} {Q : Re → Prop} (S : CallFix p m c b_Re_findReached 4 s args gtbl R_Re) (hr : meth.sig.returnType = none) (hlk : meth.locks = false) (hK : gK D (tyA cA) s) (hA : ∀ q : Nat, s.heap.size ≤ q → A q) : ∀ n : Nat, ∀ (ls : Array Slot) (H : Heap) (locs : List Loc) (x1 : Int32) (x2 : Int32) (x3 : Int32) (re : Re), p_Re_findReached_79 te ru Q n x1 x2 x3 re → lv_has ls 4 [(0, .ref (ad 18)), (1, .int x1), (2, .int x2), (3, .int x3)] → gIn D A s (wC ad cA) (te, ru, au, re, la, sp, le) H locs → W p l e rm_Re_findReached s m args below meth c H locs 0 0 (qV D (tyA cA) A (wC ad cA) (fun u : Re => (te, ru, au, u, la, sp, le)) (fun u : Re => Q u) below args s) (F0 m 79 ls []) := by
  intro n
  induction n with
  | zero =>
    intro ls H locs x1 x2 x3 re h
    exact (show False from h).elim
  | succ n ih =>
    intro ls H locs x1 x2 x3 re h hl I
    refine lv_iload_n S.1 S.2.1 d_Re_findReached_79 rfl (lv_at hl 3 rfl) ?_
    refine lv_sipush (v := (2305 : Int32)) S.1 S.2.1 d_Re_findReached_80 rfl ?_
    refine lv_icmp_ge (tgt := 111) S.1 S.2.1 d_Re_findReached_83 (by decide) (fun hc => ?_) (fun hc => ?_)
    · have h := h.1 hc
      exact ret_rwv S hr hlk hK I h d_Re_findReached_111
    · have h := h.2 hc
      refine lv_iload_n S.1 S.2.1 d_Re_findReached_86 rfl (lv_at hl 2 rfl) ?_
      refine lv_if_eq (tgt := 111) S.1 S.2.1 d_Re_findReached_87 (by decide) (fun hc => ?_) (fun hc => ?_)
      · have h := h.1 hc
        exact ret_rwv S hr hlk hK I h d_Re_findReached_111
      · have h := h.2 hc
        refine lv_aload_n S.1 S.2.1 d_Re_findReached_90 rfl (lv_at hl 0 rfl) ?_
        refine lv_iload_n S.1 S.2.1 d_Re_findReached_91 rfl (lv_at hl 1 rfl) ?_
        refine callV_rwv S (c_Re_chain l D ad cA _ _ _ _ _ _ _ _ _ h) (mkV S.2.2.2.2 ml_Re_77 k_Re_chain rfl rfl ⟨Nat.le_of_ble_eq_true rfl, Nat.le_of_ble_eq_true rfl⟩) (rv_Re hK I.1) hK hA I hl.1 rfl rfl (Nat.le_of_ble_eq_true rfl) d_Re_findReached_92 ⟨Nat.zero_le _, Nat.zero_le _⟩ (fun re92 H locs h I => ?_)
        refine lv_aload_n S.1 S.2.1 d_Re_findReached_95 rfl (lv_at hl 0 rfl) ?_
        refine lv_aload_n S.1 S.2.1 d_Re_findReached_96 rfl (lv_at hl 0 rfl) ?_
        refine g_Re_reached S hK I.1 d_Re_findReached_97 ?_
        refine lv_iload_n S.1 S.2.1 d_Re_findReached_100 rfl (lv_at hl 1 rfl) ?_
        refine callV_rwi S (c_Re_liftFromParts_reached l D ad cA _ _ _ _ _ _ _ _ _ h) (mkV S.2.2.2.2 ml_Re_81 k_Re_liftFromParts rfl rfl ⟨Nat.le_of_ble_eq_true rfl, Nat.le_of_ble_eq_true rfl⟩) (rv_Re hK I.1) hK hA I hl.1 rfl rfl (Nat.le_of_ble_eq_true rfl) d_Re_findReached_101 ⟨Nat.zero_le _, Nat.zero_le _⟩ (fun r101 re101 H locs h I => ?_)
        refine lv_istore_n (lv' := [(2, .int r101), (0, .ref (ad 18)), (1, .int x1), (3, .int x3)]) S.1 S.2.1 d_Re_findReached_104 rfl hl (by decide) rfl (fun ls hl => ?_)
        refine lv_iinc (k := 3) (v := x3 + (1 : Int32)) (lv' := [(3, .int (x3 + (1 : Int32))), (2, .int r101), (0, .ref (ad 18)), (1, .int x1)]) S.1 S.2.1 d_Re_findReached_105 hl rfl rfl (by decide) rfl (fun ls hl => ?_)
        refine lv_goto (tgt := 79) S.1 S.2.1 d_Re_findReached_108 (by decide) ?_
        exact ih _ _ _ _ _ _ _ h (lv_sub hl [2, 3, 1, 0] rfl) I
set_option maxHeartbeats 4000000 in
set_option maxRecDepth 100000 in
theorem n_Re_findReached_32 {p : Program} {l : Launch} {e : Env} {s : State} {m : MethodId} {args : Array Value} {below : List Frame} {meth : Method} {c : Code} {D : va_G} {A : Nat → Prop} {ad : Nat → Nat} {cA : ClassId × ClassId × ClassId} {te : Te} {ru : Ru} {au : Au} {la : La} {sp : Sp} {le : Le} {Q : Re → Prop} (S : CallFix p m c b_Re_findReached 4 s args gtbl R_Re) (hr : meth.sig.returnType = none) (hlk : meth.locks = false) (hK : gK D (tyA cA) s) (hA : ∀ q : Nat, s.heap.size ≤ q → A q) : ∀ n : Nat, ∀ (ls : Array Slot) (H : Heap) (locs : List Loc) (x1 : Int32) (x2 : Int32) (re : Re), p_Re_findReached_32 te ru Q n x1 x2 re → lv_has ls 4 [(0, .ref (ad 18)), (1, .int x1), (2, .int x2)] → gIn D A s (wC ad cA) (te, ru, au, re, la, sp, le) H locs → W p l e rm_Re_findReached s m args below meth c H locs 0 0 (qV D (tyA cA) A (wC ad cA) (fun u : Re => (te, ru, au, u, la, sp, le)) (fun u : Re => Q u) below args s) (F0 m 32 ls []) := by
  intro n
  induction n with
  | zero =>
    intro ls H locs x1 x2 re h
    exact (show False from h).elim
  | succ n ih =>
    intro ls H locs x1 x2 re h hl I
    refine lv_iload_n S.1 S.2.1 d_Re_findReached_32 rfl (lv_at hl 2 rfl) ?_
    refine lv_aload_n S.1 S.2.1 d_Re_findReached_33 rfl (lv_at hl 0 rfl) ?_
    refine g_Re_rules S hK I.1 d_Re_findReached_34 ?_
    refine callV_roi S (c_Ru_count l D ad cA _ _ _ _ _ _ _ _ h) (mkV S.2.2.2.2 ml_Re_70 k_Ru_count rfl rfl ⟨Nat.le_of_ble_eq_true rfl, Nat.le_of_ble_eq_true rfl⟩) (rv_Ru hK I.1) hK I.1 hl.1 rfl rfl (Nat.le_of_ble_eq_true rfl) d_Re_findReached_37 ⟨Nat.zero_le _, Nat.zero_le _⟩ (fun r37 h => ?_)
    refine lv_icmp_ge (tgt := 75) S.1 S.2.1 d_Re_findReached_40 (by decide) (fun hc => ?_) (fun hc => ?_)
    · have h := h.1 hc
      refine lv_iconst (v := (1 : Int32)) S.1 S.2.1 d_Re_findReached_75 rfl ?_
      refine lv_istore_n (lv' := [(2, .int (1 : Int32)), (0, .ref (ad 18)), (1, .int x1)]) S.1 S.2.1 d_Re_findReached_76 rfl hl (by decide) rfl (fun ls hl => ?_)
      refine lv_iconst (v := (0 : Int32)) S.1 S.2.1 d_Re_findReached_77 rfl ?_
      refine lv_istore_n (lv' := [(3, .int (0 : Int32)), (2, .int (1 : Int32)), (0, .ref (ad 18)), (1, .int x1)]) S.1 S.2.1 d_Re_findReached_78 rfl hl (by decide) rfl (fun ls hl => ?_)
      obtain ⟨n', h⟩ := h
      exact n_Re_findReached_79 S hr hlk hK hA n' _ _ _ _ _ _ _ h (lv_sub hl [2, 3, 1, 0] rfl) I
    · have h := h.2 hc
      refine lv_aload_n S.1 S.2.1 d_Re_findReached_43 rfl (lv_at hl 0 rfl) ?_
      refine g_Re_reached S hK I.1 d_Re_findReached_44 ?_
      refine lv_aload_n S.1 S.2.1 d_Re_findReached_47 rfl (lv_at hl 0 rfl) ?_
      refine g_Re_rules S hK I.1 d_Re_findReached_48 ?_
      refine lv_iload_n S.1 S.2.1 d_Re_findReached_51 rfl (lv_at hl 2 rfl) ?_
      refine callV_roi S (c_Ru_leftOf l D ad cA _ _ _ _ _ _ _ _ _ h) (mkV S.2.2.2.2 ml_Re_71 k_Ru_leftOf rfl rfl ⟨Nat.le_of_ble_eq_true rfl, Nat.le_of_ble_eq_true rfl⟩) (rv_Ru hK I.1) hK I.1 hl.1 rfl rfl (Nat.le_of_ble_eq_true rfl) d_Re_findReached_52 ⟨Nat.zero_le _, Nat.zero_le _⟩ (fun r52 h => ?_)
      refine lv_dup2_11 S.1 S.2.1 d_Re_findReached_55 rfl rfl ?_
      obtain ⟨hin, h⟩ := h
      refine a_Re_reached S hK I.1 hin d_Re_findReached_56 ?_
      refine lv_lconst (v := (1 : Int64)) S.1 S.2.1 d_Re_findReached_57 rfl ?_
      refine lv_aload_n S.1 S.2.1 d_Re_findReached_58 rfl (lv_at hl 0 rfl) ?_
      refine g_Re_rules S hK I.1 d_Re_findReached_59 ?_
      refine lv_iload_n S.1 S.2.1 d_Re_findReached_62 rfl (lv_at hl 2 rfl) ?_
      refine callV_roi S (c_Ru_rightOf l D ad cA _ _ _ _ _ _ _ _ _ h) (mkV S.2.2.2.2 ml_Re_74 k_Ru_rightOf rfl rfl ⟨Nat.le_of_ble_eq_true rfl, Nat.le_of_ble_eq_true rfl⟩) (rv_Ru hK I.1) hK I.1 hl.1 rfl rfl (Nat.le_of_ble_eq_true rfl) d_Re_findReached_63 ⟨Nat.zero_le _, Nat.zero_le _⟩ (fun r63 h => ?_)
      refine lv_lshl S.1 S.2.1 d_Re_findReached_66 rfl ?_
      refine lv_lor S.1 S.2.1 d_Re_findReached_67 ?_
      obtain ⟨hin, h⟩ := h
      refine s_Re_reached S hK I hin d_Re_findReached_68 (fun H locs re68 ere68 I => ?_)
      have h := h re68 ere68
      refine lv_iinc (k := 2) (v := x2 + (1 : Int32)) (lv' := [(2, .int (x2 + (1 : Int32))), (0, .ref (ad 18)), (1, .int x1)]) S.1 S.2.1 d_Re_findReached_69 hl rfl rfl (by decide) rfl (fun ls hl => ?_)
      refine lv_goto (tgt := 32) S.1 S.2.1 d_Re_findReached_72 (by decide) ?_
      exact ih _ _ _ _ _ _ h (lv_sub hl [1, 2, 0] rfl) I
set_option maxHeartbeats 4000000 in
set_option maxRecDepth 100000 in
theorem n_Re_findReached_10 {p : Program} {l : Launch} {e : Env} {s : State} {m : MethodId} {args : Array Value} {below : List Frame} {meth : Method} {c : Code} {D : va_G} {A : Nat → Prop} {ad : Nat → Nat} {cA : ClassId × ClassId × ClassId} {te : Te} {ru : Ru} {au : Au} {la : La} {sp : Sp} {le : Le} {Q : Re → Prop} (S : CallFix p m c b_Re_findReached 4 s args gtbl R_Re) (hr : meth.sig.returnType = none) (hlk : meth.locks = false) (hK : gK D (tyA cA) s) (hA : ∀ q : Nat, s.heap.size ≤ q → A q) : ∀ n : Nat, ∀ (ls : Array Slot) (H : Heap) (locs : List Loc) (x1 : Int32) (x2 : Int32) (re : Re), p_Re_findReached_10 te ru Q n x1 x2 re → lv_has ls 4 [(0, .ref (ad 18)), (1, .int x1), (2, .int x2)] → gIn D A s (wC ad cA) (te, ru, au, re, la, sp, le) H locs → W p l e rm_Re_findReached s m args below meth c H locs 0 0 (qV D (tyA cA) A (wC ad cA) (fun u : Re => (te, ru, au, u, la, sp, le)) (fun u : Re => Q u) below args s) (F0 m 10 ls []) := by
  intro n
  induction n with
  | zero =>
    intro ls H locs x1 x2 re h
    exact (show False from h).elim
  | succ n ih =>
    intro ls H locs x1 x2 re h hl I
    refine lv_iload_n S.1 S.2.1 d_Re_findReached_10 rfl (lv_at hl 2 rfl) ?_
    refine lv_iload_n S.1 S.2.1 d_Re_findReached_11 rfl (lv_at hl 1 rfl) ?_
    refine lv_icmp_ge (tgt := 30) S.1 S.2.1 d_Re_findReached_12 (by decide) (fun hc => ?_) (fun hc => ?_)
    · have h := h.1 hc
      refine lv_iconst (v := (0 : Int32)) S.1 S.2.1 d_Re_findReached_30 rfl ?_
      refine lv_istore_n (lv' := [(2, .int (0 : Int32)), (0, .ref (ad 18)), (1, .int x1)]) S.1 S.2.1 d_Re_findReached_31 rfl hl (by decide) rfl (fun ls hl => ?_)
      obtain ⟨n', h⟩ := h
      exact n_Re_findReached_32 S hr hlk hK hA n' _ _ _ _ _ _ h (lv_sub hl [1, 2, 0] rfl) I
    · have h := h.2 hc
      refine lv_aload_n S.1 S.2.1 d_Re_findReached_15 rfl (lv_at hl 0 rfl) ?_
      refine g_Re_reached S hK I.1 d_Re_findReached_16 ?_
      refine lv_iload_n S.1 S.2.1 d_Re_findReached_19 rfl (lv_at hl 2 rfl) ?_
      refine lv_lconst (v := (1 : Int64)) S.1 S.2.1 d_Re_findReached_20 rfl ?_
      refine lv_iload_n S.1 S.2.1 d_Re_findReached_21 rfl (lv_at hl 2 rfl) ?_
      refine lv_lshl S.1 S.2.1 d_Re_findReached_22 rfl ?_
      obtain ⟨hin, h⟩ := h
      refine s_Re_reached S hK I hin d_Re_findReached_23 (fun H locs re23 ere23 I => ?_)
      have h := h re23 ere23
      refine lv_iinc (k := 2) (v := x2 + (1 : Int32)) (lv' := [(2, .int (x2 + (1 : Int32))), (0, .ref (ad 18)), (1, .int x1)]) S.1 S.2.1 d_Re_findReached_24 hl rfl rfl (by decide) rfl (fun ls hl => ?_)
      refine lv_goto (tgt := 10) S.1 S.2.1 d_Re_findReached_27 (by decide) ?_
      exact ih _ _ _ _ _ _ h (lv_sub hl [1, 2, 0] rfl) I
set_option maxHeartbeats 4000000 in
set_option maxRecDepth 100000 in
theorem c_Re_findReached (l : Launch) (D : va_G) (ad : Nat → Nat) (cA : ClassId × ClassId × ClassId) (te : Te) (ru : Ru) (au : Au) (re : Re) (la : La) (sp : Sp) (le : Le)  (Q : Re → Prop) (h : p_Re_findReached  te ru re Q) : rwV l y_Re_findReached (wsOf y_Re_findReached b_Re_findReached 4 none) rm_Re_findReached D (tyA cA) (wC ad cA) [.ref (ad 18)] (te, ru, au, re, la, sp, le) (fun u : Re => (te, ru, au, u, la, sp, le)) (fun u : Re => Q u) := by
  refine rwV_of (by decide) (Nat.le_of_ble_eq_true rfl) ?_
  intro p e s m below meth c S hr hlk hK A hA I ls hl
  have hl : lv_has ls 4 [(0, .ref (ad 18))] := hl
  refine lv_aload_n S.1 S.2.1 d_Re_findReached_0 rfl (lv_at hl 0 rfl) ?_
  refine g_Re_terms S hK I.1 d_Re_findReached_1 ?_
  refine callV_roi S (c_Te_count l D ad cA _ _ _ _ _ _ _ _ h) (mkV S.2.2.2.2 ml_Re_37 k_Te_count rfl rfl ⟨Nat.le_of_ble_eq_true rfl, Nat.le_of_ble_eq_true rfl⟩) (rv_Te hK I.1) hK I.1 hl.1 rfl rfl (Nat.le_of_ble_eq_true rfl) d_Re_findReached_4 ⟨Nat.zero_le _, Nat.zero_le _⟩ (fun r4 h => ?_)
  refine lv_istore_n (lv' := [(1, .int r4), (0, .ref (ad 18))]) S.1 S.2.1 d_Re_findReached_7 rfl hl (by decide) rfl (fun ls hl => ?_)
  refine lv_iconst (v := (0 : Int32)) S.1 S.2.1 d_Re_findReached_8 rfl ?_
  refine lv_istore_n (lv' := [(2, .int (0 : Int32)), (1, .int r4), (0, .ref (ad 18))]) S.1 S.2.1 d_Re_findReached_9 rfl hl (by decide) rfl (fun ls hl => ?_)
  obtain ⟨n', h⟩ := h
  exact n_Re_findReached_10 S hr hlk hK hA n' _ _ _ _ _ _ h (lv_sub hl [2, 1, 0] rfl) I
end
section
set_option maxHeartbeats 4000000 in
set_option maxRecDepth 100000 in
theorem n_Re_renew_29 {p : Program} {l : Launch} {e : Env} {s : State} {m : MethodId} {args : Array Value} {below : List Frame} {meth : Method} {c : Code} {D : va_G} {A : Nat → Prop} {ad : Nat → Nat} {cA : ClassId × ClassId × ClassId} {te : Te} {ru : Ru} {au : Au} {la : La} {sp : Sp} {le : Le} {Q : Re → Prop} (S : CallFix p m c b_Re_renew 1 s args gtbl R_Re) (hr : meth.sig.returnType = none) (hlk : meth.locks = false) (hK : gK D (tyA cA) s) (hA : ∀ q : Nat, s.heap.size ≤ q → A q) : ∀ (ls : Array Slot) (H : Heap) (locs : List Loc) (re : Re), p_Re_renew_29 te ru Q re → lv_has ls 1 [(0, .ref (ad 18))] → gIn D A s (wC ad cA) (te, ru, au, re, la, sp, le) H locs → W p l e rm_Re_renew s m args below meth c H locs 0 0 (qV D (tyA cA) A (wC ad cA) (fun u : Re => (te, ru, au, u, la, sp, le)) (fun u : Re => Q u) below args s) (F0 m 29 ls []) := by
  intro ls H locs re h hl I
  refine lv_aload_n S.1 S.2.1 d_Re_renew_29 rfl (lv_at hl 0 rfl) ?_
  refine lv_aload_n S.1 S.2.1 d_Re_renew_30 rfl (lv_at hl 0 rfl) ?_
  refine g_Re_terms S hK I.1 d_Re_renew_31 ?_
  refine callV_roi S (c_Te_count l D ad cA _ _ _ _ _ _ _ _ h) (mkV S.2.2.2.2 ml_Re_37 k_Te_count rfl rfl ⟨Nat.le_of_ble_eq_true rfl, Nat.le_of_ble_eq_true rfl⟩) (rv_Te hK I.1) hK I.1 hl.1 rfl rfl (Nat.le_of_ble_eq_true rfl) d_Re_renew_34 ⟨Nat.zero_le _, Nat.zero_le _⟩ (fun r34 h => ?_)
  refine q_Re_termsThen S hK I d_Re_renew_37 (fun H locs re37 ere37 I => ?_)
  have h := h re37 ere37
  refine lv_aload_n S.1 S.2.1 d_Re_renew_40 rfl (lv_at hl 0 rfl) ?_
  refine lv_aload_n S.1 S.2.1 d_Re_renew_41 rfl (lv_at hl 0 rfl) ?_
  refine g_Re_rules S hK I.1 d_Re_renew_42 ?_
  refine callV_roi S (c_Ru_changes l D ad cA _ _ _ _ _ _ _ _ h) (mkV S.2.2.2.2 ml_Re_43 k_Ru_changes rfl rfl ⟨Nat.le_of_ble_eq_true rfl, Nat.le_of_ble_eq_true rfl⟩) (rv_Ru hK I.1) hK I.1 hl.1 rfl rfl (Nat.le_of_ble_eq_true rfl) d_Re_renew_45 ⟨Nat.zero_le _, Nat.zero_le _⟩ (fun r45 h => ?_)
  refine q_Re_changesThen S hK I d_Re_renew_48 (fun H locs re48 ere48 I => ?_)
  have h := h re48 ere48
  refine lv_aload_n S.1 S.2.1 d_Re_renew_51 rfl (lv_at hl 0 rfl) ?_
  refine lv_iconst (v := (0 : Int32)) S.1 S.2.1 d_Re_renew_52 rfl ?_
  refine q_Re_joinedKnown S hK I (by decide) (by decide) d_Re_renew_53 (fun H locs re53 ere53 I => ?_)
  have h := h re53 ere53
  refine lv_aload_n S.1 S.2.1 d_Re_renew_56 rfl (lv_at hl 0 rfl) ?_
  refine callV_rwv S (c_Re_findReached l D ad cA _ _ _ _ _ _ _ _ h) (mkV S.2.2.2.2 ml_Re_52 k_Re_findReached rfl rfl ⟨Nat.le_of_ble_eq_true rfl, Nat.le_of_ble_eq_true rfl⟩) (rv_Re hK I.1) hK hA I hl.1 rfl rfl (Nat.le_of_ble_eq_true rfl) d_Re_renew_57 ⟨Nat.zero_le _, Nat.zero_le _⟩ (fun re57 H locs h I => ?_)
  exact ret_rwv S hr hlk hK I h d_Re_renew_60
set_option maxHeartbeats 4000000 in
set_option maxRecDepth 100000 in
theorem c_Re_renew (l : Launch) (D : va_G) (ad : Nat → Nat) (cA : ClassId × ClassId × ClassId) (te : Te) (ru : Ru) (au : Au) (re : Re) (la : La) (sp : Sp) (le : Le)  (Q : Re → Prop) (h : p_Re_renew  te ru re Q) : rwV l y_Re_renew (wsOf y_Re_renew b_Re_renew 1 none) rm_Re_renew D (tyA cA) (wC ad cA) [.ref (ad 18)] (te, ru, au, re, la, sp, le) (fun u : Re => (te, ru, au, u, la, sp, le)) (fun u : Re => Q u) := by
  refine rwV_of (by decide) (Nat.le_of_ble_eq_true rfl) ?_
  intro p e s m below meth c S hr hlk hK A hA I ls hl
  have hl : lv_has ls 1 [(0, .ref (ad 18))] := hl
  refine lv_aload_n S.1 S.2.1 d_Re_renew_0 rfl (lv_at hl 0 rfl) ?_
  refine g_Re_termsThen S hK I.1 d_Re_renew_1 ?_
  refine lv_aload_n S.1 S.2.1 d_Re_renew_4 rfl (lv_at hl 0 rfl) ?_
  refine g_Re_terms S hK I.1 d_Re_renew_5 ?_
  refine callV_roi S (c_Te_count l D ad cA _ _ _ _ _ _ _ _ h) (mkV S.2.2.2.2 ml_Re_37 k_Te_count rfl rfl ⟨Nat.le_of_ble_eq_true rfl, Nat.le_of_ble_eq_true rfl⟩) (rv_Te hK I.1) hK I.1 hl.1 rfl rfl (Nat.le_of_ble_eq_true rfl) d_Re_renew_8 ⟨Nat.zero_le _, Nat.zero_le _⟩ (fun r8 h => ?_)
  refine lv_icmp_ne (tgt := 29) S.1 S.2.1 d_Re_renew_11 (by decide) (fun hc => ?_) (fun hc => ?_)
  · have h := h.1 hc
    exact n_Re_renew_29 S hr hlk hK hA _ _ _ _ h (lv_sub hl [0] rfl) I
  · have h := h.2 hc
    refine lv_aload_n S.1 S.2.1 d_Re_renew_14 rfl (lv_at hl 0 rfl) ?_
    refine g_Re_changesThen S hK I.1 d_Re_renew_15 ?_
    refine lv_aload_n S.1 S.2.1 d_Re_renew_18 rfl (lv_at hl 0 rfl) ?_
    refine g_Re_rules S hK I.1 d_Re_renew_19 ?_
    refine callV_roi S (c_Ru_changes l D ad cA _ _ _ _ _ _ _ _ h) (mkV S.2.2.2.2 ml_Re_43 k_Ru_changes rfl rfl ⟨Nat.le_of_ble_eq_true rfl, Nat.le_of_ble_eq_true rfl⟩) (rv_Ru hK I.1) hK I.1 hl.1 rfl rfl (Nat.le_of_ble_eq_true rfl) d_Re_renew_22 ⟨Nat.zero_le _, Nat.zero_le _⟩ (fun r22 h => ?_)
    refine lv_icmp_ne (tgt := 29) S.1 S.2.1 d_Re_renew_25 (by decide) (fun hc => ?_) (fun hc => ?_)
    · have h := h.1 hc
      exact n_Re_renew_29 S hr hlk hK hA _ _ _ _ h (lv_sub hl [0] rfl) I
    · have h := h.2 hc
      exact ret_rwv S hr hlk hK I h d_Re_renew_28

set_option maxHeartbeats 4000000 in
set_option maxRecDepth 100000 in
theorem c_Re_leads (l : Launch) (D : va_G) (ad : Nat → Nat) (cA : ClassId × ClassId × ClassId) (te : Te) (ru : Ru) (au : Au) (re : Re) (la : La) (sp : Sp) (le : Le) (x1 : Int32) (x2 : Int32) (Q : Int32 → Prop) (h : p_Re_leads x1 x2 re Q) : roI l y_Re_leads (wsOf y_Re_leads b_Re_leads 3 (some .boolean)) rm_Re_leads D (tyA cA) (wC ad cA) [.ref (ad 18), .int x1, .int x2] (te, ru, au, re, la, sp, le) Q := by
  refine roI_of (by decide) (Nat.le_of_ble_eq_true rfl) ?_
  intro p e s m below meth c S hr hlk hK hP ls hl
  have hl : lv_has ls 3 [(0, .ref (ad 18)), (1, .int x1), (2, .int x2)] := hl
  refine lv_aload_n S.1 S.2.1 d_Re_leads_0 rfl (lv_at hl 0 rfl) ?_
  refine g_Re_reached S hK hP d_Re_leads_1 ?_
  refine lv_iload_n S.1 S.2.1 d_Re_leads_4 rfl (lv_at hl 1 rfl) ?_
  refine lv_iload_n S.1 S.2.1 d_Re_leads_5 rfl (lv_at hl 2 rfl) ?_
  refine callS_roi S (c_Re_isIn_reached l D ad cA _ _ _ _ _ _ _ _ _ _ h) (mkS S.2.2.2.2 ml_Re_55 k_Re_isIn rfl rfl ⟨Nat.le_of_ble_eq_true rfl, Nat.le_of_ble_eq_true rfl⟩) hK hP hl.1 rfl rfl (Nat.le_of_ble_eq_true rfl) d_Re_leads_6 ⟨Nat.zero_le _, Nat.zero_le _⟩ (fun r6 h => ?_)
  obtain ⟨hz, h⟩ := h
  exact ret_roz S hr hlk (isB_n hz) h d_Re_leads_9

set_option maxHeartbeats 4000000 in
set_option maxRecDepth 100000 in
theorem c_Re_isIn_joined (l : Launch) (D : va_G) (ad : Nat → Nat) (cA : ClassId × ClassId × ClassId) (te : Te) (ru : Ru) (au : Au) (re : Re) (la : La) (sp : Sp) (le : Le) (x1 : Int32) (x2 : Int32) (Q : Int32 → Prop) (h : p_Re_isIn_joined x1 x2 re Q) : roI l y_Re_isIn (wsOf y_Re_isIn b_Re_isIn 3 (some .boolean)) rm_Re_isIn_joined D (tyA cA) (wC ad cA) [.ref (ad 20), .int x1, .int x2] (te, ru, au, re, la, sp, le) Q := by
  refine roI_of (by decide) (Nat.le_of_ble_eq_true rfl) ?_
  intro p e s m below meth c S hr hlk hK hP ls hl
  have hl : lv_has ls 3 [(0, .ref (ad 20)), (1, .int x1), (2, .int x2)] := hl
  refine lv_aload_n S.1 S.2.1 d_Re_isIn_0 rfl (lv_at hl 0 rfl) ?_
  refine lv_iload_n S.1 S.2.1 d_Re_isIn_1 rfl (lv_at hl 1 rfl) ?_
  obtain ⟨hin, h⟩ := h
  refine a_Re_joined S hK hP hin d_Re_isIn_2 ?_
  refine lv_iload_n S.1 S.2.1 d_Re_isIn_3 rfl (lv_at hl 2 rfl) ?_
  refine lv_lshr S.1 S.2.1 d_Re_isIn_4 rfl ?_
  refine lv_lconst (v := (1 : Int64)) S.1 S.2.1 d_Re_isIn_5 rfl ?_
  refine lv_land S.1 S.2.1 d_Re_isIn_6 ?_
  refine lv_lconst (v := (0 : Int64)) S.1 S.2.1 d_Re_isIn_7 rfl ?_
  refine W.lcmp S.1 S.2.1 d_Re_isIn_8 ?_
  refine lv_if_eq (tgt := 16) S.1 S.2.1 d_Re_isIn_9 (by decide) (fun hc => ?_) (fun hc => ?_)
  · have h := h.1 hc
    refine lv_iconst (v := (0 : Int32)) S.1 S.2.1 d_Re_isIn_16 rfl ?_
    exact ret_roz S hr hlk (by decide) h d_Re_isIn_17
  · have h := h.2 hc
    refine lv_iconst (v := (1 : Int32)) S.1 S.2.1 d_Re_isIn_12 rfl ?_
    refine lv_goto (tgt := 17) S.1 S.2.1 d_Re_isIn_13 (by decide) ?_
    exact ret_roz S hr hlk (by decide) h d_Re_isIn_17

set_option maxHeartbeats 4000000 in
set_option maxRecDepth 100000 in
theorem n_Re_inheritJoined_97 {p : Program} {l : Launch} {e : Env} {s : State} {m : MethodId} {args : Array Value} {below : List Frame} {meth : Method} {c : Code} {D : va_G} {A : Nat → Prop} {ad : Nat → Nat} {cA : ClassId × ClassId × ClassId} {te : Te} {ru : Ru} {au : Au} {la : La} {sp : Sp} {le : Le} {x1 : Int32} {Q : Int32 → Re → Prop} (S : CallFix p m c b_Re_inheritJoined 7 s args gtbl R_Re) (hr : meth.sig.returnType = (some .boolean)) (hlk : meth.locks = false) (hK : gK D (tyA cA) s) (hA : ∀ q : Nat, s.heap.size ≤ q → A q) {k4 : Int32 → Int32 → Re → Prop} (hk4 : ∀ (ls : Array Slot) (H : Heap) (locs : List Loc) (x2 : Int32) (x3 : Int32) (re : Re), k4 x2 x3 re → lv_has ls 7 [(0, .ref (ad 18)), (1, .int x1), (2, .int x2), (3, .int x3)] → gIn D A s (wC ad cA) (te, ru, au, re, la, sp, le) H locs → W p l e rm_Re_inheritJoined s m args below meth c H locs 0 0 (qI D (tyA cA) A (wC ad cA) (fun u : Re => (te, ru, au, u, la, sp, le)) (fun (r : Int32) (u : Re) => Q r u) below args s) (F0 m 4 ls [])) : ∀ (ls : Array Slot) (H : Heap) (locs : List Loc) (x3 : Int32) (x4 : Int64) (y0 : Int32) (y1 : Int32) (re : Re), p_Re_inheritJoined_97 x1 Q k4 x3 x4 y0 y1 re → lv_has ls 7 [(0, .ref (ad 18)), (1, .int x1), (3, .int x3), (4, .long x4)] → gIn D A s (wC ad cA) (te, ru, au, re, la, sp, le) H locs → W p l e rm_Re_inheritJoined s m args below meth c H locs 0 0 (qI D (tyA cA) A (wC ad cA) (fun u : Re => (te, ru, au, u, la, sp, le)) (fun (r : Int32) (u : Re) => Q r u) below args s) (F0 m 97 ls [.int y0, .int y1]) := by
  intro ls H locs x3 x4 y0 y1 re h hl I
  refine lv_ior S.1 S.2.1 d_Re_inheritJoined_97 ?_
  refine lv_istore_n (lv' := [(2, .int (y1 ||| y0)), (0, .ref (ad 18)), (1, .int x1), (3, .int x3), (4, .long x4)]) S.1 S.2.1 d_Re_inheritJoined_98 rfl hl (by decide) rfl (fun ls hl => ?_)
  refine lv_aload_n S.1 S.2.1 d_Re_inheritJoined_99 rfl (lv_at hl 1 rfl) ?_
  refine g_Re_joined S hK I.1 d_Re_inheritJoined_100 ?_
  refine lv_iload_n S.1 S.2.1 d_Re_inheritJoined_103 rfl (lv_at hl 3 rfl) ?_
  refine lv_lload S.1 S.2.1 d_Re_inheritJoined_104 (lv_at hl 4 rfl) ?_
  obtain ⟨hin, h⟩ := h
  refine s_Re_joined S hK I hin d_Re_inheritJoined_106 (fun H locs re106 ere106 I => ?_)
  have h := h re106 ere106
  refine lv_iinc (k := 3) (v := x3 + (1 : Int32)) (lv' := [(3, .int (x3 + (1 : Int32))), (2, .int (y1 ||| y0)), (0, .ref (ad 18)), (1, .int x1), (4, .long x4)]) S.1 S.2.1 d_Re_inheritJoined_107 hl rfl rfl (by decide) rfl (fun ls hl => ?_)
  refine lv_goto (tgt := 4) S.1 S.2.1 d_Re_inheritJoined_110 (by decide) ?_
  exact hk4 _ _ _ _ _ _ h (lv_sub hl [2, 3, 1, 0] rfl) I
set_option maxHeartbeats 4000000 in
set_option maxRecDepth 100000 in
theorem n_Re_inheritJoined_51 {p : Program} {l : Launch} {e : Env} {s : State} {m : MethodId} {args : Array Value} {below : List Frame} {meth : Method} {c : Code} {D : va_G} {A : Nat → Prop} {ad : Nat → Nat} {cA : ClassId × ClassId × ClassId} {te : Te} {ru : Ru} {au : Au} {la : La} {sp : Sp} {le : Le} {x1 : Int32} {Q : Int32 → Re → Prop} (S : CallFix p m c b_Re_inheritJoined 7 s args gtbl R_Re) (hr : meth.sig.returnType = (some .boolean)) (hlk : meth.locks = false) (hK : gK D (tyA cA) s) (hA : ∀ q : Nat, s.heap.size ≤ q → A q) {k4 : Int32 → Int32 → Re → Prop} (hk4 : ∀ (ls : Array Slot) (H : Heap) (locs : List Loc) (x2 : Int32) (x3 : Int32) (re : Re), k4 x2 x3 re → lv_has ls 7 [(0, .ref (ad 18)), (1, .int x1), (2, .int x2), (3, .int x3)] → gIn D A s (wC ad cA) (te, ru, au, re, la, sp, le) H locs → W p l e rm_Re_inheritJoined s m args below meth c H locs 0 0 (qI D (tyA cA) A (wC ad cA) (fun u : Re => (te, ru, au, u, la, sp, le)) (fun (r : Int32) (u : Re) => Q r u) below args s) (F0 m 4 ls [])) {k20 : Int32 → Int32 → Int64 → Int32 → Re → Prop} (hk20 : ∀ (ls : Array Slot) (H : Heap) (locs : List Loc) (x2 : Int32) (x3 : Int32) (x4 : Int64) (x6 : Int32) (re : Re), k20 x2 x3 x4 x6 re → lv_has ls 7 [(0, .ref (ad 18)), (1, .int x1), (2, .int x2), (3, .int x3), (4, .long x4), (6, .int x6)] → gIn D A s (wC ad cA) (te, ru, au, re, la, sp, le) H locs → W p l e rm_Re_inheritJoined s m args below meth c H locs 0 0 (qI D (tyA cA) A (wC ad cA) (fun u : Re => (te, ru, au, u, la, sp, le)) (fun (r : Int32) (u : Re) => Q r u) below args s) (F0 m 20 ls [])) : ∀ (ls : Array Slot) (H : Heap) (locs : List Loc) (x2 : Int32) (x3 : Int32) (x4 : Int64) (x6 : Int32) (re : Re), p_Re_inheritJoined_51 x1 Q k4 k20 x2 x3 x4 x6 re → lv_has ls 7 [(0, .ref (ad 18)), (1, .int x1), (2, .int x2), (3, .int x3), (4, .long x4), (6, .int x6)] → gIn D A s (wC ad cA) (te, ru, au, re, la, sp, le) H locs → W p l e rm_Re_inheritJoined s m args below meth c H locs 0 0 (qI D (tyA cA) A (wC ad cA) (fun u : Re => (te, ru, au, u, la, sp, le)) (fun (r : Int32) (u : Re) => Q r u) below args s) (F0 m 51 ls []) := by
  intro ls H locs x2 x3 x4 x6 re h hl I
  refine lv_aload_n S.1 S.2.1 d_Re_inheritJoined_51 rfl (lv_at hl 0 rfl) ?_
  refine g_Re_joined S hK I.1 d_Re_inheritJoined_52 ?_
  refine lv_iload S.1 S.2.1 d_Re_inheritJoined_55 (lv_at hl 5 rfl) ?_
  refine lv_iload_n S.1 S.2.1 d_Re_inheritJoined_57 rfl (lv_at hl 3 rfl) ?_
  refine callS_roi S (c_Re_isIn_joined l D ad cA _ _ _ _ _ _ _ _ _ _ h) (mkS S.2.2.2.2 ml_Re_55 k_Re_isIn rfl rfl ⟨Nat.le_of_ble_eq_true rfl, Nat.le_of_ble_eq_true rfl⟩) hK I.1 hl.1 rfl rfl (Nat.le_of_ble_eq_true rfl) d_Re_inheritJoined_58 ⟨Nat.zero_le _, Nat.zero_le _⟩ (fun r58 h => ?_)
  refine lv_if_eq (tgt := 73) S.1 S.2.1 d_Re_inheritJoined_61 (by decide) (fun hc => ?_) (fun hc => ?_)
  · have h := h.1 hc
    refine lv_iinc (k := 5) (v := x6 + (1 : Int32)) (lv' := [(6, .int (x6 + (1 : Int32))), (0, .ref (ad 18)), (1, .int x1), (2, .int x2), (3, .int x3), (4, .long x4)]) S.1 S.2.1 d_Re_inheritJoined_73 hl rfl rfl (by decide) rfl (fun ls hl => ?_)
    refine lv_goto (tgt := 20) S.1 S.2.1 d_Re_inheritJoined_76 (by decide) ?_
    exact hk20 _ _ _ _ _ _ _ _ h (lv_sub hl [1, 2, 3, 4, 5, 0] rfl) I
  · have h := h.2 hc
    refine lv_lload S.1 S.2.1 d_Re_inheritJoined_64 (lv_at hl 4 rfl) ?_
    refine lv_lconst (v := (1 : Int64)) S.1 S.2.1 d_Re_inheritJoined_66 rfl ?_
    refine lv_iload S.1 S.2.1 d_Re_inheritJoined_67 (lv_at hl 5 rfl) ?_
    refine lv_lshl S.1 S.2.1 d_Re_inheritJoined_69 rfl ?_
    refine lv_lor S.1 S.2.1 d_Re_inheritJoined_70 ?_
    refine lv_lstore (lv' := [(4, .long (x4 ||| ((1 : Int64) <<< (x6.toInt64 &&& 63)))), (0, .ref (ad 18)), (1, .int x1), (2, .int x2), (3, .int x3), (6, .int x6)]) S.1 S.2.1 d_Re_inheritJoined_71 hl (by decide) rfl (fun ls hl => ?_)
    refine lv_iinc (k := 5) (v := x6 + (1 : Int32)) (lv' := [(6, .int (x6 + (1 : Int32))), (4, .long (x4 ||| ((1 : Int64) <<< (x6.toInt64 &&& 63)))), (0, .ref (ad 18)), (1, .int x1), (2, .int x2), (3, .int x3)]) S.1 S.2.1 d_Re_inheritJoined_73 hl rfl rfl (by decide) rfl (fun ls hl => ?_)
    refine lv_goto (tgt := 20) S.1 S.2.1 d_Re_inheritJoined_76 (by decide) ?_
    exact hk20 _ _ _ _ _ _ _ _ h (lv_sub hl [2, 3, 4, 5, 1, 0] rfl) I
set_option maxHeartbeats 4000000 in
set_option maxRecDepth 100000 in
theorem n_Re_inheritJoined_20 {p : Program} {l : Launch} {e : Env} {s : State} {m : MethodId} {args : Array Value} {below : List Frame} {meth : Method} {c : Code} {D : va_G} {A : Nat → Prop} {ad : Nat → Nat} {cA : ClassId × ClassId × ClassId} {te : Te} {ru : Ru} {au : Au} {la : La} {sp : Sp} {le : Le} {x1 : Int32} {Q : Int32 → Re → Prop} (S : CallFix p m c b_Re_inheritJoined 7 s args gtbl R_Re) (hr : meth.sig.returnType = (some .boolean)) (hlk : meth.locks = false) (hK : gK D (tyA cA) s) (hA : ∀ q : Nat, s.heap.size ≤ q → A q) {k4 : Int32 → Int32 → Re → Prop} (hk4 : ∀ (ls : Array Slot) (H : Heap) (locs : List Loc) (x2 : Int32) (x3 : Int32) (re : Re), k4 x2 x3 re → lv_has ls 7 [(0, .ref (ad 18)), (1, .int x1), (2, .int x2), (3, .int x3)] → gIn D A s (wC ad cA) (te, ru, au, re, la, sp, le) H locs → W p l e rm_Re_inheritJoined s m args below meth c H locs 0 0 (qI D (tyA cA) A (wC ad cA) (fun u : Re => (te, ru, au, u, la, sp, le)) (fun (r : Int32) (u : Re) => Q r u) below args s) (F0 m 4 ls [])) : ∀ n : Nat, ∀ (ls : Array Slot) (H : Heap) (locs : List Loc) (x2 : Int32) (x3 : Int32) (x4 : Int64) (x6 : Int32) (re : Re), p_Re_inheritJoined_20 x1 Q k4 n x2 x3 x4 x6 re → lv_has ls 7 [(0, .ref (ad 18)), (1, .int x1), (2, .int x2), (3, .int x3), (4, .long x4), (6, .int x6)] → gIn D A s (wC ad cA) (te, ru, au, re, la, sp, le) H locs → W p l e rm_Re_inheritJoined s m args below meth c H locs 0 0 (qI D (tyA cA) A (wC ad cA) (fun u : Re => (te, ru, au, u, la, sp, le)) (fun (r : Int32) (u : Re) => Q r u) below args s) (F0 m 20 ls []) := by
  intro n
  induction n with
  | zero =>
    intro ls H locs x2 x3 x4 x6 re h
    exact (show False from h).elim
  | succ n ih =>
    intro ls H locs x2 x3 x4 x6 re h hl I
    refine lv_iload S.1 S.2.1 d_Re_inheritJoined_20 (lv_at hl 5 rfl) ?_
    refine lv_iload_n S.1 S.2.1 d_Re_inheritJoined_22 rfl (lv_at hl 1 rfl) ?_
    refine lv_icmp_ge (tgt := 79) S.1 S.2.1 d_Re_inheritJoined_23 (by decide) (fun hc => ?_) (fun hc => ?_)
    · have h := h.1 hc
      refine lv_iload_n S.1 S.2.1 d_Re_inheritJoined_79 rfl (lv_at hl 2 rfl) ?_
      refine lv_lload S.1 S.2.1 d_Re_inheritJoined_80 (lv_at hl 4 rfl) ?_
      refine lv_aload_n S.1 S.2.1 d_Re_inheritJoined_82 rfl (lv_at hl 0 rfl) ?_
      refine g_Re_joined S hK I.1 d_Re_inheritJoined_83 ?_
      refine lv_iload_n S.1 S.2.1 d_Re_inheritJoined_86 rfl (lv_at hl 3 rfl) ?_
      obtain ⟨hin, h⟩ := h
      refine a_Re_joined S hK I.1 hin d_Re_inheritJoined_87 ?_
      refine W.lcmp S.1 S.2.1 d_Re_inheritJoined_88 ?_
      refine lv_if_eq (tgt := 96) S.1 S.2.1 d_Re_inheritJoined_89 (by decide) (fun hc => ?_) (fun hc => ?_)
      · have h := h.1 hc
        refine lv_iconst (v := (0 : Int32)) S.1 S.2.1 d_Re_inheritJoined_96 rfl ?_
        exact n_Re_inheritJoined_97 S hr hlk hK hA hk4 _ _ _ _ _ _ _ _ h (lv_sub hl [0, 1, 3, 4] rfl) I
      · have h := h.2 hc
        refine lv_iconst (v := (1 : Int32)) S.1 S.2.1 d_Re_inheritJoined_92 rfl ?_
        refine lv_goto (tgt := 97) S.1 S.2.1 d_Re_inheritJoined_93 (by decide) ?_
        exact n_Re_inheritJoined_97 S hr hlk hK hA hk4 _ _ _ _ _ _ _ _ h (lv_sub hl [0, 1, 3, 4] rfl) I
    · have h := h.2 hc
      refine lv_aload_n S.1 S.2.1 d_Re_inheritJoined_26 rfl (lv_at hl 0 rfl) ?_
      refine g_Re_reached S hK I.1 d_Re_inheritJoined_27 ?_
      refine lv_iload_n S.1 S.2.1 d_Re_inheritJoined_30 rfl (lv_at hl 3 rfl) ?_
      refine lv_iload S.1 S.2.1 d_Re_inheritJoined_31 (lv_at hl 5 rfl) ?_
      refine callS_roi S (c_Re_isIn_reached l D ad cA _ _ _ _ _ _ _ _ _ _ h) (mkS S.2.2.2.2 ml_Re_55 k_Re_isIn rfl rfl ⟨Nat.le_of_ble_eq_true rfl, Nat.le_of_ble_eq_true rfl⟩) hK I.1 hl.1 rfl rfl (Nat.le_of_ble_eq_true rfl) d_Re_inheritJoined_33 ⟨Nat.zero_le _, Nat.zero_le _⟩ (fun r33 h => ?_)
      refine lv_if_eq (tgt := 51) S.1 S.2.1 d_Re_inheritJoined_36 (by decide) (fun hc => ?_) (fun hc => ?_)
      · have h := h.1 hc
        exact n_Re_inheritJoined_51 S hr hlk hK hA hk4 ih _ _ _ _ _ _ _ _ h (lv_sub hl [0, 1, 2, 3, 4, 5] rfl) I
      · have h := h.2 hc
        refine lv_lload S.1 S.2.1 d_Re_inheritJoined_39 (lv_at hl 4 rfl) ?_
        refine lv_aload_n S.1 S.2.1 d_Re_inheritJoined_41 rfl (lv_at hl 0 rfl) ?_
        refine g_Re_joined S hK I.1 d_Re_inheritJoined_42 ?_
        refine lv_iload S.1 S.2.1 d_Re_inheritJoined_45 (lv_at hl 5 rfl) ?_
        obtain ⟨hin, h⟩ := h
        refine a_Re_joined S hK I.1 hin d_Re_inheritJoined_47 ?_
        refine lv_lor S.1 S.2.1 d_Re_inheritJoined_48 ?_
        refine lv_lstore (lv' := [(4, .long (x4 ||| (Re_joined re x6.toNatClampNeg))), (0, .ref (ad 18)), (1, .int x1), (2, .int x2), (3, .int x3), (6, .int x6)]) S.1 S.2.1 d_Re_inheritJoined_49 hl (by decide) rfl (fun ls hl => ?_)
        exact n_Re_inheritJoined_51 S hr hlk hK hA hk4 ih _ _ _ _ _ _ _ _ h (lv_sub hl [1, 2, 3, 4, 0, 5] rfl) I
set_option maxHeartbeats 4000000 in
set_option maxRecDepth 100000 in
theorem n_Re_inheritJoined_4 {p : Program} {l : Launch} {e : Env} {s : State} {m : MethodId} {args : Array Value} {below : List Frame} {meth : Method} {c : Code} {D : va_G} {A : Nat → Prop} {ad : Nat → Nat} {cA : ClassId × ClassId × ClassId} {te : Te} {ru : Ru} {au : Au} {la : La} {sp : Sp} {le : Le} {x1 : Int32} {Q : Int32 → Re → Prop} (S : CallFix p m c b_Re_inheritJoined 7 s args gtbl R_Re) (hr : meth.sig.returnType = (some .boolean)) (hlk : meth.locks = false) (hK : gK D (tyA cA) s) (hA : ∀ q : Nat, s.heap.size ≤ q → A q) : ∀ n : Nat, ∀ (ls : Array Slot) (H : Heap) (locs : List Loc) (x2 : Int32) (x3 : Int32) (re : Re), p_Re_inheritJoined_4 x1 Q n x2 x3 re → lv_has ls 7 [(0, .ref (ad 18)), (1, .int x1), (2, .int x2), (3, .int x3)] → gIn D A s (wC ad cA) (te, ru, au, re, la, sp, le) H locs → W p l e rm_Re_inheritJoined s m args below meth c H locs 0 0 (qI D (tyA cA) A (wC ad cA) (fun u : Re => (te, ru, au, u, la, sp, le)) (fun (r : Int32) (u : Re) => Q r u) below args s) (F0 m 4 ls []) := by
  intro n
  induction n with
  | zero =>
    intro ls H locs x2 x3 re h
    exact (show False from h).elim
  | succ n ih =>
    intro ls H locs x2 x3 re h hl I
    refine lv_iload_n S.1 S.2.1 d_Re_inheritJoined_4 rfl (lv_at hl 3 rfl) ?_
    refine lv_iload_n S.1 S.2.1 d_Re_inheritJoined_5 rfl (lv_at hl 1 rfl) ?_
    refine lv_icmp_ge (tgt := 113) S.1 S.2.1 d_Re_inheritJoined_6 (by decide) (fun hc => ?_) (fun hc => ?_)
    · have h := h.1 hc
      refine lv_iload_n S.1 S.2.1 d_Re_inheritJoined_113 rfl (lv_at hl 2 rfl) ?_
      obtain ⟨hz, h⟩ := h
      exact ret_rwz S hr hlk hK (isB_n hz) I h d_Re_inheritJoined_114
    · have h := h.2 hc
      refine lv_aload_n S.1 S.2.1 d_Re_inheritJoined_9 rfl (lv_at hl 0 rfl) ?_
      refine g_Re_joined S hK I.1 d_Re_inheritJoined_10 ?_
      refine lv_iload_n S.1 S.2.1 d_Re_inheritJoined_13 rfl (lv_at hl 3 rfl) ?_
      obtain ⟨hin, h⟩ := h
      refine a_Re_joined S hK I.1 hin d_Re_inheritJoined_14 ?_
      refine lv_lstore (lv' := [(4, .long (Re_joined re x3.toNatClampNeg)), (0, .ref (ad 18)), (1, .int x1), (2, .int x2), (3, .int x3)]) S.1 S.2.1 d_Re_inheritJoined_15 hl (by decide) rfl (fun ls hl => ?_)
      refine lv_iconst (v := (0 : Int32)) S.1 S.2.1 d_Re_inheritJoined_17 rfl ?_
      refine lv_istore (lv' := [(6, .int (0 : Int32)), (4, .long (Re_joined re x3.toNatClampNeg)), (0, .ref (ad 18)), (1, .int x1), (2, .int x2), (3, .int x3)]) S.1 S.2.1 d_Re_inheritJoined_18 hl (by decide) rfl (fun ls hl => ?_)
      obtain ⟨n', h⟩ := h
      exact n_Re_inheritJoined_20 S hr hlk hK hA ih n' _ _ _ _ _ _ _ _ h (lv_sub hl [2, 3, 4, 5, 1, 0] rfl) I
set_option maxHeartbeats 4000000 in
set_option maxRecDepth 100000 in
theorem c_Re_inheritJoined (l : Launch) (D : va_G) (ad : Nat → Nat) (cA : ClassId × ClassId × ClassId) (te : Te) (ru : Ru) (au : Au) (re : Re) (la : La) (sp : Sp) (le : Le) (x1 : Int32) (Q : Int32 → Re → Prop) (h : p_Re_inheritJoined x1 re Q) : rwI l y_Re_inheritJoined (wsOf y_Re_inheritJoined b_Re_inheritJoined 7 (some .boolean)) rm_Re_inheritJoined D (tyA cA) (wC ad cA) [.ref (ad 18), .int x1] (te, ru, au, re, la, sp, le) (fun u : Re => (te, ru, au, u, la, sp, le)) (fun (r : Int32) (u : Re) => Q r u) := by
  refine rwI_of (by decide) (Nat.le_of_ble_eq_true rfl) ?_
  intro p e s m below meth c S hr hlk hK A hA I ls hl
  have hl : lv_has ls 7 [(0, .ref (ad 18)), (1, .int x1)] := hl
  refine lv_iconst (v := (0 : Int32)) S.1 S.2.1 d_Re_inheritJoined_0 rfl ?_
  refine lv_istore_n (lv' := [(2, .int (0 : Int32)), (0, .ref (ad 18)), (1, .int x1)]) S.1 S.2.1 d_Re_inheritJoined_1 rfl hl (by decide) rfl (fun ls hl => ?_)
  refine lv_iconst (v := (0 : Int32)) S.1 S.2.1 d_Re_inheritJoined_2 rfl ?_
  refine lv_istore_n (lv' := [(3, .int (0 : Int32)), (2, .int (0 : Int32)), (0, .ref (ad 18)), (1, .int x1)]) S.1 S.2.1 d_Re_inheritJoined_3 rfl hl (by decide) rfl (fun ls hl => ?_)
  obtain ⟨n', h⟩ := h
  exact n_Re_inheritJoined_4 S hr hlk hK hA n' _ _ _ _ _ _ h (lv_sub hl [2, 3, 1, 0] rfl) I

set_option maxHeartbeats 4000000 in
set_option maxRecDepth 100000 in
theorem n_Re_partsRelated_joined_96 {p : Program} {l : Launch} {e : Env} {s : State} {m : MethodId} {args : Array Value} {below : List Frame} {meth : Method} {c : Code} {D : va_G} {ad : Nat → Nat} {cA : ClassId × ClassId × ClassId} {te : Te} {ru : Ru} {au : Au} {re : Re} {la : La} {sp : Sp} {le : Le} {x2 : Int32} {x3 : Int32} {Q : Int32 → Prop} (S : CallFix p m c b_Re_partsRelated 5 s args gtbl R_Re) (hr : meth.sig.returnType = (some .boolean)) (hlk : meth.locks = false) (hK : gK D (tyA cA) s) (hP : va_P D classes (wC ad cA (te, ru, au, re, la, sp, le)) s.heap) : ∀ (ls : Array Slot) , p_Re_partsRelated_joined_96 x2 x3 te re Q  → lv_has ls 5 [] → W p l e rm_Re_partsRelated_joined s m args below meth c s.heap [] 0 0 (qRI Q below args s) (F0 m 96 ls []) := by
  intro ls  h hl
  refine lv_iconst (v := (1 : Int32)) S.1 S.2.1 d_Re_partsRelated_96 rfl ?_
  refine lv_goto (tgt := 101) S.1 S.2.1 d_Re_partsRelated_97 (by decide) ?_
  exact ret_roz S hr hlk (by decide) h d_Re_partsRelated_101
set_option maxHeartbeats 4000000 in
set_option maxRecDepth 100000 in
theorem n_Re_partsRelated_joined_67 {p : Program} {l : Launch} {e : Env} {s : State} {m : MethodId} {args : Array Value} {below : List Frame} {meth : Method} {c : Code} {D : va_G} {ad : Nat → Nat} {cA : ClassId × ClassId × ClassId} {te : Te} {ru : Ru} {au : Au} {re : Re} {la : La} {sp : Sp} {le : Le} {x2 : Int32} {x3 : Int32} {Q : Int32 → Prop} (S : CallFix p m c b_Re_partsRelated 5 s args gtbl R_Re) (hr : meth.sig.returnType = (some .boolean)) (hlk : meth.locks = false) (hK : gK D (tyA cA) s) (hP : va_P D classes (wC ad cA (te, ru, au, re, la, sp, le)) s.heap) : ∀ (ls : Array Slot) (x4 : Int32), p_Re_partsRelated_joined_67 x2 x3 te re Q x4 → lv_has ls 5 [(0, .ref (ad 18)), (1, .ref (ad 20)), (2, .int x2), (3, .int x3), (4, .int x4)] → W p l e rm_Re_partsRelated_joined s m args below meth c s.heap [] 0 0 (qRI Q below args s) (F0 m 67 ls []) := by
  intro ls x4 h hl
  refine lv_iload S.1 S.2.1 d_Re_partsRelated_67 (lv_at hl 4 rfl) ?_
  refine lv_iconst (v := (2 : Int32)) S.1 S.2.1 d_Re_partsRelated_69 rfl ?_
  refine lv_icmp_lt (tgt := 96) S.1 S.2.1 d_Re_partsRelated_70 (by decide) (fun hc => ?_) (fun hc => ?_)
  · have h := h.1 hc
    exact n_Re_partsRelated_joined_96 S hr hlk hK hP _ h (lv_sub hl [] rfl)
  · have h := h.2 hc
    refine lv_aload_n S.1 S.2.1 d_Re_partsRelated_73 rfl (lv_at hl 1 rfl) ?_
    refine lv_aload_n S.1 S.2.1 d_Re_partsRelated_74 rfl (lv_at hl 0 rfl) ?_
    refine g_Re_terms S hK hP d_Re_partsRelated_75 ?_
    refine lv_iload_n S.1 S.2.1 d_Re_partsRelated_78 rfl (lv_at hl 2 rfl) ?_
    refine callV_roi S (c_Te_secondOf l D ad cA _ _ _ _ _ _ _ _ _ h) (mkV S.2.2.2.2 ml_Re_100 k_Te_secondOf rfl rfl ⟨Nat.le_of_ble_eq_true rfl, Nat.le_of_ble_eq_true rfl⟩) (rv_Te hK hP) hK hP hl.1 rfl rfl (Nat.le_of_ble_eq_true rfl) d_Re_partsRelated_79 ⟨Nat.zero_le _, Nat.zero_le _⟩ (fun r79 h => ?_)
    refine lv_aload_n S.1 S.2.1 d_Re_partsRelated_82 rfl (lv_at hl 0 rfl) ?_
    refine g_Re_terms S hK hP d_Re_partsRelated_83 ?_
    refine lv_iload_n S.1 S.2.1 d_Re_partsRelated_86 rfl (lv_at hl 3 rfl) ?_
    refine callV_roi S (c_Te_secondOf l D ad cA _ _ _ _ _ _ _ _ _ h) (mkV S.2.2.2.2 ml_Re_100 k_Te_secondOf rfl rfl ⟨Nat.le_of_ble_eq_true rfl, Nat.le_of_ble_eq_true rfl⟩) (rv_Te hK hP) hK hP hl.1 rfl rfl (Nat.le_of_ble_eq_true rfl) d_Re_partsRelated_87 ⟨Nat.zero_le _, Nat.zero_le _⟩ (fun r87 h => ?_)
    refine callS_roi S (c_Re_isIn_joined l D ad cA _ _ _ _ _ _ _ _ _ _ h) (mkS S.2.2.2.2 ml_Re_55 k_Re_isIn rfl rfl ⟨Nat.le_of_ble_eq_true rfl, Nat.le_of_ble_eq_true rfl⟩) hK hP hl.1 rfl rfl (Nat.le_of_ble_eq_true rfl) d_Re_partsRelated_90 ⟨Nat.zero_le _, Nat.zero_le _⟩ (fun r90 h => ?_)
    refine lv_if_eq (tgt := 100) S.1 S.2.1 d_Re_partsRelated_93 (by decide) (fun hc => ?_) (fun hc => ?_)
    · have h := h.1 hc
      refine lv_iconst (v := (0 : Int32)) S.1 S.2.1 d_Re_partsRelated_100 rfl ?_
      exact ret_roz S hr hlk (by decide) h d_Re_partsRelated_101
    · have h := h.2 hc
      exact n_Re_partsRelated_joined_96 S hr hlk hK hP _ h (lv_sub hl [] rfl)
set_option maxHeartbeats 4000000 in
set_option maxRecDepth 100000 in
theorem c_Re_partsRelated_joined (l : Launch) (D : va_G) (ad : Nat → Nat) (cA : ClassId × ClassId × ClassId) (te : Te) (ru : Ru) (au : Au) (re : Re) (la : La) (sp : Sp) (le : Le) (x2 : Int32) (x3 : Int32) (Q : Int32 → Prop) (h : p_Re_partsRelated_joined x2 x3 te re Q) : roI l y_Re_partsRelated (wsOf y_Re_partsRelated b_Re_partsRelated 5 (some .boolean)) rm_Re_partsRelated_joined D (tyA cA) (wC ad cA) [.ref (ad 18), .ref (ad 20), .int x2, .int x3] (te, ru, au, re, la, sp, le) Q := by
  refine roI_of (by decide) (Nat.le_of_ble_eq_true rfl) ?_
  intro p e s m below meth c S hr hlk hK hP ls hl
  have hl : lv_has ls 5 [(0, .ref (ad 18)), (1, .ref (ad 20)), (2, .int x2), (3, .int x3)] := hl
  refine lv_aload_n S.1 S.2.1 d_Re_partsRelated_0 rfl (lv_at hl 0 rfl) ?_
  refine g_Re_terms S hK hP d_Re_partsRelated_1 ?_
  refine lv_iload_n S.1 S.2.1 d_Re_partsRelated_4 rfl (lv_at hl 2 rfl) ?_
  refine callV_roi S (c_Te_symbolOf l D ad cA _ _ _ _ _ _ _ _ _ h) (mkV S.2.2.2.2 ml_Re_91 k_Te_symbolOf rfl rfl ⟨Nat.le_of_ble_eq_true rfl, Nat.le_of_ble_eq_true rfl⟩) (rv_Te hK hP) hK hP hl.1 rfl rfl (Nat.le_of_ble_eq_true rfl) d_Re_partsRelated_5 ⟨Nat.zero_le _, Nat.zero_le _⟩ (fun r5 h => ?_)
  refine lv_aload_n S.1 S.2.1 d_Re_partsRelated_8 rfl (lv_at hl 0 rfl) ?_
  refine g_Re_terms S hK hP d_Re_partsRelated_9 ?_
  refine lv_iload_n S.1 S.2.1 d_Re_partsRelated_12 rfl (lv_at hl 3 rfl) ?_
  refine callV_roi S (c_Te_symbolOf l D ad cA _ _ _ _ _ _ _ _ _ h) (mkV S.2.2.2.2 ml_Re_91 k_Te_symbolOf rfl rfl ⟨Nat.le_of_ble_eq_true rfl, Nat.le_of_ble_eq_true rfl⟩) (rv_Te hK hP) hK hP hl.1 rfl rfl (Nat.le_of_ble_eq_true rfl) d_Re_partsRelated_13 ⟨Nat.zero_le _, Nat.zero_le _⟩ (fun r13 h => ?_)
  refine lv_icmp_eq (tgt := 21) S.1 S.2.1 d_Re_partsRelated_16 (by decide) (fun hc => ?_) (fun hc => ?_)
  · have h := h.1 hc
    refine lv_aload_n S.1 S.2.1 d_Re_partsRelated_21 rfl (lv_at hl 0 rfl) ?_
    refine g_Re_terms S hK hP d_Re_partsRelated_22 ?_
    refine lv_aload_n S.1 S.2.1 d_Re_partsRelated_25 rfl (lv_at hl 0 rfl) ?_
    refine g_Re_terms S hK hP d_Re_partsRelated_26 ?_
    refine lv_iload_n S.1 S.2.1 d_Re_partsRelated_29 rfl (lv_at hl 2 rfl) ?_
    refine callV_roi S (c_Te_symbolOf l D ad cA _ _ _ _ _ _ _ _ _ h) (mkV S.2.2.2.2 ml_Re_91 k_Te_symbolOf rfl rfl ⟨Nat.le_of_ble_eq_true rfl, Nat.le_of_ble_eq_true rfl⟩) (rv_Te hK hP) hK hP hl.1 rfl rfl (Nat.le_of_ble_eq_true rfl) d_Re_partsRelated_30 ⟨Nat.zero_le _, Nat.zero_le _⟩ (fun r30 h => ?_)
    refine callV_roi S (c_Te_placesOf l D ad cA _ _ _ _ _ _ _ _ _ h) (mkV S.2.2.2.2 ml_Re_94 k_Te_placesOf rfl rfl ⟨Nat.le_of_ble_eq_true rfl, Nat.le_of_ble_eq_true rfl⟩) (rv_Te hK hP) hK hP hl.1 rfl rfl (Nat.le_of_ble_eq_true rfl) d_Re_partsRelated_33 ⟨Nat.zero_le _, Nat.zero_le _⟩ (fun r33 h => ?_)
    refine lv_istore (lv' := [(4, .int r33), (0, .ref (ad 18)), (1, .ref (ad 20)), (2, .int x2), (3, .int x3)]) S.1 S.2.1 d_Re_partsRelated_36 hl (by decide) rfl (fun ls hl => ?_)
    refine lv_iload S.1 S.2.1 d_Re_partsRelated_38 (lv_at hl 0 rfl) ?_
    refine lv_iconst (v := (1 : Int32)) S.1 S.2.1 d_Re_partsRelated_40 rfl ?_
    refine lv_icmp_lt (tgt := 67) S.1 S.2.1 d_Re_partsRelated_41 (by decide) (fun hc => ?_) (fun hc => ?_)
    · have h := h.1 hc
      exact n_Re_partsRelated_joined_67 S hr hlk hK hP _ _ h (lv_sub hl [1, 2, 3, 4, 0] rfl)
    · have h := h.2 hc
      refine lv_aload_n S.1 S.2.1 d_Re_partsRelated_44 rfl (lv_at hl 2 rfl) ?_
      refine lv_aload_n S.1 S.2.1 d_Re_partsRelated_45 rfl (lv_at hl 1 rfl) ?_
      refine g_Re_terms S hK hP d_Re_partsRelated_46 ?_
      refine lv_iload_n S.1 S.2.1 d_Re_partsRelated_49 rfl (lv_at hl 3 rfl) ?_
      refine callV_roi S (c_Te_firstOf l D ad cA _ _ _ _ _ _ _ _ _ h) (mkV S.2.2.2.2 ml_Re_97 k_Te_firstOf rfl rfl ⟨Nat.le_of_ble_eq_true rfl, Nat.le_of_ble_eq_true rfl⟩) (rv_Te hK hP) hK hP hl.1 rfl rfl (Nat.le_of_ble_eq_true rfl) d_Re_partsRelated_50 ⟨Nat.zero_le _, Nat.zero_le _⟩ (fun r50 h => ?_)
      refine lv_aload_n S.1 S.2.1 d_Re_partsRelated_53 rfl (lv_at hl 1 rfl) ?_
      refine g_Re_terms S hK hP d_Re_partsRelated_54 ?_
      refine lv_iload_n S.1 S.2.1 d_Re_partsRelated_57 rfl (lv_at hl 4 rfl) ?_
      refine callV_roi S (c_Te_firstOf l D ad cA _ _ _ _ _ _ _ _ _ h) (mkV S.2.2.2.2 ml_Re_97 k_Te_firstOf rfl rfl ⟨Nat.le_of_ble_eq_true rfl, Nat.le_of_ble_eq_true rfl⟩) (rv_Te hK hP) hK hP hl.1 rfl rfl (Nat.le_of_ble_eq_true rfl) d_Re_partsRelated_58 ⟨Nat.zero_le _, Nat.zero_le _⟩ (fun r58 h => ?_)
      refine callS_roi S (c_Re_isIn_joined l D ad cA _ _ _ _ _ _ _ _ _ _ h) (mkS S.2.2.2.2 ml_Re_55 k_Re_isIn rfl rfl ⟨Nat.le_of_ble_eq_true rfl, Nat.le_of_ble_eq_true rfl⟩) hK hP hl.1 rfl rfl (Nat.le_of_ble_eq_true rfl) d_Re_partsRelated_61 ⟨Nat.zero_le _, Nat.zero_le _⟩ (fun r61 h => ?_)
      refine lv_if_eq (tgt := 100) S.1 S.2.1 d_Re_partsRelated_64 (by decide) (fun hc => ?_) (fun hc => ?_)
      · have h := h.1 hc
        refine lv_iconst (v := (0 : Int32)) S.1 S.2.1 d_Re_partsRelated_100 rfl ?_
        exact ret_roz S hr hlk (by decide) h d_Re_partsRelated_101
      · have h := h.2 hc
        exact n_Re_partsRelated_joined_67 S hr hlk hK hP _ _ h (lv_sub hl [1, 2, 3, 4, 0] rfl)
  · have h := h.2 hc
    refine lv_iconst (v := (0 : Int32)) S.1 S.2.1 d_Re_partsRelated_19 rfl ?_
    exact ret_roz S hr hlk (by decide) h d_Re_partsRelated_20

set_option maxHeartbeats 4000000 in
set_option maxRecDepth 100000 in
theorem n_Re_liftFromParts_joined_14 {p : Program} {l : Launch} {e : Env} {s : State} {m : MethodId} {args : Array Value} {below : List Frame} {meth : Method} {c : Code} {D : va_G} {A : Nat → Prop} {ad : Nat → Nat} {cA : ClassId × ClassId × ClassId} {te : Te} {ru : Ru} {au : Au} {la : La} {sp : Sp} {le : Le} {x2 : Int32} {Q : Int32 → Re → Prop} (S : CallFix p m c b_Re_liftFromParts 6 s args gtbl R_Re) (hr : meth.sig.returnType = (some .boolean)) (hlk : meth.locks = false) (hK : gK D (tyA cA) s) (hA : ∀ q : Nat, s.heap.size ≤ q → A q) {k5 : Int32 → Int32 → Re → Prop} (hk5 : ∀ (ls : Array Slot) (H : Heap) (locs : List Loc) (x3 : Int32) (x4 : Int32) (re : Re), k5 x3 x4 re → lv_has ls 6 [(0, .ref (ad 18)), (1, .ref (ad 20)), (2, .int x2), (3, .int x3), (4, .int x4)] → gIn D A s (wC ad cA) (te, ru, au, re, la, sp, le) H locs → W p l e rm_Re_liftFromParts_joined s m args below meth c H locs 0 0 (qI D (tyA cA) A (wC ad cA) (fun u : Re => (te, ru, au, u, la, sp, le)) (fun (r : Int32) (u : Re) => Q r u) below args s) (F0 m 5 ls [])) : ∀ n : Nat, ∀ (ls : Array Slot) (H : Heap) (locs : List Loc) (x3 : Int32) (x4 : Int32) (x5 : Int32) (re : Re), p_Re_liftFromParts_joined_14 x2 te Q k5 n x3 x4 x5 re → lv_has ls 6 [(0, .ref (ad 18)), (1, .ref (ad 20)), (2, .int x2), (3, .int x3), (4, .int x4), (5, .int x5)] → gIn D A s (wC ad cA) (te, ru, au, re, la, sp, le) H locs → W p l e rm_Re_liftFromParts_joined s m args below meth c H locs 0 0 (qI D (tyA cA) A (wC ad cA) (fun u : Re => (te, ru, au, u, la, sp, le)) (fun (r : Int32) (u : Re) => Q r u) below args s) (F0 m 14 ls []) := by
  intro n
  induction n with
  | zero =>
    intro ls H locs x3 x4 x5 re h
    exact (show False from h).elim
  | succ n ih =>
    intro ls H locs x3 x4 x5 re h hl I
    refine lv_iload S.1 S.2.1 d_Re_liftFromParts_14 (lv_at hl 5 rfl) ?_
    refine lv_iload_n S.1 S.2.1 d_Re_liftFromParts_16 rfl (lv_at hl 2 rfl) ?_
    refine lv_icmp_ge (tgt := 62) S.1 S.2.1 d_Re_liftFromParts_17 (by decide) (fun hc => ?_) (fun hc => ?_)
    · have h := h.1 hc
      refine lv_iinc (k := 4) (v := x4 + (1 : Int32)) (lv' := [(4, .int (x4 + (1 : Int32))), (0, .ref (ad 18)), (1, .ref (ad 20)), (2, .int x2), (3, .int x3), (5, .int x5)]) S.1 S.2.1 d_Re_liftFromParts_62 hl rfl rfl (by decide) rfl (fun ls hl => ?_)
      refine lv_goto (tgt := 5) S.1 S.2.1 d_Re_liftFromParts_65 (by decide) ?_
      exact hk5 _ _ _ _ _ _ h (lv_sub hl [1, 2, 3, 4, 0] rfl) I
    · have h := h.2 hc
      refine lv_aload_n S.1 S.2.1 d_Re_liftFromParts_20 rfl (lv_at hl 1 rfl) ?_
      refine lv_iload S.1 S.2.1 d_Re_liftFromParts_21 (lv_at hl 4 rfl) ?_
      refine lv_iload S.1 S.2.1 d_Re_liftFromParts_23 (lv_at hl 5 rfl) ?_
      refine callS_roi S (c_Re_isIn_joined l D ad cA _ _ _ _ _ _ _ _ _ _ h) (mkS S.2.2.2.2 ml_Re_55 k_Re_isIn rfl rfl ⟨Nat.le_of_ble_eq_true rfl, Nat.le_of_ble_eq_true rfl⟩) hK I.1 hl.1 rfl rfl (Nat.le_of_ble_eq_true rfl) d_Re_liftFromParts_25 ⟨Nat.zero_le _, Nat.zero_le _⟩ (fun r25 h => ?_)
      refine lv_if_ne (tgt := 56) S.1 S.2.1 d_Re_liftFromParts_28 (by decide) (fun hc => ?_) (fun hc => ?_)
      · have h := h.1 hc
        refine lv_iinc (k := 5) (v := x5 + (1 : Int32)) (lv' := [(5, .int (x5 + (1 : Int32))), (0, .ref (ad 18)), (1, .ref (ad 20)), (2, .int x2), (3, .int x3), (4, .int x4)]) S.1 S.2.1 d_Re_liftFromParts_56 hl rfl rfl (by decide) rfl (fun ls hl => ?_)
        refine lv_goto (tgt := 14) S.1 S.2.1 d_Re_liftFromParts_59 (by decide) ?_
        exact ih _ _ _ _ _ _ _ h (lv_sub hl [1, 2, 3, 4, 5, 0] rfl) I
      · have h := h.2 hc
        refine lv_aload_n S.1 S.2.1 d_Re_liftFromParts_31 rfl (lv_at hl 0 rfl) ?_
        refine lv_aload_n S.1 S.2.1 d_Re_liftFromParts_32 rfl (lv_at hl 1 rfl) ?_
        refine lv_iload S.1 S.2.1 d_Re_liftFromParts_33 (lv_at hl 4 rfl) ?_
        refine lv_iload S.1 S.2.1 d_Re_liftFromParts_35 (lv_at hl 5 rfl) ?_
        refine callV_roi S (c_Re_partsRelated_joined l D ad cA _ _ _ _ _ _ _ _ _ _ h) (mkV S.2.2.2.2 ml_Re_88 k_Re_partsRelated rfl rfl ⟨Nat.le_of_ble_eq_true rfl, Nat.le_of_ble_eq_true rfl⟩) (rv_Re hK I.1) hK I.1 hl.1 rfl rfl (Nat.le_of_ble_eq_true rfl) d_Re_liftFromParts_37 ⟨Nat.zero_le _, Nat.zero_le _⟩ (fun r37 h => ?_)
        refine lv_if_eq (tgt := 56) S.1 S.2.1 d_Re_liftFromParts_40 (by decide) (fun hc => ?_) (fun hc => ?_)
        · have h := h.1 hc
          refine lv_iinc (k := 5) (v := x5 + (1 : Int32)) (lv' := [(5, .int (x5 + (1 : Int32))), (0, .ref (ad 18)), (1, .ref (ad 20)), (2, .int x2), (3, .int x3), (4, .int x4)]) S.1 S.2.1 d_Re_liftFromParts_56 hl rfl rfl (by decide) rfl (fun ls hl => ?_)
          refine lv_goto (tgt := 14) S.1 S.2.1 d_Re_liftFromParts_59 (by decide) ?_
          exact ih _ _ _ _ _ _ _ h (lv_sub hl [1, 2, 3, 4, 5, 0] rfl) I
        · have h := h.2 hc
          refine lv_aload_n S.1 S.2.1 d_Re_liftFromParts_43 rfl (lv_at hl 1 rfl) ?_
          refine lv_iload S.1 S.2.1 d_Re_liftFromParts_44 (lv_at hl 4 rfl) ?_
          refine lv_dup2_11 S.1 S.2.1 d_Re_liftFromParts_46 rfl rfl ?_
          obtain ⟨hin, h⟩ := h
          refine a_Re_joined S hK I.1 hin d_Re_liftFromParts_47 ?_
          refine lv_lconst (v := (1 : Int64)) S.1 S.2.1 d_Re_liftFromParts_48 rfl ?_
          refine lv_iload S.1 S.2.1 d_Re_liftFromParts_49 (lv_at hl 5 rfl) ?_
          refine lv_lshl S.1 S.2.1 d_Re_liftFromParts_51 rfl ?_
          refine lv_lor S.1 S.2.1 d_Re_liftFromParts_52 ?_
          obtain ⟨hin, h⟩ := h
          refine s_Re_joined S hK I hin d_Re_liftFromParts_53 (fun H locs re53 ere53 I => ?_)
          have h := h re53 ere53
          refine lv_iconst (v := (1 : Int32)) S.1 S.2.1 d_Re_liftFromParts_54 rfl ?_
          refine lv_istore_n (lv' := [(3, .int (1 : Int32)), (0, .ref (ad 18)), (1, .ref (ad 20)), (2, .int x2), (4, .int x4), (5, .int x5)]) S.1 S.2.1 d_Re_liftFromParts_55 rfl hl (by decide) rfl (fun ls hl => ?_)
          refine lv_iinc (k := 5) (v := x5 + (1 : Int32)) (lv' := [(5, .int (x5 + (1 : Int32))), (3, .int (1 : Int32)), (0, .ref (ad 18)), (1, .ref (ad 20)), (2, .int x2), (4, .int x4)]) S.1 S.2.1 d_Re_liftFromParts_56 hl rfl rfl (by decide) rfl (fun ls hl => ?_)
          refine lv_goto (tgt := 14) S.1 S.2.1 d_Re_liftFromParts_59 (by decide) ?_
          exact ih _ _ _ _ _ _ _ h (lv_sub hl [2, 3, 4, 1, 5, 0] rfl) I
set_option maxHeartbeats 4000000 in
set_option maxRecDepth 100000 in
theorem n_Re_liftFromParts_joined_5 {p : Program} {l : Launch} {e : Env} {s : State} {m : MethodId} {args : Array Value} {below : List Frame} {meth : Method} {c : Code} {D : va_G} {A : Nat → Prop} {ad : Nat → Nat} {cA : ClassId × ClassId × ClassId} {te : Te} {ru : Ru} {au : Au} {la : La} {sp : Sp} {le : Le} {x2 : Int32} {Q : Int32 → Re → Prop} (S : CallFix p m c b_Re_liftFromParts 6 s args gtbl R_Re) (hr : meth.sig.returnType = (some .boolean)) (hlk : meth.locks = false) (hK : gK D (tyA cA) s) (hA : ∀ q : Nat, s.heap.size ≤ q → A q) : ∀ n : Nat, ∀ (ls : Array Slot) (H : Heap) (locs : List Loc) (x3 : Int32) (x4 : Int32) (re : Re), p_Re_liftFromParts_joined_5 x2 te Q n x3 x4 re → lv_has ls 6 [(0, .ref (ad 18)), (1, .ref (ad 20)), (2, .int x2), (3, .int x3), (4, .int x4)] → gIn D A s (wC ad cA) (te, ru, au, re, la, sp, le) H locs → W p l e rm_Re_liftFromParts_joined s m args below meth c H locs 0 0 (qI D (tyA cA) A (wC ad cA) (fun u : Re => (te, ru, au, u, la, sp, le)) (fun (r : Int32) (u : Re) => Q r u) below args s) (F0 m 5 ls []) := by
  intro n
  induction n with
  | zero =>
    intro ls H locs x3 x4 re h
    exact (show False from h).elim
  | succ n ih =>
    intro ls H locs x3 x4 re h hl I
    refine lv_iload S.1 S.2.1 d_Re_liftFromParts_5 (lv_at hl 4 rfl) ?_
    refine lv_iload_n S.1 S.2.1 d_Re_liftFromParts_7 rfl (lv_at hl 2 rfl) ?_
    refine lv_icmp_ge (tgt := 68) S.1 S.2.1 d_Re_liftFromParts_8 (by decide) (fun hc => ?_) (fun hc => ?_)
    · have h := h.1 hc
      refine lv_iload_n S.1 S.2.1 d_Re_liftFromParts_68 rfl (lv_at hl 3 rfl) ?_
      obtain ⟨hz, h⟩ := h
      exact ret_rwz S hr hlk hK (isB_n hz) I h d_Re_liftFromParts_69
    · have h := h.2 hc
      refine lv_iconst (v := (0 : Int32)) S.1 S.2.1 d_Re_liftFromParts_11 rfl ?_
      refine lv_istore (lv' := [(5, .int (0 : Int32)), (0, .ref (ad 18)), (1, .ref (ad 20)), (2, .int x2), (3, .int x3), (4, .int x4)]) S.1 S.2.1 d_Re_liftFromParts_12 hl (by decide) rfl (fun ls hl => ?_)
      obtain ⟨n', h⟩ := h
      exact n_Re_liftFromParts_joined_14 S hr hlk hK hA ih n' _ _ _ _ _ _ _ h (lv_sub hl [1, 2, 3, 4, 5, 0] rfl) I
set_option maxHeartbeats 4000000 in
set_option maxRecDepth 100000 in
theorem c_Re_liftFromParts_joined (l : Launch) (D : va_G) (ad : Nat → Nat) (cA : ClassId × ClassId × ClassId) (te : Te) (ru : Ru) (au : Au) (re : Re) (la : La) (sp : Sp) (le : Le) (x2 : Int32) (Q : Int32 → Re → Prop) (h : p_Re_liftFromParts_joined x2 te re Q) : rwI l y_Re_liftFromParts (wsOf y_Re_liftFromParts b_Re_liftFromParts 6 (some .boolean)) rm_Re_liftFromParts_joined D (tyA cA) (wC ad cA) [.ref (ad 18), .ref (ad 20), .int x2] (te, ru, au, re, la, sp, le) (fun u : Re => (te, ru, au, u, la, sp, le)) (fun (r : Int32) (u : Re) => Q r u) := by
  refine rwI_of (by decide) (Nat.le_of_ble_eq_true rfl) ?_
  intro p e s m below meth c S hr hlk hK A hA I ls hl
  have hl : lv_has ls 6 [(0, .ref (ad 18)), (1, .ref (ad 20)), (2, .int x2)] := hl
  refine lv_iconst (v := (0 : Int32)) S.1 S.2.1 d_Re_liftFromParts_0 rfl ?_
  refine lv_istore_n (lv' := [(3, .int (0 : Int32)), (0, .ref (ad 18)), (1, .ref (ad 20)), (2, .int x2)]) S.1 S.2.1 d_Re_liftFromParts_1 rfl hl (by decide) rfl (fun ls hl => ?_)
  refine lv_iconst (v := (0 : Int32)) S.1 S.2.1 d_Re_liftFromParts_2 rfl ?_
  refine lv_istore (lv' := [(4, .int (0 : Int32)), (3, .int (0 : Int32)), (0, .ref (ad 18)), (1, .ref (ad 20)), (2, .int x2)]) S.1 S.2.1 d_Re_liftFromParts_3 hl (by decide) rfl (fun ls hl => ?_)
  obtain ⟨n', h⟩ := h
  exact n_Re_liftFromParts_joined_5 S hr hlk hK hA n' _ _ _ _ _ _ h (lv_sub hl [2, 3, 4, 1, 0] rfl) I

set_option maxHeartbeats 4000000 in
set_option maxRecDepth 100000 in
theorem n_Re_findJoined_34 {p : Program} {l : Launch} {e : Env} {s : State} {m : MethodId} {args : Array Value} {below : List Frame} {meth : Method} {c : Code} {D : va_G} {A : Nat → Prop} {ad : Nat → Nat} {cA : ClassId × ClassId × ClassId} {te : Te} {ru : Ru} {au : Au} {la : La} {sp : Sp} {le : Le} {Q : Re → Prop} (S : CallFix p m c b_Re_findJoined 4 s args gtbl R_Re) (hr : meth.sig.returnType = none) (hlk : meth.locks = false) (hK : gK D (tyA cA) s) (hA : ∀ q : Nat, s.heap.size ≤ q → A q) : ∀ n : Nat, ∀ (ls : Array Slot) (H : Heap) (locs : List Loc) (x1 : Int32) (x2 : Int32) (x3 : Int32) (re : Re), p_Re_findJoined_34 te Q n x1 x2 x3 re → lv_has ls 4 [(0, .ref (ad 18)), (1, .int x1), (2, .int x2), (3, .int x3)] → gIn D A s (wC ad cA) (te, ru, au, re, la, sp, le) H locs → W p l e rm_Re_findJoined s m args below meth c H locs 0 0 (qV D (tyA cA) A (wC ad cA) (fun u : Re => (te, ru, au, u, la, sp, le)) (fun u : Re => Q u) below args s) (F0 m 34 ls []) := by
  intro n
  induction n with
  | zero =>
    intro ls H locs x1 x2 x3 re h
    exact (show False from h).elim
  | succ n ih =>
    intro ls H locs x1 x2 x3 re h hl I
    refine lv_iload_n S.1 S.2.1 d_Re_findJoined_34 rfl (lv_at hl 3 rfl) ?_
    refine lv_sipush (v := (2305 : Int32)) S.1 S.2.1 d_Re_findJoined_35 rfl ?_
    refine lv_icmp_ge (tgt := 71) S.1 S.2.1 d_Re_findJoined_38 (by decide) (fun hc => ?_) (fun hc => ?_)
    · have h := h.1 hc
      exact ret_rwv S hr hlk hK I h d_Re_findJoined_71
    · have h := h.2 hc
      refine lv_iload_n S.1 S.2.1 d_Re_findJoined_41 rfl (lv_at hl 2 rfl) ?_
      refine lv_if_eq (tgt := 71) S.1 S.2.1 d_Re_findJoined_42 (by decide) (fun hc => ?_) (fun hc => ?_)
      · have h := h.1 hc
        exact ret_rwv S hr hlk hK I h d_Re_findJoined_71
      · have h := h.2 hc
        refine lv_aload_n S.1 S.2.1 d_Re_findJoined_45 rfl (lv_at hl 0 rfl) ?_
        refine lv_iload_n S.1 S.2.1 d_Re_findJoined_46 rfl (lv_at hl 1 rfl) ?_
        refine callV_rwi S (c_Re_inheritJoined l D ad cA _ _ _ _ _ _ _ _ _ h) (mkV S.2.2.2.2 ml_Re_85 k_Re_inheritJoined rfl rfl ⟨Nat.le_of_ble_eq_true rfl, Nat.le_of_ble_eq_true rfl⟩) (rv_Re hK I.1) hK hA I hl.1 rfl rfl (Nat.le_of_ble_eq_true rfl) d_Re_findJoined_47 ⟨Nat.zero_le _, Nat.zero_le _⟩ (fun r47 re47 H locs h I => ?_)
        refine lv_istore_n (lv' := [(2, .int r47), (0, .ref (ad 18)), (1, .int x1), (3, .int x3)]) S.1 S.2.1 d_Re_findJoined_50 rfl hl (by decide) rfl (fun ls hl => ?_)
        refine lv_aload_n S.1 S.2.1 d_Re_findJoined_51 rfl (lv_at hl 1 rfl) ?_
        refine lv_aload_n S.1 S.2.1 d_Re_findJoined_52 rfl (lv_at hl 1 rfl) ?_
        refine g_Re_joined S hK I.1 d_Re_findJoined_53 ?_
        refine lv_iload_n S.1 S.2.1 d_Re_findJoined_56 rfl (lv_at hl 2 rfl) ?_
        refine callV_rwi S (c_Re_liftFromParts_joined l D ad cA _ _ _ _ _ _ _ _ _ h) (mkV S.2.2.2.2 ml_Re_81 k_Re_liftFromParts rfl rfl ⟨Nat.le_of_ble_eq_true rfl, Nat.le_of_ble_eq_true rfl⟩) (rv_Re hK I.1) hK hA I hl.1 rfl rfl (Nat.le_of_ble_eq_true rfl) d_Re_findJoined_57 ⟨Nat.zero_le _, Nat.zero_le _⟩ (fun r57 re57 H locs h I => ?_)
        refine lv_if_eq (tgt := 65) S.1 S.2.1 d_Re_findJoined_60 (by decide) (fun hc => ?_) (fun hc => ?_)
        · have h := h.1 hc
          refine lv_iinc (k := 3) (v := x3 + (1 : Int32)) (lv' := [(3, .int (x3 + (1 : Int32))), (2, .int r47), (0, .ref (ad 18)), (1, .int x1)]) S.1 S.2.1 d_Re_findJoined_65 hl rfl rfl (by decide) rfl (fun ls hl => ?_)
          refine lv_goto (tgt := 34) S.1 S.2.1 d_Re_findJoined_68 (by decide) ?_
          exact ih _ _ _ _ _ _ _ h (lv_sub hl [2, 3, 1, 0] rfl) I
        · have h := h.2 hc
          refine lv_iconst (v := (1 : Int32)) S.1 S.2.1 d_Re_findJoined_63 rfl ?_
          refine lv_istore_n (lv' := [(2, .int (1 : Int32)), (0, .ref (ad 18)), (1, .int x1), (3, .int x3)]) S.1 S.2.1 d_Re_findJoined_64 rfl hl (by decide) rfl (fun ls hl => ?_)
          refine lv_iinc (k := 3) (v := x3 + (1 : Int32)) (lv' := [(3, .int (x3 + (1 : Int32))), (2, .int (1 : Int32)), (0, .ref (ad 18)), (1, .int x1)]) S.1 S.2.1 d_Re_findJoined_65 hl rfl rfl (by decide) rfl (fun ls hl => ?_)
          refine lv_goto (tgt := 34) S.1 S.2.1 d_Re_findJoined_68 (by decide) ?_
          exact ih _ _ _ _ _ _ _ h (lv_sub hl [2, 3, 1, 0] rfl) I
set_option maxHeartbeats 4000000 in
set_option maxRecDepth 100000 in
theorem n_Re_findJoined_10 {p : Program} {l : Launch} {e : Env} {s : State} {m : MethodId} {args : Array Value} {below : List Frame} {meth : Method} {c : Code} {D : va_G} {A : Nat → Prop} {ad : Nat → Nat} {cA : ClassId × ClassId × ClassId} {te : Te} {ru : Ru} {au : Au} {la : La} {sp : Sp} {le : Le} {Q : Re → Prop} (S : CallFix p m c b_Re_findJoined 4 s args gtbl R_Re) (hr : meth.sig.returnType = none) (hlk : meth.locks = false) (hK : gK D (tyA cA) s) (hA : ∀ q : Nat, s.heap.size ≤ q → A q) : ∀ n : Nat, ∀ (ls : Array Slot) (H : Heap) (locs : List Loc) (x1 : Int32) (x2 : Int32) (re : Re), p_Re_findJoined_10 te Q n x1 x2 re → lv_has ls 4 [(0, .ref (ad 18)), (1, .int x1), (2, .int x2)] → gIn D A s (wC ad cA) (te, ru, au, re, la, sp, le) H locs → W p l e rm_Re_findJoined s m args below meth c H locs 0 0 (qV D (tyA cA) A (wC ad cA) (fun u : Re => (te, ru, au, u, la, sp, le)) (fun u : Re => Q u) below args s) (F0 m 10 ls []) := by
  intro n
  induction n with
  | zero =>
    intro ls H locs x1 x2 re h
    exact (show False from h).elim
  | succ n ih =>
    intro ls H locs x1 x2 re h hl I
    refine lv_iload_n S.1 S.2.1 d_Re_findJoined_10 rfl (lv_at hl 2 rfl) ?_
    refine lv_iload_n S.1 S.2.1 d_Re_findJoined_11 rfl (lv_at hl 1 rfl) ?_
    refine lv_icmp_ge (tgt := 30) S.1 S.2.1 d_Re_findJoined_12 (by decide) (fun hc => ?_) (fun hc => ?_)
    · have h := h.1 hc
      refine lv_iconst (v := (1 : Int32)) S.1 S.2.1 d_Re_findJoined_30 rfl ?_
      refine lv_istore_n (lv' := [(2, .int (1 : Int32)), (0, .ref (ad 18)), (1, .int x1)]) S.1 S.2.1 d_Re_findJoined_31 rfl hl (by decide) rfl (fun ls hl => ?_)
      refine lv_iconst (v := (0 : Int32)) S.1 S.2.1 d_Re_findJoined_32 rfl ?_
      refine lv_istore_n (lv' := [(3, .int (0 : Int32)), (2, .int (1 : Int32)), (0, .ref (ad 18)), (1, .int x1)]) S.1 S.2.1 d_Re_findJoined_33 rfl hl (by decide) rfl (fun ls hl => ?_)
      obtain ⟨n', h⟩ := h
      exact n_Re_findJoined_34 S hr hlk hK hA n' _ _ _ _ _ _ _ h (lv_sub hl [2, 3, 1, 0] rfl) I
    · have h := h.2 hc
      refine lv_aload_n S.1 S.2.1 d_Re_findJoined_15 rfl (lv_at hl 0 rfl) ?_
      refine g_Re_joined S hK I.1 d_Re_findJoined_16 ?_
      refine lv_iload_n S.1 S.2.1 d_Re_findJoined_19 rfl (lv_at hl 2 rfl) ?_
      refine lv_lconst (v := (1 : Int64)) S.1 S.2.1 d_Re_findJoined_20 rfl ?_
      refine lv_iload_n S.1 S.2.1 d_Re_findJoined_21 rfl (lv_at hl 2 rfl) ?_
      refine lv_lshl S.1 S.2.1 d_Re_findJoined_22 rfl ?_
      obtain ⟨hin, h⟩ := h
      refine s_Re_joined S hK I hin d_Re_findJoined_23 (fun H locs re23 ere23 I => ?_)
      have h := h re23 ere23
      refine lv_iinc (k := 2) (v := x2 + (1 : Int32)) (lv' := [(2, .int (x2 + (1 : Int32))), (0, .ref (ad 18)), (1, .int x1)]) S.1 S.2.1 d_Re_findJoined_24 hl rfl rfl (by decide) rfl (fun ls hl => ?_)
      refine lv_goto (tgt := 10) S.1 S.2.1 d_Re_findJoined_27 (by decide) ?_
      exact ih _ _ _ _ _ _ h (lv_sub hl [1, 2, 0] rfl) I
set_option maxHeartbeats 4000000 in
set_option maxRecDepth 100000 in
theorem c_Re_findJoined (l : Launch) (D : va_G) (ad : Nat → Nat) (cA : ClassId × ClassId × ClassId) (te : Te) (ru : Ru) (au : Au) (re : Re) (la : La) (sp : Sp) (le : Le)  (Q : Re → Prop) (h : p_Re_findJoined  te re Q) : rwV l y_Re_findJoined (wsOf y_Re_findJoined b_Re_findJoined 4 none) rm_Re_findJoined D (tyA cA) (wC ad cA) [.ref (ad 18)] (te, ru, au, re, la, sp, le) (fun u : Re => (te, ru, au, u, la, sp, le)) (fun u : Re => Q u) := by
  refine rwV_of (by decide) (Nat.le_of_ble_eq_true rfl) ?_
  intro p e s m below meth c S hr hlk hK A hA I ls hl
  have hl : lv_has ls 4 [(0, .ref (ad 18))] := hl
  refine lv_aload_n S.1 S.2.1 d_Re_findJoined_0 rfl (lv_at hl 0 rfl) ?_
  refine g_Re_terms S hK I.1 d_Re_findJoined_1 ?_
  refine callV_roi S (c_Te_count l D ad cA _ _ _ _ _ _ _ _ h) (mkV S.2.2.2.2 ml_Re_37 k_Te_count rfl rfl ⟨Nat.le_of_ble_eq_true rfl, Nat.le_of_ble_eq_true rfl⟩) (rv_Te hK I.1) hK I.1 hl.1 rfl rfl (Nat.le_of_ble_eq_true rfl) d_Re_findJoined_4 ⟨Nat.zero_le _, Nat.zero_le _⟩ (fun r4 h => ?_)
  refine lv_istore_n (lv' := [(1, .int r4), (0, .ref (ad 18))]) S.1 S.2.1 d_Re_findJoined_7 rfl hl (by decide) rfl (fun ls hl => ?_)
  refine lv_iconst (v := (0 : Int32)) S.1 S.2.1 d_Re_findJoined_8 rfl ?_
  refine lv_istore_n (lv' := [(2, .int (0 : Int32)), (1, .int r4), (0, .ref (ad 18))]) S.1 S.2.1 d_Re_findJoined_9 rfl hl (by decide) rfl (fun ls hl => ?_)
  obtain ⟨n', h⟩ := h
  exact n_Re_findJoined_10 S hr hlk hK hA n' _ _ _ _ _ _ h (lv_sub hl [2, 1, 0] rfl) I

set_option maxHeartbeats 4000000 in
set_option maxRecDepth 100000 in
theorem n_Re_joins_16 {p : Program} {l : Launch} {e : Env} {s : State} {m : MethodId} {args : Array Value} {below : List Frame} {meth : Method} {c : Code} {D : va_G} {A : Nat → Prop} {ad : Nat → Nat} {cA : ClassId × ClassId × ClassId} {te : Te} {ru : Ru} {au : Au} {la : La} {sp : Sp} {le : Le} {x1 : Int32} {x2 : Int32} {Q : Int32 → Re → Prop} (S : CallFix p m c b_Re_joins 3 s args gtbl R_Re) (hr : meth.sig.returnType = (some .boolean)) (hlk : meth.locks = false) (hK : gK D (tyA cA) s) (hA : ∀ q : Nat, s.heap.size ≤ q → A q) : ∀ (ls : Array Slot) (H : Heap) (locs : List Loc) (re : Re), p_Re_joins_16 x1 x2 te Q re → lv_has ls 3 [(0, .ref (ad 18)), (1, .int x1), (2, .int x2)] → gIn D A s (wC ad cA) (te, ru, au, re, la, sp, le) H locs → W p l e rm_Re_joins s m args below meth c H locs 0 0 (qI D (tyA cA) A (wC ad cA) (fun u : Re => (te, ru, au, u, la, sp, le)) (fun (r : Int32) (u : Re) => Q r u) below args s) (F0 m 16 ls []) := by
  intro ls H locs re h hl I
  refine lv_aload_n S.1 S.2.1 d_Re_joins_16 rfl (lv_at hl 0 rfl) ?_
  refine g_Re_joined S hK I.1 d_Re_joins_17 ?_
  refine lv_iload_n S.1 S.2.1 d_Re_joins_20 rfl (lv_at hl 1 rfl) ?_
  refine lv_iload_n S.1 S.2.1 d_Re_joins_21 rfl (lv_at hl 2 rfl) ?_
  refine callS_roi S (c_Re_isIn_joined l D ad cA _ _ _ _ _ _ _ _ _ _ h) (mkS S.2.2.2.2 ml_Re_55 k_Re_isIn rfl rfl ⟨Nat.le_of_ble_eq_true rfl, Nat.le_of_ble_eq_true rfl⟩) hK I.1 hl.1 rfl rfl (Nat.le_of_ble_eq_true rfl) d_Re_joins_22 ⟨Nat.zero_le _, Nat.zero_le _⟩ (fun r22 h => ?_)
  obtain ⟨hz, h⟩ := h
  exact ret_rwz S hr hlk hK (isB_n hz) I h d_Re_joins_25
set_option maxHeartbeats 4000000 in
set_option maxRecDepth 100000 in
theorem c_Re_joins (l : Launch) (D : va_G) (ad : Nat → Nat) (cA : ClassId × ClassId × ClassId) (te : Te) (ru : Ru) (au : Au) (re : Re) (la : La) (sp : Sp) (le : Le) (x1 : Int32) (x2 : Int32) (Q : Int32 → Re → Prop) (h : p_Re_joins x1 x2 te re Q) : rwI l y_Re_joins (wsOf y_Re_joins b_Re_joins 3 (some .boolean)) rm_Re_joins D (tyA cA) (wC ad cA) [.ref (ad 18), .int x1, .int x2] (te, ru, au, re, la, sp, le) (fun u : Re => (te, ru, au, u, la, sp, le)) (fun (r : Int32) (u : Re) => Q r u) := by
  refine rwI_of (by decide) (Nat.le_of_ble_eq_true rfl) ?_
  intro p e s m below meth c S hr hlk hK A hA I ls hl
  have hl : lv_has ls 3 [(0, .ref (ad 18)), (1, .int x1), (2, .int x2)] := hl
  refine lv_aload_n S.1 S.2.1 d_Re_joins_0 rfl (lv_at hl 0 rfl) ?_
  refine g_Re_joinedKnown S hK I.1 d_Re_joins_1 ?_
  refine lv_if_ne (tgt := 16) S.1 S.2.1 d_Re_joins_4 (by decide) (fun hc => ?_) (fun hc => ?_)
  · have h := h.1 hc
    exact n_Re_joins_16 S hr hlk hK hA _ _ _ _ h (lv_sub hl [0, 1, 2] rfl) I
  · have h := h.2 hc
    refine lv_aload_n S.1 S.2.1 d_Re_joins_7 rfl (lv_at hl 0 rfl) ?_
    refine callV_rwv S (c_Re_findJoined l D ad cA _ _ _ _ _ _ _ _ h) (mkV S.2.2.2.2 ml_Re_59 k_Re_findJoined rfl rfl ⟨Nat.le_of_ble_eq_true rfl, Nat.le_of_ble_eq_true rfl⟩) (rv_Re hK I.1) hK hA I hl.1 rfl rfl (Nat.le_of_ble_eq_true rfl) d_Re_joins_8 ⟨Nat.zero_le _, Nat.zero_le _⟩ (fun re8 H locs h I => ?_)
    refine lv_aload_n S.1 S.2.1 d_Re_joins_11 rfl (lv_at hl 0 rfl) ?_
    refine lv_iconst (v := (1 : Int32)) S.1 S.2.1 d_Re_joins_12 rfl ?_
    refine q_Re_joinedKnown S hK I (by decide) (by decide) d_Re_joins_13 (fun H locs re13 ere13 I => ?_)
    have h := h re13 ere13
    exact n_Re_joins_16 S hr hlk hK hA _ _ _ _ h (lv_sub hl [0, 1, 2] rfl) I

set_option maxHeartbeats 4000000 in
set_option maxRecDepth 100000 in
theorem n_Re_sizeWithLeastParts_60 {p : Program} {l : Launch} {e : Env} {s : State} {m : MethodId} {args : Array Value} {below : List Frame} {meth : Method} {c : Code} {D : va_G} {ad : Nat → Nat} {cA : ClassId × ClassId × ClassId} {te : Te} {ru : Ru} {au : Au} {re : Re} {la : La} {sp : Sp} {le : Le} {x1 : Int32} {Q : Int32 → Prop} (S : CallFix p m c b_Re_sizeWithLeastParts 4 s args gtbl R_Re) (hr : meth.sig.returnType = (some .int)) (hlk : meth.locks = false) (hK : gK D (tyA cA) s) (hP : va_P D classes (wC ad cA (te, ru, au, re, la, sp, le)) s.heap) : ∀ (ls : Array Slot) (y0 : Int32) (y1 : Int32), p_Re_sizeWithLeastParts_60 x1 te re Q y0 y1 → lv_has ls 4 [] → W p l e rm_Re_sizeWithLeastParts s m args below meth c s.heap [] 0 0 (qRI Q below args s) (F0 m 60 ls [.int y0, .int y1]) := by
  intro ls y0 y1 h hl
  refine lv_iadd S.1 S.2.1 d_Re_sizeWithLeastParts_60 ?_
  refine lv_istore_n (lv' := [(3, .int (y1 + y0))]) S.1 S.2.1 d_Re_sizeWithLeastParts_61 rfl hl (by decide) rfl (fun ls hl => ?_)
  refine lv_ldc (v := (1000000000 : Int32)) S.1 S.2.1 S.2.2.2.1 (S.2.2.2.2 _ kn_Re_106) d_Re_sizeWithLeastParts_62 ?_
  refine lv_iconst (v := (1 : Int32)) S.1 S.2.1 d_Re_sizeWithLeastParts_64 rfl ?_
  refine lv_iload_n S.1 S.2.1 d_Re_sizeWithLeastParts_65 rfl (lv_at hl 0 rfl) ?_
  refine lv_iadd S.1 S.2.1 d_Re_sizeWithLeastParts_66 ?_
  refine va_mmin S.1 S.2.1 (S.2.2.1.trans hl.1.symm) S.2.2.2.1 (S.2.2.2.2 _ ml_Re_107) (S.2.2.2.2 _ st_min) (S.2.2.2.2 _ in_Ma) (S.2.2.2.2 _ co_min) (Nat.le_of_ble_eq_true rfl) (Nat.le_of_ble_eq_true rfl) (Nat.le_refl _) (Nat.le_refl _) d_Re_sizeWithLeastParts_67 ?_
  exact ret_roi S hr hlk h d_Re_sizeWithLeastParts_70
set_option maxHeartbeats 4000000 in
set_option maxRecDepth 100000 in
theorem n_Re_sizeWithLeastParts_38 {p : Program} {l : Launch} {e : Env} {s : State} {m : MethodId} {args : Array Value} {below : List Frame} {meth : Method} {c : Code} {D : va_G} {ad : Nat → Nat} {cA : ClassId × ClassId × ClassId} {te : Te} {ru : Ru} {au : Au} {re : Re} {la : La} {sp : Sp} {le : Le} {x1 : Int32} {Q : Int32 → Prop} (S : CallFix p m c b_Re_sizeWithLeastParts 4 s args gtbl R_Re) (hr : meth.sig.returnType = (some .int)) (hlk : meth.locks = false) (hK : gK D (tyA cA) s) (hP : va_P D classes (wC ad cA (te, ru, au, re, la, sp, le)) s.heap) : ∀ (ls : Array Slot) (x2 : Int32) (y0 : Int32), p_Re_sizeWithLeastParts_38 x1 te re Q x2 y0 → lv_has ls 4 [(0, .ref (ad 18)), (1, .int x1), (2, .int x2)] → W p l e rm_Re_sizeWithLeastParts s m args below meth c s.heap [] 0 0 (qRI Q below args s) (F0 m 38 ls [.int y0]) := by
  intro ls x2 y0 h hl
  refine lv_iload_n S.1 S.2.1 d_Re_sizeWithLeastParts_38 rfl (lv_at hl 2 rfl) ?_
  refine lv_iconst (v := (2 : Int32)) S.1 S.2.1 d_Re_sizeWithLeastParts_39 rfl ?_
  refine lv_icmp_ge (tgt := 47) S.1 S.2.1 d_Re_sizeWithLeastParts_40 (by decide) (fun hc => ?_) (fun hc => ?_)
  · have h := h.1 hc
    refine lv_aload_n S.1 S.2.1 d_Re_sizeWithLeastParts_47 rfl (lv_at hl 0 rfl) ?_
    refine g_Re_least S hK hP d_Re_sizeWithLeastParts_48 ?_
    refine lv_aload_n S.1 S.2.1 d_Re_sizeWithLeastParts_51 rfl (lv_at hl 0 rfl) ?_
    refine g_Re_terms S hK hP d_Re_sizeWithLeastParts_52 ?_
    refine lv_iload_n S.1 S.2.1 d_Re_sizeWithLeastParts_55 rfl (lv_at hl 1 rfl) ?_
    refine callV_roi S (c_Te_secondOf l D ad cA _ _ _ _ _ _ _ _ _ h) (mkV S.2.2.2.2 ml_Re_100 k_Te_secondOf rfl rfl ⟨Nat.le_of_ble_eq_true rfl, Nat.le_of_ble_eq_true rfl⟩) (rv_Te hK hP) hK hP hl.1 rfl rfl (Nat.le_of_ble_eq_true rfl) d_Re_sizeWithLeastParts_56 ⟨Nat.zero_le _, Nat.zero_le _⟩ (fun r56 h => ?_)
    obtain ⟨hin, h⟩ := h
    refine a_Re_least S hK hP hin d_Re_sizeWithLeastParts_59 ?_
    exact n_Re_sizeWithLeastParts_60 S hr hlk hK hP _ _ _ h (lv_sub hl [] rfl)
  · have h := h.2 hc
    refine lv_iconst (v := (0 : Int32)) S.1 S.2.1 d_Re_sizeWithLeastParts_43 rfl ?_
    refine lv_goto (tgt := 60) S.1 S.2.1 d_Re_sizeWithLeastParts_44 (by decide) ?_
    exact n_Re_sizeWithLeastParts_60 S hr hlk hK hP _ _ _ h (lv_sub hl [] rfl)
set_option maxHeartbeats 4000000 in
set_option maxRecDepth 100000 in
theorem c_Re_sizeWithLeastParts (l : Launch) (D : va_G) (ad : Nat → Nat) (cA : ClassId × ClassId × ClassId) (te : Te) (ru : Ru) (au : Au) (re : Re) (la : La) (sp : Sp) (le : Le) (x1 : Int32) (Q : Int32 → Prop) (h : p_Re_sizeWithLeastParts x1 te re Q) : roI l y_Re_sizeWithLeastParts (wsOf y_Re_sizeWithLeastParts b_Re_sizeWithLeastParts 4 (some .int)) rm_Re_sizeWithLeastParts D (tyA cA) (wC ad cA) [.ref (ad 18), .int x1] (te, ru, au, re, la, sp, le) Q := by
  refine roI_of (by decide) (Nat.le_of_ble_eq_true rfl) ?_
  intro p e s m below meth c S hr hlk hK hP ls hl
  have hl : lv_has ls 4 [(0, .ref (ad 18)), (1, .int x1)] := hl
  refine lv_aload_n S.1 S.2.1 d_Re_sizeWithLeastParts_0 rfl (lv_at hl 0 rfl) ?_
  refine g_Re_terms S hK hP d_Re_sizeWithLeastParts_1 ?_
  refine lv_aload_n S.1 S.2.1 d_Re_sizeWithLeastParts_4 rfl (lv_at hl 0 rfl) ?_
  refine g_Re_terms S hK hP d_Re_sizeWithLeastParts_5 ?_
  refine lv_iload_n S.1 S.2.1 d_Re_sizeWithLeastParts_8 rfl (lv_at hl 1 rfl) ?_
  refine callV_roi S (c_Te_symbolOf l D ad cA _ _ _ _ _ _ _ _ _ h) (mkV S.2.2.2.2 ml_Re_91 k_Te_symbolOf rfl rfl ⟨Nat.le_of_ble_eq_true rfl, Nat.le_of_ble_eq_true rfl⟩) (rv_Te hK hP) hK hP hl.1 rfl rfl (Nat.le_of_ble_eq_true rfl) d_Re_sizeWithLeastParts_9 ⟨Nat.zero_le _, Nat.zero_le _⟩ (fun r9 h => ?_)
  refine callV_roi S (c_Te_placesOf l D ad cA _ _ _ _ _ _ _ _ _ h) (mkV S.2.2.2.2 ml_Re_94 k_Te_placesOf rfl rfl ⟨Nat.le_of_ble_eq_true rfl, Nat.le_of_ble_eq_true rfl⟩) (rv_Te hK hP) hK hP hl.1 rfl rfl (Nat.le_of_ble_eq_true rfl) d_Re_sizeWithLeastParts_12 ⟨Nat.zero_le _, Nat.zero_le _⟩ (fun r12 h => ?_)
  refine lv_istore_n (lv' := [(2, .int r12), (0, .ref (ad 18)), (1, .int x1)]) S.1 S.2.1 d_Re_sizeWithLeastParts_15 rfl hl (by decide) rfl (fun ls hl => ?_)
  refine lv_iload_n S.1 S.2.1 d_Re_sizeWithLeastParts_16 rfl (lv_at hl 0 rfl) ?_
  refine lv_iconst (v := (1 : Int32)) S.1 S.2.1 d_Re_sizeWithLeastParts_17 rfl ?_
  refine lv_icmp_ge (tgt := 25) S.1 S.2.1 d_Re_sizeWithLeastParts_18 (by decide) (fun hc => ?_) (fun hc => ?_)
  · have h := h.1 hc
    refine lv_aload_n S.1 S.2.1 d_Re_sizeWithLeastParts_25 rfl (lv_at hl 1 rfl) ?_
    refine g_Re_least S hK hP d_Re_sizeWithLeastParts_26 ?_
    refine lv_aload_n S.1 S.2.1 d_Re_sizeWithLeastParts_29 rfl (lv_at hl 1 rfl) ?_
    refine g_Re_terms S hK hP d_Re_sizeWithLeastParts_30 ?_
    refine lv_iload_n S.1 S.2.1 d_Re_sizeWithLeastParts_33 rfl (lv_at hl 2 rfl) ?_
    refine callV_roi S (c_Te_firstOf l D ad cA _ _ _ _ _ _ _ _ _ h) (mkV S.2.2.2.2 ml_Re_97 k_Te_firstOf rfl rfl ⟨Nat.le_of_ble_eq_true rfl, Nat.le_of_ble_eq_true rfl⟩) (rv_Te hK hP) hK hP hl.1 rfl rfl (Nat.le_of_ble_eq_true rfl) d_Re_sizeWithLeastParts_34 ⟨Nat.zero_le _, Nat.zero_le _⟩ (fun r34 h => ?_)
    obtain ⟨hin, h⟩ := h
    refine a_Re_least S hK hP hin d_Re_sizeWithLeastParts_37 ?_
    exact n_Re_sizeWithLeastParts_38 S hr hlk hK hP _ _ _ h (lv_sub hl [1, 2, 0] rfl)
  · have h := h.2 hc
    refine lv_iconst (v := (0 : Int32)) S.1 S.2.1 d_Re_sizeWithLeastParts_21 rfl ?_
    refine lv_goto (tgt := 38) S.1 S.2.1 d_Re_sizeWithLeastParts_22 (by decide) ?_
    exact n_Re_sizeWithLeastParts_38 S hr hlk hK hP _ _ _ h (lv_sub hl [1, 2, 0] rfl)
end
section
set_option maxHeartbeats 4000000 in
set_option maxRecDepth 100000 in
theorem n_Re_shrink_19 {p : Program} {l : Launch} {e : Env} {s : State} {m : MethodId} {args : Array Value} {below : List Frame} {meth : Method} {c : Code} {D : va_G} {A : Nat → Prop} {ad : Nat → Nat} {cA : ClassId × ClassId × ClassId} {te : Te} {ru : Ru} {au : Au} {la : La} {sp : Sp} {le : Le} {x1 : Int32} {Q : Int32 → Re → Prop} (S : CallFix p m c b_Re_shrink 6 s args gtbl R_Re) (hr : meth.sig.returnType = (some .boolean)) (hlk : meth.locks = false) (hK : gK D (tyA cA) s) (hA : ∀ q : Nat, s.heap.size ≤ q → A q) {k4 : Int32 → Int32 → Re → Prop} (hk4 : ∀ (ls : Array Slot) (H : Heap) (locs : List Loc) (x2 : Int32) (x3 : Int32) (re : Re), k4 x2 x3 re → lv_has ls 6 [(0, .ref (ad 18)), (1, .int x1), (2, .int x2), (3, .int x3)] → gIn D A s (wC ad cA) (te, ru, au, re, la, sp, le) H locs → W p l e rm_Re_shrink s m args below meth c H locs 0 0 (qI D (tyA cA) A (wC ad cA) (fun u : Re => (te, ru, au, u, la, sp, le)) (fun (r : Int32) (u : Re) => Q r u) below args s) (F0 m 4 ls [])) : ∀ n : Nat, ∀ (ls : Array Slot) (H : Heap) (locs : List Loc) (x2 : Int32) (x3 : Int32) (x4 : Int32) (x5 : Int32) (re : Re), p_Re_shrink_19 x1 te Q k4 n x2 x3 x4 x5 re → lv_has ls 6 [(0, .ref (ad 18)), (1, .int x1), (2, .int x2), (3, .int x3), (4, .int x4), (5, .int x5)] → gIn D A s (wC ad cA) (te, ru, au, re, la, sp, le) H locs → W p l e rm_Re_shrink s m args below meth c H locs 0 0 (qI D (tyA cA) A (wC ad cA) (fun u : Re => (te, ru, au, u, la, sp, le)) (fun (r : Int32) (u : Re) => Q r u) below args s) (F0 m 19 ls []) := by
  intro n
  induction n with
  | zero =>
    intro ls H locs x2 x3 x4 x5 re h
    exact (show False from h).elim
  | succ n ih =>
    intro ls H locs x2 x3 x4 x5 re h hl I
    refine lv_iload S.1 S.2.1 d_Re_shrink_19 (lv_at hl 5 rfl) ?_
    refine lv_iload_n S.1 S.2.1 d_Re_shrink_21 rfl (lv_at hl 1 rfl) ?_
    refine lv_icmp_ge (tgt := 67) S.1 S.2.1 d_Re_shrink_22 (by decide) (fun hc => ?_) (fun hc => ?_)
    · have h := h.1 hc
      refine lv_iinc (k := 3) (v := x3 + (1 : Int32)) (lv' := [(3, .int (x3 + (1 : Int32))), (0, .ref (ad 18)), (1, .int x1), (2, .int x2), (4, .int x4), (5, .int x5)]) S.1 S.2.1 d_Re_shrink_67 hl rfl rfl (by decide) rfl (fun ls hl => ?_)
      refine lv_goto (tgt := 4) S.1 S.2.1 d_Re_shrink_70 (by decide) ?_
      exact hk4 _ _ _ _ _ _ h (lv_sub hl [1, 2, 3, 0] rfl) I
    · have h := h.2 hc
      refine lv_aload_n S.1 S.2.1 d_Re_shrink_25 rfl (lv_at hl 0 rfl) ?_
      refine g_Re_reached S hK I.1 d_Re_shrink_26 ?_
      refine lv_iload S.1 S.2.1 d_Re_shrink_29 (lv_at hl 5 rfl) ?_
      refine lv_iload_n S.1 S.2.1 d_Re_shrink_31 rfl (lv_at hl 3 rfl) ?_
      refine callS_roi S (c_Re_isIn_reached l D ad cA _ _ _ _ _ _ _ _ _ _ h) (mkS S.2.2.2.2 ml_Re_55 k_Re_isIn rfl rfl ⟨Nat.le_of_ble_eq_true rfl, Nat.le_of_ble_eq_true rfl⟩) hK I.1 hl.1 rfl rfl (Nat.le_of_ble_eq_true rfl) d_Re_shrink_32 ⟨Nat.zero_le _, Nat.zero_le _⟩ (fun r32 h => ?_)
      refine lv_if_eq (tgt := 61) S.1 S.2.1 d_Re_shrink_35 (by decide) (fun hc => ?_) (fun hc => ?_)
      · have h := h.1 hc
        refine lv_iinc (k := 5) (v := x5 + (1 : Int32)) (lv' := [(5, .int (x5 + (1 : Int32))), (0, .ref (ad 18)), (1, .int x1), (2, .int x2), (3, .int x3), (4, .int x4)]) S.1 S.2.1 d_Re_shrink_61 hl rfl rfl (by decide) rfl (fun ls hl => ?_)
        refine lv_goto (tgt := 19) S.1 S.2.1 d_Re_shrink_64 (by decide) ?_
        exact ih _ _ _ _ _ _ _ _ h (lv_sub hl [1, 2, 3, 4, 5, 0] rfl) I
      · have h := h.2 hc
        refine lv_iload S.1 S.2.1 d_Re_shrink_38 (lv_at hl 4 rfl) ?_
        refine lv_aload_n S.1 S.2.1 d_Re_shrink_40 rfl (lv_at hl 0 rfl) ?_
        refine g_Re_least S hK I.1 d_Re_shrink_41 ?_
        refine lv_iload S.1 S.2.1 d_Re_shrink_44 (lv_at hl 5 rfl) ?_
        obtain ⟨hin, h⟩ := h
        refine a_Re_least S hK I.1 hin d_Re_shrink_46 ?_
        refine lv_icmp_ge (tgt := 61) S.1 S.2.1 d_Re_shrink_47 (by decide) (fun hc => ?_) (fun hc => ?_)
        · have h := h.1 hc
          refine lv_iinc (k := 5) (v := x5 + (1 : Int32)) (lv' := [(5, .int (x5 + (1 : Int32))), (0, .ref (ad 18)), (1, .int x1), (2, .int x2), (3, .int x3), (4, .int x4)]) S.1 S.2.1 d_Re_shrink_61 hl rfl rfl (by decide) rfl (fun ls hl => ?_)
          refine lv_goto (tgt := 19) S.1 S.2.1 d_Re_shrink_64 (by decide) ?_
          exact ih _ _ _ _ _ _ _ _ h (lv_sub hl [1, 2, 3, 4, 5, 0] rfl) I
        · have h := h.2 hc
          refine lv_aload_n S.1 S.2.1 d_Re_shrink_50 rfl (lv_at hl 0 rfl) ?_
          refine g_Re_least S hK I.1 d_Re_shrink_51 ?_
          refine lv_iload S.1 S.2.1 d_Re_shrink_54 (lv_at hl 5 rfl) ?_
          refine lv_iload S.1 S.2.1 d_Re_shrink_56 (lv_at hl 4 rfl) ?_
          obtain ⟨hin, h⟩ := h
          refine s_Re_least S hK I hin d_Re_shrink_58 (fun H locs re58 ere58 I => ?_)
          have h := h re58 ere58
          refine lv_iconst (v := (1 : Int32)) S.1 S.2.1 d_Re_shrink_59 rfl ?_
          refine lv_istore_n (lv' := [(2, .int (1 : Int32)), (0, .ref (ad 18)), (1, .int x1), (3, .int x3), (4, .int x4), (5, .int x5)]) S.1 S.2.1 d_Re_shrink_60 rfl hl (by decide) rfl (fun ls hl => ?_)
          refine lv_iinc (k := 5) (v := x5 + (1 : Int32)) (lv' := [(5, .int (x5 + (1 : Int32))), (2, .int (1 : Int32)), (0, .ref (ad 18)), (1, .int x1), (3, .int x3), (4, .int x4)]) S.1 S.2.1 d_Re_shrink_61 hl rfl rfl (by decide) rfl (fun ls hl => ?_)
          refine lv_goto (tgt := 19) S.1 S.2.1 d_Re_shrink_64 (by decide) ?_
          exact ih _ _ _ _ _ _ _ _ h (lv_sub hl [2, 3, 1, 4, 5, 0] rfl) I
set_option maxHeartbeats 4000000 in
set_option maxRecDepth 100000 in
theorem n_Re_shrink_4 {p : Program} {l : Launch} {e : Env} {s : State} {m : MethodId} {args : Array Value} {below : List Frame} {meth : Method} {c : Code} {D : va_G} {A : Nat → Prop} {ad : Nat → Nat} {cA : ClassId × ClassId × ClassId} {te : Te} {ru : Ru} {au : Au} {la : La} {sp : Sp} {le : Le} {x1 : Int32} {Q : Int32 → Re → Prop} (S : CallFix p m c b_Re_shrink 6 s args gtbl R_Re) (hr : meth.sig.returnType = (some .boolean)) (hlk : meth.locks = false) (hK : gK D (tyA cA) s) (hA : ∀ q : Nat, s.heap.size ≤ q → A q) : ∀ n : Nat, ∀ (ls : Array Slot) (H : Heap) (locs : List Loc) (x2 : Int32) (x3 : Int32) (re : Re), p_Re_shrink_4 x1 te Q n x2 x3 re → lv_has ls 6 [(0, .ref (ad 18)), (1, .int x1), (2, .int x2), (3, .int x3)] → gIn D A s (wC ad cA) (te, ru, au, re, la, sp, le) H locs → W p l e rm_Re_shrink s m args below meth c H locs 0 0 (qI D (tyA cA) A (wC ad cA) (fun u : Re => (te, ru, au, u, la, sp, le)) (fun (r : Int32) (u : Re) => Q r u) below args s) (F0 m 4 ls []) := by
  intro n
  induction n with
  | zero =>
    intro ls H locs x2 x3 re h
    exact (show False from h).elim
  | succ n ih =>
    intro ls H locs x2 x3 re h hl I
    refine lv_iload_n S.1 S.2.1 d_Re_shrink_4 rfl (lv_at hl 3 rfl) ?_
    refine lv_iload_n S.1 S.2.1 d_Re_shrink_5 rfl (lv_at hl 1 rfl) ?_
    refine lv_icmp_ge (tgt := 73) S.1 S.2.1 d_Re_shrink_6 (by decide) (fun hc => ?_) (fun hc => ?_)
    · have h := h.1 hc
      refine lv_iload_n S.1 S.2.1 d_Re_shrink_73 rfl (lv_at hl 2 rfl) ?_
      obtain ⟨hz, h⟩ := h
      exact ret_rwz S hr hlk hK (isB_n hz) I h d_Re_shrink_74
    · have h := h.2 hc
      refine lv_aload_n S.1 S.2.1 d_Re_shrink_9 rfl (lv_at hl 0 rfl) ?_
      refine lv_iload_n S.1 S.2.1 d_Re_shrink_10 rfl (lv_at hl 3 rfl) ?_
      refine callV_roi S (c_Re_sizeWithLeastParts l D ad cA _ _ _ _ _ _ _ _ _ h) (mkV S.2.2.2.2 ml_Re_103 k_Re_sizeWithLeastParts rfl rfl ⟨Nat.le_of_ble_eq_true rfl, Nat.le_of_ble_eq_true rfl⟩) (rv_Re hK I.1) hK I.1 hl.1 rfl rfl (Nat.le_of_ble_eq_true rfl) d_Re_shrink_11 ⟨Nat.zero_le _, Nat.zero_le _⟩ (fun r11 h => ?_)
      refine lv_istore (lv' := [(4, .int r11), (0, .ref (ad 18)), (1, .int x1), (2, .int x2), (3, .int x3)]) S.1 S.2.1 d_Re_shrink_14 hl (by decide) rfl (fun ls hl => ?_)
      refine lv_iconst (v := (0 : Int32)) S.1 S.2.1 d_Re_shrink_16 rfl ?_
      refine lv_istore (lv' := [(5, .int (0 : Int32)), (4, .int r11), (0, .ref (ad 18)), (1, .int x1), (2, .int x2), (3, .int x3)]) S.1 S.2.1 d_Re_shrink_17 hl (by decide) rfl (fun ls hl => ?_)
      obtain ⟨n', h⟩ := h
      exact n_Re_shrink_19 S hr hlk hK hA ih n' _ _ _ _ _ _ _ _ h (lv_sub hl [2, 3, 4, 5, 1, 0] rfl) I
set_option maxHeartbeats 4000000 in
set_option maxRecDepth 100000 in
theorem c_Re_shrink (l : Launch) (D : va_G) (ad : Nat → Nat) (cA : ClassId × ClassId × ClassId) (te : Te) (ru : Ru) (au : Au) (re : Re) (la : La) (sp : Sp) (le : Le) (x1 : Int32) (Q : Int32 → Re → Prop) (h : p_Re_shrink x1 te re Q) : rwI l y_Re_shrink (wsOf y_Re_shrink b_Re_shrink 6 (some .boolean)) rm_Re_shrink D (tyA cA) (wC ad cA) [.ref (ad 18), .int x1] (te, ru, au, re, la, sp, le) (fun u : Re => (te, ru, au, u, la, sp, le)) (fun (r : Int32) (u : Re) => Q r u) := by
  refine rwI_of (by decide) (Nat.le_of_ble_eq_true rfl) ?_
  intro p e s m below meth c S hr hlk hK A hA I ls hl
  have hl : lv_has ls 6 [(0, .ref (ad 18)), (1, .int x1)] := hl
  refine lv_iconst (v := (0 : Int32)) S.1 S.2.1 d_Re_shrink_0 rfl ?_
  refine lv_istore_n (lv' := [(2, .int (0 : Int32)), (0, .ref (ad 18)), (1, .int x1)]) S.1 S.2.1 d_Re_shrink_1 rfl hl (by decide) rfl (fun ls hl => ?_)
  refine lv_iconst (v := (0 : Int32)) S.1 S.2.1 d_Re_shrink_2 rfl ?_
  refine lv_istore_n (lv' := [(3, .int (0 : Int32)), (2, .int (0 : Int32)), (0, .ref (ad 18)), (1, .int x1)]) S.1 S.2.1 d_Re_shrink_3 rfl hl (by decide) rfl (fun ls hl => ?_)
  obtain ⟨n', h⟩ := h
  exact n_Re_shrink_4 S hr hlk hK hA n' _ _ _ _ _ _ h (lv_sub hl [2, 3, 1, 0] rfl) I

set_option maxHeartbeats 4000000 in
set_option maxRecDepth 100000 in
theorem n_Re_leastSize_63 {p : Program} {l : Launch} {e : Env} {s : State} {m : MethodId} {args : Array Value} {below : List Frame} {meth : Method} {c : Code} {D : va_G} {A : Nat → Prop} {ad : Nat → Nat} {cA : ClassId × ClassId × ClassId} {te : Te} {ru : Ru} {au : Au} {la : La} {sp : Sp} {le : Le} {x1 : Int32} {Q : Int32 → Re → Prop} (S : CallFix p m c b_Re_leastSize 5 s args gtbl R_Re) (hr : meth.sig.returnType = (some .int)) (hlk : meth.locks = false) (hK : gK D (tyA cA) s) (hA : ∀ q : Nat, s.heap.size ≤ q → A q) : ∀ (ls : Array Slot) (H : Heap) (locs : List Loc) (re : Re), p_Re_leastSize_63 x1 te Q re → lv_has ls 5 [(0, .ref (ad 18)), (1, .int x1)] → gIn D A s (wC ad cA) (te, ru, au, re, la, sp, le) H locs → W p l e rm_Re_leastSize s m args below meth c H locs 0 0 (qI D (tyA cA) A (wC ad cA) (fun u : Re => (te, ru, au, u, la, sp, le)) (fun (r : Int32) (u : Re) => Q r u) below args s) (F0 m 63 ls []) := by
  intro ls H locs re h hl I
  refine lv_aload_n S.1 S.2.1 d_Re_leastSize_63 rfl (lv_at hl 0 rfl) ?_
  refine g_Re_least S hK I.1 d_Re_leastSize_64 ?_
  refine lv_iload_n S.1 S.2.1 d_Re_leastSize_67 rfl (lv_at hl 1 rfl) ?_
  obtain ⟨hin, h⟩ := h
  refine a_Re_least S hK I.1 hin d_Re_leastSize_68 ?_
  exact ret_rwi S hr hlk hK I h d_Re_leastSize_69
set_option maxHeartbeats 4000000 in
set_option maxRecDepth 100000 in
theorem n_Re_leastSize_40 {p : Program} {l : Launch} {e : Env} {s : State} {m : MethodId} {args : Array Value} {below : List Frame} {meth : Method} {c : Code} {D : va_G} {A : Nat → Prop} {ad : Nat → Nat} {cA : ClassId × ClassId × ClassId} {te : Te} {ru : Ru} {au : Au} {la : La} {sp : Sp} {le : Le} {x1 : Int32} {Q : Int32 → Re → Prop} (S : CallFix p m c b_Re_leastSize 5 s args gtbl R_Re) (hr : meth.sig.returnType = (some .int)) (hlk : meth.locks = false) (hK : gK D (tyA cA) s) (hA : ∀ q : Nat, s.heap.size ≤ q → A q) : ∀ n : Nat, ∀ (ls : Array Slot) (H : Heap) (locs : List Loc) (x2 : Int32) (x3 : Int32) (x4 : Int32) (re : Re), p_Re_leastSize_40 x1 te Q n x2 x3 x4 re → lv_has ls 5 [(0, .ref (ad 18)), (1, .int x1), (2, .int x2), (3, .int x3), (4, .int x4)] → gIn D A s (wC ad cA) (te, ru, au, re, la, sp, le) H locs → W p l e rm_Re_leastSize s m args below meth c H locs 0 0 (qI D (tyA cA) A (wC ad cA) (fun u : Re => (te, ru, au, u, la, sp, le)) (fun (r : Int32) (u : Re) => Q r u) below args s) (F0 m 40 ls []) := by
  intro n
  induction n with
  | zero =>
    intro ls H locs x2 x3 x4 re h
    exact (show False from h).elim
  | succ n ih =>
    intro ls H locs x2 x3 x4 re h hl I
    refine lv_iload S.1 S.2.1 d_Re_leastSize_40 (lv_at hl 4 rfl) ?_
    refine lv_bipush (v := (48 : Int32)) S.1 S.2.1 d_Re_leastSize_42 rfl ?_
    refine lv_icmp_gt (tgt := 63) S.1 S.2.1 d_Re_leastSize_44 (by decide) (fun hc => ?_) (fun hc => ?_)
    · have h := h.1 hc
      exact n_Re_leastSize_63 S hr hlk hK hA _ _ _ _ h (lv_sub hl [0, 1] rfl) I
    · have h := h.2 hc
      refine lv_iload_n S.1 S.2.1 d_Re_leastSize_47 rfl (lv_at hl 3 rfl) ?_
      refine lv_if_eq (tgt := 63) S.1 S.2.1 d_Re_leastSize_48 (by decide) (fun hc => ?_) (fun hc => ?_)
      · have h := h.1 hc
        exact n_Re_leastSize_63 S hr hlk hK hA _ _ _ _ h (lv_sub hl [0, 1] rfl) I
      · have h := h.2 hc
        refine lv_aload_n S.1 S.2.1 d_Re_leastSize_51 rfl (lv_at hl 0 rfl) ?_
        refine lv_iload_n S.1 S.2.1 d_Re_leastSize_52 rfl (lv_at hl 2 rfl) ?_
        refine callV_rwi S (c_Re_shrink l D ad cA _ _ _ _ _ _ _ _ _ h) (mkV S.2.2.2.2 ml_Re_66 k_Re_shrink rfl rfl ⟨Nat.le_of_ble_eq_true rfl, Nat.le_of_ble_eq_true rfl⟩) (rv_Re hK I.1) hK hA I hl.1 rfl rfl (Nat.le_of_ble_eq_true rfl) d_Re_leastSize_53 ⟨Nat.zero_le _, Nat.zero_le _⟩ (fun r53 re53 H locs h I => ?_)
        refine lv_istore_n (lv' := [(3, .int r53), (0, .ref (ad 18)), (1, .int x1), (2, .int x2), (4, .int x4)]) S.1 S.2.1 d_Re_leastSize_56 rfl hl (by decide) rfl (fun ls hl => ?_)
        refine lv_iinc (k := 4) (v := x4 + (1 : Int32)) (lv' := [(4, .int (x4 + (1 : Int32))), (3, .int r53), (0, .ref (ad 18)), (1, .int x1), (2, .int x2)]) S.1 S.2.1 d_Re_leastSize_57 hl rfl rfl (by decide) rfl (fun ls hl => ?_)
        refine lv_goto (tgt := 40) S.1 S.2.1 d_Re_leastSize_60 (by decide) ?_
        exact ih _ _ _ _ _ _ _ h (lv_sub hl [2, 3, 4, 1, 0] rfl) I
set_option maxHeartbeats 4000000 in
set_option maxRecDepth 100000 in
theorem n_Re_leastSize_10 {p : Program} {l : Launch} {e : Env} {s : State} {m : MethodId} {args : Array Value} {below : List Frame} {meth : Method} {c : Code} {D : va_G} {A : Nat → Prop} {ad : Nat → Nat} {cA : ClassId × ClassId × ClassId} {te : Te} {ru : Ru} {au : Au} {la : La} {sp : Sp} {le : Le} {x1 : Int32} {Q : Int32 → Re → Prop} (S : CallFix p m c b_Re_leastSize 5 s args gtbl R_Re) (hr : meth.sig.returnType = (some .int)) (hlk : meth.locks = false) (hK : gK D (tyA cA) s) (hA : ∀ q : Nat, s.heap.size ≤ q → A q) : ∀ n : Nat, ∀ (ls : Array Slot) (H : Heap) (locs : List Loc) (x2 : Int32) (x3 : Int32) (re : Re), p_Re_leastSize_10 x1 te Q n x2 x3 re → lv_has ls 5 [(0, .ref (ad 18)), (1, .int x1), (2, .int x2), (3, .int x3)] → gIn D A s (wC ad cA) (te, ru, au, re, la, sp, le) H locs → W p l e rm_Re_leastSize s m args below meth c H locs 0 0 (qI D (tyA cA) A (wC ad cA) (fun u : Re => (te, ru, au, u, la, sp, le)) (fun (r : Int32) (u : Re) => Q r u) below args s) (F0 m 10 ls []) := by
  intro n
  induction n with
  | zero =>
    intro ls H locs x2 x3 re h
    exact (show False from h).elim
  | succ n ih =>
    intro ls H locs x2 x3 re h hl I
    refine lv_iload_n S.1 S.2.1 d_Re_leastSize_10 rfl (lv_at hl 3 rfl) ?_
    refine lv_iload_n S.1 S.2.1 d_Re_leastSize_11 rfl (lv_at hl 2 rfl) ?_
    refine lv_icmp_ge (tgt := 35) S.1 S.2.1 d_Re_leastSize_12 (by decide) (fun hc => ?_) (fun hc => ?_)
    · have h := h.1 hc
      refine lv_iconst (v := (1 : Int32)) S.1 S.2.1 d_Re_leastSize_35 rfl ?_
      refine lv_istore_n (lv' := [(3, .int (1 : Int32)), (0, .ref (ad 18)), (1, .int x1), (2, .int x2)]) S.1 S.2.1 d_Re_leastSize_36 rfl hl (by decide) rfl (fun ls hl => ?_)
      refine lv_iconst (v := (0 : Int32)) S.1 S.2.1 d_Re_leastSize_37 rfl ?_
      refine lv_istore (lv' := [(4, .int (0 : Int32)), (3, .int (1 : Int32)), (0, .ref (ad 18)), (1, .int x1), (2, .int x2)]) S.1 S.2.1 d_Re_leastSize_38 hl (by decide) rfl (fun ls hl => ?_)
      obtain ⟨n', h⟩ := h
      exact n_Re_leastSize_40 S hr hlk hK hA n' _ _ _ _ _ _ _ h (lv_sub hl [2, 3, 4, 1, 0] rfl) I
    · have h := h.2 hc
      refine lv_aload_n S.1 S.2.1 d_Re_leastSize_15 rfl (lv_at hl 0 rfl) ?_
      refine g_Re_least S hK I.1 d_Re_leastSize_16 ?_
      refine lv_iload_n S.1 S.2.1 d_Re_leastSize_19 rfl (lv_at hl 3 rfl) ?_
      refine lv_aload_n S.1 S.2.1 d_Re_leastSize_20 rfl (lv_at hl 0 rfl) ?_
      refine g_Re_terms S hK I.1 d_Re_leastSize_21 ?_
      refine lv_iload_n S.1 S.2.1 d_Re_leastSize_24 rfl (lv_at hl 3 rfl) ?_
      refine callV_roi S (c_Te_sizeOf l D ad cA _ _ _ _ _ _ _ _ _ h) (mkV S.2.2.2.2 ml_Re_62 k_Te_sizeOf rfl rfl ⟨Nat.le_of_ble_eq_true rfl, Nat.le_of_ble_eq_true rfl⟩) (rv_Te hK I.1) hK I.1 hl.1 rfl rfl (Nat.le_of_ble_eq_true rfl) d_Re_leastSize_25 ⟨Nat.zero_le _, Nat.zero_le _⟩ (fun r25 h => ?_)
      obtain ⟨hin, h⟩ := h
      refine s_Re_least S hK I hin d_Re_leastSize_28 (fun H locs re28 ere28 I => ?_)
      have h := h re28 ere28
      refine lv_iinc (k := 3) (v := x3 + (1 : Int32)) (lv' := [(3, .int (x3 + (1 : Int32))), (0, .ref (ad 18)), (1, .int x1), (2, .int x2)]) S.1 S.2.1 d_Re_leastSize_29 hl rfl rfl (by decide) rfl (fun ls hl => ?_)
      refine lv_goto (tgt := 10) S.1 S.2.1 d_Re_leastSize_32 (by decide) ?_
      exact ih _ _ _ _ _ _ h (lv_sub hl [1, 2, 3, 0] rfl) I
set_option maxHeartbeats 4000000 in
set_option maxRecDepth 100000 in
theorem c_Re_leastSize (l : Launch) (D : va_G) (ad : Nat → Nat) (cA : ClassId × ClassId × ClassId) (te : Te) (ru : Ru) (au : Au) (re : Re) (la : La) (sp : Sp) (le : Le) (x1 : Int32) (Q : Int32 → Re → Prop) (h : p_Re_leastSize x1 te re Q) : rwI l y_Re_leastSize (wsOf y_Re_leastSize b_Re_leastSize 5 (some .int)) rm_Re_leastSize D (tyA cA) (wC ad cA) [.ref (ad 18), .int x1] (te, ru, au, re, la, sp, le) (fun u : Re => (te, ru, au, u, la, sp, le)) (fun (r : Int32) (u : Re) => Q r u) := by
  refine rwI_of (by decide) (Nat.le_of_ble_eq_true rfl) ?_
  intro p e s m below meth c S hr hlk hK A hA I ls hl
  have hl : lv_has ls 5 [(0, .ref (ad 18)), (1, .int x1)] := hl
  refine lv_aload_n S.1 S.2.1 d_Re_leastSize_0 rfl (lv_at hl 0 rfl) ?_
  refine g_Re_terms S hK I.1 d_Re_leastSize_1 ?_
  refine callV_roi S (c_Te_count l D ad cA _ _ _ _ _ _ _ _ h) (mkV S.2.2.2.2 ml_Re_37 k_Te_count rfl rfl ⟨Nat.le_of_ble_eq_true rfl, Nat.le_of_ble_eq_true rfl⟩) (rv_Te hK I.1) hK I.1 hl.1 rfl rfl (Nat.le_of_ble_eq_true rfl) d_Re_leastSize_4 ⟨Nat.zero_le _, Nat.zero_le _⟩ (fun r4 h => ?_)
  refine lv_istore_n (lv' := [(2, .int r4), (0, .ref (ad 18)), (1, .int x1)]) S.1 S.2.1 d_Re_leastSize_7 rfl hl (by decide) rfl (fun ls hl => ?_)
  refine lv_iconst (v := (0 : Int32)) S.1 S.2.1 d_Re_leastSize_8 rfl ?_
  refine lv_istore_n (lv' := [(3, .int (0 : Int32)), (2, .int r4), (0, .ref (ad 18)), (1, .int x1)]) S.1 S.2.1 d_Re_leastSize_9 rfl hl (by decide) rfl (fun ls hl => ?_)
  obtain ⟨n', h⟩ := h
  exact n_Re_leastSize_10 S hr hlk hK hA n' _ _ _ _ _ _ h (lv_sub hl [2, 3, 1, 0] rfl) I

set_option maxHeartbeats 4000000 in
set_option maxRecDepth 100000 in
theorem n_Ar_fillI_states_5 {p : Program} {l : Launch} {e : Env} {s : State} {m : MethodId} {args : Array Value} {below : List Frame} {meth : Method} {c : Code} {D : va_G} {A : Nat → Prop} {ad : Nat → Nat} {cA : ClassId × ClassId × ClassId} {te : Te} {ru : Ru} {au : Au} {re : Re} {sp : Sp} {le : Le} {x1 : Int32} {Q : La → Prop} (S : CallFix p m c b_Ar_fillI 4 s args gtbl R_Ar) (hr : meth.sig.returnType = none) (hlk : meth.locks = false) (hK : gK D (tyA cA) s) (hA : ∀ q : Nat, s.heap.size ≤ q → A q) : ∀ n : Nat, ∀ (ls : Array Slot) (H : Heap) (locs : List Loc) (x2 : Int32) (x3 : Int32) (la : La), p_Ar_fillI_states_5 x1 Q n x2 x3 la → lv_has ls 4 [(0, .ref (ad 23)), (1, .int x1), (2, .int x2), (3, .int x3)] → gIn D A s (wC ad cA) (te, ru, au, re, la, sp, le) H locs → W p l e rm_Ar_fillI_states s m args below meth c H locs 0 0 (qV D (tyA cA) A (wC ad cA) (fun u : La => (te, ru, au, re, u, sp, le)) (fun u : La => Q u) below args s) (F0 m 5 ls []) := by
  intro n
  induction n with
  | zero =>
    intro ls H locs x2 x3 la h
    exact (show False from h).elim
  | succ n ih =>
    intro ls H locs x2 x3 la h hl I
    refine lv_iload_n S.1 S.2.1 d_Ar_fillI_5 rfl (lv_at hl 2 rfl) ?_
    refine lv_iload_n S.1 S.2.1 d_Ar_fillI_6 rfl (lv_at hl 3 rfl) ?_
    refine lv_icmp_ge (tgt := 20) S.1 S.2.1 d_Ar_fillI_7 (by decide) (fun hc => ?_) (fun hc => ?_)
    · have h := h.1 hc
      exact ret_rwv S hr hlk hK I h d_Ar_fillI_20
    · have h := h.2 hc
      refine lv_aload_n S.1 S.2.1 d_Ar_fillI_10 rfl (lv_at hl 0 rfl) ?_
      refine lv_iload_n S.1 S.2.1 d_Ar_fillI_11 rfl (lv_at hl 2 rfl) ?_
      refine lv_iload_n S.1 S.2.1 d_Ar_fillI_12 rfl (lv_at hl 1 rfl) ?_
      obtain ⟨hin, h⟩ := h
      refine s_La_states S hK I hin d_Ar_fillI_13 (fun H locs la13 ela13 I => ?_)
      have h := h la13 ela13
      refine lv_iinc (k := 2) (v := x2 + (1 : Int32)) (lv' := [(2, .int (x2 + (1 : Int32))), (0, .ref (ad 23)), (1, .int x1), (3, .int x3)]) S.1 S.2.1 d_Ar_fillI_14 hl rfl rfl (by decide) rfl (fun ls hl => ?_)
      refine lv_goto (tgt := 5) S.1 S.2.1 d_Ar_fillI_17 (by decide) ?_
      exact ih _ _ _ _ _ _ h (lv_sub hl [1, 2, 0, 3] rfl) I
set_option maxHeartbeats 4000000 in
set_option maxRecDepth 100000 in
theorem c_Ar_fillI_states (l : Launch) (D : va_G) (ad : Nat → Nat) (cA : ClassId × ClassId × ClassId) (te : Te) (ru : Ru) (au : Au) (re : Re) (la : La) (sp : Sp) (le : Le) (x1 : Int32) (Q : La → Prop) (h : p_Ar_fillI_states x1 la Q) : rwV l y_Ar_fillI (wsOf y_Ar_fillI b_Ar_fillI 4 none) rm_Ar_fillI_states D (tyA cA) (wC ad cA) [.ref (ad 23), .int x1] (te, ru, au, re, la, sp, le) (fun u : La => (te, ru, au, re, u, sp, le)) (fun u : La => Q u) := by
  refine rwV_of (by decide) (Nat.le_of_ble_eq_true rfl) ?_
  intro p e s m below meth c S hr hlk hK A hA I ls hl
  have hl : lv_has ls 4 [(0, .ref (ad 23)), (1, .int x1)] := hl
  refine lv_iconst (v := (0 : Int32)) S.1 S.2.1 d_Ar_fillI_0 rfl ?_
  refine lv_istore_n (lv' := [(2, .int (0 : Int32)), (0, .ref (ad 23)), (1, .int x1)]) S.1 S.2.1 d_Ar_fillI_1 rfl hl (by decide) rfl (fun ls hl => ?_)
  refine lv_aload_n S.1 S.2.1 d_Ar_fillI_2 rfl (lv_at hl 1 rfl) ?_
  refine n_La_states S hK I.1 d_Ar_fillI_3 ?_
  refine lv_istore_n (lv' := [(3, .int (48 : Int32)), (2, .int (0 : Int32)), (0, .ref (ad 23)), (1, .int x1)]) S.1 S.2.1 d_Ar_fillI_4 rfl hl (by decide) rfl (fun ls hl => ?_)
  obtain ⟨n', h⟩ := h
  exact n_Ar_fillI_states_5 S hr hlk hK hA n' _ _ _ _ _ _ h (lv_sub hl [2, 3, 1, 0] rfl) I

set_option maxHeartbeats 4000000 in
set_option maxRecDepth 100000 in
theorem n_La_addStates_24 {p : Program} {l : Launch} {e : Env} {s : State} {m : MethodId} {args : Array Value} {below : List Frame} {meth : Method} {c : Code} {D : va_G} {A : Nat → Prop} {ad : Nat → Nat} {cA : ClassId × ClassId × ClassId} {te : Te} {ru : Ru} {au : Au} {re : Re} {sp : Sp} {le : Le} {x1 : Int32} {x2 : Int32} {Q : Int32 → La → Prop} (S : CallFix p m c b_La_addStates 5 s args gtbl R_La) (hr : meth.sig.returnType = (some .boolean)) (hlk : meth.locks = false) (hK : gK D (tyA cA) s) (hA : ∀ q : Nat, s.heap.size ≤ q → A q) : ∀ (ls : Array Slot) (H : Heap) (locs : List Loc) (x3 : Int32) (y0 : Int32) (la : La), p_La_addStates_24 x1 x2 Q x3 y0 la → lv_has ls 5 [(0, .ref (ad 22)), (1, .int x1), (3, .int x3)] → gIn D A s (wC ad cA) (te, ru, au, re, la, sp, le) H locs → W p l e rm_La_addStates s m args below meth c H locs 0 0 (qI D (tyA cA) A (wC ad cA) (fun u : La => (te, ru, au, re, u, sp, le)) (fun (r : Int32) (u : La) => Q r u) below args s) (F0 m 24 ls [.int y0]) := by
  intro ls H locs x3 y0 la h hl I
  refine lv_istore (lv' := [(4, .int y0), (0, .ref (ad 22)), (1, .int x1), (3, .int x3)]) S.1 S.2.1 d_La_addStates_24 hl (by decide) rfl (fun ls hl => ?_)
  refine lv_aload_n S.1 S.2.1 d_La_addStates_26 rfl (lv_at hl 1 rfl) ?_
  refine g_La_states S hK I.1 d_La_addStates_27 ?_
  refine lv_iload_n S.1 S.2.1 d_La_addStates_30 rfl (lv_at hl 2 rfl) ?_
  refine lv_iload_n S.1 S.2.1 d_La_addStates_31 rfl (lv_at hl 3 rfl) ?_
  obtain ⟨hin, h⟩ := h
  refine s_La_states S hK I hin d_La_addStates_32 (fun H locs la32 ela32 I => ?_)
  have h := h la32 ela32
  refine lv_iload S.1 S.2.1 d_La_addStates_33 (lv_at hl 0 rfl) ?_
  obtain ⟨hz, h⟩ := h
  exact ret_rwz S hr hlk hK (isB_n hz) I h d_La_addStates_35
set_option maxHeartbeats 4000000 in
set_option maxRecDepth 100000 in
theorem c_La_addStates (l : Launch) (D : va_G) (ad : Nat → Nat) (cA : ClassId × ClassId × ClassId) (te : Te) (ru : Ru) (au : Au) (re : Re) (la : La) (sp : Sp) (le : Le) (x1 : Int32) (x2 : Int32) (Q : Int32 → La → Prop) (h : p_La_addStates x1 x2 la Q) : rwI l y_La_addStates (wsOf y_La_addStates b_La_addStates 5 (some .boolean)) rm_La_addStates D (tyA cA) (wC ad cA) [.ref (ad 22), .int x1, .int x2] (te, ru, au, re, la, sp, le) (fun u : La => (te, ru, au, re, u, sp, le)) (fun (r : Int32) (u : La) => Q r u) := by
  refine rwI_of (by decide) (Nat.le_of_ble_eq_true rfl) ?_
  intro p e s m below meth c S hr hlk hK A hA I ls hl
  have hl : lv_has ls 5 [(0, .ref (ad 22)), (1, .int x1), (2, .int x2)] := hl
  refine lv_aload_n S.1 S.2.1 d_La_addStates_0 rfl (lv_at hl 0 rfl) ?_
  refine g_La_states S hK I.1 d_La_addStates_1 ?_
  refine lv_iload_n S.1 S.2.1 d_La_addStates_4 rfl (lv_at hl 1 rfl) ?_
  obtain ⟨hin, h⟩ := h
  refine a_La_states S hK I.1 hin d_La_addStates_5 ?_
  refine lv_iload_n S.1 S.2.1 d_La_addStates_6 rfl (lv_at hl 2 rfl) ?_
  refine lv_ior S.1 S.2.1 d_La_addStates_7 ?_
  refine lv_istore_n (lv' := [(3, .int ((La_states la x1.toNatClampNeg) ||| x2)), (0, .ref (ad 22)), (1, .int x1), (2, .int x2)]) S.1 S.2.1 d_La_addStates_8 rfl hl (by decide) rfl (fun ls hl => ?_)
  refine lv_iload_n S.1 S.2.1 d_La_addStates_9 rfl (lv_at hl 0 rfl) ?_
  refine lv_aload_n S.1 S.2.1 d_La_addStates_10 rfl (lv_at hl 1 rfl) ?_
  refine g_La_states S hK I.1 d_La_addStates_11 ?_
  refine lv_iload_n S.1 S.2.1 d_La_addStates_14 rfl (lv_at hl 2 rfl) ?_
  obtain ⟨hin, h⟩ := h
  refine a_La_states S hK I.1 hin d_La_addStates_15 ?_
  refine lv_icmp_eq (tgt := 23) S.1 S.2.1 d_La_addStates_16 (by decide) (fun hc => ?_) (fun hc => ?_)
  · have h := h.1 hc
    refine lv_iconst (v := (0 : Int32)) S.1 S.2.1 d_La_addStates_23 rfl ?_
    exact n_La_addStates_24 S hr hlk hK hA _ _ _ _ _ _ h (lv_sub hl [1, 2, 0] rfl) I
  · have h := h.2 hc
    refine lv_iconst (v := (1 : Int32)) S.1 S.2.1 d_La_addStates_19 rfl ?_
    refine lv_goto (tgt := 24) S.1 S.2.1 d_La_addStates_20 (by decide) ?_
    exact n_La_addStates_24 S hr hlk hK hA _ _ _ _ _ _ h (lv_sub hl [1, 2, 0] rfl) I

set_option maxHeartbeats 4000000 in
set_option maxRecDepth 100000 in
theorem n_La_runFromParts_84 {p : Program} {l : Launch} {e : Env} {s : State} {m : MethodId} {args : Array Value} {below : List Frame} {meth : Method} {c : Code} {D : va_G} {A : Nat → Prop} {ad : Nat → Nat} {cA : ClassId × ClassId × ClassId} {te : Te} {ru : Ru} {au : Au} {re : Re} {sp : Sp} {le : Le} {Q : Int32 → La → Prop} (S : CallFix p m c b_La_runFromParts 7 s args gtbl R_La) (hr : meth.sig.returnType = (some .boolean)) (hlk : meth.locks = false) (hK : gK D (tyA cA) s) (hA : ∀ q : Nat, s.heap.size ≤ q → A q) {k4 : Int32 → Int32 → La → Prop} (hk4 : ∀ (ls : Array Slot) (H : Heap) (locs : List Loc) (x1 : Int32) (x2 : Int32) (la : La), k4 x1 x2 la → lv_has ls 7 [(0, .ref (ad 22)), (1, .int x1), (2, .int x2)] → gIn D A s (wC ad cA) (te, ru, au, re, la, sp, le) H locs → W p l e rm_La_runFromParts s m args below meth c H locs 0 0 (qI D (tyA cA) A (wC ad cA) (fun u : La => (te, ru, au, re, u, sp, le)) (fun (r : Int32) (u : La) => Q r u) below args s) (F0 m 4 ls [])) : ∀ (ls : Array Slot) (H : Heap) (locs : List Loc) (x1 : Int32) (x2 : Int32) (x3 : Int32) (x5 : Int32) (y0 : Int32) (la : La), p_La_runFromParts_84 te au Q k4 x1 x2 x3 x5 y0 la → lv_has ls 7 [(0, .ref (ad 22)), (1, .int x1), (2, .int x2), (3, .int x3), (5, .int x5)] → gIn D A s (wC ad cA) (te, ru, au, re, la, sp, le) H locs → W p l e rm_La_runFromParts s m args below meth c H locs 0 0 (qI D (tyA cA) A (wC ad cA) (fun u : La => (te, ru, au, re, u, sp, le)) (fun (r : Int32) (u : La) => Q r u) below args s) (F0 m 84 ls [.int y0]) := by
  intro ls H locs x1 x2 x3 x5 y0 la h hl I
  refine lv_istore (lv' := [(6, .int y0), (0, .ref (ad 22)), (1, .int x1), (2, .int x2), (3, .int x3), (5, .int x5)]) S.1 S.2.1 d_La_runFromParts_84 hl (by decide) rfl (fun ls hl => ?_)
  refine lv_iload_n S.1 S.2.1 d_La_runFromParts_86 rfl (lv_at hl 2 rfl) ?_
  refine lv_aload_n S.1 S.2.1 d_La_runFromParts_87 rfl (lv_at hl 1 rfl) ?_
  refine lv_iload_n S.1 S.2.1 d_La_runFromParts_88 rfl (lv_at hl 3 rfl) ?_
  refine lv_aload_n S.1 S.2.1 d_La_runFromParts_89 rfl (lv_at hl 1 rfl) ?_
  refine g_La_automaton S hK I.1 d_La_runFromParts_90 ?_
  refine lv_iload_n S.1 S.2.1 d_La_runFromParts_93 rfl (lv_at hl 4 rfl) ?_
  refine lv_iload S.1 S.2.1 d_La_runFromParts_94 (lv_at hl 5 rfl) ?_
  refine lv_iload S.1 S.2.1 d_La_runFromParts_96 (lv_at hl 0 rfl) ?_
  refine callV_roi S (c_Au_targetsOf l D ad cA _ _ _ _ _ _ _ _ _ _ _ h) (mkV S.2.2.2.2 ml_La_64 k_Au_targetsOf rfl rfl ⟨Nat.le_of_ble_eq_true rfl, Nat.le_of_ble_eq_true rfl⟩) (rv_Au hK I.1) hK I.1 hl.1 rfl rfl (Nat.le_of_ble_eq_true rfl) d_La_runFromParts_98 ⟨Nat.zero_le _, Nat.zero_le _⟩ (fun r98 h => ?_)
  refine callV_rwi S (c_La_addStates l D ad cA _ _ _ _ _ _ _ _ _ _ h) (mkV S.2.2.2.2 ml_La_70 k_La_addStates rfl rfl ⟨Nat.le_of_ble_eq_true rfl, Nat.le_of_ble_eq_true rfl⟩) (rv_La hK I.1) hK hA I hl.1 rfl rfl (Nat.le_of_ble_eq_true rfl) d_La_runFromParts_101 ⟨Nat.zero_le _, Nat.zero_le _⟩ (fun r101 la101 H locs h I => ?_)
  refine lv_ior S.1 S.2.1 d_La_runFromParts_104 ?_
  refine lv_istore_n (lv' := [(1, .int (x1 ||| r101)), (6, .int y0), (0, .ref (ad 22)), (2, .int x2), (3, .int x3), (5, .int x5)]) S.1 S.2.1 d_La_runFromParts_105 rfl hl (by decide) rfl (fun ls hl => ?_)
  refine lv_iinc (k := 3) (v := x2 + (1 : Int32)) (lv' := [(2, .int (x2 + (1 : Int32))), (1, .int (x1 ||| r101)), (6, .int y0), (0, .ref (ad 22)), (3, .int x3), (5, .int x5)]) S.1 S.2.1 d_La_runFromParts_106 hl rfl rfl (by decide) rfl (fun ls hl => ?_)
  refine lv_goto (tgt := 4) S.1 S.2.1 d_La_runFromParts_109 (by decide) ?_
  exact hk4 _ _ _ _ _ _ h (lv_sub hl [3, 1, 0] rfl) I
set_option maxHeartbeats 4000000 in
set_option maxRecDepth 100000 in
theorem n_La_runFromParts_58 {p : Program} {l : Launch} {e : Env} {s : State} {m : MethodId} {args : Array Value} {below : List Frame} {meth : Method} {c : Code} {D : va_G} {A : Nat → Prop} {ad : Nat → Nat} {cA : ClassId × ClassId × ClassId} {te : Te} {ru : Ru} {au : Au} {re : Re} {sp : Sp} {le : Le} {Q : Int32 → La → Prop} (S : CallFix p m c b_La_runFromParts 7 s args gtbl R_La) (hr : meth.sig.returnType = (some .boolean)) (hlk : meth.locks = false) (hK : gK D (tyA cA) s) (hA : ∀ q : Nat, s.heap.size ≤ q → A q) {k4 : Int32 → Int32 → La → Prop} (hk4 : ∀ (ls : Array Slot) (H : Heap) (locs : List Loc) (x1 : Int32) (x2 : Int32) (la : La), k4 x1 x2 la → lv_has ls 7 [(0, .ref (ad 22)), (1, .int x1), (2, .int x2)] → gIn D A s (wC ad cA) (te, ru, au, re, la, sp, le) H locs → W p l e rm_La_runFromParts s m args below meth c H locs 0 0 (qI D (tyA cA) A (wC ad cA) (fun u : La => (te, ru, au, re, u, sp, le)) (fun (r : Int32) (u : La) => Q r u) below args s) (F0 m 4 ls [])) : ∀ (ls : Array Slot) (H : Heap) (locs : List Loc) (x1 : Int32) (x2 : Int32) (x3 : Int32) (x4 : Int32) (y0 : Int32) (la : La), p_La_runFromParts_58 te au Q k4 x1 x2 x3 x4 y0 la → lv_has ls 7 [(0, .ref (ad 22)), (1, .int x1), (2, .int x2), (3, .int x3), (4, .int x4)] → gIn D A s (wC ad cA) (te, ru, au, re, la, sp, le) H locs → W p l e rm_La_runFromParts s m args below meth c H locs 0 0 (qI D (tyA cA) A (wC ad cA) (fun u : La => (te, ru, au, re, u, sp, le)) (fun (r : Int32) (u : La) => Q r u) below args s) (F0 m 58 ls [.int y0]) := by
  intro ls H locs x1 x2 x3 x4 y0 la h hl I
  refine lv_istore (lv' := [(5, .int y0), (0, .ref (ad 22)), (1, .int x1), (2, .int x2), (3, .int x3), (4, .int x4)]) S.1 S.2.1 d_La_runFromParts_58 hl (by decide) rfl (fun ls hl => ?_)
  refine lv_iload S.1 S.2.1 d_La_runFromParts_60 (lv_at hl 5 rfl) ?_
  refine lv_iconst (v := (2 : Int32)) S.1 S.2.1 d_La_runFromParts_62 rfl ?_
  refine lv_icmp_ge (tgt := 71) S.1 S.2.1 d_La_runFromParts_63 (by decide) (fun hc => ?_) (fun hc => ?_)
  · have h := h.1 hc
    refine lv_aload_n S.1 S.2.1 d_La_runFromParts_71 rfl (lv_at hl 1 rfl) ?_
    refine g_La_states S hK I.1 d_La_runFromParts_72 ?_
    refine lv_aload_n S.1 S.2.1 d_La_runFromParts_75 rfl (lv_at hl 1 rfl) ?_
    refine g_La_terms S hK I.1 d_La_runFromParts_76 ?_
    refine lv_iload_n S.1 S.2.1 d_La_runFromParts_79 rfl (lv_at hl 3 rfl) ?_
    refine callV_roi S (c_Te_secondOf l D ad cA _ _ _ _ _ _ _ _ _ h) (mkV S.2.2.2.2 ml_La_61 k_Te_secondOf rfl rfl ⟨Nat.le_of_ble_eq_true rfl, Nat.le_of_ble_eq_true rfl⟩) (rv_Te hK I.1) hK I.1 hl.1 rfl rfl (Nat.le_of_ble_eq_true rfl) d_La_runFromParts_80 ⟨Nat.zero_le _, Nat.zero_le _⟩ (fun r80 h => ?_)
    obtain ⟨hin, h⟩ := h
    refine a_La_states S hK I.1 hin d_La_runFromParts_83 ?_
    exact n_La_runFromParts_84 S hr hlk hK hA hk4 _ _ _ _ _ _ _ _ _ h (lv_sub hl [1, 2, 3, 4, 0] rfl) I
  · have h := h.2 hc
    refine lv_bipush (v := (63 : Int32)) S.1 S.2.1 d_La_runFromParts_66 rfl ?_
    refine lv_goto (tgt := 84) S.1 S.2.1 d_La_runFromParts_68 (by decide) ?_
    exact n_La_runFromParts_84 S hr hlk hK hA hk4 _ _ _ _ _ _ _ _ _ h (lv_sub hl [1, 2, 3, 4, 0] rfl) I
set_option maxHeartbeats 4000000 in
set_option maxRecDepth 100000 in
theorem n_La_runFromParts_4 {p : Program} {l : Launch} {e : Env} {s : State} {m : MethodId} {args : Array Value} {below : List Frame} {meth : Method} {c : Code} {D : va_G} {A : Nat → Prop} {ad : Nat → Nat} {cA : ClassId × ClassId × ClassId} {te : Te} {ru : Ru} {au : Au} {re : Re} {sp : Sp} {le : Le} {Q : Int32 → La → Prop} (S : CallFix p m c b_La_runFromParts 7 s args gtbl R_La) (hr : meth.sig.returnType = (some .boolean)) (hlk : meth.locks = false) (hK : gK D (tyA cA) s) (hA : ∀ q : Nat, s.heap.size ≤ q → A q) : ∀ n : Nat, ∀ (ls : Array Slot) (H : Heap) (locs : List Loc) (x1 : Int32) (x2 : Int32) (la : La), p_La_runFromParts_4 te au Q n x1 x2 la → lv_has ls 7 [(0, .ref (ad 22)), (1, .int x1), (2, .int x2)] → gIn D A s (wC ad cA) (te, ru, au, re, la, sp, le) H locs → W p l e rm_La_runFromParts s m args below meth c H locs 0 0 (qI D (tyA cA) A (wC ad cA) (fun u : La => (te, ru, au, re, u, sp, le)) (fun (r : Int32) (u : La) => Q r u) below args s) (F0 m 4 ls []) := by
  intro n
  induction n with
  | zero =>
    intro ls H locs x1 x2 la h
    exact (show False from h).elim
  | succ n ih =>
    intro ls H locs x1 x2 la h hl I
    refine lv_iload_n S.1 S.2.1 d_La_runFromParts_4 rfl (lv_at hl 2 rfl) ?_
    refine lv_aload_n S.1 S.2.1 d_La_runFromParts_5 rfl (lv_at hl 0 rfl) ?_
    refine g_La_terms S hK I.1 d_La_runFromParts_6 ?_
    refine callV_roi S (c_Te_count l D ad cA _ _ _ _ _ _ _ _ h) (mkV S.2.2.2.2 ml_La_45 k_Te_count rfl rfl ⟨Nat.le_of_ble_eq_true rfl, Nat.le_of_ble_eq_true rfl⟩) (rv_Te hK I.1) hK I.1 hl.1 rfl rfl (Nat.le_of_ble_eq_true rfl) d_La_runFromParts_9 ⟨Nat.zero_le _, Nat.zero_le _⟩ (fun r9 h => ?_)
    refine lv_icmp_ge (tgt := 112) S.1 S.2.1 d_La_runFromParts_12 (by decide) (fun hc => ?_) (fun hc => ?_)
    · have h := h.1 hc
      refine lv_iload_n S.1 S.2.1 d_La_runFromParts_112 rfl (lv_at hl 1 rfl) ?_
      obtain ⟨hz, h⟩ := h
      exact ret_rwz S hr hlk hK (isB_n hz) I h d_La_runFromParts_113
    · have h := h.2 hc
      refine lv_aload_n S.1 S.2.1 d_La_runFromParts_15 rfl (lv_at hl 0 rfl) ?_
      refine g_La_terms S hK I.1 d_La_runFromParts_16 ?_
      refine lv_iload_n S.1 S.2.1 d_La_runFromParts_19 rfl (lv_at hl 2 rfl) ?_
      refine callV_roi S (c_Te_symbolOf l D ad cA _ _ _ _ _ _ _ _ _ h) (mkV S.2.2.2.2 ml_La_51 k_Te_symbolOf rfl rfl ⟨Nat.le_of_ble_eq_true rfl, Nat.le_of_ble_eq_true rfl⟩) (rv_Te hK I.1) hK I.1 hl.1 rfl rfl (Nat.le_of_ble_eq_true rfl) d_La_runFromParts_20 ⟨Nat.zero_le _, Nat.zero_le _⟩ (fun r20 h => ?_)
      refine lv_istore_n (lv' := [(3, .int r20), (0, .ref (ad 22)), (1, .int x1), (2, .int x2)]) S.1 S.2.1 d_La_runFromParts_23 rfl hl (by decide) rfl (fun ls hl => ?_)
      refine lv_aload_n S.1 S.2.1 d_La_runFromParts_24 rfl (lv_at hl 1 rfl) ?_
      refine g_La_terms S hK I.1 d_La_runFromParts_25 ?_
      refine lv_iload_n S.1 S.2.1 d_La_runFromParts_28 rfl (lv_at hl 0 rfl) ?_
      refine callV_roi S (c_Te_placesOf l D ad cA _ _ _ _ _ _ _ _ _ h) (mkV S.2.2.2.2 ml_La_55 k_Te_placesOf rfl rfl ⟨Nat.le_of_ble_eq_true rfl, Nat.le_of_ble_eq_true rfl⟩) (rv_Te hK I.1) hK I.1 hl.1 rfl rfl (Nat.le_of_ble_eq_true rfl) d_La_runFromParts_29 ⟨Nat.zero_le _, Nat.zero_le _⟩ (fun r29 h => ?_)
      refine lv_istore (lv' := [(4, .int r29), (3, .int r20), (0, .ref (ad 22)), (1, .int x1), (2, .int x2)]) S.1 S.2.1 d_La_runFromParts_32 hl (by decide) rfl (fun ls hl => ?_)
      refine lv_iload S.1 S.2.1 d_La_runFromParts_34 (lv_at hl 0 rfl) ?_
      refine lv_iconst (v := (1 : Int32)) S.1 S.2.1 d_La_runFromParts_36 rfl ?_
      refine lv_icmp_ge (tgt := 45) S.1 S.2.1 d_La_runFromParts_37 (by decide) (fun hc => ?_) (fun hc => ?_)
      · have h := h.1 hc
        refine lv_aload_n S.1 S.2.1 d_La_runFromParts_45 rfl (lv_at hl 2 rfl) ?_
        refine g_La_states S hK I.1 d_La_runFromParts_46 ?_
        refine lv_aload_n S.1 S.2.1 d_La_runFromParts_49 rfl (lv_at hl 2 rfl) ?_
        refine g_La_terms S hK I.1 d_La_runFromParts_50 ?_
        refine lv_iload_n S.1 S.2.1 d_La_runFromParts_53 rfl (lv_at hl 4 rfl) ?_
        refine callV_roi S (c_Te_firstOf l D ad cA _ _ _ _ _ _ _ _ _ h) (mkV S.2.2.2.2 ml_La_58 k_Te_firstOf rfl rfl ⟨Nat.le_of_ble_eq_true rfl, Nat.le_of_ble_eq_true rfl⟩) (rv_Te hK I.1) hK I.1 hl.1 rfl rfl (Nat.le_of_ble_eq_true rfl) d_La_runFromParts_54 ⟨Nat.zero_le _, Nat.zero_le _⟩ (fun r54 h => ?_)
        obtain ⟨hin, h⟩ := h
        refine a_La_states S hK I.1 hin d_La_runFromParts_57 ?_
        exact n_La_runFromParts_58 S hr hlk hK hA ih _ _ _ _ _ _ _ _ _ h (lv_sub hl [2, 3, 4, 1, 0] rfl) I
      · have h := h.2 hc
        refine lv_bipush (v := (63 : Int32)) S.1 S.2.1 d_La_runFromParts_40 rfl ?_
        refine lv_goto (tgt := 58) S.1 S.2.1 d_La_runFromParts_42 (by decide) ?_
        exact n_La_runFromParts_58 S hr hlk hK hA ih _ _ _ _ _ _ _ _ _ h (lv_sub hl [2, 3, 4, 1, 0] rfl) I
set_option maxHeartbeats 4000000 in
set_option maxRecDepth 100000 in
theorem c_La_runFromParts (l : Launch) (D : va_G) (ad : Nat → Nat) (cA : ClassId × ClassId × ClassId) (te : Te) (ru : Ru) (au : Au) (re : Re) (la : La) (sp : Sp) (le : Le)  (Q : Int32 → La → Prop) (h : p_La_runFromParts  te au la Q) : rwI l y_La_runFromParts (wsOf y_La_runFromParts b_La_runFromParts 7 (some .boolean)) rm_La_runFromParts D (tyA cA) (wC ad cA) [.ref (ad 22)] (te, ru, au, re, la, sp, le) (fun u : La => (te, ru, au, re, u, sp, le)) (fun (r : Int32) (u : La) => Q r u) := by
  refine rwI_of (by decide) (Nat.le_of_ble_eq_true rfl) ?_
  intro p e s m below meth c S hr hlk hK A hA I ls hl
  have hl : lv_has ls 7 [(0, .ref (ad 22))] := hl
  refine lv_iconst (v := (0 : Int32)) S.1 S.2.1 d_La_runFromParts_0 rfl ?_
  refine lv_istore_n (lv' := [(1, .int (0 : Int32)), (0, .ref (ad 22))]) S.1 S.2.1 d_La_runFromParts_1 rfl hl (by decide) rfl (fun ls hl => ?_)
  refine lv_iconst (v := (0 : Int32)) S.1 S.2.1 d_La_runFromParts_2 rfl ?_
  refine lv_istore_n (lv' := [(2, .int (0 : Int32)), (1, .int (0 : Int32)), (0, .ref (ad 22))]) S.1 S.2.1 d_La_runFromParts_3 rfl hl (by decide) rfl (fun ls hl => ?_)
  obtain ⟨n', h⟩ := h
  exact n_La_runFromParts_4 S hr hlk hK hA n' _ _ _ _ _ _ h (lv_sub hl [2, 1, 0] rfl) I

set_option maxHeartbeats 4000000 in
set_option maxRecDepth 100000 in
theorem c_La_statesAt (l : Launch) (D : va_G) (ad : Nat → Nat) (cA : ClassId × ClassId × ClassId) (te : Te) (ru : Ru) (au : Au) (re : Re) (la : La) (sp : Sp) (le : Le) (x1 : Int32) (Q : Int32 → La → Prop) (h : p_La_statesAt x1 te au la Q) : rwI l y_La_statesAt (wsOf y_La_statesAt b_La_statesAt 2 (some .int)) rm_La_statesAt D (tyA cA) (wC ad cA) [.ref (ad 22), .int x1] (te, ru, au, re, la, sp, le) (fun u : La => (te, ru, au, re, u, sp, le)) (fun (r : Int32) (u : La) => Q r u) := by
  refine rwI_of (by decide) (Nat.le_of_ble_eq_true rfl) ?_
  intro p e s m below meth c S hr hlk hK A hA I ls hl
  have hl : lv_has ls 2 [(0, .ref (ad 22)), (1, .int x1)] := hl
  refine lv_aload_n S.1 S.2.1 d_La_statesAt_0 rfl (lv_at hl 0 rfl) ?_
  refine g_La_states S hK I.1 d_La_statesAt_1 ?_
  refine lv_iconst (v := (0 : Int32)) S.1 S.2.1 d_La_statesAt_4 rfl ?_
  refine callS_rwv S (c_Ar_fillI_states l D ad cA _ _ _ _ _ _ _ _ _ h) (mkS S.2.2.2.2 ml_La_27 k_Ar_fillI rfl rfl ⟨Nat.le_of_ble_eq_true rfl, Nat.le_of_ble_eq_true rfl⟩) hK hA I hl.1 rfl rfl (Nat.le_of_ble_eq_true rfl) d_La_statesAt_5 ⟨Nat.zero_le _, Nat.zero_le _⟩ (fun la5 H locs h I => ?_)
  refine lv_aload_n S.1 S.2.1 d_La_statesAt_8 rfl (lv_at hl 0 rfl) ?_
  refine callV_rwi S (c_La_runFromParts l D ad cA _ _ _ _ _ _ _ _ h) (mkV S.2.2.2.2 ml_La_33 k_La_runFromParts rfl rfl ⟨Nat.le_of_ble_eq_true rfl, Nat.le_of_ble_eq_true rfl⟩) (rv_La hK I.1) hK hA I hl.1 rfl rfl (Nat.le_of_ble_eq_true rfl) d_La_statesAt_9 ⟨Nat.zero_le _, Nat.zero_le _⟩ (fun r9 la9 H locs h I => ?_)
  refine lv_pop S.1 S.2.1 d_La_statesAt_12 rfl ?_
  refine lv_aload_n S.1 S.2.1 d_La_statesAt_13 rfl (lv_at hl 0 rfl) ?_
  refine g_La_states S hK I.1 d_La_statesAt_14 ?_
  refine lv_iload_n S.1 S.2.1 d_La_statesAt_17 rfl (lv_at hl 1 rfl) ?_
  obtain ⟨hin, h⟩ := h
  refine a_La_states S hK I.1 hin d_La_statesAt_18 ?_
  exact ret_rwi S hr hlk hK I h d_La_statesAt_19

set_option maxHeartbeats 4000000 in
set_option maxRecDepth 100000 in
theorem n_La_passOn_22 {p : Program} {l : Launch} {e : Env} {s : State} {m : MethodId} {args : Array Value} {below : List Frame} {meth : Method} {c : Code} {D : va_G} {A : Nat → Prop} {ad : Nat → Nat} {cA : ClassId × ClassId × ClassId} {te : Te} {ru : Ru} {au : Au} {re : Re} {sp : Sp} {le : Le} {x1 : Int32} {Q : Int32 → La → Prop} (S : CallFix p m c b_La_passOn 6 s args gtbl R_La) (hr : meth.sig.returnType = (some .boolean)) (hlk : meth.locks = false) (hK : gK D (tyA cA) s) (hA : ∀ q : Nat, s.heap.size ≤ q → A q) {k13 : Int32 → Int32 → Int32 → La → Prop} (hk13 : ∀ (ls : Array Slot) (H : Heap) (locs : List Loc) (x2 : Int32) (x3 : Int32) (x4 : Int32) (la : La), k13 x2 x3 x4 la → lv_has ls 6 [(0, .ref (ad 22)), (1, .int x1), (2, .int x2), (3, .int x3), (4, .int x4)] → gIn D A s (wC ad cA) (te, ru, au, re, la, sp, le) H locs → W p l e rm_La_passOn s m args below meth c H locs 0 0 (qI D (tyA cA) A (wC ad cA) (fun u : La => (te, ru, au, re, u, sp, le)) (fun (r : Int32) (u : La) => Q r u) below args s) (F0 m 13 ls [])) : ∀ n : Nat, ∀ (ls : Array Slot) (H : Heap) (locs : List Loc) (x2 : Int32) (x3 : Int32) (x4 : Int32) (x5 : Int32) (la : La), p_La_passOn_22 x1 te re Q k13 n x2 x3 x4 x5 la → lv_has ls 6 [(0, .ref (ad 22)), (1, .int x1), (2, .int x2), (3, .int x3), (4, .int x4), (5, .int x5)] → gIn D A s (wC ad cA) (te, ru, au, re, la, sp, le) H locs → W p l e rm_La_passOn s m args below meth c H locs 0 0 (qI D (tyA cA) A (wC ad cA) (fun u : La => (te, ru, au, re, u, sp, le)) (fun (r : Int32) (u : La) => Q r u) below args s) (F0 m 22 ls []) := by
  intro n
  induction n with
  | zero =>
    intro ls H locs x2 x3 x4 x5 la h
    exact (show False from h).elim
  | succ n ih =>
    intro ls H locs x2 x3 x4 x5 la h hl I
    refine lv_iload S.1 S.2.1 d_La_passOn_22 (lv_at hl 5 rfl) ?_
    refine lv_iload_n S.1 S.2.1 d_La_passOn_24 rfl (lv_at hl 3 rfl) ?_
    refine lv_icmp_ge (tgt := 84) S.1 S.2.1 d_La_passOn_25 (by decide) (fun hc => ?_) (fun hc => ?_)
    · have h := h.1 hc
      refine lv_iinc (k := 4) (v := x4 + (1 : Int32)) (lv' := [(4, .int (x4 + (1 : Int32))), (0, .ref (ad 22)), (1, .int x1), (2, .int x2), (3, .int x3), (5, .int x5)]) S.1 S.2.1 d_La_passOn_84 hl rfl rfl (by decide) rfl (fun ls hl => ?_)
      refine lv_goto (tgt := 13) S.1 S.2.1 d_La_passOn_87 (by decide) ?_
      exact hk13 _ _ _ _ _ _ _ h (lv_sub hl [1, 2, 3, 4, 0] rfl) I
    · have h := h.2 hc
      refine lv_aload_n S.1 S.2.1 d_La_passOn_28 rfl (lv_at hl 0 rfl) ?_
      refine g_La_relations S hK I.1 d_La_passOn_29 ?_
      refine lv_iload S.1 S.2.1 d_La_passOn_32 (lv_at hl 4 rfl) ?_
      refine lv_iload S.1 S.2.1 d_La_passOn_34 (lv_at hl 5 rfl) ?_
      refine callV_roi S (c_Re_leads l D ad cA _ _ _ _ _ _ _ _ _ _ h) (mkV S.2.2.2.2 ml_La_74 k_Re_leads rfl rfl ⟨Nat.le_of_ble_eq_true rfl, Nat.le_of_ble_eq_true rfl⟩) (rv_Re hK I.1) hK I.1 hl.1 rfl rfl (Nat.le_of_ble_eq_true rfl) d_La_passOn_36 ⟨Nat.zero_le _, Nat.zero_le _⟩ (fun r36 h => ?_)
      refine lv_if_eq (tgt := 78) S.1 S.2.1 d_La_passOn_39 (by decide) (fun hc => ?_) (fun hc => ?_)
      · have h := h.1 hc
        refine lv_iinc (k := 5) (v := x5 + (1 : Int32)) (lv' := [(5, .int (x5 + (1 : Int32))), (0, .ref (ad 22)), (1, .int x1), (2, .int x2), (3, .int x3), (4, .int x4)]) S.1 S.2.1 d_La_passOn_78 hl rfl rfl (by decide) rfl (fun ls hl => ?_)
        refine lv_goto (tgt := 22) S.1 S.2.1 d_La_passOn_81 (by decide) ?_
        exact ih _ _ _ _ _ _ _ _ h (lv_sub hl [1, 2, 3, 4, 5, 0] rfl) I
      · have h := h.2 hc
        refine lv_iload_n S.1 S.2.1 d_La_passOn_42 rfl (lv_at hl 2 rfl) ?_
        refine lv_iload_n S.1 S.2.1 d_La_passOn_43 rfl (lv_at hl 1 rfl) ?_
        refine lv_if_eq (tgt := 63) S.1 S.2.1 d_La_passOn_44 (by decide) (fun hc => ?_) (fun hc => ?_)
        · have h := h.1 hc
          refine lv_aload_n S.1 S.2.1 d_La_passOn_63 rfl (lv_at hl 0 rfl) ?_
          refine lv_iload S.1 S.2.1 d_La_passOn_64 (lv_at hl 4 rfl) ?_
          refine lv_aload_n S.1 S.2.1 d_La_passOn_66 rfl (lv_at hl 0 rfl) ?_
          refine g_La_states S hK I.1 d_La_passOn_67 ?_
          refine lv_iload S.1 S.2.1 d_La_passOn_70 (lv_at hl 5 rfl) ?_
          obtain ⟨hin, h⟩ := h
          refine a_La_states S hK I.1 hin d_La_passOn_72 ?_
          refine callV_rwi S (c_La_addStates l D ad cA _ _ _ _ _ _ _ _ _ _ h) (mkV S.2.2.2.2 ml_La_70 k_La_addStates rfl rfl ⟨Nat.le_of_ble_eq_true rfl, Nat.le_of_ble_eq_true rfl⟩) (rv_La hK I.1) hK hA I hl.1 rfl rfl (Nat.le_of_ble_eq_true rfl) d_La_passOn_73 ⟨Nat.zero_le _, Nat.zero_le _⟩ (fun r73 la73 H locs h I => ?_)
          refine lv_ior S.1 S.2.1 d_La_passOn_76 ?_
          refine lv_istore_n (lv' := [(2, .int (x2 ||| r73)), (0, .ref (ad 22)), (1, .int x1), (3, .int x3), (4, .int x4), (5, .int x5)]) S.1 S.2.1 d_La_passOn_77 rfl hl (by decide) rfl (fun ls hl => ?_)
          refine lv_iinc (k := 5) (v := x5 + (1 : Int32)) (lv' := [(5, .int (x5 + (1 : Int32))), (2, .int (x2 ||| r73)), (0, .ref (ad 22)), (1, .int x1), (3, .int x3), (4, .int x4)]) S.1 S.2.1 d_La_passOn_78 hl rfl rfl (by decide) rfl (fun ls hl => ?_)
          refine lv_goto (tgt := 22) S.1 S.2.1 d_La_passOn_81 (by decide) ?_
          exact ih _ _ _ _ _ _ _ _ h (lv_sub hl [2, 3, 1, 4, 5, 0] rfl) I
        · have h := h.2 hc
          refine lv_aload_n S.1 S.2.1 d_La_passOn_47 rfl (lv_at hl 0 rfl) ?_
          refine lv_iload S.1 S.2.1 d_La_passOn_48 (lv_at hl 5 rfl) ?_
          refine lv_aload_n S.1 S.2.1 d_La_passOn_50 rfl (lv_at hl 0 rfl) ?_
          refine g_La_states S hK I.1 d_La_passOn_51 ?_
          refine lv_iload S.1 S.2.1 d_La_passOn_54 (lv_at hl 4 rfl) ?_
          obtain ⟨hin, h⟩ := h
          refine a_La_states S hK I.1 hin d_La_passOn_56 ?_
          refine callV_rwi S (c_La_addStates l D ad cA _ _ _ _ _ _ _ _ _ _ h) (mkV S.2.2.2.2 ml_La_70 k_La_addStates rfl rfl ⟨Nat.le_of_ble_eq_true rfl, Nat.le_of_ble_eq_true rfl⟩) (rv_La hK I.1) hK hA I hl.1 rfl rfl (Nat.le_of_ble_eq_true rfl) d_La_passOn_57 ⟨Nat.zero_le _, Nat.zero_le _⟩ (fun r57 la57 H locs h I => ?_)
          refine lv_goto (tgt := 76) S.1 S.2.1 d_La_passOn_60 (by decide) ?_
          refine lv_ior S.1 S.2.1 d_La_passOn_76 ?_
          refine lv_istore_n (lv' := [(2, .int (x2 ||| r57)), (0, .ref (ad 22)), (1, .int x1), (3, .int x3), (4, .int x4), (5, .int x5)]) S.1 S.2.1 d_La_passOn_77 rfl hl (by decide) rfl (fun ls hl => ?_)
          refine lv_iinc (k := 5) (v := x5 + (1 : Int32)) (lv' := [(5, .int (x5 + (1 : Int32))), (2, .int (x2 ||| r57)), (0, .ref (ad 22)), (1, .int x1), (3, .int x3), (4, .int x4)]) S.1 S.2.1 d_La_passOn_78 hl rfl rfl (by decide) rfl (fun ls hl => ?_)
          refine lv_goto (tgt := 22) S.1 S.2.1 d_La_passOn_81 (by decide) ?_
          exact ih _ _ _ _ _ _ _ _ h (lv_sub hl [2, 3, 1, 4, 5, 0] rfl) I
set_option maxHeartbeats 4000000 in
set_option maxRecDepth 100000 in
theorem n_La_passOn_13 {p : Program} {l : Launch} {e : Env} {s : State} {m : MethodId} {args : Array Value} {below : List Frame} {meth : Method} {c : Code} {D : va_G} {A : Nat → Prop} {ad : Nat → Nat} {cA : ClassId × ClassId × ClassId} {te : Te} {ru : Ru} {au : Au} {re : Re} {sp : Sp} {le : Le} {x1 : Int32} {Q : Int32 → La → Prop} (S : CallFix p m c b_La_passOn 6 s args gtbl R_La) (hr : meth.sig.returnType = (some .boolean)) (hlk : meth.locks = false) (hK : gK D (tyA cA) s) (hA : ∀ q : Nat, s.heap.size ≤ q → A q) : ∀ n : Nat, ∀ (ls : Array Slot) (H : Heap) (locs : List Loc) (x2 : Int32) (x3 : Int32) (x4 : Int32) (la : La), p_La_passOn_13 x1 te re Q n x2 x3 x4 la → lv_has ls 6 [(0, .ref (ad 22)), (1, .int x1), (2, .int x2), (3, .int x3), (4, .int x4)] → gIn D A s (wC ad cA) (te, ru, au, re, la, sp, le) H locs → W p l e rm_La_passOn s m args below meth c H locs 0 0 (qI D (tyA cA) A (wC ad cA) (fun u : La => (te, ru, au, re, u, sp, le)) (fun (r : Int32) (u : La) => Q r u) below args s) (F0 m 13 ls []) := by
  intro n
  induction n with
  | zero =>
    intro ls H locs x2 x3 x4 la h
    exact (show False from h).elim
  | succ n ih =>
    intro ls H locs x2 x3 x4 la h hl I
    refine lv_iload S.1 S.2.1 d_La_passOn_13 (lv_at hl 4 rfl) ?_
    refine lv_iload_n S.1 S.2.1 d_La_passOn_15 rfl (lv_at hl 3 rfl) ?_
    refine lv_icmp_ge (tgt := 90) S.1 S.2.1 d_La_passOn_16 (by decide) (fun hc => ?_) (fun hc => ?_)
    · have h := h.1 hc
      refine lv_iload_n S.1 S.2.1 d_La_passOn_90 rfl (lv_at hl 2 rfl) ?_
      obtain ⟨hz, h⟩ := h
      exact ret_rwz S hr hlk hK (isB_n hz) I h d_La_passOn_91
    · have h := h.2 hc
      refine lv_iconst (v := (0 : Int32)) S.1 S.2.1 d_La_passOn_19 rfl ?_
      refine lv_istore (lv' := [(5, .int (0 : Int32)), (0, .ref (ad 22)), (1, .int x1), (2, .int x2), (3, .int x3), (4, .int x4)]) S.1 S.2.1 d_La_passOn_20 hl (by decide) rfl (fun ls hl => ?_)
      obtain ⟨n', h⟩ := h
      exact n_La_passOn_22 S hr hlk hK hA ih n' _ _ _ _ _ _ _ _ h (lv_sub hl [1, 2, 3, 4, 5, 0] rfl) I
set_option maxHeartbeats 4000000 in
set_option maxRecDepth 100000 in
theorem c_La_passOn (l : Launch) (D : va_G) (ad : Nat → Nat) (cA : ClassId × ClassId × ClassId) (te : Te) (ru : Ru) (au : Au) (re : Re) (la : La) (sp : Sp) (le : Le) (x1 : Int32) (Q : Int32 → La → Prop) (h : p_La_passOn x1 te re la Q) : rwI l y_La_passOn (wsOf y_La_passOn b_La_passOn 6 (some .boolean)) rm_La_passOn D (tyA cA) (wC ad cA) [.ref (ad 22), .int x1] (te, ru, au, re, la, sp, le) (fun u : La => (te, ru, au, re, u, sp, le)) (fun (r : Int32) (u : La) => Q r u) := by
  refine rwI_of (by decide) (Nat.le_of_ble_eq_true rfl) ?_
  intro p e s m below meth c S hr hlk hK A hA I ls hl
  have hl : lv_has ls 6 [(0, .ref (ad 22)), (1, .int x1)] := hl
  refine lv_iconst (v := (0 : Int32)) S.1 S.2.1 d_La_passOn_0 rfl ?_
  refine lv_istore_n (lv' := [(2, .int (0 : Int32)), (0, .ref (ad 22)), (1, .int x1)]) S.1 S.2.1 d_La_passOn_1 rfl hl (by decide) rfl (fun ls hl => ?_)
  refine lv_aload_n S.1 S.2.1 d_La_passOn_2 rfl (lv_at hl 1 rfl) ?_
  refine g_La_terms S hK I.1 d_La_passOn_3 ?_
  refine callV_roi S (c_Te_count l D ad cA _ _ _ _ _ _ _ _ h) (mkV S.2.2.2.2 ml_La_45 k_Te_count rfl rfl ⟨Nat.le_of_ble_eq_true rfl, Nat.le_of_ble_eq_true rfl⟩) (rv_Te hK I.1) hK I.1 hl.1 rfl rfl (Nat.le_of_ble_eq_true rfl) d_La_passOn_6 ⟨Nat.zero_le _, Nat.zero_le _⟩ (fun r6 h => ?_)
  refine lv_istore_n (lv' := [(3, .int r6), (2, .int (0 : Int32)), (0, .ref (ad 22)), (1, .int x1)]) S.1 S.2.1 d_La_passOn_9 rfl hl (by decide) rfl (fun ls hl => ?_)
  refine lv_iconst (v := (0 : Int32)) S.1 S.2.1 d_La_passOn_10 rfl ?_
  refine lv_istore (lv' := [(4, .int (0 : Int32)), (3, .int r6), (2, .int (0 : Int32)), (0, .ref (ad 22)), (1, .int x1)]) S.1 S.2.1 d_La_passOn_11 hl (by decide) rfl (fun ls hl => ?_)
  obtain ⟨n', h⟩ := h
  exact n_La_passOn_13 S hr hlk hK hA n' _ _ _ _ _ _ _ h (lv_sub hl [3, 4, 2, 1, 0] rfl) I

set_option maxHeartbeats 4000000 in
set_option maxRecDepth 100000 in
theorem n_La_spread_12 {p : Program} {l : Launch} {e : Env} {s : State} {m : MethodId} {args : Array Value} {below : List Frame} {meth : Method} {c : Code} {D : va_G} {A : Nat → Prop} {ad : Nat → Nat} {cA : ClassId × ClassId × ClassId} {te : Te} {ru : Ru} {au : Au} {re : Re} {sp : Sp} {le : Le} {x1 : Int32} {Q : La → Prop} (S : CallFix p m c b_La_spread 4 s args gtbl R_La) (hr : meth.sig.returnType = none) (hlk : meth.locks = false) (hK : gK D (tyA cA) s) (hA : ∀ q : Nat, s.heap.size ≤ q → A q) : ∀ n : Nat, ∀ (ls : Array Slot) (H : Heap) (locs : List Loc) (x2 : Int32) (x3 : Int32) (la : La), p_La_spread_12 x1 te au re Q n x2 x3 la → lv_has ls 4 [(0, .ref (ad 22)), (1, .int x1), (2, .int x2), (3, .int x3)] → gIn D A s (wC ad cA) (te, ru, au, re, la, sp, le) H locs → W p l e rm_La_spread s m args below meth c H locs 0 0 (qV D (tyA cA) A (wC ad cA) (fun u : La => (te, ru, au, re, u, sp, le)) (fun u : La => Q u) below args s) (F0 m 12 ls []) := by
  intro n
  induction n with
  | zero =>
    intro ls H locs x2 x3 la h
    exact (show False from h).elim
  | succ n ih =>
    intro ls H locs x2 x3 la h hl I
    refine lv_iload_n S.1 S.2.1 d_La_spread_12 rfl (lv_at hl 3 rfl) ?_
    refine lv_sipush (v := (289 : Int32)) S.1 S.2.1 d_La_spread_13 rfl ?_
    refine lv_icmp_ge (tgt := 44) S.1 S.2.1 d_La_spread_16 (by decide) (fun hc => ?_) (fun hc => ?_)
    · have h := h.1 hc
      exact ret_rwv S hr hlk hK I h d_La_spread_44
    · have h := h.2 hc
      refine lv_iload_n S.1 S.2.1 d_La_spread_19 rfl (lv_at hl 2 rfl) ?_
      refine lv_if_eq (tgt := 44) S.1 S.2.1 d_La_spread_20 (by decide) (fun hc => ?_) (fun hc => ?_)
      · have h := h.1 hc
        exact ret_rwv S hr hlk hK I h d_La_spread_44
      · have h := h.2 hc
        refine lv_aload_n S.1 S.2.1 d_La_spread_23 rfl (lv_at hl 0 rfl) ?_
        refine callV_rwi S (c_La_runFromParts l D ad cA _ _ _ _ _ _ _ _ h) (mkV S.2.2.2.2 ml_La_33 k_La_runFromParts rfl rfl ⟨Nat.le_of_ble_eq_true rfl, Nat.le_of_ble_eq_true rfl⟩) (rv_La hK I.1) hK hA I hl.1 rfl rfl (Nat.le_of_ble_eq_true rfl) d_La_spread_24 ⟨Nat.zero_le _, Nat.zero_le _⟩ (fun r24 la24 H locs h I => ?_)
        refine lv_istore_n (lv' := [(2, .int r24), (0, .ref (ad 22)), (1, .int x1), (3, .int x3)]) S.1 S.2.1 d_La_spread_27 rfl hl (by decide) rfl (fun ls hl => ?_)
        refine lv_aload_n S.1 S.2.1 d_La_spread_28 rfl (lv_at hl 1 rfl) ?_
        refine lv_iload_n S.1 S.2.1 d_La_spread_29 rfl (lv_at hl 2 rfl) ?_
        refine callV_rwi S (c_La_passOn l D ad cA _ _ _ _ _ _ _ _ _ h) (mkV S.2.2.2.2 ml_La_41 k_La_passOn rfl rfl ⟨Nat.le_of_ble_eq_true rfl, Nat.le_of_ble_eq_true rfl⟩) (rv_La hK I.1) hK hA I hl.1 rfl rfl (Nat.le_of_ble_eq_true rfl) d_La_spread_30 ⟨Nat.zero_le _, Nat.zero_le _⟩ (fun r30 la30 H locs h I => ?_)
        refine lv_if_eq (tgt := 38) S.1 S.2.1 d_La_spread_33 (by decide) (fun hc => ?_) (fun hc => ?_)
        · have h := h.1 hc
          refine lv_iinc (k := 3) (v := x3 + (1 : Int32)) (lv' := [(3, .int (x3 + (1 : Int32))), (2, .int r24), (0, .ref (ad 22)), (1, .int x1)]) S.1 S.2.1 d_La_spread_38 hl rfl rfl (by decide) rfl (fun ls hl => ?_)
          refine lv_goto (tgt := 12) S.1 S.2.1 d_La_spread_41 (by decide) ?_
          exact ih _ _ _ _ _ _ h (lv_sub hl [2, 3, 1, 0] rfl) I
        · have h := h.2 hc
          refine lv_iconst (v := (1 : Int32)) S.1 S.2.1 d_La_spread_36 rfl ?_
          refine lv_istore_n (lv' := [(2, .int (1 : Int32)), (0, .ref (ad 22)), (1, .int x1), (3, .int x3)]) S.1 S.2.1 d_La_spread_37 rfl hl (by decide) rfl (fun ls hl => ?_)
          refine lv_iinc (k := 3) (v := x3 + (1 : Int32)) (lv' := [(3, .int (x3 + (1 : Int32))), (2, .int (1 : Int32)), (0, .ref (ad 22)), (1, .int x1)]) S.1 S.2.1 d_La_spread_38 hl rfl rfl (by decide) rfl (fun ls hl => ?_)
          refine lv_goto (tgt := 12) S.1 S.2.1 d_La_spread_41 (by decide) ?_
          exact ih _ _ _ _ _ _ h (lv_sub hl [2, 3, 1, 0] rfl) I
set_option maxHeartbeats 4000000 in
set_option maxRecDepth 100000 in
theorem c_La_spread (l : Launch) (D : va_G) (ad : Nat → Nat) (cA : ClassId × ClassId × ClassId) (te : Te) (ru : Ru) (au : Au) (re : Re) (la : La) (sp : Sp) (le : Le) (x1 : Int32) (Q : La → Prop) (h : p_La_spread x1 te au re la Q) : rwV l y_La_spread (wsOf y_La_spread b_La_spread 4 none) rm_La_spread D (tyA cA) (wC ad cA) [.ref (ad 22), .int x1] (te, ru, au, re, la, sp, le) (fun u : La => (te, ru, au, re, u, sp, le)) (fun u : La => Q u) := by
  refine rwV_of (by decide) (Nat.le_of_ble_eq_true rfl) ?_
  intro p e s m below meth c S hr hlk hK A hA I ls hl
  have hl : lv_has ls 4 [(0, .ref (ad 22)), (1, .int x1)] := hl
  refine lv_aload_n S.1 S.2.1 d_La_spread_0 rfl (lv_at hl 0 rfl) ?_
  refine g_La_states S hK I.1 d_La_spread_1 ?_
  refine lv_iconst (v := (0 : Int32)) S.1 S.2.1 d_La_spread_4 rfl ?_
  refine callS_rwv S (c_Ar_fillI_states l D ad cA _ _ _ _ _ _ _ _ _ h) (mkS S.2.2.2.2 ml_La_27 k_Ar_fillI rfl rfl ⟨Nat.le_of_ble_eq_true rfl, Nat.le_of_ble_eq_true rfl⟩) hK hA I hl.1 rfl rfl (Nat.le_of_ble_eq_true rfl) d_La_spread_5 ⟨Nat.zero_le _, Nat.zero_le _⟩ (fun la5 H locs h I => ?_)
  refine lv_iconst (v := (1 : Int32)) S.1 S.2.1 d_La_spread_8 rfl ?_
  refine lv_istore_n (lv' := [(2, .int (1 : Int32)), (0, .ref (ad 22)), (1, .int x1)]) S.1 S.2.1 d_La_spread_9 rfl hl (by decide) rfl (fun ls hl => ?_)
  refine lv_iconst (v := (0 : Int32)) S.1 S.2.1 d_La_spread_10 rfl ?_
  refine lv_istore_n (lv' := [(3, .int (0 : Int32)), (2, .int (1 : Int32)), (0, .ref (ad 22)), (1, .int x1)]) S.1 S.2.1 d_La_spread_11 rfl hl (by decide) rfl (fun ls hl => ?_)
  obtain ⟨n', h⟩ := h
  exact n_La_spread_12 S hr hlk hK hA n' _ _ _ _ _ _ h (lv_sub hl [2, 3, 1, 0] rfl) I

set_option maxHeartbeats 4000000 in
set_option maxRecDepth 100000 in
theorem c_La_statesBefore (l : Launch) (D : va_G) (ad : Nat → Nat) (cA : ClassId × ClassId × ClassId) (te : Te) (ru : Ru) (au : Au) (re : Re) (la : La) (sp : Sp) (le : Le) (x1 : Int32) (Q : Int32 → La → Prop) (h : p_La_statesBefore x1 te au re la Q) : rwI l y_La_statesBefore (wsOf y_La_statesBefore b_La_statesBefore 2 (some .int)) rm_La_statesBefore D (tyA cA) (wC ad cA) [.ref (ad 22), .int x1] (te, ru, au, re, la, sp, le) (fun u : La => (te, ru, au, re, u, sp, le)) (fun (r : Int32) (u : La) => Q r u) := by
  refine rwI_of (by decide) (Nat.le_of_ble_eq_true rfl) ?_
  intro p e s m below meth c S hr hlk hK A hA I ls hl
  have hl : lv_has ls 2 [(0, .ref (ad 22)), (1, .int x1)] := hl
  refine lv_aload_n S.1 S.2.1 d_La_statesBefore_0 rfl (lv_at hl 0 rfl) ?_
  refine lv_iconst (v := (1 : Int32)) S.1 S.2.1 d_La_statesBefore_1 rfl ?_
  refine callV_rwv S (c_La_spread l D ad cA _ _ _ _ _ _ _ _ _ h) (mkV S.2.2.2.2 ml_La_37 k_La_spread rfl rfl ⟨Nat.le_of_ble_eq_true rfl, Nat.le_of_ble_eq_true rfl⟩) (rv_La hK I.1) hK hA I hl.1 rfl rfl (Nat.le_of_ble_eq_true rfl) d_La_statesBefore_2 ⟨Nat.zero_le _, Nat.zero_le _⟩ (fun la2 H locs h I => ?_)
  refine lv_aload_n S.1 S.2.1 d_La_statesBefore_5 rfl (lv_at hl 0 rfl) ?_
  refine g_La_states S hK I.1 d_La_statesBefore_6 ?_
  refine lv_iload_n S.1 S.2.1 d_La_statesBefore_9 rfl (lv_at hl 1 rfl) ?_
  obtain ⟨hin, h⟩ := h
  refine a_La_states S hK I.1 hin d_La_statesBefore_10 ?_
  exact ret_rwi S hr hlk hK I h d_La_statesBefore_11

set_option maxHeartbeats 4000000 in
set_option maxRecDepth 100000 in
theorem c_La_statesBehind (l : Launch) (D : va_G) (ad : Nat → Nat) (cA : ClassId × ClassId × ClassId) (te : Te) (ru : Ru) (au : Au) (re : Re) (la : La) (sp : Sp) (le : Le) (x1 : Int32) (Q : Int32 → La → Prop) (h : p_La_statesBehind x1 te au re la Q) : rwI l y_La_statesBehind (wsOf y_La_statesBehind b_La_statesBehind 2 (some .int)) rm_La_statesBehind D (tyA cA) (wC ad cA) [.ref (ad 22), .int x1] (te, ru, au, re, la, sp, le) (fun u : La => (te, ru, au, re, u, sp, le)) (fun (r : Int32) (u : La) => Q r u) := by
  refine rwI_of (by decide) (Nat.le_of_ble_eq_true rfl) ?_
  intro p e s m below meth c S hr hlk hK A hA I ls hl
  have hl : lv_has ls 2 [(0, .ref (ad 22)), (1, .int x1)] := hl
  refine lv_aload_n S.1 S.2.1 d_La_statesBehind_0 rfl (lv_at hl 0 rfl) ?_
  refine lv_iconst (v := (0 : Int32)) S.1 S.2.1 d_La_statesBehind_1 rfl ?_
  refine callV_rwv S (c_La_spread l D ad cA _ _ _ _ _ _ _ _ _ h) (mkV S.2.2.2.2 ml_La_37 k_La_spread rfl rfl ⟨Nat.le_of_ble_eq_true rfl, Nat.le_of_ble_eq_true rfl⟩) (rv_La hK I.1) hK hA I hl.1 rfl rfl (Nat.le_of_ble_eq_true rfl) d_La_statesBehind_2 ⟨Nat.zero_le _, Nat.zero_le _⟩ (fun la2 H locs h I => ?_)
  refine lv_aload_n S.1 S.2.1 d_La_statesBehind_5 rfl (lv_at hl 0 rfl) ?_
  refine g_La_states S hK I.1 d_La_statesBehind_6 ?_
  refine lv_iload_n S.1 S.2.1 d_La_statesBehind_9 rfl (lv_at hl 1 rfl) ?_
  obtain ⟨hin, h⟩ := h
  refine a_La_states S hK I.1 hin d_La_statesBehind_10 ?_
  exact ret_rwi S hr hlk hK I h d_La_statesBehind_11
end
section
set_option maxHeartbeats 4000000 in
set_option maxRecDepth 100000 in
theorem n_Sp_rebuild_116 {p : Program} {l : Launch} {e : Env} {s : State} {m : MethodId} {args : Array Value} {below : List Frame} {meth : Method} {c : Code} {D : va_G} {A : Nat → Prop} {ad : Nat → Nat} {cA : ClassId × ClassId × ClassId} {ru : Ru} {au : Au} {re : Re} {la : La} {sp : Sp} {le : Le} {x1 : Int32} {x2 : Int32} {Q : Int32 → Te → Prop} (S : CallFix p m c b_Sp_rebuild 9 s args gtbl R_Sp) (hr : meth.sig.returnType = (some .int)) (hlk : meth.locks = false) (hK : gK D (tyA cA) s) (hA : ∀ q : Nat, s.heap.size ≤ q → A q) : ∀ (ls : Array Slot) (H : Heap) (locs : List Loc) (x3 : Int32) (x4 : Int32) (te : Te), p_Sp_rebuild_116 x1 x2 sp Q x3 x4 te → lv_has ls 9 [(0, .ref (ad 24)), (3, .int x3), (4, .int x4)] → gIn D A s (wC ad cA) (te, ru, au, re, la, sp, le) H locs → W p l e rm_Sp_rebuild s m args below meth c H locs 0 0 (qI D (tyA cA) A (wC ad cA) (fun u : Te => (u, ru, au, re, la, sp, le)) (fun (r : Int32) (u : Te) => Q r u) below args s) (F0 m 116 ls []) := by
  intro ls H locs x3 x4 te h hl I
  refine lv_iload S.1 S.2.1 d_Sp_rebuild_116 (lv_at hl 2 rfl) ?_
  refine lv_iconst (v := (-1 : Int32)) S.1 S.2.1 d_Sp_rebuild_118 rfl ?_
  refine lv_icmp_ne (tgt := 130) S.1 S.2.1 d_Sp_rebuild_119 (by decide) (fun hc => ?_) (fun hc => ?_)
  · have h := h.1 hc
    refine lv_iload S.1 S.2.1 d_Sp_rebuild_130 (lv_at hl 2 rfl) ?_
    exact ret_rwi S hr hlk hK I h d_Sp_rebuild_132
  · have h := h.2 hc
    refine lv_aload_n S.1 S.2.1 d_Sp_rebuild_122 rfl (lv_at hl 0 rfl) ?_
    refine g_Sp_terms S hK I.1 d_Sp_rebuild_123 ?_
    refine lv_iload_n S.1 S.2.1 d_Sp_rebuild_126 rfl (lv_at hl 1 rfl) ?_
    refine callV_rwv S (c_Te_keepFirst l D ad cA _ _ _ _ _ _ _ _ _ h) (mkV S.2.2.2.2 ml_Sp_78 k_Te_keepFirst rfl rfl ⟨Nat.le_of_ble_eq_true rfl, Nat.le_of_ble_eq_true rfl⟩) (rv_Te hK I.1) hK hA I hl.1 rfl rfl (Nat.le_of_ble_eq_true rfl) d_Sp_rebuild_127 ⟨Nat.zero_le _, Nat.zero_le _⟩ (fun te127 H locs h I => ?_)
    refine lv_iload S.1 S.2.1 d_Sp_rebuild_130 (lv_at hl 2 rfl) ?_
    exact ret_rwi S hr hlk hK I h d_Sp_rebuild_132
set_option maxHeartbeats 4000000 in
set_option maxRecDepth 100000 in
theorem n_Sp_rebuild_86 {p : Program} {l : Launch} {e : Env} {s : State} {m : MethodId} {args : Array Value} {below : List Frame} {meth : Method} {c : Code} {D : va_G} {A : Nat → Prop} {ad : Nat → Nat} {cA : ClassId × ClassId × ClassId} {ru : Ru} {au : Au} {re : Re} {la : La} {sp : Sp} {le : Le} {x1 : Int32} {x2 : Int32} {Q : Int32 → Te → Prop} (S : CallFix p m c b_Sp_rebuild 9 s args gtbl R_Sp) (hr : meth.sig.returnType = (some .int)) (hlk : meth.locks = false) (hK : gK D (tyA cA) s) (hA : ∀ q : Nat, s.heap.size ≤ q → A q) {k16 : Int32 → Int32 → Int32 → Te → Prop} (hk16 : ∀ (ls : Array Slot) (H : Heap) (locs : List Loc) (x3 : Int32) (x4 : Int32) (x5 : Int32) (te : Te), k16 x3 x4 x5 te → lv_has ls 9 [(0, .ref (ad 24)), (3, .int x3), (4, .int x4), (5, .int x5)] → gIn D A s (wC ad cA) (te, ru, au, re, la, sp, le) H locs → W p l e rm_Sp_rebuild s m args below meth c H locs 0 0 (qI D (tyA cA) A (wC ad cA) (fun u : Te => (u, ru, au, re, la, sp, le)) (fun (r : Int32) (u : Te) => Q r u) below args s) (F0 m 16 ls [])) : ∀ (ls : Array Slot) (H : Heap) (locs : List Loc) (x3 : Int32) (x5 : Int32) (x6 : Int32) (x7 : Int32) (y0 : Int32) (te : Te), p_Sp_rebuild_86 x1 x2 sp Q k16 x3 x5 x6 x7 y0 te → lv_has ls 9 [(0, .ref (ad 24)), (3, .int x3), (5, .int x5), (6, .int x6), (7, .int x7)] → gIn D A s (wC ad cA) (te, ru, au, re, la, sp, le) H locs → W p l e rm_Sp_rebuild s m args below meth c H locs 0 0 (qI D (tyA cA) A (wC ad cA) (fun u : Te => (u, ru, au, re, la, sp, le)) (fun (r : Int32) (u : Te) => Q r u) below args s) (F0 m 86 ls [.int y0]) := by
  intro ls H locs x3 x5 x6 x7 y0 te h hl I
  refine lv_istore (lv' := [(8, .int y0), (0, .ref (ad 24)), (3, .int x3), (5, .int x5), (6, .int x6), (7, .int x7)]) S.1 S.2.1 d_Sp_rebuild_86 hl (by decide) rfl (fun ls hl => ?_)
  refine lv_aload_n S.1 S.2.1 d_Sp_rebuild_88 rfl (lv_at hl 1 rfl) ?_
  refine g_Sp_terms S hK I.1 d_Sp_rebuild_89 ?_
  refine lv_aload_n S.1 S.2.1 d_Sp_rebuild_92 rfl (lv_at hl 1 rfl) ?_
  refine g_Sp_terms S hK I.1 d_Sp_rebuild_93 ?_
  refine lv_iload S.1 S.2.1 d_Sp_rebuild_96 (lv_at hl 4 rfl) ?_
  refine callV_roi S (c_Te_symbolOf l D ad cA _ _ _ _ _ _ _ _ _ h) (mkV S.2.2.2.2 ml_Sp_71 k_Te_symbolOf rfl rfl ⟨Nat.le_of_ble_eq_true rfl, Nat.le_of_ble_eq_true rfl⟩) (rv_Te hK I.1) hK I.1 hl.1 rfl rfl (Nat.le_of_ble_eq_true rfl) d_Sp_rebuild_98 ⟨Nat.zero_le _, Nat.zero_le _⟩ (fun r98 h => ?_)
  refine lv_iload S.1 S.2.1 d_Sp_rebuild_101 (lv_at hl 5 rfl) ?_
  refine lv_iload S.1 S.2.1 d_Sp_rebuild_103 (lv_at hl 0 rfl) ?_
  refine callV_rwi S (c_Te_findOrAppend l D ad cA _ _ _ _ _ _ _ _ _ _ _ h) (mkV S.2.2.2.2 ml_Sp_74 k_Te_findOrAppend rfl rfl ⟨Nat.le_of_ble_eq_true rfl, Nat.le_of_ble_eq_true rfl⟩) (rv_Te hK I.1) hK hA I hl.1 rfl rfl (Nat.le_of_ble_eq_true rfl) d_Sp_rebuild_105 ⟨Nat.zero_le _, Nat.zero_le _⟩ (fun r105 te105 H locs h I => ?_)
  refine lv_istore (lv' := [(4, .int r105), (8, .int y0), (0, .ref (ad 24)), (3, .int x3), (5, .int x5), (6, .int x6), (7, .int x7)]) S.1 S.2.1 d_Sp_rebuild_108 hl (by decide) rfl (fun ls hl => ?_)
  refine lv_iinc (k := 4) (v := x5 + (-1 : Int32)) (lv' := [(5, .int (x5 + (-1 : Int32))), (4, .int r105), (8, .int y0), (0, .ref (ad 24)), (3, .int x3), (6, .int x6), (7, .int x7)]) S.1 S.2.1 d_Sp_rebuild_110 hl rfl rfl (by decide) rfl (fun ls hl => ?_)
  refine lv_goto (tgt := 16) S.1 S.2.1 d_Sp_rebuild_113 (by decide) ?_
  exact hk16 _ _ _ _ _ _ _ h (lv_sub hl [3, 4, 1, 0] rfl) I
set_option maxHeartbeats 4000000 in
set_option maxRecDepth 100000 in
theorem n_Sp_rebuild_60 {p : Program} {l : Launch} {e : Env} {s : State} {m : MethodId} {args : Array Value} {below : List Frame} {meth : Method} {c : Code} {D : va_G} {A : Nat → Prop} {ad : Nat → Nat} {cA : ClassId × ClassId × ClassId} {ru : Ru} {au : Au} {re : Re} {la : La} {sp : Sp} {le : Le} {x1 : Int32} {x2 : Int32} {Q : Int32 → Te → Prop} (S : CallFix p m c b_Sp_rebuild 9 s args gtbl R_Sp) (hr : meth.sig.returnType = (some .int)) (hlk : meth.locks = false) (hK : gK D (tyA cA) s) (hA : ∀ q : Nat, s.heap.size ≤ q → A q) {k16 : Int32 → Int32 → Int32 → Te → Prop} (hk16 : ∀ (ls : Array Slot) (H : Heap) (locs : List Loc) (x3 : Int32) (x4 : Int32) (x5 : Int32) (te : Te), k16 x3 x4 x5 te → lv_has ls 9 [(0, .ref (ad 24)), (3, .int x3), (4, .int x4), (5, .int x5)] → gIn D A s (wC ad cA) (te, ru, au, re, la, sp, le) H locs → W p l e rm_Sp_rebuild s m args below meth c H locs 0 0 (qI D (tyA cA) A (wC ad cA) (fun u : Te => (u, ru, au, re, la, sp, le)) (fun (r : Int32) (u : Te) => Q r u) below args s) (F0 m 16 ls [])) : ∀ (ls : Array Slot) (H : Heap) (locs : List Loc) (x3 : Int32) (x4 : Int32) (x5 : Int32) (x6 : Int32) (y0 : Int32) (te : Te), p_Sp_rebuild_60 x1 x2 sp Q k16 x3 x4 x5 x6 y0 te → lv_has ls 9 [(0, .ref (ad 24)), (3, .int x3), (4, .int x4), (5, .int x5), (6, .int x6)] → gIn D A s (wC ad cA) (te, ru, au, re, la, sp, le) H locs → W p l e rm_Sp_rebuild s m args below meth c H locs 0 0 (qI D (tyA cA) A (wC ad cA) (fun u : Te => (u, ru, au, re, la, sp, le)) (fun (r : Int32) (u : Te) => Q r u) below args s) (F0 m 60 ls [.int y0]) := by
  intro ls H locs x3 x4 x5 x6 y0 te h hl I
  refine lv_istore (lv' := [(7, .int y0), (0, .ref (ad 24)), (3, .int x3), (4, .int x4), (5, .int x5), (6, .int x6)]) S.1 S.2.1 d_Sp_rebuild_60 hl (by decide) rfl (fun ls hl => ?_)
  refine lv_aload_n S.1 S.2.1 d_Sp_rebuild_62 rfl (lv_at hl 1 rfl) ?_
  refine g_Sp_wentFirst S hK I.1 d_Sp_rebuild_63 ?_
  refine lv_iload S.1 S.2.1 d_Sp_rebuild_66 (lv_at hl 4 rfl) ?_
  obtain ⟨hin, h⟩ := h
  refine a_Sp_wentFirst S hK I.1 hin d_Sp_rebuild_68 ?_
  refine lv_if_eq (tgt := 84) S.1 S.2.1 d_Sp_rebuild_69 (by decide) (fun hc => ?_) (fun hc => ?_)
  · have h := h.1 hc
    refine lv_iload S.1 S.2.1 d_Sp_rebuild_84 (lv_at hl 3 rfl) ?_
    exact n_Sp_rebuild_86 S hr hlk hK hA hk16 _ _ _ _ _ _ _ _ _ h (lv_sub hl [1, 2, 4, 5, 0] rfl) I
  · have h := h.2 hc
    refine lv_aload_n S.1 S.2.1 d_Sp_rebuild_72 rfl (lv_at hl 1 rfl) ?_
    refine g_Sp_terms S hK I.1 d_Sp_rebuild_73 ?_
    refine lv_iload S.1 S.2.1 d_Sp_rebuild_76 (lv_at hl 5 rfl) ?_
    refine callV_roi S (c_Te_secondOf l D ad cA _ _ _ _ _ _ _ _ _ h) (mkV S.2.2.2.2 ml_Sp_57 k_Te_secondOf rfl rfl ⟨Nat.le_of_ble_eq_true rfl, Nat.le_of_ble_eq_true rfl⟩) (rv_Te hK I.1) hK I.1 hl.1 rfl rfl (Nat.le_of_ble_eq_true rfl) d_Sp_rebuild_78 ⟨Nat.zero_le _, Nat.zero_le _⟩ (fun r78 h => ?_)
    refine lv_goto (tgt := 86) S.1 S.2.1 d_Sp_rebuild_81 (by decide) ?_
    exact n_Sp_rebuild_86 S hr hlk hK hA hk16 _ _ _ _ _ _ _ _ _ h (lv_sub hl [1, 2, 4, 5, 0] rfl) I
set_option maxHeartbeats 4000000 in
set_option maxRecDepth 100000 in
theorem n_Sp_rebuild_16 {p : Program} {l : Launch} {e : Env} {s : State} {m : MethodId} {args : Array Value} {below : List Frame} {meth : Method} {c : Code} {D : va_G} {A : Nat → Prop} {ad : Nat → Nat} {cA : ClassId × ClassId × ClassId} {ru : Ru} {au : Au} {re : Re} {la : La} {sp : Sp} {le : Le} {x1 : Int32} {x2 : Int32} {Q : Int32 → Te → Prop} (S : CallFix p m c b_Sp_rebuild 9 s args gtbl R_Sp) (hr : meth.sig.returnType = (some .int)) (hlk : meth.locks = false) (hK : gK D (tyA cA) s) (hA : ∀ q : Nat, s.heap.size ≤ q → A q) : ∀ n : Nat, ∀ (ls : Array Slot) (H : Heap) (locs : List Loc) (x3 : Int32) (x4 : Int32) (x5 : Int32) (te : Te), p_Sp_rebuild_16 x1 x2 sp Q n x3 x4 x5 te → lv_has ls 9 [(0, .ref (ad 24)), (3, .int x3), (4, .int x4), (5, .int x5)] → gIn D A s (wC ad cA) (te, ru, au, re, la, sp, le) H locs → W p l e rm_Sp_rebuild s m args below meth c H locs 0 0 (qI D (tyA cA) A (wC ad cA) (fun u : Te => (u, ru, au, re, la, sp, le)) (fun (r : Int32) (u : Te) => Q r u) below args s) (F0 m 16 ls []) := by
  intro n
  induction n with
  | zero =>
    intro ls H locs x3 x4 x5 te h
    exact (show False from h).elim
  | succ n ih =>
    intro ls H locs x3 x4 x5 te h hl I
    refine lv_iload S.1 S.2.1 d_Sp_rebuild_16 (lv_at hl 3 rfl) ?_
    refine lv_if_lt (tgt := 116) S.1 S.2.1 d_Sp_rebuild_18 (by decide) (fun hc => ?_) (fun hc => ?_)
    · have h := h.1 hc
      exact n_Sp_rebuild_116 S hr hlk hK hA _ _ _ _ _ _ h (lv_sub hl [0, 1, 2] rfl) I
    · have h := h.2 hc
      refine lv_iload S.1 S.2.1 d_Sp_rebuild_21 (lv_at hl 2 rfl) ?_
      refine lv_iconst (v := (-1 : Int32)) S.1 S.2.1 d_Sp_rebuild_23 rfl ?_
      refine lv_icmp_eq (tgt := 116) S.1 S.2.1 d_Sp_rebuild_24 (by decide) (fun hc => ?_) (fun hc => ?_)
      · have h := h.1 hc
        exact n_Sp_rebuild_116 S hr hlk hK hA _ _ _ _ _ _ h (lv_sub hl [0, 1, 2] rfl) I
      · have h := h.2 hc
        refine lv_aload_n S.1 S.2.1 d_Sp_rebuild_27 rfl (lv_at hl 0 rfl) ?_
        refine g_Sp_path S hK I.1 d_Sp_rebuild_28 ?_
        refine lv_iload S.1 S.2.1 d_Sp_rebuild_31 (lv_at hl 3 rfl) ?_
        obtain ⟨hin, h⟩ := h
        refine a_Sp_path S hK I.1 hin d_Sp_rebuild_33 ?_
        refine lv_istore (lv' := [(6, .int (Sp_path sp x5.toNatClampNeg)), (0, .ref (ad 24)), (3, .int x3), (4, .int x4), (5, .int x5)]) S.1 S.2.1 d_Sp_rebuild_34 hl (by decide) rfl (fun ls hl => ?_)
        refine lv_aload_n S.1 S.2.1 d_Sp_rebuild_36 rfl (lv_at hl 1 rfl) ?_
        refine g_Sp_wentFirst S hK I.1 d_Sp_rebuild_37 ?_
        refine lv_iload S.1 S.2.1 d_Sp_rebuild_40 (lv_at hl 4 rfl) ?_
        obtain ⟨hin, h⟩ := h
        refine a_Sp_wentFirst S hK I.1 hin d_Sp_rebuild_42 ?_
        refine lv_if_eq (tgt := 51) S.1 S.2.1 d_Sp_rebuild_43 (by decide) (fun hc => ?_) (fun hc => ?_)
        · have h := h.1 hc
          refine lv_aload_n S.1 S.2.1 d_Sp_rebuild_51 rfl (lv_at hl 1 rfl) ?_
          refine g_Sp_terms S hK I.1 d_Sp_rebuild_52 ?_
          refine lv_iload S.1 S.2.1 d_Sp_rebuild_55 (lv_at hl 0 rfl) ?_
          refine callV_roi S (c_Te_firstOf l D ad cA _ _ _ _ _ _ _ _ _ h) (mkV S.2.2.2.2 ml_Sp_48 k_Te_firstOf rfl rfl ⟨Nat.le_of_ble_eq_true rfl, Nat.le_of_ble_eq_true rfl⟩) (rv_Te hK I.1) hK I.1 hl.1 rfl rfl (Nat.le_of_ble_eq_true rfl) d_Sp_rebuild_57 ⟨Nat.zero_le _, Nat.zero_le _⟩ (fun r57 h => ?_)
          exact n_Sp_rebuild_60 S hr hlk hK hA ih _ _ _ _ _ _ _ _ _ h (lv_sub hl [1, 2, 3, 4, 0] rfl) I
        · have h := h.2 hc
          refine lv_iload S.1 S.2.1 d_Sp_rebuild_46 (lv_at hl 3 rfl) ?_
          refine lv_goto (tgt := 60) S.1 S.2.1 d_Sp_rebuild_48 (by decide) ?_
          exact n_Sp_rebuild_60 S hr hlk hK hA ih _ _ _ _ _ _ _ _ _ h (lv_sub hl [1, 2, 3, 4, 0] rfl) I
set_option maxHeartbeats 4000000 in
set_option maxRecDepth 100000 in
theorem c_Sp_rebuild (l : Launch) (D : va_G) (ad : Nat → Nat) (cA : ClassId × ClassId × ClassId) (te : Te) (ru : Ru) (au : Au) (re : Re) (la : La) (sp : Sp) (le : Le) (x1 : Int32) (x2 : Int32) (Q : Int32 → Te → Prop) (h : p_Sp_rebuild x1 x2 te sp Q) : rwI l y_Sp_rebuild (wsOf y_Sp_rebuild b_Sp_rebuild 9 (some .int)) rm_Sp_rebuild D (tyA cA) (wC ad cA) [.ref (ad 24), .int x1, .int x2] (te, ru, au, re, la, sp, le) (fun u : Te => (u, ru, au, re, la, sp, le)) (fun (r : Int32) (u : Te) => Q r u) := by
  refine rwI_of (by decide) (Nat.le_of_ble_eq_true rfl) ?_
  intro p e s m below meth c S hr hlk hK A hA I ls hl
  have hl : lv_has ls 9 [(0, .ref (ad 24)), (1, .int x1), (2, .int x2)] := hl
  refine lv_aload_n S.1 S.2.1 d_Sp_rebuild_0 rfl (lv_at hl 0 rfl) ?_
  refine g_Sp_terms S hK I.1 d_Sp_rebuild_1 ?_
  refine callV_roi S (c_Te_count l D ad cA _ _ _ _ _ _ _ _ h) (mkV S.2.2.2.2 ml_Sp_67 k_Te_count rfl rfl ⟨Nat.le_of_ble_eq_true rfl, Nat.le_of_ble_eq_true rfl⟩) (rv_Te hK I.1) hK I.1 hl.1 rfl rfl (Nat.le_of_ble_eq_true rfl) d_Sp_rebuild_4 ⟨Nat.zero_le _, Nat.zero_le _⟩ (fun r4 h => ?_)
  refine lv_istore_n (lv' := [(3, .int r4), (0, .ref (ad 24)), (1, .int x1), (2, .int x2)]) S.1 S.2.1 d_Sp_rebuild_7 rfl hl (by decide) rfl (fun ls hl => ?_)
  refine lv_iload_n S.1 S.2.1 d_Sp_rebuild_8 rfl (lv_at hl 3 rfl) ?_
  refine lv_istore (lv' := [(4, .int x2), (3, .int r4), (0, .ref (ad 24)), (1, .int x1), (2, .int x2)]) S.1 S.2.1 d_Sp_rebuild_9 hl (by decide) rfl (fun ls hl => ?_)
  refine lv_iload_n S.1 S.2.1 d_Sp_rebuild_11 rfl (lv_at hl 3 rfl) ?_
  refine lv_iconst (v := (1 : Int32)) S.1 S.2.1 d_Sp_rebuild_12 rfl ?_
  refine lv_isub S.1 S.2.1 d_Sp_rebuild_13 ?_
  refine lv_istore (lv' := [(5, .int (x1 - (1 : Int32))), (4, .int x2), (3, .int r4), (0, .ref (ad 24)), (1, .int x1), (2, .int x2)]) S.1 S.2.1 d_Sp_rebuild_14 hl (by decide) rfl (fun ls hl => ?_)
  obtain ⟨n', h⟩ := h
  exact n_Sp_rebuild_16 S hr hlk hK hA n' _ _ _ _ _ _ _ h (lv_sub hl [3, 2, 1, 0] rfl) I

set_option maxHeartbeats 4000000 in
set_option maxRecDepth 100000 in
theorem n_Sp_targetOf_151 {p : Program} {l : Launch} {e : Env} {s : State} {m : MethodId} {args : Array Value} {below : List Frame} {meth : Method} {c : Code} {D : va_G} {A : Nat → Prop} {ad : Nat → Nat} {cA : ClassId × ClassId × ClassId} {ru : Ru} {au : Au} {re : Re} {la : La} {le : Le} {x1 : Int32} {x2 : Int32} {Q : Int32 → Te → Sp → Prop} (S : CallFix p m c b_Sp_targetOf 8 s args gtbl R_Sp) (hr : meth.sig.returnType = (some .int)) (hlk : meth.locks = false) (hK : gK D (tyA cA) s) (hA : ∀ q : Nat, s.heap.size ≤ q → A q) : ∀ (ls : Array Slot) (H : Heap) (locs : List Loc) (x3 : Int32) (x4 : Int32) (x5 : Int64) (te : Te) (sp : Sp), p_Sp_targetOf_151 x1 x2 ru Q x3 x4 x5 te sp → lv_has ls 8 [(0, .ref (ad 24)), (3, .int x3), (4, .int x4), (5, .long x5)] → gIn D A s (wC ad cA) (te, ru, au, re, la, sp, le) H locs → W p l e rm_Sp_targetOf s m args below meth c H locs 0 0 (qI D (tyA cA) A (wC ad cA) (fun u : Te × Sp => (u.1, ru, au, re, la, u.2, le)) (fun (r : Int32) (u : Te × Sp) => Q r u.1 u.2) below args s) (F0 m 151 ls []) := by
  intro ls H locs x3 x4 x5 te sp h hl I
  refine lv_aload_n S.1 S.2.1 d_Sp_targetOf_151 rfl (lv_at hl 0 rfl) ?_
  refine lv_iload S.1 S.2.1 d_Sp_targetOf_152 (lv_at hl 2 rfl) ?_
  refine lv_aload_n S.1 S.2.1 d_Sp_targetOf_154 rfl (lv_at hl 0 rfl) ?_
  refine g_Sp_rules S hK I.1 d_Sp_targetOf_155 ?_
  refine lv_iload_n S.1 S.2.1 d_Sp_targetOf_158 rfl (lv_at hl 1 rfl) ?_
  refine lv_lload S.1 S.2.1 d_Sp_targetOf_159 (lv_at hl 3 rfl) ?_
  refine lv_l2i S.1 S.2.1 d_Sp_targetOf_161 rfl ?_
  refine callV_roi S (c_Ru_rightAt l D ad cA _ _ _ _ _ _ _ _ _ _ h) (mkV S.2.2.2.2 ml_Sp_60 k_Ru_rightAt rfl rfl ⟨Nat.le_of_ble_eq_true rfl, Nat.le_of_ble_eq_true rfl⟩) (rv_Ru hK I.1) hK I.1 hl.1 rfl rfl (Nat.le_of_ble_eq_true rfl) d_Sp_targetOf_162 ⟨Nat.zero_le _, Nat.zero_le _⟩ (fun r162 h => ?_)
  refine callV_rwi S (c_Sp_rebuild l D ad cA _ _ _ _ _ _ _ _ _ _ h) (mkV S.2.2.2.2 ml_Sp_64 k_Sp_rebuild rfl rfl ⟨Nat.le_of_ble_eq_true rfl, Nat.le_of_ble_eq_true rfl⟩) (rv_Sp hK I.1) hK hA I hl.1 rfl rfl (Nat.le_of_ble_eq_true rfl) d_Sp_targetOf_165 ⟨Nat.zero_le _, Nat.zero_le _⟩ (fun r165 te165 H locs h I => ?_)
  exact ret_rwi (u := (_, _)) S hr hlk hK I h d_Sp_targetOf_168
set_option maxHeartbeats 4000000 in
set_option maxRecDepth 100000 in
theorem n_Sp_targetOf_118 {p : Program} {l : Launch} {e : Env} {s : State} {m : MethodId} {args : Array Value} {below : List Frame} {meth : Method} {c : Code} {D : va_G} {A : Nat → Prop} {ad : Nat → Nat} {cA : ClassId × ClassId × ClassId} {ru : Ru} {au : Au} {re : Re} {la : La} {le : Le} {x1 : Int32} {x2 : Int32} {Q : Int32 → Te → Sp → Prop} (S : CallFix p m c b_Sp_targetOf 8 s args gtbl R_Sp) (hr : meth.sig.returnType = (some .int)) (hlk : meth.locks = false) (hK : gK D (tyA cA) s) (hA : ∀ q : Nat, s.heap.size ≤ q → A q) {k13 : Int32 → Int32 → Int64 → Te → Sp → Prop} (hk13 : ∀ (ls : Array Slot) (H : Heap) (locs : List Loc) (x3 : Int32) (x4 : Int32) (x5 : Int64) (te : Te) (sp : Sp), k13 x3 x4 x5 te sp → lv_has ls 8 [(0, .ref (ad 24)), (3, .int x3), (4, .int x4), (5, .long x5)] → gIn D A s (wC ad cA) (te, ru, au, re, la, sp, le) H locs → W p l e rm_Sp_targetOf s m args below meth c H locs 0 0 (qI D (tyA cA) A (wC ad cA) (fun u : Te × Sp => (u.1, ru, au, re, la, u.2, le)) (fun (r : Int32) (u : Te × Sp) => Q r u.1 u.2) below args s) (F0 m 13 ls [])) : ∀ (ls : Array Slot) (H : Heap) (locs : List Loc) (x3 : Int32) (x4 : Int32) (x7 : Int32) (y0 : Int64) (y1 : Int64) (te : Te) (sp : Sp), p_Sp_targetOf_118 x1 x2 ru Q k13 x3 x4 x7 y0 y1 te sp → lv_has ls 8 [(0, .ref (ad 24)), (3, .int x3), (4, .int x4), (7, .int x7)] → gIn D A s (wC ad cA) (te, ru, au, re, la, sp, le) H locs → W p l e rm_Sp_targetOf s m args below meth c H locs 0 0 (qI D (tyA cA) A (wC ad cA) (fun u : Te × Sp => (u.1, ru, au, re, la, u.2, le)) (fun (r : Int32) (u : Te × Sp) => Q r u.1 u.2) below args s) (F0 m 118 ls [.long y0, .long y1]) := by
  intro ls H locs x3 x4 x7 y0 y1 te sp h hl I
  refine lv_lsub S.1 S.2.1 d_Sp_targetOf_118 ?_
  refine lv_lstore (lv' := [(5, .long (y1 - y0)), (0, .ref (ad 24)), (3, .int x3), (4, .int x4), (7, .int x7)]) S.1 S.2.1 d_Sp_targetOf_119 hl (by decide) rfl (fun ls hl => ?_)
  refine lv_aload_n S.1 S.2.1 d_Sp_targetOf_121 rfl (lv_at hl 1 rfl) ?_
  refine g_Sp_wentFirst S hK I.1 d_Sp_targetOf_122 ?_
  refine lv_iload S.1 S.2.1 d_Sp_targetOf_125 (lv_at hl 3 rfl) ?_
  obtain ⟨hin, h⟩ := h
  refine a_Sp_wentFirst S hK I.1 hin d_Sp_targetOf_127 ?_
  refine lv_if_eq (tgt := 136) S.1 S.2.1 d_Sp_targetOf_128 (by decide) (fun hc => ?_) (fun hc => ?_)
  · have h := h.1 hc
    refine lv_aload_n S.1 S.2.1 d_Sp_targetOf_136 rfl (lv_at hl 1 rfl) ?_
    refine g_Sp_terms S hK I.1 d_Sp_targetOf_137 ?_
    refine lv_iload_n S.1 S.2.1 d_Sp_targetOf_140 rfl (lv_at hl 2 rfl) ?_
    refine callV_roi S (c_Te_secondOf l D ad cA _ _ _ _ _ _ _ _ _ h) (mkV S.2.2.2.2 ml_Sp_57 k_Te_secondOf rfl rfl ⟨Nat.le_of_ble_eq_true rfl, Nat.le_of_ble_eq_true rfl⟩) (rv_Te hK I.1) hK I.1 hl.1 rfl rfl (Nat.le_of_ble_eq_true rfl) d_Sp_targetOf_141 ⟨Nat.zero_le _, Nat.zero_le _⟩ (fun r141 h => ?_)
    refine lv_istore_n (lv' := [(3, .int r141), (5, .long (y1 - y0)), (0, .ref (ad 24)), (4, .int x4), (7, .int x7)]) S.1 S.2.1 d_Sp_targetOf_144 rfl hl (by decide) rfl (fun ls hl => ?_)
    refine lv_iinc (k := 3) (v := x4 + (1 : Int32)) (lv' := [(4, .int (x4 + (1 : Int32))), (3, .int r141), (5, .long (y1 - y0)), (0, .ref (ad 24)), (7, .int x7)]) S.1 S.2.1 d_Sp_targetOf_145 hl rfl rfl (by decide) rfl (fun ls hl => ?_)
    refine lv_goto (tgt := 13) S.1 S.2.1 d_Sp_targetOf_148 (by decide) ?_
    exact hk13 _ _ _ _ _ _ _ _ h (lv_sub hl [3, 1, 0, 2] rfl) I
  · have h := h.2 hc
    refine lv_iload S.1 S.2.1 d_Sp_targetOf_131 (lv_at hl 4 rfl) ?_
    refine lv_goto (tgt := 144) S.1 S.2.1 d_Sp_targetOf_133 (by decide) ?_
    refine lv_istore_n (lv' := [(3, .int x7), (5, .long (y1 - y0)), (0, .ref (ad 24)), (4, .int x4), (7, .int x7)]) S.1 S.2.1 d_Sp_targetOf_144 rfl hl (by decide) rfl (fun ls hl => ?_)
    refine lv_iinc (k := 3) (v := x4 + (1 : Int32)) (lv' := [(4, .int (x4 + (1 : Int32))), (3, .int x7), (5, .long (y1 - y0)), (0, .ref (ad 24)), (7, .int x7)]) S.1 S.2.1 d_Sp_targetOf_145 hl rfl rfl (by decide) rfl (fun ls hl => ?_)
    refine lv_goto (tgt := 13) S.1 S.2.1 d_Sp_targetOf_148 (by decide) ?_
    exact hk13 _ _ _ _ _ _ _ _ h (lv_sub hl [3, 1, 0, 2] rfl) I
set_option maxHeartbeats 4000000 in
set_option maxRecDepth 100000 in
theorem n_Sp_targetOf_95 {p : Program} {l : Launch} {e : Env} {s : State} {m : MethodId} {args : Array Value} {below : List Frame} {meth : Method} {c : Code} {D : va_G} {A : Nat → Prop} {ad : Nat → Nat} {cA : ClassId × ClassId × ClassId} {ru : Ru} {au : Au} {re : Re} {la : La} {le : Le} {x1 : Int32} {x2 : Int32} {Q : Int32 → Te → Sp → Prop} (S : CallFix p m c b_Sp_targetOf 8 s args gtbl R_Sp) (hr : meth.sig.returnType = (some .int)) (hlk : meth.locks = false) (hK : gK D (tyA cA) s) (hA : ∀ q : Nat, s.heap.size ≤ q → A q) {k13 : Int32 → Int32 → Int64 → Te → Sp → Prop} (hk13 : ∀ (ls : Array Slot) (H : Heap) (locs : List Loc) (x3 : Int32) (x4 : Int32) (x5 : Int64) (te : Te) (sp : Sp), k13 x3 x4 x5 te sp → lv_has ls 8 [(0, .ref (ad 24)), (3, .int x3), (4, .int x4), (5, .long x5)] → gIn D A s (wC ad cA) (te, ru, au, re, la, sp, le) H locs → W p l e rm_Sp_targetOf s m args below meth c H locs 0 0 (qI D (tyA cA) A (wC ad cA) (fun u : Te × Sp => (u.1, ru, au, re, la, u.2, le)) (fun (r : Int32) (u : Te × Sp) => Q r u.1 u.2) below args s) (F0 m 13 ls [])) : ∀ (ls : Array Slot) (H : Heap) (locs : List Loc) (x3 : Int32) (x4 : Int32) (x5 : Int64) (x7 : Int32) (y0 : Int32) (y1 : Int32) (te : Te) (sp : Sp), p_Sp_targetOf_95 x1 x2 ru Q k13 x3 x4 x5 x7 y0 y1 te sp → lv_has ls 8 [(0, .ref (ad 24)), (3, .int x3), (4, .int x4), (5, .long x5), (7, .int x7)] → gIn D A s (wC ad cA) (te, ru, au, re, la, sp, le) H locs → W p l e rm_Sp_targetOf s m args below meth c H locs 0 0 (qI D (tyA cA) A (wC ad cA) (fun u : Te × Sp => (u.1, ru, au, re, la, u.2, le)) (fun (r : Int32) (u : Te × Sp) => Q r u.1 u.2) below args s) (F0 m 95 ls [.int y0, .int y1, .ref (ad 27)]) := by
  intro ls H locs x3 x4 x5 x7 y0 y1 te sp h hl I
  obtain ⟨hin, h⟩ := h
  refine s_Sp_wentFirst S hK I hin d_Sp_targetOf_95 (fun H locs sp95 esp95 I => ?_)
  have h := h sp95 esp95
  refine lv_lload S.1 S.2.1 d_Sp_targetOf_96 (lv_at hl 3 rfl) ?_
  refine lv_aload_n S.1 S.2.1 d_Sp_targetOf_98 rfl (lv_at hl 0 rfl) ?_
  refine g_Sp_wentFirst S hK I.1 d_Sp_targetOf_99 ?_
  refine lv_iload S.1 S.2.1 d_Sp_targetOf_102 (lv_at hl 2 rfl) ?_
  obtain ⟨hin, h⟩ := h
  refine a_Sp_wentFirst S hK I.1 hin d_Sp_targetOf_104 ?_
  refine lv_if_eq (tgt := 112) S.1 S.2.1 d_Sp_targetOf_105 (by decide) (fun hc => ?_) (fun hc => ?_)
  · have h := h.1 hc
    refine lv_aload_n S.1 S.2.1 d_Sp_targetOf_112 rfl (lv_at hl 0 rfl) ?_
    refine lv_iload S.1 S.2.1 d_Sp_targetOf_113 (lv_at hl 4 rfl) ?_
    refine callV_rol S (c_Sp_countIn l D ad cA _ _ _ _ _ _ _ _ _ h) (mkV S.2.2.2.2 ml_Sp_53 k_Sp_countIn rfl rfl ⟨Nat.le_of_ble_eq_true rfl, Nat.le_of_ble_eq_true rfl⟩) (rv_Sp hK I.1) hK I.1 hl.1 rfl rfl (Nat.le_of_ble_eq_true rfl) d_Sp_targetOf_115 ⟨Nat.zero_le _, Nat.zero_le _⟩ (fun r115 h => ?_)
    exact n_Sp_targetOf_118 S hr hlk hK hA hk13 _ _ _ _ _ _ _ _ _ _ h (lv_sub hl [0, 1, 2, 4] rfl) I
  · have h := h.2 hc
    refine lv_lconst (v := (0 : Int64)) S.1 S.2.1 d_Sp_targetOf_108 rfl ?_
    refine lv_goto (tgt := 118) S.1 S.2.1 d_Sp_targetOf_109 (by decide) ?_
    exact n_Sp_targetOf_118 S hr hlk hK hA hk13 _ _ _ _ _ _ _ _ _ _ h (lv_sub hl [0, 1, 2, 4] rfl) I
set_option maxHeartbeats 4000000 in
set_option maxRecDepth 100000 in
theorem n_Sp_targetOf_13 {p : Program} {l : Launch} {e : Env} {s : State} {m : MethodId} {args : Array Value} {below : List Frame} {meth : Method} {c : Code} {D : va_G} {A : Nat → Prop} {ad : Nat → Nat} {cA : ClassId × ClassId × ClassId} {ru : Ru} {au : Au} {re : Re} {la : La} {le : Le} {x1 : Int32} {x2 : Int32} {Q : Int32 → Te → Sp → Prop} (S : CallFix p m c b_Sp_targetOf 8 s args gtbl R_Sp) (hr : meth.sig.returnType = (some .int)) (hlk : meth.locks = false) (hK : gK D (tyA cA) s) (hA : ∀ q : Nat, s.heap.size ≤ q → A q) : ∀ n : Nat, ∀ (ls : Array Slot) (H : Heap) (locs : List Loc) (x3 : Int32) (x4 : Int32) (x5 : Int64) (te : Te) (sp : Sp), p_Sp_targetOf_13 x1 x2 ru Q n x3 x4 x5 te sp → lv_has ls 8 [(0, .ref (ad 24)), (3, .int x3), (4, .int x4), (5, .long x5)] → gIn D A s (wC ad cA) (te, ru, au, re, la, sp, le) H locs → W p l e rm_Sp_targetOf s m args below meth c H locs 0 0 (qI D (tyA cA) A (wC ad cA) (fun u : Te × Sp => (u.1, ru, au, re, la, u.2, le)) (fun (r : Int32) (u : Te × Sp) => Q r u.1 u.2) below args s) (F0 m 13 ls []) := by
  intro n
  induction n with
  | zero =>
    intro ls H locs x3 x4 x5 te sp h
    exact (show False from h).elim
  | succ n ih =>
    intro ls H locs x3 x4 x5 te sp h hl I
    refine lv_iload S.1 S.2.1 d_Sp_targetOf_13 (lv_at hl 2 rfl) ?_
    refine lv_bipush (v := (48 : Int32)) S.1 S.2.1 d_Sp_targetOf_15 rfl ?_
    refine lv_icmp_ge (tgt := 151) S.1 S.2.1 d_Sp_targetOf_17 (by decide) (fun hc => ?_) (fun hc => ?_)
    · have h := h.1 hc
      exact n_Sp_targetOf_151 S hr hlk hK hA _ _ _ _ _ _ _ _ h (lv_sub hl [0, 1, 2, 3] rfl) I
    · have h := h.2 hc
      refine lv_iload_n S.1 S.2.1 d_Sp_targetOf_20 rfl (lv_at hl 1 rfl) ?_
      refine lv_iconst (v := (-1 : Int32)) S.1 S.2.1 d_Sp_targetOf_21 rfl ?_
      refine lv_icmp_eq (tgt := 151) S.1 S.2.1 d_Sp_targetOf_22 (by decide) (fun hc => ?_) (fun hc => ?_)
      · have h := h.1 hc
        exact n_Sp_targetOf_151 S hr hlk hK hA _ _ _ _ _ _ _ _ h (lv_sub hl [0, 1, 2, 3] rfl) I
      · have h := h.2 hc
        refine lv_lload S.1 S.2.1 d_Sp_targetOf_25 (lv_at hl 3 rfl) ?_
        refine lv_aload_n S.1 S.2.1 d_Sp_targetOf_27 rfl (lv_at hl 0 rfl) ?_
        refine g_Sp_rules S hK I.1 d_Sp_targetOf_28 ?_
        refine lv_iload_n S.1 S.2.1 d_Sp_targetOf_31 rfl (lv_at hl 1 rfl) ?_
        refine callV_roi S (c_Ru_countAt l D ad cA _ _ _ _ _ _ _ _ _ h) (mkV S.2.2.2.2 ml_Sp_42 k_Ru_countAt rfl rfl ⟨Nat.le_of_ble_eq_true rfl, Nat.le_of_ble_eq_true rfl⟩) (rv_Ru hK I.1) hK I.1 hl.1 rfl rfl (Nat.le_of_ble_eq_true rfl) d_Sp_targetOf_32 ⟨Nat.zero_le _, Nat.zero_le _⟩ (fun r32 h => ?_)
        refine lv_i2l S.1 S.2.1 d_Sp_targetOf_35 rfl ?_
        refine W.lcmp S.1 S.2.1 d_Sp_targetOf_36 ?_
        refine lv_if_lt (tgt := 151) S.1 S.2.1 d_Sp_targetOf_37 (by decide) (fun hc => ?_) (fun hc => ?_)
        · have h := h.1 hc
          exact n_Sp_targetOf_151 S hr hlk hK hA _ _ _ _ _ _ _ _ h (lv_sub hl [0, 1, 2, 3] rfl) I
        · have h := h.2 hc
          refine lv_lload S.1 S.2.1 d_Sp_targetOf_40 (lv_at hl 3 rfl) ?_
          refine lv_aload_n S.1 S.2.1 d_Sp_targetOf_42 rfl (lv_at hl 0 rfl) ?_
          refine g_Sp_rules S hK I.1 d_Sp_targetOf_43 ?_
          refine lv_iload_n S.1 S.2.1 d_Sp_targetOf_46 rfl (lv_at hl 1 rfl) ?_
          refine callV_roi S (c_Ru_countAt l D ad cA _ _ _ _ _ _ _ _ _ h) (mkV S.2.2.2.2 ml_Sp_42 k_Ru_countAt rfl rfl ⟨Nat.le_of_ble_eq_true rfl, Nat.le_of_ble_eq_true rfl⟩) (rv_Ru hK I.1) hK I.1 hl.1 rfl rfl (Nat.le_of_ble_eq_true rfl) d_Sp_targetOf_47 ⟨Nat.zero_le _, Nat.zero_le _⟩ (fun r47 h => ?_)
          refine lv_i2l S.1 S.2.1 d_Sp_targetOf_50 rfl ?_
          refine lv_lsub S.1 S.2.1 d_Sp_targetOf_51 ?_
          refine lv_lstore (lv' := [(5, .long (x5 - r47.toInt64)), (0, .ref (ad 24)), (3, .int x3), (4, .int x4)]) S.1 S.2.1 d_Sp_targetOf_52 hl (by decide) rfl (fun ls hl => ?_)
          refine lv_aload_n S.1 S.2.1 d_Sp_targetOf_54 rfl (lv_at hl 1 rfl) ?_
          refine g_Sp_terms S hK I.1 d_Sp_targetOf_55 ?_
          refine lv_iload_n S.1 S.2.1 d_Sp_targetOf_58 rfl (lv_at hl 2 rfl) ?_
          refine callV_roi S (c_Te_firstOf l D ad cA _ _ _ _ _ _ _ _ _ h) (mkV S.2.2.2.2 ml_Sp_48 k_Te_firstOf rfl rfl ⟨Nat.le_of_ble_eq_true rfl, Nat.le_of_ble_eq_true rfl⟩) (rv_Te hK I.1) hK I.1 hl.1 rfl rfl (Nat.le_of_ble_eq_true rfl) d_Sp_targetOf_59 ⟨Nat.zero_le _, Nat.zero_le _⟩ (fun r59 h => ?_)
          refine lv_istore (lv' := [(7, .int r59), (5, .long (x5 - r47.toInt64)), (0, .ref (ad 24)), (3, .int x3), (4, .int x4)]) S.1 S.2.1 d_Sp_targetOf_62 hl (by decide) rfl (fun ls hl => ?_)
          refine lv_aload_n S.1 S.2.1 d_Sp_targetOf_64 rfl (lv_at hl 2 rfl) ?_
          refine g_Sp_path S hK I.1 d_Sp_targetOf_65 ?_
          refine lv_iload S.1 S.2.1 d_Sp_targetOf_68 (lv_at hl 4 rfl) ?_
          refine lv_iload_n S.1 S.2.1 d_Sp_targetOf_70 rfl (lv_at hl 3 rfl) ?_
          obtain ⟨hin, h⟩ := h
          refine s_Sp_path S hK I hin d_Sp_targetOf_71 (fun H locs sp71 esp71 I => ?_)
          have h := h sp71 esp71
          refine lv_aload_n S.1 S.2.1 d_Sp_targetOf_72 rfl (lv_at hl 2 rfl) ?_
          refine g_Sp_wentFirst S hK I.1 d_Sp_targetOf_73 ?_
          refine lv_iload S.1 S.2.1 d_Sp_targetOf_76 (lv_at hl 4 rfl) ?_
          refine lv_lload S.1 S.2.1 d_Sp_targetOf_78 (lv_at hl 1 rfl) ?_
          refine lv_aload_n S.1 S.2.1 d_Sp_targetOf_80 rfl (lv_at hl 2 rfl) ?_
          refine lv_iload S.1 S.2.1 d_Sp_targetOf_81 (lv_at hl 0 rfl) ?_
          refine callV_rol S (c_Sp_countIn l D ad cA _ _ _ _ _ _ _ _ _ h) (mkV S.2.2.2.2 ml_Sp_53 k_Sp_countIn rfl rfl ⟨Nat.le_of_ble_eq_true rfl, Nat.le_of_ble_eq_true rfl⟩) (rv_Sp hK I.1) hK I.1 hl.1 rfl rfl (Nat.le_of_ble_eq_true rfl) d_Sp_targetOf_83 ⟨Nat.zero_le _, Nat.zero_le _⟩ (fun r83 h => ?_)
          refine W.lcmp S.1 S.2.1 d_Sp_targetOf_86 ?_
          refine lv_if_ge (tgt := 94) S.1 S.2.1 d_Sp_targetOf_87 (by decide) (fun hc => ?_) (fun hc => ?_)
          · have h := h.1 hc
            refine lv_iconst (v := (0 : Int32)) S.1 S.2.1 d_Sp_targetOf_94 rfl ?_
            exact n_Sp_targetOf_95 S hr hlk hK hA ih _ _ _ _ _ _ _ _ _ _ _ h (lv_sub hl [2, 3, 4, 1, 0] rfl) I
          · have h := h.2 hc
            refine lv_iconst (v := (1 : Int32)) S.1 S.2.1 d_Sp_targetOf_90 rfl ?_
            refine lv_goto (tgt := 95) S.1 S.2.1 d_Sp_targetOf_91 (by decide) ?_
            exact n_Sp_targetOf_95 S hr hlk hK hA ih _ _ _ _ _ _ _ _ _ _ _ h (lv_sub hl [2, 3, 4, 1, 0] rfl) I
set_option maxHeartbeats 4000000 in
set_option maxRecDepth 100000 in
theorem c_Sp_targetOf (l : Launch) (D : va_G) (ad : Nat → Nat) (cA : ClassId × ClassId × ClassId) (te : Te) (ru : Ru) (au : Au) (re : Re) (la : La) (sp : Sp) (le : Le) (x1 : Int32) (x2 : Int32) (Q : Int32 → Te → Sp → Prop) (h : p_Sp_targetOf x1 x2 te ru sp Q) : rwI l y_Sp_targetOf (wsOf y_Sp_targetOf b_Sp_targetOf 8 (some .int)) rm_Sp_targetOf D (tyA cA) (wC ad cA) [.ref (ad 24), .int x1, .int x2] (te, ru, au, re, la, sp, le) (fun u : Te × Sp => (u.1, ru, au, re, la, u.2, le)) (fun (r : Int32) (u : Te × Sp) => Q r u.1 u.2) := by
  refine rwI_of (by decide) (Nat.le_of_ble_eq_true rfl) ?_
  intro p e s m below meth c S hr hlk hK A hA I ls hl
  have hl : lv_has ls 8 [(0, .ref (ad 24)), (1, .int x1), (2, .int x2)] := hl
  refine lv_aload_n S.1 S.2.1 d_Sp_targetOf_0 rfl (lv_at hl 0 rfl) ?_
  refine callV_rwv S (c_Sp_countAll l D ad cA _ _ _ _ _ _ _ _ h) (mkV S.2.2.2.2 ml_Sp_31 k_Sp_countAll rfl rfl ⟨Nat.le_of_ble_eq_true rfl, Nat.le_of_ble_eq_true rfl⟩) (rv_Sp hK I.1) hK hA I hl.1 rfl rfl (Nat.le_of_ble_eq_true rfl) d_Sp_targetOf_1 ⟨Nat.zero_le _, Nat.zero_le _⟩ (fun sp1 H locs h I => ?_)
  refine lv_iload_n S.1 S.2.1 d_Sp_targetOf_4 rfl (lv_at hl 1 rfl) ?_
  refine lv_istore_n (lv' := [(3, .int x1), (0, .ref (ad 24)), (1, .int x1), (2, .int x2)]) S.1 S.2.1 d_Sp_targetOf_5 rfl hl (by decide) rfl (fun ls hl => ?_)
  refine lv_iconst (v := (0 : Int32)) S.1 S.2.1 d_Sp_targetOf_6 rfl ?_
  refine lv_istore (lv' := [(4, .int (0 : Int32)), (3, .int x1), (0, .ref (ad 24)), (1, .int x1), (2, .int x2)]) S.1 S.2.1 d_Sp_targetOf_7 hl (by decide) rfl (fun ls hl => ?_)
  refine lv_iload_n S.1 S.2.1 d_Sp_targetOf_9 rfl (lv_at hl 4 rfl) ?_
  refine lv_i2l S.1 S.2.1 d_Sp_targetOf_10 rfl ?_
  refine lv_lstore (lv' := [(5, .long x2.toInt64), (4, .int (0 : Int32)), (3, .int x1), (0, .ref (ad 24)), (1, .int x1), (2, .int x2)]) S.1 S.2.1 d_Sp_targetOf_11 hl (by decide) rfl (fun ls hl => ?_)
  obtain ⟨n', h⟩ := h
  exact n_Sp_targetOf_13 S hr hlk hK hA n' _ _ _ _ _ _ _ _ h (lv_sub hl [3, 2, 1, 0] rfl) I

set_option maxHeartbeats 4000000 in
set_option maxRecDepth 100000 in
theorem n_Ar_fillJ_after_6 {p : Program} {l : Launch} {e : Env} {s : State} {m : MethodId} {args : Array Value} {below : List Frame} {meth : Method} {c : Code} {D : va_G} {A : Nat → Prop} {ad : Nat → Nat} {cA : ClassId × ClassId × ClassId} {te : Te} {ru : Ru} {au : Au} {re : Re} {la : La} {sp : Sp} {x1 : Int64} {Q : Le → Prop} (S : CallFix p m c b_Ar_fillJ 5 s args gtbl R_Ar) (hr : meth.sig.returnType = none) (hlk : meth.locks = false) (hK : gK D (tyA cA) s) (hA : ∀ q : Nat, s.heap.size ≤ q → A q) : ∀ n : Nat, ∀ (ls : Array Slot) (H : Heap) (locs : List Loc) (x3 : Int32) (x4 : Int32) (le : Le), p_Ar_fillJ_after_6 x1 Q n x3 x4 le → lv_has ls 5 [(0, .ref (ad 29)), (1, .long x1), (3, .int x3), (4, .int x4)] → gIn D A s (wC ad cA) (te, ru, au, re, la, sp, le) H locs → W p l e rm_Ar_fillJ_after s m args below meth c H locs 0 0 (qV D (tyA cA) A (wC ad cA) (fun u : Le => (te, ru, au, re, la, sp, u)) (fun u : Le => Q u) below args s) (F0 m 6 ls []) := by
  intro n
  induction n with
  | zero =>
    intro ls H locs x3 x4 le h
    exact (show False from h).elim
  | succ n ih =>
    intro ls H locs x3 x4 le h hl I
    refine lv_iload_n S.1 S.2.1 d_Ar_fillJ_6 rfl (lv_at hl 2 rfl) ?_
    refine lv_iload S.1 S.2.1 d_Ar_fillJ_7 (lv_at hl 3 rfl) ?_
    refine lv_icmp_ge (tgt := 22) S.1 S.2.1 d_Ar_fillJ_9 (by decide) (fun hc => ?_) (fun hc => ?_)
    · have h := h.1 hc
      exact ret_rwv S hr hlk hK I h d_Ar_fillJ_22
    · have h := h.2 hc
      refine lv_aload_n S.1 S.2.1 d_Ar_fillJ_12 rfl (lv_at hl 0 rfl) ?_
      refine lv_iload_n S.1 S.2.1 d_Ar_fillJ_13 rfl (lv_at hl 2 rfl) ?_
      refine lv_lload_n S.1 S.2.1 d_Ar_fillJ_14 rfl (lv_at hl 1 rfl) ?_
      obtain ⟨hin, h⟩ := h
      refine s_Le_after S hK I hin d_Ar_fillJ_15 (fun H locs le15 ele15 I => ?_)
      have h := h le15 ele15
      refine lv_iinc (k := 2) (v := x3 + (1 : Int32)) (lv' := [(3, .int (x3 + (1 : Int32))), (0, .ref (ad 29)), (1, .long x1), (4, .int x4)]) S.1 S.2.1 d_Ar_fillJ_16 hl rfl rfl (by decide) rfl (fun ls hl => ?_)
      refine lv_goto (tgt := 6) S.1 S.2.1 d_Ar_fillJ_19 (by decide) ?_
      exact ih _ _ _ _ _ _ h (lv_sub hl [1, 2, 0, 3] rfl) I
set_option maxHeartbeats 4000000 in
set_option maxRecDepth 100000 in
theorem c_Ar_fillJ_after (l : Launch) (D : va_G) (ad : Nat → Nat) (cA : ClassId × ClassId × ClassId) (te : Te) (ru : Ru) (au : Au) (re : Re) (la : La) (sp : Sp) (le : Le) (x1 : Int64) (Q : Le → Prop) (h : p_Ar_fillJ_after x1 le Q) : rwV l y_Ar_fillJ (wsOf y_Ar_fillJ b_Ar_fillJ 5 none) rm_Ar_fillJ_after D (tyA cA) (wC ad cA) [.ref (ad 29), .long x1] (te, ru, au, re, la, sp, le) (fun u : Le => (te, ru, au, re, la, sp, u)) (fun u : Le => Q u) := by
  refine rwV_of (by decide) (Nat.le_of_ble_eq_true rfl) ?_
  intro p e s m below meth c S hr hlk hK A hA I ls hl
  have hl : lv_has ls 5 [(0, .ref (ad 29)), (1, .long x1)] := hl
  refine lv_iconst (v := (0 : Int32)) S.1 S.2.1 d_Ar_fillJ_0 rfl ?_
  refine lv_istore_n (lv' := [(3, .int (0 : Int32)), (0, .ref (ad 29)), (1, .long x1)]) S.1 S.2.1 d_Ar_fillJ_1 rfl hl (by decide) rfl (fun ls hl => ?_)
  refine lv_aload_n S.1 S.2.1 d_Ar_fillJ_2 rfl (lv_at hl 1 rfl) ?_
  refine n_Le_after S hK I.1 d_Ar_fillJ_3 ?_
  refine lv_istore (lv' := [(4, .int (3136 : Int32)), (3, .int (0 : Int32)), (0, .ref (ad 29)), (1, .long x1)]) S.1 S.2.1 d_Ar_fillJ_4 hl (by decide) rfl (fun ls hl => ?_)
  obtain ⟨n', h⟩ := h
  exact n_Ar_fillJ_after_6 S hr hlk hK hA n' _ _ _ _ _ _ h (lv_sub hl [2, 3, 1, 0] rfl) I

set_option maxHeartbeats 4000000 in
set_option maxRecDepth 100000 in
theorem n_Ar_fillJ_inLevels_6 {p : Program} {l : Launch} {e : Env} {s : State} {m : MethodId} {args : Array Value} {below : List Frame} {meth : Method} {c : Code} {D : va_G} {A : Nat → Prop} {ad : Nat → Nat} {cA : ClassId × ClassId × ClassId} {te : Te} {ru : Ru} {au : Au} {re : Re} {la : La} {sp : Sp} {x1 : Int64} {Q : Le → Prop} (S : CallFix p m c b_Ar_fillJ 5 s args gtbl R_Ar) (hr : meth.sig.returnType = none) (hlk : meth.locks = false) (hK : gK D (tyA cA) s) (hA : ∀ q : Nat, s.heap.size ≤ q → A q) : ∀ n : Nat, ∀ (ls : Array Slot) (H : Heap) (locs : List Loc) (x3 : Int32) (x4 : Int32) (le : Le), p_Ar_fillJ_inLevels_6 x1 Q n x3 x4 le → lv_has ls 5 [(0, .ref (ad 32)), (1, .long x1), (3, .int x3), (4, .int x4)] → gIn D A s (wC ad cA) (te, ru, au, re, la, sp, le) H locs → W p l e rm_Ar_fillJ_inLevels s m args below meth c H locs 0 0 (qV D (tyA cA) A (wC ad cA) (fun u : Le => (te, ru, au, re, la, sp, u)) (fun u : Le => Q u) below args s) (F0 m 6 ls []) := by
  intro n
  induction n with
  | zero =>
    intro ls H locs x3 x4 le h
    exact (show False from h).elim
  | succ n ih =>
    intro ls H locs x3 x4 le h hl I
    refine lv_iload_n S.1 S.2.1 d_Ar_fillJ_6 rfl (lv_at hl 2 rfl) ?_
    refine lv_iload S.1 S.2.1 d_Ar_fillJ_7 (lv_at hl 3 rfl) ?_
    refine lv_icmp_ge (tgt := 22) S.1 S.2.1 d_Ar_fillJ_9 (by decide) (fun hc => ?_) (fun hc => ?_)
    · have h := h.1 hc
      exact ret_rwv S hr hlk hK I h d_Ar_fillJ_22
    · have h := h.2 hc
      refine lv_aload_n S.1 S.2.1 d_Ar_fillJ_12 rfl (lv_at hl 0 rfl) ?_
      refine lv_iload_n S.1 S.2.1 d_Ar_fillJ_13 rfl (lv_at hl 2 rfl) ?_
      refine lv_lload_n S.1 S.2.1 d_Ar_fillJ_14 rfl (lv_at hl 1 rfl) ?_
      obtain ⟨hin, h⟩ := h
      refine s_Le_inLevels S hK I hin d_Ar_fillJ_15 (fun H locs le15 ele15 I => ?_)
      have h := h le15 ele15
      refine lv_iinc (k := 2) (v := x3 + (1 : Int32)) (lv' := [(3, .int (x3 + (1 : Int32))), (0, .ref (ad 32)), (1, .long x1), (4, .int x4)]) S.1 S.2.1 d_Ar_fillJ_16 hl rfl rfl (by decide) rfl (fun ls hl => ?_)
      refine lv_goto (tgt := 6) S.1 S.2.1 d_Ar_fillJ_19 (by decide) ?_
      exact ih _ _ _ _ _ _ h (lv_sub hl [1, 2, 0, 3] rfl) I
set_option maxHeartbeats 4000000 in
set_option maxRecDepth 100000 in
theorem c_Ar_fillJ_inLevels (l : Launch) (D : va_G) (ad : Nat → Nat) (cA : ClassId × ClassId × ClassId) (te : Te) (ru : Ru) (au : Au) (re : Re) (la : La) (sp : Sp) (le : Le) (x1 : Int64) (Q : Le → Prop) (h : p_Ar_fillJ_inLevels x1 le Q) : rwV l y_Ar_fillJ (wsOf y_Ar_fillJ b_Ar_fillJ 5 none) rm_Ar_fillJ_inLevels D (tyA cA) (wC ad cA) [.ref (ad 32), .long x1] (te, ru, au, re, la, sp, le) (fun u : Le => (te, ru, au, re, la, sp, u)) (fun u : Le => Q u) := by
  refine rwV_of (by decide) (Nat.le_of_ble_eq_true rfl) ?_
  intro p e s m below meth c S hr hlk hK A hA I ls hl
  have hl : lv_has ls 5 [(0, .ref (ad 32)), (1, .long x1)] := hl
  refine lv_iconst (v := (0 : Int32)) S.1 S.2.1 d_Ar_fillJ_0 rfl ?_
  refine lv_istore_n (lv' := [(3, .int (0 : Int32)), (0, .ref (ad 32)), (1, .long x1)]) S.1 S.2.1 d_Ar_fillJ_1 rfl hl (by decide) rfl (fun ls hl => ?_)
  refine lv_aload_n S.1 S.2.1 d_Ar_fillJ_2 rfl (lv_at hl 1 rfl) ?_
  refine n_Le_inLevels S hK I.1 d_Ar_fillJ_3 ?_
  refine lv_istore (lv' := [(4, .int (7 : Int32)), (3, .int (0 : Int32)), (0, .ref (ad 32)), (1, .long x1)]) S.1 S.2.1 d_Ar_fillJ_4 hl (by decide) rfl (fun ls hl => ?_)
  obtain ⟨n', h⟩ := h
  exact n_Ar_fillJ_inLevels_6 S hr hlk hK hA n' _ _ _ _ _ _ h (lv_sub hl [2, 3, 1, 0] rfl) I

set_option maxHeartbeats 4000000 in
set_option maxRecDepth 100000 in
theorem n_Ar_fillJ_newest_6 {p : Program} {l : Launch} {e : Env} {s : State} {m : MethodId} {args : Array Value} {below : List Frame} {meth : Method} {c : Code} {D : va_G} {A : Nat → Prop} {ad : Nat → Nat} {cA : ClassId × ClassId × ClassId} {te : Te} {ru : Ru} {au : Au} {re : Re} {la : La} {sp : Sp} {x1 : Int64} {Q : Le → Prop} (S : CallFix p m c b_Ar_fillJ 5 s args gtbl R_Ar) (hr : meth.sig.returnType = none) (hlk : meth.locks = false) (hK : gK D (tyA cA) s) (hA : ∀ q : Nat, s.heap.size ≤ q → A q) : ∀ n : Nat, ∀ (ls : Array Slot) (H : Heap) (locs : List Loc) (x3 : Int32) (x4 : Int32) (le : Le), p_Ar_fillJ_newest_6 x1 Q n x3 x4 le → lv_has ls 5 [(0, .ref (ad 33)), (1, .long x1), (3, .int x3), (4, .int x4)] → gIn D A s (wC ad cA) (te, ru, au, re, la, sp, le) H locs → W p l e rm_Ar_fillJ_newest s m args below meth c H locs 0 0 (qV D (tyA cA) A (wC ad cA) (fun u : Le => (te, ru, au, re, la, sp, u)) (fun u : Le => Q u) below args s) (F0 m 6 ls []) := by
  intro n
  induction n with
  | zero =>
    intro ls H locs x3 x4 le h
    exact (show False from h).elim
  | succ n ih =>
    intro ls H locs x3 x4 le h hl I
    refine lv_iload_n S.1 S.2.1 d_Ar_fillJ_6 rfl (lv_at hl 2 rfl) ?_
    refine lv_iload S.1 S.2.1 d_Ar_fillJ_7 (lv_at hl 3 rfl) ?_
    refine lv_icmp_ge (tgt := 22) S.1 S.2.1 d_Ar_fillJ_9 (by decide) (fun hc => ?_) (fun hc => ?_)
    · have h := h.1 hc
      exact ret_rwv S hr hlk hK I h d_Ar_fillJ_22
    · have h := h.2 hc
      refine lv_aload_n S.1 S.2.1 d_Ar_fillJ_12 rfl (lv_at hl 0 rfl) ?_
      refine lv_iload_n S.1 S.2.1 d_Ar_fillJ_13 rfl (lv_at hl 2 rfl) ?_
      refine lv_lload_n S.1 S.2.1 d_Ar_fillJ_14 rfl (lv_at hl 1 rfl) ?_
      obtain ⟨hin, h⟩ := h
      refine s_Le_newest S hK I hin d_Ar_fillJ_15 (fun H locs le15 ele15 I => ?_)
      have h := h le15 ele15
      refine lv_iinc (k := 2) (v := x3 + (1 : Int32)) (lv' := [(3, .int (x3 + (1 : Int32))), (0, .ref (ad 33)), (1, .long x1), (4, .int x4)]) S.1 S.2.1 d_Ar_fillJ_16 hl rfl rfl (by decide) rfl (fun ls hl => ?_)
      refine lv_goto (tgt := 6) S.1 S.2.1 d_Ar_fillJ_19 (by decide) ?_
      exact ih _ _ _ _ _ _ h (lv_sub hl [1, 2, 0, 3] rfl) I
set_option maxHeartbeats 4000000 in
set_option maxRecDepth 100000 in
theorem c_Ar_fillJ_newest (l : Launch) (D : va_G) (ad : Nat → Nat) (cA : ClassId × ClassId × ClassId) (te : Te) (ru : Ru) (au : Au) (re : Re) (la : La) (sp : Sp) (le : Le) (x1 : Int64) (Q : Le → Prop) (h : p_Ar_fillJ_newest x1 le Q) : rwV l y_Ar_fillJ (wsOf y_Ar_fillJ b_Ar_fillJ 5 none) rm_Ar_fillJ_newest D (tyA cA) (wC ad cA) [.ref (ad 33), .long x1] (te, ru, au, re, la, sp, le) (fun u : Le => (te, ru, au, re, la, sp, u)) (fun u : Le => Q u) := by
  refine rwV_of (by decide) (Nat.le_of_ble_eq_true rfl) ?_
  intro p e s m below meth c S hr hlk hK A hA I ls hl
  have hl : lv_has ls 5 [(0, .ref (ad 33)), (1, .long x1)] := hl
  refine lv_iconst (v := (0 : Int32)) S.1 S.2.1 d_Ar_fillJ_0 rfl ?_
  refine lv_istore_n (lv' := [(3, .int (0 : Int32)), (0, .ref (ad 33)), (1, .long x1)]) S.1 S.2.1 d_Ar_fillJ_1 rfl hl (by decide) rfl (fun ls hl => ?_)
  refine lv_aload_n S.1 S.2.1 d_Ar_fillJ_2 rfl (lv_at hl 1 rfl) ?_
  refine n_Le_newest S hK I.1 d_Ar_fillJ_3 ?_
  refine lv_istore (lv' := [(4, .int (7 : Int32)), (3, .int (0 : Int32)), (0, .ref (ad 33)), (1, .long x1)]) S.1 S.2.1 d_Ar_fillJ_4 hl (by decide) rfl (fun ls hl => ?_)
  obtain ⟨n', h⟩ := h
  exact n_Ar_fillJ_newest_6 S hr hlk hK hA n' _ _ _ _ _ _ h (lv_sub hl [2, 3, 1, 0] rfl) I

set_option maxHeartbeats 4000000 in
set_option maxRecDepth 100000 in
theorem n_Le_countWithParts_104 {p : Program} {l : Launch} {e : Env} {s : State} {m : MethodId} {args : Array Value} {below : List Frame} {meth : Method} {c : Code} {D : va_G} {A : Nat → Prop} {ad : Nat → Nat} {cA : ClassId × ClassId × ClassId} {te : Te} {ru : Ru} {au : Au} {re : Re} {la : La} {sp : Sp} {x1 : Int32} {Q : Le → Prop} (S : CallFix p m c b_Le_countWithParts 6 s args gtbl R_Le) (hr : meth.sig.returnType = none) (hlk : meth.locks = false) (hK : gK D (tyA cA) s) (hA : ∀ q : Nat, s.heap.size ≤ q → A q) {k17 : Int64 → Int32 → Le → Prop} (hk17 : ∀ (ls : Array Slot) (H : Heap) (locs : List Loc) (x2 : Int64) (x4 : Int32) (le : Le), k17 x2 x4 le → lv_has ls 6 [(0, .ref (ad 28)), (2, .long x2), (4, .int x4)] → gIn D A s (wC ad cA) (te, ru, au, re, la, sp, le) H locs → W p l e rm_Le_countWithParts s m args below meth c H locs 0 0 (qV D (tyA cA) A (wC ad cA) (fun u : Le => (te, ru, au, re, la, sp, u)) (fun u : Le => Q u) below args s) (F0 m 17 ls [])) : ∀ (ls : Array Slot) (H : Heap) (locs : List Loc) (x4 : Int32) (x5 : Int32) (y0 : Int64) (y1 : Int64) (le : Le), p_Le_countWithParts_104 x1 te Q k17 x4 x5 y0 y1 le → lv_has ls 6 [(0, .ref (ad 28)), (4, .int x4), (5, .int x5)] → gIn D A s (wC ad cA) (te, ru, au, re, la, sp, le) H locs → W p l e rm_Le_countWithParts s m args below meth c H locs 0 0 (qV D (tyA cA) A (wC ad cA) (fun u : Le => (te, ru, au, re, la, sp, u)) (fun u : Le => Q u) below args s) (F0 m 104 ls [.long y0, .long y1]) := by
  intro ls H locs x4 x5 y0 y1 le h hl I
  refine lv_lor S.1 S.2.1 d_Le_countWithParts_104 ?_
  refine lv_lstore_n (lv' := [(2, .long (y1 ||| y0)), (0, .ref (ad 28)), (4, .int x4), (5, .int x5)]) S.1 S.2.1 d_Le_countWithParts_105 rfl hl (by decide) rfl (fun ls hl => ?_)
  refine lv_lload_n S.1 S.2.1 d_Le_countWithParts_106 rfl (lv_at hl 0 rfl) ?_
  refine lv_iload S.1 S.2.1 d_Le_countWithParts_107 (lv_at hl 3 rfl) ?_
  refine lv_iconst (v := (2 : Int32)) S.1 S.2.1 d_Le_countWithParts_109 rfl ?_
  refine lv_icmp_ge (tgt := 117) S.1 S.2.1 d_Le_countWithParts_110 (by decide) (fun hc => ?_) (fun hc => ?_)
  · have h := h.1 hc
    refine lv_lconst (v := (1 : Int64)) S.1 S.2.1 d_Le_countWithParts_117 rfl ?_
    refine lv_aload_n S.1 S.2.1 d_Le_countWithParts_118 rfl (lv_at hl 1 rfl) ?_
    refine g_Le_terms S hK I.1 d_Le_countWithParts_119 ?_
    refine lv_iload S.1 S.2.1 d_Le_countWithParts_122 (lv_at hl 2 rfl) ?_
    refine callV_roi S (c_Te_secondOf l D ad cA _ _ _ _ _ _ _ _ _ h) (mkV S.2.2.2.2 ml_Le_109 k_Te_secondOf rfl rfl ⟨Nat.le_of_ble_eq_true rfl, Nat.le_of_ble_eq_true rfl⟩) (rv_Te hK I.1) hK I.1 hl.1 rfl rfl (Nat.le_of_ble_eq_true rfl) d_Le_countWithParts_124 ⟨Nat.zero_le _, Nat.zero_le _⟩ (fun r124 h => ?_)
    refine lv_lshl S.1 S.2.1 d_Le_countWithParts_127 rfl ?_
    refine lv_lor S.1 S.2.1 d_Le_countWithParts_128 ?_
    refine lv_lstore_n (lv' := [(2, .long ((y1 ||| y0) ||| ((1 : Int64) <<< (r124.toInt64 &&& 63)))), (0, .ref (ad 28)), (4, .int x4), (5, .int x5)]) S.1 S.2.1 d_Le_countWithParts_129 rfl hl (by decide) rfl (fun ls hl => ?_)
    refine lv_iinc (k := 2) (v := x4 + (-1 : Int32)) (lv' := [(4, .int (x4 + (-1 : Int32))), (2, .long ((y1 ||| y0) ||| ((1 : Int64) <<< (r124.toInt64 &&& 63)))), (0, .ref (ad 28)), (5, .int x5)]) S.1 S.2.1 d_Le_countWithParts_130 hl rfl rfl (by decide) rfl (fun ls hl => ?_)
    refine lv_goto (tgt := 17) S.1 S.2.1 d_Le_countWithParts_133 (by decide) ?_
    exact hk17 _ _ _ _ _ _ h (lv_sub hl [2, 1, 0] rfl) I
  · have h := h.2 hc
    refine lv_lconst (v := (0 : Int64)) S.1 S.2.1 d_Le_countWithParts_113 rfl ?_
    refine lv_goto (tgt := 128) S.1 S.2.1 d_Le_countWithParts_114 (by decide) ?_
    refine lv_lor S.1 S.2.1 d_Le_countWithParts_128 ?_
    refine lv_lstore_n (lv' := [(2, .long ((y1 ||| y0) ||| (0 : Int64))), (0, .ref (ad 28)), (4, .int x4), (5, .int x5)]) S.1 S.2.1 d_Le_countWithParts_129 rfl hl (by decide) rfl (fun ls hl => ?_)
    refine lv_iinc (k := 2) (v := x4 + (-1 : Int32)) (lv' := [(4, .int (x4 + (-1 : Int32))), (2, .long ((y1 ||| y0) ||| (0 : Int64))), (0, .ref (ad 28)), (5, .int x5)]) S.1 S.2.1 d_Le_countWithParts_130 hl rfl rfl (by decide) rfl (fun ls hl => ?_)
    refine lv_goto (tgt := 17) S.1 S.2.1 d_Le_countWithParts_133 (by decide) ?_
    exact hk17 _ _ _ _ _ _ h (lv_sub hl [2, 1, 0] rfl) I
set_option maxHeartbeats 4000000 in
set_option maxRecDepth 100000 in
theorem n_Le_countWithParts_17 {p : Program} {l : Launch} {e : Env} {s : State} {m : MethodId} {args : Array Value} {below : List Frame} {meth : Method} {c : Code} {D : va_G} {A : Nat → Prop} {ad : Nat → Nat} {cA : ClassId × ClassId × ClassId} {te : Te} {ru : Ru} {au : Au} {re : Re} {la : La} {sp : Sp} {x1 : Int32} {Q : Le → Prop} (S : CallFix p m c b_Le_countWithParts 6 s args gtbl R_Le) (hr : meth.sig.returnType = none) (hlk : meth.locks = false) (hK : gK D (tyA cA) s) (hA : ∀ q : Nat, s.heap.size ≤ q → A q) : ∀ n : Nat, ∀ (ls : Array Slot) (H : Heap) (locs : List Loc) (x2 : Int64) (x4 : Int32) (le : Le), p_Le_countWithParts_17 x1 te Q n x2 x4 le → lv_has ls 6 [(0, .ref (ad 28)), (2, .long x2), (4, .int x4)] → gIn D A s (wC ad cA) (te, ru, au, re, la, sp, le) H locs → W p l e rm_Le_countWithParts s m args below meth c H locs 0 0 (qV D (tyA cA) A (wC ad cA) (fun u : Le => (te, ru, au, re, la, sp, u)) (fun u : Le => Q u) below args s) (F0 m 17 ls []) := by
  intro n
  induction n with
  | zero =>
    intro ls H locs x2 x4 le h
    exact (show False from h).elim
  | succ n ih =>
    intro ls H locs x2 x4 le h hl I
    refine lv_iload S.1 S.2.1 d_Le_countWithParts_17 (lv_at hl 2 rfl) ?_
    refine lv_if_lt (tgt := 136) S.1 S.2.1 d_Le_countWithParts_19 (by decide) (fun hc => ?_) (fun hc => ?_)
    · have h := h.1 hc
      exact ret_rwv S hr hlk hK I h d_Le_countWithParts_136
    · have h := h.2 hc
      refine lv_lload_n S.1 S.2.1 d_Le_countWithParts_22 rfl (lv_at hl 1 rfl) ?_
      refine lv_iload S.1 S.2.1 d_Le_countWithParts_23 (lv_at hl 2 rfl) ?_
      refine lv_lshr S.1 S.2.1 d_Le_countWithParts_25 rfl ?_
      refine lv_lconst (v := (1 : Int64)) S.1 S.2.1 d_Le_countWithParts_26 rfl ?_
      refine lv_land S.1 S.2.1 d_Le_countWithParts_27 ?_
      refine lv_lconst (v := (0 : Int64)) S.1 S.2.1 d_Le_countWithParts_28 rfl ?_
      refine W.lcmp S.1 S.2.1 d_Le_countWithParts_29 ?_
      refine lv_if_eq (tgt := 130) S.1 S.2.1 d_Le_countWithParts_30 (by decide) (fun hc => ?_) (fun hc => ?_)
      · have h := h.1 hc
        refine lv_iinc (k := 2) (v := x4 + (-1 : Int32)) (lv' := [(4, .int (x4 + (-1 : Int32))), (0, .ref (ad 28)), (2, .long x2)]) S.1 S.2.1 d_Le_countWithParts_130 hl rfl rfl (by decide) rfl (fun ls hl => ?_)
        refine lv_goto (tgt := 17) S.1 S.2.1 d_Le_countWithParts_133 (by decide) ?_
        exact ih _ _ _ _ _ _ h (lv_sub hl [1, 2, 0] rfl) I
      · have h := h.2 hc
        refine lv_aload_n S.1 S.2.1 d_Le_countWithParts_33 rfl (lv_at hl 0 rfl) ?_
        refine g_Le_counted S hK I.1 d_Le_countWithParts_34 ?_
        refine lv_iload S.1 S.2.1 d_Le_countWithParts_37 (lv_at hl 2 rfl) ?_
        obtain ⟨hin, h⟩ := h
        refine a_Le_counted S hK I.1 hin d_Le_countWithParts_39 ?_
        refine lv_if_eq (tgt := 46) S.1 S.2.1 d_Le_countWithParts_40 (by decide) (fun hc => ?_) (fun hc => ?_)
        · have h := h.1 hc
          refine lv_aload_n S.1 S.2.1 d_Le_countWithParts_46 rfl (lv_at hl 0 rfl) ?_
          refine g_Le_counted S hK I.1 d_Le_countWithParts_47 ?_
          refine lv_iload S.1 S.2.1 d_Le_countWithParts_50 (lv_at hl 2 rfl) ?_
          refine lv_iconst (v := (1 : Int32)) S.1 S.2.1 d_Le_countWithParts_52 rfl ?_
          obtain ⟨hin, h⟩ := h
          refine s_Le_counted S hK I hin d_Le_countWithParts_53 (fun H locs le53 ele53 I => ?_)
          have h := h le53 ele53
          refine lv_aload_n S.1 S.2.1 d_Le_countWithParts_54 rfl (lv_at hl 0 rfl) ?_
          refine lv_dup S.1 S.2.1 d_Le_countWithParts_55 rfl ?_
          refine g_Le_countedTerms S hK I.1 d_Le_countWithParts_56 ?_
          refine lv_iconst (v := (1 : Int32)) S.1 S.2.1 d_Le_countWithParts_59 rfl ?_
          refine lv_iadd S.1 S.2.1 d_Le_countWithParts_60 ?_
          refine q_Le_countedTerms S hK I d_Le_countWithParts_61 (fun H locs le61 ele61 I => ?_)
          have h := h le61 ele61
          refine lv_aload_n S.1 S.2.1 d_Le_countWithParts_64 rfl (lv_at hl 0 rfl) ?_
          refine g_Le_terms S hK I.1 d_Le_countWithParts_65 ?_
          refine lv_aload_n S.1 S.2.1 d_Le_countWithParts_68 rfl (lv_at hl 0 rfl) ?_
          refine g_Le_terms S hK I.1 d_Le_countWithParts_69 ?_
          refine lv_iload S.1 S.2.1 d_Le_countWithParts_72 (lv_at hl 2 rfl) ?_
          refine callV_roi S (c_Te_symbolOf l D ad cA _ _ _ _ _ _ _ _ _ h) (mkV S.2.2.2.2 ml_Le_96 k_Te_symbolOf rfl rfl ⟨Nat.le_of_ble_eq_true rfl, Nat.le_of_ble_eq_true rfl⟩) (rv_Te hK I.1) hK I.1 hl.1 rfl rfl (Nat.le_of_ble_eq_true rfl) d_Le_countWithParts_74 ⟨Nat.zero_le _, Nat.zero_le _⟩ (fun r74 h => ?_)
          refine callV_roi S (c_Te_placesOf l D ad cA _ _ _ _ _ _ _ _ _ h) (mkV S.2.2.2.2 ml_Le_99 k_Te_placesOf rfl rfl ⟨Nat.le_of_ble_eq_true rfl, Nat.le_of_ble_eq_true rfl⟩) (rv_Te hK I.1) hK I.1 hl.1 rfl rfl (Nat.le_of_ble_eq_true rfl) d_Le_countWithParts_77 ⟨Nat.zero_le _, Nat.zero_le _⟩ (fun r77 h => ?_)
          refine lv_istore (lv' := [(5, .int r77), (0, .ref (ad 28)), (2, .long x2), (4, .int x4)]) S.1 S.2.1 d_Le_countWithParts_80 hl (by decide) rfl (fun ls hl => ?_)
          refine lv_lload_n S.1 S.2.1 d_Le_countWithParts_82 rfl (lv_at hl 2 rfl) ?_
          refine lv_iload S.1 S.2.1 d_Le_countWithParts_83 (lv_at hl 0 rfl) ?_
          refine lv_iconst (v := (1 : Int32)) S.1 S.2.1 d_Le_countWithParts_85 rfl ?_
          refine lv_icmp_ge (tgt := 93) S.1 S.2.1 d_Le_countWithParts_86 (by decide) (fun hc => ?_) (fun hc => ?_)
          · have h := h.1 hc
            refine lv_lconst (v := (1 : Int64)) S.1 S.2.1 d_Le_countWithParts_93 rfl ?_
            refine lv_aload_n S.1 S.2.1 d_Le_countWithParts_94 rfl (lv_at hl 1 rfl) ?_
            refine g_Le_terms S hK I.1 d_Le_countWithParts_95 ?_
            refine lv_iload S.1 S.2.1 d_Le_countWithParts_98 (lv_at hl 3 rfl) ?_
            refine callV_roi S (c_Te_firstOf l D ad cA _ _ _ _ _ _ _ _ _ h) (mkV S.2.2.2.2 ml_Le_102 k_Te_firstOf rfl rfl ⟨Nat.le_of_ble_eq_true rfl, Nat.le_of_ble_eq_true rfl⟩) (rv_Te hK I.1) hK I.1 hl.1 rfl rfl (Nat.le_of_ble_eq_true rfl) d_Le_countWithParts_100 ⟨Nat.zero_le _, Nat.zero_le _⟩ (fun r100 h => ?_)
            refine lv_lshl S.1 S.2.1 d_Le_countWithParts_103 rfl ?_
            exact n_Le_countWithParts_104 S hr hlk hK hA ih _ _ _ _ _ _ _ _ h (lv_sub hl [1, 3, 0] rfl) I
          · have h := h.2 hc
            refine lv_lconst (v := (0 : Int64)) S.1 S.2.1 d_Le_countWithParts_89 rfl ?_
            refine lv_goto (tgt := 104) S.1 S.2.1 d_Le_countWithParts_90 (by decide) ?_
            exact n_Le_countWithParts_104 S hr hlk hK hA ih _ _ _ _ _ _ _ _ h (lv_sub hl [1, 3, 0] rfl) I
        · have h := h.2 hc
          refine lv_goto (tgt := 130) S.1 S.2.1 d_Le_countWithParts_43 (by decide) ?_
          refine lv_iinc (k := 2) (v := x4 + (-1 : Int32)) (lv' := [(4, .int (x4 + (-1 : Int32))), (0, .ref (ad 28)), (2, .long x2)]) S.1 S.2.1 d_Le_countWithParts_130 hl rfl rfl (by decide) rfl (fun ls hl => ?_)
          refine lv_goto (tgt := 17) S.1 S.2.1 d_Le_countWithParts_133 (by decide) ?_
          exact ih _ _ _ _ _ _ h (lv_sub hl [1, 2, 0] rfl) I
set_option maxHeartbeats 4000000 in
set_option maxRecDepth 100000 in
theorem c_Le_countWithParts (l : Launch) (D : va_G) (ad : Nat → Nat) (cA : ClassId × ClassId × ClassId) (te : Te) (ru : Ru) (au : Au) (re : Re) (la : La) (sp : Sp) (le : Le) (x1 : Int32) (Q : Le → Prop) (h : p_Le_countWithParts x1 te le Q) : rwV l y_Le_countWithParts (wsOf y_Le_countWithParts b_Le_countWithParts 6 none) rm_Le_countWithParts D (tyA cA) (wC ad cA) [.ref (ad 28), .int x1] (te, ru, au, re, la, sp, le) (fun u : Le => (te, ru, au, re, la, sp, u)) (fun u : Le => Q u) := by
  refine rwV_of (by decide) (Nat.le_of_ble_eq_true rfl) ?_
  intro p e s m below meth c S hr hlk hK A hA I ls hl
  have hl : lv_has ls 6 [(0, .ref (ad 28)), (1, .int x1)] := hl
  refine lv_aload_n S.1 S.2.1 d_Le_countWithParts_0 rfl (lv_at hl 0 rfl) ?_
  refine g_Le_counted S hK I.1 d_Le_countWithParts_1 ?_
  refine lv_iload_n S.1 S.2.1 d_Le_countWithParts_4 rfl (lv_at hl 1 rfl) ?_
  obtain ⟨hin, h⟩ := h
  refine a_Le_counted S hK I.1 hin d_Le_countWithParts_5 ?_
  refine lv_if_eq (tgt := 10) S.1 S.2.1 d_Le_countWithParts_6 (by decide) (fun hc => ?_) (fun hc => ?_)
  · have h := h.1 hc
    refine lv_lconst (v := (1 : Int64)) S.1 S.2.1 d_Le_countWithParts_10 rfl ?_
    refine lv_iload_n S.1 S.2.1 d_Le_countWithParts_11 rfl (lv_at hl 1 rfl) ?_
    refine lv_lshl S.1 S.2.1 d_Le_countWithParts_12 rfl ?_
    refine lv_lstore_n (lv' := [(2, .long ((1 : Int64) <<< (x1.toInt64 &&& 63))), (0, .ref (ad 28)), (1, .int x1)]) S.1 S.2.1 d_Le_countWithParts_13 rfl hl (by decide) rfl (fun ls hl => ?_)
    refine lv_iload_n S.1 S.2.1 d_Le_countWithParts_14 rfl (lv_at hl 2 rfl) ?_
    refine lv_istore (lv' := [(4, .int x1), (2, .long ((1 : Int64) <<< (x1.toInt64 &&& 63))), (0, .ref (ad 28)), (1, .int x1)]) S.1 S.2.1 d_Le_countWithParts_15 hl (by decide) rfl (fun ls hl => ?_)
    obtain ⟨n', h⟩ := h
    exact n_Le_countWithParts_17 S hr hlk hK hA n' _ _ _ _ _ _ h (lv_sub hl [2, 1, 0] rfl) I
  · have h := h.2 hc
    exact ret_rwv S hr hlk hK I h d_Le_countWithParts_9

set_option maxHeartbeats 4000000 in
set_option maxRecDepth 100000 in
theorem c_Le_include_inLevels (l : Launch) (D : va_G) (ad : Nat → Nat) (cA : ClassId × ClassId × ClassId) (te : Te) (ru : Ru) (au : Au) (re : Re) (la : La) (sp : Sp) (le : Le) (x1 : Int32) (x2 : Int32) (Q : Le → Prop) (h : p_Le_include_inLevels x1 x2 le Q) : rwV l y_Le_include (wsOf y_Le_include b_Le_include 3 none) rm_Le_include_inLevels D (tyA cA) (wC ad cA) [.ref (ad 32), .int x1, .int x2] (te, ru, au, re, la, sp, le) (fun u : Le => (te, ru, au, re, la, sp, u)) (fun u : Le => Q u) := by
  refine rwV_of (by decide) (Nat.le_of_ble_eq_true rfl) ?_
  intro p e s m below meth c S hr hlk hK A hA I ls hl
  have hl : lv_has ls 3 [(0, .ref (ad 32)), (1, .int x1), (2, .int x2)] := hl
  refine lv_iload_n S.1 S.2.1 d_Le_include_0 rfl (lv_at hl 2 rfl) ?_
  refine lv_iconst (v := (-1 : Int32)) S.1 S.2.1 d_Le_include_1 rfl ?_
  refine lv_icmp_eq (tgt := 22) S.1 S.2.1 d_Le_include_2 (by decide) (fun hc => ?_) (fun hc => ?_)
  · have h := h.1 hc
    exact ret_rwv S hr hlk hK I h d_Le_include_22
  · have h := h.2 hc
    refine lv_aload_n S.1 S.2.1 d_Le_include_5 rfl (lv_at hl 0 rfl) ?_
    refine lv_iload_n S.1 S.2.1 d_Le_include_6 rfl (lv_at hl 1 rfl) ?_
    refine lv_iload_n S.1 S.2.1 d_Le_include_7 rfl (lv_at hl 2 rfl) ?_
    refine lv_bipush (v := (64 : Int32)) S.1 S.2.1 d_Le_include_8 rfl ?_
    refine lv_idiv S.1 S.2.1 d_Le_include_10 (by decide) ?_
    refine lv_iadd S.1 S.2.1 d_Le_include_11 ?_
    refine lv_dup2_11 S.1 S.2.1 d_Le_include_12 rfl rfl ?_
    obtain ⟨hin, h⟩ := h
    refine a_Le_inLevels S hK I.1 hin d_Le_include_13 ?_
    refine lv_lconst (v := (1 : Int64)) S.1 S.2.1 d_Le_include_14 rfl ?_
    refine lv_iload_n S.1 S.2.1 d_Le_include_15 rfl (lv_at hl 2 rfl) ?_
    refine lv_bipush (v := (64 : Int32)) S.1 S.2.1 d_Le_include_16 rfl ?_
    refine lv_irem S.1 S.2.1 d_Le_include_18 (by decide) ?_
    refine lv_lshl S.1 S.2.1 d_Le_include_19 rfl ?_
    refine lv_lor S.1 S.2.1 d_Le_include_20 ?_
    obtain ⟨hin, h⟩ := h
    refine s_Le_inLevels S hK I hin d_Le_include_21 (fun H locs le21 ele21 I => ?_)
    have h := h le21 ele21
    exact ret_rwv S hr hlk hK I h d_Le_include_22

set_option maxHeartbeats 4000000 in
set_option maxRecDepth 100000 in
theorem c_Le_include_newest (l : Launch) (D : va_G) (ad : Nat → Nat) (cA : ClassId × ClassId × ClassId) (te : Te) (ru : Ru) (au : Au) (re : Re) (la : La) (sp : Sp) (le : Le) (x1 : Int32) (x2 : Int32) (Q : Le → Prop) (h : p_Le_include_newest x1 x2 le Q) : rwV l y_Le_include (wsOf y_Le_include b_Le_include 3 none) rm_Le_include_newest D (tyA cA) (wC ad cA) [.ref (ad 33), .int x1, .int x2] (te, ru, au, re, la, sp, le) (fun u : Le => (te, ru, au, re, la, sp, u)) (fun u : Le => Q u) := by
  refine rwV_of (by decide) (Nat.le_of_ble_eq_true rfl) ?_
  intro p e s m below meth c S hr hlk hK A hA I ls hl
  have hl : lv_has ls 3 [(0, .ref (ad 33)), (1, .int x1), (2, .int x2)] := hl
  refine lv_iload_n S.1 S.2.1 d_Le_include_0 rfl (lv_at hl 2 rfl) ?_
  refine lv_iconst (v := (-1 : Int32)) S.1 S.2.1 d_Le_include_1 rfl ?_
  refine lv_icmp_eq (tgt := 22) S.1 S.2.1 d_Le_include_2 (by decide) (fun hc => ?_) (fun hc => ?_)
  · have h := h.1 hc
    exact ret_rwv S hr hlk hK I h d_Le_include_22
  · have h := h.2 hc
    refine lv_aload_n S.1 S.2.1 d_Le_include_5 rfl (lv_at hl 0 rfl) ?_
    refine lv_iload_n S.1 S.2.1 d_Le_include_6 rfl (lv_at hl 1 rfl) ?_
    refine lv_iload_n S.1 S.2.1 d_Le_include_7 rfl (lv_at hl 2 rfl) ?_
    refine lv_bipush (v := (64 : Int32)) S.1 S.2.1 d_Le_include_8 rfl ?_
    refine lv_idiv S.1 S.2.1 d_Le_include_10 (by decide) ?_
    refine lv_iadd S.1 S.2.1 d_Le_include_11 ?_
    refine lv_dup2_11 S.1 S.2.1 d_Le_include_12 rfl rfl ?_
    obtain ⟨hin, h⟩ := h
    refine a_Le_newest S hK I.1 hin d_Le_include_13 ?_
    refine lv_lconst (v := (1 : Int64)) S.1 S.2.1 d_Le_include_14 rfl ?_
    refine lv_iload_n S.1 S.2.1 d_Le_include_15 rfl (lv_at hl 2 rfl) ?_
    refine lv_bipush (v := (64 : Int32)) S.1 S.2.1 d_Le_include_16 rfl ?_
    refine lv_irem S.1 S.2.1 d_Le_include_18 (by decide) ?_
    refine lv_lshl S.1 S.2.1 d_Le_include_19 rfl ?_
    refine lv_lor S.1 S.2.1 d_Le_include_20 ?_
    obtain ⟨hin, h⟩ := h
    refine s_Le_newest S hK I hin d_Le_include_21 (fun H locs le21 ele21 I => ?_)
    have h := h le21 ele21
    exact ret_rwv S hr hlk hK I h d_Le_include_22
end
section
set_option maxHeartbeats 4000000 in
set_option maxRecDepth 100000 in
theorem n_Le_start_26 {p : Program} {l : Launch} {e : Env} {s : State} {m : MethodId} {args : Array Value} {below : List Frame} {meth : Method} {c : Code} {D : va_G} {A : Nat → Prop} {ad : Nat → Nat} {cA : ClassId × ClassId × ClassId} {te : Te} {ru : Ru} {au : Au} {re : Re} {la : La} {sp : Sp} {x1 : Int32} {Q : Le → Prop} (S : CallFix p m c b_Le_start 3 s args gtbl R_Le) (hr : meth.sig.returnType = none) (hlk : meth.locks = false) (hK : gK D (tyA cA) s) (hA : ∀ q : Nat, s.heap.size ≤ q → A q) : ∀ n : Nat, ∀ (ls : Array Slot) (H : Heap) (locs : List Loc) (x2 : Int32) (le : Le), p_Le_start_26 x1 te Q n x2 le → lv_has ls 3 [(0, .ref (ad 28)), (1, .int x1), (2, .int x2)] → gIn D A s (wC ad cA) (te, ru, au, re, la, sp, le) H locs → W p l e rm_Le_start s m args below meth c H locs 0 0 (qV D (tyA cA) A (wC ad cA) (fun u : Le => (te, ru, au, re, la, sp, u)) (fun u : Le => Q u) below args s) (F0 m 26 ls []) := by
  intro n
  induction n with
  | zero =>
    intro ls H locs x2 le h
    exact (show False from h).elim
  | succ n ih =>
    intro ls H locs x2 le h hl I
    refine lv_iload_n S.1 S.2.1 d_Le_start_26 rfl (lv_at hl 2 rfl) ?_
    refine lv_sipush (v := (448 : Int32)) S.1 S.2.1 d_Le_start_27 rfl ?_
    refine lv_icmp_ge (tgt := 53) S.1 S.2.1 d_Le_start_30 (by decide) (fun hc => ?_) (fun hc => ?_)
    · have h := h.1 hc
      refine lv_aload_n S.1 S.2.1 d_Le_start_53 rfl (lv_at hl 0 rfl) ?_
      refine lv_iconst (v := (0 : Int32)) S.1 S.2.1 d_Le_start_54 rfl ?_
      refine q_Le_countedTerms S hK I d_Le_start_55 (fun H locs le55 ele55 I => ?_)
      have h := h le55 ele55
      refine lv_aload_n S.1 S.2.1 d_Le_start_58 rfl (lv_at hl 0 rfl) ?_
      refine lv_iload_n S.1 S.2.1 d_Le_start_59 rfl (lv_at hl 1 rfl) ?_
      refine callV_rwv S (c_Le_countWithParts l D ad cA _ _ _ _ _ _ _ _ _ h) (mkV S.2.2.2.2 ml_Le_79 k_Le_countWithParts rfl rfl ⟨Nat.le_of_ble_eq_true rfl, Nat.le_of_ble_eq_true rfl⟩) (rv_Le hK I.1) hK hA I hl.1 rfl rfl (Nat.le_of_ble_eq_true rfl) d_Le_start_60 ⟨Nat.zero_le _, Nat.zero_le _⟩ (fun le60 H locs h I => ?_)
      refine lv_aload_n S.1 S.2.1 d_Le_start_63 rfl (lv_at hl 0 rfl) ?_
      refine g_Le_inLevels S hK I.1 d_Le_start_64 ?_
      refine lv_iconst (v := (0 : Int32)) S.1 S.2.1 d_Le_start_67 rfl ?_
      refine lv_iload_n S.1 S.2.1 d_Le_start_68 rfl (lv_at hl 1 rfl) ?_
      refine callS_rwv S (c_Le_include_inLevels l D ad cA _ _ _ _ _ _ _ _ _ _ h) (mkS S.2.2.2.2 ml_Le_82 k_Le_include rfl rfl ⟨Nat.le_of_ble_eq_true rfl, Nat.le_of_ble_eq_true rfl⟩) hK hA I hl.1 rfl rfl (Nat.le_of_ble_eq_true rfl) d_Le_start_69 ⟨Nat.zero_le _, Nat.zero_le _⟩ (fun le69 H locs h I => ?_)
      refine lv_aload_n S.1 S.2.1 d_Le_start_72 rfl (lv_at hl 0 rfl) ?_
      refine g_Le_newest S hK I.1 d_Le_start_73 ?_
      refine lv_iconst (v := (0 : Int32)) S.1 S.2.1 d_Le_start_76 rfl ?_
      refine lv_iload_n S.1 S.2.1 d_Le_start_77 rfl (lv_at hl 1 rfl) ?_
      refine callS_rwv S (c_Le_include_newest l D ad cA _ _ _ _ _ _ _ _ _ _ h) (mkS S.2.2.2.2 ml_Le_82 k_Le_include rfl rfl ⟨Nat.le_of_ble_eq_true rfl, Nat.le_of_ble_eq_true rfl⟩) hK hA I hl.1 rfl rfl (Nat.le_of_ble_eq_true rfl) d_Le_start_78 ⟨Nat.zero_le _, Nat.zero_le _⟩ (fun le78 H locs h I => ?_)
      exact ret_rwv S hr hlk hK I h d_Le_start_81
    · have h := h.2 hc
      refine lv_aload_n S.1 S.2.1 d_Le_start_33 rfl (lv_at hl 0 rfl) ?_
      refine g_Le_counted S hK I.1 d_Le_start_34 ?_
      refine lv_iload_n S.1 S.2.1 d_Le_start_37 rfl (lv_at hl 2 rfl) ?_
      refine lv_iconst (v := (0 : Int32)) S.1 S.2.1 d_Le_start_38 rfl ?_
      obtain ⟨hin, h⟩ := h
      refine s_Le_counted S hK I hin d_Le_start_39 (fun H locs le39 ele39 I => ?_)
      have h := h le39 ele39
      refine lv_aload_n S.1 S.2.1 d_Le_start_40 rfl (lv_at hl 0 rfl) ?_
      refine g_Le_expanded S hK I.1 d_Le_start_41 ?_
      refine lv_iload_n S.1 S.2.1 d_Le_start_44 rfl (lv_at hl 2 rfl) ?_
      refine lv_iconst (v := (0 : Int32)) S.1 S.2.1 d_Le_start_45 rfl ?_
      obtain ⟨hin, h⟩ := h
      refine s_Le_expanded S hK I hin d_Le_start_46 (fun H locs le46 ele46 I => ?_)
      have h := h le46 ele46
      refine lv_iinc (k := 2) (v := x2 + (1 : Int32)) (lv' := [(2, .int (x2 + (1 : Int32))), (0, .ref (ad 28)), (1, .int x1)]) S.1 S.2.1 d_Le_start_47 hl rfl rfl (by decide) rfl (fun ls hl => ?_)
      refine lv_goto (tgt := 26) S.1 S.2.1 d_Le_start_50 (by decide) ?_
      exact ih _ _ _ _ _ h (lv_sub hl [1, 2, 0] rfl) I
set_option maxHeartbeats 4000000 in
set_option maxRecDepth 100000 in
theorem c_Le_start (l : Launch) (D : va_G) (ad : Nat → Nat) (cA : ClassId × ClassId × ClassId) (te : Te) (ru : Ru) (au : Au) (re : Re) (la : La) (sp : Sp) (le : Le) (x1 : Int32) (Q : Le → Prop) (h : p_Le_start x1 te le Q) : rwV l y_Le_start (wsOf y_Le_start b_Le_start 3 none) rm_Le_start D (tyA cA) (wC ad cA) [.ref (ad 28), .int x1] (te, ru, au, re, la, sp, le) (fun u : Le => (te, ru, au, re, la, sp, u)) (fun u : Le => Q u) := by
  refine rwV_of (by decide) (Nat.le_of_ble_eq_true rfl) ?_
  intro p e s m below meth c S hr hlk hK A hA I ls hl
  have hl : lv_has ls 3 [(0, .ref (ad 28)), (1, .int x1)] := hl
  refine lv_aload_n S.1 S.2.1 d_Le_start_0 rfl (lv_at hl 0 rfl) ?_
  refine g_Le_after S hK I.1 d_Le_start_1 ?_
  refine lv_lconst (v := (0 : Int64)) S.1 S.2.1 d_Le_start_4 rfl ?_
  refine callS_rwv S (c_Ar_fillJ_after l D ad cA _ _ _ _ _ _ _ _ _ h) (mkS S.2.2.2.2 ml_Le_73 k_Ar_fillJ rfl rfl ⟨Nat.le_of_ble_eq_true rfl, Nat.le_of_ble_eq_true rfl⟩) hK hA I hl.1 rfl rfl (Nat.le_of_ble_eq_true rfl) d_Le_start_5 ⟨Nat.zero_le _, Nat.zero_le _⟩ (fun le5 H locs h I => ?_)
  refine lv_aload_n S.1 S.2.1 d_Le_start_8 rfl (lv_at hl 0 rfl) ?_
  refine g_Le_inLevels S hK I.1 d_Le_start_9 ?_
  refine lv_lconst (v := (0 : Int64)) S.1 S.2.1 d_Le_start_12 rfl ?_
  refine callS_rwv S (c_Ar_fillJ_inLevels l D ad cA _ _ _ _ _ _ _ _ _ h) (mkS S.2.2.2.2 ml_Le_73 k_Ar_fillJ rfl rfl ⟨Nat.le_of_ble_eq_true rfl, Nat.le_of_ble_eq_true rfl⟩) hK hA I hl.1 rfl rfl (Nat.le_of_ble_eq_true rfl) d_Le_start_13 ⟨Nat.zero_le _, Nat.zero_le _⟩ (fun le13 H locs h I => ?_)
  refine lv_aload_n S.1 S.2.1 d_Le_start_16 rfl (lv_at hl 0 rfl) ?_
  refine g_Le_newest S hK I.1 d_Le_start_17 ?_
  refine lv_lconst (v := (0 : Int64)) S.1 S.2.1 d_Le_start_20 rfl ?_
  refine callS_rwv S (c_Ar_fillJ_newest l D ad cA _ _ _ _ _ _ _ _ _ h) (mkS S.2.2.2.2 ml_Le_73 k_Ar_fillJ rfl rfl ⟨Nat.le_of_ble_eq_true rfl, Nat.le_of_ble_eq_true rfl⟩) hK hA I hl.1 rfl rfl (Nat.le_of_ble_eq_true rfl) d_Le_start_21 ⟨Nat.zero_le _, Nat.zero_le _⟩ (fun le21 H locs h I => ?_)
  refine lv_iconst (v := (0 : Int32)) S.1 S.2.1 d_Le_start_24 rfl ?_
  refine lv_istore_n (lv' := [(2, .int (0 : Int32)), (0, .ref (ad 28)), (1, .int x1)]) S.1 S.2.1 d_Le_start_25 rfl hl (by decide) rfl (fun ls hl => ?_)
  obtain ⟨n', h⟩ := h
  exact n_Le_start_26 S hr hlk hK hA n' _ _ _ _ _ h (lv_sub hl [1, 2, 0] rfl) I

set_option maxHeartbeats 4000000 in
set_option maxRecDepth 100000 in
theorem c_Le_isIn_inLevels (l : Launch) (D : va_G) (ad : Nat → Nat) (cA : ClassId × ClassId × ClassId) (te : Te) (ru : Ru) (au : Au) (re : Re) (la : La) (sp : Sp) (le : Le) (x1 : Int32) (Q : Int32 → Prop) (h : p_Le_isIn_inLevels x1 le Q) : roI l y_Le_isIn (wsOf y_Le_isIn b_Le_isIn 2 (some .boolean)) rm_Le_isIn_inLevels D (tyA cA) (wC ad cA) [.ref (ad 32), .int x1] (te, ru, au, re, la, sp, le) Q := by
  refine roI_of (by decide) (Nat.le_of_ble_eq_true rfl) ?_
  intro p e s m below meth c S hr hlk hK hP ls hl
  have hl : lv_has ls 2 [(0, .ref (ad 32)), (1, .int x1)] := hl
  refine lv_aload_n S.1 S.2.1 d_Le_isIn_0 rfl (lv_at hl 0 rfl) ?_
  refine lv_iload_n S.1 S.2.1 d_Le_isIn_1 rfl (lv_at hl 1 rfl) ?_
  refine lv_bipush (v := (64 : Int32)) S.1 S.2.1 d_Le_isIn_2 rfl ?_
  refine lv_idiv S.1 S.2.1 d_Le_isIn_4 (by decide) ?_
  obtain ⟨hin, h⟩ := h
  refine a_Le_inLevels S hK hP hin d_Le_isIn_5 ?_
  refine lv_iload_n S.1 S.2.1 d_Le_isIn_6 rfl (lv_at hl 1 rfl) ?_
  refine lv_bipush (v := (64 : Int32)) S.1 S.2.1 d_Le_isIn_7 rfl ?_
  refine lv_irem S.1 S.2.1 d_Le_isIn_9 (by decide) ?_
  refine lv_lshr S.1 S.2.1 d_Le_isIn_10 rfl ?_
  refine lv_lconst (v := (1 : Int64)) S.1 S.2.1 d_Le_isIn_11 rfl ?_
  refine lv_land S.1 S.2.1 d_Le_isIn_12 ?_
  refine lv_lconst (v := (0 : Int64)) S.1 S.2.1 d_Le_isIn_13 rfl ?_
  refine W.lcmp S.1 S.2.1 d_Le_isIn_14 ?_
  refine lv_if_eq (tgt := 22) S.1 S.2.1 d_Le_isIn_15 (by decide) (fun hc => ?_) (fun hc => ?_)
  · have h := h.1 hc
    refine lv_iconst (v := (0 : Int32)) S.1 S.2.1 d_Le_isIn_22 rfl ?_
    exact ret_roz S hr hlk (by decide) h d_Le_isIn_23
  · have h := h.2 hc
    refine lv_iconst (v := (1 : Int32)) S.1 S.2.1 d_Le_isIn_18 rfl ?_
    refine lv_goto (tgt := 23) S.1 S.2.1 d_Le_isIn_19 (by decide) ?_
    exact ret_roz S hr hlk (by decide) h d_Le_isIn_23

set_option maxHeartbeats 4000000 in
set_option maxRecDepth 100000 in
theorem n_Le_findWaiting_4 {p : Program} {l : Launch} {e : Env} {s : State} {m : MethodId} {args : Array Value} {below : List Frame} {meth : Method} {c : Code} {D : va_G} {A : Nat → Prop} {ad : Nat → Nat} {cA : ClassId × ClassId × ClassId} {te : Te} {ru : Ru} {au : Au} {re : Re} {la : La} {sp : Sp} {Q : Int32 → Le → Prop} (S : CallFix p m c b_Le_findWaiting 3 s args gtbl R_Le) (hr : meth.sig.returnType = (some .int)) (hlk : meth.locks = false) (hK : gK D (tyA cA) s) (hA : ∀ q : Nat, s.heap.size ≤ q → A q) : ∀ n : Nat, ∀ (ls : Array Slot) (H : Heap) (locs : List Loc) (x1 : Int32) (x2 : Int32) (le : Le), p_Le_findWaiting_4 te Q n x1 x2 le → lv_has ls 3 [(0, .ref (ad 28)), (1, .int x1), (2, .int x2)] → gIn D A s (wC ad cA) (te, ru, au, re, la, sp, le) H locs → W p l e rm_Le_findWaiting s m args below meth c H locs 0 0 (qI D (tyA cA) A (wC ad cA) (fun u : Le => (te, ru, au, re, la, sp, u)) (fun (r : Int32) (u : Le) => Q r u) below args s) (F0 m 4 ls []) := by
  intro n
  induction n with
  | zero =>
    intro ls H locs x1 x2 le h
    exact (show False from h).elim
  | succ n ih =>
    intro ls H locs x1 x2 le h hl I
    refine lv_iload_n S.1 S.2.1 d_Le_findWaiting_4 rfl (lv_at hl 2 rfl) ?_
    refine lv_aload_n S.1 S.2.1 d_Le_findWaiting_5 rfl (lv_at hl 0 rfl) ?_
    refine g_Le_terms S hK I.1 d_Le_findWaiting_6 ?_
    refine callV_roi S (c_Te_count l D ad cA _ _ _ _ _ _ _ _ h) (mkV S.2.2.2.2 ml_Le_43 k_Te_count rfl rfl ⟨Nat.le_of_ble_eq_true rfl, Nat.le_of_ble_eq_true rfl⟩) (rv_Te hK I.1) hK I.1 hl.1 rfl rfl (Nat.le_of_ble_eq_true rfl) d_Le_findWaiting_9 ⟨Nat.zero_le _, Nat.zero_le _⟩ (fun r9 h => ?_)
    refine lv_icmp_ge (tgt := 49) S.1 S.2.1 d_Le_findWaiting_12 (by decide) (fun hc => ?_) (fun hc => ?_)
    · have h := h.1 hc
      refine lv_iload_n S.1 S.2.1 d_Le_findWaiting_49 rfl (lv_at hl 1 rfl) ?_
      exact ret_rwi S hr hlk hK I h d_Le_findWaiting_50
    · have h := h.2 hc
      refine lv_aload_n S.1 S.2.1 d_Le_findWaiting_15 rfl (lv_at hl 0 rfl) ?_
      refine g_Le_counted S hK I.1 d_Le_findWaiting_16 ?_
      refine lv_iload_n S.1 S.2.1 d_Le_findWaiting_19 rfl (lv_at hl 2 rfl) ?_
      obtain ⟨hin, h⟩ := h
      refine a_Le_counted S hK I.1 hin d_Le_findWaiting_20 ?_
      refine lv_if_eq (tgt := 43) S.1 S.2.1 d_Le_findWaiting_21 (by decide) (fun hc => ?_) (fun hc => ?_)
      · have h := h.1 hc
        refine lv_iinc (k := 2) (v := x2 + (1 : Int32)) (lv' := [(2, .int (x2 + (1 : Int32))), (0, .ref (ad 28)), (1, .int x1)]) S.1 S.2.1 d_Le_findWaiting_43 hl rfl rfl (by decide) rfl (fun ls hl => ?_)
        refine lv_goto (tgt := 4) S.1 S.2.1 d_Le_findWaiting_46 (by decide) ?_
        exact ih _ _ _ _ _ _ h (lv_sub hl [1, 2, 0] rfl) I
      · have h := h.2 hc
        refine lv_aload_n S.1 S.2.1 d_Le_findWaiting_24 rfl (lv_at hl 0 rfl) ?_
        refine g_Le_expanded S hK I.1 d_Le_findWaiting_25 ?_
        refine lv_iload_n S.1 S.2.1 d_Le_findWaiting_28 rfl (lv_at hl 2 rfl) ?_
        obtain ⟨hin, h⟩ := h
        refine a_Le_expanded S hK I.1 hin d_Le_findWaiting_29 ?_
        refine lv_if_ne (tgt := 43) S.1 S.2.1 d_Le_findWaiting_30 (by decide) (fun hc => ?_) (fun hc => ?_)
        · have h := h.1 hc
          refine lv_iinc (k := 2) (v := x2 + (1 : Int32)) (lv' := [(2, .int (x2 + (1 : Int32))), (0, .ref (ad 28)), (1, .int x1)]) S.1 S.2.1 d_Le_findWaiting_43 hl rfl rfl (by decide) rfl (fun ls hl => ?_)
          refine lv_goto (tgt := 4) S.1 S.2.1 d_Le_findWaiting_46 (by decide) ?_
          exact ih _ _ _ _ _ _ h (lv_sub hl [1, 2, 0] rfl) I
        · have h := h.2 hc
          refine lv_aload_n S.1 S.2.1 d_Le_findWaiting_33 rfl (lv_at hl 0 rfl) ?_
          refine g_Le_waiting S hK I.1 d_Le_findWaiting_34 ?_
          refine lv_iload_n S.1 S.2.1 d_Le_findWaiting_37 rfl (lv_at hl 1 rfl) ?_
          refine lv_iinc (k := 1) (v := x1 + (1 : Int32)) (lv' := [(1, .int (x1 + (1 : Int32))), (0, .ref (ad 28)), (2, .int x2)]) S.1 S.2.1 d_Le_findWaiting_38 hl rfl rfl (by decide) rfl (fun ls hl => ?_)
          refine lv_iload_n S.1 S.2.1 d_Le_findWaiting_41 rfl (lv_at hl 2 rfl) ?_
          obtain ⟨hin, h⟩ := h
          refine s_Le_waiting S hK I hin d_Le_findWaiting_42 (fun H locs le42 ele42 I => ?_)
          have h := h le42 ele42
          refine lv_iinc (k := 2) (v := x2 + (1 : Int32)) (lv' := [(2, .int (x2 + (1 : Int32))), (1, .int (x1 + (1 : Int32))), (0, .ref (ad 28))]) S.1 S.2.1 d_Le_findWaiting_43 hl rfl rfl (by decide) rfl (fun ls hl => ?_)
          refine lv_goto (tgt := 4) S.1 S.2.1 d_Le_findWaiting_46 (by decide) ?_
          exact ih _ _ _ _ _ _ h (lv_sub hl [2, 1, 0] rfl) I
set_option maxHeartbeats 4000000 in
set_option maxRecDepth 100000 in
theorem c_Le_findWaiting (l : Launch) (D : va_G) (ad : Nat → Nat) (cA : ClassId × ClassId × ClassId) (te : Te) (ru : Ru) (au : Au) (re : Re) (la : La) (sp : Sp) (le : Le)  (Q : Int32 → Le → Prop) (h : p_Le_findWaiting  te le Q) : rwI l y_Le_findWaiting (wsOf y_Le_findWaiting b_Le_findWaiting 3 (some .int)) rm_Le_findWaiting D (tyA cA) (wC ad cA) [.ref (ad 28)] (te, ru, au, re, la, sp, le) (fun u : Le => (te, ru, au, re, la, sp, u)) (fun (r : Int32) (u : Le) => Q r u) := by
  refine rwI_of (by decide) (Nat.le_of_ble_eq_true rfl) ?_
  intro p e s m below meth c S hr hlk hK A hA I ls hl
  have hl : lv_has ls 3 [(0, .ref (ad 28))] := hl
  refine lv_iconst (v := (0 : Int32)) S.1 S.2.1 d_Le_findWaiting_0 rfl ?_
  refine lv_istore_n (lv' := [(1, .int (0 : Int32)), (0, .ref (ad 28))]) S.1 S.2.1 d_Le_findWaiting_1 rfl hl (by decide) rfl (fun ls hl => ?_)
  refine lv_iconst (v := (0 : Int32)) S.1 S.2.1 d_Le_findWaiting_2 rfl ?_
  refine lv_istore_n (lv' := [(2, .int (0 : Int32)), (1, .int (0 : Int32)), (0, .ref (ad 28))]) S.1 S.2.1 d_Le_findWaiting_3 rfl hl (by decide) rfl (fun ls hl => ?_)
  obtain ⟨n', h⟩ := h
  exact n_Le_findWaiting_4 S hr hlk hK hA n' _ _ _ _ _ _ h (lv_sub hl [2, 1, 0] rfl) I

set_option maxHeartbeats 4000000 in
set_option maxRecDepth 100000 in
theorem n_Ar_fillJ_coming_6 {p : Program} {l : Launch} {e : Env} {s : State} {m : MethodId} {args : Array Value} {below : List Frame} {meth : Method} {c : Code} {D : va_G} {A : Nat → Prop} {ad : Nat → Nat} {cA : ClassId × ClassId × ClassId} {te : Te} {ru : Ru} {au : Au} {re : Re} {la : La} {sp : Sp} {x1 : Int64} {Q : Le → Prop} (S : CallFix p m c b_Ar_fillJ 5 s args gtbl R_Ar) (hr : meth.sig.returnType = none) (hlk : meth.locks = false) (hK : gK D (tyA cA) s) (hA : ∀ q : Nat, s.heap.size ≤ q → A q) : ∀ n : Nat, ∀ (ls : Array Slot) (H : Heap) (locs : List Loc) (x3 : Int32) (x4 : Int32) (le : Le), p_Ar_fillJ_coming_6 x1 Q n x3 x4 le → lv_has ls 5 [(0, .ref (ad 34)), (1, .long x1), (3, .int x3), (4, .int x4)] → gIn D A s (wC ad cA) (te, ru, au, re, la, sp, le) H locs → W p l e rm_Ar_fillJ_coming s m args below meth c H locs 0 0 (qV D (tyA cA) A (wC ad cA) (fun u : Le => (te, ru, au, re, la, sp, u)) (fun u : Le => Q u) below args s) (F0 m 6 ls []) := by
  intro n
  induction n with
  | zero =>
    intro ls H locs x3 x4 le h
    exact (show False from h).elim
  | succ n ih =>
    intro ls H locs x3 x4 le h hl I
    refine lv_iload_n S.1 S.2.1 d_Ar_fillJ_6 rfl (lv_at hl 2 rfl) ?_
    refine lv_iload S.1 S.2.1 d_Ar_fillJ_7 (lv_at hl 3 rfl) ?_
    refine lv_icmp_ge (tgt := 22) S.1 S.2.1 d_Ar_fillJ_9 (by decide) (fun hc => ?_) (fun hc => ?_)
    · have h := h.1 hc
      exact ret_rwv S hr hlk hK I h d_Ar_fillJ_22
    · have h := h.2 hc
      refine lv_aload_n S.1 S.2.1 d_Ar_fillJ_12 rfl (lv_at hl 0 rfl) ?_
      refine lv_iload_n S.1 S.2.1 d_Ar_fillJ_13 rfl (lv_at hl 2 rfl) ?_
      refine lv_lload_n S.1 S.2.1 d_Ar_fillJ_14 rfl (lv_at hl 1 rfl) ?_
      obtain ⟨hin, h⟩ := h
      refine s_Le_coming S hK I hin d_Ar_fillJ_15 (fun H locs le15 ele15 I => ?_)
      have h := h le15 ele15
      refine lv_iinc (k := 2) (v := x3 + (1 : Int32)) (lv' := [(3, .int (x3 + (1 : Int32))), (0, .ref (ad 34)), (1, .long x1), (4, .int x4)]) S.1 S.2.1 d_Ar_fillJ_16 hl rfl rfl (by decide) rfl (fun ls hl => ?_)
      refine lv_goto (tgt := 6) S.1 S.2.1 d_Ar_fillJ_19 (by decide) ?_
      exact ih _ _ _ _ _ _ h (lv_sub hl [1, 2, 0, 3] rfl) I
set_option maxHeartbeats 4000000 in
set_option maxRecDepth 100000 in
theorem c_Ar_fillJ_coming (l : Launch) (D : va_G) (ad : Nat → Nat) (cA : ClassId × ClassId × ClassId) (te : Te) (ru : Ru) (au : Au) (re : Re) (la : La) (sp : Sp) (le : Le) (x1 : Int64) (Q : Le → Prop) (h : p_Ar_fillJ_coming x1 le Q) : rwV l y_Ar_fillJ (wsOf y_Ar_fillJ b_Ar_fillJ 5 none) rm_Ar_fillJ_coming D (tyA cA) (wC ad cA) [.ref (ad 34), .long x1] (te, ru, au, re, la, sp, le) (fun u : Le => (te, ru, au, re, la, sp, u)) (fun u : Le => Q u) := by
  refine rwV_of (by decide) (Nat.le_of_ble_eq_true rfl) ?_
  intro p e s m below meth c S hr hlk hK A hA I ls hl
  have hl : lv_has ls 5 [(0, .ref (ad 34)), (1, .long x1)] := hl
  refine lv_iconst (v := (0 : Int32)) S.1 S.2.1 d_Ar_fillJ_0 rfl ?_
  refine lv_istore_n (lv' := [(3, .int (0 : Int32)), (0, .ref (ad 34)), (1, .long x1)]) S.1 S.2.1 d_Ar_fillJ_1 rfl hl (by decide) rfl (fun ls hl => ?_)
  refine lv_aload_n S.1 S.2.1 d_Ar_fillJ_2 rfl (lv_at hl 1 rfl) ?_
  refine n_Le_coming S hK I.1 d_Ar_fillJ_3 ?_
  refine lv_istore (lv' := [(4, .int (7 : Int32)), (3, .int (0 : Int32)), (0, .ref (ad 34)), (1, .long x1)]) S.1 S.2.1 d_Ar_fillJ_4 hl (by decide) rfl (fun ls hl => ?_)
  obtain ⟨n', h⟩ := h
  exact n_Ar_fillJ_coming_6 S hr hlk hK hA n' _ _ _ _ _ _ h (lv_sub hl [2, 3, 1, 0] rfl) I

set_option maxHeartbeats 4000000 in
set_option maxRecDepth 100000 in
theorem c_Le_isIn_newest (l : Launch) (D : va_G) (ad : Nat → Nat) (cA : ClassId × ClassId × ClassId) (te : Te) (ru : Ru) (au : Au) (re : Re) (la : La) (sp : Sp) (le : Le) (x1 : Int32) (Q : Int32 → Prop) (h : p_Le_isIn_newest x1 le Q) : roI l y_Le_isIn (wsOf y_Le_isIn b_Le_isIn 2 (some .boolean)) rm_Le_isIn_newest D (tyA cA) (wC ad cA) [.ref (ad 33), .int x1] (te, ru, au, re, la, sp, le) Q := by
  refine roI_of (by decide) (Nat.le_of_ble_eq_true rfl) ?_
  intro p e s m below meth c S hr hlk hK hP ls hl
  have hl : lv_has ls 2 [(0, .ref (ad 33)), (1, .int x1)] := hl
  refine lv_aload_n S.1 S.2.1 d_Le_isIn_0 rfl (lv_at hl 0 rfl) ?_
  refine lv_iload_n S.1 S.2.1 d_Le_isIn_1 rfl (lv_at hl 1 rfl) ?_
  refine lv_bipush (v := (64 : Int32)) S.1 S.2.1 d_Le_isIn_2 rfl ?_
  refine lv_idiv S.1 S.2.1 d_Le_isIn_4 (by decide) ?_
  obtain ⟨hin, h⟩ := h
  refine a_Le_newest S hK hP hin d_Le_isIn_5 ?_
  refine lv_iload_n S.1 S.2.1 d_Le_isIn_6 rfl (lv_at hl 1 rfl) ?_
  refine lv_bipush (v := (64 : Int32)) S.1 S.2.1 d_Le_isIn_7 rfl ?_
  refine lv_irem S.1 S.2.1 d_Le_isIn_9 (by decide) ?_
  refine lv_lshr S.1 S.2.1 d_Le_isIn_10 rfl ?_
  refine lv_lconst (v := (1 : Int64)) S.1 S.2.1 d_Le_isIn_11 rfl ?_
  refine lv_land S.1 S.2.1 d_Le_isIn_12 ?_
  refine lv_lconst (v := (0 : Int64)) S.1 S.2.1 d_Le_isIn_13 rfl ?_
  refine W.lcmp S.1 S.2.1 d_Le_isIn_14 ?_
  refine lv_if_eq (tgt := 22) S.1 S.2.1 d_Le_isIn_15 (by decide) (fun hc => ?_) (fun hc => ?_)
  · have h := h.1 hc
    refine lv_iconst (v := (0 : Int32)) S.1 S.2.1 d_Le_isIn_22 rfl ?_
    exact ret_roz S hr hlk (by decide) h d_Le_isIn_23
  · have h := h.2 hc
    refine lv_iconst (v := (1 : Int32)) S.1 S.2.1 d_Le_isIn_18 rfl ?_
    refine lv_goto (tgt := 23) S.1 S.2.1 d_Le_isIn_19 (by decide) ?_
    exact ret_roz S hr hlk (by decide) h d_Le_isIn_23

set_option maxHeartbeats 4000000 in
set_option maxRecDepth 100000 in
theorem n_Le_goOn_74 {p : Program} {l : Launch} {e : Env} {s : State} {m : MethodId} {args : Array Value} {below : List Frame} {meth : Method} {c : Code} {D : va_G} {A : Nat → Prop} {ad : Nat → Nat} {cA : ClassId × ClassId × ClassId} {te : Te} {ru : Ru} {au : Au} {re : Re} {la : La} {sp : Sp} {Q : Le → Prop} (S : CallFix p m c b_Le_goOn 3 s args gtbl R_Le) (hr : meth.sig.returnType = none) (hlk : meth.locks = false) (hK : gK D (tyA cA) s) (hA : ∀ q : Nat, s.heap.size ≤ q → A q) : ∀ n : Nat, ∀ (ls : Array Slot) (H : Heap) (locs : List Loc) (x1 : Int32) (le : Le), p_Le_goOn_74 te Q n x1 le → lv_has ls 3 [(0, .ref (ad 28)), (1, .int x1)] → gIn D A s (wC ad cA) (te, ru, au, re, la, sp, le) H locs → W p l e rm_Le_goOn s m args below meth c H locs 0 0 (qV D (tyA cA) A (wC ad cA) (fun u : Le => (te, ru, au, re, la, sp, u)) (fun u : Le => Q u) below args s) (F0 m 74 ls []) := by
  intro n
  induction n with
  | zero =>
    intro ls H locs x1 le h
    exact (show False from h).elim
  | succ n ih =>
    intro ls H locs x1 le h hl I
    refine lv_iload_n S.1 S.2.1 d_Le_goOn_74 rfl (lv_at hl 1 rfl) ?_
    refine lv_bipush (v := (7 : Int32)) S.1 S.2.1 d_Le_goOn_75 rfl ?_
    refine lv_icmp_ge (tgt := 124) S.1 S.2.1 d_Le_goOn_77 (by decide) (fun hc => ?_) (fun hc => ?_)
    · have h := h.1 hc
      exact ret_rwv S hr hlk hK I h d_Le_goOn_124
    · have h := h.2 hc
      refine lv_aload_n S.1 S.2.1 d_Le_goOn_80 rfl (lv_at hl 0 rfl) ?_
      refine g_Le_newest S hK I.1 d_Le_goOn_81 ?_
      refine lv_iload_n S.1 S.2.1 d_Le_goOn_84 rfl (lv_at hl 1 rfl) ?_
      refine lv_aload_n S.1 S.2.1 d_Le_goOn_85 rfl (lv_at hl 0 rfl) ?_
      refine g_Le_coming S hK I.1 d_Le_goOn_86 ?_
      refine lv_iload_n S.1 S.2.1 d_Le_goOn_89 rfl (lv_at hl 1 rfl) ?_
      obtain ⟨hin, h⟩ := h
      refine a_Le_coming S hK I.1 hin d_Le_goOn_90 ?_
      refine lv_aload_n S.1 S.2.1 d_Le_goOn_91 rfl (lv_at hl 0 rfl) ?_
      refine g_Le_inLevels S hK I.1 d_Le_goOn_92 ?_
      refine lv_iload_n S.1 S.2.1 d_Le_goOn_95 rfl (lv_at hl 1 rfl) ?_
      obtain ⟨hin, h⟩ := h
      refine a_Le_inLevels S hK I.1 hin d_Le_goOn_96 ?_
      refine lv_ldc2 (v := (-1 : Int64)) S.1 S.2.1 S.2.2.2.1 (S.2.2.2.2 _ kn_Le_122) d_Le_goOn_97 ?_
      refine lv_lxor S.1 S.2.1 d_Le_goOn_100 ?_
      refine lv_land S.1 S.2.1 d_Le_goOn_101 ?_
      obtain ⟨hin, h⟩ := h
      refine s_Le_newest S hK I hin d_Le_goOn_102 (fun H locs le102 ele102 I => ?_)
      have h := h le102 ele102
      refine lv_aload_n S.1 S.2.1 d_Le_goOn_103 rfl (lv_at hl 0 rfl) ?_
      refine g_Le_inLevels S hK I.1 d_Le_goOn_104 ?_
      refine lv_iload_n S.1 S.2.1 d_Le_goOn_107 rfl (lv_at hl 1 rfl) ?_
      refine lv_dup2_11 S.1 S.2.1 d_Le_goOn_108 rfl rfl ?_
      obtain ⟨hin, h⟩ := h
      refine a_Le_inLevels S hK I.1 hin d_Le_goOn_109 ?_
      refine lv_aload_n S.1 S.2.1 d_Le_goOn_110 rfl (lv_at hl 0 rfl) ?_
      refine g_Le_newest S hK I.1 d_Le_goOn_111 ?_
      refine lv_iload_n S.1 S.2.1 d_Le_goOn_114 rfl (lv_at hl 1 rfl) ?_
      obtain ⟨hin, h⟩ := h
      refine a_Le_newest S hK I.1 hin d_Le_goOn_115 ?_
      refine lv_lor S.1 S.2.1 d_Le_goOn_116 ?_
      obtain ⟨hin, h⟩ := h
      refine s_Le_inLevels S hK I hin d_Le_goOn_117 (fun H locs le117 ele117 I => ?_)
      have h := h le117 ele117
      refine lv_iinc (k := 1) (v := x1 + (1 : Int32)) (lv' := [(1, .int (x1 + (1 : Int32))), (0, .ref (ad 28))]) S.1 S.2.1 d_Le_goOn_118 hl rfl rfl (by decide) rfl (fun ls hl => ?_)
      refine lv_goto (tgt := 74) S.1 S.2.1 d_Le_goOn_121 (by decide) ?_
      exact ih _ _ _ _ _ h (lv_sub hl [1, 0] rfl) I
set_option maxHeartbeats 4000000 in
set_option maxRecDepth 100000 in
theorem n_Le_goOn_23 {p : Program} {l : Launch} {e : Env} {s : State} {m : MethodId} {args : Array Value} {below : List Frame} {meth : Method} {c : Code} {D : va_G} {A : Nat → Prop} {ad : Nat → Nat} {cA : ClassId × ClassId × ClassId} {te : Te} {ru : Ru} {au : Au} {re : Re} {la : La} {sp : Sp} {Q : Le → Prop} (S : CallFix p m c b_Le_goOn 3 s args gtbl R_Le) (hr : meth.sig.returnType = none) (hlk : meth.locks = false) (hK : gK D (tyA cA) s) (hA : ∀ q : Nat, s.heap.size ≤ q → A q) {k10 : Int32 → Le → Prop} (hk10 : ∀ (ls : Array Slot) (H : Heap) (locs : List Loc) (x1 : Int32) (le : Le), k10 x1 le → lv_has ls 3 [(0, .ref (ad 28)), (1, .int x1)] → gIn D A s (wC ad cA) (te, ru, au, re, la, sp, le) H locs → W p l e rm_Le_goOn s m args below meth c H locs 0 0 (qV D (tyA cA) A (wC ad cA) (fun u : Le => (te, ru, au, re, la, sp, u)) (fun u : Le => Q u) below args s) (F0 m 10 ls [])) : ∀ n : Nat, ∀ (ls : Array Slot) (H : Heap) (locs : List Loc) (x1 : Int32) (x2 : Int32) (le : Le), p_Le_goOn_23 te Q k10 n x1 x2 le → lv_has ls 3 [(0, .ref (ad 28)), (1, .int x1), (2, .int x2)] → gIn D A s (wC ad cA) (te, ru, au, re, la, sp, le) H locs → W p l e rm_Le_goOn s m args below meth c H locs 0 0 (qV D (tyA cA) A (wC ad cA) (fun u : Le => (te, ru, au, re, la, sp, u)) (fun u : Le => Q u) below args s) (F0 m 23 ls []) := by
  intro n
  induction n with
  | zero =>
    intro ls H locs x1 x2 le h
    exact (show False from h).elim
  | succ n ih =>
    intro ls H locs x1 x2 le h hl I
    refine lv_iload_n S.1 S.2.1 d_Le_goOn_23 rfl (lv_at hl 2 rfl) ?_
    refine lv_bipush (v := (7 : Int32)) S.1 S.2.1 d_Le_goOn_24 rfl ?_
    refine lv_icmp_ge (tgt := 66) S.1 S.2.1 d_Le_goOn_26 (by decide) (fun hc => ?_) (fun hc => ?_)
    · have h := h.1 hc
      refine lv_iinc (k := 1) (v := x1 + (1 : Int32)) (lv' := [(1, .int (x1 + (1 : Int32))), (0, .ref (ad 28)), (2, .int x2)]) S.1 S.2.1 d_Le_goOn_66 hl rfl rfl (by decide) rfl (fun ls hl => ?_)
      refine lv_goto (tgt := 10) S.1 S.2.1 d_Le_goOn_69 (by decide) ?_
      exact hk10 _ _ _ _ _ h (lv_sub hl [1, 0] rfl) I
    · have h := h.2 hc
      refine lv_aload_n S.1 S.2.1 d_Le_goOn_29 rfl (lv_at hl 0 rfl) ?_
      refine g_Le_newest S hK I.1 d_Le_goOn_30 ?_
      refine lv_iload_n S.1 S.2.1 d_Le_goOn_33 rfl (lv_at hl 1 rfl) ?_
      refine callS_roi S (c_Le_isIn_newest l D ad cA _ _ _ _ _ _ _ _ _ h) (mkS S.2.2.2.2 ml_Le_57 k_Le_isIn rfl rfl ⟨Nat.le_of_ble_eq_true rfl, Nat.le_of_ble_eq_true rfl⟩) hK I.1 hl.1 rfl rfl (Nat.le_of_ble_eq_true rfl) d_Le_goOn_34 ⟨Nat.zero_le _, Nat.zero_le _⟩ (fun r34 h => ?_)
      refine lv_if_eq (tgt := 66) S.1 S.2.1 d_Le_goOn_37 (by decide) (fun hc => ?_) (fun hc => ?_)
      · have h := h.1 hc
        refine lv_iinc (k := 1) (v := x1 + (1 : Int32)) (lv' := [(1, .int (x1 + (1 : Int32))), (0, .ref (ad 28)), (2, .int x2)]) S.1 S.2.1 d_Le_goOn_66 hl rfl rfl (by decide) rfl (fun ls hl => ?_)
        refine lv_goto (tgt := 10) S.1 S.2.1 d_Le_goOn_69 (by decide) ?_
        exact hk10 _ _ _ _ _ h (lv_sub hl [1, 0] rfl) I
      · have h := h.2 hc
        refine lv_aload_n S.1 S.2.1 d_Le_goOn_40 rfl (lv_at hl 0 rfl) ?_
        refine g_Le_coming S hK I.1 d_Le_goOn_41 ?_
        refine lv_iload_n S.1 S.2.1 d_Le_goOn_44 rfl (lv_at hl 2 rfl) ?_
        refine lv_dup2_11 S.1 S.2.1 d_Le_goOn_45 rfl rfl ?_
        obtain ⟨hin, h⟩ := h
        refine a_Le_coming S hK I.1 hin d_Le_goOn_46 ?_
        refine lv_aload_n S.1 S.2.1 d_Le_goOn_47 rfl (lv_at hl 0 rfl) ?_
        refine g_Le_after S hK I.1 d_Le_goOn_48 ?_
        refine lv_iload_n S.1 S.2.1 d_Le_goOn_51 rfl (lv_at hl 1 rfl) ?_
        refine lv_bipush (v := (7 : Int32)) S.1 S.2.1 d_Le_goOn_52 rfl ?_
        refine lv_imul S.1 S.2.1 d_Le_goOn_54 ?_
        refine lv_iload_n S.1 S.2.1 d_Le_goOn_55 rfl (lv_at hl 2 rfl) ?_
        refine lv_iadd S.1 S.2.1 d_Le_goOn_56 ?_
        obtain ⟨hin, h⟩ := h
        refine a_Le_after S hK I.1 hin d_Le_goOn_57 ?_
        refine lv_lor S.1 S.2.1 d_Le_goOn_58 ?_
        obtain ⟨hin, h⟩ := h
        refine s_Le_coming S hK I hin d_Le_goOn_59 (fun H locs le59 ele59 I => ?_)
        have h := h le59 ele59
        refine lv_iinc (k := 2) (v := x2 + (1 : Int32)) (lv' := [(2, .int (x2 + (1 : Int32))), (0, .ref (ad 28)), (1, .int x1)]) S.1 S.2.1 d_Le_goOn_60 hl rfl rfl (by decide) rfl (fun ls hl => ?_)
        refine lv_goto (tgt := 23) S.1 S.2.1 d_Le_goOn_63 (by decide) ?_
        exact ih _ _ _ _ _ _ h (lv_sub hl [1, 2, 0] rfl) I
set_option maxHeartbeats 4000000 in
set_option maxRecDepth 100000 in
theorem n_Le_goOn_10 {p : Program} {l : Launch} {e : Env} {s : State} {m : MethodId} {args : Array Value} {below : List Frame} {meth : Method} {c : Code} {D : va_G} {A : Nat → Prop} {ad : Nat → Nat} {cA : ClassId × ClassId × ClassId} {te : Te} {ru : Ru} {au : Au} {re : Re} {la : La} {sp : Sp} {Q : Le → Prop} (S : CallFix p m c b_Le_goOn 3 s args gtbl R_Le) (hr : meth.sig.returnType = none) (hlk : meth.locks = false) (hK : gK D (tyA cA) s) (hA : ∀ q : Nat, s.heap.size ≤ q → A q) : ∀ n : Nat, ∀ (ls : Array Slot) (H : Heap) (locs : List Loc) (x1 : Int32) (le : Le), p_Le_goOn_10 te Q n x1 le → lv_has ls 3 [(0, .ref (ad 28)), (1, .int x1)] → gIn D A s (wC ad cA) (te, ru, au, re, la, sp, le) H locs → W p l e rm_Le_goOn s m args below meth c H locs 0 0 (qV D (tyA cA) A (wC ad cA) (fun u : Le => (te, ru, au, re, la, sp, u)) (fun u : Le => Q u) below args s) (F0 m 10 ls []) := by
  intro n
  induction n with
  | zero =>
    intro ls H locs x1 le h
    exact (show False from h).elim
  | succ n ih =>
    intro ls H locs x1 le h hl I
    refine lv_iload_n S.1 S.2.1 d_Le_goOn_10 rfl (lv_at hl 1 rfl) ?_
    refine lv_aload_n S.1 S.2.1 d_Le_goOn_11 rfl (lv_at hl 0 rfl) ?_
    refine g_Le_terms S hK I.1 d_Le_goOn_12 ?_
    refine callV_roi S (c_Te_count l D ad cA _ _ _ _ _ _ _ _ h) (mkV S.2.2.2.2 ml_Le_43 k_Te_count rfl rfl ⟨Nat.le_of_ble_eq_true rfl, Nat.le_of_ble_eq_true rfl⟩) (rv_Te hK I.1) hK I.1 hl.1 rfl rfl (Nat.le_of_ble_eq_true rfl) d_Le_goOn_15 ⟨Nat.zero_le _, Nat.zero_le _⟩ (fun r15 h => ?_)
    refine lv_icmp_ge (tgt := 72) S.1 S.2.1 d_Le_goOn_18 (by decide) (fun hc => ?_) (fun hc => ?_)
    · have h := h.1 hc
      refine lv_iconst (v := (0 : Int32)) S.1 S.2.1 d_Le_goOn_72 rfl ?_
      refine lv_istore_n (lv' := [(1, .int (0 : Int32)), (0, .ref (ad 28))]) S.1 S.2.1 d_Le_goOn_73 rfl hl (by decide) rfl (fun ls hl => ?_)
      obtain ⟨n', h⟩ := h
      exact n_Le_goOn_74 S hr hlk hK hA n' _ _ _ _ _ h (lv_sub hl [1, 0] rfl) I
    · have h := h.2 hc
      refine lv_iconst (v := (0 : Int32)) S.1 S.2.1 d_Le_goOn_21 rfl ?_
      refine lv_istore_n (lv' := [(2, .int (0 : Int32)), (0, .ref (ad 28)), (1, .int x1)]) S.1 S.2.1 d_Le_goOn_22 rfl hl (by decide) rfl (fun ls hl => ?_)
      obtain ⟨n', h⟩ := h
      exact n_Le_goOn_23 S hr hlk hK hA ih n' _ _ _ _ _ _ h (lv_sub hl [1, 2, 0] rfl) I
set_option maxHeartbeats 4000000 in
set_option maxRecDepth 100000 in
theorem c_Le_goOn (l : Launch) (D : va_G) (ad : Nat → Nat) (cA : ClassId × ClassId × ClassId) (te : Te) (ru : Ru) (au : Au) (re : Re) (la : La) (sp : Sp) (le : Le)  (Q : Le → Prop) (h : p_Le_goOn  te le Q) : rwV l y_Le_goOn (wsOf y_Le_goOn b_Le_goOn 3 none) rm_Le_goOn D (tyA cA) (wC ad cA) [.ref (ad 28)] (te, ru, au, re, la, sp, le) (fun u : Le => (te, ru, au, re, la, sp, u)) (fun u : Le => Q u) := by
  refine rwV_of (by decide) (Nat.le_of_ble_eq_true rfl) ?_
  intro p e s m below meth c S hr hlk hK A hA I ls hl
  have hl : lv_has ls 3 [(0, .ref (ad 28))] := hl
  refine lv_aload_n S.1 S.2.1 d_Le_goOn_0 rfl (lv_at hl 0 rfl) ?_
  refine g_Le_coming S hK I.1 d_Le_goOn_1 ?_
  refine lv_lconst (v := (0 : Int64)) S.1 S.2.1 d_Le_goOn_4 rfl ?_
  refine callS_rwv S (c_Ar_fillJ_coming l D ad cA _ _ _ _ _ _ _ _ _ h) (mkS S.2.2.2.2 ml_Le_73 k_Ar_fillJ rfl rfl ⟨Nat.le_of_ble_eq_true rfl, Nat.le_of_ble_eq_true rfl⟩) hK hA I hl.1 rfl rfl (Nat.le_of_ble_eq_true rfl) d_Le_goOn_5 ⟨Nat.zero_le _, Nat.zero_le _⟩ (fun le5 H locs h I => ?_)
  refine lv_iconst (v := (0 : Int32)) S.1 S.2.1 d_Le_goOn_8 rfl ?_
  refine lv_istore_n (lv' := [(1, .int (0 : Int32)), (0, .ref (ad 28))]) S.1 S.2.1 d_Le_goOn_9 rfl hl (by decide) rfl (fun ls hl => ?_)
  obtain ⟨n', h⟩ := h
  exact n_Le_goOn_10 S hr hlk hK hA n' _ _ _ _ _ h (lv_sub hl [1, 0] rfl) I

set_option maxHeartbeats 4000000 in
set_option maxRecDepth 100000 in
theorem c_Le_findCounted (l : Launch) (D : va_G) (ad : Nat → Nat) (cA : ClassId × ClassId × ClassId) (te : Te) (ru : Ru) (au : Au) (re : Re) (la : La) (sp : Sp) (le : Le) (x1 : Int32) (x2 : Int32) (x3 : Int32) (Q : Int32 → Te → Le → Prop) (h : p_Le_findCounted x1 x2 x3 te le Q) : rwI l y_Le_findCounted (wsOf y_Le_findCounted b_Le_findCounted 6 (some .int)) rm_Le_findCounted D (tyA cA) (wC ad cA) [.ref (ad 28), .int x1, .int x2, .int x3] (te, ru, au, re, la, sp, le) (fun u : Te × Le => (u.1, ru, au, re, la, sp, u.2)) (fun (r : Int32) (u : Te × Le) => Q r u.1 u.2) := by
  refine rwI_of (by decide) (Nat.le_of_ble_eq_true rfl) ?_
  intro p e s m below meth c S hr hlk hK A hA I ls hl
  have hl : lv_has ls 6 [(0, .ref (ad 28)), (1, .int x1), (2, .int x2), (3, .int x3)] := hl
  refine lv_aload_n S.1 S.2.1 d_Le_findCounted_0 rfl (lv_at hl 0 rfl) ?_
  refine g_Le_terms S hK I.1 d_Le_findCounted_1 ?_
  refine lv_iload_n S.1 S.2.1 d_Le_findCounted_4 rfl (lv_at hl 1 rfl) ?_
  refine lv_iload_n S.1 S.2.1 d_Le_findCounted_5 rfl (lv_at hl 2 rfl) ?_
  refine lv_iload_n S.1 S.2.1 d_Le_findCounted_6 rfl (lv_at hl 3 rfl) ?_
  refine callV_roi S (c_Te_find l D ad cA _ _ _ _ _ _ _ _ _ _ _ h) (mkV S.2.2.2.2 ml_Le_116 k_Te_find rfl rfl ⟨Nat.le_of_ble_eq_true rfl, Nat.le_of_ble_eq_true rfl⟩) (rv_Te hK I.1) hK I.1 hl.1 rfl rfl (Nat.le_of_ble_eq_true rfl) d_Le_findCounted_7 ⟨Nat.zero_le _, Nat.zero_le _⟩ (fun r7 h => ?_)
  refine lv_istore (lv' := [(4, .int r7), (0, .ref (ad 28)), (1, .int x1), (2, .int x2), (3, .int x3)]) S.1 S.2.1 d_Le_findCounted_10 hl (by decide) rfl (fun ls hl => ?_)
  refine lv_iload S.1 S.2.1 d_Le_findCounted_12 (lv_at hl 0 rfl) ?_
  refine lv_iconst (v := (-1 : Int32)) S.1 S.2.1 d_Le_findCounted_14 rfl ?_
  refine lv_icmp_eq (tgt := 27) S.1 S.2.1 d_Le_findCounted_15 (by decide) (fun hc => ?_) (fun hc => ?_)
  · have h := h.1 hc
    refine lv_aload_n S.1 S.2.1 d_Le_findCounted_27 rfl (lv_at hl 1 rfl) ?_
    refine lv_dup S.1 S.2.1 d_Le_findCounted_28 rfl ?_
    refine g_Le_countedTerms S hK I.1 d_Le_findCounted_29 ?_
    refine lv_iconst (v := (1 : Int32)) S.1 S.2.1 d_Le_findCounted_32 rfl ?_
    refine lv_iadd S.1 S.2.1 d_Le_findCounted_33 ?_
    refine q_Le_countedTerms S hK I d_Le_findCounted_34 (fun H locs le34 ele34 I => ?_)
    have h := h le34 ele34
    refine lv_aload_n S.1 S.2.1 d_Le_findCounted_37 rfl (lv_at hl 1 rfl) ?_
    refine g_Le_countedTerms S hK I.1 d_Le_findCounted_38 ?_
    refine lv_sipush (v := (400 : Int32)) S.1 S.2.1 d_Le_findCounted_41 rfl ?_
    refine lv_icmp_le (tgt := 49) S.1 S.2.1 d_Le_findCounted_44 (by decide) (fun hc => ?_) (fun hc => ?_)
    · have h := h.1 hc
      refine lv_aload_n S.1 S.2.1 d_Le_findCounted_49 rfl (lv_at hl 1 rfl) ?_
      refine g_Le_terms S hK I.1 d_Le_findCounted_50 ?_
      refine lv_iload_n S.1 S.2.1 d_Le_findCounted_53 rfl (lv_at hl 2 rfl) ?_
      refine lv_iload_n S.1 S.2.1 d_Le_findCounted_54 rfl (lv_at hl 3 rfl) ?_
      refine lv_iload_n S.1 S.2.1 d_Le_findCounted_55 rfl (lv_at hl 4 rfl) ?_
      refine callV_rwi S (c_Te_append l D ad cA _ _ _ _ _ _ _ _ _ _ _ h) (mkV S.2.2.2.2 ml_Le_119 k_Te_append rfl rfl ⟨Nat.le_of_ble_eq_true rfl, Nat.le_of_ble_eq_true rfl⟩) (rv_Te hK I.1) hK hA I hl.1 rfl rfl (Nat.le_of_ble_eq_true rfl) d_Le_findCounted_56 ⟨Nat.zero_le _, Nat.zero_le _⟩ (fun r56 te56 H locs h I => ?_)
      refine lv_istore (lv' := [(5, .int r56), (4, .int r7), (0, .ref (ad 28)), (1, .int x1), (2, .int x2), (3, .int x3)]) S.1 S.2.1 d_Le_findCounted_59 hl (by decide) rfl (fun ls hl => ?_)
      refine lv_iload S.1 S.2.1 d_Le_findCounted_61 (lv_at hl 0 rfl) ?_
      refine lv_iconst (v := (-1 : Int32)) S.1 S.2.1 d_Le_findCounted_63 rfl ?_
      refine lv_icmp_eq (tgt := 75) S.1 S.2.1 d_Le_findCounted_64 (by decide) (fun hc => ?_) (fun hc => ?_)
      · have h := h.1 hc
        refine lv_iload S.1 S.2.1 d_Le_findCounted_75 (lv_at hl 0 rfl) ?_
        exact ret_rwi (u := (_, _)) S hr hlk hK I h d_Le_findCounted_77
      · have h := h.2 hc
        refine lv_aload_n S.1 S.2.1 d_Le_findCounted_67 rfl (lv_at hl 2 rfl) ?_
        refine g_Le_counted S hK I.1 d_Le_findCounted_68 ?_
        refine lv_iload S.1 S.2.1 d_Le_findCounted_71 (lv_at hl 0 rfl) ?_
        refine lv_iconst (v := (1 : Int32)) S.1 S.2.1 d_Le_findCounted_73 rfl ?_
        obtain ⟨hin, h⟩ := h
        refine s_Le_counted S hK I hin d_Le_findCounted_74 (fun H locs le74 ele74 I => ?_)
        have h := h le74 ele74
        refine lv_iload S.1 S.2.1 d_Le_findCounted_75 (lv_at hl 0 rfl) ?_
        exact ret_rwi (u := (_, _)) S hr hlk hK I h d_Le_findCounted_77
    · have h := h.2 hc
      refine lv_iconst (v := (-1 : Int32)) S.1 S.2.1 d_Le_findCounted_47 rfl ?_
      exact ret_rwi (u := (_, _)) S hr hlk hK I h d_Le_findCounted_48
  · have h := h.2 hc
    refine lv_aload_n S.1 S.2.1 d_Le_findCounted_18 rfl (lv_at hl 1 rfl) ?_
    refine lv_iload S.1 S.2.1 d_Le_findCounted_19 (lv_at hl 0 rfl) ?_
    refine callV_rwv S (c_Le_countWithParts l D ad cA _ _ _ _ _ _ _ _ _ h) (mkV S.2.2.2.2 ml_Le_79 k_Le_countWithParts rfl rfl ⟨Nat.le_of_ble_eq_true rfl, Nat.le_of_ble_eq_true rfl⟩) (rv_Le hK I.1) hK hA I hl.1 rfl rfl (Nat.le_of_ble_eq_true rfl) d_Le_findCounted_21 ⟨Nat.zero_le _, Nat.zero_le _⟩ (fun le21 H locs h I => ?_)
    refine lv_iload S.1 S.2.1 d_Le_findCounted_24 (lv_at hl 0 rfl) ?_
    exact ret_rwi (u := (_, _)) S hr hlk hK I h d_Le_findCounted_26

set_option maxHeartbeats 4000000 in
set_option maxRecDepth 100000 in
theorem c_Le_include_after (l : Launch) (D : va_G) (ad : Nat → Nat) (cA : ClassId × ClassId × ClassId) (te : Te) (ru : Ru) (au : Au) (re : Re) (la : La) (sp : Sp) (le : Le) (x1 : Int32) (x2 : Int32) (Q : Le → Prop) (h : p_Le_include_after x1 x2 le Q) : rwV l y_Le_include (wsOf y_Le_include b_Le_include 3 none) rm_Le_include_after D (tyA cA) (wC ad cA) [.ref (ad 29), .int x1, .int x2] (te, ru, au, re, la, sp, le) (fun u : Le => (te, ru, au, re, la, sp, u)) (fun u : Le => Q u) := by
  refine rwV_of (by decide) (Nat.le_of_ble_eq_true rfl) ?_
  intro p e s m below meth c S hr hlk hK A hA I ls hl
  have hl : lv_has ls 3 [(0, .ref (ad 29)), (1, .int x1), (2, .int x2)] := hl
  refine lv_iload_n S.1 S.2.1 d_Le_include_0 rfl (lv_at hl 2 rfl) ?_
  refine lv_iconst (v := (-1 : Int32)) S.1 S.2.1 d_Le_include_1 rfl ?_
  refine lv_icmp_eq (tgt := 22) S.1 S.2.1 d_Le_include_2 (by decide) (fun hc => ?_) (fun hc => ?_)
  · have h := h.1 hc
    exact ret_rwv S hr hlk hK I h d_Le_include_22
  · have h := h.2 hc
    refine lv_aload_n S.1 S.2.1 d_Le_include_5 rfl (lv_at hl 0 rfl) ?_
    refine lv_iload_n S.1 S.2.1 d_Le_include_6 rfl (lv_at hl 1 rfl) ?_
    refine lv_iload_n S.1 S.2.1 d_Le_include_7 rfl (lv_at hl 2 rfl) ?_
    refine lv_bipush (v := (64 : Int32)) S.1 S.2.1 d_Le_include_8 rfl ?_
    refine lv_idiv S.1 S.2.1 d_Le_include_10 (by decide) ?_
    refine lv_iadd S.1 S.2.1 d_Le_include_11 ?_
    refine lv_dup2_11 S.1 S.2.1 d_Le_include_12 rfl rfl ?_
    obtain ⟨hin, h⟩ := h
    refine a_Le_after S hK I.1 hin d_Le_include_13 ?_
    refine lv_lconst (v := (1 : Int64)) S.1 S.2.1 d_Le_include_14 rfl ?_
    refine lv_iload_n S.1 S.2.1 d_Le_include_15 rfl (lv_at hl 2 rfl) ?_
    refine lv_bipush (v := (64 : Int32)) S.1 S.2.1 d_Le_include_16 rfl ?_
    refine lv_irem S.1 S.2.1 d_Le_include_18 (by decide) ?_
    refine lv_lshl S.1 S.2.1 d_Le_include_19 rfl ?_
    refine lv_lor S.1 S.2.1 d_Le_include_20 ?_
    obtain ⟨hin, h⟩ := h
    refine s_Le_after S hK I hin d_Le_include_21 (fun H locs le21 ele21 I => ?_)
    have h := h le21 ele21
    exact ret_rwv S hr hlk hK I h d_Le_include_22

set_option maxHeartbeats 4000000 in
set_option maxRecDepth 100000 in
theorem n_Le_stepInPart_122 {p : Program} {l : Launch} {e : Env} {s : State} {m : MethodId} {args : Array Value} {below : List Frame} {meth : Method} {c : Code} {D : va_G} {A : Nat → Prop} {ad : Nat → Nat} {cA : ClassId × ClassId × ClassId} {ru : Ru} {au : Au} {re : Re} {la : La} {sp : Sp} {x1 : Int32} {x2 : Int32} {x3 : Int32} {Q : Te → Le → Prop} (S : CallFix p m c b_Le_stepInPart 9 s args gtbl R_Le) (hr : meth.sig.returnType = none) (hlk : meth.locks = false) (hK : gK D (tyA cA) s) (hA : ∀ q : Nat, s.heap.size ≤ q → A q) {k3 : Int32 → Te → Le → Prop} (hk3 : ∀ (ls : Array Slot) (H : Heap) (locs : List Loc) (x4 : Int32) (te : Te) (le : Le), k3 x4 te le → lv_has ls 9 [(0, .ref (ad 28)), (1, .int x1), (2, .int x2), (3, .int x3), (4, .int x4)] → gIn D A s (wC ad cA) (te, ru, au, re, la, sp, le) H locs → W p l e rm_Le_stepInPart s m args below meth c H locs 0 0 (qV D (tyA cA) A (wC ad cA) (fun u : Te × Le => (u.1, ru, au, re, la, sp, u.2)) (fun u : Te × Le => Q u.1 u.2) below args s) (F0 m 3 ls [])) {k27 : Int32 → Int64 → Int32 → Te → Le → Prop} (hk27 : ∀ (ls : Array Slot) (H : Heap) (locs : List Loc) (x4 : Int32) (x5 : Int64) (x7 : Int32) (te : Te) (le : Le), k27 x4 x5 x7 te le → lv_has ls 9 [(0, .ref (ad 28)), (1, .int x1), (2, .int x2), (3, .int x3), (4, .int x4), (5, .long x5), (7, .int x7)] → gIn D A s (wC ad cA) (te, ru, au, re, la, sp, le) H locs → W p l e rm_Le_stepInPart s m args below meth c H locs 0 0 (qV D (tyA cA) A (wC ad cA) (fun u : Te × Le => (u.1, ru, au, re, la, sp, u.2)) (fun u : Te × Le => Q u.1 u.2) below args s) (F0 m 27 ls [])) : ∀ (ls : Array Slot) (H : Heap) (locs : List Loc) (x4 : Int32) (x5 : Int64) (x7 : Int32) (te : Te) (le : Le), p_Le_stepInPart_122 x1 x2 x3 Q k3 k27 x4 x5 x7 te le → lv_has ls 9 [(0, .ref (ad 28)), (1, .int x1), (2, .int x2), (3, .int x3), (4, .int x4), (5, .long x5), (7, .int x7)] → gIn D A s (wC ad cA) (te, ru, au, re, la, sp, le) H locs → W p l e rm_Le_stepInPart s m args below meth c H locs 0 0 (qV D (tyA cA) A (wC ad cA) (fun u : Te × Le => (u.1, ru, au, re, la, sp, u.2)) (fun u : Te × Le => Q u.1 u.2) below args s) (F0 m 122 ls []) := by
  intro ls H locs x4 x5 x7 te le h hl I
  refine lv_lload S.1 S.2.1 d_Le_stepInPart_122 (lv_at hl 5 rfl) ?_
  refine lv_iconst (v := (1 : Int32)) S.1 S.2.1 d_Le_stepInPart_124 rfl ?_
  refine lv_lushr S.1 S.2.1 d_Le_stepInPart_125 rfl ?_
  refine lv_lstore (lv' := [(5, .long ((x5.toUInt64 >>> ((1 : Int32).toInt64.toUInt64 &&& Int64.toUInt64 63)).toInt64)), (0, .ref (ad 28)), (1, .int x1), (2, .int x2), (3, .int x3), (4, .int x4), (7, .int x7)]) S.1 S.2.1 d_Le_stepInPart_126 hl (by decide) rfl (fun ls hl => ?_)
  refine lv_iinc (k := 6) (v := x7 + (1 : Int32)) (lv' := [(7, .int (x7 + (1 : Int32))), (5, .long ((x5.toUInt64 >>> ((1 : Int32).toInt64.toUInt64 &&& Int64.toUInt64 63)).toInt64)), (0, .ref (ad 28)), (1, .int x1), (2, .int x2), (3, .int x3), (4, .int x4)]) S.1 S.2.1 d_Le_stepInPart_128 hl rfl rfl (by decide) rfl (fun ls hl => ?_)
  refine lv_goto (tgt := 27) S.1 S.2.1 d_Le_stepInPart_131 (by decide) ?_
  exact hk27 _ _ _ _ _ _ _ _ h (lv_sub hl [2, 3, 4, 5, 6, 1, 0] rfl) I
set_option maxHeartbeats 4000000 in
set_option maxRecDepth 100000 in
theorem n_Le_stepInPart_119 {p : Program} {l : Launch} {e : Env} {s : State} {m : MethodId} {args : Array Value} {below : List Frame} {meth : Method} {c : Code} {D : va_G} {A : Nat → Prop} {ad : Nat → Nat} {cA : ClassId × ClassId × ClassId} {ru : Ru} {au : Au} {re : Re} {la : La} {sp : Sp} {x1 : Int32} {x2 : Int32} {x3 : Int32} {Q : Te → Le → Prop} (S : CallFix p m c b_Le_stepInPart 9 s args gtbl R_Le) (hr : meth.sig.returnType = none) (hlk : meth.locks = false) (hK : gK D (tyA cA) s) (hA : ∀ q : Nat, s.heap.size ≤ q → A q) {k3 : Int32 → Te → Le → Prop} (hk3 : ∀ (ls : Array Slot) (H : Heap) (locs : List Loc) (x4 : Int32) (te : Te) (le : Le), k3 x4 te le → lv_has ls 9 [(0, .ref (ad 28)), (1, .int x1), (2, .int x2), (3, .int x3), (4, .int x4)] → gIn D A s (wC ad cA) (te, ru, au, re, la, sp, le) H locs → W p l e rm_Le_stepInPart s m args below meth c H locs 0 0 (qV D (tyA cA) A (wC ad cA) (fun u : Te × Le => (u.1, ru, au, re, la, sp, u.2)) (fun u : Te × Le => Q u.1 u.2) below args s) (F0 m 3 ls [])) {k27 : Int32 → Int64 → Int32 → Te → Le → Prop} (hk27 : ∀ (ls : Array Slot) (H : Heap) (locs : List Loc) (x4 : Int32) (x5 : Int64) (x7 : Int32) (te : Te) (le : Le), k27 x4 x5 x7 te le → lv_has ls 9 [(0, .ref (ad 28)), (1, .int x1), (2, .int x2), (3, .int x3), (4, .int x4), (5, .long x5), (7, .int x7)] → gIn D A s (wC ad cA) (te, ru, au, re, la, sp, le) H locs → W p l e rm_Le_stepInPart s m args below meth c H locs 0 0 (qV D (tyA cA) A (wC ad cA) (fun u : Te × Le => (u.1, ru, au, re, la, sp, u.2)) (fun u : Te × Le => Q u.1 u.2) below args s) (F0 m 27 ls [])) : ∀ (ls : Array Slot) (H : Heap) (locs : List Loc) (x4 : Int32) (x5 : Int64) (x7 : Int32) (y0 : Int32) (y1 : Int32) (te : Te) (le : Le), p_Le_stepInPart_119 x1 x2 x3 Q k3 k27 x4 x5 x7 y0 y1 te le → lv_has ls 9 [(0, .ref (ad 28)), (1, .int x1), (2, .int x2), (3, .int x3), (4, .int x4), (5, .long x5), (7, .int x7)] → gIn D A s (wC ad cA) (te, ru, au, re, la, sp, le) H locs → W p l e rm_Le_stepInPart s m args below meth c H locs 0 0 (qV D (tyA cA) A (wC ad cA) (fun u : Te × Le => (u.1, ru, au, re, la, sp, u.2)) (fun u : Te × Le => Q u.1 u.2) below args s) (F0 m 119 ls [.int y0, .int y1, .ref (ad 29)]) := by
  intro ls H locs x4 x5 x7 y0 y1 te le h hl I
  refine callS_rwv S (c_Le_include_after l D ad cA _ _ _ _ _ _ _ _ _ _ h) (mkS S.2.2.2.2 ml_Le_82 k_Le_include rfl rfl ⟨Nat.le_of_ble_eq_true rfl, Nat.le_of_ble_eq_true rfl⟩) hK hA I hl.1 rfl rfl (Nat.le_of_ble_eq_true rfl) d_Le_stepInPart_119 ⟨Nat.zero_le _, Nat.zero_le _⟩ (fun le119 H locs h I => ?_)
  exact n_Le_stepInPart_122 S hr hlk hK hA hk3 hk27 _ _ _ _ _ _ _ _ h (lv_sub hl [0, 1, 2, 3, 4, 5, 6] rfl) I
set_option maxHeartbeats 4000000 in
set_option maxRecDepth 100000 in
theorem n_Le_stepInPart_27 {p : Program} {l : Launch} {e : Env} {s : State} {m : MethodId} {args : Array Value} {below : List Frame} {meth : Method} {c : Code} {D : va_G} {A : Nat → Prop} {ad : Nat → Nat} {cA : ClassId × ClassId × ClassId} {ru : Ru} {au : Au} {re : Re} {la : La} {sp : Sp} {x1 : Int32} {x2 : Int32} {x3 : Int32} {Q : Te → Le → Prop} (S : CallFix p m c b_Le_stepInPart 9 s args gtbl R_Le) (hr : meth.sig.returnType = none) (hlk : meth.locks = false) (hK : gK D (tyA cA) s) (hA : ∀ q : Nat, s.heap.size ≤ q → A q) {k3 : Int32 → Te → Le → Prop} (hk3 : ∀ (ls : Array Slot) (H : Heap) (locs : List Loc) (x4 : Int32) (te : Te) (le : Le), k3 x4 te le → lv_has ls 9 [(0, .ref (ad 28)), (1, .int x1), (2, .int x2), (3, .int x3), (4, .int x4)] → gIn D A s (wC ad cA) (te, ru, au, re, la, sp, le) H locs → W p l e rm_Le_stepInPart s m args below meth c H locs 0 0 (qV D (tyA cA) A (wC ad cA) (fun u : Te × Le => (u.1, ru, au, re, la, sp, u.2)) (fun u : Te × Le => Q u.1 u.2) below args s) (F0 m 3 ls [])) : ∀ n : Nat, ∀ (ls : Array Slot) (H : Heap) (locs : List Loc) (x4 : Int32) (x5 : Int64) (x7 : Int32) (te : Te) (le : Le), p_Le_stepInPart_27 x1 x2 x3 Q k3 n x4 x5 x7 te le → lv_has ls 9 [(0, .ref (ad 28)), (1, .int x1), (2, .int x2), (3, .int x3), (4, .int x4), (5, .long x5), (7, .int x7)] → gIn D A s (wC ad cA) (te, ru, au, re, la, sp, le) H locs → W p l e rm_Le_stepInPart s m args below meth c H locs 0 0 (qV D (tyA cA) A (wC ad cA) (fun u : Te × Le => (u.1, ru, au, re, la, sp, u.2)) (fun u : Te × Le => Q u.1 u.2) below args s) (F0 m 27 ls []) := by
  intro n
  induction n with
  | zero =>
    intro ls H locs x4 x5 x7 te le h
    exact (show False from h).elim
  | succ n ih =>
    intro ls H locs x4 x5 x7 te le h hl I
    refine lv_iload S.1 S.2.1 d_Le_stepInPart_27 (lv_at hl 6 rfl) ?_
    refine lv_bipush (v := (64 : Int32)) S.1 S.2.1 d_Le_stepInPart_29 rfl ?_
    refine lv_icmp_ge (tgt := 134) S.1 S.2.1 d_Le_stepInPart_31 (by decide) (fun hc => ?_) (fun hc => ?_)
    · have h := h.1 hc
      refine lv_iinc (k := 4) (v := x4 + (1 : Int32)) (lv' := [(4, .int (x4 + (1 : Int32))), (0, .ref (ad 28)), (1, .int x1), (2, .int x2), (3, .int x3), (5, .long x5), (7, .int x7)]) S.1 S.2.1 d_Le_stepInPart_134 hl rfl rfl (by decide) rfl (fun ls hl => ?_)
      refine lv_goto (tgt := 3) S.1 S.2.1 d_Le_stepInPart_137 (by decide) ?_
      exact hk3 _ _ _ _ _ _ h (lv_sub hl [1, 2, 3, 4, 0] rfl) I
    · have h := h.2 hc
      refine lv_lload S.1 S.2.1 d_Le_stepInPart_34 (lv_at hl 5 rfl) ?_
      refine lv_lconst (v := (0 : Int64)) S.1 S.2.1 d_Le_stepInPart_36 rfl ?_
      refine W.lcmp S.1 S.2.1 d_Le_stepInPart_37 ?_
      refine lv_if_eq (tgt := 134) S.1 S.2.1 d_Le_stepInPart_38 (by decide) (fun hc => ?_) (fun hc => ?_)
      · have h := h.1 hc
        refine lv_iinc (k := 4) (v := x4 + (1 : Int32)) (lv' := [(4, .int (x4 + (1 : Int32))), (0, .ref (ad 28)), (1, .int x1), (2, .int x2), (3, .int x3), (5, .long x5), (7, .int x7)]) S.1 S.2.1 d_Le_stepInPart_134 hl rfl rfl (by decide) rfl (fun ls hl => ?_)
        refine lv_goto (tgt := 3) S.1 S.2.1 d_Le_stepInPart_137 (by decide) ?_
        exact hk3 _ _ _ _ _ _ h (lv_sub hl [1, 2, 3, 4, 0] rfl) I
      · have h := h.2 hc
        refine lv_lload S.1 S.2.1 d_Le_stepInPart_41 (lv_at hl 5 rfl) ?_
        refine lv_lconst (v := (1 : Int64)) S.1 S.2.1 d_Le_stepInPart_43 rfl ?_
        refine lv_land S.1 S.2.1 d_Le_stepInPart_44 ?_
        refine lv_lconst (v := (0 : Int64)) S.1 S.2.1 d_Le_stepInPart_45 rfl ?_
        refine W.lcmp S.1 S.2.1 d_Le_stepInPart_46 ?_
        refine lv_if_eq (tgt := 122) S.1 S.2.1 d_Le_stepInPart_47 (by decide) (fun hc => ?_) (fun hc => ?_)
        · have h := h.1 hc
          exact n_Le_stepInPart_122 S hr hlk hK hA hk3 ih _ _ _ _ _ _ _ _ h (lv_sub hl [0, 1, 2, 3, 4, 5, 6] rfl) I
        · have h := h.2 hc
          refine lv_iload S.1 S.2.1 d_Le_stepInPart_50 (lv_at hl 4 rfl) ?_
          refine lv_bipush (v := (64 : Int32)) S.1 S.2.1 d_Le_stepInPart_52 rfl ?_
          refine lv_imul S.1 S.2.1 d_Le_stepInPart_54 ?_
          refine lv_iload S.1 S.2.1 d_Le_stepInPart_55 (lv_at hl 6 rfl) ?_
          refine lv_iadd S.1 S.2.1 d_Le_stepInPart_57 ?_
          refine lv_istore (lv' := [(8, .int ((x4 * (64 : Int32)) + x7)), (0, .ref (ad 28)), (1, .int x1), (2, .int x2), (3, .int x3), (4, .int x4), (5, .long x5), (7, .int x7)]) S.1 S.2.1 d_Le_stepInPart_58 hl (by decide) rfl (fun ls hl => ?_)
          refine lv_aload_n S.1 S.2.1 d_Le_stepInPart_60 rfl (lv_at hl 1 rfl) ?_
          refine g_Le_after S hK I.1 d_Le_stepInPart_61 ?_
          refine lv_iload_n S.1 S.2.1 d_Le_stepInPart_64 rfl (lv_at hl 2 rfl) ?_
          refine lv_bipush (v := (7 : Int32)) S.1 S.2.1 d_Le_stepInPart_65 rfl ?_
          refine lv_imul S.1 S.2.1 d_Le_stepInPart_67 ?_
          refine lv_iload_n S.1 S.2.1 d_Le_stepInPart_68 rfl (lv_at hl 4 rfl) ?_
          refine lv_if_eq (tgt := 97) S.1 S.2.1 d_Le_stepInPart_69 (by decide) (fun hc => ?_) (fun hc => ?_)
          · have h := h.1 hc
            refine lv_aload_n S.1 S.2.1 d_Le_stepInPart_97 rfl (lv_at hl 1 rfl) ?_
            refine lv_aload_n S.1 S.2.1 d_Le_stepInPart_98 rfl (lv_at hl 1 rfl) ?_
            refine g_Le_terms S hK I.1 d_Le_stepInPart_99 ?_
            refine lv_iload_n S.1 S.2.1 d_Le_stepInPart_102 rfl (lv_at hl 2 rfl) ?_
            refine callV_roi S (c_Te_symbolOf l D ad cA _ _ _ _ _ _ _ _ _ h) (mkV S.2.2.2.2 ml_Le_96 k_Te_symbolOf rfl rfl ⟨Nat.le_of_ble_eq_true rfl, Nat.le_of_ble_eq_true rfl⟩) (rv_Te hK I.1) hK I.1 hl.1 rfl rfl (Nat.le_of_ble_eq_true rfl) d_Le_stepInPart_103 ⟨Nat.zero_le _, Nat.zero_le _⟩ (fun r103 h => ?_)
            refine lv_aload_n S.1 S.2.1 d_Le_stepInPart_106 rfl (lv_at hl 1 rfl) ?_
            refine g_Le_terms S hK I.1 d_Le_stepInPart_107 ?_
            refine lv_iload_n S.1 S.2.1 d_Le_stepInPart_110 rfl (lv_at hl 2 rfl) ?_
            refine callV_roi S (c_Te_firstOf l D ad cA _ _ _ _ _ _ _ _ _ h) (mkV S.2.2.2.2 ml_Le_102 k_Te_firstOf rfl rfl ⟨Nat.le_of_ble_eq_true rfl, Nat.le_of_ble_eq_true rfl⟩) (rv_Te hK I.1) hK I.1 hl.1 rfl rfl (Nat.le_of_ble_eq_true rfl) d_Le_stepInPart_111 ⟨Nat.zero_le _, Nat.zero_le _⟩ (fun r111 h => ?_)
            refine lv_iload S.1 S.2.1 d_Le_stepInPart_114 (lv_at hl 0 rfl) ?_
            refine callV_rwi S (c_Le_findCounted l D ad cA _ _ _ _ _ _ _ _ _ _ _ h) (mkV S.2.2.2.2 ml_Le_112 k_Le_findCounted rfl rfl ⟨Nat.le_of_ble_eq_true rfl, Nat.le_of_ble_eq_true rfl⟩) (rv_Le hK I.1) hK hA I hl.1 rfl rfl (Nat.le_of_ble_eq_true rfl) d_Le_stepInPart_116 ⟨Nat.zero_le _, Nat.zero_le _⟩ (fun r116 u116 H locs h I => ?_)
            obtain ⟨te116, le116⟩ := u116
            exact n_Le_stepInPart_119 S hr hlk hK hA hk3 ih _ _ _ _ _ _ _ _ _ _ h (lv_sub hl [1, 2, 3, 4, 5, 6, 7] rfl) I
          · have h := h.2 hc
            refine lv_aload_n S.1 S.2.1 d_Le_stepInPart_72 rfl (lv_at hl 1 rfl) ?_
            refine lv_aload_n S.1 S.2.1 d_Le_stepInPart_73 rfl (lv_at hl 1 rfl) ?_
            refine g_Le_terms S hK I.1 d_Le_stepInPart_74 ?_
            refine lv_iload_n S.1 S.2.1 d_Le_stepInPart_77 rfl (lv_at hl 2 rfl) ?_
            refine callV_roi S (c_Te_symbolOf l D ad cA _ _ _ _ _ _ _ _ _ h) (mkV S.2.2.2.2 ml_Le_96 k_Te_symbolOf rfl rfl ⟨Nat.le_of_ble_eq_true rfl, Nat.le_of_ble_eq_true rfl⟩) (rv_Te hK I.1) hK I.1 hl.1 rfl rfl (Nat.le_of_ble_eq_true rfl) d_Le_stepInPart_78 ⟨Nat.zero_le _, Nat.zero_le _⟩ (fun r78 h => ?_)
            refine lv_iload S.1 S.2.1 d_Le_stepInPart_81 (lv_at hl 0 rfl) ?_
            refine lv_aload_n S.1 S.2.1 d_Le_stepInPart_83 rfl (lv_at hl 1 rfl) ?_
            refine g_Le_terms S hK I.1 d_Le_stepInPart_84 ?_
            refine lv_iload_n S.1 S.2.1 d_Le_stepInPart_87 rfl (lv_at hl 2 rfl) ?_
            refine callV_roi S (c_Te_secondOf l D ad cA _ _ _ _ _ _ _ _ _ h) (mkV S.2.2.2.2 ml_Le_109 k_Te_secondOf rfl rfl ⟨Nat.le_of_ble_eq_true rfl, Nat.le_of_ble_eq_true rfl⟩) (rv_Te hK I.1) hK I.1 hl.1 rfl rfl (Nat.le_of_ble_eq_true rfl) d_Le_stepInPart_88 ⟨Nat.zero_le _, Nat.zero_le _⟩ (fun r88 h => ?_)
            refine callV_rwi S (c_Le_findCounted l D ad cA _ _ _ _ _ _ _ _ _ _ _ h) (mkV S.2.2.2.2 ml_Le_112 k_Le_findCounted rfl rfl ⟨Nat.le_of_ble_eq_true rfl, Nat.le_of_ble_eq_true rfl⟩) (rv_Le hK I.1) hK hA I hl.1 rfl rfl (Nat.le_of_ble_eq_true rfl) d_Le_stepInPart_91 ⟨Nat.zero_le _, Nat.zero_le _⟩ (fun r91 u91 H locs h I => ?_)
            obtain ⟨te91, le91⟩ := u91
            refine lv_goto (tgt := 119) S.1 S.2.1 d_Le_stepInPart_94 (by decide) ?_
            exact n_Le_stepInPart_119 S hr hlk hK hA hk3 ih _ _ _ _ _ _ _ _ _ _ h (lv_sub hl [1, 2, 3, 4, 5, 6, 7] rfl) I
set_option maxHeartbeats 4000000 in
set_option maxRecDepth 100000 in
theorem n_Le_stepInPart_3 {p : Program} {l : Launch} {e : Env} {s : State} {m : MethodId} {args : Array Value} {below : List Frame} {meth : Method} {c : Code} {D : va_G} {A : Nat → Prop} {ad : Nat → Nat} {cA : ClassId × ClassId × ClassId} {ru : Ru} {au : Au} {re : Re} {la : La} {sp : Sp} {x1 : Int32} {x2 : Int32} {x3 : Int32} {Q : Te → Le → Prop} (S : CallFix p m c b_Le_stepInPart 9 s args gtbl R_Le) (hr : meth.sig.returnType = none) (hlk : meth.locks = false) (hK : gK D (tyA cA) s) (hA : ∀ q : Nat, s.heap.size ≤ q → A q) : ∀ n : Nat, ∀ (ls : Array Slot) (H : Heap) (locs : List Loc) (x4 : Int32) (te : Te) (le : Le), p_Le_stepInPart_3 x1 x2 x3 Q n x4 te le → lv_has ls 9 [(0, .ref (ad 28)), (1, .int x1), (2, .int x2), (3, .int x3), (4, .int x4)] → gIn D A s (wC ad cA) (te, ru, au, re, la, sp, le) H locs → W p l e rm_Le_stepInPart s m args below meth c H locs 0 0 (qV D (tyA cA) A (wC ad cA) (fun u : Te × Le => (u.1, ru, au, re, la, sp, u.2)) (fun u : Te × Le => Q u.1 u.2) below args s) (F0 m 3 ls []) := by
  intro n
  induction n with
  | zero =>
    intro ls H locs x4 te le h
    exact (show False from h).elim
  | succ n ih =>
    intro ls H locs x4 te le h hl I
    refine lv_iload S.1 S.2.1 d_Le_stepInPart_3 (lv_at hl 4 rfl) ?_
    refine lv_bipush (v := (7 : Int32)) S.1 S.2.1 d_Le_stepInPart_5 rfl ?_
    refine lv_icmp_ge (tgt := 140) S.1 S.2.1 d_Le_stepInPart_7 (by decide) (fun hc => ?_) (fun hc => ?_)
    · have h := h.1 hc
      exact ret_rwv (u := (_, _)) S hr hlk hK I h d_Le_stepInPart_140
    · have h := h.2 hc
      refine lv_aload_n S.1 S.2.1 d_Le_stepInPart_10 rfl (lv_at hl 0 rfl) ?_
      refine g_Le_after S hK I.1 d_Le_stepInPart_11 ?_
      refine lv_iload_n S.1 S.2.1 d_Le_stepInPart_14 rfl (lv_at hl 2 rfl) ?_
      refine lv_bipush (v := (7 : Int32)) S.1 S.2.1 d_Le_stepInPart_15 rfl ?_
      refine lv_imul S.1 S.2.1 d_Le_stepInPart_17 ?_
      refine lv_iload S.1 S.2.1 d_Le_stepInPart_18 (lv_at hl 4 rfl) ?_
      refine lv_iadd S.1 S.2.1 d_Le_stepInPart_20 ?_
      obtain ⟨hin, h⟩ := h
      refine a_Le_after S hK I.1 hin d_Le_stepInPart_21 ?_
      refine lv_lstore (lv' := [(5, .long (Le_after le ((x2 * (7 : Int32)) + x4).toNatClampNeg)), (0, .ref (ad 28)), (1, .int x1), (2, .int x2), (3, .int x3), (4, .int x4)]) S.1 S.2.1 d_Le_stepInPart_22 hl (by decide) rfl (fun ls hl => ?_)
      refine lv_iconst (v := (0 : Int32)) S.1 S.2.1 d_Le_stepInPart_24 rfl ?_
      refine lv_istore (lv' := [(7, .int (0 : Int32)), (5, .long (Le_after le ((x2 * (7 : Int32)) + x4).toNatClampNeg)), (0, .ref (ad 28)), (1, .int x1), (2, .int x2), (3, .int x3), (4, .int x4)]) S.1 S.2.1 d_Le_stepInPart_25 hl (by decide) rfl (fun ls hl => ?_)
      obtain ⟨n', h⟩ := h
      exact n_Le_stepInPart_27 S hr hlk hK hA ih n' _ _ _ _ _ _ _ _ h (lv_sub hl [2, 3, 4, 5, 6, 1, 0] rfl) I
set_option maxHeartbeats 4000000 in
set_option maxRecDepth 100000 in
theorem c_Le_stepInPart (l : Launch) (D : va_G) (ad : Nat → Nat) (cA : ClassId × ClassId × ClassId) (te : Te) (ru : Ru) (au : Au) (re : Re) (la : La) (sp : Sp) (le : Le) (x1 : Int32) (x2 : Int32) (x3 : Int32) (Q : Te → Le → Prop) (h : p_Le_stepInPart x1 x2 x3 te le Q) : rwV l y_Le_stepInPart (wsOf y_Le_stepInPart b_Le_stepInPart 9 none) rm_Le_stepInPart D (tyA cA) (wC ad cA) [.ref (ad 28), .int x1, .int x2, .int x3] (te, ru, au, re, la, sp, le) (fun u : Te × Le => (u.1, ru, au, re, la, sp, u.2)) (fun u : Te × Le => Q u.1 u.2) := by
  refine rwV_of (by decide) (Nat.le_of_ble_eq_true rfl) ?_
  intro p e s m below meth c S hr hlk hK A hA I ls hl
  have hl : lv_has ls 9 [(0, .ref (ad 28)), (1, .int x1), (2, .int x2), (3, .int x3)] := hl
  refine lv_iconst (v := (0 : Int32)) S.1 S.2.1 d_Le_stepInPart_0 rfl ?_
  refine lv_istore (lv' := [(4, .int (0 : Int32)), (0, .ref (ad 28)), (1, .int x1), (2, .int x2), (3, .int x3)]) S.1 S.2.1 d_Le_stepInPart_1 hl (by decide) rfl (fun ls hl => ?_)
  obtain ⟨n', h⟩ := h
  exact n_Le_stepInPart_3 S hr hlk hK hA n' _ _ _ _ _ _ h (lv_sub hl [1, 2, 3, 4, 0] rfl) I

set_option maxHeartbeats 4000000 in
set_option maxRecDepth 100000 in
theorem n_Le_expand_96 {p : Program} {l : Launch} {e : Env} {s : State} {m : MethodId} {args : Array Value} {below : List Frame} {meth : Method} {c : Code} {D : va_G} {A : Nat → Prop} {ad : Nat → Nat} {cA : ClassId × ClassId × ClassId} {ru : Ru} {au : Au} {re : Re} {la : La} {sp : Sp} {x1 : Int32} {Q : Te → Le → Prop} (S : CallFix p m c b_Le_expand 3 s args gtbl R_Le) (hr : meth.sig.returnType = none) (hlk : meth.locks = false) (hK : gK D (tyA cA) s) (hA : ∀ q : Nat, s.heap.size ≤ q → A q) : ∀ (ls : Array Slot) (H : Heap) (locs : List Loc) (x2 : Int32) (te : Te) (le : Le), p_Le_expand_96 x1 ru Q x2 te le → lv_has ls 3 [(0, .ref (ad 28)), (1, .int x1), (2, .int x2)] → gIn D A s (wC ad cA) (te, ru, au, re, la, sp, le) H locs → W p l e rm_Le_expand s m args below meth c H locs 0 0 (qV D (tyA cA) A (wC ad cA) (fun u : Te × Le => (u.1, ru, au, re, la, sp, u.2)) (fun u : Te × Le => Q u.1 u.2) below args s) (F0 m 96 ls []) := by
  intro ls H locs x2 te le h hl I
  refine lv_iload_n S.1 S.2.1 d_Le_expand_96 rfl (lv_at hl 2 rfl) ?_
  refine lv_iconst (v := (1 : Int32)) S.1 S.2.1 d_Le_expand_97 rfl ?_
  refine lv_icmp_le (tgt := 115) S.1 S.2.1 d_Le_expand_98 (by decide) (fun hc => ?_) (fun hc => ?_)
  · have h := h.1 hc
    exact ret_rwv (u := (_, _)) S hr hlk hK I h d_Le_expand_115
  · have h := h.2 hc
    refine lv_aload_n S.1 S.2.1 d_Le_expand_101 rfl (lv_at hl 0 rfl) ?_
    refine lv_iload_n S.1 S.2.1 d_Le_expand_102 rfl (lv_at hl 1 rfl) ?_
    refine lv_aload_n S.1 S.2.1 d_Le_expand_103 rfl (lv_at hl 0 rfl) ?_
    refine g_Le_terms S hK I.1 d_Le_expand_104 ?_
    refine lv_iload_n S.1 S.2.1 d_Le_expand_107 rfl (lv_at hl 1 rfl) ?_
    refine callV_roi S (c_Te_secondOf l D ad cA _ _ _ _ _ _ _ _ _ h) (mkV S.2.2.2.2 ml_Le_109 k_Te_secondOf rfl rfl ⟨Nat.le_of_ble_eq_true rfl, Nat.le_of_ble_eq_true rfl⟩) (rv_Te hK I.1) hK I.1 hl.1 rfl rfl (Nat.le_of_ble_eq_true rfl) d_Le_expand_108 ⟨Nat.zero_le _, Nat.zero_le _⟩ (fun r108 h => ?_)
    refine lv_iconst (v := (0 : Int32)) S.1 S.2.1 d_Le_expand_111 rfl ?_
    refine callV_rwv S (c_Le_stepInPart l D ad cA _ _ _ _ _ _ _ _ _ _ _ h) (mkV S.2.2.2.2 ml_Le_105 k_Le_stepInPart rfl rfl ⟨Nat.le_of_ble_eq_true rfl, Nat.le_of_ble_eq_true rfl⟩) (rv_Le hK I.1) hK hA I hl.1 rfl rfl (Nat.le_of_ble_eq_true rfl) d_Le_expand_112 ⟨Nat.zero_le _, Nat.zero_le _⟩ (fun u112 H locs h I => ?_)
    obtain ⟨te112, le112⟩ := u112
    exact ret_rwv (u := (_, _)) S hr hlk hK I h d_Le_expand_115
set_option maxHeartbeats 4000000 in
set_option maxRecDepth 100000 in
theorem n_Le_expand_2 {p : Program} {l : Launch} {e : Env} {s : State} {m : MethodId} {args : Array Value} {below : List Frame} {meth : Method} {c : Code} {D : va_G} {A : Nat → Prop} {ad : Nat → Nat} {cA : ClassId × ClassId × ClassId} {ru : Ru} {au : Au} {re : Re} {la : La} {sp : Sp} {x1 : Int32} {Q : Te → Le → Prop} (S : CallFix p m c b_Le_expand 3 s args gtbl R_Le) (hr : meth.sig.returnType = none) (hlk : meth.locks = false) (hK : gK D (tyA cA) s) (hA : ∀ q : Nat, s.heap.size ≤ q → A q) : ∀ n : Nat, ∀ (ls : Array Slot) (H : Heap) (locs : List Loc) (x2 : Int32) (te : Te) (le : Le), p_Le_expand_2 x1 ru Q n x2 te le → lv_has ls 3 [(0, .ref (ad 28)), (1, .int x1), (2, .int x2)] → gIn D A s (wC ad cA) (te, ru, au, re, la, sp, le) H locs → W p l e rm_Le_expand s m args below meth c H locs 0 0 (qV D (tyA cA) A (wC ad cA) (fun u : Te × Le => (u.1, ru, au, re, la, sp, u.2)) (fun u : Te × Le => Q u.1 u.2) below args s) (F0 m 2 ls []) := by
  intro n
  induction n with
  | zero =>
    intro ls H locs x2 te le h
    exact (show False from h).elim
  | succ n ih =>
    intro ls H locs x2 te le h hl I
    refine lv_iload_n S.1 S.2.1 d_Le_expand_2 rfl (lv_at hl 2 rfl) ?_
    refine lv_aload_n S.1 S.2.1 d_Le_expand_3 rfl (lv_at hl 0 rfl) ?_
    refine g_Le_rules S hK I.1 d_Le_expand_4 ?_
    refine callV_roi S (c_Ru_count l D ad cA _ _ _ _ _ _ _ _ h) (mkV S.2.2.2.2 ml_Le_86 k_Ru_count rfl rfl ⟨Nat.le_of_ble_eq_true rfl, Nat.le_of_ble_eq_true rfl⟩) (rv_Ru hK I.1) hK I.1 hl.1 rfl rfl (Nat.le_of_ble_eq_true rfl) d_Le_expand_7 ⟨Nat.zero_le _, Nat.zero_le _⟩ (fun r7 h => ?_)
    refine lv_icmp_ge (tgt := 62) S.1 S.2.1 d_Le_expand_10 (by decide) (fun hc => ?_) (fun hc => ?_)
    · have h := h.1 hc
      refine lv_aload_n S.1 S.2.1 d_Le_expand_62 rfl (lv_at hl 0 rfl) ?_
      refine g_Le_terms S hK I.1 d_Le_expand_63 ?_
      refine lv_aload_n S.1 S.2.1 d_Le_expand_66 rfl (lv_at hl 0 rfl) ?_
      refine g_Le_terms S hK I.1 d_Le_expand_67 ?_
      refine lv_iload_n S.1 S.2.1 d_Le_expand_70 rfl (lv_at hl 1 rfl) ?_
      refine callV_roi S (c_Te_symbolOf l D ad cA _ _ _ _ _ _ _ _ _ h) (mkV S.2.2.2.2 ml_Le_96 k_Te_symbolOf rfl rfl ⟨Nat.le_of_ble_eq_true rfl, Nat.le_of_ble_eq_true rfl⟩) (rv_Te hK I.1) hK I.1 hl.1 rfl rfl (Nat.le_of_ble_eq_true rfl) d_Le_expand_71 ⟨Nat.zero_le _, Nat.zero_le _⟩ (fun r71 h => ?_)
      refine callV_roi S (c_Te_placesOf l D ad cA _ _ _ _ _ _ _ _ _ h) (mkV S.2.2.2.2 ml_Le_99 k_Te_placesOf rfl rfl ⟨Nat.le_of_ble_eq_true rfl, Nat.le_of_ble_eq_true rfl⟩) (rv_Te hK I.1) hK I.1 hl.1 rfl rfl (Nat.le_of_ble_eq_true rfl) d_Le_expand_74 ⟨Nat.zero_le _, Nat.zero_le _⟩ (fun r74 h => ?_)
      refine lv_istore_n (lv' := [(2, .int r74), (0, .ref (ad 28)), (1, .int x1)]) S.1 S.2.1 d_Le_expand_77 rfl hl (by decide) rfl (fun ls hl => ?_)
      refine lv_iload_n S.1 S.2.1 d_Le_expand_78 rfl (lv_at hl 0 rfl) ?_
      refine lv_if_le (tgt := 96) S.1 S.2.1 d_Le_expand_79 (by decide) (fun hc => ?_) (fun hc => ?_)
      · have h := h.1 hc
        exact n_Le_expand_96 S hr hlk hK hA _ _ _ _ _ _ h (lv_sub hl [1, 2, 0] rfl) I
      · have h := h.2 hc
        refine lv_aload_n S.1 S.2.1 d_Le_expand_82 rfl (lv_at hl 1 rfl) ?_
        refine lv_iload_n S.1 S.2.1 d_Le_expand_83 rfl (lv_at hl 2 rfl) ?_
        refine lv_aload_n S.1 S.2.1 d_Le_expand_84 rfl (lv_at hl 1 rfl) ?_
        refine g_Le_terms S hK I.1 d_Le_expand_85 ?_
        refine lv_iload_n S.1 S.2.1 d_Le_expand_88 rfl (lv_at hl 2 rfl) ?_
        refine callV_roi S (c_Te_firstOf l D ad cA _ _ _ _ _ _ _ _ _ h) (mkV S.2.2.2.2 ml_Le_102 k_Te_firstOf rfl rfl ⟨Nat.le_of_ble_eq_true rfl, Nat.le_of_ble_eq_true rfl⟩) (rv_Te hK I.1) hK I.1 hl.1 rfl rfl (Nat.le_of_ble_eq_true rfl) d_Le_expand_89 ⟨Nat.zero_le _, Nat.zero_le _⟩ (fun r89 h => ?_)
        refine lv_iconst (v := (1 : Int32)) S.1 S.2.1 d_Le_expand_92 rfl ?_
        refine callV_rwv S (c_Le_stepInPart l D ad cA _ _ _ _ _ _ _ _ _ _ _ h) (mkV S.2.2.2.2 ml_Le_105 k_Le_stepInPart rfl rfl ⟨Nat.le_of_ble_eq_true rfl, Nat.le_of_ble_eq_true rfl⟩) (rv_Le hK I.1) hK hA I hl.1 rfl rfl (Nat.le_of_ble_eq_true rfl) d_Le_expand_93 ⟨Nat.zero_le _, Nat.zero_le _⟩ (fun u93 H locs h I => ?_)
        obtain ⟨te93, le93⟩ := u93
        exact n_Le_expand_96 S hr hlk hK hA _ _ _ _ _ _ h (lv_sub hl [1, 2, 0] rfl) I
    · have h := h.2 hc
      refine lv_aload_n S.1 S.2.1 d_Le_expand_13 rfl (lv_at hl 0 rfl) ?_
      refine g_Le_rules S hK I.1 d_Le_expand_14 ?_
      refine lv_iload_n S.1 S.2.1 d_Le_expand_17 rfl (lv_at hl 2 rfl) ?_
      refine callV_roi S (c_Ru_leftOf l D ad cA _ _ _ _ _ _ _ _ _ h) (mkV S.2.2.2.2 ml_Le_89 k_Ru_leftOf rfl rfl ⟨Nat.le_of_ble_eq_true rfl, Nat.le_of_ble_eq_true rfl⟩) (rv_Ru hK I.1) hK I.1 hl.1 rfl rfl (Nat.le_of_ble_eq_true rfl) d_Le_expand_18 ⟨Nat.zero_le _, Nat.zero_le _⟩ (fun r18 h => ?_)
      refine lv_iload_n S.1 S.2.1 d_Le_expand_21 rfl (lv_at hl 1 rfl) ?_
      refine lv_icmp_ne (tgt := 56) S.1 S.2.1 d_Le_expand_22 (by decide) (fun hc => ?_) (fun hc => ?_)
      · have h := h.1 hc
        refine lv_iinc (k := 2) (v := x2 + (1 : Int32)) (lv' := [(2, .int (x2 + (1 : Int32))), (0, .ref (ad 28)), (1, .int x1)]) S.1 S.2.1 d_Le_expand_56 hl rfl rfl (by decide) rfl (fun ls hl => ?_)
        refine lv_goto (tgt := 2) S.1 S.2.1 d_Le_expand_59 (by decide) ?_
        exact ih _ _ _ _ _ _ h (lv_sub hl [1, 2, 0] rfl) I
      · have h := h.2 hc
        refine lv_aload_n S.1 S.2.1 d_Le_expand_25 rfl (lv_at hl 0 rfl) ?_
        refine lv_aload_n S.1 S.2.1 d_Le_expand_26 rfl (lv_at hl 0 rfl) ?_
        refine g_Le_rules S hK I.1 d_Le_expand_27 ?_
        refine lv_iload_n S.1 S.2.1 d_Le_expand_30 rfl (lv_at hl 2 rfl) ?_
        refine callV_roi S (c_Ru_rightOf l D ad cA _ _ _ _ _ _ _ _ _ h) (mkV S.2.2.2.2 ml_Le_93 k_Ru_rightOf rfl rfl ⟨Nat.le_of_ble_eq_true rfl, Nat.le_of_ble_eq_true rfl⟩) (rv_Ru hK I.1) hK I.1 hl.1 rfl rfl (Nat.le_of_ble_eq_true rfl) d_Le_expand_31 ⟨Nat.zero_le _, Nat.zero_le _⟩ (fun r31 h => ?_)
        refine callV_rwv S (c_Le_countWithParts l D ad cA _ _ _ _ _ _ _ _ _ h) (mkV S.2.2.2.2 ml_Le_79 k_Le_countWithParts rfl rfl ⟨Nat.le_of_ble_eq_true rfl, Nat.le_of_ble_eq_true rfl⟩) (rv_Le hK I.1) hK hA I hl.1 rfl rfl (Nat.le_of_ble_eq_true rfl) d_Le_expand_34 ⟨Nat.zero_le _, Nat.zero_le _⟩ (fun le34 H locs h I => ?_)
        refine lv_aload_n S.1 S.2.1 d_Le_expand_37 rfl (lv_at hl 0 rfl) ?_
        refine g_Le_after S hK I.1 d_Le_expand_38 ?_
        refine lv_iload_n S.1 S.2.1 d_Le_expand_41 rfl (lv_at hl 1 rfl) ?_
        refine lv_bipush (v := (7 : Int32)) S.1 S.2.1 d_Le_expand_42 rfl ?_
        refine lv_imul S.1 S.2.1 d_Le_expand_44 ?_
        refine lv_aload_n S.1 S.2.1 d_Le_expand_45 rfl (lv_at hl 0 rfl) ?_
        refine g_Le_rules S hK I.1 d_Le_expand_46 ?_
        refine lv_iload_n S.1 S.2.1 d_Le_expand_49 rfl (lv_at hl 2 rfl) ?_
        refine callV_roi S (c_Ru_rightOf l D ad cA _ _ _ _ _ _ _ _ _ h) (mkV S.2.2.2.2 ml_Le_93 k_Ru_rightOf rfl rfl ⟨Nat.le_of_ble_eq_true rfl, Nat.le_of_ble_eq_true rfl⟩) (rv_Ru hK I.1) hK I.1 hl.1 rfl rfl (Nat.le_of_ble_eq_true rfl) d_Le_expand_50 ⟨Nat.zero_le _, Nat.zero_le _⟩ (fun r50 h => ?_)
        refine callS_rwv S (c_Le_include_after l D ad cA _ _ _ _ _ _ _ _ _ _ h) (mkS S.2.2.2.2 ml_Le_82 k_Le_include rfl rfl ⟨Nat.le_of_ble_eq_true rfl, Nat.le_of_ble_eq_true rfl⟩) hK hA I hl.1 rfl rfl (Nat.le_of_ble_eq_true rfl) d_Le_expand_53 ⟨Nat.zero_le _, Nat.zero_le _⟩ (fun le53 H locs h I => ?_)
        refine lv_iinc (k := 2) (v := x2 + (1 : Int32)) (lv' := [(2, .int (x2 + (1 : Int32))), (0, .ref (ad 28)), (1, .int x1)]) S.1 S.2.1 d_Le_expand_56 hl rfl rfl (by decide) rfl (fun ls hl => ?_)
        refine lv_goto (tgt := 2) S.1 S.2.1 d_Le_expand_59 (by decide) ?_
        exact ih _ _ _ _ _ _ h (lv_sub hl [1, 2, 0] rfl) I
set_option maxHeartbeats 4000000 in
set_option maxRecDepth 100000 in
theorem c_Le_expand (l : Launch) (D : va_G) (ad : Nat → Nat) (cA : ClassId × ClassId × ClassId) (te : Te) (ru : Ru) (au : Au) (re : Re) (la : La) (sp : Sp) (le : Le) (x1 : Int32) (Q : Te → Le → Prop) (h : p_Le_expand x1 te ru le Q) : rwV l y_Le_expand (wsOf y_Le_expand b_Le_expand 3 none) rm_Le_expand D (tyA cA) (wC ad cA) [.ref (ad 28), .int x1] (te, ru, au, re, la, sp, le) (fun u : Te × Le => (u.1, ru, au, re, la, sp, u.2)) (fun u : Te × Le => Q u.1 u.2) := by
  refine rwV_of (by decide) (Nat.le_of_ble_eq_true rfl) ?_
  intro p e s m below meth c S hr hlk hK A hA I ls hl
  have hl : lv_has ls 3 [(0, .ref (ad 28)), (1, .int x1)] := hl
  refine lv_iconst (v := (0 : Int32)) S.1 S.2.1 d_Le_expand_0 rfl ?_
  refine lv_istore_n (lv' := [(2, .int (0 : Int32)), (0, .ref (ad 28)), (1, .int x1)]) S.1 S.2.1 d_Le_expand_1 rfl hl (by decide) rfl (fun ls hl => ?_)
  obtain ⟨n', h⟩ := h
  exact n_Le_expand_2 S hr hlk hK hA n' _ _ _ _ _ _ h (lv_sub hl [1, 2, 0] rfl) I
end
section
set_option maxHeartbeats 4000000 in
set_option maxRecDepth 100000 in
theorem n_Le_levelOf_111 {p : Program} {l : Launch} {e : Env} {s : State} {m : MethodId} {args : Array Value} {below : List Frame} {meth : Method} {c : Code} {D : va_G} {A : Nat → Prop} {ad : Nat → Nat} {cA : ClassId × ClassId × ClassId} {ru : Ru} {au : Au} {re : Re} {la : La} {sp : Sp} {x1 : Int32} {x2 : Int32} {Q : Int32 → Te → Le → Prop} (S : CallFix p m c b_Le_levelOf 7 s args gtbl R_Le) (hr : meth.sig.returnType = (some .int)) (hlk : meth.locks = false) (hK : gK D (tyA cA) s) (hA : ∀ q : Nat, s.heap.size ≤ q → A q) : ∀ (ls : Array Slot) (H : Heap) (locs : List Loc) (x3 : Int32) (x4 : Int32) (te : Te) (le : Le), p_Le_levelOf_111 x1 x2 ru Q x3 x4 te le → lv_has ls 7 [(0, .ref (ad 28)), (2, .int x2), (3, .int x3), (4, .int x4)] → gIn D A s (wC ad cA) (te, ru, au, re, la, sp, le) H locs → W p l e rm_Le_levelOf s m args below meth c H locs 0 0 (qI D (tyA cA) A (wC ad cA) (fun u : Te × Le => (u.1, ru, au, re, la, sp, u.2)) (fun (r : Int32) (u : Te × Le) => Q r u.1 u.2) below args s) (F0 m 111 ls []) := by
  intro ls H locs x3 x4 te le h hl I
  refine lv_aload_n S.1 S.2.1 d_Le_levelOf_111 rfl (lv_at hl 0 rfl) ?_
  refine g_Le_terms S hK I.1 d_Le_levelOf_112 ?_
  refine lv_iload_n S.1 S.2.1 d_Le_levelOf_115 rfl (lv_at hl 2 rfl) ?_
  refine callV_rwv S (c_Te_keepFirst l D ad cA _ _ _ _ _ _ _ _ _ h) (mkV S.2.2.2.2 ml_Le_70 k_Te_keepFirst rfl rfl ⟨Nat.le_of_ble_eq_true rfl, Nat.le_of_ble_eq_true rfl⟩) (rv_Te hK I.1) hK hA I hl.1 rfl rfl (Nat.le_of_ble_eq_true rfl) d_Le_levelOf_116 ⟨Nat.zero_le _, Nat.zero_le _⟩ (fun te116 H locs h I => ?_)
  refine lv_aload_n S.1 S.2.1 d_Le_levelOf_119 rfl (lv_at hl 0 rfl) ?_
  refine g_Le_countedTerms S hK I.1 d_Le_levelOf_120 ?_
  refine lv_sipush (v := (400 : Int32)) S.1 S.2.1 d_Le_levelOf_123 rfl ?_
  refine lv_icmp_gt (tgt := 145) S.1 S.2.1 d_Le_levelOf_126 (by decide) (fun hc => ?_) (fun hc => ?_)
  · have h := h.1 hc
    refine lv_bipush (v := (-2 : Int32)) S.1 S.2.1 d_Le_levelOf_145 rfl ?_
    exact ret_rwi (u := (_, _)) S hr hlk hK I h d_Le_levelOf_147
  · have h := h.2 hc
    refine lv_aload_n S.1 S.2.1 d_Le_levelOf_129 rfl (lv_at hl 0 rfl) ?_
    refine g_Le_inLevels S hK I.1 d_Le_levelOf_130 ?_
    refine lv_iload_n S.1 S.2.1 d_Le_levelOf_133 rfl (lv_at hl 1 rfl) ?_
    refine callS_roi S (c_Le_isIn_inLevels l D ad cA _ _ _ _ _ _ _ _ _ h) (mkS S.2.2.2.2 ml_Le_57 k_Le_isIn rfl rfl ⟨Nat.le_of_ble_eq_true rfl, Nat.le_of_ble_eq_true rfl⟩) hK I.1 hl.1 rfl rfl (Nat.le_of_ble_eq_true rfl) d_Le_levelOf_134 ⟨Nat.zero_le _, Nat.zero_le _⟩ (fun r134 h => ?_)
    refine lv_if_eq (tgt := 145) S.1 S.2.1 d_Le_levelOf_137 (by decide) (fun hc => ?_) (fun hc => ?_)
    · have h := h.1 hc
      refine lv_bipush (v := (-2 : Int32)) S.1 S.2.1 d_Le_levelOf_145 rfl ?_
      exact ret_rwi (u := (_, _)) S hr hlk hK I h d_Le_levelOf_147
    · have h := h.2 hc
      refine lv_iload S.1 S.2.1 d_Le_levelOf_140 (lv_at hl 3 rfl) ?_
      refine lv_goto (tgt := 147) S.1 S.2.1 d_Le_levelOf_142 (by decide) ?_
      exact ret_rwi (u := (_, _)) S hr hlk hK I h d_Le_levelOf_147
set_option maxHeartbeats 4000000 in
set_option maxRecDepth 100000 in
theorem n_Le_levelOf_101 {p : Program} {l : Launch} {e : Env} {s : State} {m : MethodId} {args : Array Value} {below : List Frame} {meth : Method} {c : Code} {D : va_G} {A : Nat → Prop} {ad : Nat → Nat} {cA : ClassId × ClassId × ClassId} {ru : Ru} {au : Au} {re : Re} {la : La} {sp : Sp} {x1 : Int32} {x2 : Int32} {Q : Int32 → Te → Le → Prop} (S : CallFix p m c b_Le_levelOf 7 s args gtbl R_Le) (hr : meth.sig.returnType = (some .int)) (hlk : meth.locks = false) (hK : gK D (tyA cA) s) (hA : ∀ q : Nat, s.heap.size ≤ q → A q) {k16 : Int32 → Int32 → Te → Le → Prop} (hk16 : ∀ (ls : Array Slot) (H : Heap) (locs : List Loc) (x3 : Int32) (x4 : Int32) (te : Te) (le : Le), k16 x3 x4 te le → lv_has ls 7 [(0, .ref (ad 28)), (2, .int x2), (3, .int x3), (4, .int x4)] → gIn D A s (wC ad cA) (te, ru, au, re, la, sp, le) H locs → W p l e rm_Le_levelOf s m args below meth c H locs 0 0 (qI D (tyA cA) A (wC ad cA) (fun u : Te × Le => (u.1, ru, au, re, la, sp, u.2)) (fun (r : Int32) (u : Te × Le) => Q r u.1 u.2) below args s) (F0 m 16 ls [])) : ∀ (ls : Array Slot) (H : Heap) (locs : List Loc) (x3 : Int32) (x4 : Int32) (te : Te) (le : Le), p_Le_levelOf_101 x1 x2 ru Q k16 x3 x4 te le → lv_has ls 7 [(0, .ref (ad 28)), (2, .int x2), (3, .int x3), (4, .int x4)] → gIn D A s (wC ad cA) (te, ru, au, re, la, sp, le) H locs → W p l e rm_Le_levelOf s m args below meth c H locs 0 0 (qI D (tyA cA) A (wC ad cA) (fun u : Te × Le => (u.1, ru, au, re, la, sp, u.2)) (fun (r : Int32) (u : Te × Le) => Q r u.1 u.2) below args s) (F0 m 101 ls []) := by
  intro ls H locs x3 x4 te le h hl I
  refine lv_aload_n S.1 S.2.1 d_Le_levelOf_101 rfl (lv_at hl 0 rfl) ?_
  refine callV_rwv S (c_Le_goOn l D ad cA _ _ _ _ _ _ _ _ h) (mkV S.2.2.2.2 ml_Le_67 k_Le_goOn rfl rfl ⟨Nat.le_of_ble_eq_true rfl, Nat.le_of_ble_eq_true rfl⟩) (rv_Le hK I.1) hK hA I hl.1 rfl rfl (Nat.le_of_ble_eq_true rfl) d_Le_levelOf_102 ⟨Nat.zero_le _, Nat.zero_le _⟩ (fun le102 H locs h I => ?_)
  refine lv_iinc (k := 3) (v := x4 + (1 : Int32)) (lv' := [(4, .int (x4 + (1 : Int32))), (0, .ref (ad 28)), (2, .int x2), (3, .int x3)]) S.1 S.2.1 d_Le_levelOf_105 hl rfl rfl (by decide) rfl (fun ls hl => ?_)
  refine lv_goto (tgt := 16) S.1 S.2.1 d_Le_levelOf_108 (by decide) ?_
  exact hk16 _ _ _ _ _ _ _ h (lv_sub hl [1, 2, 3, 0] rfl) I
set_option maxHeartbeats 4000000 in
set_option maxRecDepth 100000 in
theorem n_Le_levelOf_54 {p : Program} {l : Launch} {e : Env} {s : State} {m : MethodId} {args : Array Value} {below : List Frame} {meth : Method} {c : Code} {D : va_G} {A : Nat → Prop} {ad : Nat → Nat} {cA : ClassId × ClassId × ClassId} {ru : Ru} {au : Au} {re : Re} {la : La} {sp : Sp} {x1 : Int32} {x2 : Int32} {Q : Int32 → Te → Le → Prop} (S : CallFix p m c b_Le_levelOf 7 s args gtbl R_Le) (hr : meth.sig.returnType = (some .int)) (hlk : meth.locks = false) (hK : gK D (tyA cA) s) (hA : ∀ q : Nat, s.heap.size ≤ q → A q) {k16 : Int32 → Int32 → Te → Le → Prop} (hk16 : ∀ (ls : Array Slot) (H : Heap) (locs : List Loc) (x3 : Int32) (x4 : Int32) (te : Te) (le : Le), k16 x3 x4 te le → lv_has ls 7 [(0, .ref (ad 28)), (2, .int x2), (3, .int x3), (4, .int x4)] → gIn D A s (wC ad cA) (te, ru, au, re, la, sp, le) H locs → W p l e rm_Le_levelOf s m args below meth c H locs 0 0 (qI D (tyA cA) A (wC ad cA) (fun u : Te × Le => (u.1, ru, au, re, la, sp, u.2)) (fun (r : Int32) (u : Te × Le) => Q r u.1 u.2) below args s) (F0 m 16 ls [])) : ∀ n : Nat, ∀ (ls : Array Slot) (H : Heap) (locs : List Loc) (x3 : Int32) (x4 : Int32) (x5 : Int32) (x6 : Int32) (te : Te) (le : Le), p_Le_levelOf_54 x1 x2 ru Q k16 n x3 x4 x5 x6 te le → lv_has ls 7 [(0, .ref (ad 28)), (2, .int x2), (3, .int x3), (4, .int x4), (5, .int x5), (6, .int x6)] → gIn D A s (wC ad cA) (te, ru, au, re, la, sp, le) H locs → W p l e rm_Le_levelOf s m args below meth c H locs 0 0 (qI D (tyA cA) A (wC ad cA) (fun u : Te × Le => (u.1, ru, au, re, la, sp, u.2)) (fun (r : Int32) (u : Te × Le) => Q r u.1 u.2) below args s) (F0 m 54 ls []) := by
  intro n
  induction n with
  | zero =>
    intro ls H locs x3 x4 x5 x6 te le h
    exact (show False from h).elim
  | succ n ih =>
    intro ls H locs x3 x4 x5 x6 te le h hl I
    refine lv_iload S.1 S.2.1 d_Le_levelOf_54 (lv_at hl 5 rfl) ?_
    refine lv_iload S.1 S.2.1 d_Le_levelOf_56 (lv_at hl 4 rfl) ?_
    refine lv_icmp_ge (tgt := 101) S.1 S.2.1 d_Le_levelOf_58 (by decide) (fun hc => ?_) (fun hc => ?_)
    · have h := h.1 hc
      exact n_Le_levelOf_101 S hr hlk hK hA hk16 _ _ _ _ _ _ _ h (lv_sub hl [0, 1, 2, 3] rfl) I
    · have h := h.2 hc
      refine lv_aload_n S.1 S.2.1 d_Le_levelOf_61 rfl (lv_at hl 0 rfl) ?_
      refine g_Le_countedTerms S hK I.1 d_Le_levelOf_62 ?_
      refine lv_sipush (v := (400 : Int32)) S.1 S.2.1 d_Le_levelOf_65 rfl ?_
      refine lv_icmp_gt (tgt := 101) S.1 S.2.1 d_Le_levelOf_68 (by decide) (fun hc => ?_) (fun hc => ?_)
      · have h := h.1 hc
        exact n_Le_levelOf_101 S hr hlk hK hA hk16 _ _ _ _ _ _ _ h (lv_sub hl [0, 1, 2, 3] rfl) I
      · have h := h.2 hc
        refine lv_aload_n S.1 S.2.1 d_Le_levelOf_71 rfl (lv_at hl 0 rfl) ?_
        refine lv_aload_n S.1 S.2.1 d_Le_levelOf_72 rfl (lv_at hl 0 rfl) ?_
        refine g_Le_waiting S hK I.1 d_Le_levelOf_73 ?_
        refine lv_iload S.1 S.2.1 d_Le_levelOf_76 (lv_at hl 5 rfl) ?_
        obtain ⟨hin, h⟩ := h
        refine a_Le_waiting S hK I.1 hin d_Le_levelOf_78 ?_
        refine callV_rwv S (c_Le_expand l D ad cA _ _ _ _ _ _ _ _ _ h) (mkV S.2.2.2.2 ml_Le_64 k_Le_expand rfl rfl ⟨Nat.le_of_ble_eq_true rfl, Nat.le_of_ble_eq_true rfl⟩) (rv_Le hK I.1) hK hA I hl.1 rfl rfl (Nat.le_of_ble_eq_true rfl) d_Le_levelOf_79 ⟨Nat.zero_le _, Nat.zero_le _⟩ (fun u79 H locs h I => ?_)
        obtain ⟨te79, le79⟩ := u79
        refine lv_aload_n S.1 S.2.1 d_Le_levelOf_82 rfl (lv_at hl 0 rfl) ?_
        refine g_Le_expanded S hK I.1 d_Le_levelOf_83 ?_
        refine lv_aload_n S.1 S.2.1 d_Le_levelOf_86 rfl (lv_at hl 0 rfl) ?_
        refine g_Le_waiting S hK I.1 d_Le_levelOf_87 ?_
        refine lv_iload S.1 S.2.1 d_Le_levelOf_90 (lv_at hl 5 rfl) ?_
        obtain ⟨hin, h⟩ := h
        refine a_Le_waiting S hK I.1 hin d_Le_levelOf_92 ?_
        refine lv_iconst (v := (1 : Int32)) S.1 S.2.1 d_Le_levelOf_93 rfl ?_
        obtain ⟨hin, h⟩ := h
        refine s_Le_expanded S hK I hin d_Le_levelOf_94 (fun H locs le94 ele94 I => ?_)
        have h := h le94 ele94
        refine lv_iinc (k := 5) (v := x6 + (1 : Int32)) (lv' := [(6, .int (x6 + (1 : Int32))), (0, .ref (ad 28)), (2, .int x2), (3, .int x3), (4, .int x4), (5, .int x5)]) S.1 S.2.1 d_Le_levelOf_95 hl rfl rfl (by decide) rfl (fun ls hl => ?_)
        refine lv_goto (tgt := 54) S.1 S.2.1 d_Le_levelOf_98 (by decide) ?_
        exact ih _ _ _ _ _ _ _ _ _ h (lv_sub hl [1, 2, 3, 4, 5, 0] rfl) I
set_option maxHeartbeats 4000000 in
set_option maxRecDepth 100000 in
theorem n_Le_levelOf_16 {p : Program} {l : Launch} {e : Env} {s : State} {m : MethodId} {args : Array Value} {below : List Frame} {meth : Method} {c : Code} {D : va_G} {A : Nat → Prop} {ad : Nat → Nat} {cA : ClassId × ClassId × ClassId} {ru : Ru} {au : Au} {re : Re} {la : La} {sp : Sp} {x1 : Int32} {x2 : Int32} {Q : Int32 → Te → Le → Prop} (S : CallFix p m c b_Le_levelOf 7 s args gtbl R_Le) (hr : meth.sig.returnType = (some .int)) (hlk : meth.locks = false) (hK : gK D (tyA cA) s) (hA : ∀ q : Nat, s.heap.size ≤ q → A q) : ∀ n : Nat, ∀ (ls : Array Slot) (H : Heap) (locs : List Loc) (x3 : Int32) (x4 : Int32) (te : Te) (le : Le), p_Le_levelOf_16 x1 x2 ru Q n x3 x4 te le → lv_has ls 7 [(0, .ref (ad 28)), (2, .int x2), (3, .int x3), (4, .int x4)] → gIn D A s (wC ad cA) (te, ru, au, re, la, sp, le) H locs → W p l e rm_Le_levelOf s m args below meth c H locs 0 0 (qI D (tyA cA) A (wC ad cA) (fun u : Te × Le => (u.1, ru, au, re, la, sp, u.2)) (fun (r : Int32) (u : Te × Le) => Q r u.1 u.2) below args s) (F0 m 16 ls []) := by
  intro n
  induction n with
  | zero =>
    intro ls H locs x3 x4 te le h
    exact (show False from h).elim
  | succ n ih =>
    intro ls H locs x3 x4 te le h hl I
    refine lv_iload S.1 S.2.1 d_Le_levelOf_16 (lv_at hl 3 rfl) ?_
    refine lv_sipush (v := (400 : Int32)) S.1 S.2.1 d_Le_levelOf_18 rfl ?_
    refine lv_icmp_ge (tgt := 111) S.1 S.2.1 d_Le_levelOf_21 (by decide) (fun hc => ?_) (fun hc => ?_)
    · have h := h.1 hc
      exact n_Le_levelOf_111 S hr hlk hK hA _ _ _ _ _ _ _ h (lv_sub hl [0, 1, 2, 3] rfl) I
    · have h := h.2 hc
      refine lv_aload_n S.1 S.2.1 d_Le_levelOf_24 rfl (lv_at hl 0 rfl) ?_
      refine g_Le_countedTerms S hK I.1 d_Le_levelOf_25 ?_
      refine lv_sipush (v := (400 : Int32)) S.1 S.2.1 d_Le_levelOf_28 rfl ?_
      refine lv_icmp_gt (tgt := 111) S.1 S.2.1 d_Le_levelOf_31 (by decide) (fun hc => ?_) (fun hc => ?_)
      · have h := h.1 hc
        exact n_Le_levelOf_111 S hr hlk hK hA _ _ _ _ _ _ _ h (lv_sub hl [0, 1, 2, 3] rfl) I
      · have h := h.2 hc
        refine lv_aload_n S.1 S.2.1 d_Le_levelOf_34 rfl (lv_at hl 0 rfl) ?_
        refine g_Le_inLevels S hK I.1 d_Le_levelOf_35 ?_
        refine lv_iload_n S.1 S.2.1 d_Le_levelOf_38 rfl (lv_at hl 1 rfl) ?_
        refine callS_roi S (c_Le_isIn_inLevels l D ad cA _ _ _ _ _ _ _ _ _ h) (mkS S.2.2.2.2 ml_Le_57 k_Le_isIn rfl rfl ⟨Nat.le_of_ble_eq_true rfl, Nat.le_of_ble_eq_true rfl⟩) hK I.1 hl.1 rfl rfl (Nat.le_of_ble_eq_true rfl) d_Le_levelOf_39 ⟨Nat.zero_le _, Nat.zero_le _⟩ (fun r39 h => ?_)
        refine lv_if_ne (tgt := 111) S.1 S.2.1 d_Le_levelOf_42 (by decide) (fun hc => ?_) (fun hc => ?_)
        · have h := h.1 hc
          exact n_Le_levelOf_111 S hr hlk hK hA _ _ _ _ _ _ _ h (lv_sub hl [0, 1, 2, 3] rfl) I
        · have h := h.2 hc
          refine lv_aload_n S.1 S.2.1 d_Le_levelOf_45 rfl (lv_at hl 0 rfl) ?_
          refine callV_rwi S (c_Le_findWaiting l D ad cA _ _ _ _ _ _ _ _ h) (mkV S.2.2.2.2 ml_Le_61 k_Le_findWaiting rfl rfl ⟨Nat.le_of_ble_eq_true rfl, Nat.le_of_ble_eq_true rfl⟩) (rv_Le hK I.1) hK hA I hl.1 rfl rfl (Nat.le_of_ble_eq_true rfl) d_Le_levelOf_46 ⟨Nat.zero_le _, Nat.zero_le _⟩ (fun r46 le46 H locs h I => ?_)
          refine lv_istore (lv' := [(5, .int r46), (0, .ref (ad 28)), (2, .int x2), (3, .int x3), (4, .int x4)]) S.1 S.2.1 d_Le_levelOf_49 hl (by decide) rfl (fun ls hl => ?_)
          refine lv_iconst (v := (0 : Int32)) S.1 S.2.1 d_Le_levelOf_51 rfl ?_
          refine lv_istore (lv' := [(6, .int (0 : Int32)), (5, .int r46), (0, .ref (ad 28)), (2, .int x2), (3, .int x3), (4, .int x4)]) S.1 S.2.1 d_Le_levelOf_52 hl (by decide) rfl (fun ls hl => ?_)
          obtain ⟨n', h⟩ := h
          exact n_Le_levelOf_54 S hr hlk hK hA ih n' _ _ _ _ _ _ _ _ _ h (lv_sub hl [2, 3, 4, 5, 1, 0] rfl) I
set_option maxHeartbeats 4000000 in
set_option maxRecDepth 100000 in
theorem c_Le_levelOf (l : Launch) (D : va_G) (ad : Nat → Nat) (cA : ClassId × ClassId × ClassId) (te : Te) (ru : Ru) (au : Au) (re : Re) (la : La) (sp : Sp) (le : Le) (x1 : Int32) (x2 : Int32) (Q : Int32 → Te → Le → Prop) (h : p_Le_levelOf x1 x2 te ru le Q) : rwI l y_Le_levelOf (wsOf y_Le_levelOf b_Le_levelOf 7 (some .int)) rm_Le_levelOf D (tyA cA) (wC ad cA) [.ref (ad 28), .int x1, .int x2] (te, ru, au, re, la, sp, le) (fun u : Te × Le => (u.1, ru, au, re, la, sp, u.2)) (fun (r : Int32) (u : Te × Le) => Q r u.1 u.2) := by
  refine rwI_of (by decide) (Nat.le_of_ble_eq_true rfl) ?_
  intro p e s m below meth c S hr hlk hK A hA I ls hl
  have hl : lv_has ls 7 [(0, .ref (ad 28)), (1, .int x1), (2, .int x2)] := hl
  refine lv_aload_n S.1 S.2.1 d_Le_levelOf_0 rfl (lv_at hl 0 rfl) ?_
  refine g_Le_terms S hK I.1 d_Le_levelOf_1 ?_
  refine callV_roi S (c_Te_count l D ad cA _ _ _ _ _ _ _ _ h) (mkV S.2.2.2.2 ml_Le_43 k_Te_count rfl rfl ⟨Nat.le_of_ble_eq_true rfl, Nat.le_of_ble_eq_true rfl⟩) (rv_Te hK I.1) hK I.1 hl.1 rfl rfl (Nat.le_of_ble_eq_true rfl) d_Le_levelOf_4 ⟨Nat.zero_le _, Nat.zero_le _⟩ (fun r4 h => ?_)
  refine lv_istore_n (lv' := [(3, .int r4), (0, .ref (ad 28)), (1, .int x1), (2, .int x2)]) S.1 S.2.1 d_Le_levelOf_7 rfl hl (by decide) rfl (fun ls hl => ?_)
  refine lv_aload_n S.1 S.2.1 d_Le_levelOf_8 rfl (lv_at hl 1 rfl) ?_
  refine lv_iload_n S.1 S.2.1 d_Le_levelOf_9 rfl (lv_at hl 2 rfl) ?_
  refine callV_rwv S (c_Le_start l D ad cA _ _ _ _ _ _ _ _ _ h) (mkV S.2.2.2.2 ml_Le_49 k_Le_start rfl rfl ⟨Nat.le_of_ble_eq_true rfl, Nat.le_of_ble_eq_true rfl⟩) (rv_Le hK I.1) hK hA I hl.1 rfl rfl (Nat.le_of_ble_eq_true rfl) d_Le_levelOf_10 ⟨Nat.zero_le _, Nat.zero_le _⟩ (fun le10 H locs h I => ?_)
  refine lv_iconst (v := (0 : Int32)) S.1 S.2.1 d_Le_levelOf_13 rfl ?_
  refine lv_istore (lv' := [(4, .int (0 : Int32)), (3, .int r4), (0, .ref (ad 28)), (1, .int x1), (2, .int x2)]) S.1 S.2.1 d_Le_levelOf_14 hl (by decide) rfl (fun ls hl => ?_)
  obtain ⟨n', h⟩ := h
  exact n_Le_levelOf_16 S hr hlk hK hA n' _ _ _ _ _ _ _ h (lv_sub hl [2, 4, 1, 0] rfl) I
end
