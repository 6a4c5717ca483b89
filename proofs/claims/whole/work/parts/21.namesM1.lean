theorem d_Mo_byRule_51 : decode b_Mo_byRule 51 = .ok (.iload_n 3, 1) := by decide +kernel
theorem d_Mo_byRule_52 : decode b_Mo_byRule 52 = .ok (.iadd, 1) := by decide +kernel
theorem d_Mo_byRule_53 : decode b_Mo_byRule 53 = .ok (.baload, 1) := by decide +kernel
theorem d_Mo_byRule_54 : decode b_Mo_byRule 54 = .ok (.ifCond .eq 7, 3) := by decide +kernel
theorem d_Mo_byRule_57 : decode b_Mo_byRule 57 = .ok (.iconst 1, 1) := by decide +kernel
theorem d_Mo_byRule_58 : decode b_Mo_byRule 58 = .ok (.goto 4, 3) := by decide +kernel
theorem d_Mo_byRule_61 : decode b_Mo_byRule 61 = .ok (.iconst 0, 1) := by decide +kernel
theorem d_Mo_byRule_62 : decode b_Mo_byRule 62 = .ok (.istore 4, 2) := by decide +kernel
theorem d_Mo_byRule_64 : decode b_Mo_byRule 64 = .ok (.iinc 5 1, 3) := by decide +kernel
theorem d_Mo_byRule_67 : decode b_Mo_byRule 67 = .ok (.goto (-61), 3) := by decide +kernel
theorem d_Mo_byRule_70 : decode b_Mo_byRule 70 = .ok (.iload 4, 2) := by decide +kernel
theorem d_Mo_byRule_72 : decode b_Mo_byRule 72 = .ok (.ireturn, 1) := by decide +kernel
abbrev b_Mo_reachAll : ByteArray := prog_10_method_19_code
def y_Mo_reachAll : MethodName := ⟨R_Mo, "reachAll", "()V"⟩
theorem k_Mo_reachAll : kV y_Mo_reachAll b_Mo_reachAll 4 none 0 := ⟨gmem (List.mem_append_right _ (List.mem_of_getElem? (i := 918) (by decide +kernel))) (by decide +kernel), gmem (List.mem_append_left _ (List.mem_of_getElem? (i := 32) (by decide +kernel))) (by decide +kernel), in_Mo, gmem (List.mem_append_right _ (List.mem_of_getElem? (i := 919) (by decide +kernel))) (by decide +kernel), by decide, by decide, by decide +kernel⟩
theorem d_Mo_reachAll_0 : decode b_Mo_reachAll 0 = .ok (.iconst 0, 1) := by decide +kernel
theorem d_Mo_reachAll_1 : decode b_Mo_reachAll 1 = .ok (.istore_n 1, 1) := by decide +kernel
theorem d_Mo_reachAll_2 : decode b_Mo_reachAll 2 = .ok (.iload_n 1, 1) := by decide +kernel
theorem d_Mo_reachAll_3 : decode b_Mo_reachAll 3 = .ok (.sipush 2304, 3) := by decide +kernel
theorem d_Mo_reachAll_6 : decode b_Mo_reachAll 6 = .ok (.if_icmp .ge 31, 3) := by decide +kernel
theorem d_Mo_reachAll_9 : decode b_Mo_reachAll 9 = .ok (.aload_n 0, 1) := by decide +kernel
theorem d_Mo_reachAll_10 : decode b_Mo_reachAll 10 = .ok (.getfield 31, 3) := by decide +kernel
theorem d_Mo_reachAll_13 : decode b_Mo_reachAll 13 = .ok (.iload_n 1, 1) := by decide +kernel
theorem d_Mo_reachAll_14 : decode b_Mo_reachAll 14 = .ok (.iload_n 1, 1) := by decide +kernel
theorem d_Mo_reachAll_15 : decode b_Mo_reachAll 15 = .ok (.bipush 48, 2) := by decide +kernel
theorem d_Mo_reachAll_17 : decode b_Mo_reachAll 17 = .ok (.idiv, 1) := by decide +kernel
theorem d_Mo_reachAll_18 : decode b_Mo_reachAll 18 = .ok (.iload_n 1, 1) := by decide +kernel
theorem d_Mo_reachAll_19 : decode b_Mo_reachAll 19 = .ok (.bipush 48, 2) := by decide +kernel
theorem d_Mo_reachAll_21 : decode b_Mo_reachAll 21 = .ok (.irem, 1) := by decide +kernel
theorem d_Mo_reachAll_22 : decode b_Mo_reachAll 22 = .ok (.if_icmp .ne 7, 3) := by decide +kernel
theorem d_Mo_reachAll_25 : decode b_Mo_reachAll 25 = .ok (.iconst 1, 1) := by decide +kernel
theorem d_Mo_reachAll_26 : decode b_Mo_reachAll 26 = .ok (.goto 4, 3) := by decide +kernel
theorem d_Mo_reachAll_29 : decode b_Mo_reachAll 29 = .ok (.iconst 0, 1) := by decide +kernel
theorem d_Mo_reachAll_30 : decode b_Mo_reachAll 30 = .ok (.bastore, 1) := by decide +kernel
theorem d_Mo_reachAll_31 : decode b_Mo_reachAll 31 = .ok (.iinc 1 1, 3) := by decide +kernel
theorem d_Mo_reachAll_34 : decode b_Mo_reachAll 34 = .ok (.goto (-32), 3) := by decide +kernel
theorem d_Mo_reachAll_37 : decode b_Mo_reachAll 37 = .ok (.iconst 1, 1) := by decide +kernel
theorem d_Mo_reachAll_38 : decode b_Mo_reachAll 38 = .ok (.istore_n 1, 1) := by decide +kernel
theorem d_Mo_reachAll_39 : decode b_Mo_reachAll 39 = .ok (.iload_n 1, 1) := by decide +kernel
theorem d_Mo_reachAll_40 : decode b_Mo_reachAll 40 = .ok (.ifCond .eq 94, 3) := by decide +kernel
theorem d_Mo_reachAll_43 : decode b_Mo_reachAll 43 = .ok (.iconst 0, 1) := by decide +kernel
theorem d_Mo_reachAll_44 : decode b_Mo_reachAll 44 = .ok (.istore_n 1, 1) := by decide +kernel
theorem d_Mo_reachAll_45 : decode b_Mo_reachAll 45 = .ok (.iconst 0, 1) := by decide +kernel
theorem d_Mo_reachAll_46 : decode b_Mo_reachAll 46 = .ok (.istore_n 2, 1) := by decide +kernel
theorem d_Mo_reachAll_47 : decode b_Mo_reachAll 47 = .ok (.iload_n 2, 1) := by decide +kernel
theorem d_Mo_reachAll_48 : decode b_Mo_reachAll 48 = .ok (.aload_n 0, 1) := by decide +kernel
theorem d_Mo_reachAll_49 : decode b_Mo_reachAll 49 = .ok (.getfield 72, 3) := by decide +kernel
theorem d_Mo_reachAll_52 : decode b_Mo_reachAll 52 = .ok (.if_icmp .ge 79, 3) := by decide +kernel
theorem d_Mo_reachAll_55 : decode b_Mo_reachAll 55 = .ok (.iconst 0, 1) := by decide +kernel
theorem d_Mo_reachAll_56 : decode b_Mo_reachAll 56 = .ok (.istore_n 3, 1) := by decide +kernel
theorem d_Mo_reachAll_57 : decode b_Mo_reachAll 57 = .ok (.iload_n 3, 1) := by decide +kernel
theorem d_Mo_reachAll_58 : decode b_Mo_reachAll 58 = .ok (.aload_n 0, 1) := by decide +kernel
theorem d_Mo_reachAll_59 : decode b_Mo_reachAll 59 = .ok (.getfield 72, 3) := by decide +kernel
theorem d_Mo_reachAll_62 : decode b_Mo_reachAll 62 = .ok (.if_icmp .ge 63, 3) := by decide +kernel
theorem d_Mo_reachAll_65 : decode b_Mo_reachAll 65 = .ok (.aload_n 0, 1) := by decide +kernel
theorem d_Mo_reachAll_66 : decode b_Mo_reachAll 66 = .ok (.getfield 31, 3) := by decide +kernel
theorem d_Mo_reachAll_69 : decode b_Mo_reachAll 69 = .ok (.bipush 48, 2) := by decide +kernel
theorem d_Mo_reachAll_71 : decode b_Mo_reachAll 71 = .ok (.iload_n 2, 1) := by decide +kernel
theorem d_Mo_reachAll_72 : decode b_Mo_reachAll 72 = .ok (.imul, 1) := by decide +kernel
theorem d_Mo_reachAll_73 : decode b_Mo_reachAll 73 = .ok (.iload_n 3, 1) := by decide +kernel
theorem d_Mo_reachAll_74 : decode b_Mo_reachAll 74 = .ok (.iadd, 1) := by decide +kernel
theorem d_Mo_reachAll_75 : decode b_Mo_reachAll 75 = .ok (.baload, 1) := by decide +kernel
theorem d_Mo_reachAll_76 : decode b_Mo_reachAll 76 = .ok (.ifCond .ne 43, 3) := by decide +kernel
theorem d_Mo_reachAll_79 : decode b_Mo_reachAll 79 = .ok (.aload_n 0, 1) := by decide +kernel
theorem d_Mo_reachAll_80 : decode b_Mo_reachAll 80 = .ok (.aload_n 0, 1) := by decide +kernel
theorem d_Mo_reachAll_81 : decode b_Mo_reachAll 81 = .ok (.getfield 31, 3) := by decide +kernel
theorem d_Mo_reachAll_84 : decode b_Mo_reachAll 84 = .ok (.iload_n 2, 1) := by decide +kernel
theorem d_Mo_reachAll_85 : decode b_Mo_reachAll 85 = .ok (.iload_n 3, 1) := by decide +kernel
theorem d_Mo_reachAll_86 : decode b_Mo_reachAll 86 = .ok (.invokevirtual 115, 3) := by decide +kernel
theorem d_Mo_reachAll_89 : decode b_Mo_reachAll 89 = .ok (.ifCond .ne 16, 3) := by decide +kernel
theorem d_Mo_reachAll_92 : decode b_Mo_reachAll 92 = .ok (.aload_n 0, 1) := by decide +kernel
theorem d_Mo_reachAll_93 : decode b_Mo_reachAll 93 = .ok (.aload_n 0, 1) := by decide +kernel
theorem d_Mo_reachAll_94 : decode b_Mo_reachAll 94 = .ok (.getfield 31, 3) := by decide +kernel
theorem d_Mo_reachAll_97 : decode b_Mo_reachAll 97 = .ok (.iload_n 2, 1) := by decide +kernel
theorem d_Mo_reachAll_98 : decode b_Mo_reachAll 98 = .ok (.iload_n 3, 1) := by decide +kernel
theorem d_Mo_reachAll_99 : decode b_Mo_reachAll 99 = .ok (.invokevirtual 119, 3) := by decide +kernel
theorem d_Mo_reachAll_102 : decode b_Mo_reachAll 102 = .ok (.ifCond .eq 17, 3) := by decide +kernel
theorem d_Mo_reachAll_105 : decode b_Mo_reachAll 105 = .ok (.aload_n 0, 1) := by decide +kernel
theorem d_Mo_reachAll_106 : decode b_Mo_reachAll 106 = .ok (.getfield 31, 3) := by decide +kernel
theorem d_Mo_reachAll_109 : decode b_Mo_reachAll 109 = .ok (.bipush 48, 2) := by decide +kernel
theorem d_Mo_reachAll_111 : decode b_Mo_reachAll 111 = .ok (.iload_n 2, 1) := by decide +kernel
theorem d_Mo_reachAll_112 : decode b_Mo_reachAll 112 = .ok (.imul, 1) := by decide +kernel
theorem d_Mo_reachAll_113 : decode b_Mo_reachAll 113 = .ok (.iload_n 3, 1) := by decide +kernel
theorem d_Mo_reachAll_114 : decode b_Mo_reachAll 114 = .ok (.iadd, 1) := by decide +kernel
theorem d_Mo_reachAll_115 : decode b_Mo_reachAll 115 = .ok (.iconst 1, 1) := by decide +kernel
theorem d_Mo_reachAll_116 : decode b_Mo_reachAll 116 = .ok (.bastore, 1) := by decide +kernel
theorem d_Mo_reachAll_117 : decode b_Mo_reachAll 117 = .ok (.iconst 1, 1) := by decide +kernel
theorem d_Mo_reachAll_118 : decode b_Mo_reachAll 118 = .ok (.istore_n 1, 1) := by decide +kernel
theorem d_Mo_reachAll_119 : decode b_Mo_reachAll 119 = .ok (.iinc 3 1, 3) := by decide +kernel
theorem d_Mo_reachAll_122 : decode b_Mo_reachAll 122 = .ok (.goto (-65), 3) := by decide +kernel
theorem d_Mo_reachAll_125 : decode b_Mo_reachAll 125 = .ok (.iinc 2 1, 3) := by decide +kernel
theorem d_Mo_reachAll_128 : decode b_Mo_reachAll 128 = .ok (.goto (-81), 3) := by decide +kernel
theorem d_Mo_reachAll_131 : decode b_Mo_reachAll 131 = .ok (.goto (-92), 3) := by decide +kernel
theorem d_Mo_reachAll_134 : decode b_Mo_reachAll 134 = .ok (.return_, 1) := by decide +kernel
abbrev b_Mo_ask : ByteArray := prog_10_method_20_code
def y_Mo_ask : MethodName := ⟨R_Mo, "ask", "(II)Z"⟩
theorem k_Mo_ask : kV y_Mo_ask b_Mo_ask 3 (some .boolean) 2 := ⟨gmem (List.mem_append_right _ (List.mem_of_getElem? (i := 914) (by decide +kernel))) (by decide +kernel), gmem (List.mem_append_left _ (List.mem_of_getElem? (i := 31) (by decide +kernel))) (by decide +kernel), in_Mo, gmem (List.mem_append_right _ (List.mem_of_getElem? (i := 915) (by decide +kernel))) (by decide +kernel), by decide, by decide, by decide +kernel⟩
theorem d_Mo_ask_0 : decode b_Mo_ask 0 = .ok (.aload_n 0, 1) := by decide +kernel
theorem d_Mo_ask_1 : decode b_Mo_ask 1 = .ok (.aload_n 0, 1) := by decide +kernel
theorem d_Mo_ask_2 : decode b_Mo_ask 2 = .ok (.iload_n 1, 1) := by decide +kernel
theorem d_Mo_ask_3 : decode b_Mo_ask 3 = .ok (.invokevirtual 79, 3) := by decide +kernel
theorem d_Mo_ask_6 : decode b_Mo_ask 6 = .ok (.ifCond .eq 15, 3) := by decide +kernel
theorem d_Mo_ask_9 : decode b_Mo_ask 9 = .ok (.aload_n 0, 1) := by decide +kernel
theorem d_Mo_ask_10 : decode b_Mo_ask 10 = .ok (.iload_n 2, 1) := by decide +kernel
theorem d_Mo_ask_11 : decode b_Mo_ask 11 = .ok (.invokevirtual 79, 3) := by decide +kernel
theorem d_Mo_ask_14 : decode b_Mo_ask 14 = .ok (.ifCond .eq 7, 3) := by decide +kernel
theorem d_Mo_ask_17 : decode b_Mo_ask 17 = .ok (.iconst 0, 1) := by decide +kernel
theorem d_Mo_ask_18 : decode b_Mo_ask 18 = .ok (.goto 4, 3) := by decide +kernel
theorem d_Mo_ask_21 : decode b_Mo_ask 21 = .ok (.iconst 1, 1) := by decide +kernel
theorem d_Mo_ask_22 : decode b_Mo_ask 22 = .ok (.putfield 68, 3) := by decide +kernel
theorem d_Mo_ask_25 : decode b_Mo_ask 25 = .ok (.aload_n 0, 1) := by decide +kernel
theorem d_Mo_ask_26 : decode b_Mo_ask 26 = .ok (.getfield 68, 3) := by decide +kernel
theorem d_Mo_ask_29 : decode b_Mo_ask 29 = .ok (.ifCond .ne 7, 3) := by decide +kernel
theorem d_Mo_ask_32 : decode b_Mo_ask 32 = .ok (.aload_n 0, 1) := by decide +kernel
theorem d_Mo_ask_33 : decode b_Mo_ask 33 = .ok (.invokevirtual 122, 3) := by decide +kernel
theorem d_Mo_ask_36 : decode b_Mo_ask 36 = .ok (.aload_n 0, 1) := by decide +kernel
theorem d_Mo_ask_37 : decode b_Mo_ask 37 = .ok (.getfield 68, 3) := by decide +kernel
theorem d_Mo_ask_40 : decode b_Mo_ask 40 = .ok (.ifCond .ne 7, 3) := by decide +kernel
theorem d_Mo_ask_43 : decode b_Mo_ask 43 = .ok (.iconst 1, 1) := by decide +kernel
theorem d_Mo_ask_44 : decode b_Mo_ask 44 = .ok (.goto 4, 3) := by decide +kernel
theorem d_Mo_ask_47 : decode b_Mo_ask 47 = .ok (.iconst 0, 1) := by decide +kernel
theorem d_Mo_ask_48 : decode b_Mo_ask 48 = .ok (.ireturn, 1) := by decide +kernel
abbrev b_Mo_reaches : ByteArray := prog_10_method_21_code
def y_Mo_reaches : MethodName := ⟨R_Mo, "reaches", "(II)Z"⟩
theorem k_Mo_reaches : kV y_Mo_reaches b_Mo_reaches 3 (some .boolean) 2 := ⟨gmem (List.mem_append_right _ (List.mem_of_getElem? (i := 909) (by decide +kernel))) (by decide +kernel), gmem (List.mem_append_right _ (List.mem_of_getElem? (i := 910) (by decide +kernel))) (by decide +kernel), in_Mo, gmem (List.mem_append_right _ (List.mem_of_getElem? (i := 911) (by decide +kernel))) (by decide +kernel), by decide, by decide, by decide +kernel⟩
theorem d_Mo_reaches_0 : decode b_Mo_reaches 0 = .ok (.aload_n 0, 1) := by decide +kernel
theorem d_Mo_reaches_1 : decode b_Mo_reaches 1 = .ok (.iload_n 1, 1) := by decide +kernel
theorem d_Mo_reaches_2 : decode b_Mo_reaches 2 = .ok (.iload_n 2, 1) := by decide +kernel
theorem d_Mo_reaches_3 : decode b_Mo_reaches 3 = .ok (.invokevirtual 125, 3) := by decide +kernel
theorem d_Mo_reaches_6 : decode b_Mo_reaches 6 = .ok (.ifCond .eq 21, 3) := by decide +kernel
theorem d_Mo_reaches_9 : decode b_Mo_reaches 9 = .ok (.aload_n 0, 1) := by decide +kernel
theorem d_Mo_reaches_10 : decode b_Mo_reaches 10 = .ok (.getfield 31, 3) := by decide +kernel
theorem d_Mo_reaches_13 : decode b_Mo_reaches 13 = .ok (.bipush 48, 2) := by decide +kernel
theorem d_Mo_reaches_15 : decode b_Mo_reaches 15 = .ok (.iload_n 1, 1) := by decide +kernel
theorem d_Mo_reaches_16 : decode b_Mo_reaches 16 = .ok (.imul, 1) := by decide +kernel
theorem d_Mo_reaches_17 : decode b_Mo_reaches 17 = .ok (.iload_n 2, 1) := by decide +kernel
theorem d_Mo_reaches_18 : decode b_Mo_reaches 18 = .ok (.iadd, 1) := by decide +kernel
theorem d_Mo_reaches_19 : decode b_Mo_reaches 19 = .ok (.baload, 1) := by decide +kernel
theorem d_Mo_reaches_20 : decode b_Mo_reaches 20 = .ok (.ifCond .eq 7, 3) := by decide +kernel
theorem d_Mo_reaches_23 : decode b_Mo_reaches 23 = .ok (.iconst 1, 1) := by decide +kernel
theorem d_Mo_reaches_24 : decode b_Mo_reaches 24 = .ok (.goto 4, 3) := by decide +kernel
theorem d_Mo_reaches_27 : decode b_Mo_reaches 27 = .ok (.iconst 0, 1) := by decide +kernel
theorem d_Mo_reaches_28 : decode b_Mo_reaches 28 = .ok (.ireturn, 1) := by decide +kernel
abbrev b_Mo_meet : ByteArray := prog_10_method_22_code
def y_Mo_meet : MethodName := ⟨R_Mo, "meet", "(II)Z"⟩
theorem k_Mo_meet : kV y_Mo_meet b_Mo_meet 7 (some .boolean) 2 := ⟨gmem (List.mem_append_right _ (List.mem_of_getElem? (i := 929) (by decide +kernel))) (by decide +kernel), gmem (List.mem_append_right _ (List.mem_of_getElem? (i := 930) (by decide +kernel))) (by decide +kernel), in_Mo, gmem (List.mem_append_right _ (List.mem_of_getElem? (i := 931) (by decide +kernel))) (by decide +kernel), by decide, by decide, by decide +kernel⟩
theorem d_Mo_meet_0 : decode b_Mo_meet 0 = .ok (.aload_n 0, 1) := by decide +kernel
theorem d_Mo_meet_1 : decode b_Mo_meet 1 = .ok (.iload_n 1, 1) := by decide +kernel
theorem d_Mo_meet_2 : decode b_Mo_meet 2 = .ok (.iload_n 2, 1) := by decide +kernel
theorem d_Mo_meet_3 : decode b_Mo_meet 3 = .ok (.invokevirtual 125, 3) := by decide +kernel
theorem d_Mo_meet_6 : decode b_Mo_meet 6 = .ok (.ifCond .ne 5, 3) := by decide +kernel
theorem d_Mo_meet_9 : decode b_Mo_meet 9 = .ok (.iconst 0, 1) := by decide +kernel
theorem d_Mo_meet_10 : decode b_Mo_meet 10 = .ok (.ireturn, 1) := by decide +kernel
theorem d_Mo_meet_11 : decode b_Mo_meet 11 = .ok (.iconst 0, 1) := by decide +kernel
theorem d_Mo_meet_12 : decode b_Mo_meet 12 = .ok (.istore_n 3, 1) := by decide +kernel
theorem d_Mo_meet_13 : decode b_Mo_meet 13 = .ok (.iload_n 3, 1) := by decide +kernel
theorem d_Mo_meet_14 : decode b_Mo_meet 14 = .ok (.sipush 2304, 3) := by decide +kernel
theorem d_Mo_meet_17 : decode b_Mo_meet 17 = .ok (.if_icmp .ge 21, 3) := by decide +kernel
theorem d_Mo_meet_20 : decode b_Mo_meet 20 = .ok (.aload_n 0, 1) := by decide +kernel
theorem d_Mo_meet_21 : decode b_Mo_meet 21 = .ok (.getfield 35, 3) := by decide +kernel
theorem d_Mo_meet_24 : decode b_Mo_meet 24 = .ok (.iload_n 3, 1) := by decide +kernel
theorem d_Mo_meet_25 : decode b_Mo_meet 25 = .ok (.aload_n 0, 1) := by decide +kernel
theorem d_Mo_meet_26 : decode b_Mo_meet 26 = .ok (.getfield 31, 3) := by decide +kernel
theorem d_Mo_meet_29 : decode b_Mo_meet 29 = .ok (.iload_n 3, 1) := by decide +kernel
theorem d_Mo_meet_30 : decode b_Mo_meet 30 = .ok (.baload, 1) := by decide +kernel
theorem d_Mo_meet_31 : decode b_Mo_meet 31 = .ok (.bastore, 1) := by decide +kernel
theorem d_Mo_meet_32 : decode b_Mo_meet 32 = .ok (.iinc 3 1, 3) := by decide +kernel
theorem d_Mo_meet_35 : decode b_Mo_meet 35 = .ok (.goto (-22), 3) := by decide +kernel
theorem d_Mo_meet_38 : decode b_Mo_meet 38 = .ok (.iconst 1, 1) := by decide +kernel
theorem d_Mo_meet_39 : decode b_Mo_meet 39 = .ok (.istore_n 3, 1) := by decide +kernel
theorem d_Mo_meet_40 : decode b_Mo_meet 40 = .ok (.iload_n 3, 1) := by decide +kernel
theorem d_Mo_meet_41 : decode b_Mo_meet 41 = .ok (.ifCond .eq 134, 3) := by decide +kernel
theorem d_Mo_meet_44 : decode b_Mo_meet 44 = .ok (.iconst 0, 1) := by decide +kernel
theorem d_Mo_meet_45 : decode b_Mo_meet 45 = .ok (.istore_n 3, 1) := by decide +kernel
theorem d_Mo_meet_46 : decode b_Mo_meet 46 = .ok (.iconst 0, 1) := by decide +kernel
theorem d_Mo_meet_47 : decode b_Mo_meet 47 = .ok (.istore 4, 2) := by decide +kernel
theorem d_Mo_meet_49 : decode b_Mo_meet 49 = .ok (.iload 4, 2) := by decide +kernel
theorem d_Mo_meet_51 : decode b_Mo_meet 51 = .ok (.aload_n 0, 1) := by decide +kernel
theorem d_Mo_meet_52 : decode b_Mo_meet 52 = .ok (.getfield 72, 3) := by decide +kernel
theorem d_Mo_meet_55 : decode b_Mo_meet 55 = .ok (.if_icmp .ge 117, 3) := by decide +kernel
theorem d_Mo_meet_58 : decode b_Mo_meet 58 = .ok (.iconst 0, 1) := by decide +kernel
theorem d_Mo_meet_59 : decode b_Mo_meet 59 = .ok (.istore 5, 2) := by decide +kernel
theorem d_Mo_meet_61 : decode b_Mo_meet 61 = .ok (.iload 5, 2) := by decide +kernel
theorem d_Mo_meet_63 : decode b_Mo_meet 63 = .ok (.aload_n 0, 1) := by decide +kernel
theorem d_Mo_meet_64 : decode b_Mo_meet 64 = .ok (.getfield 72, 3) := by decide +kernel
theorem d_Mo_meet_67 : decode b_Mo_meet 67 = .ok (.if_icmp .ge 99, 3) := by decide +kernel
theorem d_Mo_meet_70 : decode b_Mo_meet 70 = .ok (.aload_n 0, 1) := by decide +kernel
theorem d_Mo_meet_71 : decode b_Mo_meet 71 = .ok (.getfield 35, 3) := by decide +kernel
theorem d_Mo_meet_74 : decode b_Mo_meet 74 = .ok (.bipush 48, 2) := by decide +kernel
theorem d_Mo_meet_76 : decode b_Mo_meet 76 = .ok (.iload 5, 2) := by decide +kernel
theorem d_Mo_meet_78 : decode b_Mo_meet 78 = .ok (.imul, 1) := by decide +kernel
theorem d_Mo_meet_79 : decode b_Mo_meet 79 = .ok (.iload 4, 2) := by decide +kernel
theorem d_Mo_meet_81 : decode b_Mo_meet 81 = .ok (.iadd, 1) := by decide +kernel
theorem d_Mo_meet_82 : decode b_Mo_meet 82 = .ok (.baload, 1) := by decide +kernel
theorem d_Mo_meet_83 : decode b_Mo_meet 83 = .ok (.ifCond .ne 33, 3) := by decide +kernel
theorem d_Mo_meet_86 : decode b_Mo_meet 86 = .ok (.aload_n 0, 1) := by decide +kernel
theorem d_Mo_meet_87 : decode b_Mo_meet 87 = .ok (.aload_n 0, 1) := by decide +kernel
theorem d_Mo_meet_88 : decode b_Mo_meet 88 = .ok (.getfield 35, 3) := by decide +kernel
theorem d_Mo_meet_91 : decode b_Mo_meet 91 = .ok (.iload 4, 2) := by decide +kernel
theorem d_Mo_meet_93 : decode b_Mo_meet 93 = .ok (.iload 5, 2) := by decide +kernel
theorem d_Mo_meet_95 : decode b_Mo_meet 95 = .ok (.invokevirtual 115, 3) := by decide +kernel
theorem d_Mo_meet_98 : decode b_Mo_meet 98 = .ok (.ifCond .ne 18, 3) := by decide +kernel
theorem d_Mo_meet_101 : decode b_Mo_meet 101 = .ok (.aload_n 0, 1) := by decide +kernel
theorem d_Mo_meet_102 : decode b_Mo_meet 102 = .ok (.aload_n 0, 1) := by decide +kernel
theorem d_Mo_meet_103 : decode b_Mo_meet 103 = .ok (.getfield 35, 3) := by decide +kernel
theorem d_Mo_meet_106 : decode b_Mo_meet 106 = .ok (.iload 4, 2) := by decide +kernel
theorem d_Mo_meet_108 : decode b_Mo_meet 108 = .ok (.iload 5, 2) := by decide +kernel
theorem d_Mo_meet_110 : decode b_Mo_meet 110 = .ok (.invokevirtual 119, 3) := by decide +kernel
theorem d_Mo_meet_113 : decode b_Mo_meet 113 = .ok (.ifCond .eq 7, 3) := by decide +kernel
theorem d_Mo_meet_116 : decode b_Mo_meet 116 = .ok (.iconst 1, 1) := by decide +kernel
theorem d_Mo_meet_117 : decode b_Mo_meet 117 = .ok (.goto 4, 3) := by decide +kernel
theorem d_Mo_meet_120 : decode b_Mo_meet 120 = .ok (.iconst 0, 1) := by decide +kernel
theorem d_Mo_meet_121 : decode b_Mo_meet 121 = .ok (.istore 6, 2) := by decide +kernel
theorem d_Mo_meet_123 : decode b_Mo_meet 123 = .ok (.aload_n 0, 1) := by decide +kernel
theorem d_Mo_meet_124 : decode b_Mo_meet 124 = .ok (.getfield 35, 3) := by decide +kernel
theorem d_Mo_meet_127 : decode b_Mo_meet 127 = .ok (.bipush 48, 2) := by decide +kernel
theorem d_Mo_meet_129 : decode b_Mo_meet 129 = .ok (.iload 4, 2) := by decide +kernel
theorem d_Mo_meet_131 : decode b_Mo_meet 131 = .ok (.imul, 1) := by decide +kernel
theorem d_Mo_meet_132 : decode b_Mo_meet 132 = .ok (.iload 5, 2) := by decide +kernel
theorem d_Mo_meet_134 : decode b_Mo_meet 134 = .ok (.iadd, 1) := by decide +kernel
theorem d_Mo_meet_135 : decode b_Mo_meet 135 = .ok (.baload, 1) := by decide +kernel
theorem d_Mo_meet_136 : decode b_Mo_meet 136 = .ok (.ifCond .ne 24, 3) := by decide +kernel
theorem d_Mo_meet_139 : decode b_Mo_meet 139 = .ok (.iload 6, 2) := by decide +kernel
theorem d_Mo_meet_141 : decode b_Mo_meet 141 = .ok (.ifCond .eq 19, 3) := by decide +kernel
theorem d_Mo_meet_144 : decode b_Mo_meet 144 = .ok (.aload_n 0, 1) := by decide +kernel
theorem d_Mo_meet_145 : decode b_Mo_meet 145 = .ok (.getfield 35, 3) := by decide +kernel
theorem d_Mo_meet_148 : decode b_Mo_meet 148 = .ok (.bipush 48, 2) := by decide +kernel
theorem d_Mo_meet_150 : decode b_Mo_meet 150 = .ok (.iload 4, 2) := by decide +kernel
theorem d_Mo_meet_152 : decode b_Mo_meet 152 = .ok (.imul, 1) := by decide +kernel
theorem d_Mo_meet_153 : decode b_Mo_meet 153 = .ok (.iload 5, 2) := by decide +kernel
theorem d_Mo_meet_155 : decode b_Mo_meet 155 = .ok (.iadd, 1) := by decide +kernel
theorem d_Mo_meet_156 : decode b_Mo_meet 156 = .ok (.iconst 1, 1) := by decide +kernel
theorem d_Mo_meet_157 : decode b_Mo_meet 157 = .ok (.bastore, 1) := by decide +kernel
theorem d_Mo_meet_158 : decode b_Mo_meet 158 = .ok (.iconst 1, 1) := by decide +kernel
theorem d_Mo_meet_159 : decode b_Mo_meet 159 = .ok (.istore_n 3, 1) := by decide +kernel
theorem d_Mo_meet_160 : decode b_Mo_meet 160 = .ok (.iinc 5 1, 3) := by decide +kernel
theorem d_Mo_meet_163 : decode b_Mo_meet 163 = .ok (.goto (-102), 3) := by decide +kernel
theorem d_Mo_meet_166 : decode b_Mo_meet 166 = .ok (.iinc 4 1, 3) := by decide +kernel
theorem d_Mo_meet_169 : decode b_Mo_meet 169 = .ok (.goto (-120), 3) := by decide +kernel
theorem d_Mo_meet_172 : decode b_Mo_meet 172 = .ok (.goto (-132), 3) := by decide +kernel
theorem d_Mo_meet_175 : decode b_Mo_meet 175 = .ok (.aload_n 0, 1) := by decide +kernel
theorem d_Mo_meet_176 : decode b_Mo_meet 176 = .ok (.getfield 35, 3) := by decide +kernel
theorem d_Mo_meet_179 : decode b_Mo_meet 179 = .ok (.bipush 48, 2) := by decide +kernel
theorem d_Mo_meet_181 : decode b_Mo_meet 181 = .ok (.iload_n 1, 1) := by decide +kernel
theorem d_Mo_meet_182 : decode b_Mo_meet 182 = .ok (.imul, 1) := by decide +kernel
theorem d_Mo_meet_183 : decode b_Mo_meet 183 = .ok (.iload_n 2, 1) := by decide +kernel
theorem d_Mo_meet_184 : decode b_Mo_meet 184 = .ok (.iadd, 1) := by decide +kernel
theorem d_Mo_meet_185 : decode b_Mo_meet 185 = .ok (.baload, 1) := by decide +kernel
theorem d_Mo_meet_186 : decode b_Mo_meet 186 = .ok (.ireturn, 1) := by decide +kernel
abbrev b_Mo_byEdge : ByteArray := prog_10_method_23_code
def y_Mo_byEdge : MethodName := ⟨R_Mo, "byEdge", "(II)Z"⟩
theorem k_Mo_byEdge : kV y_Mo_byEdge b_Mo_byEdge 3 (some .boolean) 2 := ⟨gmem (List.mem_append_right _ (List.mem_of_getElem? (i := 950) (by decide +kernel))) (by decide +kernel), gmem (List.mem_append_left _ (List.mem_of_getElem? (i := 38) (by decide +kernel))) (by decide +kernel), in_Mo, gmem (List.mem_append_right _ (List.mem_of_getElem? (i := 951) (by decide +kernel))) (by decide +kernel), by decide, by decide, by decide +kernel⟩
theorem d_Mo_byEdge_0 : decode b_Mo_byEdge 0 = .ok (.aload_n 0, 1) := by decide +kernel
theorem d_Mo_byEdge_1 : decode b_Mo_byEdge 1 = .ok (.getfield 28, 3) := by decide +kernel
theorem d_Mo_byEdge_4 : decode b_Mo_byEdge 4 = .ok (.iconst 4, 1) := by decide +kernel
theorem d_Mo_byEdge_5 : decode b_Mo_byEdge 5 = .ok (.iload_n 2, 1) := by decide +kernel
theorem d_Mo_byEdge_6 : decode b_Mo_byEdge 6 = .ok (.imul, 1) := by decide +kernel
theorem d_Mo_byEdge_7 : decode b_Mo_byEdge 7 = .ok (.iaload, 1) := by decide +kernel
theorem d_Mo_byEdge_8 : decode b_Mo_byEdge 8 = .ok (.aload_n 0, 1) := by decide +kernel
theorem d_Mo_byEdge_9 : decode b_Mo_byEdge 9 = .ok (.getfield 13, 3) := by decide +kernel
theorem d_Mo_byEdge_12 : decode b_Mo_byEdge 12 = .ok (.iload_n 1, 1) := by decide +kernel
theorem d_Mo_byEdge_13 : decode b_Mo_byEdge 13 = .ok (.iaload, 1) := by decide +kernel
theorem d_Mo_byEdge_14 : decode b_Mo_byEdge 14 = .ok (.if_icmp .eq 5, 3) := by decide +kernel
theorem d_Mo_byEdge_17 : decode b_Mo_byEdge 17 = .ok (.iconst 0, 1) := by decide +kernel
theorem d_Mo_byEdge_18 : decode b_Mo_byEdge 18 = .ok (.ireturn, 1) := by decide +kernel
theorem d_Mo_byEdge_19 : decode b_Mo_byEdge 19 = .ok (.aload_n 0, 1) := by decide +kernel
theorem d_Mo_byEdge_20 : decode b_Mo_byEdge 20 = .ok (.getfield 16, 3) := by decide +kernel
theorem d_Mo_byEdge_23 : decode b_Mo_byEdge 23 = .ok (.iload_n 1, 1) := by decide +kernel
theorem d_Mo_byEdge_24 : decode b_Mo_byEdge 24 = .ok (.iaload, 1) := by decide +kernel
theorem d_Mo_byEdge_25 : decode b_Mo_byEdge 25 = .ok (.ifCond .lt 31, 3) := by decide +kernel
theorem d_Mo_byEdge_28 : decode b_Mo_byEdge 28 = .ok (.aload_n 0, 1) := by decide +kernel
theorem d_Mo_byEdge_29 : decode b_Mo_byEdge 29 = .ok (.getfield 38, 3) := by decide +kernel
theorem d_Mo_byEdge_32 : decode b_Mo_byEdge 32 = .ok (.bipush 6, 2) := by decide +kernel
theorem d_Mo_byEdge_34 : decode b_Mo_byEdge 34 = .ok (.aload_n 0, 1) := by decide +kernel
theorem d_Mo_byEdge_35 : decode b_Mo_byEdge 35 = .ok (.getfield 16, 3) := by decide +kernel
theorem d_Mo_byEdge_38 : decode b_Mo_byEdge 38 = .ok (.iload_n 1, 1) := by decide +kernel
theorem d_Mo_byEdge_39 : decode b_Mo_byEdge 39 = .ok (.iaload, 1) := by decide +kernel
theorem d_Mo_byEdge_40 : decode b_Mo_byEdge 40 = .ok (.imul, 1) := by decide +kernel
theorem d_Mo_byEdge_41 : decode b_Mo_byEdge 41 = .ok (.aload_n 0, 1) := by decide +kernel
theorem d_Mo_byEdge_42 : decode b_Mo_byEdge 42 = .ok (.getfield 28, 3) := by decide +kernel
theorem d_Mo_byEdge_45 : decode b_Mo_byEdge 45 = .ok (.iconst 4, 1) := by decide +kernel
theorem d_Mo_byEdge_46 : decode b_Mo_byEdge 46 = .ok (.iload_n 2, 1) := by decide +kernel
theorem d_Mo_byEdge_47 : decode b_Mo_byEdge 47 = .ok (.imul, 1) := by decide +kernel
theorem d_Mo_byEdge_48 : decode b_Mo_byEdge 48 = .ok (.iconst 1, 1) := by decide +kernel
theorem d_Mo_byEdge_49 : decode b_Mo_byEdge 49 = .ok (.iadd, 1) := by decide +kernel
theorem d_Mo_byEdge_50 : decode b_Mo_byEdge 50 = .ok (.iaload, 1) := by decide +kernel
theorem d_Mo_byEdge_51 : decode b_Mo_byEdge 51 = .ok (.iadd, 1) := by decide +kernel
theorem d_Mo_byEdge_52 : decode b_Mo_byEdge 52 = .ok (.baload, 1) := by decide +kernel
theorem d_Mo_byEdge_53 : decode b_Mo_byEdge 53 = .ok (.ifCond .eq 44, 3) := by decide +kernel
theorem d_Mo_byEdge_56 : decode b_Mo_byEdge 56 = .ok (.aload_n 0, 1) := by decide +kernel
theorem d_Mo_byEdge_57 : decode b_Mo_byEdge 57 = .ok (.getfield 19, 3) := by decide +kernel
theorem d_Mo_byEdge_60 : decode b_Mo_byEdge 60 = .ok (.iload_n 1, 1) := by decide +kernel
theorem d_Mo_byEdge_61 : decode b_Mo_byEdge 61 = .ok (.iaload, 1) := by decide +kernel
theorem d_Mo_byEdge_62 : decode b_Mo_byEdge 62 = .ok (.ifCond .lt 31, 3) := by decide +kernel
theorem d_Mo_byEdge_65 : decode b_Mo_byEdge 65 = .ok (.aload_n 0, 1) := by decide +kernel
theorem d_Mo_byEdge_66 : decode b_Mo_byEdge 66 = .ok (.getfield 38, 3) := by decide +kernel
theorem d_Mo_byEdge_69 : decode b_Mo_byEdge 69 = .ok (.bipush 6, 2) := by decide +kernel
theorem d_Mo_byEdge_71 : decode b_Mo_byEdge 71 = .ok (.aload_n 0, 1) := by decide +kernel
theorem d_Mo_byEdge_72 : decode b_Mo_byEdge 72 = .ok (.getfield 19, 3) := by decide +kernel
theorem d_Mo_byEdge_75 : decode b_Mo_byEdge 75 = .ok (.iload_n 1, 1) := by decide +kernel
theorem d_Mo_byEdge_76 : decode b_Mo_byEdge 76 = .ok (.iaload, 1) := by decide +kernel
theorem d_Mo_byEdge_77 : decode b_Mo_byEdge 77 = .ok (.imul, 1) := by decide +kernel
theorem d_Mo_byEdge_78 : decode b_Mo_byEdge 78 = .ok (.aload_n 0, 1) := by decide +kernel
theorem d_Mo_byEdge_79 : decode b_Mo_byEdge 79 = .ok (.getfield 28, 3) := by decide +kernel
theorem d_Mo_byEdge_82 : decode b_Mo_byEdge 82 = .ok (.iconst 4, 1) := by decide +kernel
theorem d_Mo_byEdge_83 : decode b_Mo_byEdge 83 = .ok (.iload_n 2, 1) := by decide +kernel
theorem d_Mo_byEdge_84 : decode b_Mo_byEdge 84 = .ok (.imul, 1) := by decide +kernel
theorem d_Mo_byEdge_85 : decode b_Mo_byEdge 85 = .ok (.iconst 2, 1) := by decide +kernel
theorem d_Mo_byEdge_86 : decode b_Mo_byEdge 86 = .ok (.iadd, 1) := by decide +kernel
theorem d_Mo_byEdge_87 : decode b_Mo_byEdge 87 = .ok (.iaload, 1) := by decide +kernel
theorem d_Mo_byEdge_88 : decode b_Mo_byEdge 88 = .ok (.iadd, 1) := by decide +kernel
theorem d_Mo_byEdge_89 : decode b_Mo_byEdge 89 = .ok (.baload, 1) := by decide +kernel
theorem d_Mo_byEdge_90 : decode b_Mo_byEdge 90 = .ok (.ifCond .eq 7, 3) := by decide +kernel
theorem d_Mo_byEdge_93 : decode b_Mo_byEdge 93 = .ok (.iconst 1, 1) := by decide +kernel
theorem d_Mo_byEdge_94 : decode b_Mo_byEdge 94 = .ok (.goto 4, 3) := by decide +kernel
theorem d_Mo_byEdge_97 : decode b_Mo_byEdge 97 = .ok (.iconst 0, 1) := by decide +kernel
theorem d_Mo_byEdge_98 : decode b_Mo_byEdge 98 = .ok (.ireturn, 1) := by decide +kernel
abbrev b_Mo_stands : ByteArray := prog_10_method_25_code
def y_Mo_stands : MethodName := ⟨R_Mo, "stands", "(III)Z"⟩
theorem k_Mo_stands : kV y_Mo_stands b_Mo_stands 6 (some .boolean) 3 := ⟨gmem (List.mem_append_right _ (List.mem_of_getElem? (i := 946) (by decide +kernel))) (by decide +kernel), gmem (List.mem_append_left _ (List.mem_of_getElem? (i := 37) (by decide +kernel))) (by decide +kernel), in_Mo, gmem (List.mem_append_right _ (List.mem_of_getElem? (i := 947) (by decide +kernel))) (by decide +kernel), by decide, by decide, by decide +kernel⟩
theorem d_Mo_stands_0 : decode b_Mo_stands 0 = .ok (.iconst 0, 1) := by decide +kernel
theorem d_Mo_stands_1 : decode b_Mo_stands 1 = .ok (.istore 4, 2) := by decide +kernel
theorem d_Mo_stands_3 : decode b_Mo_stands 3 = .ok (.iconst 0, 1) := by decide +kernel
theorem d_Mo_stands_4 : decode b_Mo_stands 4 = .ok (.istore 5, 2) := by decide +kernel
theorem d_Mo_stands_6 : decode b_Mo_stands 6 = .ok (.iload 5, 2) := by decide +kernel
theorem d_Mo_stands_8 : decode b_Mo_stands 8 = .ok (.aload_n 0, 1) := by decide +kernel
theorem d_Mo_stands_9 : decode b_Mo_stands 9 = .ok (.getfield 109, 3) := by decide +kernel
theorem d_Mo_stands_12 : decode b_Mo_stands 12 = .ok (.if_icmp .ge 46, 3) := by decide +kernel
theorem d_Mo_stands_15 : decode b_Mo_stands 15 = .ok (.iload 4, 2) := by decide +kernel
theorem d_Mo_stands_17 : decode b_Mo_stands 17 = .ok (.ifCond .ne 28, 3) := by decide +kernel
theorem d_Mo_stands_20 : decode b_Mo_stands 20 = .ok (.aload_n 0, 1) := by decide +kernel
theorem d_Mo_stands_21 : decode b_Mo_stands 21 = .ok (.getfield 28, 3) := by decide +kernel
theorem d_Mo_stands_24 : decode b_Mo_stands 24 = .ok (.iconst 4, 1) := by decide +kernel
theorem d_Mo_stands_25 : decode b_Mo_stands 25 = .ok (.iload 5, 2) := by decide +kernel
theorem d_Mo_stands_27 : decode b_Mo_stands 27 = .ok (.imul, 1) := by decide +kernel
theorem d_Mo_stands_28 : decode b_Mo_stands 28 = .ok (.iconst 3, 1) := by decide +kernel
theorem d_Mo_stands_29 : decode b_Mo_stands 29 = .ok (.iadd, 1) := by decide +kernel
theorem d_Mo_stands_30 : decode b_Mo_stands 30 = .ok (.iaload, 1) := by decide +kernel
theorem d_Mo_stands_31 : decode b_Mo_stands 31 = .ok (.iload_n 2, 1) := by decide +kernel
theorem d_Mo_stands_32 : decode b_Mo_stands 32 = .ok (.if_icmp .ne 17, 3) := by decide +kernel
theorem d_Mo_stands_35 : decode b_Mo_stands 35 = .ok (.aload_n 0, 1) := by decide +kernel
theorem d_Mo_stands_36 : decode b_Mo_stands 36 = .ok (.iload_n 1, 1) := by decide +kernel
theorem d_Mo_stands_37 : decode b_Mo_stands 37 = .ok (.iload 5, 2) := by decide +kernel
theorem d_Mo_stands_39 : decode b_Mo_stands 39 = .ok (.invokevirtual 133, 3) := by decide +kernel
theorem d_Mo_stands_42 : decode b_Mo_stands 42 = .ok (.ifCond .eq 7, 3) := by decide +kernel
theorem d_Mo_stands_45 : decode b_Mo_stands 45 = .ok (.iconst 1, 1) := by decide +kernel
theorem d_Mo_stands_46 : decode b_Mo_stands 46 = .ok (.goto 4, 3) := by decide +kernel
theorem d_Mo_stands_49 : decode b_Mo_stands 49 = .ok (.iconst 0, 1) := by decide +kernel
theorem d_Mo_stands_50 : decode b_Mo_stands 50 = .ok (.istore 4, 2) := by decide +kernel
theorem d_Mo_stands_52 : decode b_Mo_stands 52 = .ok (.iinc 5 1, 3) := by decide +kernel
theorem d_Mo_stands_55 : decode b_Mo_stands 55 = .ok (.goto (-49), 3) := by decide +kernel
theorem d_Mo_stands_58 : decode b_Mo_stands 58 = .ok (.iconst 0, 1) := by decide +kernel
theorem d_Mo_stands_59 : decode b_Mo_stands 59 = .ok (.istore 5, 2) := by decide +kernel
theorem d_Mo_stands_61 : decode b_Mo_stands 61 = .ok (.iload 5, 2) := by decide +kernel
theorem d_Mo_stands_63 : decode b_Mo_stands 63 = .ok (.aload_n 0, 1) := by decide +kernel
theorem d_Mo_stands_64 : decode b_Mo_stands 64 = .ok (.getfield 93, 3) := by decide +kernel
theorem d_Mo_stands_67 : decode b_Mo_stands 67 = .ok (.if_icmp .ge 123, 3) := by decide +kernel
theorem d_Mo_stands_70 : decode b_Mo_stands 70 = .ok (.iload 4, 2) := by decide +kernel
theorem d_Mo_stands_72 : decode b_Mo_stands 72 = .ok (.ifCond .ne 48, 3) := by decide +kernel
theorem d_Mo_stands_75 : decode b_Mo_stands 75 = .ok (.iload_n 3, 1) := by decide +kernel
theorem d_Mo_stands_76 : decode b_Mo_stands 76 = .ok (.iconst 1, 1) := by decide +kernel
theorem d_Mo_stands_77 : decode b_Mo_stands 77 = .ok (.if_icmp .ne 47, 3) := by decide +kernel
theorem d_Mo_stands_80 : decode b_Mo_stands 80 = .ok (.aload_n 0, 1) := by decide +kernel
theorem d_Mo_stands_81 : decode b_Mo_stands 81 = .ok (.getfield 38, 3) := by decide +kernel
theorem d_Mo_stands_84 : decode b_Mo_stands 84 = .ok (.bipush 6, 2) := by decide +kernel
theorem d_Mo_stands_86 : decode b_Mo_stands 86 = .ok (.aload_n 0, 1) := by decide +kernel
theorem d_Mo_stands_87 : decode b_Mo_stands 87 = .ok (.getfield 22, 3) := by decide +kernel
theorem d_Mo_stands_90 : decode b_Mo_stands 90 = .ok (.iload 5, 2) := by decide +kernel
theorem d_Mo_stands_92 : decode b_Mo_stands 92 = .ok (.iaload, 1) := by decide +kernel
theorem d_Mo_stands_93 : decode b_Mo_stands 93 = .ok (.imul, 1) := by decide +kernel
theorem d_Mo_stands_94 : decode b_Mo_stands 94 = .ok (.iload_n 2, 1) := by decide +kernel
theorem d_Mo_stands_95 : decode b_Mo_stands 95 = .ok (.iadd, 1) := by decide +kernel
theorem d_Mo_stands_96 : decode b_Mo_stands 96 = .ok (.baload, 1) := by decide +kernel
theorem d_Mo_stands_97 : decode b_Mo_stands 97 = .ok (.ifCond .eq 27, 3) := by decide +kernel
theorem d_Mo_stands_100 : decode b_Mo_stands 100 = .ok (.aload_n 0, 1) := by decide +kernel
theorem d_Mo_stands_101 : decode b_Mo_stands 101 = .ok (.getfield 31, 3) := by decide +kernel
theorem d_Mo_stands_104 : decode b_Mo_stands 104 = .ok (.bipush 48, 2) := by decide +kernel
theorem d_Mo_stands_106 : decode b_Mo_stands 106 = .ok (.aload_n 0, 1) := by decide +kernel
theorem d_Mo_stands_107 : decode b_Mo_stands 107 = .ok (.getfield 25, 3) := by decide +kernel
theorem d_Mo_stands_110 : decode b_Mo_stands 110 = .ok (.iload 5, 2) := by decide +kernel
theorem d_Mo_stands_112 : decode b_Mo_stands 112 = .ok (.iaload, 1) := by decide +kernel
theorem d_Mo_stands_113 : decode b_Mo_stands 113 = .ok (.imul, 1) := by decide +kernel
theorem d_Mo_stands_114 : decode b_Mo_stands 114 = .ok (.iload_n 1, 1) := by decide +kernel
theorem d_Mo_stands_115 : decode b_Mo_stands 115 = .ok (.iadd, 1) := by decide +kernel
theorem d_Mo_stands_116 : decode b_Mo_stands 116 = .ok (.baload, 1) := by decide +kernel
theorem d_Mo_stands_117 : decode b_Mo_stands 117 = .ok (.ifCond .eq 7, 3) := by decide +kernel
theorem d_Mo_stands_120 : decode b_Mo_stands 120 = .ok (.iconst 1, 1) := by decide +kernel
theorem d_Mo_stands_121 : decode b_Mo_stands 121 = .ok (.goto 4, 3) := by decide +kernel
theorem d_Mo_stands_124 : decode b_Mo_stands 124 = .ok (.iconst 0, 1) := by decide +kernel
theorem d_Mo_stands_125 : decode b_Mo_stands 125 = .ok (.istore 4, 2) := by decide +kernel
theorem d_Mo_stands_127 : decode b_Mo_stands 127 = .ok (.iload 4, 2) := by decide +kernel
theorem d_Mo_stands_129 : decode b_Mo_stands 129 = .ok (.ifCond .ne 48, 3) := by decide +kernel
theorem d_Mo_stands_132 : decode b_Mo_stands 132 = .ok (.iload_n 3, 1) := by decide +kernel
theorem d_Mo_stands_133 : decode b_Mo_stands 133 = .ok (.iconst 2, 1) := by decide +kernel
theorem d_Mo_stands_134 : decode b_Mo_stands 134 = .ok (.if_icmp .ne 47, 3) := by decide +kernel
theorem d_Mo_stands_137 : decode b_Mo_stands 137 = .ok (.aload_n 0, 1) := by decide +kernel
theorem d_Mo_stands_138 : decode b_Mo_stands 138 = .ok (.getfield 31, 3) := by decide +kernel
theorem d_Mo_stands_141 : decode b_Mo_stands 141 = .ok (.bipush 48, 2) := by decide +kernel
theorem d_Mo_stands_143 : decode b_Mo_stands 143 = .ok (.iload_n 1, 1) := by decide +kernel
theorem d_Mo_stands_144 : decode b_Mo_stands 144 = .ok (.imul, 1) := by decide +kernel
theorem d_Mo_stands_145 : decode b_Mo_stands 145 = .ok (.aload_n 0, 1) := by decide +kernel
theorem d_Mo_stands_146 : decode b_Mo_stands 146 = .ok (.getfield 22, 3) := by decide +kernel
theorem d_Mo_stands_149 : decode b_Mo_stands 149 = .ok (.iload 5, 2) := by decide +kernel
theorem d_Mo_stands_151 : decode b_Mo_stands 151 = .ok (.iaload, 1) := by decide +kernel
theorem d_Mo_stands_152 : decode b_Mo_stands 152 = .ok (.iadd, 1) := by decide +kernel
theorem d_Mo_stands_153 : decode b_Mo_stands 153 = .ok (.baload, 1) := by decide +kernel
theorem d_Mo_stands_154 : decode b_Mo_stands 154 = .ok (.ifCond .eq 27, 3) := by decide +kernel
theorem d_Mo_stands_157 : decode b_Mo_stands 157 = .ok (.aload_n 0, 1) := by decide +kernel
theorem d_Mo_stands_158 : decode b_Mo_stands 158 = .ok (.getfield 38, 3) := by decide +kernel
theorem d_Mo_stands_161 : decode b_Mo_stands 161 = .ok (.bipush 6, 2) := by decide +kernel
theorem d_Mo_stands_163 : decode b_Mo_stands 163 = .ok (.aload_n 0, 1) := by decide +kernel
theorem d_Mo_stands_164 : decode b_Mo_stands 164 = .ok (.getfield 25, 3) := by decide +kernel
theorem d_Mo_stands_167 : decode b_Mo_stands 167 = .ok (.iload 5, 2) := by decide +kernel
theorem d_Mo_stands_169 : decode b_Mo_stands 169 = .ok (.iaload, 1) := by decide +kernel
theorem d_Mo_stands_170 : decode b_Mo_stands 170 = .ok (.imul, 1) := by decide +kernel
theorem d_Mo_stands_171 : decode b_Mo_stands 171 = .ok (.iload_n 2, 1) := by decide +kernel
theorem d_Mo_stands_172 : decode b_Mo_stands 172 = .ok (.iadd, 1) := by decide +kernel
theorem d_Mo_stands_173 : decode b_Mo_stands 173 = .ok (.baload, 1) := by decide +kernel
theorem d_Mo_stands_174 : decode b_Mo_stands 174 = .ok (.ifCond .eq 7, 3) := by decide +kernel
theorem d_Mo_stands_177 : decode b_Mo_stands 177 = .ok (.iconst 1, 1) := by decide +kernel
theorem d_Mo_stands_178 : decode b_Mo_stands 178 = .ok (.goto 4, 3) := by decide +kernel
theorem d_Mo_stands_181 : decode b_Mo_stands 181 = .ok (.iconst 0, 1) := by decide +kernel
theorem d_Mo_stands_182 : decode b_Mo_stands 182 = .ok (.istore 4, 2) := by decide +kernel
theorem d_Mo_stands_184 : decode b_Mo_stands 184 = .ok (.iinc 5 1, 3) := by decide +kernel
theorem d_Mo_stands_187 : decode b_Mo_stands 187 = .ok (.goto (-126), 3) := by decide +kernel
theorem d_Mo_stands_190 : decode b_Mo_stands 190 = .ok (.iload 4, 2) := by decide +kernel
theorem d_Mo_stands_192 : decode b_Mo_stands 192 = .ok (.ireturn, 1) := by decide +kernel
abbrev b_Mo_stand : ByteArray := prog_10_method_24_code
def y_Mo_stand : MethodName := ⟨R_Mo, "stand", "(I)V"⟩
theorem k_Mo_stand : kV y_Mo_stand b_Mo_stand 5 none 1 := ⟨gmem (List.mem_append_right _ (List.mem_of_getElem? (i := 942) (by decide +kernel))) (by decide +kernel), gmem (List.mem_append_left _ (List.mem_of_getElem? (i := 36) (by decide +kernel))) (by decide +kernel), in_Mo, gmem (List.mem_append_right _ (List.mem_of_getElem? (i := 943) (by decide +kernel))) (by decide +kernel), by decide, by decide, by decide +kernel⟩
theorem d_Mo_stand_0 : decode b_Mo_stand 0 = .ok (.iconst 0, 1) := by decide +kernel
theorem d_Mo_stand_1 : decode b_Mo_stand 1 = .ok (.istore_n 2, 1) := by decide +kernel
theorem d_Mo_stand_2 : decode b_Mo_stand 2 = .ok (.iload_n 2, 1) := by decide +kernel
theorem d_Mo_stand_3 : decode b_Mo_stand 3 = .ok (.sipush 288, 3) := by decide +kernel
theorem d_Mo_stand_6 : decode b_Mo_stand 6 = .ok (.if_icmp .ge 16, 3) := by decide +kernel
theorem d_Mo_stand_9 : decode b_Mo_stand 9 = .ok (.aload_n 0, 1) := by decide +kernel
theorem d_Mo_stand_10 : decode b_Mo_stand 10 = .ok (.getfield 38, 3) := by decide +kernel
theorem d_Mo_stand_13 : decode b_Mo_stand 13 = .ok (.iload_n 2, 1) := by decide +kernel
theorem d_Mo_stand_14 : decode b_Mo_stand 14 = .ok (.iconst 0, 1) := by decide +kernel
theorem d_Mo_stand_15 : decode b_Mo_stand 15 = .ok (.bastore, 1) := by decide +kernel
theorem d_Mo_stand_16 : decode b_Mo_stand 16 = .ok (.iinc 2 1, 3) := by decide +kernel
theorem d_Mo_stand_19 : decode b_Mo_stand 19 = .ok (.goto (-17), 3) := by decide +kernel
theorem d_Mo_stand_22 : decode b_Mo_stand 22 = .ok (.iconst 1, 1) := by decide +kernel
theorem d_Mo_stand_23 : decode b_Mo_stand 23 = .ok (.istore_n 2, 1) := by decide +kernel
theorem d_Mo_stand_24 : decode b_Mo_stand 24 = .ok (.iload_n 2, 1) := by decide +kernel
theorem d_Mo_stand_25 : decode b_Mo_stand 25 = .ok (.ifCond .eq 81, 3) := by decide +kernel
theorem d_Mo_stand_28 : decode b_Mo_stand 28 = .ok (.iconst 0, 1) := by decide +kernel
theorem d_Mo_stand_29 : decode b_Mo_stand 29 = .ok (.istore_n 2, 1) := by decide +kernel
theorem d_Mo_stand_30 : decode b_Mo_stand 30 = .ok (.iconst 0, 1) := by decide +kernel
theorem d_Mo_stand_31 : decode b_Mo_stand 31 = .ok (.istore_n 3, 1) := by decide +kernel
theorem d_Mo_stand_32 : decode b_Mo_stand 32 = .ok (.iload_n 3, 1) := by decide +kernel
theorem d_Mo_stand_33 : decode b_Mo_stand 33 = .ok (.aload_n 0, 1) := by decide +kernel
theorem d_Mo_stand_34 : decode b_Mo_stand 34 = .ok (.getfield 72, 3) := by decide +kernel
theorem d_Mo_stand_37 : decode b_Mo_stand 37 = .ok (.if_icmp .ge 66, 3) := by decide +kernel
theorem d_Mo_stand_40 : decode b_Mo_stand 40 = .ok (.iconst 0, 1) := by decide +kernel
theorem d_Mo_stand_41 : decode b_Mo_stand 41 = .ok (.istore 4, 2) := by decide +kernel
theorem d_Mo_stand_43 : decode b_Mo_stand 43 = .ok (.iload 4, 2) := by decide +kernel
theorem d_Mo_stand_45 : decode b_Mo_stand 45 = .ok (.bipush 6, 2) := by decide +kernel
theorem d_Mo_stand_47 : decode b_Mo_stand 47 = .ok (.if_icmp .ge 50, 3) := by decide +kernel
theorem d_Mo_stand_50 : decode b_Mo_stand 50 = .ok (.aload_n 0, 1) := by decide +kernel
theorem d_Mo_stand_51 : decode b_Mo_stand 51 = .ok (.getfield 38, 3) := by decide +kernel
theorem d_Mo_stand_54 : decode b_Mo_stand 54 = .ok (.bipush 6, 2) := by decide +kernel
theorem d_Mo_stand_56 : decode b_Mo_stand 56 = .ok (.iload_n 3, 1) := by decide +kernel
theorem d_Mo_stand_57 : decode b_Mo_stand 57 = .ok (.imul, 1) := by decide +kernel
theorem d_Mo_stand_58 : decode b_Mo_stand 58 = .ok (.iload 4, 2) := by decide +kernel
theorem d_Mo_stand_60 : decode b_Mo_stand 60 = .ok (.iadd, 1) := by decide +kernel
theorem d_Mo_stand_61 : decode b_Mo_stand 61 = .ok (.baload, 1) := by decide +kernel
theorem d_Mo_stand_62 : decode b_Mo_stand 62 = .ok (.ifCond .ne 29, 3) := by decide +kernel
theorem d_Mo_stand_65 : decode b_Mo_stand 65 = .ok (.aload_n 0, 1) := by decide +kernel
theorem d_Mo_stand_66 : decode b_Mo_stand 66 = .ok (.iload_n 3, 1) := by decide +kernel
theorem d_Mo_stand_67 : decode b_Mo_stand 67 = .ok (.iload 4, 2) := by decide +kernel
theorem d_Mo_stand_69 : decode b_Mo_stand 69 = .ok (.iload_n 1, 1) := by decide +kernel
theorem d_Mo_stand_70 : decode b_Mo_stand 70 = .ok (.invokevirtual 129, 3) := by decide +kernel
theorem d_Mo_stand_73 : decode b_Mo_stand 73 = .ok (.ifCond .eq 18, 3) := by decide +kernel
theorem d_Mo_stand_76 : decode b_Mo_stand 76 = .ok (.aload_n 0, 1) := by decide +kernel
theorem d_Mo_stand_77 : decode b_Mo_stand 77 = .ok (.getfield 38, 3) := by decide +kernel
theorem d_Mo_stand_80 : decode b_Mo_stand 80 = .ok (.bipush 6, 2) := by decide +kernel
theorem d_Mo_stand_82 : decode b_Mo_stand 82 = .ok (.iload_n 3, 1) := by decide +kernel
theorem d_Mo_stand_83 : decode b_Mo_stand 83 = .ok (.imul, 1) := by decide +kernel
theorem d_Mo_stand_84 : decode b_Mo_stand 84 = .ok (.iload 4, 2) := by decide +kernel
theorem d_Mo_stand_86 : decode b_Mo_stand 86 = .ok (.iadd, 1) := by decide +kernel
theorem d_Mo_stand_87 : decode b_Mo_stand 87 = .ok (.iconst 1, 1) := by decide +kernel
theorem d_Mo_stand_88 : decode b_Mo_stand 88 = .ok (.bastore, 1) := by decide +kernel
theorem d_Mo_stand_89 : decode b_Mo_stand 89 = .ok (.iconst 1, 1) := by decide +kernel
theorem d_Mo_stand_90 : decode b_Mo_stand 90 = .ok (.istore_n 2, 1) := by decide +kernel
theorem d_Mo_stand_91 : decode b_Mo_stand 91 = .ok (.iinc 4 1, 3) := by decide +kernel
theorem d_Mo_stand_94 : decode b_Mo_stand 94 = .ok (.goto (-51), 3) := by decide +kernel
theorem d_Mo_stand_97 : decode b_Mo_stand 97 = .ok (.iinc 3 1, 3) := by decide +kernel
theorem d_Mo_stand_100 : decode b_Mo_stand 100 = .ok (.goto (-68), 3) := by decide +kernel
theorem d_Mo_stand_103 : decode b_Mo_stand 103 = .ok (.goto (-79), 3) := by decide +kernel
theorem d_Mo_stand_106 : decode b_Mo_stand 106 = .ok (.return_, 1) := by decide +kernel
abbrev b_Mo_isFinal : ByteArray := prog_10_method_26_code
def y_Mo_isFinal : MethodName := ⟨R_Mo, "isFinal", "(II)Z"⟩
theorem k_Mo_isFinal : kV y_Mo_isFinal b_Mo_isFinal 5 (some .boolean) 2 := ⟨gmem (List.mem_append_right _ (List.mem_of_getElem? (i := 938) (by decide +kernel))) (by decide +kernel), gmem (List.mem_append_left _ (List.mem_of_getElem? (i := 35) (by decide +kernel))) (by decide +kernel), in_Mo, gmem (List.mem_append_right _ (List.mem_of_getElem? (i := 939) (by decide +kernel))) (by decide +kernel), by decide, by decide, by decide +kernel⟩
theorem d_Mo_isFinal_0 : decode b_Mo_isFinal 0 = .ok (.aload_n 0, 1) := by decide +kernel
theorem d_Mo_isFinal_1 : decode b_Mo_isFinal 1 = .ok (.iload_n 1, 1) := by decide +kernel
theorem d_Mo_isFinal_2 : decode b_Mo_isFinal 2 = .ok (.iload_n 1, 1) := by decide +kernel
theorem d_Mo_isFinal_3 : decode b_Mo_isFinal 3 = .ok (.invokevirtual 125, 3) := by decide +kernel
theorem d_Mo_isFinal_6 : decode b_Mo_isFinal 6 = .ok (.ifCond .ne 5, 3) := by decide +kernel
theorem d_Mo_isFinal_9 : decode b_Mo_isFinal 9 = .ok (.iconst 0, 1) := by decide +kernel
theorem d_Mo_isFinal_10 : decode b_Mo_isFinal 10 = .ok (.ireturn, 1) := by decide +kernel
theorem d_Mo_isFinal_11 : decode b_Mo_isFinal 11 = .ok (.aload_n 0, 1) := by decide +kernel
theorem d_Mo_isFinal_12 : decode b_Mo_isFinal 12 = .ok (.iload_n 2, 1) := by decide +kernel
theorem d_Mo_isFinal_13 : decode b_Mo_isFinal 13 = .ok (.invokevirtual 136, 3) := by decide +kernel
theorem d_Mo_isFinal_16 : decode b_Mo_isFinal 16 = .ok (.iconst 0, 1) := by decide +kernel
theorem d_Mo_isFinal_17 : decode b_Mo_isFinal 17 = .ok (.istore_n 3, 1) := by decide +kernel
theorem d_Mo_isFinal_18 : decode b_Mo_isFinal 18 = .ok (.iconst 0, 1) := by decide +kernel
theorem d_Mo_isFinal_19 : decode b_Mo_isFinal 19 = .ok (.istore 4, 2) := by decide +kernel
theorem d_Mo_isFinal_21 : decode b_Mo_isFinal 21 = .ok (.iload 4, 2) := by decide +kernel
theorem d_Mo_isFinal_23 : decode b_Mo_isFinal 23 = .ok (.bipush 6, 2) := by decide +kernel
theorem d_Mo_isFinal_25 : decode b_Mo_isFinal 25 = .ok (.if_icmp .ge 47, 3) := by decide +kernel
theorem d_Mo_isFinal_28 : decode b_Mo_isFinal 28 = .ok (.iload_n 3, 1) := by decide +kernel
theorem d_Mo_isFinal_29 : decode b_Mo_isFinal 29 = .ok (.ifCond .ne 31, 3) := by decide +kernel
theorem d_Mo_isFinal_32 : decode b_Mo_isFinal 32 = .ok (.aload_n 0, 1) := by decide +kernel
theorem d_Mo_isFinal_33 : decode b_Mo_isFinal 33 = .ok (.getfield 112, 3) := by decide +kernel
theorem d_Mo_isFinal_36 : decode b_Mo_isFinal 36 = .ok (.iload 4, 2) := by decide +kernel
theorem d_Mo_isFinal_38 : decode b_Mo_isFinal 38 = .ok (.ishr, 1) := by decide +kernel
theorem d_Mo_isFinal_39 : decode b_Mo_isFinal 39 = .ok (.iconst 1, 1) := by decide +kernel
theorem d_Mo_isFinal_40 : decode b_Mo_isFinal 40 = .ok (.iand, 1) := by decide +kernel
theorem d_Mo_isFinal_41 : decode b_Mo_isFinal 41 = .ok (.iconst 1, 1) := by decide +kernel
theorem d_Mo_isFinal_42 : decode b_Mo_isFinal 42 = .ok (.if_icmp .ne 22, 3) := by decide +kernel
theorem d_Mo_isFinal_45 : decode b_Mo_isFinal 45 = .ok (.aload_n 0, 1) := by decide +kernel
theorem d_Mo_isFinal_46 : decode b_Mo_isFinal 46 = .ok (.getfield 38, 3) := by decide +kernel
theorem d_Mo_isFinal_49 : decode b_Mo_isFinal 49 = .ok (.bipush 6, 2) := by decide +kernel
theorem d_Mo_isFinal_51 : decode b_Mo_isFinal 51 = .ok (.iload_n 1, 1) := by decide +kernel
theorem d_Mo_isFinal_52 : decode b_Mo_isFinal 52 = .ok (.imul, 1) := by decide +kernel
theorem d_Mo_isFinal_53 : decode b_Mo_isFinal 53 = .ok (.iload 4, 2) := by decide +kernel
theorem d_Mo_isFinal_55 : decode b_Mo_isFinal 55 = .ok (.iadd, 1) := by decide +kernel
theorem d_Mo_isFinal_56 : decode b_Mo_isFinal 56 = .ok (.baload, 1) := by decide +kernel
theorem d_Mo_isFinal_57 : decode b_Mo_isFinal 57 = .ok (.ifCond .eq 7, 3) := by decide +kernel
theorem d_Mo_isFinal_60 : decode b_Mo_isFinal 60 = .ok (.iconst 1, 1) := by decide +kernel
theorem d_Mo_isFinal_61 : decode b_Mo_isFinal 61 = .ok (.goto 4, 3) := by decide +kernel
theorem d_Mo_isFinal_64 : decode b_Mo_isFinal 64 = .ok (.iconst 0, 1) := by decide +kernel
theorem d_Mo_isFinal_65 : decode b_Mo_isFinal 65 = .ok (.istore_n 3, 1) := by decide +kernel
theorem d_Mo_isFinal_66 : decode b_Mo_isFinal 66 = .ok (.iinc 4 1, 3) := by decide +kernel
theorem d_Mo_isFinal_69 : decode b_Mo_isFinal 69 = .ok (.goto (-48), 3) := by decide +kernel
theorem d_Mo_isFinal_72 : decode b_Mo_isFinal 72 = .ok (.iload_n 3, 1) := by decide +kernel
theorem d_Mo_isFinal_73 : decode b_Mo_isFinal 73 = .ok (.ireturn, 1) := by decide +kernel
abbrev b_Mo_has : ByteArray := prog_10_method_27_code
def y_Mo_has : MethodName := ⟨R_Mo, "has", "(I)Z"⟩
theorem k_Mo_has : kV y_Mo_has b_Mo_has 2 (some .boolean) 1 := ⟨gmem (List.mem_append_right _ (List.mem_of_getElem? (i := 933) (by decide +kernel))) (by decide +kernel), gmem (List.mem_append_right _ (List.mem_of_getElem? (i := 934) (by decide +kernel))) (by decide +kernel), in_Mo, gmem (List.mem_append_right _ (List.mem_of_getElem? (i := 935) (by decide +kernel))) (by decide +kernel), by decide, by decide, by decide +kernel⟩
theorem d_Mo_has_0 : decode b_Mo_has 0 = .ok (.aload_n 0, 1) := by decide +kernel
theorem d_Mo_has_1 : decode b_Mo_has 1 = .ok (.iload_n 1, 1) := by decide +kernel
theorem d_Mo_has_2 : decode b_Mo_has 2 = .ok (.iconst 0, 1) := by decide +kernel
theorem d_Mo_has_3 : decode b_Mo_has 3 = .ok (.invokevirtual 140, 3) := by decide +kernel
theorem d_Mo_has_6 : decode b_Mo_has 6 = .ok (.ireturn, 1) := by decide +kernel
abbrev b_Mo_from : ByteArray := prog_10_method_28_code
def y_Mo_from : MethodName := ⟨R_Mo, "from", "(I)Z"⟩
theorem k_Mo_from : kV y_Mo_from b_Mo_from 2 (some .boolean) 1 := ⟨gmem (List.mem_append_right _ (List.mem_of_getElem? (i := 953) (by decide +kernel))) (by decide +kernel), gmem (List.mem_append_right _ (List.mem_of_getElem? (i := 954) (by decide +kernel))) (by decide +kernel), in_Mo, gmem (List.mem_append_right _ (List.mem_of_getElem? (i := 955) (by decide +kernel))) (by decide +kernel), by decide, by decide, by decide +kernel⟩
theorem d_Mo_from_0 : decode b_Mo_from 0 = .ok (.aload_n 0, 1) := by decide +kernel
theorem d_Mo_from_1 : decode b_Mo_from 1 = .ok (.iload_n 1, 1) := by decide +kernel
theorem d_Mo_from_2 : decode b_Mo_from 2 = .ok (.iconst 1, 1) := by decide +kernel
theorem d_Mo_from_3 : decode b_Mo_from 3 = .ok (.invokevirtual 140, 3) := by decide +kernel
theorem d_Mo_from_6 : decode b_Mo_from 6 = .ok (.ireturn, 1) := by decide +kernel
abbrev b_Mo_into : ByteArray := prog_10_method_29_code
def y_Mo_into : MethodName := ⟨R_Mo, "into", "(I)Z"⟩
theorem k_Mo_into : kV y_Mo_into b_Mo_into 2 (some .boolean) 1 := ⟨gmem (List.mem_append_right _ (List.mem_of_getElem? (i := 957) (by decide +kernel))) (by decide +kernel), gmem (List.mem_append_right _ (List.mem_of_getElem? (i := 958) (by decide +kernel))) (by decide +kernel), in_Mo, gmem (List.mem_append_right _ (List.mem_of_getElem? (i := 959) (by decide +kernel))) (by decide +kernel), by decide, by decide, by decide +kernel⟩
theorem d_Mo_into_0 : decode b_Mo_into 0 = .ok (.aload_n 0, 1) := by decide +kernel
theorem d_Mo_into_1 : decode b_Mo_into 1 = .ok (.iload_n 1, 1) := by decide +kernel
theorem d_Mo_into_2 : decode b_Mo_into 2 = .ok (.iconst 2, 1) := by decide +kernel
theorem d_Mo_into_3 : decode b_Mo_into 3 = .ok (.invokevirtual 140, 3) := by decide +kernel
theorem d_Mo_into_6 : decode b_Mo_into 6 = .ok (.ireturn, 1) := by decide +kernel
abbrev b_Mo_least : ByteArray := prog_10_method_30_code
def y_Mo_least : MethodName := ⟨R_Mo, "least", "(I)I"⟩
theorem k_Mo_least : kV y_Mo_least b_Mo_least 6 (some .int) 1 := ⟨gmem (List.mem_append_right _ (List.mem_of_getElem? (i := 961) (by decide +kernel))) (by decide +kernel), gmem (List.mem_append_right _ (List.mem_of_getElem? (i := 962) (by decide +kernel))) (by decide +kernel), in_Mo, gmem (List.mem_append_right _ (List.mem_of_getElem? (i := 963) (by decide +kernel))) (by decide +kernel), by decide, by decide, by decide +kernel⟩
theorem d_Mo_least_0 : decode b_Mo_least 0 = .ok (.aload_n 0, 1) := by decide +kernel
theorem d_Mo_least_1 : decode b_Mo_least 1 = .ok (.iload_n 1, 1) := by decide +kernel
theorem d_Mo_least_2 : decode b_Mo_least 2 = .ok (.iload_n 1, 1) := by decide +kernel
theorem d_Mo_least_3 : decode b_Mo_least 3 = .ok (.invokevirtual 125, 3) := by decide +kernel
theorem d_Mo_least_6 : decode b_Mo_least 6 = .ok (.ifCond .ne 5, 3) := by decide +kernel
theorem d_Mo_least_9 : decode b_Mo_least 9 = .ok (.iconst 0, 1) := by decide +kernel
theorem d_Mo_least_10 : decode b_Mo_least 10 = .ok (.ireturn, 1) := by decide +kernel
theorem d_Mo_least_11 : decode b_Mo_least 11 = .ok (.iconst 0, 1) := by decide +kernel
theorem d_Mo_least_12 : decode b_Mo_least 12 = .ok (.istore_n 2, 1) := by decide +kernel
theorem d_Mo_least_13 : decode b_Mo_least 13 = .ok (.iload_n 2, 1) := by decide +kernel
theorem d_Mo_least_14 : decode b_Mo_least 14 = .ok (.aload_n 0, 1) := by decide +kernel
theorem d_Mo_least_15 : decode b_Mo_least 15 = .ok (.getfield 72, 3) := by decide +kernel
theorem d_Mo_least_18 : decode b_Mo_least 18 = .ok (.if_icmp .ge 20, 3) := by decide +kernel
theorem d_Mo_least_21 : decode b_Mo_least 21 = .ok (.aload_n 0, 1) := by decide +kernel
theorem d_Mo_least_22 : decode b_Mo_least 22 = .ok (.getfield 41, 3) := by decide +kernel
theorem d_Mo_least_25 : decode b_Mo_least 25 = .ok (.iload_n 2, 1) := by decide +kernel
theorem d_Mo_least_26 : decode b_Mo_least 26 = .ok (.aload_n 0, 1) := by decide +kernel
theorem d_Mo_least_27 : decode b_Mo_least 27 = .ok (.iload_n 2, 1) := by decide +kernel
theorem d_Mo_least_28 : decode b_Mo_least 28 = .ok (.invokevirtual 100, 3) := by decide +kernel
theorem d_Mo_least_31 : decode b_Mo_least 31 = .ok (.iastore, 1) := by decide +kernel
theorem d_Mo_least_32 : decode b_Mo_least 32 = .ok (.iinc 2 1, 3) := by decide +kernel
theorem d_Mo_least_35 : decode b_Mo_least 35 = .ok (.goto (-22), 3) := by decide +kernel
theorem d_Mo_least_38 : decode b_Mo_least 38 = .ok (.iconst 1, 1) := by decide +kernel
theorem d_Mo_least_39 : decode b_Mo_least 39 = .ok (.istore_n 2, 1) := by decide +kernel
theorem d_Mo_least_40 : decode b_Mo_least 40 = .ok (.iload_n 2, 1) := by decide +kernel
theorem d_Mo_least_41 : decode b_Mo_least 41 = .ok (.ifCond .eq 177, 3) := by decide +kernel
theorem d_Mo_least_44 : decode b_Mo_least 44 = .ok (.iconst 0, 1) := by decide +kernel
theorem d_Mo_least_45 : decode b_Mo_least 45 = .ok (.istore_n 2, 1) := by decide +kernel
theorem d_Mo_least_46 : decode b_Mo_least 46 = .ok (.iconst 0, 1) := by decide +kernel
theorem d_Mo_least_47 : decode b_Mo_least 47 = .ok (.istore_n 3, 1) := by decide +kernel
theorem d_Mo_least_48 : decode b_Mo_least 48 = .ok (.iload_n 3, 1) := by decide +kernel
theorem d_Mo_least_49 : decode b_Mo_least 49 = .ok (.aload_n 0, 1) := by decide +kernel
theorem d_Mo_least_50 : decode b_Mo_least 50 = .ok (.getfield 72, 3) := by decide +kernel
theorem d_Mo_least_53 : decode b_Mo_least 53 = .ok (.if_icmp .ge 162, 3) := by decide +kernel
theorem d_Mo_least_56 : decode b_Mo_least 56 = .ok (.lconst 1, 1) := by decide +kernel
theorem d_Mo_least_57 : decode b_Mo_least 57 = .ok (.aload_n 0, 1) := by decide +kernel
theorem d_Mo_least_58 : decode b_Mo_least 58 = .ok (.getfield 16, 3) := by decide +kernel
theorem d_Mo_least_61 : decode b_Mo_least 61 = .ok (.iload_n 3, 1) := by decide +kernel
theorem d_Mo_least_62 : decode b_Mo_least 62 = .ok (.iaload, 1) := by decide +kernel
theorem d_Mo_least_63 : decode b_Mo_least 63 = .ok (.ifCond .ge 7, 3) := by decide +kernel
theorem d_Mo_least_66 : decode b_Mo_least 66 = .ok (.iconst 0, 1) := by decide +kernel
theorem d_Mo_least_67 : decode b_Mo_least 67 = .ok (.goto 14, 3) := by decide +kernel
theorem d_Mo_least_70 : decode b_Mo_least 70 = .ok (.aload_n 0, 1) := by decide +kernel
theorem d_Mo_least_71 : decode b_Mo_least 71 = .ok (.getfield 41, 3) := by decide +kernel
theorem d_Mo_least_74 : decode b_Mo_least 74 = .ok (.aload_n 0, 1) := by decide +kernel
theorem d_Mo_least_75 : decode b_Mo_least 75 = .ok (.getfield 16, 3) := by decide +kernel
theorem d_Mo_least_78 : decode b_Mo_least 78 = .ok (.iload_n 3, 1) := by decide +kernel
theorem d_Mo_least_79 : decode b_Mo_least 79 = .ok (.iaload, 1) := by decide +kernel
theorem d_Mo_least_80 : decode b_Mo_least 80 = .ok (.iaload, 1) := by decide +kernel
theorem d_Mo_least_81 : decode b_Mo_least 81 = .ok (.i2l, 1) := by decide +kernel
theorem d_Mo_least_82 : decode b_Mo_least 82 = .ok (.ladd, 1) := by decide +kernel
theorem d_Mo_least_83 : decode b_Mo_least 83 = .ok (.aload_n 0, 1) := by decide +kernel
theorem d_Mo_least_84 : decode b_Mo_least 84 = .ok (.getfield 19, 3) := by decide +kernel
theorem d_Mo_least_87 : decode b_Mo_least 87 = .ok (.iload_n 3, 1) := by decide +kernel
theorem d_Mo_least_88 : decode b_Mo_least 88 = .ok (.iaload, 1) := by decide +kernel
theorem d_Mo_least_89 : decode b_Mo_least 89 = .ok (.ifCond .ge 7, 3) := by decide +kernel
theorem d_Mo_least_92 : decode b_Mo_least 92 = .ok (.iconst 0, 1) := by decide +kernel
theorem d_Mo_least_93 : decode b_Mo_least 93 = .ok (.goto 14, 3) := by decide +kernel
theorem d_Mo_least_96 : decode b_Mo_least 96 = .ok (.aload_n 0, 1) := by decide +kernel
theorem d_Mo_least_97 : decode b_Mo_least 97 = .ok (.getfield 41, 3) := by decide +kernel
theorem d_Mo_least_100 : decode b_Mo_least 100 = .ok (.aload_n 0, 1) := by decide +kernel
theorem d_Mo_least_101 : decode b_Mo_least 101 = .ok (.getfield 19, 3) := by decide +kernel
theorem d_Mo_least_104 : decode b_Mo_least 104 = .ok (.iload_n 3, 1) := by decide +kernel
theorem d_Mo_least_105 : decode b_Mo_least 105 = .ok (.iaload, 1) := by decide +kernel
theorem d_Mo_least_106 : decode b_Mo_least 106 = .ok (.iaload, 1) := by decide +kernel
theorem d_Mo_least_107 : decode b_Mo_least 107 = .ok (.i2l, 1) := by decide +kernel
theorem d_Mo_least_108 : decode b_Mo_least 108 = .ok (.ladd, 1) := by decide +kernel
theorem d_Mo_least_109 : decode b_Mo_least 109 = .ok (.invokestatic 89, 3) := by decide +kernel
theorem d_Mo_least_112 : decode b_Mo_least 112 = .ok (.istore 4, 2) := by decide +kernel
theorem d_Mo_least_114 : decode b_Mo_least 114 = .ok (.iconst 0, 1) := by decide +kernel
theorem d_Mo_least_115 : decode b_Mo_least 115 = .ok (.istore 5, 2) := by decide +kernel
theorem d_Mo_least_117 : decode b_Mo_least 117 = .ok (.iload 5, 2) := by decide +kernel
theorem d_Mo_least_119 : decode b_Mo_least 119 = .ok (.aload_n 0, 1) := by decide +kernel
theorem d_Mo_least_120 : decode b_Mo_least 120 = .ok (.getfield 93, 3) := by decide +kernel
theorem d_Mo_least_123 : decode b_Mo_least 123 = .ok (.if_icmp .ge 65, 3) := by decide +kernel
theorem d_Mo_least_126 : decode b_Mo_least 126 = .ok (.aload_n 0, 1) := by decide +kernel
theorem d_Mo_least_127 : decode b_Mo_least 127 = .ok (.getfield 31, 3) := by decide +kernel
theorem d_Mo_least_130 : decode b_Mo_least 130 = .ok (.bipush 48, 2) := by decide +kernel
theorem d_Mo_least_132 : decode b_Mo_least 132 = .ok (.iload_n 3, 1) := by decide +kernel
theorem d_Mo_least_133 : decode b_Mo_least 133 = .ok (.imul, 1) := by decide +kernel
theorem d_Mo_least_134 : decode b_Mo_least 134 = .ok (.aload_n 0, 1) := by decide +kernel
theorem d_Mo_least_135 : decode b_Mo_least 135 = .ok (.getfield 22, 3) := by decide +kernel
theorem d_Mo_least_138 : decode b_Mo_least 138 = .ok (.iload 5, 2) := by decide +kernel
theorem d_Mo_least_140 : decode b_Mo_least 140 = .ok (.iaload, 1) := by decide +kernel
theorem d_Mo_least_141 : decode b_Mo_least 141 = .ok (.iadd, 1) := by decide +kernel
theorem d_Mo_least_142 : decode b_Mo_least 142 = .ok (.baload, 1) := by decide +kernel
theorem d_Mo_least_143 : decode b_Mo_least 143 = .ok (.ifCond .eq 35, 3) := by decide +kernel
theorem d_Mo_least_146 : decode b_Mo_least 146 = .ok (.aload_n 0, 1) := by decide +kernel
theorem d_Mo_least_147 : decode b_Mo_least 147 = .ok (.getfield 41, 3) := by decide +kernel
theorem d_Mo_least_150 : decode b_Mo_least 150 = .ok (.aload_n 0, 1) := by decide +kernel
theorem d_Mo_least_151 : decode b_Mo_least 151 = .ok (.getfield 25, 3) := by decide +kernel
theorem d_Mo_least_154 : decode b_Mo_least 154 = .ok (.iload 5, 2) := by decide +kernel
theorem d_Mo_least_156 : decode b_Mo_least 156 = .ok (.iaload, 1) := by decide +kernel
theorem d_Mo_least_157 : decode b_Mo_least 157 = .ok (.iaload, 1) := by decide +kernel
theorem d_Mo_least_158 : decode b_Mo_least 158 = .ok (.iload 4, 2) := by decide +kernel
theorem d_Mo_least_160 : decode b_Mo_least 160 = .ok (.if_icmp .ge 18, 3) := by decide +kernel
theorem d_Mo_least_163 : decode b_Mo_least 163 = .ok (.aload_n 0, 1) := by decide +kernel
theorem d_Mo_least_164 : decode b_Mo_least 164 = .ok (.getfield 41, 3) := by decide +kernel
theorem d_Mo_least_167 : decode b_Mo_least 167 = .ok (.aload_n 0, 1) := by decide +kernel
theorem d_Mo_least_168 : decode b_Mo_least 168 = .ok (.getfield 25, 3) := by decide +kernel
theorem d_Mo_least_171 : decode b_Mo_least 171 = .ok (.iload 5, 2) := by decide +kernel
theorem d_Mo_least_173 : decode b_Mo_least 173 = .ok (.iaload, 1) := by decide +kernel
theorem d_Mo_least_174 : decode b_Mo_least 174 = .ok (.iaload, 1) := by decide +kernel
theorem d_Mo_least_175 : decode b_Mo_least 175 = .ok (.goto 5, 3) := by decide +kernel
theorem d_Mo_least_178 : decode b_Mo_least 178 = .ok (.iload 4, 2) := by decide +kernel
theorem d_Mo_least_180 : decode b_Mo_least 180 = .ok (.istore 4, 2) := by decide +kernel
theorem d_Mo_least_182 : decode b_Mo_least 182 = .ok (.iinc 5 1, 3) := by decide +kernel
theorem d_Mo_least_185 : decode b_Mo_least 185 = .ok (.goto (-68), 3) := by decide +kernel
theorem d_Mo_least_188 : decode b_Mo_least 188 = .ok (.iload 4, 2) := by decide +kernel
theorem d_Mo_least_190 : decode b_Mo_least 190 = .ok (.aload_n 0, 1) := by decide +kernel
theorem d_Mo_least_191 : decode b_Mo_least 191 = .ok (.getfield 41, 3) := by decide +kernel
theorem d_Mo_least_194 : decode b_Mo_least 194 = .ok (.iload_n 3, 1) := by decide +kernel
theorem d_Mo_least_195 : decode b_Mo_least 195 = .ok (.iaload, 1) := by decide +kernel
theorem d_Mo_least_196 : decode b_Mo_least 196 = .ok (.if_icmp .ge 13, 3) := by decide +kernel
theorem d_Mo_least_199 : decode b_Mo_least 199 = .ok (.aload_n 0, 1) := by decide +kernel
theorem d_Mo_least_200 : decode b_Mo_least 200 = .ok (.getfield 41, 3) := by decide +kernel
theorem d_Mo_least_203 : decode b_Mo_least 203 = .ok (.iload_n 3, 1) := by decide +kernel
theorem d_Mo_least_204 : decode b_Mo_least 204 = .ok (.iload 4, 2) := by decide +kernel
theorem d_Mo_least_206 : decode b_Mo_least 206 = .ok (.iastore, 1) := by decide +kernel
theorem d_Mo_least_207 : decode b_Mo_least 207 = .ok (.iconst 1, 1) := by decide +kernel
theorem d_Mo_least_208 : decode b_Mo_least 208 = .ok (.istore_n 2, 1) := by decide +kernel
theorem d_Mo_least_209 : decode b_Mo_least 209 = .ok (.iinc 3 1, 3) := by decide +kernel
theorem d_Mo_least_212 : decode b_Mo_least 212 = .ok (.goto (-164), 3) := by decide +kernel
theorem d_Mo_least_215 : decode b_Mo_least 215 = .ok (.goto (-175), 3) := by decide +kernel
theorem d_Mo_least_218 : decode b_Mo_least 218 = .ok (.aload_n 0, 1) := by decide +kernel
theorem d_Mo_least_219 : decode b_Mo_least 219 = .ok (.getfield 41, 3) := by decide +kernel
theorem d_Mo_least_222 : decode b_Mo_least 222 = .ok (.iload_n 1, 1) := by decide +kernel
theorem d_Mo_least_223 : decode b_Mo_least 223 = .ok (.iaload, 1) := by decide +kernel
theorem d_Mo_least_224 : decode b_Mo_least 224 = .ok (.ireturn, 1) := by decide +kernel
abbrev b_Mo_lightest : ByteArray := prog_10_method_31_code
def y_Mo_lightest : MethodName := ⟨R_Mo, "lightest", "(I)I"⟩
theorem k_Mo_lightest : kV y_Mo_lightest b_Mo_lightest 8 (some .int) 1 := ⟨gmem (List.mem_append_right _ (List.mem_of_getElem? (i := 965) (by decide +kernel))) (by decide +kernel), gmem (List.mem_append_right _ (List.mem_of_getElem? (i := 966) (by decide +kernel))) (by decide +kernel), in_Mo, gmem (List.mem_append_right _ (List.mem_of_getElem? (i := 967) (by decide +kernel))) (by decide +kernel), by decide, by decide, by decide +kernel⟩
theorem d_Mo_lightest_0 : decode b_Mo_lightest 0 = .ok (.aload_n 0, 1) := by decide +kernel
theorem d_Mo_lightest_1 : decode b_Mo_lightest 1 = .ok (.iload_n 1, 1) := by decide +kernel
theorem d_Mo_lightest_2 : decode b_Mo_lightest 2 = .ok (.invokestatic 106, 3) := by decide +kernel
theorem d_Mo_lightest_5 : decode b_Mo_lightest 5 = .ok (.ifCond .eq 7, 3) := by decide +kernel
theorem d_Mo_lightest_8 : decode b_Mo_lightest 8 = .ok (.iconst 0, 1) := by decide +kernel
theorem d_Mo_lightest_9 : decode b_Mo_lightest 9 = .ok (.goto 4, 3) := by decide +kernel
theorem d_Mo_lightest_12 : decode b_Mo_lightest 12 = .ok (.iconst 1, 1) := by decide +kernel
theorem d_Mo_lightest_13 : decode b_Mo_lightest 13 = .ok (.putfield 68, 3) := by decide +kernel
theorem d_Mo_lightest_16 : decode b_Mo_lightest 16 = .ok (.aload_n 0, 1) := by decide +kernel
theorem d_Mo_lightest_17 : decode b_Mo_lightest 17 = .ok (.getfield 68, 3) := by decide +kernel
theorem d_Mo_lightest_20 : decode b_Mo_lightest 20 = .ok (.ifCond .le 5, 3) := by decide +kernel
theorem d_Mo_lightest_23 : decode b_Mo_lightest 23 = .ok (.iconst 0, 1) := by decide +kernel
theorem d_Mo_lightest_24 : decode b_Mo_lightest 24 = .ok (.ireturn, 1) := by decide +kernel
theorem d_Mo_lightest_25 : decode b_Mo_lightest 25 = .ok (.iconst 0, 1) := by decide +kernel
theorem d_Mo_lightest_26 : decode b_Mo_lightest 26 = .ok (.istore_n 2, 1) := by decide +kernel
theorem d_Mo_lightest_27 : decode b_Mo_lightest 27 = .ok (.iload_n 2, 1) := by decide +kernel
theorem d_Mo_lightest_28 : decode b_Mo_lightest 28 = .ok (.bipush 6, 2) := by decide +kernel
theorem d_Mo_lightest_30 : decode b_Mo_lightest 30 = .ok (.if_icmp .ge 16, 3) := by decide +kernel
theorem d_Mo_lightest_33 : decode b_Mo_lightest 33 = .ok (.aload_n 0, 1) := by decide +kernel
theorem d_Mo_lightest_34 : decode b_Mo_lightest 34 = .ok (.getfield 44, 3) := by decide +kernel
theorem d_Mo_lightest_37 : decode b_Mo_lightest 37 = .ok (.iload_n 2, 1) := by decide +kernel
theorem d_Mo_lightest_38 : decode b_Mo_lightest 38 = .ok (.iconst (-1), 1) := by decide +kernel
theorem d_Mo_lightest_39 : decode b_Mo_lightest 39 = .ok (.iastore, 1) := by decide +kernel
theorem d_Mo_lightest_40 : decode b_Mo_lightest 40 = .ok (.iinc 2 1, 3) := by decide +kernel
theorem d_Mo_lightest_43 : decode b_Mo_lightest 43 = .ok (.goto (-16), 3) := by decide +kernel
theorem d_Mo_lightest_46 : decode b_Mo_lightest 46 = .ok (.iconst 1, 1) := by decide +kernel
theorem d_Mo_lightest_47 : decode b_Mo_lightest 47 = .ok (.istore_n 2, 1) := by decide +kernel
theorem d_Mo_lightest_48 : decode b_Mo_lightest 48 = .ok (.iload_n 2, 1) := by decide +kernel
theorem d_Mo_lightest_49 : decode b_Mo_lightest 49 = .ok (.ifCond .eq 170, 3) := by decide +kernel
theorem d_Mo_lightest_52 : decode b_Mo_lightest 52 = .ok (.iconst 0, 1) := by decide +kernel
theorem d_Mo_lightest_53 : decode b_Mo_lightest 53 = .ok (.istore_n 2, 1) := by decide +kernel
theorem d_Mo_lightest_54 : decode b_Mo_lightest 54 = .ok (.iconst 0, 1) := by decide +kernel
theorem d_Mo_lightest_55 : decode b_Mo_lightest 55 = .ok (.istore_n 3, 1) := by decide +kernel
theorem d_Mo_lightest_56 : decode b_Mo_lightest 56 = .ok (.iload_n 3, 1) := by decide +kernel
theorem d_Mo_lightest_57 : decode b_Mo_lightest 57 = .ok (.aload_n 0, 1) := by decide +kernel
theorem d_Mo_lightest_58 : decode b_Mo_lightest 58 = .ok (.getfield 109, 3) := by decide +kernel
theorem d_Mo_lightest_61 : decode b_Mo_lightest 61 = .ok (.if_icmp .ge 155, 3) := by decide +kernel
theorem d_Mo_lightest_64 : decode b_Mo_lightest 64 = .ok (.aload_n 0, 1) := by decide +kernel
theorem d_Mo_lightest_65 : decode b_Mo_lightest 65 = .ok (.getfield 28, 3) := by decide +kernel
theorem d_Mo_lightest_68 : decode b_Mo_lightest 68 = .ok (.iconst 4, 1) := by decide +kernel
theorem d_Mo_lightest_69 : decode b_Mo_lightest 69 = .ok (.iload_n 3, 1) := by decide +kernel
theorem d_Mo_lightest_70 : decode b_Mo_lightest 70 = .ok (.imul, 1) := by decide +kernel
theorem d_Mo_lightest_71 : decode b_Mo_lightest 71 = .ok (.iconst 1, 1) := by decide +kernel
theorem d_Mo_lightest_72 : decode b_Mo_lightest 72 = .ok (.iadd, 1) := by decide +kernel
theorem d_Mo_lightest_73 : decode b_Mo_lightest 73 = .ok (.iaload, 1) := by decide +kernel
theorem d_Mo_lightest_74 : decode b_Mo_lightest 74 = .ok (.ifCond .ge 7, 3) := by decide +kernel
theorem d_Mo_lightest_77 : decode b_Mo_lightest 77 = .ok (.iconst 0, 1) := by decide +kernel
theorem d_Mo_lightest_78 : decode b_Mo_lightest 78 = .ok (.goto 18, 3) := by decide +kernel
theorem d_Mo_lightest_81 : decode b_Mo_lightest 81 = .ok (.aload_n 0, 1) := by decide +kernel
theorem d_Mo_lightest_82 : decode b_Mo_lightest 82 = .ok (.getfield 44, 3) := by decide +kernel
theorem d_Mo_lightest_85 : decode b_Mo_lightest 85 = .ok (.aload_n 0, 1) := by decide +kernel
theorem d_Mo_lightest_86 : decode b_Mo_lightest 86 = .ok (.getfield 28, 3) := by decide +kernel
theorem d_Mo_lightest_89 : decode b_Mo_lightest 89 = .ok (.iconst 4, 1) := by decide +kernel
theorem d_Mo_lightest_90 : decode b_Mo_lightest 90 = .ok (.iload_n 3, 1) := by decide +kernel
theorem d_Mo_lightest_91 : decode b_Mo_lightest 91 = .ok (.imul, 1) := by decide +kernel
theorem d_Mo_lightest_92 : decode b_Mo_lightest 92 = .ok (.iconst 1, 1) := by decide +kernel
theorem d_Mo_lightest_93 : decode b_Mo_lightest 93 = .ok (.iadd, 1) := by decide +kernel
theorem d_Mo_lightest_94 : decode b_Mo_lightest 94 = .ok (.iaload, 1) := by decide +kernel
theorem d_Mo_lightest_95 : decode b_Mo_lightest 95 = .ok (.iaload, 1) := by decide +kernel
theorem d_Mo_lightest_96 : decode b_Mo_lightest 96 = .ok (.istore 4, 2) := by decide +kernel
theorem d_Mo_lightest_98 : decode b_Mo_lightest 98 = .ok (.aload_n 0, 1) := by decide +kernel
theorem d_Mo_lightest_99 : decode b_Mo_lightest 99 = .ok (.getfield 28, 3) := by decide +kernel
theorem d_Mo_lightest_102 : decode b_Mo_lightest 102 = .ok (.iconst 4, 1) := by decide +kernel
theorem d_Mo_lightest_103 : decode b_Mo_lightest 103 = .ok (.iload_n 3, 1) := by decide +kernel
theorem d_Mo_lightest_104 : decode b_Mo_lightest 104 = .ok (.imul, 1) := by decide +kernel
theorem d_Mo_lightest_105 : decode b_Mo_lightest 105 = .ok (.iconst 2, 1) := by decide +kernel
theorem d_Mo_lightest_106 : decode b_Mo_lightest 106 = .ok (.iadd, 1) := by decide +kernel
theorem d_Mo_lightest_107 : decode b_Mo_lightest 107 = .ok (.iaload, 1) := by decide +kernel
theorem d_Mo_lightest_108 : decode b_Mo_lightest 108 = .ok (.ifCond .ge 7, 3) := by decide +kernel
theorem d_Mo_lightest_111 : decode b_Mo_lightest 111 = .ok (.iconst 0, 1) := by decide +kernel
theorem d_Mo_lightest_112 : decode b_Mo_lightest 112 = .ok (.goto 18, 3) := by decide +kernel
theorem d_Mo_lightest_115 : decode b_Mo_lightest 115 = .ok (.aload_n 0, 1) := by decide +kernel
theorem d_Mo_lightest_116 : decode b_Mo_lightest 116 = .ok (.getfield 44, 3) := by decide +kernel
theorem d_Mo_lightest_119 : decode b_Mo_lightest 119 = .ok (.aload_n 0, 1) := by decide +kernel
theorem d_Mo_lightest_120 : decode b_Mo_lightest 120 = .ok (.getfield 28, 3) := by decide +kernel
theorem d_Mo_lightest_123 : decode b_Mo_lightest 123 = .ok (.iconst 4, 1) := by decide +kernel
theorem d_Mo_lightest_124 : decode b_Mo_lightest 124 = .ok (.iload_n 3, 1) := by decide +kernel
theorem d_Mo_lightest_125 : decode b_Mo_lightest 125 = .ok (.imul, 1) := by decide +kernel
theorem d_Mo_lightest_126 : decode b_Mo_lightest 126 = .ok (.iconst 2, 1) := by decide +kernel
theorem d_Mo_lightest_127 : decode b_Mo_lightest 127 = .ok (.iadd, 1) := by decide +kernel
theorem d_Mo_lightest_128 : decode b_Mo_lightest 128 = .ok (.iaload, 1) := by decide +kernel
theorem d_Mo_lightest_129 : decode b_Mo_lightest 129 = .ok (.iaload, 1) := by decide +kernel
theorem d_Mo_lightest_130 : decode b_Mo_lightest 130 = .ok (.istore 5, 2) := by decide +kernel
theorem d_Mo_lightest_132 : decode b_Mo_lightest 132 = .ok (.aload_n 0, 1) := by decide +kernel
theorem d_Mo_lightest_133 : decode b_Mo_lightest 133 = .ok (.getfield 28, 3) := by decide +kernel
theorem d_Mo_lightest_136 : decode b_Mo_lightest 136 = .ok (.iconst 4, 1) := by decide +kernel
theorem d_Mo_lightest_137 : decode b_Mo_lightest 137 = .ok (.iload_n 3, 1) := by decide +kernel
theorem d_Mo_lightest_138 : decode b_Mo_lightest 138 = .ok (.imul, 1) := by decide +kernel
theorem d_Mo_lightest_139 : decode b_Mo_lightest 139 = .ok (.iconst 3, 1) := by decide +kernel
theorem d_Mo_lightest_140 : decode b_Mo_lightest 140 = .ok (.iadd, 1) := by decide +kernel
theorem d_Mo_lightest_141 : decode b_Mo_lightest 141 = .ok (.iaload, 1) := by decide +kernel
theorem d_Mo_lightest_142 : decode b_Mo_lightest 142 = .ok (.istore 6, 2) := by decide +kernel
theorem d_Mo_lightest_144 : decode b_Mo_lightest 144 = .ok (.iload 4, 2) := by decide +kernel
theorem d_Mo_lightest_146 : decode b_Mo_lightest 146 = .ok (.ifCond .lt 8, 3) := by decide +kernel
theorem d_Mo_lightest_149 : decode b_Mo_lightest 149 = .ok (.iload 5, 2) := by decide +kernel
theorem d_Mo_lightest_151 : decode b_Mo_lightest 151 = .ok (.ifCond .ge 7, 3) := by decide +kernel
theorem d_Mo_lightest_154 : decode b_Mo_lightest 154 = .ok (.iconst (-1), 1) := by decide +kernel
theorem d_Mo_lightest_155 : decode b_Mo_lightest 155 = .ok (.goto 15, 3) := by decide +kernel
