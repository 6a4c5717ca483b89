abbrev b_Mo_thrown : ByteArray := prog_10_method_2_code
def y_Mo_thrown : MethodName := ⟨R_Mo, "thrown", "()I"⟩
theorem k_Mo_thrown : kV y_Mo_thrown b_Mo_thrown 1 (some .int) 0 := ⟨gmem (List.mem_append_right _ (List.mem_of_getElem? (i := 849) (by decide +kernel))) (by decide +kernel), gmem (List.mem_append_right _ (List.mem_of_getElem? (i := 850) (by decide +kernel))) (by decide +kernel), in_Mo, gmem (List.mem_append_right _ (List.mem_of_getElem? (i := 851) (by decide +kernel))) (by decide +kernel), by decide, by decide, by decide +kernel⟩
theorem d_Mo_thrown_0 : decode b_Mo_thrown 0 = .ok (.aload_n 0, 1) := by decide +kernel
theorem d_Mo_thrown_1 : decode b_Mo_thrown 1 = .ok (.getfield 68, 3) := by decide +kernel
theorem d_Mo_thrown_4 : decode b_Mo_thrown 4 = .ok (.ireturn, 1) := by decide +kernel
abbrev b_Mo_isTerm : ByteArray := prog_10_method_3_code
def y_Mo_isTerm : MethodName := ⟨R_Mo, "isTerm", "(I)Z"⟩
theorem k_Mo_isTerm : kV y_Mo_isTerm b_Mo_isTerm 2 (some .boolean) 1 := ⟨gmem (List.mem_append_right _ (List.mem_of_getElem? (i := 858) (by decide +kernel))) (by decide +kernel), gmem (List.mem_append_left _ (List.mem_of_getElem? (i := 25) (by decide +kernel))) (by decide +kernel), in_Mo, gmem (List.mem_append_right _ (List.mem_of_getElem? (i := 859) (by decide +kernel))) (by decide +kernel), by decide, by decide, by decide +kernel⟩
theorem d_Mo_isTerm_0 : decode b_Mo_isTerm 0 = .ok (.iload_n 1, 1) := by decide +kernel
theorem d_Mo_isTerm_1 : decode b_Mo_isTerm 1 = .ok (.ifCond .lt 15, 3) := by decide +kernel
theorem d_Mo_isTerm_4 : decode b_Mo_isTerm 4 = .ok (.iload_n 1, 1) := by decide +kernel
theorem d_Mo_isTerm_5 : decode b_Mo_isTerm 5 = .ok (.aload_n 0, 1) := by decide +kernel
theorem d_Mo_isTerm_6 : decode b_Mo_isTerm 6 = .ok (.getfield 72, 3) := by decide +kernel
theorem d_Mo_isTerm_9 : decode b_Mo_isTerm 9 = .ok (.if_icmp .ge 7, 3) := by decide +kernel
theorem d_Mo_isTerm_12 : decode b_Mo_isTerm 12 = .ok (.iconst 1, 1) := by decide +kernel
theorem d_Mo_isTerm_13 : decode b_Mo_isTerm 13 = .ok (.goto 4, 3) := by decide +kernel
theorem d_Mo_isTerm_16 : decode b_Mo_isTerm 16 = .ok (.iconst 0, 1) := by decide +kernel
theorem d_Mo_isTerm_17 : decode b_Mo_isTerm 17 = .ok (.ireturn, 1) := by decide +kernel
abbrev b_Mo_isState : ByteArray := prog_10_method_4_code
def y_Mo_isState : MethodName := ⟨R_Mo, "isState", "(I)Z"⟩
theorem k_Mo_isState : kS y_Mo_isState b_Mo_isState 1 (some .boolean) 1 := ⟨gmem (List.mem_append_right _ (List.mem_of_getElem? (i := 902) (by decide +kernel))) (by decide +kernel), in_Mo, gmem (List.mem_append_right _ (List.mem_of_getElem? (i := 903) (by decide +kernel))) (by decide +kernel), by decide, by decide, by decide +kernel⟩
theorem d_Mo_isState_0 : decode b_Mo_isState 0 = .ok (.iload_n 0, 1) := by decide +kernel
theorem d_Mo_isState_1 : decode b_Mo_isState 1 = .ok (.ifCond .lt 13, 3) := by decide +kernel
theorem d_Mo_isState_4 : decode b_Mo_isState 4 = .ok (.iload_n 0, 1) := by decide +kernel
theorem d_Mo_isState_5 : decode b_Mo_isState 5 = .ok (.bipush 6, 2) := by decide +kernel
theorem d_Mo_isState_7 : decode b_Mo_isState 7 = .ok (.if_icmp .ge 7, 3) := by decide +kernel
theorem d_Mo_isState_10 : decode b_Mo_isState 10 = .ok (.iconst 1, 1) := by decide +kernel
theorem d_Mo_isState_11 : decode b_Mo_isState 11 = .ok (.goto 4, 3) := by decide +kernel
theorem d_Mo_isState_14 : decode b_Mo_isState 14 = .ok (.iconst 0, 1) := by decide +kernel
theorem d_Mo_isState_15 : decode b_Mo_isState 15 = .ok (.ireturn, 1) := by decide +kernel
abbrev b_Mo_known : ByteArray := prog_10_method_5_code
def y_Mo_known : MethodName := ⟨R_Mo, "known", "(III)I"⟩
theorem k_Mo_known : kV y_Mo_known b_Mo_known 6 (some .int) 3 := ⟨gmem (List.mem_append_right _ (List.mem_of_getElem? (i := 862) (by decide +kernel))) (by decide +kernel), gmem (List.mem_append_left _ (List.mem_of_getElem? (i := 26) (by decide +kernel))) (by decide +kernel), in_Mo, gmem (List.mem_append_right _ (List.mem_of_getElem? (i := 863) (by decide +kernel))) (by decide +kernel), by decide, by decide, by decide +kernel⟩
theorem d_Mo_known_0 : decode b_Mo_known 0 = .ok (.iconst (-1), 1) := by decide +kernel
theorem d_Mo_known_1 : decode b_Mo_known 1 = .ok (.istore 4, 2) := by decide +kernel
theorem d_Mo_known_3 : decode b_Mo_known 3 = .ok (.iconst 0, 1) := by decide +kernel
theorem d_Mo_known_4 : decode b_Mo_known 4 = .ok (.istore 5, 2) := by decide +kernel
theorem d_Mo_known_6 : decode b_Mo_known 6 = .ok (.iload 5, 2) := by decide +kernel
theorem d_Mo_known_8 : decode b_Mo_known 8 = .ok (.aload_n 0, 1) := by decide +kernel
theorem d_Mo_known_9 : decode b_Mo_known 9 = .ok (.getfield 72, 3) := by decide +kernel
theorem d_Mo_known_12 : decode b_Mo_known 12 = .ok (.if_icmp .ge 51, 3) := by decide +kernel
theorem d_Mo_known_15 : decode b_Mo_known 15 = .ok (.aload_n 0, 1) := by decide +kernel
theorem d_Mo_known_16 : decode b_Mo_known 16 = .ok (.getfield 13, 3) := by decide +kernel
theorem d_Mo_known_19 : decode b_Mo_known 19 = .ok (.iload 5, 2) := by decide +kernel
theorem d_Mo_known_21 : decode b_Mo_known 21 = .ok (.iaload, 1) := by decide +kernel
theorem d_Mo_known_22 : decode b_Mo_known 22 = .ok (.iload_n 1, 1) := by decide +kernel
theorem d_Mo_known_23 : decode b_Mo_known 23 = .ok (.if_icmp .ne 30, 3) := by decide +kernel
theorem d_Mo_known_26 : decode b_Mo_known 26 = .ok (.aload_n 0, 1) := by decide +kernel
theorem d_Mo_known_27 : decode b_Mo_known 27 = .ok (.getfield 16, 3) := by decide +kernel
theorem d_Mo_known_30 : decode b_Mo_known 30 = .ok (.iload 5, 2) := by decide +kernel
theorem d_Mo_known_32 : decode b_Mo_known 32 = .ok (.iaload, 1) := by decide +kernel
theorem d_Mo_known_33 : decode b_Mo_known 33 = .ok (.iload_n 2, 1) := by decide +kernel
theorem d_Mo_known_34 : decode b_Mo_known 34 = .ok (.if_icmp .ne 19, 3) := by decide +kernel
theorem d_Mo_known_37 : decode b_Mo_known 37 = .ok (.aload_n 0, 1) := by decide +kernel
theorem d_Mo_known_38 : decode b_Mo_known 38 = .ok (.getfield 19, 3) := by decide +kernel
theorem d_Mo_known_41 : decode b_Mo_known 41 = .ok (.iload 5, 2) := by decide +kernel
theorem d_Mo_known_43 : decode b_Mo_known 43 = .ok (.iaload, 1) := by decide +kernel
theorem d_Mo_known_44 : decode b_Mo_known 44 = .ok (.iload_n 3, 1) := by decide +kernel
theorem d_Mo_known_45 : decode b_Mo_known 45 = .ok (.if_icmp .ne 8, 3) := by decide +kernel
theorem d_Mo_known_48 : decode b_Mo_known 48 = .ok (.iload 5, 2) := by decide +kernel
theorem d_Mo_known_50 : decode b_Mo_known 50 = .ok (.goto 5, 3) := by decide +kernel
theorem d_Mo_known_53 : decode b_Mo_known 53 = .ok (.iload 4, 2) := by decide +kernel
theorem d_Mo_known_55 : decode b_Mo_known 55 = .ok (.istore 4, 2) := by decide +kernel
theorem d_Mo_known_57 : decode b_Mo_known 57 = .ok (.iinc 5 1, 3) := by decide +kernel
theorem d_Mo_known_60 : decode b_Mo_known 60 = .ok (.goto (-54), 3) := by decide +kernel
theorem d_Mo_known_63 : decode b_Mo_known 63 = .ok (.iload 4, 2) := by decide +kernel
theorem d_Mo_known_65 : decode b_Mo_known 65 = .ok (.ireturn, 1) := by decide +kernel
abbrev b_Mo_make : ByteArray := prog_10_method_6_code
def y_Mo_make : MethodName := ⟨R_Mo, "make", "(III)I"⟩
theorem k_Mo_make : kV y_Mo_make b_Mo_make 5 (some .int) 3 := ⟨gmem (List.mem_append_right _ (List.mem_of_getElem? (i := 866) (by decide +kernel))) (by decide +kernel), gmem (List.mem_append_left _ (List.mem_of_getElem? (i := 27) (by decide +kernel))) (by decide +kernel), in_Mo, gmem (List.mem_append_right _ (List.mem_of_getElem? (i := 867) (by decide +kernel))) (by decide +kernel), by decide, by decide, by decide +kernel⟩
theorem d_Mo_make_0 : decode b_Mo_make 0 = .ok (.aload_n 0, 1) := by decide +kernel
theorem d_Mo_make_1 : decode b_Mo_make 1 = .ok (.iload_n 1, 1) := by decide +kernel
theorem d_Mo_make_2 : decode b_Mo_make 2 = .ok (.iload_n 2, 1) := by decide +kernel
theorem d_Mo_make_3 : decode b_Mo_make 3 = .ok (.iload_n 3, 1) := by decide +kernel
theorem d_Mo_make_4 : decode b_Mo_make 4 = .ok (.invokevirtual 75, 3) := by decide +kernel
theorem d_Mo_make_7 : decode b_Mo_make 7 = .ok (.istore 4, 2) := by decide +kernel
theorem d_Mo_make_9 : decode b_Mo_make 9 = .ok (.iload 4, 2) := by decide +kernel
theorem d_Mo_make_11 : decode b_Mo_make 11 = .ok (.ifCond .lt 6, 3) := by decide +kernel
theorem d_Mo_make_14 : decode b_Mo_make 14 = .ok (.iload 4, 2) := by decide +kernel
theorem d_Mo_make_16 : decode b_Mo_make 16 = .ok (.ireturn, 1) := by decide +kernel
theorem d_Mo_make_17 : decode b_Mo_make 17 = .ok (.aload_n 0, 1) := by decide +kernel
theorem d_Mo_make_18 : decode b_Mo_make 18 = .ok (.getfield 13, 3) := by decide +kernel
theorem d_Mo_make_21 : decode b_Mo_make 21 = .ok (.aload_n 0, 1) := by decide +kernel
theorem d_Mo_make_22 : decode b_Mo_make 22 = .ok (.getfield 72, 3) := by decide +kernel
theorem d_Mo_make_25 : decode b_Mo_make 25 = .ok (.iload_n 1, 1) := by decide +kernel
theorem d_Mo_make_26 : decode b_Mo_make 26 = .ok (.iastore, 1) := by decide +kernel
theorem d_Mo_make_27 : decode b_Mo_make 27 = .ok (.aload_n 0, 1) := by decide +kernel
theorem d_Mo_make_28 : decode b_Mo_make 28 = .ok (.getfield 16, 3) := by decide +kernel
theorem d_Mo_make_31 : decode b_Mo_make 31 = .ok (.aload_n 0, 1) := by decide +kernel
theorem d_Mo_make_32 : decode b_Mo_make 32 = .ok (.getfield 72, 3) := by decide +kernel
theorem d_Mo_make_35 : decode b_Mo_make 35 = .ok (.iload_n 2, 1) := by decide +kernel
theorem d_Mo_make_36 : decode b_Mo_make 36 = .ok (.iastore, 1) := by decide +kernel
theorem d_Mo_make_37 : decode b_Mo_make 37 = .ok (.aload_n 0, 1) := by decide +kernel
theorem d_Mo_make_38 : decode b_Mo_make 38 = .ok (.getfield 19, 3) := by decide +kernel
theorem d_Mo_make_41 : decode b_Mo_make 41 = .ok (.aload_n 0, 1) := by decide +kernel
theorem d_Mo_make_42 : decode b_Mo_make 42 = .ok (.getfield 72, 3) := by decide +kernel
theorem d_Mo_make_45 : decode b_Mo_make 45 = .ok (.iload_n 3, 1) := by decide +kernel
theorem d_Mo_make_46 : decode b_Mo_make 46 = .ok (.iastore, 1) := by decide +kernel
theorem d_Mo_make_47 : decode b_Mo_make 47 = .ok (.aload_n 0, 1) := by decide +kernel
theorem d_Mo_make_48 : decode b_Mo_make 48 = .ok (.dup, 1) := by decide +kernel
theorem d_Mo_make_49 : decode b_Mo_make 49 = .ok (.getfield 72, 3) := by decide +kernel
theorem d_Mo_make_52 : decode b_Mo_make 52 = .ok (.iconst 1, 1) := by decide +kernel
theorem d_Mo_make_53 : decode b_Mo_make 53 = .ok (.iadd, 1) := by decide +kernel
theorem d_Mo_make_54 : decode b_Mo_make 54 = .ok (.putfield 72, 3) := by decide +kernel
theorem d_Mo_make_57 : decode b_Mo_make 57 = .ok (.aload_n 0, 1) := by decide +kernel
theorem d_Mo_make_58 : decode b_Mo_make 58 = .ok (.getfield 72, 3) := by decide +kernel
theorem d_Mo_make_61 : decode b_Mo_make 61 = .ok (.iconst 1, 1) := by decide +kernel
theorem d_Mo_make_62 : decode b_Mo_make 62 = .ok (.isub, 1) := by decide +kernel
theorem d_Mo_make_63 : decode b_Mo_make 63 = .ok (.ireturn, 1) := by decide +kernel
abbrev b_Mo_term : ByteArray := prog_10_method_7_code
def y_Mo_term : MethodName := ⟨R_Mo, "term", "(III)I"⟩
theorem k_Mo_term : kV y_Mo_term b_Mo_term 6 (some .int) 3 := ⟨gmem (List.mem_append_right _ (List.mem_of_getElem? (i := 853) (by decide +kernel))) (by decide +kernel), gmem (List.mem_append_right _ (List.mem_of_getElem? (i := 854) (by decide +kernel))) (by decide +kernel), in_Mo, gmem (List.mem_append_right _ (List.mem_of_getElem? (i := 855) (by decide +kernel))) (by decide +kernel), by decide, by decide, by decide +kernel⟩
theorem d_Mo_term_0 : decode b_Mo_term 0 = .ok (.aload_n 0, 1) := by decide +kernel
theorem d_Mo_term_1 : decode b_Mo_term 1 = .ok (.iload_n 1, 1) := by decide +kernel
theorem d_Mo_term_2 : decode b_Mo_term 2 = .ok (.ifCond .lt 8, 3) := by decide +kernel
theorem d_Mo_term_5 : decode b_Mo_term 5 = .ok (.iload_n 1, 1) := by decide +kernel
theorem d_Mo_term_6 : decode b_Mo_term 6 = .ok (.iconst 5, 1) := by decide +kernel
theorem d_Mo_term_7 : decode b_Mo_term 7 = .ok (.if_icmp .le 7, 3) := by decide +kernel
theorem d_Mo_term_10 : decode b_Mo_term 10 = .ok (.iconst 1, 1) := by decide +kernel
theorem d_Mo_term_11 : decode b_Mo_term 11 = .ok (.goto 4, 3) := by decide +kernel
theorem d_Mo_term_14 : decode b_Mo_term 14 = .ok (.iconst 0, 1) := by decide +kernel
theorem d_Mo_term_15 : decode b_Mo_term 15 = .ok (.putfield 68, 3) := by decide +kernel
theorem d_Mo_term_18 : decode b_Mo_term 18 = .ok (.aload_n 0, 1) := by decide +kernel
theorem d_Mo_term_19 : decode b_Mo_term 19 = .ok (.getfield 68, 3) := by decide +kernel
theorem d_Mo_term_22 : decode b_Mo_term 22 = .ok (.ifCond .le 5, 3) := by decide +kernel
theorem d_Mo_term_25 : decode b_Mo_term 25 = .ok (.iconst 0, 1) := by decide +kernel
theorem d_Mo_term_26 : decode b_Mo_term 26 = .ok (.ireturn, 1) := by decide +kernel
theorem d_Mo_term_27 : decode b_Mo_term 27 = .ok (.aload_n 0, 1) := by decide +kernel
theorem d_Mo_term_28 : decode b_Mo_term 28 = .ok (.aload_n 0, 1) := by decide +kernel
theorem d_Mo_term_29 : decode b_Mo_term 29 = .ok (.getfield 7, 3) := by decide +kernel
theorem d_Mo_term_32 : decode b_Mo_term 32 = .ok (.iload_n 1, 1) := by decide +kernel
theorem d_Mo_term_33 : decode b_Mo_term 33 = .ok (.iaload, 1) := by decide +kernel
theorem d_Mo_term_34 : decode b_Mo_term 34 = .ok (.ifCond .le 11, 3) := by decide +kernel
theorem d_Mo_term_37 : decode b_Mo_term 37 = .ok (.aload_n 0, 1) := by decide +kernel
theorem d_Mo_term_38 : decode b_Mo_term 38 = .ok (.iload_n 2, 1) := by decide +kernel
theorem d_Mo_term_39 : decode b_Mo_term 39 = .ok (.invokevirtual 79, 3) := by decide +kernel
theorem d_Mo_term_42 : decode b_Mo_term 42 = .ok (.ifCond .eq 21, 3) := by decide +kernel
theorem d_Mo_term_45 : decode b_Mo_term 45 = .ok (.aload_n 0, 1) := by decide +kernel
theorem d_Mo_term_46 : decode b_Mo_term 46 = .ok (.getfield 7, 3) := by decide +kernel
theorem d_Mo_term_49 : decode b_Mo_term 49 = .ok (.iload_n 1, 1) := by decide +kernel
theorem d_Mo_term_50 : decode b_Mo_term 50 = .ok (.iaload, 1) := by decide +kernel
theorem d_Mo_term_51 : decode b_Mo_term 51 = .ok (.iconst 1, 1) := by decide +kernel
theorem d_Mo_term_52 : decode b_Mo_term 52 = .ok (.if_icmp .le 15, 3) := by decide +kernel
theorem d_Mo_term_55 : decode b_Mo_term 55 = .ok (.aload_n 0, 1) := by decide +kernel
theorem d_Mo_term_56 : decode b_Mo_term 56 = .ok (.iload_n 3, 1) := by decide +kernel
theorem d_Mo_term_57 : decode b_Mo_term 57 = .ok (.invokevirtual 79, 3) := by decide +kernel
theorem d_Mo_term_60 : decode b_Mo_term 60 = .ok (.ifCond .ne 7, 3) := by decide +kernel
theorem d_Mo_term_63 : decode b_Mo_term 63 = .ok (.iconst 1, 1) := by decide +kernel
theorem d_Mo_term_64 : decode b_Mo_term 64 = .ok (.goto 4, 3) := by decide +kernel
theorem d_Mo_term_67 : decode b_Mo_term 67 = .ok (.iconst 0, 1) := by decide +kernel
theorem d_Mo_term_68 : decode b_Mo_term 68 = .ok (.putfield 68, 3) := by decide +kernel
theorem d_Mo_term_71 : decode b_Mo_term 71 = .ok (.aload_n 0, 1) := by decide +kernel
theorem d_Mo_term_72 : decode b_Mo_term 72 = .ok (.getfield 68, 3) := by decide +kernel
theorem d_Mo_term_75 : decode b_Mo_term 75 = .ok (.ifCond .le 5, 3) := by decide +kernel
theorem d_Mo_term_78 : decode b_Mo_term 78 = .ok (.iconst 0, 1) := by decide +kernel
theorem d_Mo_term_79 : decode b_Mo_term 79 = .ok (.ireturn, 1) := by decide +kernel
theorem d_Mo_term_80 : decode b_Mo_term 80 = .ok (.aload_n 0, 1) := by decide +kernel
theorem d_Mo_term_81 : decode b_Mo_term 81 = .ok (.getfield 7, 3) := by decide +kernel
theorem d_Mo_term_84 : decode b_Mo_term 84 = .ok (.iload_n 1, 1) := by decide +kernel
theorem d_Mo_term_85 : decode b_Mo_term 85 = .ok (.iaload, 1) := by decide +kernel
theorem d_Mo_term_86 : decode b_Mo_term 86 = .ok (.ifCond .le 7, 3) := by decide +kernel
theorem d_Mo_term_89 : decode b_Mo_term 89 = .ok (.iload_n 2, 1) := by decide +kernel
theorem d_Mo_term_90 : decode b_Mo_term 90 = .ok (.goto 4, 3) := by decide +kernel
theorem d_Mo_term_93 : decode b_Mo_term 93 = .ok (.iconst (-1), 1) := by decide +kernel
theorem d_Mo_term_94 : decode b_Mo_term 94 = .ok (.istore 4, 2) := by decide +kernel
theorem d_Mo_term_96 : decode b_Mo_term 96 = .ok (.aload_n 0, 1) := by decide +kernel
theorem d_Mo_term_97 : decode b_Mo_term 97 = .ok (.getfield 7, 3) := by decide +kernel
theorem d_Mo_term_100 : decode b_Mo_term 100 = .ok (.iload_n 1, 1) := by decide +kernel
theorem d_Mo_term_101 : decode b_Mo_term 101 = .ok (.iaload, 1) := by decide +kernel
theorem d_Mo_term_102 : decode b_Mo_term 102 = .ok (.iconst 1, 1) := by decide +kernel
theorem d_Mo_term_103 : decode b_Mo_term 103 = .ok (.if_icmp .le 7, 3) := by decide +kernel
theorem d_Mo_term_106 : decode b_Mo_term 106 = .ok (.iload_n 3, 1) := by decide +kernel
theorem d_Mo_term_107 : decode b_Mo_term 107 = .ok (.goto 4, 3) := by decide +kernel
theorem d_Mo_term_110 : decode b_Mo_term 110 = .ok (.iconst (-1), 1) := by decide +kernel
theorem d_Mo_term_111 : decode b_Mo_term 111 = .ok (.istore 5, 2) := by decide +kernel
theorem d_Mo_term_113 : decode b_Mo_term 113 = .ok (.aload_n 0, 1) := by decide +kernel
theorem d_Mo_term_114 : decode b_Mo_term 114 = .ok (.aload_n 0, 1) := by decide +kernel
theorem d_Mo_term_115 : decode b_Mo_term 115 = .ok (.iload_n 1, 1) := by decide +kernel
theorem d_Mo_term_116 : decode b_Mo_term 116 = .ok (.iload 4, 2) := by decide +kernel
theorem d_Mo_term_118 : decode b_Mo_term 118 = .ok (.iload 5, 2) := by decide +kernel
theorem d_Mo_term_120 : decode b_Mo_term 120 = .ok (.invokevirtual 75, 3) := by decide +kernel
theorem d_Mo_term_123 : decode b_Mo_term 123 = .ok (.ifCond .ge 16, 3) := by decide +kernel
theorem d_Mo_term_126 : decode b_Mo_term 126 = .ok (.aload_n 0, 1) := by decide +kernel
theorem d_Mo_term_127 : decode b_Mo_term 127 = .ok (.getfield 72, 3) := by decide +kernel
theorem d_Mo_term_130 : decode b_Mo_term 130 = .ok (.bipush 48, 2) := by decide +kernel
theorem d_Mo_term_132 : decode b_Mo_term 132 = .ok (.if_icmp .ne 7, 3) := by decide +kernel
theorem d_Mo_term_135 : decode b_Mo_term 135 = .ok (.iconst 2, 1) := by decide +kernel
theorem d_Mo_term_136 : decode b_Mo_term 136 = .ok (.goto 4, 3) := by decide +kernel
theorem d_Mo_term_139 : decode b_Mo_term 139 = .ok (.iconst 0, 1) := by decide +kernel
theorem d_Mo_term_140 : decode b_Mo_term 140 = .ok (.putfield 68, 3) := by decide +kernel
theorem d_Mo_term_143 : decode b_Mo_term 143 = .ok (.aload_n 0, 1) := by decide +kernel
theorem d_Mo_term_144 : decode b_Mo_term 144 = .ok (.getfield 68, 3) := by decide +kernel
theorem d_Mo_term_147 : decode b_Mo_term 147 = .ok (.ifCond .le 7, 3) := by decide +kernel
theorem d_Mo_term_150 : decode b_Mo_term 150 = .ok (.iconst 0, 1) := by decide +kernel
theorem d_Mo_term_151 : decode b_Mo_term 151 = .ok (.goto 12, 3) := by decide +kernel
theorem d_Mo_term_154 : decode b_Mo_term 154 = .ok (.aload_n 0, 1) := by decide +kernel
theorem d_Mo_term_155 : decode b_Mo_term 155 = .ok (.iload_n 1, 1) := by decide +kernel
theorem d_Mo_term_156 : decode b_Mo_term 156 = .ok (.iload 4, 2) := by decide +kernel
theorem d_Mo_term_158 : decode b_Mo_term 158 = .ok (.iload 5, 2) := by decide +kernel
theorem d_Mo_term_160 : decode b_Mo_term 160 = .ok (.invokevirtual 83, 3) := by decide +kernel
theorem d_Mo_term_163 : decode b_Mo_term 163 = .ok (.ireturn, 1) := by decide +kernel
abbrev b_Mo_capped : ByteArray := prog_10_method_8_code
def y_Mo_capped : MethodName := ⟨R_Mo, "capped", "(J)I"⟩
theorem k_Mo_capped : kS y_Mo_capped b_Mo_capped 2 (some .int) 1 := ⟨gmem (List.mem_append_right _ (List.mem_of_getElem? (i := 877) (by decide +kernel))) (by decide +kernel), in_Mo, gmem (List.mem_append_right _ (List.mem_of_getElem? (i := 878) (by decide +kernel))) (by decide +kernel), by decide, by decide, by decide +kernel⟩
theorem d_Mo_capped_0 : decode b_Mo_capped 0 = .ok (.lload_n 0, 1) := by decide +kernel
theorem d_Mo_capped_1 : decode b_Mo_capped 1 = .ok (.ldc2_w 86, 3) := by decide +kernel
theorem d_Mo_capped_4 : decode b_Mo_capped 4 = .ok (.lcmp, 1) := by decide +kernel
theorem d_Mo_capped_5 : decode b_Mo_capped 5 = .ok (.ifCond .le 8, 3) := by decide +kernel
theorem d_Mo_capped_8 : decode b_Mo_capped 8 = .ok (.ldc 88, 2) := by decide +kernel
theorem d_Mo_capped_10 : decode b_Mo_capped 10 = .ok (.goto 5, 3) := by decide +kernel
theorem d_Mo_capped_13 : decode b_Mo_capped 13 = .ok (.lload_n 0, 1) := by decide +kernel
theorem d_Mo_capped_14 : decode b_Mo_capped 14 = .ok (.l2i, 1) := by decide +kernel
theorem d_Mo_capped_15 : decode b_Mo_capped 15 = .ok (.ireturn, 1) := by decide +kernel
abbrev b_Mo_size : ByteArray := prog_10_method_9_code
def y_Mo_size : MethodName := ⟨R_Mo, "size", "(I)I"⟩
theorem k_Mo_size : kV y_Mo_size b_Mo_size 5 (some .int) 1 := ⟨gmem (List.mem_append_right _ (List.mem_of_getElem? (i := 874) (by decide +kernel))) (by decide +kernel), gmem (List.mem_append_left _ (List.mem_of_getElem? (i := 28) (by decide +kernel))) (by decide +kernel), in_Mo, gmem (List.mem_append_right _ (List.mem_of_getElem? (i := 875) (by decide +kernel))) (by decide +kernel), by decide, by decide, by decide +kernel⟩
theorem d_Mo_size_0 : decode b_Mo_size 0 = .ok (.iconst 0, 1) := by decide +kernel
theorem d_Mo_size_1 : decode b_Mo_size 1 = .ok (.istore_n 2, 1) := by decide +kernel
theorem d_Mo_size_2 : decode b_Mo_size 2 = .ok (.iload_n 2, 1) := by decide +kernel
theorem d_Mo_size_3 : decode b_Mo_size 3 = .ok (.iload_n 1, 1) := by decide +kernel
theorem d_Mo_size_4 : decode b_Mo_size 4 = .ok (.if_icmp .gt 73, 3) := by decide +kernel
theorem d_Mo_size_7 : decode b_Mo_size 7 = .ok (.lconst 1, 1) := by decide +kernel
theorem d_Mo_size_8 : decode b_Mo_size 8 = .ok (.aload_n 0, 1) := by decide +kernel
theorem d_Mo_size_9 : decode b_Mo_size 9 = .ok (.getfield 16, 3) := by decide +kernel
theorem d_Mo_size_12 : decode b_Mo_size 12 = .ok (.iload_n 2, 1) := by decide +kernel
theorem d_Mo_size_13 : decode b_Mo_size 13 = .ok (.iaload, 1) := by decide +kernel
theorem d_Mo_size_14 : decode b_Mo_size 14 = .ok (.ifCond .ge 7, 3) := by decide +kernel
theorem d_Mo_size_17 : decode b_Mo_size 17 = .ok (.iconst 0, 1) := by decide +kernel
theorem d_Mo_size_18 : decode b_Mo_size 18 = .ok (.goto 14, 3) := by decide +kernel
theorem d_Mo_size_21 : decode b_Mo_size 21 = .ok (.aload_n 0, 1) := by decide +kernel
theorem d_Mo_size_22 : decode b_Mo_size 22 = .ok (.getfield 56, 3) := by decide +kernel
theorem d_Mo_size_25 : decode b_Mo_size 25 = .ok (.aload_n 0, 1) := by decide +kernel
theorem d_Mo_size_26 : decode b_Mo_size 26 = .ok (.getfield 16, 3) := by decide +kernel
theorem d_Mo_size_29 : decode b_Mo_size 29 = .ok (.iload_n 2, 1) := by decide +kernel
theorem d_Mo_size_30 : decode b_Mo_size 30 = .ok (.iaload, 1) := by decide +kernel
theorem d_Mo_size_31 : decode b_Mo_size 31 = .ok (.iaload, 1) := by decide +kernel
theorem d_Mo_size_32 : decode b_Mo_size 32 = .ok (.i2l, 1) := by decide +kernel
theorem d_Mo_size_33 : decode b_Mo_size 33 = .ok (.ladd, 1) := by decide +kernel
theorem d_Mo_size_34 : decode b_Mo_size 34 = .ok (.aload_n 0, 1) := by decide +kernel
theorem d_Mo_size_35 : decode b_Mo_size 35 = .ok (.getfield 19, 3) := by decide +kernel
theorem d_Mo_size_38 : decode b_Mo_size 38 = .ok (.iload_n 2, 1) := by decide +kernel
theorem d_Mo_size_39 : decode b_Mo_size 39 = .ok (.iaload, 1) := by decide +kernel
theorem d_Mo_size_40 : decode b_Mo_size 40 = .ok (.ifCond .ge 7, 3) := by decide +kernel
theorem d_Mo_size_43 : decode b_Mo_size 43 = .ok (.iconst 0, 1) := by decide +kernel
theorem d_Mo_size_44 : decode b_Mo_size 44 = .ok (.goto 14, 3) := by decide +kernel
theorem d_Mo_size_47 : decode b_Mo_size 47 = .ok (.aload_n 0, 1) := by decide +kernel
theorem d_Mo_size_48 : decode b_Mo_size 48 = .ok (.getfield 56, 3) := by decide +kernel
theorem d_Mo_size_51 : decode b_Mo_size 51 = .ok (.aload_n 0, 1) := by decide +kernel
theorem d_Mo_size_52 : decode b_Mo_size 52 = .ok (.getfield 19, 3) := by decide +kernel
theorem d_Mo_size_55 : decode b_Mo_size 55 = .ok (.iload_n 2, 1) := by decide +kernel
theorem d_Mo_size_56 : decode b_Mo_size 56 = .ok (.iaload, 1) := by decide +kernel
theorem d_Mo_size_57 : decode b_Mo_size 57 = .ok (.iaload, 1) := by decide +kernel
theorem d_Mo_size_58 : decode b_Mo_size 58 = .ok (.i2l, 1) := by decide +kernel
theorem d_Mo_size_59 : decode b_Mo_size 59 = .ok (.ladd, 1) := by decide +kernel
theorem d_Mo_size_60 : decode b_Mo_size 60 = .ok (.lstore_n 3, 1) := by decide +kernel
theorem d_Mo_size_61 : decode b_Mo_size 61 = .ok (.aload_n 0, 1) := by decide +kernel
theorem d_Mo_size_62 : decode b_Mo_size 62 = .ok (.getfield 56, 3) := by decide +kernel
theorem d_Mo_size_65 : decode b_Mo_size 65 = .ok (.iload_n 2, 1) := by decide +kernel
theorem d_Mo_size_66 : decode b_Mo_size 66 = .ok (.lload_n 3, 1) := by decide +kernel
theorem d_Mo_size_67 : decode b_Mo_size 67 = .ok (.invokestatic 89, 3) := by decide +kernel
theorem d_Mo_size_70 : decode b_Mo_size 70 = .ok (.iastore, 1) := by decide +kernel
theorem d_Mo_size_71 : decode b_Mo_size 71 = .ok (.iinc 2 1, 3) := by decide +kernel
theorem d_Mo_size_74 : decode b_Mo_size 74 = .ok (.goto (-72), 3) := by decide +kernel
theorem d_Mo_size_77 : decode b_Mo_size 77 = .ok (.aload_n 0, 1) := by decide +kernel
theorem d_Mo_size_78 : decode b_Mo_size 78 = .ok (.getfield 56, 3) := by decide +kernel
theorem d_Mo_size_81 : decode b_Mo_size 81 = .ok (.iload_n 1, 1) := by decide +kernel
theorem d_Mo_size_82 : decode b_Mo_size 82 = .ok (.iaload, 1) := by decide +kernel
theorem d_Mo_size_83 : decode b_Mo_size 83 = .ok (.ireturn, 1) := by decide +kernel
abbrev b_Mo_lefts : ByteArray := prog_10_method_10_code
def y_Mo_lefts : MethodName := ⟨R_Mo, "lefts", "(I)I"⟩
theorem k_Mo_lefts : kV y_Mo_lefts b_Mo_lefts 4 (some .int) 1 := ⟨gmem (List.mem_append_right _ (List.mem_of_getElem? (i := 887) (by decide +kernel))) (by decide +kernel), gmem (List.mem_append_left _ (List.mem_of_getElem? (i := 30) (by decide +kernel))) (by decide +kernel), in_Mo, gmem (List.mem_append_right _ (List.mem_of_getElem? (i := 888) (by decide +kernel))) (by decide +kernel), by decide, by decide, by decide +kernel⟩
theorem d_Mo_lefts_0 : decode b_Mo_lefts 0 = .ok (.iconst 0, 1) := by decide +kernel
theorem d_Mo_lefts_1 : decode b_Mo_lefts 1 = .ok (.istore_n 2, 1) := by decide +kernel
theorem d_Mo_lefts_2 : decode b_Mo_lefts 2 = .ok (.iconst 0, 1) := by decide +kernel
theorem d_Mo_lefts_3 : decode b_Mo_lefts 3 = .ok (.istore_n 3, 1) := by decide +kernel
theorem d_Mo_lefts_4 : decode b_Mo_lefts 4 = .ok (.iload_n 3, 1) := by decide +kernel
theorem d_Mo_lefts_5 : decode b_Mo_lefts 5 = .ok (.aload_n 0, 1) := by decide +kernel
theorem d_Mo_lefts_6 : decode b_Mo_lefts 6 = .ok (.getfield 93, 3) := by decide +kernel
theorem d_Mo_lefts_9 : decode b_Mo_lefts 9 = .ok (.if_icmp .ge 27, 3) := by decide +kernel
theorem d_Mo_lefts_12 : decode b_Mo_lefts 12 = .ok (.iload_n 2, 1) := by decide +kernel
theorem d_Mo_lefts_13 : decode b_Mo_lefts 13 = .ok (.aload_n 0, 1) := by decide +kernel
theorem d_Mo_lefts_14 : decode b_Mo_lefts 14 = .ok (.getfield 22, 3) := by decide +kernel
theorem d_Mo_lefts_17 : decode b_Mo_lefts 17 = .ok (.iload_n 3, 1) := by decide +kernel
theorem d_Mo_lefts_18 : decode b_Mo_lefts 18 = .ok (.iaload, 1) := by decide +kernel
theorem d_Mo_lefts_19 : decode b_Mo_lefts 19 = .ok (.iload_n 1, 1) := by decide +kernel
theorem d_Mo_lefts_20 : decode b_Mo_lefts 20 = .ok (.if_icmp .ne 7, 3) := by decide +kernel
theorem d_Mo_lefts_23 : decode b_Mo_lefts 23 = .ok (.iconst 1, 1) := by decide +kernel
theorem d_Mo_lefts_24 : decode b_Mo_lefts 24 = .ok (.goto 4, 3) := by decide +kernel
theorem d_Mo_lefts_27 : decode b_Mo_lefts 27 = .ok (.iconst 0, 1) := by decide +kernel
theorem d_Mo_lefts_28 : decode b_Mo_lefts 28 = .ok (.iadd, 1) := by decide +kernel
theorem d_Mo_lefts_29 : decode b_Mo_lefts 29 = .ok (.istore_n 2, 1) := by decide +kernel
theorem d_Mo_lefts_30 : decode b_Mo_lefts 30 = .ok (.iinc 3 1, 3) := by decide +kernel
theorem d_Mo_lefts_33 : decode b_Mo_lefts 33 = .ok (.goto (-29), 3) := by decide +kernel
theorem d_Mo_lefts_36 : decode b_Mo_lefts 36 = .ok (.iload_n 2, 1) := by decide +kernel
theorem d_Mo_lefts_37 : decode b_Mo_lefts 37 = .ok (.ireturn, 1) := by decide +kernel
abbrev b_Mo_steps : ByteArray := prog_10_method_11_code
def y_Mo_steps : MethodName := ⟨R_Mo, "steps", "(I)I"⟩
theorem k_Mo_steps : kV y_Mo_steps b_Mo_steps 5 (some .int) 1 := ⟨gmem (List.mem_append_right _ (List.mem_of_getElem? (i := 883) (by decide +kernel))) (by decide +kernel), gmem (List.mem_append_left _ (List.mem_of_getElem? (i := 29) (by decide +kernel))) (by decide +kernel), in_Mo, gmem (List.mem_append_right _ (List.mem_of_getElem? (i := 884) (by decide +kernel))) (by decide +kernel), by decide, by decide, by decide +kernel⟩
theorem d_Mo_steps_0 : decode b_Mo_steps 0 = .ok (.iconst 0, 1) := by decide +kernel
theorem d_Mo_steps_1 : decode b_Mo_steps 1 = .ok (.istore_n 2, 1) := by decide +kernel
theorem d_Mo_steps_2 : decode b_Mo_steps 2 = .ok (.iload_n 2, 1) := by decide +kernel
theorem d_Mo_steps_3 : decode b_Mo_steps 3 = .ok (.iload_n 1, 1) := by decide +kernel
theorem d_Mo_steps_4 : decode b_Mo_steps 4 = .ok (.if_icmp .gt 78, 3) := by decide +kernel
theorem d_Mo_steps_7 : decode b_Mo_steps 7 = .ok (.aload_n 0, 1) := by decide +kernel
theorem d_Mo_steps_8 : decode b_Mo_steps 8 = .ok (.iload_n 2, 1) := by decide +kernel
theorem d_Mo_steps_9 : decode b_Mo_steps 9 = .ok (.invokevirtual 96, 3) := by decide +kernel
theorem d_Mo_steps_12 : decode b_Mo_steps 12 = .ok (.i2l, 1) := by decide +kernel
theorem d_Mo_steps_13 : decode b_Mo_steps 13 = .ok (.aload_n 0, 1) := by decide +kernel
theorem d_Mo_steps_14 : decode b_Mo_steps 14 = .ok (.getfield 16, 3) := by decide +kernel
theorem d_Mo_steps_17 : decode b_Mo_steps 17 = .ok (.iload_n 2, 1) := by decide +kernel
theorem d_Mo_steps_18 : decode b_Mo_steps 18 = .ok (.iaload, 1) := by decide +kernel
theorem d_Mo_steps_19 : decode b_Mo_steps 19 = .ok (.ifCond .ge 7, 3) := by decide +kernel
theorem d_Mo_steps_22 : decode b_Mo_steps 22 = .ok (.iconst 0, 1) := by decide +kernel
theorem d_Mo_steps_23 : decode b_Mo_steps 23 = .ok (.goto 14, 3) := by decide +kernel
theorem d_Mo_steps_26 : decode b_Mo_steps 26 = .ok (.aload_n 0, 1) := by decide +kernel
theorem d_Mo_steps_27 : decode b_Mo_steps 27 = .ok (.getfield 56, 3) := by decide +kernel
theorem d_Mo_steps_30 : decode b_Mo_steps 30 = .ok (.aload_n 0, 1) := by decide +kernel
theorem d_Mo_steps_31 : decode b_Mo_steps 31 = .ok (.getfield 16, 3) := by decide +kernel
theorem d_Mo_steps_34 : decode b_Mo_steps 34 = .ok (.iload_n 2, 1) := by decide +kernel
theorem d_Mo_steps_35 : decode b_Mo_steps 35 = .ok (.iaload, 1) := by decide +kernel
theorem d_Mo_steps_36 : decode b_Mo_steps 36 = .ok (.iaload, 1) := by decide +kernel
theorem d_Mo_steps_37 : decode b_Mo_steps 37 = .ok (.i2l, 1) := by decide +kernel
theorem d_Mo_steps_38 : decode b_Mo_steps 38 = .ok (.ladd, 1) := by decide +kernel
theorem d_Mo_steps_39 : decode b_Mo_steps 39 = .ok (.aload_n 0, 1) := by decide +kernel
theorem d_Mo_steps_40 : decode b_Mo_steps 40 = .ok (.getfield 19, 3) := by decide +kernel
theorem d_Mo_steps_43 : decode b_Mo_steps 43 = .ok (.iload_n 2, 1) := by decide +kernel
theorem d_Mo_steps_44 : decode b_Mo_steps 44 = .ok (.iaload, 1) := by decide +kernel
theorem d_Mo_steps_45 : decode b_Mo_steps 45 = .ok (.ifCond .ge 7, 3) := by decide +kernel
theorem d_Mo_steps_48 : decode b_Mo_steps 48 = .ok (.iconst 0, 1) := by decide +kernel
theorem d_Mo_steps_49 : decode b_Mo_steps 49 = .ok (.goto 14, 3) := by decide +kernel
theorem d_Mo_steps_52 : decode b_Mo_steps 52 = .ok (.aload_n 0, 1) := by decide +kernel
theorem d_Mo_steps_53 : decode b_Mo_steps 53 = .ok (.getfield 56, 3) := by decide +kernel
theorem d_Mo_steps_56 : decode b_Mo_steps 56 = .ok (.aload_n 0, 1) := by decide +kernel
theorem d_Mo_steps_57 : decode b_Mo_steps 57 = .ok (.getfield 19, 3) := by decide +kernel
theorem d_Mo_steps_60 : decode b_Mo_steps 60 = .ok (.iload_n 2, 1) := by decide +kernel
theorem d_Mo_steps_61 : decode b_Mo_steps 61 = .ok (.iaload, 1) := by decide +kernel
theorem d_Mo_steps_62 : decode b_Mo_steps 62 = .ok (.iaload, 1) := by decide +kernel
theorem d_Mo_steps_63 : decode b_Mo_steps 63 = .ok (.i2l, 1) := by decide +kernel
theorem d_Mo_steps_64 : decode b_Mo_steps 64 = .ok (.ladd, 1) := by decide +kernel
theorem d_Mo_steps_65 : decode b_Mo_steps 65 = .ok (.lstore_n 3, 1) := by decide +kernel
theorem d_Mo_steps_66 : decode b_Mo_steps 66 = .ok (.aload_n 0, 1) := by decide +kernel
theorem d_Mo_steps_67 : decode b_Mo_steps 67 = .ok (.getfield 56, 3) := by decide +kernel
theorem d_Mo_steps_70 : decode b_Mo_steps 70 = .ok (.iload_n 2, 1) := by decide +kernel
theorem d_Mo_steps_71 : decode b_Mo_steps 71 = .ok (.lload_n 3, 1) := by decide +kernel
theorem d_Mo_steps_72 : decode b_Mo_steps 72 = .ok (.invokestatic 89, 3) := by decide +kernel
theorem d_Mo_steps_75 : decode b_Mo_steps 75 = .ok (.iastore, 1) := by decide +kernel
theorem d_Mo_steps_76 : decode b_Mo_steps 76 = .ok (.iinc 2 1, 3) := by decide +kernel
theorem d_Mo_steps_79 : decode b_Mo_steps 79 = .ok (.goto (-77), 3) := by decide +kernel
theorem d_Mo_steps_82 : decode b_Mo_steps 82 = .ok (.aload_n 0, 1) := by decide +kernel
theorem d_Mo_steps_83 : decode b_Mo_steps 83 = .ok (.getfield 56, 3) := by decide +kernel
theorem d_Mo_steps_86 : decode b_Mo_steps 86 = .ok (.iload_n 1, 1) := by decide +kernel
theorem d_Mo_steps_87 : decode b_Mo_steps 87 = .ok (.iaload, 1) := by decide +kernel
theorem d_Mo_steps_88 : decode b_Mo_steps 88 = .ok (.ireturn, 1) := by decide +kernel
abbrev b_Mo_of : ByteArray := prog_10_method_12_code
def y_Mo_of : MethodName := ⟨R_Mo, "of", "(II)I"⟩
theorem k_Mo_of : kV y_Mo_of b_Mo_of 3 (some .int) 2 := ⟨gmem (List.mem_append_right _ (List.mem_of_getElem? (i := 869) (by decide +kernel))) (by decide +kernel), gmem (List.mem_append_right _ (List.mem_of_getElem? (i := 870) (by decide +kernel))) (by decide +kernel), in_Mo, gmem (List.mem_append_right _ (List.mem_of_getElem? (i := 871) (by decide +kernel))) (by decide +kernel), by decide, by decide, by decide +kernel⟩
theorem d_Mo_of_0 : decode b_Mo_of 0 = .ok (.aload_n 0, 1) := by decide +kernel
theorem d_Mo_of_1 : decode b_Mo_of 1 = .ok (.iconst 0, 1) := by decide +kernel
theorem d_Mo_of_2 : decode b_Mo_of 2 = .ok (.putfield 68, 3) := by decide +kernel
theorem d_Mo_of_5 : decode b_Mo_of 5 = .ok (.aload_n 0, 1) := by decide +kernel
theorem d_Mo_of_6 : decode b_Mo_of 6 = .ok (.iload_n 1, 1) := by decide +kernel
theorem d_Mo_of_7 : decode b_Mo_of 7 = .ok (.invokevirtual 79, 3) := by decide +kernel
theorem d_Mo_of_10 : decode b_Mo_of 10 = .ok (.ifCond .eq 12, 3) := by decide +kernel
theorem d_Mo_of_13 : decode b_Mo_of 13 = .ok (.iload_n 2, 1) := by decide +kernel
theorem d_Mo_of_14 : decode b_Mo_of 14 = .ok (.ifCond .lt 8, 3) := by decide +kernel
theorem d_Mo_of_17 : decode b_Mo_of 17 = .ok (.iload_n 2, 1) := by decide +kernel
theorem d_Mo_of_18 : decode b_Mo_of 18 = .ok (.iconst 4, 1) := by decide +kernel
theorem d_Mo_of_19 : decode b_Mo_of 19 = .ok (.if_icmp .le 5, 3) := by decide +kernel
theorem d_Mo_of_22 : decode b_Mo_of 22 = .ok (.iconst (-1), 1) := by decide +kernel
theorem d_Mo_of_23 : decode b_Mo_of 23 = .ok (.ireturn, 1) := by decide +kernel
theorem d_Mo_of_24 : decode b_Mo_of 24 = .ok (.iload_n 2, 1) := by decide +kernel
theorem d_Mo_of_25 : decode b_Mo_of 25 = .ok (.ifCond .ne 12, 3) := by decide +kernel
theorem d_Mo_of_28 : decode b_Mo_of 28 = .ok (.aload_n 0, 1) := by decide +kernel
theorem d_Mo_of_29 : decode b_Mo_of 29 = .ok (.getfield 13, 3) := by decide +kernel
theorem d_Mo_of_32 : decode b_Mo_of 32 = .ok (.iload_n 1, 1) := by decide +kernel
theorem d_Mo_of_33 : decode b_Mo_of 33 = .ok (.iaload, 1) := by decide +kernel
theorem d_Mo_of_34 : decode b_Mo_of 34 = .ok (.goto 49, 3) := by decide +kernel
theorem d_Mo_of_37 : decode b_Mo_of 37 = .ok (.iload_n 2, 1) := by decide +kernel
theorem d_Mo_of_38 : decode b_Mo_of 38 = .ok (.iconst 1, 1) := by decide +kernel
theorem d_Mo_of_39 : decode b_Mo_of 39 = .ok (.if_icmp .ne 12, 3) := by decide +kernel
theorem d_Mo_of_42 : decode b_Mo_of 42 = .ok (.aload_n 0, 1) := by decide +kernel
theorem d_Mo_of_43 : decode b_Mo_of 43 = .ok (.getfield 16, 3) := by decide +kernel
theorem d_Mo_of_46 : decode b_Mo_of 46 = .ok (.iload_n 1, 1) := by decide +kernel
theorem d_Mo_of_47 : decode b_Mo_of 47 = .ok (.iaload, 1) := by decide +kernel
theorem d_Mo_of_48 : decode b_Mo_of 48 = .ok (.goto 35, 3) := by decide +kernel
theorem d_Mo_of_51 : decode b_Mo_of 51 = .ok (.iload_n 2, 1) := by decide +kernel
theorem d_Mo_of_52 : decode b_Mo_of 52 = .ok (.iconst 2, 1) := by decide +kernel
theorem d_Mo_of_53 : decode b_Mo_of 53 = .ok (.if_icmp .ne 12, 3) := by decide +kernel
theorem d_Mo_of_56 : decode b_Mo_of 56 = .ok (.aload_n 0, 1) := by decide +kernel
theorem d_Mo_of_57 : decode b_Mo_of 57 = .ok (.getfield 19, 3) := by decide +kernel
theorem d_Mo_of_60 : decode b_Mo_of 60 = .ok (.iload_n 1, 1) := by decide +kernel
theorem d_Mo_of_61 : decode b_Mo_of 61 = .ok (.iaload, 1) := by decide +kernel
theorem d_Mo_of_62 : decode b_Mo_of 62 = .ok (.goto 21, 3) := by decide +kernel
theorem d_Mo_of_65 : decode b_Mo_of 65 = .ok (.iload_n 2, 1) := by decide +kernel
theorem d_Mo_of_66 : decode b_Mo_of 66 = .ok (.iconst 3, 1) := by decide +kernel
theorem d_Mo_of_67 : decode b_Mo_of 67 = .ok (.if_icmp .ne 11, 3) := by decide +kernel
theorem d_Mo_of_70 : decode b_Mo_of 70 = .ok (.aload_n 0, 1) := by decide +kernel
theorem d_Mo_of_71 : decode b_Mo_of 71 = .ok (.iload_n 1, 1) := by decide +kernel
theorem d_Mo_of_72 : decode b_Mo_of 72 = .ok (.invokevirtual 100, 3) := by decide +kernel
theorem d_Mo_of_75 : decode b_Mo_of 75 = .ok (.goto 8, 3) := by decide +kernel
theorem d_Mo_of_78 : decode b_Mo_of 78 = .ok (.aload_n 0, 1) := by decide +kernel
theorem d_Mo_of_79 : decode b_Mo_of 79 = .ok (.iload_n 1, 1) := by decide +kernel
theorem d_Mo_of_80 : decode b_Mo_of 80 = .ok (.invokevirtual 103, 3) := by decide +kernel
theorem d_Mo_of_83 : decode b_Mo_of 83 = .ok (.ireturn, 1) := by decide +kernel
abbrev b_Mo_rule : ByteArray := prog_10_method_13_code
def y_Mo_rule : MethodName := ⟨R_Mo, "rule", "(II)I"⟩
theorem k_Mo_rule : kV y_Mo_rule b_Mo_rule 3 (some .int) 2 := ⟨gmem (List.mem_append_right _ (List.mem_of_getElem? (i := 890) (by decide +kernel))) (by decide +kernel), gmem (List.mem_append_right _ (List.mem_of_getElem? (i := 891) (by decide +kernel))) (by decide +kernel), in_Mo, gmem (List.mem_append_right _ (List.mem_of_getElem? (i := 892) (by decide +kernel))) (by decide +kernel), by decide, by decide, by decide +kernel⟩
theorem d_Mo_rule_0 : decode b_Mo_rule 0 = .ok (.aload_n 0, 1) := by decide +kernel
theorem d_Mo_rule_1 : decode b_Mo_rule 1 = .ok (.aload_n 0, 1) := by decide +kernel
theorem d_Mo_rule_2 : decode b_Mo_rule 2 = .ok (.iload_n 1, 1) := by decide +kernel
theorem d_Mo_rule_3 : decode b_Mo_rule 3 = .ok (.invokevirtual 79, 3) := by decide +kernel
theorem d_Mo_rule_6 : decode b_Mo_rule 6 = .ok (.ifCond .eq 16, 3) := by decide +kernel
theorem d_Mo_rule_9 : decode b_Mo_rule 9 = .ok (.aload_n 0, 1) := by decide +kernel
theorem d_Mo_rule_10 : decode b_Mo_rule 10 = .ok (.iload_n 2, 1) := by decide +kernel
theorem d_Mo_rule_11 : decode b_Mo_rule 11 = .ok (.invokevirtual 79, 3) := by decide +kernel
theorem d_Mo_rule_14 : decode b_Mo_rule 14 = .ok (.ifCond .eq 8, 3) := by decide +kernel
theorem d_Mo_rule_17 : decode b_Mo_rule 17 = .ok (.iload_n 1, 1) := by decide +kernel
theorem d_Mo_rule_18 : decode b_Mo_rule 18 = .ok (.iload_n 2, 1) := by decide +kernel
theorem d_Mo_rule_19 : decode b_Mo_rule 19 = .ok (.if_icmp .ne 7, 3) := by decide +kernel
theorem d_Mo_rule_22 : decode b_Mo_rule 22 = .ok (.iconst 1, 1) := by decide +kernel
theorem d_Mo_rule_23 : decode b_Mo_rule 23 = .ok (.goto 17, 3) := by decide +kernel
theorem d_Mo_rule_26 : decode b_Mo_rule 26 = .ok (.aload_n 0, 1) := by decide +kernel
theorem d_Mo_rule_27 : decode b_Mo_rule 27 = .ok (.getfield 93, 3) := by decide +kernel
theorem d_Mo_rule_30 : decode b_Mo_rule 30 = .ok (.bipush 8, 2) := by decide +kernel
theorem d_Mo_rule_32 : decode b_Mo_rule 32 = .ok (.if_icmp .ne 7, 3) := by decide +kernel
theorem d_Mo_rule_35 : decode b_Mo_rule 35 = .ok (.iconst 2, 1) := by decide +kernel
theorem d_Mo_rule_36 : decode b_Mo_rule 36 = .ok (.goto 4, 3) := by decide +kernel
theorem d_Mo_rule_39 : decode b_Mo_rule 39 = .ok (.iconst 0, 1) := by decide +kernel
theorem d_Mo_rule_40 : decode b_Mo_rule 40 = .ok (.putfield 68, 3) := by decide +kernel
theorem d_Mo_rule_43 : decode b_Mo_rule 43 = .ok (.aload_n 0, 1) := by decide +kernel
theorem d_Mo_rule_44 : decode b_Mo_rule 44 = .ok (.getfield 68, 3) := by decide +kernel
theorem d_Mo_rule_47 : decode b_Mo_rule 47 = .ok (.ifCond .le 5, 3) := by decide +kernel
theorem d_Mo_rule_50 : decode b_Mo_rule 50 = .ok (.iconst 0, 1) := by decide +kernel
theorem d_Mo_rule_51 : decode b_Mo_rule 51 = .ok (.ireturn, 1) := by decide +kernel
theorem d_Mo_rule_52 : decode b_Mo_rule 52 = .ok (.aload_n 0, 1) := by decide +kernel
theorem d_Mo_rule_53 : decode b_Mo_rule 53 = .ok (.getfield 22, 3) := by decide +kernel
theorem d_Mo_rule_56 : decode b_Mo_rule 56 = .ok (.aload_n 0, 1) := by decide +kernel
theorem d_Mo_rule_57 : decode b_Mo_rule 57 = .ok (.getfield 93, 3) := by decide +kernel
theorem d_Mo_rule_60 : decode b_Mo_rule 60 = .ok (.iload_n 1, 1) := by decide +kernel
theorem d_Mo_rule_61 : decode b_Mo_rule 61 = .ok (.iastore, 1) := by decide +kernel
theorem d_Mo_rule_62 : decode b_Mo_rule 62 = .ok (.aload_n 0, 1) := by decide +kernel
theorem d_Mo_rule_63 : decode b_Mo_rule 63 = .ok (.getfield 25, 3) := by decide +kernel
theorem d_Mo_rule_66 : decode b_Mo_rule 66 = .ok (.aload_n 0, 1) := by decide +kernel
theorem d_Mo_rule_67 : decode b_Mo_rule 67 = .ok (.getfield 93, 3) := by decide +kernel
theorem d_Mo_rule_70 : decode b_Mo_rule 70 = .ok (.iload_n 2, 1) := by decide +kernel
theorem d_Mo_rule_71 : decode b_Mo_rule 71 = .ok (.iastore, 1) := by decide +kernel
theorem d_Mo_rule_72 : decode b_Mo_rule 72 = .ok (.aload_n 0, 1) := by decide +kernel
theorem d_Mo_rule_73 : decode b_Mo_rule 73 = .ok (.dup, 1) := by decide +kernel
theorem d_Mo_rule_74 : decode b_Mo_rule 74 = .ok (.getfield 93, 3) := by decide +kernel
theorem d_Mo_rule_77 : decode b_Mo_rule 77 = .ok (.iconst 1, 1) := by decide +kernel
theorem d_Mo_rule_78 : decode b_Mo_rule 78 = .ok (.iadd, 1) := by decide +kernel
theorem d_Mo_rule_79 : decode b_Mo_rule 79 = .ok (.putfield 93, 3) := by decide +kernel
theorem d_Mo_rule_82 : decode b_Mo_rule 82 = .ok (.aload_n 0, 1) := by decide +kernel
theorem d_Mo_rule_83 : decode b_Mo_rule 83 = .ok (.getfield 93, 3) := by decide +kernel
theorem d_Mo_rule_86 : decode b_Mo_rule 86 = .ok (.iconst 1, 1) := by decide +kernel
theorem d_Mo_rule_87 : decode b_Mo_rule 87 = .ok (.isub, 1) := by decide +kernel
theorem d_Mo_rule_88 : decode b_Mo_rule 88 = .ok (.ireturn, 1) := by decide +kernel
abbrev b_Mo_cut : ByteArray := prog_10_method_14_code
def y_Mo_cut : MethodName := ⟨R_Mo, "cut", "()Z"⟩
theorem k_Mo_cut : kV y_Mo_cut b_Mo_cut 2 (some .boolean) 0 := ⟨gmem (List.mem_append_right _ (List.mem_of_getElem? (i := 894) (by decide +kernel))) (by decide +kernel), gmem (List.mem_append_right _ (List.mem_of_getElem? (i := 895) (by decide +kernel))) (by decide +kernel), in_Mo, gmem (List.mem_append_right _ (List.mem_of_getElem? (i := 896) (by decide +kernel))) (by decide +kernel), by decide, by decide, by decide +kernel⟩
theorem d_Mo_cut_0 : decode b_Mo_cut 0 = .ok (.aload_n 0, 1) := by decide +kernel
theorem d_Mo_cut_1 : decode b_Mo_cut 1 = .ok (.iconst 0, 1) := by decide +kernel
theorem d_Mo_cut_2 : decode b_Mo_cut 2 = .ok (.putfield 68, 3) := by decide +kernel
theorem d_Mo_cut_5 : decode b_Mo_cut 5 = .ok (.aload_n 0, 1) := by decide +kernel
theorem d_Mo_cut_6 : decode b_Mo_cut 6 = .ok (.getfield 93, 3) := by decide +kernel
theorem d_Mo_cut_9 : decode b_Mo_cut 9 = .ok (.ifCond .le 7, 3) := by decide +kernel
theorem d_Mo_cut_12 : decode b_Mo_cut 12 = .ok (.iconst 1, 1) := by decide +kernel
theorem d_Mo_cut_13 : decode b_Mo_cut 13 = .ok (.goto 4, 3) := by decide +kernel
theorem d_Mo_cut_16 : decode b_Mo_cut 16 = .ok (.iconst 0, 1) := by decide +kernel
theorem d_Mo_cut_17 : decode b_Mo_cut 17 = .ok (.istore_n 1, 1) := by decide +kernel
theorem d_Mo_cut_18 : decode b_Mo_cut 18 = .ok (.aload_n 0, 1) := by decide +kernel
theorem d_Mo_cut_19 : decode b_Mo_cut 19 = .ok (.dup, 1) := by decide +kernel
theorem d_Mo_cut_20 : decode b_Mo_cut 20 = .ok (.getfield 93, 3) := by decide +kernel
theorem d_Mo_cut_23 : decode b_Mo_cut 23 = .ok (.iload_n 1, 1) := by decide +kernel
theorem d_Mo_cut_24 : decode b_Mo_cut 24 = .ok (.ifCond .eq 7, 3) := by decide +kernel
theorem d_Mo_cut_27 : decode b_Mo_cut 27 = .ok (.iconst 1, 1) := by decide +kernel
theorem d_Mo_cut_28 : decode b_Mo_cut 28 = .ok (.goto 4, 3) := by decide +kernel
theorem d_Mo_cut_31 : decode b_Mo_cut 31 = .ok (.iconst 0, 1) := by decide +kernel
theorem d_Mo_cut_32 : decode b_Mo_cut 32 = .ok (.isub, 1) := by decide +kernel
theorem d_Mo_cut_33 : decode b_Mo_cut 33 = .ok (.putfield 93, 3) := by decide +kernel
theorem d_Mo_cut_36 : decode b_Mo_cut 36 = .ok (.iload_n 1, 1) := by decide +kernel
theorem d_Mo_cut_37 : decode b_Mo_cut 37 = .ok (.ireturn, 1) := by decide +kernel
abbrev b_Mo_edge : ByteArray := prog_10_method_15_code
def y_Mo_edge : MethodName := ⟨R_Mo, "edge", "(IIII)Z"⟩
theorem k_Mo_edge : kV y_Mo_edge b_Mo_edge 8 (some .boolean) 4 := ⟨gmem (List.mem_append_right _ (List.mem_of_getElem? (i := 898) (by decide +kernel))) (by decide +kernel), gmem (List.mem_append_right _ (List.mem_of_getElem? (i := 899) (by decide +kernel))) (by decide +kernel), in_Mo, gmem (List.mem_append_right _ (List.mem_of_getElem? (i := 900) (by decide +kernel))) (by decide +kernel), by decide, by decide, by decide +kernel⟩
theorem d_Mo_edge_0 : decode b_Mo_edge 0 = .ok (.aload_n 0, 1) := by decide +kernel
theorem d_Mo_edge_1 : decode b_Mo_edge 1 = .ok (.iload_n 1, 1) := by decide +kernel
theorem d_Mo_edge_2 : decode b_Mo_edge 2 = .ok (.ifCond .lt 16, 3) := by decide +kernel
theorem d_Mo_edge_5 : decode b_Mo_edge 5 = .ok (.iload_n 1, 1) := by decide +kernel
theorem d_Mo_edge_6 : decode b_Mo_edge 6 = .ok (.iconst 5, 1) := by decide +kernel
theorem d_Mo_edge_7 : decode b_Mo_edge 7 = .ok (.if_icmp .gt 11, 3) := by decide +kernel
theorem d_Mo_edge_10 : decode b_Mo_edge 10 = .ok (.iload 4, 2) := by decide +kernel
theorem d_Mo_edge_12 : decode b_Mo_edge 12 = .ok (.invokestatic 106, 3) := by decide +kernel
theorem d_Mo_edge_15 : decode b_Mo_edge 15 = .ok (.ifCond .ne 7, 3) := by decide +kernel
theorem d_Mo_edge_18 : decode b_Mo_edge 18 = .ok (.iconst 1, 1) := by decide +kernel
theorem d_Mo_edge_19 : decode b_Mo_edge 19 = .ok (.goto 4, 3) := by decide +kernel
theorem d_Mo_edge_22 : decode b_Mo_edge 22 = .ok (.iconst 0, 1) := by decide +kernel
theorem d_Mo_edge_23 : decode b_Mo_edge 23 = .ok (.putfield 68, 3) := by decide +kernel
theorem d_Mo_edge_26 : decode b_Mo_edge 26 = .ok (.aload_n 0, 1) := by decide +kernel
theorem d_Mo_edge_27 : decode b_Mo_edge 27 = .ok (.getfield 68, 3) := by decide +kernel
theorem d_Mo_edge_30 : decode b_Mo_edge 30 = .ok (.ifCond .le 5, 3) := by decide +kernel
theorem d_Mo_edge_33 : decode b_Mo_edge 33 = .ok (.iconst 0, 1) := by decide +kernel
theorem d_Mo_edge_34 : decode b_Mo_edge 34 = .ok (.ireturn, 1) := by decide +kernel
theorem d_Mo_edge_35 : decode b_Mo_edge 35 = .ok (.aload_n 0, 1) := by decide +kernel
theorem d_Mo_edge_36 : decode b_Mo_edge 36 = .ok (.aload_n 0, 1) := by decide +kernel
theorem d_Mo_edge_37 : decode b_Mo_edge 37 = .ok (.getfield 7, 3) := by decide +kernel
theorem d_Mo_edge_40 : decode b_Mo_edge 40 = .ok (.iload_n 1, 1) := by decide +kernel
theorem d_Mo_edge_41 : decode b_Mo_edge 41 = .ok (.iaload, 1) := by decide +kernel
theorem d_Mo_edge_42 : decode b_Mo_edge 42 = .ok (.ifCond .le 10, 3) := by decide +kernel
theorem d_Mo_edge_45 : decode b_Mo_edge 45 = .ok (.iload_n 2, 1) := by decide +kernel
theorem d_Mo_edge_46 : decode b_Mo_edge 46 = .ok (.invokestatic 106, 3) := by decide +kernel
theorem d_Mo_edge_49 : decode b_Mo_edge 49 = .ok (.ifCond .eq 20, 3) := by decide +kernel
theorem d_Mo_edge_52 : decode b_Mo_edge 52 = .ok (.aload_n 0, 1) := by decide +kernel
theorem d_Mo_edge_53 : decode b_Mo_edge 53 = .ok (.getfield 7, 3) := by decide +kernel
theorem d_Mo_edge_56 : decode b_Mo_edge 56 = .ok (.iload_n 1, 1) := by decide +kernel
theorem d_Mo_edge_57 : decode b_Mo_edge 57 = .ok (.iaload, 1) := by decide +kernel
theorem d_Mo_edge_58 : decode b_Mo_edge 58 = .ok (.iconst 1, 1) := by decide +kernel
theorem d_Mo_edge_59 : decode b_Mo_edge 59 = .ok (.if_icmp .le 14, 3) := by decide +kernel
theorem d_Mo_edge_62 : decode b_Mo_edge 62 = .ok (.iload_n 3, 1) := by decide +kernel
theorem d_Mo_edge_63 : decode b_Mo_edge 63 = .ok (.invokestatic 106, 3) := by decide +kernel
theorem d_Mo_edge_66 : decode b_Mo_edge 66 = .ok (.ifCond .ne 7, 3) := by decide +kernel
theorem d_Mo_edge_69 : decode b_Mo_edge 69 = .ok (.iconst 1, 1) := by decide +kernel
theorem d_Mo_edge_70 : decode b_Mo_edge 70 = .ok (.goto 4, 3) := by decide +kernel
theorem d_Mo_edge_73 : decode b_Mo_edge 73 = .ok (.iconst 0, 1) := by decide +kernel
theorem d_Mo_edge_74 : decode b_Mo_edge 74 = .ok (.putfield 68, 3) := by decide +kernel
theorem d_Mo_edge_77 : decode b_Mo_edge 77 = .ok (.aload_n 0, 1) := by decide +kernel
theorem d_Mo_edge_78 : decode b_Mo_edge 78 = .ok (.getfield 68, 3) := by decide +kernel
theorem d_Mo_edge_81 : decode b_Mo_edge 81 = .ok (.ifCond .le 5, 3) := by decide +kernel
theorem d_Mo_edge_84 : decode b_Mo_edge 84 = .ok (.iconst 0, 1) := by decide +kernel
theorem d_Mo_edge_85 : decode b_Mo_edge 85 = .ok (.ireturn, 1) := by decide +kernel
theorem d_Mo_edge_86 : decode b_Mo_edge 86 = .ok (.aload_n 0, 1) := by decide +kernel
theorem d_Mo_edge_87 : decode b_Mo_edge 87 = .ok (.getfield 7, 3) := by decide +kernel
theorem d_Mo_edge_90 : decode b_Mo_edge 90 = .ok (.iload_n 1, 1) := by decide +kernel
theorem d_Mo_edge_91 : decode b_Mo_edge 91 = .ok (.iaload, 1) := by decide +kernel
theorem d_Mo_edge_92 : decode b_Mo_edge 92 = .ok (.ifCond .le 7, 3) := by decide +kernel
theorem d_Mo_edge_95 : decode b_Mo_edge 95 = .ok (.iload_n 2, 1) := by decide +kernel
theorem d_Mo_edge_96 : decode b_Mo_edge 96 = .ok (.goto 4, 3) := by decide +kernel
theorem d_Mo_edge_99 : decode b_Mo_edge 99 = .ok (.iconst (-1), 1) := by decide +kernel
theorem d_Mo_edge_100 : decode b_Mo_edge 100 = .ok (.istore 5, 2) := by decide +kernel
theorem d_Mo_edge_102 : decode b_Mo_edge 102 = .ok (.aload_n 0, 1) := by decide +kernel
theorem d_Mo_edge_103 : decode b_Mo_edge 103 = .ok (.getfield 7, 3) := by decide +kernel
theorem d_Mo_edge_106 : decode b_Mo_edge 106 = .ok (.iload_n 1, 1) := by decide +kernel
theorem d_Mo_edge_107 : decode b_Mo_edge 107 = .ok (.iaload, 1) := by decide +kernel
theorem d_Mo_edge_108 : decode b_Mo_edge 108 = .ok (.iconst 1, 1) := by decide +kernel
theorem d_Mo_edge_109 : decode b_Mo_edge 109 = .ok (.if_icmp .le 7, 3) := by decide +kernel
theorem d_Mo_edge_112 : decode b_Mo_edge 112 = .ok (.iload_n 3, 1) := by decide +kernel
theorem d_Mo_edge_113 : decode b_Mo_edge 113 = .ok (.goto 4, 3) := by decide +kernel
theorem d_Mo_edge_116 : decode b_Mo_edge 116 = .ok (.iconst (-1), 1) := by decide +kernel
theorem d_Mo_edge_117 : decode b_Mo_edge 117 = .ok (.istore 6, 2) := by decide +kernel
theorem d_Mo_edge_119 : decode b_Mo_edge 119 = .ok (.iconst 0, 1) := by decide +kernel
theorem d_Mo_edge_120 : decode b_Mo_edge 120 = .ok (.istore 7, 2) := by decide +kernel
theorem d_Mo_edge_122 : decode b_Mo_edge 122 = .ok (.iload 7, 2) := by decide +kernel
theorem d_Mo_edge_124 : decode b_Mo_edge 124 = .ok (.aload_n 0, 1) := by decide +kernel
theorem d_Mo_edge_125 : decode b_Mo_edge 125 = .ok (.getfield 109, 3) := by decide +kernel
theorem d_Mo_edge_128 : decode b_Mo_edge 128 = .ok (.if_icmp .ge 72, 3) := by decide +kernel
theorem d_Mo_edge_131 : decode b_Mo_edge 131 = .ok (.aload_n 0, 1) := by decide +kernel
theorem d_Mo_edge_132 : decode b_Mo_edge 132 = .ok (.getfield 28, 3) := by decide +kernel
theorem d_Mo_edge_135 : decode b_Mo_edge 135 = .ok (.iconst 4, 1) := by decide +kernel
theorem d_Mo_edge_136 : decode b_Mo_edge 136 = .ok (.iload 7, 2) := by decide +kernel
theorem d_Mo_edge_138 : decode b_Mo_edge 138 = .ok (.imul, 1) := by decide +kernel
theorem d_Mo_edge_139 : decode b_Mo_edge 139 = .ok (.iaload, 1) := by decide +kernel
theorem d_Mo_edge_140 : decode b_Mo_edge 140 = .ok (.iload_n 1, 1) := by decide +kernel
theorem d_Mo_edge_141 : decode b_Mo_edge 141 = .ok (.if_icmp .ne 53, 3) := by decide +kernel
theorem d_Mo_edge_144 : decode b_Mo_edge 144 = .ok (.aload_n 0, 1) := by decide +kernel
theorem d_Mo_edge_145 : decode b_Mo_edge 145 = .ok (.getfield 28, 3) := by decide +kernel
theorem d_Mo_edge_148 : decode b_Mo_edge 148 = .ok (.iconst 4, 1) := by decide +kernel
theorem d_Mo_edge_149 : decode b_Mo_edge 149 = .ok (.iload 7, 2) := by decide +kernel
theorem d_Mo_edge_151 : decode b_Mo_edge 151 = .ok (.imul, 1) := by decide +kernel
theorem d_Mo_edge_152 : decode b_Mo_edge 152 = .ok (.iconst 1, 1) := by decide +kernel
theorem d_Mo_edge_153 : decode b_Mo_edge 153 = .ok (.iadd, 1) := by decide +kernel
theorem d_Mo_edge_154 : decode b_Mo_edge 154 = .ok (.iaload, 1) := by decide +kernel
theorem d_Mo_edge_155 : decode b_Mo_edge 155 = .ok (.iload 5, 2) := by decide +kernel
theorem d_Mo_edge_157 : decode b_Mo_edge 157 = .ok (.if_icmp .ne 37, 3) := by decide +kernel
theorem d_Mo_edge_160 : decode b_Mo_edge 160 = .ok (.aload_n 0, 1) := by decide +kernel
theorem d_Mo_edge_161 : decode b_Mo_edge 161 = .ok (.getfield 28, 3) := by decide +kernel
theorem d_Mo_edge_164 : decode b_Mo_edge 164 = .ok (.iconst 4, 1) := by decide +kernel
theorem d_Mo_edge_165 : decode b_Mo_edge 165 = .ok (.iload 7, 2) := by decide +kernel
theorem d_Mo_edge_167 : decode b_Mo_edge 167 = .ok (.imul, 1) := by decide +kernel
theorem d_Mo_edge_168 : decode b_Mo_edge 168 = .ok (.iconst 2, 1) := by decide +kernel
theorem d_Mo_edge_169 : decode b_Mo_edge 169 = .ok (.iadd, 1) := by decide +kernel
theorem d_Mo_edge_170 : decode b_Mo_edge 170 = .ok (.iaload, 1) := by decide +kernel
theorem d_Mo_edge_171 : decode b_Mo_edge 171 = .ok (.iload 6, 2) := by decide +kernel
theorem d_Mo_edge_173 : decode b_Mo_edge 173 = .ok (.if_icmp .ne 21, 3) := by decide +kernel
theorem d_Mo_edge_176 : decode b_Mo_edge 176 = .ok (.aload_n 0, 1) := by decide +kernel
theorem d_Mo_edge_177 : decode b_Mo_edge 177 = .ok (.getfield 28, 3) := by decide +kernel
theorem d_Mo_edge_180 : decode b_Mo_edge 180 = .ok (.iconst 4, 1) := by decide +kernel
theorem d_Mo_edge_181 : decode b_Mo_edge 181 = .ok (.iload 7, 2) := by decide +kernel
theorem d_Mo_edge_183 : decode b_Mo_edge 183 = .ok (.imul, 1) := by decide +kernel
theorem d_Mo_edge_184 : decode b_Mo_edge 184 = .ok (.iconst 3, 1) := by decide +kernel
theorem d_Mo_edge_185 : decode b_Mo_edge 185 = .ok (.iadd, 1) := by decide +kernel
theorem d_Mo_edge_186 : decode b_Mo_edge 186 = .ok (.iaload, 1) := by decide +kernel
theorem d_Mo_edge_187 : decode b_Mo_edge 187 = .ok (.iload 4, 2) := by decide +kernel
theorem d_Mo_edge_189 : decode b_Mo_edge 189 = .ok (.if_icmp .ne 5, 3) := by decide +kernel
theorem d_Mo_edge_192 : decode b_Mo_edge 192 = .ok (.iconst 0, 1) := by decide +kernel
theorem d_Mo_edge_193 : decode b_Mo_edge 193 = .ok (.ireturn, 1) := by decide +kernel
theorem d_Mo_edge_194 : decode b_Mo_edge 194 = .ok (.iinc 7 1, 3) := by decide +kernel
theorem d_Mo_edge_197 : decode b_Mo_edge 197 = .ok (.goto (-75), 3) := by decide +kernel
theorem d_Mo_edge_200 : decode b_Mo_edge 200 = .ok (.aload_n 0, 1) := by decide +kernel
theorem d_Mo_edge_201 : decode b_Mo_edge 201 = .ok (.aload_n 0, 1) := by decide +kernel
theorem d_Mo_edge_202 : decode b_Mo_edge 202 = .ok (.getfield 109, 3) := by decide +kernel
theorem d_Mo_edge_205 : decode b_Mo_edge 205 = .ok (.bipush 20, 2) := by decide +kernel
theorem d_Mo_edge_207 : decode b_Mo_edge 207 = .ok (.if_icmp .ne 7, 3) := by decide +kernel
theorem d_Mo_edge_210 : decode b_Mo_edge 210 = .ok (.iconst 2, 1) := by decide +kernel
theorem d_Mo_edge_211 : decode b_Mo_edge 211 = .ok (.goto 4, 3) := by decide +kernel
theorem d_Mo_edge_214 : decode b_Mo_edge 214 = .ok (.iconst 0, 1) := by decide +kernel
theorem d_Mo_edge_215 : decode b_Mo_edge 215 = .ok (.putfield 68, 3) := by decide +kernel
theorem d_Mo_edge_218 : decode b_Mo_edge 218 = .ok (.aload_n 0, 1) := by decide +kernel
theorem d_Mo_edge_219 : decode b_Mo_edge 219 = .ok (.getfield 68, 3) := by decide +kernel
theorem d_Mo_edge_222 : decode b_Mo_edge 222 = .ok (.ifCond .le 5, 3) := by decide +kernel
theorem d_Mo_edge_225 : decode b_Mo_edge 225 = .ok (.iconst 0, 1) := by decide +kernel
theorem d_Mo_edge_226 : decode b_Mo_edge 226 = .ok (.ireturn, 1) := by decide +kernel
theorem d_Mo_edge_227 : decode b_Mo_edge 227 = .ok (.aload_n 0, 1) := by decide +kernel
theorem d_Mo_edge_228 : decode b_Mo_edge 228 = .ok (.getfield 28, 3) := by decide +kernel
theorem d_Mo_edge_231 : decode b_Mo_edge 231 = .ok (.iconst 4, 1) := by decide +kernel
theorem d_Mo_edge_232 : decode b_Mo_edge 232 = .ok (.aload_n 0, 1) := by decide +kernel
theorem d_Mo_edge_233 : decode b_Mo_edge 233 = .ok (.getfield 109, 3) := by decide +kernel
theorem d_Mo_edge_236 : decode b_Mo_edge 236 = .ok (.imul, 1) := by decide +kernel
theorem d_Mo_edge_237 : decode b_Mo_edge 237 = .ok (.iload_n 1, 1) := by decide +kernel
theorem d_Mo_edge_238 : decode b_Mo_edge 238 = .ok (.iastore, 1) := by decide +kernel
theorem d_Mo_edge_239 : decode b_Mo_edge 239 = .ok (.aload_n 0, 1) := by decide +kernel
theorem d_Mo_edge_240 : decode b_Mo_edge 240 = .ok (.getfield 28, 3) := by decide +kernel
theorem d_Mo_edge_243 : decode b_Mo_edge 243 = .ok (.iconst 4, 1) := by decide +kernel
theorem d_Mo_edge_244 : decode b_Mo_edge 244 = .ok (.aload_n 0, 1) := by decide +kernel
theorem d_Mo_edge_245 : decode b_Mo_edge 245 = .ok (.getfield 109, 3) := by decide +kernel
theorem d_Mo_edge_248 : decode b_Mo_edge 248 = .ok (.imul, 1) := by decide +kernel
theorem d_Mo_edge_249 : decode b_Mo_edge 249 = .ok (.iconst 1, 1) := by decide +kernel
theorem d_Mo_edge_250 : decode b_Mo_edge 250 = .ok (.iadd, 1) := by decide +kernel
theorem d_Mo_edge_251 : decode b_Mo_edge 251 = .ok (.iload 5, 2) := by decide +kernel
theorem d_Mo_edge_253 : decode b_Mo_edge 253 = .ok (.iastore, 1) := by decide +kernel
theorem d_Mo_edge_254 : decode b_Mo_edge 254 = .ok (.aload_n 0, 1) := by decide +kernel
theorem d_Mo_edge_255 : decode b_Mo_edge 255 = .ok (.getfield 28, 3) := by decide +kernel
theorem d_Mo_edge_258 : decode b_Mo_edge 258 = .ok (.iconst 4, 1) := by decide +kernel
theorem d_Mo_edge_259 : decode b_Mo_edge 259 = .ok (.aload_n 0, 1) := by decide +kernel
theorem d_Mo_edge_260 : decode b_Mo_edge 260 = .ok (.getfield 109, 3) := by decide +kernel
theorem d_Mo_edge_263 : decode b_Mo_edge 263 = .ok (.imul, 1) := by decide +kernel
theorem d_Mo_edge_264 : decode b_Mo_edge 264 = .ok (.iconst 2, 1) := by decide +kernel
theorem d_Mo_edge_265 : decode b_Mo_edge 265 = .ok (.iadd, 1) := by decide +kernel
theorem d_Mo_edge_266 : decode b_Mo_edge 266 = .ok (.iload 6, 2) := by decide +kernel
theorem d_Mo_edge_268 : decode b_Mo_edge 268 = .ok (.iastore, 1) := by decide +kernel
theorem d_Mo_edge_269 : decode b_Mo_edge 269 = .ok (.aload_n 0, 1) := by decide +kernel
theorem d_Mo_edge_270 : decode b_Mo_edge 270 = .ok (.getfield 28, 3) := by decide +kernel
theorem d_Mo_edge_273 : decode b_Mo_edge 273 = .ok (.iconst 4, 1) := by decide +kernel
theorem d_Mo_edge_274 : decode b_Mo_edge 274 = .ok (.aload_n 0, 1) := by decide +kernel
theorem d_Mo_edge_275 : decode b_Mo_edge 275 = .ok (.getfield 109, 3) := by decide +kernel
theorem d_Mo_edge_278 : decode b_Mo_edge 278 = .ok (.imul, 1) := by decide +kernel
theorem d_Mo_edge_279 : decode b_Mo_edge 279 = .ok (.iconst 3, 1) := by decide +kernel
theorem d_Mo_edge_280 : decode b_Mo_edge 280 = .ok (.iadd, 1) := by decide +kernel
theorem d_Mo_edge_281 : decode b_Mo_edge 281 = .ok (.iload 4, 2) := by decide +kernel
theorem d_Mo_edge_283 : decode b_Mo_edge 283 = .ok (.iastore, 1) := by decide +kernel
theorem d_Mo_edge_284 : decode b_Mo_edge 284 = .ok (.aload_n 0, 1) := by decide +kernel
theorem d_Mo_edge_285 : decode b_Mo_edge 285 = .ok (.dup, 1) := by decide +kernel
theorem d_Mo_edge_286 : decode b_Mo_edge 286 = .ok (.getfield 109, 3) := by decide +kernel
theorem d_Mo_edge_289 : decode b_Mo_edge 289 = .ok (.iconst 1, 1) := by decide +kernel
theorem d_Mo_edge_290 : decode b_Mo_edge 290 = .ok (.iadd, 1) := by decide +kernel
theorem d_Mo_edge_291 : decode b_Mo_edge 291 = .ok (.putfield 109, 3) := by decide +kernel
theorem d_Mo_edge_294 : decode b_Mo_edge 294 = .ok (.iconst 1, 1) := by decide +kernel
theorem d_Mo_edge_295 : decode b_Mo_edge 295 = .ok (.ireturn, 1) := by decide +kernel
abbrev b_Mo_mark : ByteArray := prog_10_method_16_code
def y_Mo_mark : MethodName := ⟨R_Mo, "mark", "(IZ)Z"⟩
theorem k_Mo_mark : kV y_Mo_mark b_Mo_mark 4 (some .boolean) 2 := ⟨gmem (List.mem_append_right _ (List.mem_of_getElem? (i := 905) (by decide +kernel))) (by decide +kernel), gmem (List.mem_append_right _ (List.mem_of_getElem? (i := 906) (by decide +kernel))) (by decide +kernel), in_Mo, gmem (List.mem_append_right _ (List.mem_of_getElem? (i := 907) (by decide +kernel))) (by decide +kernel), by decide, by decide, by decide +kernel⟩
theorem d_Mo_mark_0 : decode b_Mo_mark 0 = .ok (.aload_n 0, 1) := by decide +kernel
theorem d_Mo_mark_1 : decode b_Mo_mark 1 = .ok (.iconst 0, 1) := by decide +kernel
theorem d_Mo_mark_2 : decode b_Mo_mark 2 = .ok (.putfield 68, 3) := by decide +kernel
theorem d_Mo_mark_5 : decode b_Mo_mark 5 = .ok (.iload_n 1, 1) := by decide +kernel
theorem d_Mo_mark_6 : decode b_Mo_mark 6 = .ok (.invokestatic 106, 3) := by decide +kernel
theorem d_Mo_mark_9 : decode b_Mo_mark 9 = .ok (.ifCond .ne 5, 3) := by decide +kernel
theorem d_Mo_mark_12 : decode b_Mo_mark 12 = .ok (.iconst 0, 1) := by decide +kernel
theorem d_Mo_mark_13 : decode b_Mo_mark 13 = .ok (.ireturn, 1) := by decide +kernel
theorem d_Mo_mark_14 : decode b_Mo_mark 14 = .ok (.aload_n 0, 1) := by decide +kernel
theorem d_Mo_mark_15 : decode b_Mo_mark 15 = .ok (.getfield 112, 3) := by decide +kernel
theorem d_Mo_mark_18 : decode b_Mo_mark 18 = .ok (.iload_n 1, 1) := by decide +kernel
theorem d_Mo_mark_19 : decode b_Mo_mark 19 = .ok (.ishr, 1) := by decide +kernel
theorem d_Mo_mark_20 : decode b_Mo_mark 20 = .ok (.iconst 1, 1) := by decide +kernel
theorem d_Mo_mark_21 : decode b_Mo_mark 21 = .ok (.iand, 1) := by decide +kernel
theorem d_Mo_mark_22 : decode b_Mo_mark 22 = .ok (.iconst 1, 1) := by decide +kernel
theorem d_Mo_mark_23 : decode b_Mo_mark 23 = .ok (.if_icmp .ne 7, 3) := by decide +kernel
theorem d_Mo_mark_26 : decode b_Mo_mark 26 = .ok (.iconst 1, 1) := by decide +kernel
theorem d_Mo_mark_27 : decode b_Mo_mark 27 = .ok (.goto 4, 3) := by decide +kernel
theorem d_Mo_mark_30 : decode b_Mo_mark 30 = .ok (.iconst 0, 1) := by decide +kernel
theorem d_Mo_mark_31 : decode b_Mo_mark 31 = .ok (.istore_n 3, 1) := by decide +kernel
theorem d_Mo_mark_32 : decode b_Mo_mark 32 = .ok (.aload_n 0, 1) := by decide +kernel
theorem d_Mo_mark_33 : decode b_Mo_mark 33 = .ok (.iload_n 2, 1) := by decide +kernel
theorem d_Mo_mark_34 : decode b_Mo_mark 34 = .ok (.ifCond .eq 14, 3) := by decide +kernel
theorem d_Mo_mark_37 : decode b_Mo_mark 37 = .ok (.aload_n 0, 1) := by decide +kernel
theorem d_Mo_mark_38 : decode b_Mo_mark 38 = .ok (.getfield 112, 3) := by decide +kernel
theorem d_Mo_mark_41 : decode b_Mo_mark 41 = .ok (.iconst 1, 1) := by decide +kernel
theorem d_Mo_mark_42 : decode b_Mo_mark 42 = .ok (.iload_n 1, 1) := by decide +kernel
theorem d_Mo_mark_43 : decode b_Mo_mark 43 = .ok (.ishl, 1) := by decide +kernel
theorem d_Mo_mark_44 : decode b_Mo_mark 44 = .ok (.ior, 1) := by decide +kernel
theorem d_Mo_mark_45 : decode b_Mo_mark 45 = .ok (.goto 13, 3) := by decide +kernel
theorem d_Mo_mark_48 : decode b_Mo_mark 48 = .ok (.aload_n 0, 1) := by decide +kernel
theorem d_Mo_mark_49 : decode b_Mo_mark 49 = .ok (.getfield 112, 3) := by decide +kernel
theorem d_Mo_mark_52 : decode b_Mo_mark 52 = .ok (.iconst 1, 1) := by decide +kernel
theorem d_Mo_mark_53 : decode b_Mo_mark 53 = .ok (.iload_n 1, 1) := by decide +kernel
theorem d_Mo_mark_54 : decode b_Mo_mark 54 = .ok (.ishl, 1) := by decide +kernel
theorem d_Mo_mark_55 : decode b_Mo_mark 55 = .ok (.iconst (-1), 1) := by decide +kernel
theorem d_Mo_mark_56 : decode b_Mo_mark 56 = .ok (.ixor, 1) := by decide +kernel
theorem d_Mo_mark_57 : decode b_Mo_mark 57 = .ok (.iand, 1) := by decide +kernel
theorem d_Mo_mark_58 : decode b_Mo_mark 58 = .ok (.putfield 112, 3) := by decide +kernel
theorem d_Mo_mark_61 : decode b_Mo_mark 61 = .ok (.iload_n 3, 1) := by decide +kernel
theorem d_Mo_mark_62 : decode b_Mo_mark 62 = .ok (.iload_n 2, 1) := by decide +kernel
theorem d_Mo_mark_63 : decode b_Mo_mark 63 = .ok (.if_icmp .eq 7, 3) := by decide +kernel
theorem d_Mo_mark_66 : decode b_Mo_mark 66 = .ok (.iconst 1, 1) := by decide +kernel
theorem d_Mo_mark_67 : decode b_Mo_mark 67 = .ok (.goto 4, 3) := by decide +kernel
theorem d_Mo_mark_70 : decode b_Mo_mark 70 = .ok (.iconst 0, 1) := by decide +kernel
theorem d_Mo_mark_71 : decode b_Mo_mark 71 = .ok (.ireturn, 1) := by decide +kernel
abbrev b_Mo_parts : ByteArray := prog_10_method_17_code
def y_Mo_parts : MethodName := ⟨R_Mo, "parts", "([ZII)Z"⟩
theorem k_Mo_parts : kV y_Mo_parts b_Mo_parts 4 (some .boolean) 3 := ⟨gmem (List.mem_append_right _ (List.mem_of_getElem? (i := 922) (by decide +kernel))) (by decide +kernel), gmem (List.mem_append_left _ (List.mem_of_getElem? (i := 33) (by decide +kernel))) (by decide +kernel), in_Mo, gmem (List.mem_append_right _ (List.mem_of_getElem? (i := 923) (by decide +kernel))) (by decide +kernel), by decide, by decide, by decide +kernel⟩
theorem d_Mo_parts_0 : decode b_Mo_parts 0 = .ok (.aload_n 0, 1) := by decide +kernel
theorem d_Mo_parts_1 : decode b_Mo_parts 1 = .ok (.getfield 13, 3) := by decide +kernel
theorem d_Mo_parts_4 : decode b_Mo_parts 4 = .ok (.iload_n 2, 1) := by decide +kernel
theorem d_Mo_parts_5 : decode b_Mo_parts 5 = .ok (.iaload, 1) := by decide +kernel
theorem d_Mo_parts_6 : decode b_Mo_parts 6 = .ok (.aload_n 0, 1) := by decide +kernel
theorem d_Mo_parts_7 : decode b_Mo_parts 7 = .ok (.getfield 13, 3) := by decide +kernel
theorem d_Mo_parts_10 : decode b_Mo_parts 10 = .ok (.iload_n 3, 1) := by decide +kernel
theorem d_Mo_parts_11 : decode b_Mo_parts 11 = .ok (.iaload, 1) := by decide +kernel
theorem d_Mo_parts_12 : decode b_Mo_parts 12 = .ok (.if_icmp .eq 5, 3) := by decide +kernel
theorem d_Mo_parts_15 : decode b_Mo_parts 15 = .ok (.iconst 0, 1) := by decide +kernel
theorem d_Mo_parts_16 : decode b_Mo_parts 16 = .ok (.ireturn, 1) := by decide +kernel
theorem d_Mo_parts_17 : decode b_Mo_parts 17 = .ok (.aload_n 0, 1) := by decide +kernel
theorem d_Mo_parts_18 : decode b_Mo_parts 18 = .ok (.getfield 16, 3) := by decide +kernel
theorem d_Mo_parts_21 : decode b_Mo_parts 21 = .ok (.iload_n 2, 1) := by decide +kernel
theorem d_Mo_parts_22 : decode b_Mo_parts 22 = .ok (.iaload, 1) := by decide +kernel
theorem d_Mo_parts_23 : decode b_Mo_parts 23 = .ok (.ifCond .lt 24, 3) := by decide +kernel
theorem d_Mo_parts_26 : decode b_Mo_parts 26 = .ok (.aload_n 1, 1) := by decide +kernel
theorem d_Mo_parts_27 : decode b_Mo_parts 27 = .ok (.bipush 48, 2) := by decide +kernel
theorem d_Mo_parts_29 : decode b_Mo_parts 29 = .ok (.aload_n 0, 1) := by decide +kernel
theorem d_Mo_parts_30 : decode b_Mo_parts 30 = .ok (.getfield 16, 3) := by decide +kernel
theorem d_Mo_parts_33 : decode b_Mo_parts 33 = .ok (.iload_n 2, 1) := by decide +kernel
theorem d_Mo_parts_34 : decode b_Mo_parts 34 = .ok (.iaload, 1) := by decide +kernel
theorem d_Mo_parts_35 : decode b_Mo_parts 35 = .ok (.imul, 1) := by decide +kernel
theorem d_Mo_parts_36 : decode b_Mo_parts 36 = .ok (.aload_n 0, 1) := by decide +kernel
theorem d_Mo_parts_37 : decode b_Mo_parts 37 = .ok (.getfield 16, 3) := by decide +kernel
theorem d_Mo_parts_40 : decode b_Mo_parts 40 = .ok (.iload_n 3, 1) := by decide +kernel
theorem d_Mo_parts_41 : decode b_Mo_parts 41 = .ok (.iaload, 1) := by decide +kernel
theorem d_Mo_parts_42 : decode b_Mo_parts 42 = .ok (.iadd, 1) := by decide +kernel
theorem d_Mo_parts_43 : decode b_Mo_parts 43 = .ok (.baload, 1) := by decide +kernel
theorem d_Mo_parts_44 : decode b_Mo_parts 44 = .ok (.ifCond .eq 37, 3) := by decide +kernel
theorem d_Mo_parts_47 : decode b_Mo_parts 47 = .ok (.aload_n 0, 1) := by decide +kernel
theorem d_Mo_parts_48 : decode b_Mo_parts 48 = .ok (.getfield 19, 3) := by decide +kernel
theorem d_Mo_parts_51 : decode b_Mo_parts 51 = .ok (.iload_n 2, 1) := by decide +kernel
theorem d_Mo_parts_52 : decode b_Mo_parts 52 = .ok (.iaload, 1) := by decide +kernel
theorem d_Mo_parts_53 : decode b_Mo_parts 53 = .ok (.ifCond .lt 24, 3) := by decide +kernel
theorem d_Mo_parts_56 : decode b_Mo_parts 56 = .ok (.aload_n 1, 1) := by decide +kernel
theorem d_Mo_parts_57 : decode b_Mo_parts 57 = .ok (.bipush 48, 2) := by decide +kernel
theorem d_Mo_parts_59 : decode b_Mo_parts 59 = .ok (.aload_n 0, 1) := by decide +kernel
theorem d_Mo_parts_60 : decode b_Mo_parts 60 = .ok (.getfield 19, 3) := by decide +kernel
theorem d_Mo_parts_63 : decode b_Mo_parts 63 = .ok (.iload_n 2, 1) := by decide +kernel
theorem d_Mo_parts_64 : decode b_Mo_parts 64 = .ok (.iaload, 1) := by decide +kernel
theorem d_Mo_parts_65 : decode b_Mo_parts 65 = .ok (.imul, 1) := by decide +kernel
theorem d_Mo_parts_66 : decode b_Mo_parts 66 = .ok (.aload_n 0, 1) := by decide +kernel
theorem d_Mo_parts_67 : decode b_Mo_parts 67 = .ok (.getfield 19, 3) := by decide +kernel
theorem d_Mo_parts_70 : decode b_Mo_parts 70 = .ok (.iload_n 3, 1) := by decide +kernel
theorem d_Mo_parts_71 : decode b_Mo_parts 71 = .ok (.iaload, 1) := by decide +kernel
theorem d_Mo_parts_72 : decode b_Mo_parts 72 = .ok (.iadd, 1) := by decide +kernel
theorem d_Mo_parts_73 : decode b_Mo_parts 73 = .ok (.baload, 1) := by decide +kernel
theorem d_Mo_parts_74 : decode b_Mo_parts 74 = .ok (.ifCond .eq 7, 3) := by decide +kernel
theorem d_Mo_parts_77 : decode b_Mo_parts 77 = .ok (.iconst 1, 1) := by decide +kernel
theorem d_Mo_parts_78 : decode b_Mo_parts 78 = .ok (.goto 4, 3) := by decide +kernel
theorem d_Mo_parts_81 : decode b_Mo_parts 81 = .ok (.iconst 0, 1) := by decide +kernel
theorem d_Mo_parts_82 : decode b_Mo_parts 82 = .ok (.ireturn, 1) := by decide +kernel
abbrev b_Mo_byRule : ByteArray := prog_10_method_18_code
def y_Mo_byRule : MethodName := ⟨R_Mo, "byRule", "([ZII)Z"⟩
theorem k_Mo_byRule : kV y_Mo_byRule b_Mo_byRule 6 (some .boolean) 3 := ⟨gmem (List.mem_append_right _ (List.mem_of_getElem? (i := 926) (by decide +kernel))) (by decide +kernel), gmem (List.mem_append_left _ (List.mem_of_getElem? (i := 34) (by decide +kernel))) (by decide +kernel), in_Mo, gmem (List.mem_append_right _ (List.mem_of_getElem? (i := 927) (by decide +kernel))) (by decide +kernel), by decide, by decide, by decide +kernel⟩
theorem d_Mo_byRule_0 : decode b_Mo_byRule 0 = .ok (.iconst 0, 1) := by decide +kernel
theorem d_Mo_byRule_1 : decode b_Mo_byRule 1 = .ok (.istore 4, 2) := by decide +kernel
theorem d_Mo_byRule_3 : decode b_Mo_byRule 3 = .ok (.iconst 0, 1) := by decide +kernel
theorem d_Mo_byRule_4 : decode b_Mo_byRule 4 = .ok (.istore 5, 2) := by decide +kernel
theorem d_Mo_byRule_6 : decode b_Mo_byRule 6 = .ok (.iload 5, 2) := by decide +kernel
theorem d_Mo_byRule_8 : decode b_Mo_byRule 8 = .ok (.aload_n 0, 1) := by decide +kernel
theorem d_Mo_byRule_9 : decode b_Mo_byRule 9 = .ok (.getfield 93, 3) := by decide +kernel
theorem d_Mo_byRule_12 : decode b_Mo_byRule 12 = .ok (.if_icmp .ge 58, 3) := by decide +kernel
theorem d_Mo_byRule_15 : decode b_Mo_byRule 15 = .ok (.iload 4, 2) := by decide +kernel
theorem d_Mo_byRule_17 : decode b_Mo_byRule 17 = .ok (.ifCond .ne 40, 3) := by decide +kernel
theorem d_Mo_byRule_20 : decode b_Mo_byRule 20 = .ok (.aload_n 0, 1) := by decide +kernel
theorem d_Mo_byRule_21 : decode b_Mo_byRule 21 = .ok (.getfield 31, 3) := by decide +kernel
theorem d_Mo_byRule_24 : decode b_Mo_byRule 24 = .ok (.bipush 48, 2) := by decide +kernel
theorem d_Mo_byRule_26 : decode b_Mo_byRule 26 = .ok (.iload_n 2, 1) := by decide +kernel
theorem d_Mo_byRule_27 : decode b_Mo_byRule 27 = .ok (.imul, 1) := by decide +kernel
theorem d_Mo_byRule_28 : decode b_Mo_byRule 28 = .ok (.aload_n 0, 1) := by decide +kernel
theorem d_Mo_byRule_29 : decode b_Mo_byRule 29 = .ok (.getfield 22, 3) := by decide +kernel
theorem d_Mo_byRule_32 : decode b_Mo_byRule 32 = .ok (.iload 5, 2) := by decide +kernel
theorem d_Mo_byRule_34 : decode b_Mo_byRule 34 = .ok (.iaload, 1) := by decide +kernel
theorem d_Mo_byRule_35 : decode b_Mo_byRule 35 = .ok (.iadd, 1) := by decide +kernel
theorem d_Mo_byRule_36 : decode b_Mo_byRule 36 = .ok (.baload, 1) := by decide +kernel
theorem d_Mo_byRule_37 : decode b_Mo_byRule 37 = .ok (.ifCond .eq 24, 3) := by decide +kernel
theorem d_Mo_byRule_40 : decode b_Mo_byRule 40 = .ok (.aload_n 1, 1) := by decide +kernel
theorem d_Mo_byRule_41 : decode b_Mo_byRule 41 = .ok (.bipush 48, 2) := by decide +kernel
theorem d_Mo_byRule_43 : decode b_Mo_byRule 43 = .ok (.aload_n 0, 1) := by decide +kernel
theorem d_Mo_byRule_44 : decode b_Mo_byRule 44 = .ok (.getfield 25, 3) := by decide +kernel
theorem d_Mo_byRule_47 : decode b_Mo_byRule 47 = .ok (.iload 5, 2) := by decide +kernel
theorem d_Mo_byRule_49 : decode b_Mo_byRule 49 = .ok (.iaload, 1) := by decide +kernel
theorem d_Mo_byRule_50 : decode b_Mo_byRule 50 = .ok (.imul, 1) := by decide +kernel
