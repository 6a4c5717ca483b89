theorem d_Re_findReached_79 : decode b_Re_findReached 79 = .ok (.iload_n 3, 1) := by decide +kernel
theorem d_Re_findReached_80 : decode b_Re_findReached 80 = .ok (.sipush 2305, 3) := by decide +kernel
theorem d_Re_findReached_83 : decode b_Re_findReached 83 = .ok (.if_icmp .ge 28, 3) := by decide +kernel
theorem d_Re_findReached_86 : decode b_Re_findReached 86 = .ok (.iload_n 2, 1) := by decide +kernel
theorem d_Re_findReached_87 : decode b_Re_findReached 87 = .ok (.ifCond .eq 24, 3) := by decide +kernel
theorem d_Re_findReached_90 : decode b_Re_findReached 90 = .ok (.aload_n 0, 1) := by decide +kernel
theorem d_Re_findReached_91 : decode b_Re_findReached 91 = .ok (.iload_n 1, 1) := by decide +kernel
theorem d_Re_findReached_92 : decode b_Re_findReached 92 = .ok (.invokevirtual 77, 3) := by decide +kernel
theorem d_Re_findReached_95 : decode b_Re_findReached 95 = .ok (.aload_n 0, 1) := by decide +kernel
theorem d_Re_findReached_96 : decode b_Re_findReached 96 = .ok (.aload_n 0, 1) := by decide +kernel
theorem d_Re_findReached_97 : decode b_Re_findReached 97 = .ok (.getfield 9, 3) := by decide +kernel
theorem d_Re_findReached_100 : decode b_Re_findReached 100 = .ok (.iload_n 1, 1) := by decide +kernel
theorem d_Re_findReached_101 : decode b_Re_findReached 101 = .ok (.invokevirtual 81, 3) := by decide +kernel
theorem d_Re_findReached_104 : decode b_Re_findReached 104 = .ok (.istore_n 2, 1) := by decide +kernel
theorem d_Re_findReached_105 : decode b_Re_findReached 105 = .ok (.iinc 3 1, 3) := by decide +kernel
theorem d_Re_findReached_108 : decode b_Re_findReached 108 = .ok (.goto (-29), 3) := by decide +kernel
theorem d_Re_findReached_111 : decode b_Re_findReached 111 = .ok (.return_, 1) := by decide +kernel
abbrev b_Re_renew : ByteArray := prog_5_method_2_code
def y_Re_renew : MethodName := ⟨R_Re, "renew", "()V"⟩
theorem k_Re_renew : kV y_Re_renew b_Re_renew 1 none 0 := ⟨gmem (List.mem_append_right _ (List.mem_of_getElem? (i := 497) (by decide +kernel))) (by decide +kernel), gmem (List.mem_append_right _ (List.mem_of_getElem? (i := 498) (by decide +kernel))) (by decide +kernel), in_Re, gmem (List.mem_append_right _ (List.mem_of_getElem? (i := 499) (by decide +kernel))) (by decide +kernel), by decide, by decide, by decide +kernel⟩
theorem d_Re_renew_0 : decode b_Re_renew 0 = .ok (.aload_n 0, 1) := by decide +kernel
theorem d_Re_renew_1 : decode b_Re_renew 1 = .ok (.getfield 22, 3) := by decide +kernel
theorem d_Re_renew_4 : decode b_Re_renew 4 = .ok (.aload_n 0, 1) := by decide +kernel
theorem d_Re_renew_5 : decode b_Re_renew 5 = .ok (.getfield 29, 3) := by decide +kernel
theorem d_Re_renew_8 : decode b_Re_renew 8 = .ok (.invokevirtual 37, 3) := by decide +kernel
theorem d_Re_renew_11 : decode b_Re_renew 11 = .ok (.if_icmp .ne 18, 3) := by decide +kernel
theorem d_Re_renew_14 : decode b_Re_renew 14 = .ok (.aload_n 0, 1) := by decide +kernel
theorem d_Re_renew_15 : decode b_Re_renew 15 = .ok (.getfield 26, 3) := by decide +kernel
theorem d_Re_renew_18 : decode b_Re_renew 18 = .ok (.aload_n 0, 1) := by decide +kernel
theorem d_Re_renew_19 : decode b_Re_renew 19 = .ok (.getfield 33, 3) := by decide +kernel
theorem d_Re_renew_22 : decode b_Re_renew 22 = .ok (.invokevirtual 43, 3) := by decide +kernel
theorem d_Re_renew_25 : decode b_Re_renew 25 = .ok (.if_icmp .ne 4, 3) := by decide +kernel
theorem d_Re_renew_28 : decode b_Re_renew 28 = .ok (.return_, 1) := by decide +kernel
theorem d_Re_renew_29 : decode b_Re_renew 29 = .ok (.aload_n 0, 1) := by decide +kernel
theorem d_Re_renew_30 : decode b_Re_renew 30 = .ok (.aload_n 0, 1) := by decide +kernel
theorem d_Re_renew_31 : decode b_Re_renew 31 = .ok (.getfield 29, 3) := by decide +kernel
theorem d_Re_renew_34 : decode b_Re_renew 34 = .ok (.invokevirtual 37, 3) := by decide +kernel
theorem d_Re_renew_37 : decode b_Re_renew 37 = .ok (.putfield 22, 3) := by decide +kernel
theorem d_Re_renew_40 : decode b_Re_renew 40 = .ok (.aload_n 0, 1) := by decide +kernel
theorem d_Re_renew_41 : decode b_Re_renew 41 = .ok (.aload_n 0, 1) := by decide +kernel
theorem d_Re_renew_42 : decode b_Re_renew 42 = .ok (.getfield 33, 3) := by decide +kernel
theorem d_Re_renew_45 : decode b_Re_renew 45 = .ok (.invokevirtual 43, 3) := by decide +kernel
theorem d_Re_renew_48 : decode b_Re_renew 48 = .ok (.putfield 26, 3) := by decide +kernel
theorem d_Re_renew_51 : decode b_Re_renew 51 = .ok (.aload_n 0, 1) := by decide +kernel
theorem d_Re_renew_52 : decode b_Re_renew 52 = .ok (.iconst 0, 1) := by decide +kernel
theorem d_Re_renew_53 : decode b_Re_renew 53 = .ok (.putfield 48, 3) := by decide +kernel
theorem d_Re_renew_56 : decode b_Re_renew 56 = .ok (.aload_n 0, 1) := by decide +kernel
theorem d_Re_renew_57 : decode b_Re_renew 57 = .ok (.invokevirtual 52, 3) := by decide +kernel
theorem d_Re_renew_60 : decode b_Re_renew 60 = .ok (.return_, 1) := by decide +kernel
abbrev b_Re_leads : ByteArray := prog_5_method_3_code
def y_Re_leads : MethodName := ⟨R_Re, "leads", "(II)Z"⟩
theorem k_Re_leads : kV y_Re_leads b_Re_leads 3 (some .boolean) 2 := ⟨gmem (List.mem_append_right _ (List.mem_of_getElem? (i := 538) (by decide +kernel))) (by decide +kernel), gmem (List.mem_append_right _ (List.mem_of_getElem? (i := 539) (by decide +kernel))) (by decide +kernel), in_Re, gmem (List.mem_append_right _ (List.mem_of_getElem? (i := 540) (by decide +kernel))) (by decide +kernel), by decide, by decide, by decide +kernel⟩
theorem d_Re_leads_0 : decode b_Re_leads 0 = .ok (.aload_n 0, 1) := by decide +kernel
theorem d_Re_leads_1 : decode b_Re_leads 1 = .ok (.getfield 9, 3) := by decide +kernel
theorem d_Re_leads_4 : decode b_Re_leads 4 = .ok (.iload_n 1, 1) := by decide +kernel
theorem d_Re_leads_5 : decode b_Re_leads 5 = .ok (.iload_n 2, 1) := by decide +kernel
theorem d_Re_leads_6 : decode b_Re_leads 6 = .ok (.invokestatic 55, 3) := by decide +kernel
theorem d_Re_leads_9 : decode b_Re_leads 9 = .ok (.ireturn, 1) := by decide +kernel
abbrev b_Re_inheritJoined : ByteArray := prog_5_method_9_code
def y_Re_inheritJoined : MethodName := ⟨R_Re, "inheritJoined", "(I)Z"⟩
theorem k_Re_inheritJoined : kV y_Re_inheritJoined b_Re_inheritJoined 7 (some .boolean) 1 := ⟨gmem (List.mem_append_right _ (List.mem_of_getElem? (i := 558) (by decide +kernel))) (by decide +kernel), gmem (List.mem_append_left _ (List.mem_of_getElem? (i := 9) (by decide +kernel))) (by decide +kernel), in_Re, gmem (List.mem_append_right _ (List.mem_of_getElem? (i := 559) (by decide +kernel))) (by decide +kernel), by decide, by decide, by decide +kernel⟩
theorem d_Re_inheritJoined_0 : decode b_Re_inheritJoined 0 = .ok (.iconst 0, 1) := by decide +kernel
theorem d_Re_inheritJoined_1 : decode b_Re_inheritJoined 1 = .ok (.istore_n 2, 1) := by decide +kernel
theorem d_Re_inheritJoined_2 : decode b_Re_inheritJoined 2 = .ok (.iconst 0, 1) := by decide +kernel
theorem d_Re_inheritJoined_3 : decode b_Re_inheritJoined 3 = .ok (.istore_n 3, 1) := by decide +kernel
theorem d_Re_inheritJoined_4 : decode b_Re_inheritJoined 4 = .ok (.iload_n 3, 1) := by decide +kernel
theorem d_Re_inheritJoined_5 : decode b_Re_inheritJoined 5 = .ok (.iload_n 1, 1) := by decide +kernel
theorem d_Re_inheritJoined_6 : decode b_Re_inheritJoined 6 = .ok (.if_icmp .ge 107, 3) := by decide +kernel
theorem d_Re_inheritJoined_9 : decode b_Re_inheritJoined 9 = .ok (.aload_n 0, 1) := by decide +kernel
theorem d_Re_inheritJoined_10 : decode b_Re_inheritJoined 10 = .ok (.getfield 15, 3) := by decide +kernel
theorem d_Re_inheritJoined_13 : decode b_Re_inheritJoined 13 = .ok (.iload_n 3, 1) := by decide +kernel
theorem d_Re_inheritJoined_14 : decode b_Re_inheritJoined 14 = .ok (.laload, 1) := by decide +kernel
theorem d_Re_inheritJoined_15 : decode b_Re_inheritJoined 15 = .ok (.lstore 4, 2) := by decide +kernel
theorem d_Re_inheritJoined_17 : decode b_Re_inheritJoined 17 = .ok (.iconst 0, 1) := by decide +kernel
theorem d_Re_inheritJoined_18 : decode b_Re_inheritJoined 18 = .ok (.istore 6, 2) := by decide +kernel
theorem d_Re_inheritJoined_20 : decode b_Re_inheritJoined 20 = .ok (.iload 6, 2) := by decide +kernel
theorem d_Re_inheritJoined_22 : decode b_Re_inheritJoined 22 = .ok (.iload_n 1, 1) := by decide +kernel
theorem d_Re_inheritJoined_23 : decode b_Re_inheritJoined 23 = .ok (.if_icmp .ge 56, 3) := by decide +kernel
theorem d_Re_inheritJoined_26 : decode b_Re_inheritJoined 26 = .ok (.aload_n 0, 1) := by decide +kernel
theorem d_Re_inheritJoined_27 : decode b_Re_inheritJoined 27 = .ok (.getfield 9, 3) := by decide +kernel
theorem d_Re_inheritJoined_30 : decode b_Re_inheritJoined 30 = .ok (.iload_n 3, 1) := by decide +kernel
theorem d_Re_inheritJoined_31 : decode b_Re_inheritJoined 31 = .ok (.iload 6, 2) := by decide +kernel
theorem d_Re_inheritJoined_33 : decode b_Re_inheritJoined 33 = .ok (.invokestatic 55, 3) := by decide +kernel
theorem d_Re_inheritJoined_36 : decode b_Re_inheritJoined 36 = .ok (.ifCond .eq 15, 3) := by decide +kernel
theorem d_Re_inheritJoined_39 : decode b_Re_inheritJoined 39 = .ok (.lload 4, 2) := by decide +kernel
theorem d_Re_inheritJoined_41 : decode b_Re_inheritJoined 41 = .ok (.aload_n 0, 1) := by decide +kernel
theorem d_Re_inheritJoined_42 : decode b_Re_inheritJoined 42 = .ok (.getfield 15, 3) := by decide +kernel
theorem d_Re_inheritJoined_45 : decode b_Re_inheritJoined 45 = .ok (.iload 6, 2) := by decide +kernel
theorem d_Re_inheritJoined_47 : decode b_Re_inheritJoined 47 = .ok (.laload, 1) := by decide +kernel
theorem d_Re_inheritJoined_48 : decode b_Re_inheritJoined 48 = .ok (.lor, 1) := by decide +kernel
theorem d_Re_inheritJoined_49 : decode b_Re_inheritJoined 49 = .ok (.lstore 4, 2) := by decide +kernel
theorem d_Re_inheritJoined_51 : decode b_Re_inheritJoined 51 = .ok (.aload_n 0, 1) := by decide +kernel
theorem d_Re_inheritJoined_52 : decode b_Re_inheritJoined 52 = .ok (.getfield 15, 3) := by decide +kernel
theorem d_Re_inheritJoined_55 : decode b_Re_inheritJoined 55 = .ok (.iload 6, 2) := by decide +kernel
theorem d_Re_inheritJoined_57 : decode b_Re_inheritJoined 57 = .ok (.iload_n 3, 1) := by decide +kernel
theorem d_Re_inheritJoined_58 : decode b_Re_inheritJoined 58 = .ok (.invokestatic 55, 3) := by decide +kernel
theorem d_Re_inheritJoined_61 : decode b_Re_inheritJoined 61 = .ok (.ifCond .eq 12, 3) := by decide +kernel
theorem d_Re_inheritJoined_64 : decode b_Re_inheritJoined 64 = .ok (.lload 4, 2) := by decide +kernel
theorem d_Re_inheritJoined_66 : decode b_Re_inheritJoined 66 = .ok (.lconst 1, 1) := by decide +kernel
theorem d_Re_inheritJoined_67 : decode b_Re_inheritJoined 67 = .ok (.iload 6, 2) := by decide +kernel
theorem d_Re_inheritJoined_69 : decode b_Re_inheritJoined 69 = .ok (.lshl, 1) := by decide +kernel
theorem d_Re_inheritJoined_70 : decode b_Re_inheritJoined 70 = .ok (.lor, 1) := by decide +kernel
theorem d_Re_inheritJoined_71 : decode b_Re_inheritJoined 71 = .ok (.lstore 4, 2) := by decide +kernel
theorem d_Re_inheritJoined_73 : decode b_Re_inheritJoined 73 = .ok (.iinc 6 1, 3) := by decide +kernel
theorem d_Re_inheritJoined_76 : decode b_Re_inheritJoined 76 = .ok (.goto (-56), 3) := by decide +kernel
theorem d_Re_inheritJoined_79 : decode b_Re_inheritJoined 79 = .ok (.iload_n 2, 1) := by decide +kernel
theorem d_Re_inheritJoined_80 : decode b_Re_inheritJoined 80 = .ok (.lload 4, 2) := by decide +kernel
theorem d_Re_inheritJoined_82 : decode b_Re_inheritJoined 82 = .ok (.aload_n 0, 1) := by decide +kernel
theorem d_Re_inheritJoined_83 : decode b_Re_inheritJoined 83 = .ok (.getfield 15, 3) := by decide +kernel
theorem d_Re_inheritJoined_86 : decode b_Re_inheritJoined 86 = .ok (.iload_n 3, 1) := by decide +kernel
theorem d_Re_inheritJoined_87 : decode b_Re_inheritJoined 87 = .ok (.laload, 1) := by decide +kernel
theorem d_Re_inheritJoined_88 : decode b_Re_inheritJoined 88 = .ok (.lcmp, 1) := by decide +kernel
theorem d_Re_inheritJoined_89 : decode b_Re_inheritJoined 89 = .ok (.ifCond .eq 7, 3) := by decide +kernel
theorem d_Re_inheritJoined_92 : decode b_Re_inheritJoined 92 = .ok (.iconst 1, 1) := by decide +kernel
theorem d_Re_inheritJoined_93 : decode b_Re_inheritJoined 93 = .ok (.goto 4, 3) := by decide +kernel
theorem d_Re_inheritJoined_96 : decode b_Re_inheritJoined 96 = .ok (.iconst 0, 1) := by decide +kernel
theorem d_Re_inheritJoined_97 : decode b_Re_inheritJoined 97 = .ok (.ior, 1) := by decide +kernel
theorem d_Re_inheritJoined_98 : decode b_Re_inheritJoined 98 = .ok (.istore_n 2, 1) := by decide +kernel
theorem d_Re_inheritJoined_99 : decode b_Re_inheritJoined 99 = .ok (.aload_n 0, 1) := by decide +kernel
theorem d_Re_inheritJoined_100 : decode b_Re_inheritJoined 100 = .ok (.getfield 15, 3) := by decide +kernel
theorem d_Re_inheritJoined_103 : decode b_Re_inheritJoined 103 = .ok (.iload_n 3, 1) := by decide +kernel
theorem d_Re_inheritJoined_104 : decode b_Re_inheritJoined 104 = .ok (.lload 4, 2) := by decide +kernel
theorem d_Re_inheritJoined_106 : decode b_Re_inheritJoined 106 = .ok (.lastore, 1) := by decide +kernel
theorem d_Re_inheritJoined_107 : decode b_Re_inheritJoined 107 = .ok (.iinc 3 1, 3) := by decide +kernel
theorem d_Re_inheritJoined_110 : decode b_Re_inheritJoined 110 = .ok (.goto (-106), 3) := by decide +kernel
theorem d_Re_inheritJoined_113 : decode b_Re_inheritJoined 113 = .ok (.iload_n 2, 1) := by decide +kernel
theorem d_Re_inheritJoined_114 : decode b_Re_inheritJoined 114 = .ok (.ireturn, 1) := by decide +kernel
abbrev b_Re_findJoined : ByteArray := prog_5_method_8_code
def y_Re_findJoined : MethodName := ⟨R_Re, "findJoined", "()V"⟩
theorem k_Re_findJoined : kV y_Re_findJoined b_Re_findJoined 4 none 0 := ⟨gmem (List.mem_append_right _ (List.mem_of_getElem? (i := 554) (by decide +kernel))) (by decide +kernel), gmem (List.mem_append_left _ (List.mem_of_getElem? (i := 8) (by decide +kernel))) (by decide +kernel), in_Re, gmem (List.mem_append_right _ (List.mem_of_getElem? (i := 555) (by decide +kernel))) (by decide +kernel), by decide, by decide, by decide +kernel⟩
theorem d_Re_findJoined_0 : decode b_Re_findJoined 0 = .ok (.aload_n 0, 1) := by decide +kernel
theorem d_Re_findJoined_1 : decode b_Re_findJoined 1 = .ok (.getfield 29, 3) := by decide +kernel
theorem d_Re_findJoined_4 : decode b_Re_findJoined 4 = .ok (.invokevirtual 37, 3) := by decide +kernel
theorem d_Re_findJoined_7 : decode b_Re_findJoined 7 = .ok (.istore_n 1, 1) := by decide +kernel
theorem d_Re_findJoined_8 : decode b_Re_findJoined 8 = .ok (.iconst 0, 1) := by decide +kernel
theorem d_Re_findJoined_9 : decode b_Re_findJoined 9 = .ok (.istore_n 2, 1) := by decide +kernel
theorem d_Re_findJoined_10 : decode b_Re_findJoined 10 = .ok (.iload_n 2, 1) := by decide +kernel
theorem d_Re_findJoined_11 : decode b_Re_findJoined 11 = .ok (.iload_n 1, 1) := by decide +kernel
theorem d_Re_findJoined_12 : decode b_Re_findJoined 12 = .ok (.if_icmp .ge 18, 3) := by decide +kernel
theorem d_Re_findJoined_15 : decode b_Re_findJoined 15 = .ok (.aload_n 0, 1) := by decide +kernel
theorem d_Re_findJoined_16 : decode b_Re_findJoined 16 = .ok (.getfield 15, 3) := by decide +kernel
theorem d_Re_findJoined_19 : decode b_Re_findJoined 19 = .ok (.iload_n 2, 1) := by decide +kernel
theorem d_Re_findJoined_20 : decode b_Re_findJoined 20 = .ok (.lconst 1, 1) := by decide +kernel
theorem d_Re_findJoined_21 : decode b_Re_findJoined 21 = .ok (.iload_n 2, 1) := by decide +kernel
theorem d_Re_findJoined_22 : decode b_Re_findJoined 22 = .ok (.lshl, 1) := by decide +kernel
theorem d_Re_findJoined_23 : decode b_Re_findJoined 23 = .ok (.lastore, 1) := by decide +kernel
theorem d_Re_findJoined_24 : decode b_Re_findJoined 24 = .ok (.iinc 2 1, 3) := by decide +kernel
theorem d_Re_findJoined_27 : decode b_Re_findJoined 27 = .ok (.goto (-17), 3) := by decide +kernel
theorem d_Re_findJoined_30 : decode b_Re_findJoined 30 = .ok (.iconst 1, 1) := by decide +kernel
theorem d_Re_findJoined_31 : decode b_Re_findJoined 31 = .ok (.istore_n 2, 1) := by decide +kernel
theorem d_Re_findJoined_32 : decode b_Re_findJoined 32 = .ok (.iconst 0, 1) := by decide +kernel
theorem d_Re_findJoined_33 : decode b_Re_findJoined 33 = .ok (.istore_n 3, 1) := by decide +kernel
theorem d_Re_findJoined_34 : decode b_Re_findJoined 34 = .ok (.iload_n 3, 1) := by decide +kernel
theorem d_Re_findJoined_35 : decode b_Re_findJoined 35 = .ok (.sipush 2305, 3) := by decide +kernel
theorem d_Re_findJoined_38 : decode b_Re_findJoined 38 = .ok (.if_icmp .ge 33, 3) := by decide +kernel
theorem d_Re_findJoined_41 : decode b_Re_findJoined 41 = .ok (.iload_n 2, 1) := by decide +kernel
theorem d_Re_findJoined_42 : decode b_Re_findJoined 42 = .ok (.ifCond .eq 29, 3) := by decide +kernel
theorem d_Re_findJoined_45 : decode b_Re_findJoined 45 = .ok (.aload_n 0, 1) := by decide +kernel
theorem d_Re_findJoined_46 : decode b_Re_findJoined 46 = .ok (.iload_n 1, 1) := by decide +kernel
theorem d_Re_findJoined_47 : decode b_Re_findJoined 47 = .ok (.invokevirtual 85, 3) := by decide +kernel
theorem d_Re_findJoined_50 : decode b_Re_findJoined 50 = .ok (.istore_n 2, 1) := by decide +kernel
theorem d_Re_findJoined_51 : decode b_Re_findJoined 51 = .ok (.aload_n 0, 1) := by decide +kernel
theorem d_Re_findJoined_52 : decode b_Re_findJoined 52 = .ok (.aload_n 0, 1) := by decide +kernel
theorem d_Re_findJoined_53 : decode b_Re_findJoined 53 = .ok (.getfield 15, 3) := by decide +kernel
theorem d_Re_findJoined_56 : decode b_Re_findJoined 56 = .ok (.iload_n 1, 1) := by decide +kernel
theorem d_Re_findJoined_57 : decode b_Re_findJoined 57 = .ok (.invokevirtual 81, 3) := by decide +kernel
theorem d_Re_findJoined_60 : decode b_Re_findJoined 60 = .ok (.ifCond .eq 5, 3) := by decide +kernel
theorem d_Re_findJoined_63 : decode b_Re_findJoined 63 = .ok (.iconst 1, 1) := by decide +kernel
theorem d_Re_findJoined_64 : decode b_Re_findJoined 64 = .ok (.istore_n 2, 1) := by decide +kernel
theorem d_Re_findJoined_65 : decode b_Re_findJoined 65 = .ok (.iinc 3 1, 3) := by decide +kernel
theorem d_Re_findJoined_68 : decode b_Re_findJoined 68 = .ok (.goto (-34), 3) := by decide +kernel
theorem d_Re_findJoined_71 : decode b_Re_findJoined 71 = .ok (.return_, 1) := by decide +kernel
abbrev b_Re_joins : ByteArray := prog_5_method_4_code
def y_Re_joins : MethodName := ⟨R_Re, "joins", "(II)Z"⟩
theorem k_Re_joins : kV y_Re_joins b_Re_joins 3 (some .boolean) 2 := ⟨gmem (List.mem_append_right _ (List.mem_of_getElem? (i := 549) (by decide +kernel))) (by decide +kernel), gmem (List.mem_append_right _ (List.mem_of_getElem? (i := 550) (by decide +kernel))) (by decide +kernel), in_Re, gmem (List.mem_append_right _ (List.mem_of_getElem? (i := 551) (by decide +kernel))) (by decide +kernel), by decide, by decide, by decide +kernel⟩
theorem d_Re_joins_0 : decode b_Re_joins 0 = .ok (.aload_n 0, 1) := by decide +kernel
theorem d_Re_joins_1 : decode b_Re_joins 1 = .ok (.getfield 48, 3) := by decide +kernel
theorem d_Re_joins_4 : decode b_Re_joins 4 = .ok (.ifCond .ne 12, 3) := by decide +kernel
theorem d_Re_joins_7 : decode b_Re_joins 7 = .ok (.aload_n 0, 1) := by decide +kernel
theorem d_Re_joins_8 : decode b_Re_joins 8 = .ok (.invokevirtual 59, 3) := by decide +kernel
theorem d_Re_joins_11 : decode b_Re_joins 11 = .ok (.aload_n 0, 1) := by decide +kernel
theorem d_Re_joins_12 : decode b_Re_joins 12 = .ok (.iconst 1, 1) := by decide +kernel
theorem d_Re_joins_13 : decode b_Re_joins 13 = .ok (.putfield 48, 3) := by decide +kernel
theorem d_Re_joins_16 : decode b_Re_joins 16 = .ok (.aload_n 0, 1) := by decide +kernel
theorem d_Re_joins_17 : decode b_Re_joins 17 = .ok (.getfield 15, 3) := by decide +kernel
theorem d_Re_joins_20 : decode b_Re_joins 20 = .ok (.iload_n 1, 1) := by decide +kernel
theorem d_Re_joins_21 : decode b_Re_joins 21 = .ok (.iload_n 2, 1) := by decide +kernel
theorem d_Re_joins_22 : decode b_Re_joins 22 = .ok (.invokestatic 55, 3) := by decide +kernel
theorem d_Re_joins_25 : decode b_Re_joins 25 = .ok (.ireturn, 1) := by decide +kernel
abbrev b_Re_sizeWithLeastParts : ByteArray := prog_5_method_13_code
def y_Re_sizeWithLeastParts : MethodName := ⟨R_Re, "sizeWithLeastParts", "(I)I"⟩
theorem k_Re_sizeWithLeastParts : kV y_Re_sizeWithLeastParts b_Re_sizeWithLeastParts 4 (some .int) 1 := ⟨gmem (List.mem_append_right _ (List.mem_of_getElem? (i := 642) (by decide +kernel))) (by decide +kernel), gmem (List.mem_append_left _ (List.mem_of_getElem? (i := 15) (by decide +kernel))) (by decide +kernel), in_Re, gmem (List.mem_append_right _ (List.mem_of_getElem? (i := 643) (by decide +kernel))) (by decide +kernel), by decide, by decide, by decide +kernel⟩
theorem d_Re_sizeWithLeastParts_0 : decode b_Re_sizeWithLeastParts 0 = .ok (.aload_n 0, 1) := by decide +kernel
theorem d_Re_sizeWithLeastParts_1 : decode b_Re_sizeWithLeastParts 1 = .ok (.getfield 29, 3) := by decide +kernel
theorem d_Re_sizeWithLeastParts_4 : decode b_Re_sizeWithLeastParts 4 = .ok (.aload_n 0, 1) := by decide +kernel
theorem d_Re_sizeWithLeastParts_5 : decode b_Re_sizeWithLeastParts 5 = .ok (.getfield 29, 3) := by decide +kernel
theorem d_Re_sizeWithLeastParts_8 : decode b_Re_sizeWithLeastParts 8 = .ok (.iload_n 1, 1) := by decide +kernel
theorem d_Re_sizeWithLeastParts_9 : decode b_Re_sizeWithLeastParts 9 = .ok (.invokevirtual 91, 3) := by decide +kernel
theorem d_Re_sizeWithLeastParts_12 : decode b_Re_sizeWithLeastParts 12 = .ok (.invokevirtual 94, 3) := by decide +kernel
theorem d_Re_sizeWithLeastParts_15 : decode b_Re_sizeWithLeastParts 15 = .ok (.istore_n 2, 1) := by decide +kernel
theorem d_Re_sizeWithLeastParts_16 : decode b_Re_sizeWithLeastParts 16 = .ok (.iload_n 2, 1) := by decide +kernel
theorem d_Re_sizeWithLeastParts_17 : decode b_Re_sizeWithLeastParts 17 = .ok (.iconst 1, 1) := by decide +kernel
theorem d_Re_sizeWithLeastParts_18 : decode b_Re_sizeWithLeastParts 18 = .ok (.if_icmp .ge 7, 3) := by decide +kernel
theorem d_Re_sizeWithLeastParts_21 : decode b_Re_sizeWithLeastParts 21 = .ok (.iconst 0, 1) := by decide +kernel
theorem d_Re_sizeWithLeastParts_22 : decode b_Re_sizeWithLeastParts 22 = .ok (.goto 16, 3) := by decide +kernel
theorem d_Re_sizeWithLeastParts_25 : decode b_Re_sizeWithLeastParts 25 = .ok (.aload_n 0, 1) := by decide +kernel
theorem d_Re_sizeWithLeastParts_26 : decode b_Re_sizeWithLeastParts 26 = .ok (.getfield 18, 3) := by decide +kernel
theorem d_Re_sizeWithLeastParts_29 : decode b_Re_sizeWithLeastParts 29 = .ok (.aload_n 0, 1) := by decide +kernel
theorem d_Re_sizeWithLeastParts_30 : decode b_Re_sizeWithLeastParts 30 = .ok (.getfield 29, 3) := by decide +kernel
theorem d_Re_sizeWithLeastParts_33 : decode b_Re_sizeWithLeastParts 33 = .ok (.iload_n 1, 1) := by decide +kernel
theorem d_Re_sizeWithLeastParts_34 : decode b_Re_sizeWithLeastParts 34 = .ok (.invokevirtual 97, 3) := by decide +kernel
theorem d_Re_sizeWithLeastParts_37 : decode b_Re_sizeWithLeastParts 37 = .ok (.iaload, 1) := by decide +kernel
theorem d_Re_sizeWithLeastParts_38 : decode b_Re_sizeWithLeastParts 38 = .ok (.iload_n 2, 1) := by decide +kernel
theorem d_Re_sizeWithLeastParts_39 : decode b_Re_sizeWithLeastParts 39 = .ok (.iconst 2, 1) := by decide +kernel
theorem d_Re_sizeWithLeastParts_40 : decode b_Re_sizeWithLeastParts 40 = .ok (.if_icmp .ge 7, 3) := by decide +kernel
theorem d_Re_sizeWithLeastParts_43 : decode b_Re_sizeWithLeastParts 43 = .ok (.iconst 0, 1) := by decide +kernel
theorem d_Re_sizeWithLeastParts_44 : decode b_Re_sizeWithLeastParts 44 = .ok (.goto 16, 3) := by decide +kernel
theorem d_Re_sizeWithLeastParts_47 : decode b_Re_sizeWithLeastParts 47 = .ok (.aload_n 0, 1) := by decide +kernel
theorem d_Re_sizeWithLeastParts_48 : decode b_Re_sizeWithLeastParts 48 = .ok (.getfield 18, 3) := by decide +kernel
theorem d_Re_sizeWithLeastParts_51 : decode b_Re_sizeWithLeastParts 51 = .ok (.aload_n 0, 1) := by decide +kernel
theorem d_Re_sizeWithLeastParts_52 : decode b_Re_sizeWithLeastParts 52 = .ok (.getfield 29, 3) := by decide +kernel
theorem d_Re_sizeWithLeastParts_55 : decode b_Re_sizeWithLeastParts 55 = .ok (.iload_n 1, 1) := by decide +kernel
theorem d_Re_sizeWithLeastParts_56 : decode b_Re_sizeWithLeastParts 56 = .ok (.invokevirtual 100, 3) := by decide +kernel
theorem d_Re_sizeWithLeastParts_59 : decode b_Re_sizeWithLeastParts 59 = .ok (.iaload, 1) := by decide +kernel
theorem d_Re_sizeWithLeastParts_60 : decode b_Re_sizeWithLeastParts 60 = .ok (.iadd, 1) := by decide +kernel
theorem d_Re_sizeWithLeastParts_61 : decode b_Re_sizeWithLeastParts 61 = .ok (.istore_n 3, 1) := by decide +kernel
theorem d_Re_sizeWithLeastParts_62 : decode b_Re_sizeWithLeastParts 62 = .ok (.ldc 106, 2) := by decide +kernel
theorem d_Re_sizeWithLeastParts_64 : decode b_Re_sizeWithLeastParts 64 = .ok (.iconst 1, 1) := by decide +kernel
theorem d_Re_sizeWithLeastParts_65 : decode b_Re_sizeWithLeastParts 65 = .ok (.iload_n 3, 1) := by decide +kernel
theorem d_Re_sizeWithLeastParts_66 : decode b_Re_sizeWithLeastParts 66 = .ok (.iadd, 1) := by decide +kernel
theorem d_Re_sizeWithLeastParts_67 : decode b_Re_sizeWithLeastParts 67 = .ok (.invokestatic 107, 3) := by decide +kernel
theorem d_Re_sizeWithLeastParts_70 : decode b_Re_sizeWithLeastParts 70 = .ok (.ireturn, 1) := by decide +kernel
abbrev b_Re_shrink : ByteArray := prog_5_method_12_code
def y_Re_shrink : MethodName := ⟨R_Re, "shrink", "(I)Z"⟩
theorem k_Re_shrink : kV y_Re_shrink b_Re_shrink 6 (some .boolean) 1 := ⟨gmem (List.mem_append_right _ (List.mem_of_getElem? (i := 638) (by decide +kernel))) (by decide +kernel), gmem (List.mem_append_left _ (List.mem_of_getElem? (i := 14) (by decide +kernel))) (by decide +kernel), in_Re, gmem (List.mem_append_right _ (List.mem_of_getElem? (i := 639) (by decide +kernel))) (by decide +kernel), by decide, by decide, by decide +kernel⟩
theorem d_Re_shrink_0 : decode b_Re_shrink 0 = .ok (.iconst 0, 1) := by decide +kernel
theorem d_Re_shrink_1 : decode b_Re_shrink 1 = .ok (.istore_n 2, 1) := by decide +kernel
theorem d_Re_shrink_2 : decode b_Re_shrink 2 = .ok (.iconst 0, 1) := by decide +kernel
theorem d_Re_shrink_3 : decode b_Re_shrink 3 = .ok (.istore_n 3, 1) := by decide +kernel
theorem d_Re_shrink_4 : decode b_Re_shrink 4 = .ok (.iload_n 3, 1) := by decide +kernel
theorem d_Re_shrink_5 : decode b_Re_shrink 5 = .ok (.iload_n 1, 1) := by decide +kernel
theorem d_Re_shrink_6 : decode b_Re_shrink 6 = .ok (.if_icmp .ge 67, 3) := by decide +kernel
theorem d_Re_shrink_9 : decode b_Re_shrink 9 = .ok (.aload_n 0, 1) := by decide +kernel
theorem d_Re_shrink_10 : decode b_Re_shrink 10 = .ok (.iload_n 3, 1) := by decide +kernel
theorem d_Re_shrink_11 : decode b_Re_shrink 11 = .ok (.invokevirtual 103, 3) := by decide +kernel
theorem d_Re_shrink_14 : decode b_Re_shrink 14 = .ok (.istore 4, 2) := by decide +kernel
theorem d_Re_shrink_16 : decode b_Re_shrink 16 = .ok (.iconst 0, 1) := by decide +kernel
theorem d_Re_shrink_17 : decode b_Re_shrink 17 = .ok (.istore 5, 2) := by decide +kernel
theorem d_Re_shrink_19 : decode b_Re_shrink 19 = .ok (.iload 5, 2) := by decide +kernel
theorem d_Re_shrink_21 : decode b_Re_shrink 21 = .ok (.iload_n 1, 1) := by decide +kernel
theorem d_Re_shrink_22 : decode b_Re_shrink 22 = .ok (.if_icmp .ge 45, 3) := by decide +kernel
theorem d_Re_shrink_25 : decode b_Re_shrink 25 = .ok (.aload_n 0, 1) := by decide +kernel
theorem d_Re_shrink_26 : decode b_Re_shrink 26 = .ok (.getfield 9, 3) := by decide +kernel
theorem d_Re_shrink_29 : decode b_Re_shrink 29 = .ok (.iload 5, 2) := by decide +kernel
theorem d_Re_shrink_31 : decode b_Re_shrink 31 = .ok (.iload_n 3, 1) := by decide +kernel
theorem d_Re_shrink_32 : decode b_Re_shrink 32 = .ok (.invokestatic 55, 3) := by decide +kernel
theorem d_Re_shrink_35 : decode b_Re_shrink 35 = .ok (.ifCond .eq 26, 3) := by decide +kernel
theorem d_Re_shrink_38 : decode b_Re_shrink 38 = .ok (.iload 4, 2) := by decide +kernel
theorem d_Re_shrink_40 : decode b_Re_shrink 40 = .ok (.aload_n 0, 1) := by decide +kernel
theorem d_Re_shrink_41 : decode b_Re_shrink 41 = .ok (.getfield 18, 3) := by decide +kernel
theorem d_Re_shrink_44 : decode b_Re_shrink 44 = .ok (.iload 5, 2) := by decide +kernel
theorem d_Re_shrink_46 : decode b_Re_shrink 46 = .ok (.iaload, 1) := by decide +kernel
theorem d_Re_shrink_47 : decode b_Re_shrink 47 = .ok (.if_icmp .ge 14, 3) := by decide +kernel
theorem d_Re_shrink_50 : decode b_Re_shrink 50 = .ok (.aload_n 0, 1) := by decide +kernel
theorem d_Re_shrink_51 : decode b_Re_shrink 51 = .ok (.getfield 18, 3) := by decide +kernel
theorem d_Re_shrink_54 : decode b_Re_shrink 54 = .ok (.iload 5, 2) := by decide +kernel
theorem d_Re_shrink_56 : decode b_Re_shrink 56 = .ok (.iload 4, 2) := by decide +kernel
theorem d_Re_shrink_58 : decode b_Re_shrink 58 = .ok (.iastore, 1) := by decide +kernel
theorem d_Re_shrink_59 : decode b_Re_shrink 59 = .ok (.iconst 1, 1) := by decide +kernel
theorem d_Re_shrink_60 : decode b_Re_shrink 60 = .ok (.istore_n 2, 1) := by decide +kernel
theorem d_Re_shrink_61 : decode b_Re_shrink 61 = .ok (.iinc 5 1, 3) := by decide +kernel
theorem d_Re_shrink_64 : decode b_Re_shrink 64 = .ok (.goto (-45), 3) := by decide +kernel
theorem d_Re_shrink_67 : decode b_Re_shrink 67 = .ok (.iinc 3 1, 3) := by decide +kernel
theorem d_Re_shrink_70 : decode b_Re_shrink 70 = .ok (.goto (-66), 3) := by decide +kernel
theorem d_Re_shrink_73 : decode b_Re_shrink 73 = .ok (.iload_n 2, 1) := by decide +kernel
theorem d_Re_shrink_74 : decode b_Re_shrink 74 = .ok (.ireturn, 1) := by decide +kernel
abbrev b_Re_leastSize : ByteArray := prog_5_method_5_code
def y_Re_leastSize : MethodName := ⟨R_Re, "leastSize", "(I)I"⟩
theorem k_Re_leastSize : kV y_Re_leastSize b_Re_leastSize 5 (some .int) 1 := ⟨gmem (List.mem_append_right _ (List.mem_of_getElem? (i := 632) (by decide +kernel))) (by decide +kernel), gmem (List.mem_append_right _ (List.mem_of_getElem? (i := 633) (by decide +kernel))) (by decide +kernel), in_Re, gmem (List.mem_append_right _ (List.mem_of_getElem? (i := 634) (by decide +kernel))) (by decide +kernel), by decide, by decide, by decide +kernel⟩
theorem d_Re_leastSize_0 : decode b_Re_leastSize 0 = .ok (.aload_n 0, 1) := by decide +kernel
theorem d_Re_leastSize_1 : decode b_Re_leastSize 1 = .ok (.getfield 29, 3) := by decide +kernel
theorem d_Re_leastSize_4 : decode b_Re_leastSize 4 = .ok (.invokevirtual 37, 3) := by decide +kernel
theorem d_Re_leastSize_7 : decode b_Re_leastSize 7 = .ok (.istore_n 2, 1) := by decide +kernel
theorem d_Re_leastSize_8 : decode b_Re_leastSize 8 = .ok (.iconst 0, 1) := by decide +kernel
theorem d_Re_leastSize_9 : decode b_Re_leastSize 9 = .ok (.istore_n 3, 1) := by decide +kernel
theorem d_Re_leastSize_10 : decode b_Re_leastSize 10 = .ok (.iload_n 3, 1) := by decide +kernel
theorem d_Re_leastSize_11 : decode b_Re_leastSize 11 = .ok (.iload_n 2, 1) := by decide +kernel
theorem d_Re_leastSize_12 : decode b_Re_leastSize 12 = .ok (.if_icmp .ge 23, 3) := by decide +kernel
theorem d_Re_leastSize_15 : decode b_Re_leastSize 15 = .ok (.aload_n 0, 1) := by decide +kernel
theorem d_Re_leastSize_16 : decode b_Re_leastSize 16 = .ok (.getfield 18, 3) := by decide +kernel
theorem d_Re_leastSize_19 : decode b_Re_leastSize 19 = .ok (.iload_n 3, 1) := by decide +kernel
theorem d_Re_leastSize_20 : decode b_Re_leastSize 20 = .ok (.aload_n 0, 1) := by decide +kernel
theorem d_Re_leastSize_21 : decode b_Re_leastSize 21 = .ok (.getfield 29, 3) := by decide +kernel
theorem d_Re_leastSize_24 : decode b_Re_leastSize 24 = .ok (.iload_n 3, 1) := by decide +kernel
theorem d_Re_leastSize_25 : decode b_Re_leastSize 25 = .ok (.invokevirtual 62, 3) := by decide +kernel
theorem d_Re_leastSize_28 : decode b_Re_leastSize 28 = .ok (.iastore, 1) := by decide +kernel
theorem d_Re_leastSize_29 : decode b_Re_leastSize 29 = .ok (.iinc 3 1, 3) := by decide +kernel
theorem d_Re_leastSize_32 : decode b_Re_leastSize 32 = .ok (.goto (-22), 3) := by decide +kernel
theorem d_Re_leastSize_35 : decode b_Re_leastSize 35 = .ok (.iconst 1, 1) := by decide +kernel
theorem d_Re_leastSize_36 : decode b_Re_leastSize 36 = .ok (.istore_n 3, 1) := by decide +kernel
theorem d_Re_leastSize_37 : decode b_Re_leastSize 37 = .ok (.iconst 0, 1) := by decide +kernel
theorem d_Re_leastSize_38 : decode b_Re_leastSize 38 = .ok (.istore 4, 2) := by decide +kernel
theorem d_Re_leastSize_40 : decode b_Re_leastSize 40 = .ok (.iload 4, 2) := by decide +kernel
theorem d_Re_leastSize_42 : decode b_Re_leastSize 42 = .ok (.bipush 48, 2) := by decide +kernel
theorem d_Re_leastSize_44 : decode b_Re_leastSize 44 = .ok (.if_icmp .gt 19, 3) := by decide +kernel
theorem d_Re_leastSize_47 : decode b_Re_leastSize 47 = .ok (.iload_n 3, 1) := by decide +kernel
theorem d_Re_leastSize_48 : decode b_Re_leastSize 48 = .ok (.ifCond .eq 15, 3) := by decide +kernel
theorem d_Re_leastSize_51 : decode b_Re_leastSize 51 = .ok (.aload_n 0, 1) := by decide +kernel
theorem d_Re_leastSize_52 : decode b_Re_leastSize 52 = .ok (.iload_n 2, 1) := by decide +kernel
theorem d_Re_leastSize_53 : decode b_Re_leastSize 53 = .ok (.invokevirtual 66, 3) := by decide +kernel
theorem d_Re_leastSize_56 : decode b_Re_leastSize 56 = .ok (.istore_n 3, 1) := by decide +kernel
theorem d_Re_leastSize_57 : decode b_Re_leastSize 57 = .ok (.iinc 4 1, 3) := by decide +kernel
theorem d_Re_leastSize_60 : decode b_Re_leastSize 60 = .ok (.goto (-20), 3) := by decide +kernel
theorem d_Re_leastSize_63 : decode b_Re_leastSize 63 = .ok (.aload_n 0, 1) := by decide +kernel
theorem d_Re_leastSize_64 : decode b_Re_leastSize 64 = .ok (.getfield 18, 3) := by decide +kernel
theorem d_Re_leastSize_67 : decode b_Re_leastSize 67 = .ok (.iload_n 1, 1) := by decide +kernel
theorem d_Re_leastSize_68 : decode b_Re_leastSize 68 = .ok (.iaload, 1) := by decide +kernel
theorem d_Re_leastSize_69 : decode b_Re_leastSize 69 = .ok (.ireturn, 1) := by decide +kernel
abbrev b_La_addStates : ByteArray := prog_3_method_8_code
def y_La_addStates : MethodName := ⟨R_La, "addStates", "(II)Z"⟩
theorem k_La_addStates : kV y_La_addStates b_La_addStates 5 (some .boolean) 2 := ⟨gmem (List.mem_append_right _ (List.mem_of_getElem? (i := 587) (by decide +kernel))) (by decide +kernel), gmem (List.mem_append_left _ (List.mem_of_getElem? (i := 11) (by decide +kernel))) (by decide +kernel), in_La, gmem (List.mem_append_right _ (List.mem_of_getElem? (i := 588) (by decide +kernel))) (by decide +kernel), by decide, by decide, by decide +kernel⟩
theorem d_La_addStates_0 : decode b_La_addStates 0 = .ok (.aload_n 0, 1) := by decide +kernel
theorem d_La_addStates_1 : decode b_La_addStates 1 = .ok (.getfield 9, 3) := by decide +kernel
theorem d_La_addStates_4 : decode b_La_addStates 4 = .ok (.iload_n 1, 1) := by decide +kernel
theorem d_La_addStates_5 : decode b_La_addStates 5 = .ok (.iaload, 1) := by decide +kernel
theorem d_La_addStates_6 : decode b_La_addStates 6 = .ok (.iload_n 2, 1) := by decide +kernel
theorem d_La_addStates_7 : decode b_La_addStates 7 = .ok (.ior, 1) := by decide +kernel
theorem d_La_addStates_8 : decode b_La_addStates 8 = .ok (.istore_n 3, 1) := by decide +kernel
theorem d_La_addStates_9 : decode b_La_addStates 9 = .ok (.iload_n 3, 1) := by decide +kernel
theorem d_La_addStates_10 : decode b_La_addStates 10 = .ok (.aload_n 0, 1) := by decide +kernel
theorem d_La_addStates_11 : decode b_La_addStates 11 = .ok (.getfield 9, 3) := by decide +kernel
theorem d_La_addStates_14 : decode b_La_addStates 14 = .ok (.iload_n 1, 1) := by decide +kernel
theorem d_La_addStates_15 : decode b_La_addStates 15 = .ok (.iaload, 1) := by decide +kernel
theorem d_La_addStates_16 : decode b_La_addStates 16 = .ok (.if_icmp .eq 7, 3) := by decide +kernel
theorem d_La_addStates_19 : decode b_La_addStates 19 = .ok (.iconst 1, 1) := by decide +kernel
theorem d_La_addStates_20 : decode b_La_addStates 20 = .ok (.goto 4, 3) := by decide +kernel
theorem d_La_addStates_23 : decode b_La_addStates 23 = .ok (.iconst 0, 1) := by decide +kernel
theorem d_La_addStates_24 : decode b_La_addStates 24 = .ok (.istore 4, 2) := by decide +kernel
theorem d_La_addStates_26 : decode b_La_addStates 26 = .ok (.aload_n 0, 1) := by decide +kernel
theorem d_La_addStates_27 : decode b_La_addStates 27 = .ok (.getfield 9, 3) := by decide +kernel
theorem d_La_addStates_30 : decode b_La_addStates 30 = .ok (.iload_n 1, 1) := by decide +kernel
theorem d_La_addStates_31 : decode b_La_addStates 31 = .ok (.iload_n 3, 1) := by decide +kernel
theorem d_La_addStates_32 : decode b_La_addStates 32 = .ok (.iastore, 1) := by decide +kernel
theorem d_La_addStates_33 : decode b_La_addStates 33 = .ok (.iload 4, 2) := by decide +kernel
theorem d_La_addStates_35 : decode b_La_addStates 35 = .ok (.ireturn, 1) := by decide +kernel
abbrev b_La_runFromParts : ByteArray := prog_3_method_6_code
def y_La_runFromParts : MethodName := ⟨R_La, "runFromParts", "()Z"⟩
theorem k_La_runFromParts : kV y_La_runFromParts b_La_runFromParts 7 (some .boolean) 0 := ⟨gmem (List.mem_append_right _ (List.mem_of_getElem? (i := 574) (by decide +kernel))) (by decide +kernel), gmem (List.mem_append_left _ (List.mem_of_getElem? (i := 10) (by decide +kernel))) (by decide +kernel), in_La, gmem (List.mem_append_right _ (List.mem_of_getElem? (i := 575) (by decide +kernel))) (by decide +kernel), by decide, by decide, by decide +kernel⟩
theorem d_La_runFromParts_0 : decode b_La_runFromParts 0 = .ok (.iconst 0, 1) := by decide +kernel
theorem d_La_runFromParts_1 : decode b_La_runFromParts 1 = .ok (.istore_n 1, 1) := by decide +kernel
theorem d_La_runFromParts_2 : decode b_La_runFromParts 2 = .ok (.iconst 0, 1) := by decide +kernel
theorem d_La_runFromParts_3 : decode b_La_runFromParts 3 = .ok (.istore_n 2, 1) := by decide +kernel
theorem d_La_runFromParts_4 : decode b_La_runFromParts 4 = .ok (.iload_n 2, 1) := by decide +kernel
theorem d_La_runFromParts_5 : decode b_La_runFromParts 5 = .ok (.aload_n 0, 1) := by decide +kernel
theorem d_La_runFromParts_6 : decode b_La_runFromParts 6 = .ok (.getfield 15, 3) := by decide +kernel
theorem d_La_runFromParts_9 : decode b_La_runFromParts 9 = .ok (.invokevirtual 45, 3) := by decide +kernel
theorem d_La_runFromParts_12 : decode b_La_runFromParts 12 = .ok (.if_icmp .ge 100, 3) := by decide +kernel
theorem d_La_runFromParts_15 : decode b_La_runFromParts 15 = .ok (.aload_n 0, 1) := by decide +kernel
theorem d_La_runFromParts_16 : decode b_La_runFromParts 16 = .ok (.getfield 15, 3) := by decide +kernel
theorem d_La_runFromParts_19 : decode b_La_runFromParts 19 = .ok (.iload_n 2, 1) := by decide +kernel
theorem d_La_runFromParts_20 : decode b_La_runFromParts 20 = .ok (.invokevirtual 51, 3) := by decide +kernel
theorem d_La_runFromParts_23 : decode b_La_runFromParts 23 = .ok (.istore_n 3, 1) := by decide +kernel
theorem d_La_runFromParts_24 : decode b_La_runFromParts 24 = .ok (.aload_n 0, 1) := by decide +kernel
theorem d_La_runFromParts_25 : decode b_La_runFromParts 25 = .ok (.getfield 15, 3) := by decide +kernel
theorem d_La_runFromParts_28 : decode b_La_runFromParts 28 = .ok (.iload_n 3, 1) := by decide +kernel
theorem d_La_runFromParts_29 : decode b_La_runFromParts 29 = .ok (.invokevirtual 55, 3) := by decide +kernel
theorem d_La_runFromParts_32 : decode b_La_runFromParts 32 = .ok (.istore 4, 2) := by decide +kernel
theorem d_La_runFromParts_34 : decode b_La_runFromParts 34 = .ok (.iload 4, 2) := by decide +kernel
theorem d_La_runFromParts_36 : decode b_La_runFromParts 36 = .ok (.iconst 1, 1) := by decide +kernel
theorem d_La_runFromParts_37 : decode b_La_runFromParts 37 = .ok (.if_icmp .ge 8, 3) := by decide +kernel
theorem d_La_runFromParts_40 : decode b_La_runFromParts 40 = .ok (.bipush 63, 2) := by decide +kernel
theorem d_La_runFromParts_42 : decode b_La_runFromParts 42 = .ok (.goto 16, 3) := by decide +kernel
theorem d_La_runFromParts_45 : decode b_La_runFromParts 45 = .ok (.aload_n 0, 1) := by decide +kernel
theorem d_La_runFromParts_46 : decode b_La_runFromParts 46 = .ok (.getfield 9, 3) := by decide +kernel
theorem d_La_runFromParts_49 : decode b_La_runFromParts 49 = .ok (.aload_n 0, 1) := by decide +kernel
theorem d_La_runFromParts_50 : decode b_La_runFromParts 50 = .ok (.getfield 15, 3) := by decide +kernel
theorem d_La_runFromParts_53 : decode b_La_runFromParts 53 = .ok (.iload_n 2, 1) := by decide +kernel
theorem d_La_runFromParts_54 : decode b_La_runFromParts 54 = .ok (.invokevirtual 58, 3) := by decide +kernel
theorem d_La_runFromParts_57 : decode b_La_runFromParts 57 = .ok (.iaload, 1) := by decide +kernel
theorem d_La_runFromParts_58 : decode b_La_runFromParts 58 = .ok (.istore 5, 2) := by decide +kernel
theorem d_La_runFromParts_60 : decode b_La_runFromParts 60 = .ok (.iload 4, 2) := by decide +kernel
theorem d_La_runFromParts_62 : decode b_La_runFromParts 62 = .ok (.iconst 2, 1) := by decide +kernel
theorem d_La_runFromParts_63 : decode b_La_runFromParts 63 = .ok (.if_icmp .ge 8, 3) := by decide +kernel
theorem d_La_runFromParts_66 : decode b_La_runFromParts 66 = .ok (.bipush 63, 2) := by decide +kernel
theorem d_La_runFromParts_68 : decode b_La_runFromParts 68 = .ok (.goto 16, 3) := by decide +kernel
theorem d_La_runFromParts_71 : decode b_La_runFromParts 71 = .ok (.aload_n 0, 1) := by decide +kernel
theorem d_La_runFromParts_72 : decode b_La_runFromParts 72 = .ok (.getfield 9, 3) := by decide +kernel
theorem d_La_runFromParts_75 : decode b_La_runFromParts 75 = .ok (.aload_n 0, 1) := by decide +kernel
theorem d_La_runFromParts_76 : decode b_La_runFromParts 76 = .ok (.getfield 15, 3) := by decide +kernel
theorem d_La_runFromParts_79 : decode b_La_runFromParts 79 = .ok (.iload_n 2, 1) := by decide +kernel
theorem d_La_runFromParts_80 : decode b_La_runFromParts 80 = .ok (.invokevirtual 61, 3) := by decide +kernel
theorem d_La_runFromParts_83 : decode b_La_runFromParts 83 = .ok (.iaload, 1) := by decide +kernel
theorem d_La_runFromParts_84 : decode b_La_runFromParts 84 = .ok (.istore 6, 2) := by decide +kernel
theorem d_La_runFromParts_86 : decode b_La_runFromParts 86 = .ok (.iload_n 1, 1) := by decide +kernel
theorem d_La_runFromParts_87 : decode b_La_runFromParts 87 = .ok (.aload_n 0, 1) := by decide +kernel
theorem d_La_runFromParts_88 : decode b_La_runFromParts 88 = .ok (.iload_n 2, 1) := by decide +kernel
theorem d_La_runFromParts_89 : decode b_La_runFromParts 89 = .ok (.aload_n 0, 1) := by decide +kernel
theorem d_La_runFromParts_90 : decode b_La_runFromParts 90 = .ok (.getfield 19, 3) := by decide +kernel
theorem d_La_runFromParts_93 : decode b_La_runFromParts 93 = .ok (.iload_n 3, 1) := by decide +kernel
theorem d_La_runFromParts_94 : decode b_La_runFromParts 94 = .ok (.iload 5, 2) := by decide +kernel
theorem d_La_runFromParts_96 : decode b_La_runFromParts 96 = .ok (.iload 6, 2) := by decide +kernel
theorem d_La_runFromParts_98 : decode b_La_runFromParts 98 = .ok (.invokevirtual 64, 3) := by decide +kernel
theorem d_La_runFromParts_101 : decode b_La_runFromParts 101 = .ok (.invokevirtual 70, 3) := by decide +kernel
theorem d_La_runFromParts_104 : decode b_La_runFromParts 104 = .ok (.ior, 1) := by decide +kernel
theorem d_La_runFromParts_105 : decode b_La_runFromParts 105 = .ok (.istore_n 1, 1) := by decide +kernel
theorem d_La_runFromParts_106 : decode b_La_runFromParts 106 = .ok (.iinc 2 1, 3) := by decide +kernel
theorem d_La_runFromParts_109 : decode b_La_runFromParts 109 = .ok (.goto (-105), 3) := by decide +kernel
theorem d_La_runFromParts_112 : decode b_La_runFromParts 112 = .ok (.iload_n 1, 1) := by decide +kernel
theorem d_La_runFromParts_113 : decode b_La_runFromParts 113 = .ok (.ireturn, 1) := by decide +kernel
abbrev b_La_statesAt : ByteArray := prog_3_method_2_code
def y_La_statesAt : MethodName := ⟨R_La, "statesAt", "(I)I"⟩
theorem k_La_statesAt : kV y_La_statesAt b_La_statesAt 2 (some .int) 1 := ⟨gmem (List.mem_append_right _ (List.mem_of_getElem? (i := 568) (by decide +kernel))) (by decide +kernel), gmem (List.mem_append_right _ (List.mem_of_getElem? (i := 569) (by decide +kernel))) (by decide +kernel), in_La, gmem (List.mem_append_right _ (List.mem_of_getElem? (i := 570) (by decide +kernel))) (by decide +kernel), by decide, by decide, by decide +kernel⟩
theorem d_La_statesAt_0 : decode b_La_statesAt 0 = .ok (.aload_n 0, 1) := by decide +kernel
theorem d_La_statesAt_1 : decode b_La_statesAt 1 = .ok (.getfield 9, 3) := by decide +kernel
theorem d_La_statesAt_4 : decode b_La_statesAt 4 = .ok (.iconst 0, 1) := by decide +kernel
theorem d_La_statesAt_5 : decode b_La_statesAt 5 = .ok (.invokestatic 27, 3) := by decide +kernel
theorem d_La_statesAt_8 : decode b_La_statesAt 8 = .ok (.aload_n 0, 1) := by decide +kernel
theorem d_La_statesAt_9 : decode b_La_statesAt 9 = .ok (.invokevirtual 33, 3) := by decide +kernel
theorem d_La_statesAt_12 : decode b_La_statesAt 12 = .ok (.pop, 1) := by decide +kernel
theorem d_La_statesAt_13 : decode b_La_statesAt 13 = .ok (.aload_n 0, 1) := by decide +kernel
theorem d_La_statesAt_14 : decode b_La_statesAt 14 = .ok (.getfield 9, 3) := by decide +kernel
theorem d_La_statesAt_17 : decode b_La_statesAt 17 = .ok (.iload_n 1, 1) := by decide +kernel
theorem d_La_statesAt_18 : decode b_La_statesAt 18 = .ok (.iaload, 1) := by decide +kernel
theorem d_La_statesAt_19 : decode b_La_statesAt 19 = .ok (.ireturn, 1) := by decide +kernel
abbrev b_La_passOn : ByteArray := prog_3_method_7_code
def y_La_passOn : MethodName := ⟨R_La, "passOn", "(Z)Z"⟩
theorem k_La_passOn : kV y_La_passOn b_La_passOn 6 (some .boolean) 1 := ⟨gmem (List.mem_append_right _ (List.mem_of_getElem? (i := 610) (by decide +kernel))) (by decide +kernel), gmem (List.mem_append_left _ (List.mem_of_getElem? (i := 13) (by decide +kernel))) (by decide +kernel), in_La, gmem (List.mem_append_right _ (List.mem_of_getElem? (i := 611) (by decide +kernel))) (by decide +kernel), by decide, by decide, by decide +kernel⟩
theorem d_La_passOn_0 : decode b_La_passOn 0 = .ok (.iconst 0, 1) := by decide +kernel
theorem d_La_passOn_1 : decode b_La_passOn 1 = .ok (.istore_n 2, 1) := by decide +kernel
theorem d_La_passOn_2 : decode b_La_passOn 2 = .ok (.aload_n 0, 1) := by decide +kernel
theorem d_La_passOn_3 : decode b_La_passOn 3 = .ok (.getfield 15, 3) := by decide +kernel
theorem d_La_passOn_6 : decode b_La_passOn 6 = .ok (.invokevirtual 45, 3) := by decide +kernel
theorem d_La_passOn_9 : decode b_La_passOn 9 = .ok (.istore_n 3, 1) := by decide +kernel
theorem d_La_passOn_10 : decode b_La_passOn 10 = .ok (.iconst 0, 1) := by decide +kernel
theorem d_La_passOn_11 : decode b_La_passOn 11 = .ok (.istore 4, 2) := by decide +kernel
theorem d_La_passOn_13 : decode b_La_passOn 13 = .ok (.iload 4, 2) := by decide +kernel
theorem d_La_passOn_15 : decode b_La_passOn 15 = .ok (.iload_n 3, 1) := by decide +kernel
theorem d_La_passOn_16 : decode b_La_passOn 16 = .ok (.if_icmp .ge 74, 3) := by decide +kernel
theorem d_La_passOn_19 : decode b_La_passOn 19 = .ok (.iconst 0, 1) := by decide +kernel
theorem d_La_passOn_20 : decode b_La_passOn 20 = .ok (.istore 5, 2) := by decide +kernel
theorem d_La_passOn_22 : decode b_La_passOn 22 = .ok (.iload 5, 2) := by decide +kernel
theorem d_La_passOn_24 : decode b_La_passOn 24 = .ok (.iload_n 3, 1) := by decide +kernel
theorem d_La_passOn_25 : decode b_La_passOn 25 = .ok (.if_icmp .ge 59, 3) := by decide +kernel
theorem d_La_passOn_28 : decode b_La_passOn 28 = .ok (.aload_n 0, 1) := by decide +kernel
theorem d_La_passOn_29 : decode b_La_passOn 29 = .ok (.getfield 23, 3) := by decide +kernel
theorem d_La_passOn_32 : decode b_La_passOn 32 = .ok (.iload 4, 2) := by decide +kernel
theorem d_La_passOn_34 : decode b_La_passOn 34 = .ok (.iload 5, 2) := by decide +kernel
theorem d_La_passOn_36 : decode b_La_passOn 36 = .ok (.invokevirtual 74, 3) := by decide +kernel
theorem d_La_passOn_39 : decode b_La_passOn 39 = .ok (.ifCond .eq 39, 3) := by decide +kernel
theorem d_La_passOn_42 : decode b_La_passOn 42 = .ok (.iload_n 2, 1) := by decide +kernel
theorem d_La_passOn_43 : decode b_La_passOn 43 = .ok (.iload_n 1, 1) := by decide +kernel
theorem d_La_passOn_44 : decode b_La_passOn 44 = .ok (.ifCond .eq 19, 3) := by decide +kernel
theorem d_La_passOn_47 : decode b_La_passOn 47 = .ok (.aload_n 0, 1) := by decide +kernel
theorem d_La_passOn_48 : decode b_La_passOn 48 = .ok (.iload 5, 2) := by decide +kernel
theorem d_La_passOn_50 : decode b_La_passOn 50 = .ok (.aload_n 0, 1) := by decide +kernel
theorem d_La_passOn_51 : decode b_La_passOn 51 = .ok (.getfield 9, 3) := by decide +kernel
theorem d_La_passOn_54 : decode b_La_passOn 54 = .ok (.iload 4, 2) := by decide +kernel
theorem d_La_passOn_56 : decode b_La_passOn 56 = .ok (.iaload, 1) := by decide +kernel
theorem d_La_passOn_57 : decode b_La_passOn 57 = .ok (.invokevirtual 70, 3) := by decide +kernel
theorem d_La_passOn_60 : decode b_La_passOn 60 = .ok (.goto 16, 3) := by decide +kernel
theorem d_La_passOn_63 : decode b_La_passOn 63 = .ok (.aload_n 0, 1) := by decide +kernel
theorem d_La_passOn_64 : decode b_La_passOn 64 = .ok (.iload 4, 2) := by decide +kernel
theorem d_La_passOn_66 : decode b_La_passOn 66 = .ok (.aload_n 0, 1) := by decide +kernel
theorem d_La_passOn_67 : decode b_La_passOn 67 = .ok (.getfield 9, 3) := by decide +kernel
theorem d_La_passOn_70 : decode b_La_passOn 70 = .ok (.iload 5, 2) := by decide +kernel
theorem d_La_passOn_72 : decode b_La_passOn 72 = .ok (.iaload, 1) := by decide +kernel
theorem d_La_passOn_73 : decode b_La_passOn 73 = .ok (.invokevirtual 70, 3) := by decide +kernel
theorem d_La_passOn_76 : decode b_La_passOn 76 = .ok (.ior, 1) := by decide +kernel
theorem d_La_passOn_77 : decode b_La_passOn 77 = .ok (.istore_n 2, 1) := by decide +kernel
theorem d_La_passOn_78 : decode b_La_passOn 78 = .ok (.iinc 5 1, 3) := by decide +kernel
theorem d_La_passOn_81 : decode b_La_passOn 81 = .ok (.goto (-59), 3) := by decide +kernel
theorem d_La_passOn_84 : decode b_La_passOn 84 = .ok (.iinc 4 1, 3) := by decide +kernel
theorem d_La_passOn_87 : decode b_La_passOn 87 = .ok (.goto (-74), 3) := by decide +kernel
theorem d_La_passOn_90 : decode b_La_passOn 90 = .ok (.iload_n 2, 1) := by decide +kernel
theorem d_La_passOn_91 : decode b_La_passOn 91 = .ok (.ireturn, 1) := by decide +kernel
abbrev b_La_spread : ByteArray := prog_3_method_5_code
def y_La_spread : MethodName := ⟨R_La, "spread", "(Z)V"⟩
theorem k_La_spread : kV y_La_spread b_La_spread 4 none 1 := ⟨gmem (List.mem_append_right _ (List.mem_of_getElem? (i := 606) (by decide +kernel))) (by decide +kernel), gmem (List.mem_append_left _ (List.mem_of_getElem? (i := 12) (by decide +kernel))) (by decide +kernel), in_La, gmem (List.mem_append_right _ (List.mem_of_getElem? (i := 607) (by decide +kernel))) (by decide +kernel), by decide, by decide, by decide +kernel⟩
theorem d_La_spread_0 : decode b_La_spread 0 = .ok (.aload_n 0, 1) := by decide +kernel
theorem d_La_spread_1 : decode b_La_spread 1 = .ok (.getfield 9, 3) := by decide +kernel
theorem d_La_spread_4 : decode b_La_spread 4 = .ok (.iconst 0, 1) := by decide +kernel
theorem d_La_spread_5 : decode b_La_spread 5 = .ok (.invokestatic 27, 3) := by decide +kernel
theorem d_La_spread_8 : decode b_La_spread 8 = .ok (.iconst 1, 1) := by decide +kernel
theorem d_La_spread_9 : decode b_La_spread 9 = .ok (.istore_n 2, 1) := by decide +kernel
theorem d_La_spread_10 : decode b_La_spread 10 = .ok (.iconst 0, 1) := by decide +kernel
theorem d_La_spread_11 : decode b_La_spread 11 = .ok (.istore_n 3, 1) := by decide +kernel
theorem d_La_spread_12 : decode b_La_spread 12 = .ok (.iload_n 3, 1) := by decide +kernel
theorem d_La_spread_13 : decode b_La_spread 13 = .ok (.sipush 289, 3) := by decide +kernel
theorem d_La_spread_16 : decode b_La_spread 16 = .ok (.if_icmp .ge 28, 3) := by decide +kernel
theorem d_La_spread_19 : decode b_La_spread 19 = .ok (.iload_n 2, 1) := by decide +kernel
theorem d_La_spread_20 : decode b_La_spread 20 = .ok (.ifCond .eq 24, 3) := by decide +kernel
theorem d_La_spread_23 : decode b_La_spread 23 = .ok (.aload_n 0, 1) := by decide +kernel
theorem d_La_spread_24 : decode b_La_spread 24 = .ok (.invokevirtual 33, 3) := by decide +kernel
theorem d_La_spread_27 : decode b_La_spread 27 = .ok (.istore_n 2, 1) := by decide +kernel
theorem d_La_spread_28 : decode b_La_spread 28 = .ok (.aload_n 0, 1) := by decide +kernel
theorem d_La_spread_29 : decode b_La_spread 29 = .ok (.iload_n 1, 1) := by decide +kernel
theorem d_La_spread_30 : decode b_La_spread 30 = .ok (.invokevirtual 41, 3) := by decide +kernel
theorem d_La_spread_33 : decode b_La_spread 33 = .ok (.ifCond .eq 5, 3) := by decide +kernel
theorem d_La_spread_36 : decode b_La_spread 36 = .ok (.iconst 1, 1) := by decide +kernel
theorem d_La_spread_37 : decode b_La_spread 37 = .ok (.istore_n 2, 1) := by decide +kernel
theorem d_La_spread_38 : decode b_La_spread 38 = .ok (.iinc 3 1, 3) := by decide +kernel
theorem d_La_spread_41 : decode b_La_spread 41 = .ok (.goto (-29), 3) := by decide +kernel
theorem d_La_spread_44 : decode b_La_spread 44 = .ok (.return_, 1) := by decide +kernel
abbrev b_La_statesBefore : ByteArray := prog_3_method_3_code
def y_La_statesBefore : MethodName := ⟨R_La, "statesBefore", "(I)I"⟩
theorem k_La_statesBefore : kV y_La_statesBefore b_La_statesBefore 2 (some .int) 1 := ⟨gmem (List.mem_append_right _ (List.mem_of_getElem? (i := 601) (by decide +kernel))) (by decide +kernel), gmem (List.mem_append_right _ (List.mem_of_getElem? (i := 602) (by decide +kernel))) (by decide +kernel), in_La, gmem (List.mem_append_right _ (List.mem_of_getElem? (i := 603) (by decide +kernel))) (by decide +kernel), by decide, by decide, by decide +kernel⟩
theorem d_La_statesBefore_0 : decode b_La_statesBefore 0 = .ok (.aload_n 0, 1) := by decide +kernel
theorem d_La_statesBefore_1 : decode b_La_statesBefore 1 = .ok (.iconst 1, 1) := by decide +kernel
theorem d_La_statesBefore_2 : decode b_La_statesBefore 2 = .ok (.invokevirtual 37, 3) := by decide +kernel
theorem d_La_statesBefore_5 : decode b_La_statesBefore 5 = .ok (.aload_n 0, 1) := by decide +kernel
theorem d_La_statesBefore_6 : decode b_La_statesBefore 6 = .ok (.getfield 9, 3) := by decide +kernel
theorem d_La_statesBefore_9 : decode b_La_statesBefore 9 = .ok (.iload_n 1, 1) := by decide +kernel
theorem d_La_statesBefore_10 : decode b_La_statesBefore 10 = .ok (.iaload, 1) := by decide +kernel
theorem d_La_statesBefore_11 : decode b_La_statesBefore 11 = .ok (.ireturn, 1) := by decide +kernel
abbrev b_La_statesBehind : ByteArray := prog_3_method_4_code
def y_La_statesBehind : MethodName := ⟨R_La, "statesBehind", "(I)I"⟩
theorem k_La_statesBehind : kV y_La_statesBehind b_La_statesBehind 2 (some .int) 1 := ⟨gmem (List.mem_append_right _ (List.mem_of_getElem? (i := 621) (by decide +kernel))) (by decide +kernel), gmem (List.mem_append_right _ (List.mem_of_getElem? (i := 622) (by decide +kernel))) (by decide +kernel), in_La, gmem (List.mem_append_right _ (List.mem_of_getElem? (i := 623) (by decide +kernel))) (by decide +kernel), by decide, by decide, by decide +kernel⟩
theorem d_La_statesBehind_0 : decode b_La_statesBehind 0 = .ok (.aload_n 0, 1) := by decide +kernel
theorem d_La_statesBehind_1 : decode b_La_statesBehind 1 = .ok (.iconst 0, 1) := by decide +kernel
theorem d_La_statesBehind_2 : decode b_La_statesBehind 2 = .ok (.invokevirtual 37, 3) := by decide +kernel
theorem d_La_statesBehind_5 : decode b_La_statesBehind 5 = .ok (.aload_n 0, 1) := by decide +kernel
theorem d_La_statesBehind_6 : decode b_La_statesBehind 6 = .ok (.getfield 9, 3) := by decide +kernel
theorem d_La_statesBehind_9 : decode b_La_statesBehind 9 = .ok (.iload_n 1, 1) := by decide +kernel
theorem d_La_statesBehind_10 : decode b_La_statesBehind 10 = .ok (.iaload, 1) := by decide +kernel
theorem d_La_statesBehind_11 : decode b_La_statesBehind 11 = .ok (.ireturn, 1) := by decide +kernel
abbrev b_Sp_rebuild : ByteArray := prog_7_method_4_code
def y_Sp_rebuild : MethodName := ⟨R_Sp, "rebuild", "(II)I"⟩
theorem k_Sp_rebuild : kV y_Sp_rebuild b_Sp_rebuild 9 (some .int) 2 := ⟨gmem (List.mem_append_right _ (List.mem_of_getElem? (i := 695) (by decide +kernel))) (by decide +kernel), gmem (List.mem_append_left _ (List.mem_of_getElem? (i := 17) (by decide +kernel))) (by decide +kernel), in_Sp, gmem (List.mem_append_right _ (List.mem_of_getElem? (i := 696) (by decide +kernel))) (by decide +kernel), by decide, by decide, by decide +kernel⟩
theorem d_Sp_rebuild_0 : decode b_Sp_rebuild 0 = .ok (.aload_n 0, 1) := by decide +kernel
theorem d_Sp_rebuild_1 : decode b_Sp_rebuild 1 = .ok (.getfield 23, 3) := by decide +kernel
theorem d_Sp_rebuild_4 : decode b_Sp_rebuild 4 = .ok (.invokevirtual 67, 3) := by decide +kernel
theorem d_Sp_rebuild_7 : decode b_Sp_rebuild 7 = .ok (.istore_n 3, 1) := by decide +kernel
theorem d_Sp_rebuild_8 : decode b_Sp_rebuild 8 = .ok (.iload_n 2, 1) := by decide +kernel
theorem d_Sp_rebuild_9 : decode b_Sp_rebuild 9 = .ok (.istore 4, 2) := by decide +kernel
theorem d_Sp_rebuild_11 : decode b_Sp_rebuild 11 = .ok (.iload_n 1, 1) := by decide +kernel
theorem d_Sp_rebuild_12 : decode b_Sp_rebuild 12 = .ok (.iconst 1, 1) := by decide +kernel
theorem d_Sp_rebuild_13 : decode b_Sp_rebuild 13 = .ok (.isub, 1) := by decide +kernel
theorem d_Sp_rebuild_14 : decode b_Sp_rebuild 14 = .ok (.istore 5, 2) := by decide +kernel
theorem d_Sp_rebuild_16 : decode b_Sp_rebuild 16 = .ok (.iload 5, 2) := by decide +kernel
theorem d_Sp_rebuild_18 : decode b_Sp_rebuild 18 = .ok (.ifCond .lt 98, 3) := by decide +kernel
theorem d_Sp_rebuild_21 : decode b_Sp_rebuild 21 = .ok (.iload 4, 2) := by decide +kernel
theorem d_Sp_rebuild_23 : decode b_Sp_rebuild 23 = .ok (.iconst (-1), 1) := by decide +kernel
theorem d_Sp_rebuild_24 : decode b_Sp_rebuild 24 = .ok (.if_icmp .eq 92, 3) := by decide +kernel
theorem d_Sp_rebuild_27 : decode b_Sp_rebuild 27 = .ok (.aload_n 0, 1) := by decide +kernel
theorem d_Sp_rebuild_28 : decode b_Sp_rebuild 28 = .ok (.getfield 15, 3) := by decide +kernel
theorem d_Sp_rebuild_31 : decode b_Sp_rebuild 31 = .ok (.iload 5, 2) := by decide +kernel
theorem d_Sp_rebuild_33 : decode b_Sp_rebuild 33 = .ok (.iaload, 1) := by decide +kernel
theorem d_Sp_rebuild_34 : decode b_Sp_rebuild 34 = .ok (.istore 6, 2) := by decide +kernel
theorem d_Sp_rebuild_36 : decode b_Sp_rebuild 36 = .ok (.aload_n 0, 1) := by decide +kernel
theorem d_Sp_rebuild_37 : decode b_Sp_rebuild 37 = .ok (.getfield 19, 3) := by decide +kernel
theorem d_Sp_rebuild_40 : decode b_Sp_rebuild 40 = .ok (.iload 5, 2) := by decide +kernel
theorem d_Sp_rebuild_42 : decode b_Sp_rebuild 42 = .ok (.baload, 1) := by decide +kernel
theorem d_Sp_rebuild_43 : decode b_Sp_rebuild 43 = .ok (.ifCond .eq 8, 3) := by decide +kernel
theorem d_Sp_rebuild_46 : decode b_Sp_rebuild 46 = .ok (.iload 4, 2) := by decide +kernel
theorem d_Sp_rebuild_48 : decode b_Sp_rebuild 48 = .ok (.goto 12, 3) := by decide +kernel
theorem d_Sp_rebuild_51 : decode b_Sp_rebuild 51 = .ok (.aload_n 0, 1) := by decide +kernel
theorem d_Sp_rebuild_52 : decode b_Sp_rebuild 52 = .ok (.getfield 23, 3) := by decide +kernel
theorem d_Sp_rebuild_55 : decode b_Sp_rebuild 55 = .ok (.iload 6, 2) := by decide +kernel
theorem d_Sp_rebuild_57 : decode b_Sp_rebuild 57 = .ok (.invokevirtual 48, 3) := by decide +kernel
theorem d_Sp_rebuild_60 : decode b_Sp_rebuild 60 = .ok (.istore 7, 2) := by decide +kernel
theorem d_Sp_rebuild_62 : decode b_Sp_rebuild 62 = .ok (.aload_n 0, 1) := by decide +kernel
theorem d_Sp_rebuild_63 : decode b_Sp_rebuild 63 = .ok (.getfield 19, 3) := by decide +kernel
theorem d_Sp_rebuild_66 : decode b_Sp_rebuild 66 = .ok (.iload 5, 2) := by decide +kernel
theorem d_Sp_rebuild_68 : decode b_Sp_rebuild 68 = .ok (.baload, 1) := by decide +kernel
theorem d_Sp_rebuild_69 : decode b_Sp_rebuild 69 = .ok (.ifCond .eq 15, 3) := by decide +kernel
theorem d_Sp_rebuild_72 : decode b_Sp_rebuild 72 = .ok (.aload_n 0, 1) := by decide +kernel
theorem d_Sp_rebuild_73 : decode b_Sp_rebuild 73 = .ok (.getfield 23, 3) := by decide +kernel
theorem d_Sp_rebuild_76 : decode b_Sp_rebuild 76 = .ok (.iload 6, 2) := by decide +kernel
theorem d_Sp_rebuild_78 : decode b_Sp_rebuild 78 = .ok (.invokevirtual 57, 3) := by decide +kernel
theorem d_Sp_rebuild_81 : decode b_Sp_rebuild 81 = .ok (.goto 5, 3) := by decide +kernel
theorem d_Sp_rebuild_84 : decode b_Sp_rebuild 84 = .ok (.iload 4, 2) := by decide +kernel
theorem d_Sp_rebuild_86 : decode b_Sp_rebuild 86 = .ok (.istore 8, 2) := by decide +kernel
theorem d_Sp_rebuild_88 : decode b_Sp_rebuild 88 = .ok (.aload_n 0, 1) := by decide +kernel
theorem d_Sp_rebuild_89 : decode b_Sp_rebuild 89 = .ok (.getfield 23, 3) := by decide +kernel
theorem d_Sp_rebuild_92 : decode b_Sp_rebuild 92 = .ok (.aload_n 0, 1) := by decide +kernel
theorem d_Sp_rebuild_93 : decode b_Sp_rebuild 93 = .ok (.getfield 23, 3) := by decide +kernel
theorem d_Sp_rebuild_96 : decode b_Sp_rebuild 96 = .ok (.iload 6, 2) := by decide +kernel
theorem d_Sp_rebuild_98 : decode b_Sp_rebuild 98 = .ok (.invokevirtual 71, 3) := by decide +kernel
theorem d_Sp_rebuild_101 : decode b_Sp_rebuild 101 = .ok (.iload 7, 2) := by decide +kernel
theorem d_Sp_rebuild_103 : decode b_Sp_rebuild 103 = .ok (.iload 8, 2) := by decide +kernel
theorem d_Sp_rebuild_105 : decode b_Sp_rebuild 105 = .ok (.invokevirtual 74, 3) := by decide +kernel
theorem d_Sp_rebuild_108 : decode b_Sp_rebuild 108 = .ok (.istore 4, 2) := by decide +kernel
theorem d_Sp_rebuild_110 : decode b_Sp_rebuild 110 = .ok (.iinc 5 (-1), 3) := by decide +kernel
theorem d_Sp_rebuild_113 : decode b_Sp_rebuild 113 = .ok (.goto (-97), 3) := by decide +kernel
theorem d_Sp_rebuild_116 : decode b_Sp_rebuild 116 = .ok (.iload 4, 2) := by decide +kernel
theorem d_Sp_rebuild_118 : decode b_Sp_rebuild 118 = .ok (.iconst (-1), 1) := by decide +kernel
theorem d_Sp_rebuild_119 : decode b_Sp_rebuild 119 = .ok (.if_icmp .ne 11, 3) := by decide +kernel
theorem d_Sp_rebuild_122 : decode b_Sp_rebuild 122 = .ok (.aload_n 0, 1) := by decide +kernel
theorem d_Sp_rebuild_123 : decode b_Sp_rebuild 123 = .ok (.getfield 23, 3) := by decide +kernel
theorem d_Sp_rebuild_126 : decode b_Sp_rebuild 126 = .ok (.iload_n 3, 1) := by decide +kernel
theorem d_Sp_rebuild_127 : decode b_Sp_rebuild 127 = .ok (.invokevirtual 78, 3) := by decide +kernel
theorem d_Sp_rebuild_130 : decode b_Sp_rebuild 130 = .ok (.iload 4, 2) := by decide +kernel
theorem d_Sp_rebuild_132 : decode b_Sp_rebuild 132 = .ok (.ireturn, 1) := by decide +kernel
abbrev b_Sp_targetOf : ByteArray := prog_7_method_3_code
def y_Sp_targetOf : MethodName := ⟨R_Sp, "targetOf", "(II)I"⟩
theorem k_Sp_targetOf : kV y_Sp_targetOf b_Sp_targetOf 8 (some .int) 2 := ⟨gmem (List.mem_append_right _ (List.mem_of_getElem? (i := 686) (by decide +kernel))) (by decide +kernel), gmem (List.mem_append_right _ (List.mem_of_getElem? (i := 687) (by decide +kernel))) (by decide +kernel), in_Sp, gmem (List.mem_append_right _ (List.mem_of_getElem? (i := 688) (by decide +kernel))) (by decide +kernel), by decide, by decide, by decide +kernel⟩
theorem d_Sp_targetOf_0 : decode b_Sp_targetOf 0 = .ok (.aload_n 0, 1) := by decide +kernel
theorem d_Sp_targetOf_1 : decode b_Sp_targetOf 1 = .ok (.invokevirtual 31, 3) := by decide +kernel
theorem d_Sp_targetOf_4 : decode b_Sp_targetOf 4 = .ok (.iload_n 1, 1) := by decide +kernel
theorem d_Sp_targetOf_5 : decode b_Sp_targetOf 5 = .ok (.istore_n 3, 1) := by decide +kernel
theorem d_Sp_targetOf_6 : decode b_Sp_targetOf 6 = .ok (.iconst 0, 1) := by decide +kernel
theorem d_Sp_targetOf_7 : decode b_Sp_targetOf 7 = .ok (.istore 4, 2) := by decide +kernel
theorem d_Sp_targetOf_9 : decode b_Sp_targetOf 9 = .ok (.iload_n 2, 1) := by decide +kernel
theorem d_Sp_targetOf_10 : decode b_Sp_targetOf 10 = .ok (.i2l, 1) := by decide +kernel
theorem d_Sp_targetOf_11 : decode b_Sp_targetOf 11 = .ok (.lstore 5, 2) := by decide +kernel
theorem d_Sp_targetOf_13 : decode b_Sp_targetOf 13 = .ok (.iload 4, 2) := by decide +kernel
theorem d_Sp_targetOf_15 : decode b_Sp_targetOf 15 = .ok (.bipush 48, 2) := by decide +kernel
theorem d_Sp_targetOf_17 : decode b_Sp_targetOf 17 = .ok (.if_icmp .ge 134, 3) := by decide +kernel
theorem d_Sp_targetOf_20 : decode b_Sp_targetOf 20 = .ok (.iload_n 3, 1) := by decide +kernel
theorem d_Sp_targetOf_21 : decode b_Sp_targetOf 21 = .ok (.iconst (-1), 1) := by decide +kernel
theorem d_Sp_targetOf_22 : decode b_Sp_targetOf 22 = .ok (.if_icmp .eq 129, 3) := by decide +kernel
theorem d_Sp_targetOf_25 : decode b_Sp_targetOf 25 = .ok (.lload 5, 2) := by decide +kernel
theorem d_Sp_targetOf_27 : decode b_Sp_targetOf 27 = .ok (.aload_n 0, 1) := by decide +kernel
theorem d_Sp_targetOf_28 : decode b_Sp_targetOf 28 = .ok (.getfield 27, 3) := by decide +kernel
theorem d_Sp_targetOf_31 : decode b_Sp_targetOf 31 = .ok (.iload_n 3, 1) := by decide +kernel
theorem d_Sp_targetOf_32 : decode b_Sp_targetOf 32 = .ok (.invokevirtual 42, 3) := by decide +kernel
theorem d_Sp_targetOf_35 : decode b_Sp_targetOf 35 = .ok (.i2l, 1) := by decide +kernel
theorem d_Sp_targetOf_36 : decode b_Sp_targetOf 36 = .ok (.lcmp, 1) := by decide +kernel
theorem d_Sp_targetOf_37 : decode b_Sp_targetOf 37 = .ok (.ifCond .lt 114, 3) := by decide +kernel
theorem d_Sp_targetOf_40 : decode b_Sp_targetOf 40 = .ok (.lload 5, 2) := by decide +kernel
theorem d_Sp_targetOf_42 : decode b_Sp_targetOf 42 = .ok (.aload_n 0, 1) := by decide +kernel
theorem d_Sp_targetOf_43 : decode b_Sp_targetOf 43 = .ok (.getfield 27, 3) := by decide +kernel
theorem d_Sp_targetOf_46 : decode b_Sp_targetOf 46 = .ok (.iload_n 3, 1) := by decide +kernel
theorem d_Sp_targetOf_47 : decode b_Sp_targetOf 47 = .ok (.invokevirtual 42, 3) := by decide +kernel
theorem d_Sp_targetOf_50 : decode b_Sp_targetOf 50 = .ok (.i2l, 1) := by decide +kernel
theorem d_Sp_targetOf_51 : decode b_Sp_targetOf 51 = .ok (.lsub, 1) := by decide +kernel
theorem d_Sp_targetOf_52 : decode b_Sp_targetOf 52 = .ok (.lstore 5, 2) := by decide +kernel
theorem d_Sp_targetOf_54 : decode b_Sp_targetOf 54 = .ok (.aload_n 0, 1) := by decide +kernel
theorem d_Sp_targetOf_55 : decode b_Sp_targetOf 55 = .ok (.getfield 23, 3) := by decide +kernel
theorem d_Sp_targetOf_58 : decode b_Sp_targetOf 58 = .ok (.iload_n 3, 1) := by decide +kernel
theorem d_Sp_targetOf_59 : decode b_Sp_targetOf 59 = .ok (.invokevirtual 48, 3) := by decide +kernel
theorem d_Sp_targetOf_62 : decode b_Sp_targetOf 62 = .ok (.istore 7, 2) := by decide +kernel
theorem d_Sp_targetOf_64 : decode b_Sp_targetOf 64 = .ok (.aload_n 0, 1) := by decide +kernel
theorem d_Sp_targetOf_65 : decode b_Sp_targetOf 65 = .ok (.getfield 15, 3) := by decide +kernel
theorem d_Sp_targetOf_68 : decode b_Sp_targetOf 68 = .ok (.iload 4, 2) := by decide +kernel
theorem d_Sp_targetOf_70 : decode b_Sp_targetOf 70 = .ok (.iload_n 3, 1) := by decide +kernel
theorem d_Sp_targetOf_71 : decode b_Sp_targetOf 71 = .ok (.iastore, 1) := by decide +kernel
theorem d_Sp_targetOf_72 : decode b_Sp_targetOf 72 = .ok (.aload_n 0, 1) := by decide +kernel
theorem d_Sp_targetOf_73 : decode b_Sp_targetOf 73 = .ok (.getfield 19, 3) := by decide +kernel
theorem d_Sp_targetOf_76 : decode b_Sp_targetOf 76 = .ok (.iload 4, 2) := by decide +kernel
theorem d_Sp_targetOf_78 : decode b_Sp_targetOf 78 = .ok (.lload 5, 2) := by decide +kernel
theorem d_Sp_targetOf_80 : decode b_Sp_targetOf 80 = .ok (.aload_n 0, 1) := by decide +kernel
theorem d_Sp_targetOf_81 : decode b_Sp_targetOf 81 = .ok (.iload 7, 2) := by decide +kernel
theorem d_Sp_targetOf_83 : decode b_Sp_targetOf 83 = .ok (.invokevirtual 53, 3) := by decide +kernel
theorem d_Sp_targetOf_86 : decode b_Sp_targetOf 86 = .ok (.lcmp, 1) := by decide +kernel
theorem d_Sp_targetOf_87 : decode b_Sp_targetOf 87 = .ok (.ifCond .ge 7, 3) := by decide +kernel
theorem d_Sp_targetOf_90 : decode b_Sp_targetOf 90 = .ok (.iconst 1, 1) := by decide +kernel
theorem d_Sp_targetOf_91 : decode b_Sp_targetOf 91 = .ok (.goto 4, 3) := by decide +kernel
theorem d_Sp_targetOf_94 : decode b_Sp_targetOf 94 = .ok (.iconst 0, 1) := by decide +kernel
theorem d_Sp_targetOf_95 : decode b_Sp_targetOf 95 = .ok (.bastore, 1) := by decide +kernel
theorem d_Sp_targetOf_96 : decode b_Sp_targetOf 96 = .ok (.lload 5, 2) := by decide +kernel
theorem d_Sp_targetOf_98 : decode b_Sp_targetOf 98 = .ok (.aload_n 0, 1) := by decide +kernel
theorem d_Sp_targetOf_99 : decode b_Sp_targetOf 99 = .ok (.getfield 19, 3) := by decide +kernel
theorem d_Sp_targetOf_102 : decode b_Sp_targetOf 102 = .ok (.iload 4, 2) := by decide +kernel
theorem d_Sp_targetOf_104 : decode b_Sp_targetOf 104 = .ok (.baload, 1) := by decide +kernel
theorem d_Sp_targetOf_105 : decode b_Sp_targetOf 105 = .ok (.ifCond .eq 7, 3) := by decide +kernel
theorem d_Sp_targetOf_108 : decode b_Sp_targetOf 108 = .ok (.lconst 0, 1) := by decide +kernel
theorem d_Sp_targetOf_109 : decode b_Sp_targetOf 109 = .ok (.goto 9, 3) := by decide +kernel
theorem d_Sp_targetOf_112 : decode b_Sp_targetOf 112 = .ok (.aload_n 0, 1) := by decide +kernel
theorem d_Sp_targetOf_113 : decode b_Sp_targetOf 113 = .ok (.iload 7, 2) := by decide +kernel
theorem d_Sp_targetOf_115 : decode b_Sp_targetOf 115 = .ok (.invokevirtual 53, 3) := by decide +kernel
theorem d_Sp_targetOf_118 : decode b_Sp_targetOf 118 = .ok (.lsub, 1) := by decide +kernel
theorem d_Sp_targetOf_119 : decode b_Sp_targetOf 119 = .ok (.lstore 5, 2) := by decide +kernel
theorem d_Sp_targetOf_121 : decode b_Sp_targetOf 121 = .ok (.aload_n 0, 1) := by decide +kernel
theorem d_Sp_targetOf_122 : decode b_Sp_targetOf 122 = .ok (.getfield 19, 3) := by decide +kernel
theorem d_Sp_targetOf_125 : decode b_Sp_targetOf 125 = .ok (.iload 4, 2) := by decide +kernel
theorem d_Sp_targetOf_127 : decode b_Sp_targetOf 127 = .ok (.baload, 1) := by decide +kernel
theorem d_Sp_targetOf_128 : decode b_Sp_targetOf 128 = .ok (.ifCond .eq 8, 3) := by decide +kernel
theorem d_Sp_targetOf_131 : decode b_Sp_targetOf 131 = .ok (.iload 7, 2) := by decide +kernel
theorem d_Sp_targetOf_133 : decode b_Sp_targetOf 133 = .ok (.goto 11, 3) := by decide +kernel
theorem d_Sp_targetOf_136 : decode b_Sp_targetOf 136 = .ok (.aload_n 0, 1) := by decide +kernel
theorem d_Sp_targetOf_137 : decode b_Sp_targetOf 137 = .ok (.getfield 23, 3) := by decide +kernel
theorem d_Sp_targetOf_140 : decode b_Sp_targetOf 140 = .ok (.iload_n 3, 1) := by decide +kernel
theorem d_Sp_targetOf_141 : decode b_Sp_targetOf 141 = .ok (.invokevirtual 57, 3) := by decide +kernel
theorem d_Sp_targetOf_144 : decode b_Sp_targetOf 144 = .ok (.istore_n 3, 1) := by decide +kernel
theorem d_Sp_targetOf_145 : decode b_Sp_targetOf 145 = .ok (.iinc 4 1, 3) := by decide +kernel
theorem d_Sp_targetOf_148 : decode b_Sp_targetOf 148 = .ok (.goto (-135), 3) := by decide +kernel
theorem d_Sp_targetOf_151 : decode b_Sp_targetOf 151 = .ok (.aload_n 0, 1) := by decide +kernel
theorem d_Sp_targetOf_152 : decode b_Sp_targetOf 152 = .ok (.iload 4, 2) := by decide +kernel
theorem d_Sp_targetOf_154 : decode b_Sp_targetOf 154 = .ok (.aload_n 0, 1) := by decide +kernel
theorem d_Sp_targetOf_155 : decode b_Sp_targetOf 155 = .ok (.getfield 27, 3) := by decide +kernel
theorem d_Sp_targetOf_158 : decode b_Sp_targetOf 158 = .ok (.iload_n 3, 1) := by decide +kernel
theorem d_Sp_targetOf_159 : decode b_Sp_targetOf 159 = .ok (.lload 5, 2) := by decide +kernel
theorem d_Sp_targetOf_161 : decode b_Sp_targetOf 161 = .ok (.l2i, 1) := by decide +kernel
theorem d_Sp_targetOf_162 : decode b_Sp_targetOf 162 = .ok (.invokevirtual 60, 3) := by decide +kernel
theorem d_Sp_targetOf_165 : decode b_Sp_targetOf 165 = .ok (.invokevirtual 64, 3) := by decide +kernel
theorem d_Sp_targetOf_168 : decode b_Sp_targetOf 168 = .ok (.ireturn, 1) := by decide +kernel
abbrev b_Ar_fillJ : ByteArray := prog_18_method_101_code
def y_Ar_fillJ : MethodName := ⟨R_Ar, "fill", "([JJ)V"⟩
theorem k_Ar_fillJ : kS y_Ar_fillJ b_Ar_fillJ 5 none 2 := ⟨gmem (List.mem_append_right _ (List.mem_of_getElem? (i := 720) (by decide +kernel))) (by decide +kernel), in_Ar, gmem (List.mem_append_right _ (List.mem_of_getElem? (i := 721) (by decide +kernel))) (by decide +kernel), by decide, by decide, by decide +kernel⟩
theorem d_Ar_fillJ_0 : decode b_Ar_fillJ 0 = .ok (.iconst 0, 1) := by decide +kernel
theorem d_Ar_fillJ_1 : decode b_Ar_fillJ 1 = .ok (.istore_n 3, 1) := by decide +kernel
theorem d_Ar_fillJ_2 : decode b_Ar_fillJ 2 = .ok (.aload_n 0, 1) := by decide +kernel
theorem d_Ar_fillJ_3 : decode b_Ar_fillJ 3 = .ok (.arraylength, 1) := by decide +kernel
theorem d_Ar_fillJ_4 : decode b_Ar_fillJ 4 = .ok (.istore 4, 2) := by decide +kernel
theorem d_Ar_fillJ_6 : decode b_Ar_fillJ 6 = .ok (.iload_n 3, 1) := by decide +kernel
theorem d_Ar_fillJ_7 : decode b_Ar_fillJ 7 = .ok (.iload 4, 2) := by decide +kernel
theorem d_Ar_fillJ_9 : decode b_Ar_fillJ 9 = .ok (.if_icmp .ge 13, 3) := by decide +kernel
theorem d_Ar_fillJ_12 : decode b_Ar_fillJ 12 = .ok (.aload_n 0, 1) := by decide +kernel
theorem d_Ar_fillJ_13 : decode b_Ar_fillJ 13 = .ok (.iload_n 3, 1) := by decide +kernel
theorem d_Ar_fillJ_14 : decode b_Ar_fillJ 14 = .ok (.lload_n 1, 1) := by decide +kernel
theorem d_Ar_fillJ_15 : decode b_Ar_fillJ 15 = .ok (.lastore, 1) := by decide +kernel
theorem d_Ar_fillJ_16 : decode b_Ar_fillJ 16 = .ok (.iinc 3 1, 3) := by decide +kernel
theorem d_Ar_fillJ_19 : decode b_Ar_fillJ 19 = .ok (.goto (-13), 3) := by decide +kernel
theorem d_Ar_fillJ_22 : decode b_Ar_fillJ 22 = .ok (.return_, 1) := by decide +kernel
abbrev b_Le_countWithParts : ByteArray := prog_4_method_8_code
def y_Le_countWithParts : MethodName := ⟨R_Le, "countWithParts", "(I)V"⟩
theorem k_Le_countWithParts : kV y_Le_countWithParts b_Le_countWithParts 6 none 1 := ⟨gmem (List.mem_append_right _ (List.mem_of_getElem? (i := 724) (by decide +kernel))) (by decide +kernel), gmem (List.mem_append_left _ (List.mem_of_getElem? (i := 19) (by decide +kernel))) (by decide +kernel), in_Le, gmem (List.mem_append_right _ (List.mem_of_getElem? (i := 725) (by decide +kernel))) (by decide +kernel), by decide, by decide, by decide +kernel⟩
theorem d_Le_countWithParts_0 : decode b_Le_countWithParts 0 = .ok (.aload_n 0, 1) := by decide +kernel
theorem d_Le_countWithParts_1 : decode b_Le_countWithParts 1 = .ok (.getfield 15, 3) := by decide +kernel
theorem d_Le_countWithParts_4 : decode b_Le_countWithParts 4 = .ok (.iload_n 1, 1) := by decide +kernel
theorem d_Le_countWithParts_5 : decode b_Le_countWithParts 5 = .ok (.baload, 1) := by decide +kernel
theorem d_Le_countWithParts_6 : decode b_Le_countWithParts 6 = .ok (.ifCond .eq 4, 3) := by decide +kernel
theorem d_Le_countWithParts_9 : decode b_Le_countWithParts 9 = .ok (.return_, 1) := by decide +kernel
theorem d_Le_countWithParts_10 : decode b_Le_countWithParts 10 = .ok (.lconst 1, 1) := by decide +kernel
theorem d_Le_countWithParts_11 : decode b_Le_countWithParts 11 = .ok (.iload_n 1, 1) := by decide +kernel
theorem d_Le_countWithParts_12 : decode b_Le_countWithParts 12 = .ok (.lshl, 1) := by decide +kernel
theorem d_Le_countWithParts_13 : decode b_Le_countWithParts 13 = .ok (.lstore_n 2, 1) := by decide +kernel
theorem d_Le_countWithParts_14 : decode b_Le_countWithParts 14 = .ok (.iload_n 1, 1) := by decide +kernel
theorem d_Le_countWithParts_15 : decode b_Le_countWithParts 15 = .ok (.istore 4, 2) := by decide +kernel
theorem d_Le_countWithParts_17 : decode b_Le_countWithParts 17 = .ok (.iload 4, 2) := by decide +kernel
theorem d_Le_countWithParts_19 : decode b_Le_countWithParts 19 = .ok (.ifCond .lt 117, 3) := by decide +kernel
theorem d_Le_countWithParts_22 : decode b_Le_countWithParts 22 = .ok (.lload_n 2, 1) := by decide +kernel
theorem d_Le_countWithParts_23 : decode b_Le_countWithParts 23 = .ok (.iload 4, 2) := by decide +kernel
theorem d_Le_countWithParts_25 : decode b_Le_countWithParts 25 = .ok (.lshr, 1) := by decide +kernel
theorem d_Le_countWithParts_26 : decode b_Le_countWithParts 26 = .ok (.lconst 1, 1) := by decide +kernel
theorem d_Le_countWithParts_27 : decode b_Le_countWithParts 27 = .ok (.land, 1) := by decide +kernel
theorem d_Le_countWithParts_28 : decode b_Le_countWithParts 28 = .ok (.lconst 0, 1) := by decide +kernel
theorem d_Le_countWithParts_29 : decode b_Le_countWithParts 29 = .ok (.lcmp, 1) := by decide +kernel
theorem d_Le_countWithParts_30 : decode b_Le_countWithParts 30 = .ok (.ifCond .eq 100, 3) := by decide +kernel
theorem d_Le_countWithParts_33 : decode b_Le_countWithParts 33 = .ok (.aload_n 0, 1) := by decide +kernel
theorem d_Le_countWithParts_34 : decode b_Le_countWithParts 34 = .ok (.getfield 15, 3) := by decide +kernel
theorem d_Le_countWithParts_37 : decode b_Le_countWithParts 37 = .ok (.iload 4, 2) := by decide +kernel
theorem d_Le_countWithParts_39 : decode b_Le_countWithParts 39 = .ok (.baload, 1) := by decide +kernel
theorem d_Le_countWithParts_40 : decode b_Le_countWithParts 40 = .ok (.ifCond .eq 6, 3) := by decide +kernel
theorem d_Le_countWithParts_43 : decode b_Le_countWithParts 43 = .ok (.goto 87, 3) := by decide +kernel
theorem d_Le_countWithParts_46 : decode b_Le_countWithParts 46 = .ok (.aload_n 0, 1) := by decide +kernel
theorem d_Le_countWithParts_47 : decode b_Le_countWithParts 47 = .ok (.getfield 15, 3) := by decide +kernel
theorem d_Le_countWithParts_50 : decode b_Le_countWithParts 50 = .ok (.iload 4, 2) := by decide +kernel
theorem d_Le_countWithParts_52 : decode b_Le_countWithParts 52 = .ok (.iconst 1, 1) := by decide +kernel
theorem d_Le_countWithParts_53 : decode b_Le_countWithParts 53 = .ok (.bastore, 1) := by decide +kernel
theorem d_Le_countWithParts_54 : decode b_Le_countWithParts 54 = .ok (.aload_n 0, 1) := by decide +kernel
theorem d_Le_countWithParts_55 : decode b_Le_countWithParts 55 = .ok (.dup, 1) := by decide +kernel
theorem d_Le_countWithParts_56 : decode b_Le_countWithParts 56 = .ok (.getfield 53, 3) := by decide +kernel
theorem d_Le_countWithParts_59 : decode b_Le_countWithParts 59 = .ok (.iconst 1, 1) := by decide +kernel
theorem d_Le_countWithParts_60 : decode b_Le_countWithParts 60 = .ok (.iadd, 1) := by decide +kernel
theorem d_Le_countWithParts_61 : decode b_Le_countWithParts 61 = .ok (.putfield 53, 3) := by decide +kernel
theorem d_Le_countWithParts_64 : decode b_Le_countWithParts 64 = .ok (.aload_n 0, 1) := by decide +kernel
theorem d_Le_countWithParts_65 : decode b_Le_countWithParts 65 = .ok (.getfield 35, 3) := by decide +kernel
theorem d_Le_countWithParts_68 : decode b_Le_countWithParts 68 = .ok (.aload_n 0, 1) := by decide +kernel
theorem d_Le_countWithParts_69 : decode b_Le_countWithParts 69 = .ok (.getfield 35, 3) := by decide +kernel
theorem d_Le_countWithParts_72 : decode b_Le_countWithParts 72 = .ok (.iload 4, 2) := by decide +kernel
theorem d_Le_countWithParts_74 : decode b_Le_countWithParts 74 = .ok (.invokevirtual 96, 3) := by decide +kernel
theorem d_Le_countWithParts_77 : decode b_Le_countWithParts 77 = .ok (.invokevirtual 99, 3) := by decide +kernel
theorem d_Le_countWithParts_80 : decode b_Le_countWithParts 80 = .ok (.istore 5, 2) := by decide +kernel
theorem d_Le_countWithParts_82 : decode b_Le_countWithParts 82 = .ok (.lload_n 2, 1) := by decide +kernel
theorem d_Le_countWithParts_83 : decode b_Le_countWithParts 83 = .ok (.iload 5, 2) := by decide +kernel
theorem d_Le_countWithParts_85 : decode b_Le_countWithParts 85 = .ok (.iconst 1, 1) := by decide +kernel
theorem d_Le_countWithParts_86 : decode b_Le_countWithParts 86 = .ok (.if_icmp .ge 7, 3) := by decide +kernel
theorem d_Le_countWithParts_89 : decode b_Le_countWithParts 89 = .ok (.lconst 0, 1) := by decide +kernel
theorem d_Le_countWithParts_90 : decode b_Le_countWithParts 90 = .ok (.goto 14, 3) := by decide +kernel
theorem d_Le_countWithParts_93 : decode b_Le_countWithParts 93 = .ok (.lconst 1, 1) := by decide +kernel
theorem d_Le_countWithParts_94 : decode b_Le_countWithParts 94 = .ok (.aload_n 0, 1) := by decide +kernel
theorem d_Le_countWithParts_95 : decode b_Le_countWithParts 95 = .ok (.getfield 35, 3) := by decide +kernel
theorem d_Le_countWithParts_98 : decode b_Le_countWithParts 98 = .ok (.iload 4, 2) := by decide +kernel
theorem d_Le_countWithParts_100 : decode b_Le_countWithParts 100 = .ok (.invokevirtual 102, 3) := by decide +kernel
theorem d_Le_countWithParts_103 : decode b_Le_countWithParts 103 = .ok (.lshl, 1) := by decide +kernel
theorem d_Le_countWithParts_104 : decode b_Le_countWithParts 104 = .ok (.lor, 1) := by decide +kernel
theorem d_Le_countWithParts_105 : decode b_Le_countWithParts 105 = .ok (.lstore_n 2, 1) := by decide +kernel
theorem d_Le_countWithParts_106 : decode b_Le_countWithParts 106 = .ok (.lload_n 2, 1) := by decide +kernel
theorem d_Le_countWithParts_107 : decode b_Le_countWithParts 107 = .ok (.iload 5, 2) := by decide +kernel
theorem d_Le_countWithParts_109 : decode b_Le_countWithParts 109 = .ok (.iconst 2, 1) := by decide +kernel
theorem d_Le_countWithParts_110 : decode b_Le_countWithParts 110 = .ok (.if_icmp .ge 7, 3) := by decide +kernel
theorem d_Le_countWithParts_113 : decode b_Le_countWithParts 113 = .ok (.lconst 0, 1) := by decide +kernel
theorem d_Le_countWithParts_114 : decode b_Le_countWithParts 114 = .ok (.goto 14, 3) := by decide +kernel
theorem d_Le_countWithParts_117 : decode b_Le_countWithParts 117 = .ok (.lconst 1, 1) := by decide +kernel
theorem d_Le_countWithParts_118 : decode b_Le_countWithParts 118 = .ok (.aload_n 0, 1) := by decide +kernel
theorem d_Le_countWithParts_119 : decode b_Le_countWithParts 119 = .ok (.getfield 35, 3) := by decide +kernel
theorem d_Le_countWithParts_122 : decode b_Le_countWithParts 122 = .ok (.iload 4, 2) := by decide +kernel
theorem d_Le_countWithParts_124 : decode b_Le_countWithParts 124 = .ok (.invokevirtual 109, 3) := by decide +kernel
theorem d_Le_countWithParts_127 : decode b_Le_countWithParts 127 = .ok (.lshl, 1) := by decide +kernel
theorem d_Le_countWithParts_128 : decode b_Le_countWithParts 128 = .ok (.lor, 1) := by decide +kernel
theorem d_Le_countWithParts_129 : decode b_Le_countWithParts 129 = .ok (.lstore_n 2, 1) := by decide +kernel
theorem d_Le_countWithParts_130 : decode b_Le_countWithParts 130 = .ok (.iinc 4 (-1), 3) := by decide +kernel
theorem d_Le_countWithParts_133 : decode b_Le_countWithParts 133 = .ok (.goto (-116), 3) := by decide +kernel
theorem d_Le_countWithParts_136 : decode b_Le_countWithParts 136 = .ok (.return_, 1) := by decide +kernel
abbrev b_Le_include : ByteArray := prog_4_method_10_code
def y_Le_include : MethodName := ⟨R_Le, "include", "([JII)V"⟩
theorem k_Le_include : kS y_Le_include b_Le_include 3 none 3 := ⟨gmem (List.mem_append_right _ (List.mem_of_getElem? (i := 731) (by decide +kernel))) (by decide +kernel), in_Le, gmem (List.mem_append_right _ (List.mem_of_getElem? (i := 732) (by decide +kernel))) (by decide +kernel), by decide, by decide, by decide +kernel⟩
theorem d_Le_include_0 : decode b_Le_include 0 = .ok (.iload_n 2, 1) := by decide +kernel
theorem d_Le_include_1 : decode b_Le_include 1 = .ok (.iconst (-1), 1) := by decide +kernel
theorem d_Le_include_2 : decode b_Le_include 2 = .ok (.if_icmp .eq 20, 3) := by decide +kernel
theorem d_Le_include_5 : decode b_Le_include 5 = .ok (.aload_n 0, 1) := by decide +kernel
theorem d_Le_include_6 : decode b_Le_include 6 = .ok (.iload_n 1, 1) := by decide +kernel
theorem d_Le_include_7 : decode b_Le_include 7 = .ok (.iload_n 2, 1) := by decide +kernel
theorem d_Le_include_8 : decode b_Le_include 8 = .ok (.bipush 64, 2) := by decide +kernel
theorem d_Le_include_10 : decode b_Le_include 10 = .ok (.idiv, 1) := by decide +kernel
theorem d_Le_include_11 : decode b_Le_include 11 = .ok (.iadd, 1) := by decide +kernel
theorem d_Le_include_12 : decode b_Le_include 12 = .ok (.dup2, 1) := by decide +kernel
theorem d_Le_include_13 : decode b_Le_include 13 = .ok (.laload, 1) := by decide +kernel
theorem d_Le_include_14 : decode b_Le_include 14 = .ok (.lconst 1, 1) := by decide +kernel
theorem d_Le_include_15 : decode b_Le_include 15 = .ok (.iload_n 2, 1) := by decide +kernel
theorem d_Le_include_16 : decode b_Le_include 16 = .ok (.bipush 64, 2) := by decide +kernel
theorem d_Le_include_18 : decode b_Le_include 18 = .ok (.irem, 1) := by decide +kernel
theorem d_Le_include_19 : decode b_Le_include 19 = .ok (.lshl, 1) := by decide +kernel
theorem d_Le_include_20 : decode b_Le_include 20 = .ok (.lor, 1) := by decide +kernel
theorem d_Le_include_21 : decode b_Le_include 21 = .ok (.lastore, 1) := by decide +kernel
theorem d_Le_include_22 : decode b_Le_include 22 = .ok (.return_, 1) := by decide +kernel
abbrev b_Le_start : ByteArray := prog_4_method_3_code
def y_Le_start : MethodName := ⟨R_Le, "start", "(I)V"⟩
theorem k_Le_start : kV y_Le_start b_Le_start 3 none 1 := ⟨gmem (List.mem_append_right _ (List.mem_of_getElem? (i := 717) (by decide +kernel))) (by decide +kernel), gmem (List.mem_append_left _ (List.mem_of_getElem? (i := 18) (by decide +kernel))) (by decide +kernel), in_Le, gmem (List.mem_append_right _ (List.mem_of_getElem? (i := 718) (by decide +kernel))) (by decide +kernel), by decide, by decide, by decide +kernel⟩
theorem d_Le_start_0 : decode b_Le_start 0 = .ok (.aload_n 0, 1) := by decide +kernel
theorem d_Le_start_1 : decode b_Le_start 1 = .ok (.getfield 11, 3) := by decide +kernel
theorem d_Le_start_4 : decode b_Le_start 4 = .ok (.lconst 0, 1) := by decide +kernel
theorem d_Le_start_5 : decode b_Le_start 5 = .ok (.invokestatic 73, 3) := by decide +kernel
theorem d_Le_start_8 : decode b_Le_start 8 = .ok (.aload_n 0, 1) := by decide +kernel
theorem d_Le_start_9 : decode b_Le_start 9 = .ok (.getfield 22, 3) := by decide +kernel
theorem d_Le_start_12 : decode b_Le_start 12 = .ok (.lconst 0, 1) := by decide +kernel
theorem d_Le_start_13 : decode b_Le_start 13 = .ok (.invokestatic 73, 3) := by decide +kernel
theorem d_Le_start_16 : decode b_Le_start 16 = .ok (.aload_n 0, 1) := by decide +kernel
theorem d_Le_start_17 : decode b_Le_start 17 = .ok (.getfield 25, 3) := by decide +kernel
theorem d_Le_start_20 : decode b_Le_start 20 = .ok (.lconst 0, 1) := by decide +kernel
theorem d_Le_start_21 : decode b_Le_start 21 = .ok (.invokestatic 73, 3) := by decide +kernel
theorem d_Le_start_24 : decode b_Le_start 24 = .ok (.iconst 0, 1) := by decide +kernel
theorem d_Le_start_25 : decode b_Le_start 25 = .ok (.istore_n 2, 1) := by decide +kernel
theorem d_Le_start_26 : decode b_Le_start 26 = .ok (.iload_n 2, 1) := by decide +kernel
theorem d_Le_start_27 : decode b_Le_start 27 = .ok (.sipush 448, 3) := by decide +kernel
theorem d_Le_start_30 : decode b_Le_start 30 = .ok (.if_icmp .ge 23, 3) := by decide +kernel
theorem d_Le_start_33 : decode b_Le_start 33 = .ok (.aload_n 0, 1) := by decide +kernel
theorem d_Le_start_34 : decode b_Le_start 34 = .ok (.getfield 15, 3) := by decide +kernel
theorem d_Le_start_37 : decode b_Le_start 37 = .ok (.iload_n 2, 1) := by decide +kernel
theorem d_Le_start_38 : decode b_Le_start 38 = .ok (.iconst 0, 1) := by decide +kernel
theorem d_Le_start_39 : decode b_Le_start 39 = .ok (.bastore, 1) := by decide +kernel
theorem d_Le_start_40 : decode b_Le_start 40 = .ok (.aload_n 0, 1) := by decide +kernel
theorem d_Le_start_41 : decode b_Le_start 41 = .ok (.getfield 19, 3) := by decide +kernel
theorem d_Le_start_44 : decode b_Le_start 44 = .ok (.iload_n 2, 1) := by decide +kernel
theorem d_Le_start_45 : decode b_Le_start 45 = .ok (.iconst 0, 1) := by decide +kernel
theorem d_Le_start_46 : decode b_Le_start 46 = .ok (.bastore, 1) := by decide +kernel
theorem d_Le_start_47 : decode b_Le_start 47 = .ok (.iinc 2 1, 3) := by decide +kernel
theorem d_Le_start_50 : decode b_Le_start 50 = .ok (.goto (-24), 3) := by decide +kernel
theorem d_Le_start_53 : decode b_Le_start 53 = .ok (.aload_n 0, 1) := by decide +kernel
theorem d_Le_start_54 : decode b_Le_start 54 = .ok (.iconst 0, 1) := by decide +kernel
theorem d_Le_start_55 : decode b_Le_start 55 = .ok (.putfield 53, 3) := by decide +kernel
theorem d_Le_start_58 : decode b_Le_start 58 = .ok (.aload_n 0, 1) := by decide +kernel
theorem d_Le_start_59 : decode b_Le_start 59 = .ok (.iload_n 1, 1) := by decide +kernel
theorem d_Le_start_60 : decode b_Le_start 60 = .ok (.invokevirtual 79, 3) := by decide +kernel
theorem d_Le_start_63 : decode b_Le_start 63 = .ok (.aload_n 0, 1) := by decide +kernel
theorem d_Le_start_64 : decode b_Le_start 64 = .ok (.getfield 22, 3) := by decide +kernel
theorem d_Le_start_67 : decode b_Le_start 67 = .ok (.iconst 0, 1) := by decide +kernel
theorem d_Le_start_68 : decode b_Le_start 68 = .ok (.iload_n 1, 1) := by decide +kernel
theorem d_Le_start_69 : decode b_Le_start 69 = .ok (.invokestatic 82, 3) := by decide +kernel
theorem d_Le_start_72 : decode b_Le_start 72 = .ok (.aload_n 0, 1) := by decide +kernel
theorem d_Le_start_73 : decode b_Le_start 73 = .ok (.getfield 25, 3) := by decide +kernel
theorem d_Le_start_76 : decode b_Le_start 76 = .ok (.iconst 0, 1) := by decide +kernel
theorem d_Le_start_77 : decode b_Le_start 77 = .ok (.iload_n 1, 1) := by decide +kernel
theorem d_Le_start_78 : decode b_Le_start 78 = .ok (.invokestatic 82, 3) := by decide +kernel
theorem d_Le_start_81 : decode b_Le_start 81 = .ok (.return_, 1) := by decide +kernel
abbrev b_Le_isIn : ByteArray := prog_4_method_11_code
def y_Le_isIn : MethodName := ⟨R_Le, "isIn", "([JI)Z"⟩
theorem k_Le_isIn : kS y_Le_isIn b_Le_isIn 2 (some .boolean) 2 := ⟨gmem (List.mem_append_right _ (List.mem_of_getElem? (i := 734) (by decide +kernel))) (by decide +kernel), in_Le, gmem (List.mem_append_right _ (List.mem_of_getElem? (i := 735) (by decide +kernel))) (by decide +kernel), by decide, by decide, by decide +kernel⟩
theorem d_Le_isIn_0 : decode b_Le_isIn 0 = .ok (.aload_n 0, 1) := by decide +kernel
theorem d_Le_isIn_1 : decode b_Le_isIn 1 = .ok (.iload_n 1, 1) := by decide +kernel
theorem d_Le_isIn_2 : decode b_Le_isIn 2 = .ok (.bipush 64, 2) := by decide +kernel
theorem d_Le_isIn_4 : decode b_Le_isIn 4 = .ok (.idiv, 1) := by decide +kernel
theorem d_Le_isIn_5 : decode b_Le_isIn 5 = .ok (.laload, 1) := by decide +kernel
theorem d_Le_isIn_6 : decode b_Le_isIn 6 = .ok (.iload_n 1, 1) := by decide +kernel
theorem d_Le_isIn_7 : decode b_Le_isIn 7 = .ok (.bipush 64, 2) := by decide +kernel
theorem d_Le_isIn_9 : decode b_Le_isIn 9 = .ok (.irem, 1) := by decide +kernel
theorem d_Le_isIn_10 : decode b_Le_isIn 10 = .ok (.lshr, 1) := by decide +kernel
theorem d_Le_isIn_11 : decode b_Le_isIn 11 = .ok (.lconst 1, 1) := by decide +kernel
theorem d_Le_isIn_12 : decode b_Le_isIn 12 = .ok (.land, 1) := by decide +kernel
theorem d_Le_isIn_13 : decode b_Le_isIn 13 = .ok (.lconst 0, 1) := by decide +kernel
theorem d_Le_isIn_14 : decode b_Le_isIn 14 = .ok (.lcmp, 1) := by decide +kernel
theorem d_Le_isIn_15 : decode b_Le_isIn 15 = .ok (.ifCond .eq 7, 3) := by decide +kernel
theorem d_Le_isIn_18 : decode b_Le_isIn 18 = .ok (.iconst 1, 1) := by decide +kernel
theorem d_Le_isIn_19 : decode b_Le_isIn 19 = .ok (.goto 4, 3) := by decide +kernel
theorem d_Le_isIn_22 : decode b_Le_isIn 22 = .ok (.iconst 0, 1) := by decide +kernel
theorem d_Le_isIn_23 : decode b_Le_isIn 23 = .ok (.ireturn, 1) := by decide +kernel
abbrev b_Le_findWaiting : ByteArray := prog_4_method_4_code
def y_Le_findWaiting : MethodName := ⟨R_Le, "findWaiting", "()I"⟩
theorem k_Le_findWaiting : kV y_Le_findWaiting b_Le_findWaiting 3 (some .int) 0 := ⟨gmem (List.mem_append_right _ (List.mem_of_getElem? (i := 738) (by decide +kernel))) (by decide +kernel), gmem (List.mem_append_left _ (List.mem_of_getElem? (i := 20) (by decide +kernel))) (by decide +kernel), in_Le, gmem (List.mem_append_right _ (List.mem_of_getElem? (i := 739) (by decide +kernel))) (by decide +kernel), by decide, by decide, by decide +kernel⟩
theorem d_Le_findWaiting_0 : decode b_Le_findWaiting 0 = .ok (.iconst 0, 1) := by decide +kernel
theorem d_Le_findWaiting_1 : decode b_Le_findWaiting 1 = .ok (.istore_n 1, 1) := by decide +kernel
theorem d_Le_findWaiting_2 : decode b_Le_findWaiting 2 = .ok (.iconst 0, 1) := by decide +kernel
theorem d_Le_findWaiting_3 : decode b_Le_findWaiting 3 = .ok (.istore_n 2, 1) := by decide +kernel
theorem d_Le_findWaiting_4 : decode b_Le_findWaiting 4 = .ok (.iload_n 2, 1) := by decide +kernel
theorem d_Le_findWaiting_5 : decode b_Le_findWaiting 5 = .ok (.aload_n 0, 1) := by decide +kernel
theorem d_Le_findWaiting_6 : decode b_Le_findWaiting 6 = .ok (.getfield 35, 3) := by decide +kernel
theorem d_Le_findWaiting_9 : decode b_Le_findWaiting 9 = .ok (.invokevirtual 43, 3) := by decide +kernel
theorem d_Le_findWaiting_12 : decode b_Le_findWaiting 12 = .ok (.if_icmp .ge 37, 3) := by decide +kernel
theorem d_Le_findWaiting_15 : decode b_Le_findWaiting 15 = .ok (.aload_n 0, 1) := by decide +kernel
theorem d_Le_findWaiting_16 : decode b_Le_findWaiting 16 = .ok (.getfield 15, 3) := by decide +kernel
theorem d_Le_findWaiting_19 : decode b_Le_findWaiting 19 = .ok (.iload_n 2, 1) := by decide +kernel
theorem d_Le_findWaiting_20 : decode b_Le_findWaiting 20 = .ok (.baload, 1) := by decide +kernel
theorem d_Le_findWaiting_21 : decode b_Le_findWaiting 21 = .ok (.ifCond .eq 22, 3) := by decide +kernel
theorem d_Le_findWaiting_24 : decode b_Le_findWaiting 24 = .ok (.aload_n 0, 1) := by decide +kernel
theorem d_Le_findWaiting_25 : decode b_Le_findWaiting 25 = .ok (.getfield 19, 3) := by decide +kernel
theorem d_Le_findWaiting_28 : decode b_Le_findWaiting 28 = .ok (.iload_n 2, 1) := by decide +kernel
theorem d_Le_findWaiting_29 : decode b_Le_findWaiting 29 = .ok (.baload, 1) := by decide +kernel
theorem d_Le_findWaiting_30 : decode b_Le_findWaiting 30 = .ok (.ifCond .ne 13, 3) := by decide +kernel
theorem d_Le_findWaiting_33 : decode b_Le_findWaiting 33 = .ok (.aload_n 0, 1) := by decide +kernel
theorem d_Le_findWaiting_34 : decode b_Le_findWaiting 34 = .ok (.getfield 31, 3) := by decide +kernel
theorem d_Le_findWaiting_37 : decode b_Le_findWaiting 37 = .ok (.iload_n 1, 1) := by decide +kernel
theorem d_Le_findWaiting_38 : decode b_Le_findWaiting 38 = .ok (.iinc 1 1, 3) := by decide +kernel
theorem d_Le_findWaiting_41 : decode b_Le_findWaiting 41 = .ok (.iload_n 2, 1) := by decide +kernel
theorem d_Le_findWaiting_42 : decode b_Le_findWaiting 42 = .ok (.iastore, 1) := by decide +kernel
theorem d_Le_findWaiting_43 : decode b_Le_findWaiting 43 = .ok (.iinc 2 1, 3) := by decide +kernel
theorem d_Le_findWaiting_46 : decode b_Le_findWaiting 46 = .ok (.goto (-42), 3) := by decide +kernel
theorem d_Le_findWaiting_49 : decode b_Le_findWaiting 49 = .ok (.iload_n 1, 1) := by decide +kernel
theorem d_Le_findWaiting_50 : decode b_Le_findWaiting 50 = .ok (.ireturn, 1) := by decide +kernel
abbrev b_Le_goOn : ByteArray := prog_4_method_9_code
def y_Le_goOn : MethodName := ⟨R_Le, "goOn", "()V"⟩
theorem k_Le_goOn : kV y_Le_goOn b_Le_goOn 3 none 0 := ⟨gmem (List.mem_append_right _ (List.mem_of_getElem? (i := 759) (by decide +kernel))) (by decide +kernel), gmem (List.mem_append_left _ (List.mem_of_getElem? (i := 24) (by decide +kernel))) (by decide +kernel), in_Le, gmem (List.mem_append_right _ (List.mem_of_getElem? (i := 760) (by decide +kernel))) (by decide +kernel), by decide, by decide, by decide +kernel⟩
theorem d_Le_goOn_0 : decode b_Le_goOn 0 = .ok (.aload_n 0, 1) := by decide +kernel
theorem d_Le_goOn_1 : decode b_Le_goOn 1 = .ok (.getfield 28, 3) := by decide +kernel
theorem d_Le_goOn_4 : decode b_Le_goOn 4 = .ok (.lconst 0, 1) := by decide +kernel
theorem d_Le_goOn_5 : decode b_Le_goOn 5 = .ok (.invokestatic 73, 3) := by decide +kernel
theorem d_Le_goOn_8 : decode b_Le_goOn 8 = .ok (.iconst 0, 1) := by decide +kernel
theorem d_Le_goOn_9 : decode b_Le_goOn 9 = .ok (.istore_n 1, 1) := by decide +kernel
theorem d_Le_goOn_10 : decode b_Le_goOn 10 = .ok (.iload_n 1, 1) := by decide +kernel
theorem d_Le_goOn_11 : decode b_Le_goOn 11 = .ok (.aload_n 0, 1) := by decide +kernel
theorem d_Le_goOn_12 : decode b_Le_goOn 12 = .ok (.getfield 35, 3) := by decide +kernel
theorem d_Le_goOn_15 : decode b_Le_goOn 15 = .ok (.invokevirtual 43, 3) := by decide +kernel
theorem d_Le_goOn_18 : decode b_Le_goOn 18 = .ok (.if_icmp .ge 54, 3) := by decide +kernel
theorem d_Le_goOn_21 : decode b_Le_goOn 21 = .ok (.iconst 0, 1) := by decide +kernel
theorem d_Le_goOn_22 : decode b_Le_goOn 22 = .ok (.istore_n 2, 1) := by decide +kernel
theorem d_Le_goOn_23 : decode b_Le_goOn 23 = .ok (.iload_n 2, 1) := by decide +kernel
theorem d_Le_goOn_24 : decode b_Le_goOn 24 = .ok (.bipush 7, 2) := by decide +kernel
theorem d_Le_goOn_26 : decode b_Le_goOn 26 = .ok (.if_icmp .ge 40, 3) := by decide +kernel
theorem d_Le_goOn_29 : decode b_Le_goOn 29 = .ok (.aload_n 0, 1) := by decide +kernel
theorem d_Le_goOn_30 : decode b_Le_goOn 30 = .ok (.getfield 25, 3) := by decide +kernel
theorem d_Le_goOn_33 : decode b_Le_goOn 33 = .ok (.iload_n 1, 1) := by decide +kernel
theorem d_Le_goOn_34 : decode b_Le_goOn 34 = .ok (.invokestatic 57, 3) := by decide +kernel
theorem d_Le_goOn_37 : decode b_Le_goOn 37 = .ok (.ifCond .eq 29, 3) := by decide +kernel
theorem d_Le_goOn_40 : decode b_Le_goOn 40 = .ok (.aload_n 0, 1) := by decide +kernel
theorem d_Le_goOn_41 : decode b_Le_goOn 41 = .ok (.getfield 28, 3) := by decide +kernel
theorem d_Le_goOn_44 : decode b_Le_goOn 44 = .ok (.iload_n 2, 1) := by decide +kernel
theorem d_Le_goOn_45 : decode b_Le_goOn 45 = .ok (.dup2, 1) := by decide +kernel
theorem d_Le_goOn_46 : decode b_Le_goOn 46 = .ok (.laload, 1) := by decide +kernel
theorem d_Le_goOn_47 : decode b_Le_goOn 47 = .ok (.aload_n 0, 1) := by decide +kernel
theorem d_Le_goOn_48 : decode b_Le_goOn 48 = .ok (.getfield 11, 3) := by decide +kernel
theorem d_Le_goOn_51 : decode b_Le_goOn 51 = .ok (.iload_n 1, 1) := by decide +kernel
theorem d_Le_goOn_52 : decode b_Le_goOn 52 = .ok (.bipush 7, 2) := by decide +kernel
theorem d_Le_goOn_54 : decode b_Le_goOn 54 = .ok (.imul, 1) := by decide +kernel
theorem d_Le_goOn_55 : decode b_Le_goOn 55 = .ok (.iload_n 2, 1) := by decide +kernel
theorem d_Le_goOn_56 : decode b_Le_goOn 56 = .ok (.iadd, 1) := by decide +kernel
theorem d_Le_goOn_57 : decode b_Le_goOn 57 = .ok (.laload, 1) := by decide +kernel
theorem d_Le_goOn_58 : decode b_Le_goOn 58 = .ok (.lor, 1) := by decide +kernel
theorem d_Le_goOn_59 : decode b_Le_goOn 59 = .ok (.lastore, 1) := by decide +kernel
theorem d_Le_goOn_60 : decode b_Le_goOn 60 = .ok (.iinc 2 1, 3) := by decide +kernel
theorem d_Le_goOn_63 : decode b_Le_goOn 63 = .ok (.goto (-40), 3) := by decide +kernel
theorem d_Le_goOn_66 : decode b_Le_goOn 66 = .ok (.iinc 1 1, 3) := by decide +kernel
theorem d_Le_goOn_69 : decode b_Le_goOn 69 = .ok (.goto (-59), 3) := by decide +kernel
theorem d_Le_goOn_72 : decode b_Le_goOn 72 = .ok (.iconst 0, 1) := by decide +kernel
theorem d_Le_goOn_73 : decode b_Le_goOn 73 = .ok (.istore_n 1, 1) := by decide +kernel
theorem d_Le_goOn_74 : decode b_Le_goOn 74 = .ok (.iload_n 1, 1) := by decide +kernel
theorem d_Le_goOn_75 : decode b_Le_goOn 75 = .ok (.bipush 7, 2) := by decide +kernel
theorem d_Le_goOn_77 : decode b_Le_goOn 77 = .ok (.if_icmp .ge 47, 3) := by decide +kernel
theorem d_Le_goOn_80 : decode b_Le_goOn 80 = .ok (.aload_n 0, 1) := by decide +kernel
theorem d_Le_goOn_81 : decode b_Le_goOn 81 = .ok (.getfield 25, 3) := by decide +kernel
theorem d_Le_goOn_84 : decode b_Le_goOn 84 = .ok (.iload_n 1, 1) := by decide +kernel
theorem d_Le_goOn_85 : decode b_Le_goOn 85 = .ok (.aload_n 0, 1) := by decide +kernel
theorem d_Le_goOn_86 : decode b_Le_goOn 86 = .ok (.getfield 28, 3) := by decide +kernel
theorem d_Le_goOn_89 : decode b_Le_goOn 89 = .ok (.iload_n 1, 1) := by decide +kernel
theorem d_Le_goOn_90 : decode b_Le_goOn 90 = .ok (.laload, 1) := by decide +kernel
theorem d_Le_goOn_91 : decode b_Le_goOn 91 = .ok (.aload_n 0, 1) := by decide +kernel
theorem d_Le_goOn_92 : decode b_Le_goOn 92 = .ok (.getfield 22, 3) := by decide +kernel
theorem d_Le_goOn_95 : decode b_Le_goOn 95 = .ok (.iload_n 1, 1) := by decide +kernel
theorem d_Le_goOn_96 : decode b_Le_goOn 96 = .ok (.laload, 1) := by decide +kernel
theorem d_Le_goOn_97 : decode b_Le_goOn 97 = .ok (.ldc2_w 122, 3) := by decide +kernel
theorem d_Le_goOn_100 : decode b_Le_goOn 100 = .ok (.lxor, 1) := by decide +kernel
theorem d_Le_goOn_101 : decode b_Le_goOn 101 = .ok (.land, 1) := by decide +kernel
theorem d_Le_goOn_102 : decode b_Le_goOn 102 = .ok (.lastore, 1) := by decide +kernel
theorem d_Le_goOn_103 : decode b_Le_goOn 103 = .ok (.aload_n 0, 1) := by decide +kernel
theorem d_Le_goOn_104 : decode b_Le_goOn 104 = .ok (.getfield 22, 3) := by decide +kernel
theorem d_Le_goOn_107 : decode b_Le_goOn 107 = .ok (.iload_n 1, 1) := by decide +kernel
theorem d_Le_goOn_108 : decode b_Le_goOn 108 = .ok (.dup2, 1) := by decide +kernel
theorem d_Le_goOn_109 : decode b_Le_goOn 109 = .ok (.laload, 1) := by decide +kernel
theorem d_Le_goOn_110 : decode b_Le_goOn 110 = .ok (.aload_n 0, 1) := by decide +kernel
theorem d_Le_goOn_111 : decode b_Le_goOn 111 = .ok (.getfield 25, 3) := by decide +kernel
theorem d_Le_goOn_114 : decode b_Le_goOn 114 = .ok (.iload_n 1, 1) := by decide +kernel
theorem d_Le_goOn_115 : decode b_Le_goOn 115 = .ok (.laload, 1) := by decide +kernel
theorem d_Le_goOn_116 : decode b_Le_goOn 116 = .ok (.lor, 1) := by decide +kernel
theorem d_Le_goOn_117 : decode b_Le_goOn 117 = .ok (.lastore, 1) := by decide +kernel
theorem d_Le_goOn_118 : decode b_Le_goOn 118 = .ok (.iinc 1 1, 3) := by decide +kernel
theorem d_Le_goOn_121 : decode b_Le_goOn 121 = .ok (.goto (-47), 3) := by decide +kernel
theorem d_Le_goOn_124 : decode b_Le_goOn 124 = .ok (.return_, 1) := by decide +kernel
abbrev b_Le_findCounted : ByteArray := prog_4_method_7_code
def y_Le_findCounted : MethodName := ⟨R_Le, "findCounted", "(III)I"⟩
theorem k_Le_findCounted : kV y_Le_findCounted b_Le_findCounted 6 (some .int) 3 := ⟨gmem (List.mem_append_right _ (List.mem_of_getElem? (i := 753) (by decide +kernel))) (by decide +kernel), gmem (List.mem_append_left _ (List.mem_of_getElem? (i := 23) (by decide +kernel))) (by decide +kernel), in_Le, gmem (List.mem_append_right _ (List.mem_of_getElem? (i := 754) (by decide +kernel))) (by decide +kernel), by decide, by decide, by decide +kernel⟩
theorem d_Le_findCounted_0 : decode b_Le_findCounted 0 = .ok (.aload_n 0, 1) := by decide +kernel
theorem d_Le_findCounted_1 : decode b_Le_findCounted 1 = .ok (.getfield 35, 3) := by decide +kernel
theorem d_Le_findCounted_4 : decode b_Le_findCounted 4 = .ok (.iload_n 1, 1) := by decide +kernel
theorem d_Le_findCounted_5 : decode b_Le_findCounted 5 = .ok (.iload_n 2, 1) := by decide +kernel
theorem d_Le_findCounted_6 : decode b_Le_findCounted 6 = .ok (.iload_n 3, 1) := by decide +kernel
theorem d_Le_findCounted_7 : decode b_Le_findCounted 7 = .ok (.invokevirtual 116, 3) := by decide +kernel
theorem d_Le_findCounted_10 : decode b_Le_findCounted 10 = .ok (.istore 4, 2) := by decide +kernel
theorem d_Le_findCounted_12 : decode b_Le_findCounted 12 = .ok (.iload 4, 2) := by decide +kernel
theorem d_Le_findCounted_14 : decode b_Le_findCounted 14 = .ok (.iconst (-1), 1) := by decide +kernel
theorem d_Le_findCounted_15 : decode b_Le_findCounted 15 = .ok (.if_icmp .eq 12, 3) := by decide +kernel
theorem d_Le_findCounted_18 : decode b_Le_findCounted 18 = .ok (.aload_n 0, 1) := by decide +kernel
theorem d_Le_findCounted_19 : decode b_Le_findCounted 19 = .ok (.iload 4, 2) := by decide +kernel
theorem d_Le_findCounted_21 : decode b_Le_findCounted 21 = .ok (.invokevirtual 79, 3) := by decide +kernel
theorem d_Le_findCounted_24 : decode b_Le_findCounted 24 = .ok (.iload 4, 2) := by decide +kernel
theorem d_Le_findCounted_26 : decode b_Le_findCounted 26 = .ok (.ireturn, 1) := by decide +kernel
theorem d_Le_findCounted_27 : decode b_Le_findCounted 27 = .ok (.aload_n 0, 1) := by decide +kernel
theorem d_Le_findCounted_28 : decode b_Le_findCounted 28 = .ok (.dup, 1) := by decide +kernel
theorem d_Le_findCounted_29 : decode b_Le_findCounted 29 = .ok (.getfield 53, 3) := by decide +kernel
theorem d_Le_findCounted_32 : decode b_Le_findCounted 32 = .ok (.iconst 1, 1) := by decide +kernel
theorem d_Le_findCounted_33 : decode b_Le_findCounted 33 = .ok (.iadd, 1) := by decide +kernel
theorem d_Le_findCounted_34 : decode b_Le_findCounted 34 = .ok (.putfield 53, 3) := by decide +kernel
theorem d_Le_findCounted_37 : decode b_Le_findCounted 37 = .ok (.aload_n 0, 1) := by decide +kernel
theorem d_Le_findCounted_38 : decode b_Le_findCounted 38 = .ok (.getfield 53, 3) := by decide +kernel
theorem d_Le_findCounted_41 : decode b_Le_findCounted 41 = .ok (.sipush 400, 3) := by decide +kernel
theorem d_Le_findCounted_44 : decode b_Le_findCounted 44 = .ok (.if_icmp .le 5, 3) := by decide +kernel
theorem d_Le_findCounted_47 : decode b_Le_findCounted 47 = .ok (.iconst (-1), 1) := by decide +kernel
theorem d_Le_findCounted_48 : decode b_Le_findCounted 48 = .ok (.ireturn, 1) := by decide +kernel
theorem d_Le_findCounted_49 : decode b_Le_findCounted 49 = .ok (.aload_n 0, 1) := by decide +kernel
theorem d_Le_findCounted_50 : decode b_Le_findCounted 50 = .ok (.getfield 35, 3) := by decide +kernel
theorem d_Le_findCounted_53 : decode b_Le_findCounted 53 = .ok (.iload_n 1, 1) := by decide +kernel
theorem d_Le_findCounted_54 : decode b_Le_findCounted 54 = .ok (.iload_n 2, 1) := by decide +kernel
theorem d_Le_findCounted_55 : decode b_Le_findCounted 55 = .ok (.iload_n 3, 1) := by decide +kernel
theorem d_Le_findCounted_56 : decode b_Le_findCounted 56 = .ok (.invokevirtual 119, 3) := by decide +kernel
theorem d_Le_findCounted_59 : decode b_Le_findCounted 59 = .ok (.istore 5, 2) := by decide +kernel
theorem d_Le_findCounted_61 : decode b_Le_findCounted 61 = .ok (.iload 5, 2) := by decide +kernel
theorem d_Le_findCounted_63 : decode b_Le_findCounted 63 = .ok (.iconst (-1), 1) := by decide +kernel
theorem d_Le_findCounted_64 : decode b_Le_findCounted 64 = .ok (.if_icmp .eq 11, 3) := by decide +kernel
theorem d_Le_findCounted_67 : decode b_Le_findCounted 67 = .ok (.aload_n 0, 1) := by decide +kernel
theorem d_Le_findCounted_68 : decode b_Le_findCounted 68 = .ok (.getfield 15, 3) := by decide +kernel
theorem d_Le_findCounted_71 : decode b_Le_findCounted 71 = .ok (.iload 5, 2) := by decide +kernel
theorem d_Le_findCounted_73 : decode b_Le_findCounted 73 = .ok (.iconst 1, 1) := by decide +kernel
theorem d_Le_findCounted_74 : decode b_Le_findCounted 74 = .ok (.bastore, 1) := by decide +kernel
theorem d_Le_findCounted_75 : decode b_Le_findCounted 75 = .ok (.iload 5, 2) := by decide +kernel
theorem d_Le_findCounted_77 : decode b_Le_findCounted 77 = .ok (.ireturn, 1) := by decide +kernel
abbrev b_Le_stepInPart : ByteArray := prog_4_method_6_code
def y_Le_stepInPart : MethodName := ⟨R_Le, "stepInPart", "(IIZ)V"⟩
theorem k_Le_stepInPart : kV y_Le_stepInPart b_Le_stepInPart 9 none 3 := ⟨gmem (List.mem_append_right _ (List.mem_of_getElem? (i := 749) (by decide +kernel))) (by decide +kernel), gmem (List.mem_append_left _ (List.mem_of_getElem? (i := 22) (by decide +kernel))) (by decide +kernel), in_Le, gmem (List.mem_append_right _ (List.mem_of_getElem? (i := 750) (by decide +kernel))) (by decide +kernel), by decide, by decide, by decide +kernel⟩
theorem d_Le_stepInPart_0 : decode b_Le_stepInPart 0 = .ok (.iconst 0, 1) := by decide +kernel
theorem d_Le_stepInPart_1 : decode b_Le_stepInPart 1 = .ok (.istore 4, 2) := by decide +kernel
theorem d_Le_stepInPart_3 : decode b_Le_stepInPart 3 = .ok (.iload 4, 2) := by decide +kernel
theorem d_Le_stepInPart_5 : decode b_Le_stepInPart 5 = .ok (.bipush 7, 2) := by decide +kernel
theorem d_Le_stepInPart_7 : decode b_Le_stepInPart 7 = .ok (.if_icmp .ge 133, 3) := by decide +kernel
theorem d_Le_stepInPart_10 : decode b_Le_stepInPart 10 = .ok (.aload_n 0, 1) := by decide +kernel
theorem d_Le_stepInPart_11 : decode b_Le_stepInPart 11 = .ok (.getfield 11, 3) := by decide +kernel
theorem d_Le_stepInPart_14 : decode b_Le_stepInPart 14 = .ok (.iload_n 2, 1) := by decide +kernel
theorem d_Le_stepInPart_15 : decode b_Le_stepInPart 15 = .ok (.bipush 7, 2) := by decide +kernel
theorem d_Le_stepInPart_17 : decode b_Le_stepInPart 17 = .ok (.imul, 1) := by decide +kernel
theorem d_Le_stepInPart_18 : decode b_Le_stepInPart 18 = .ok (.iload 4, 2) := by decide +kernel
theorem d_Le_stepInPart_20 : decode b_Le_stepInPart 20 = .ok (.iadd, 1) := by decide +kernel
theorem d_Le_stepInPart_21 : decode b_Le_stepInPart 21 = .ok (.laload, 1) := by decide +kernel
theorem d_Le_stepInPart_22 : decode b_Le_stepInPart 22 = .ok (.lstore 5, 2) := by decide +kernel
theorem d_Le_stepInPart_24 : decode b_Le_stepInPart 24 = .ok (.iconst 0, 1) := by decide +kernel
theorem d_Le_stepInPart_25 : decode b_Le_stepInPart 25 = .ok (.istore 7, 2) := by decide +kernel
theorem d_Le_stepInPart_27 : decode b_Le_stepInPart 27 = .ok (.iload 7, 2) := by decide +kernel
theorem d_Le_stepInPart_29 : decode b_Le_stepInPart 29 = .ok (.bipush 64, 2) := by decide +kernel
theorem d_Le_stepInPart_31 : decode b_Le_stepInPart 31 = .ok (.if_icmp .ge 103, 3) := by decide +kernel
theorem d_Le_stepInPart_34 : decode b_Le_stepInPart 34 = .ok (.lload 5, 2) := by decide +kernel
theorem d_Le_stepInPart_36 : decode b_Le_stepInPart 36 = .ok (.lconst 0, 1) := by decide +kernel
theorem d_Le_stepInPart_37 : decode b_Le_stepInPart 37 = .ok (.lcmp, 1) := by decide +kernel
theorem d_Le_stepInPart_38 : decode b_Le_stepInPart 38 = .ok (.ifCond .eq 96, 3) := by decide +kernel
theorem d_Le_stepInPart_41 : decode b_Le_stepInPart 41 = .ok (.lload 5, 2) := by decide +kernel
theorem d_Le_stepInPart_43 : decode b_Le_stepInPart 43 = .ok (.lconst 1, 1) := by decide +kernel
theorem d_Le_stepInPart_44 : decode b_Le_stepInPart 44 = .ok (.land, 1) := by decide +kernel
theorem d_Le_stepInPart_45 : decode b_Le_stepInPart 45 = .ok (.lconst 0, 1) := by decide +kernel
theorem d_Le_stepInPart_46 : decode b_Le_stepInPart 46 = .ok (.lcmp, 1) := by decide +kernel
theorem d_Le_stepInPart_47 : decode b_Le_stepInPart 47 = .ok (.ifCond .eq 75, 3) := by decide +kernel
theorem d_Le_stepInPart_50 : decode b_Le_stepInPart 50 = .ok (.iload 4, 2) := by decide +kernel
theorem d_Le_stepInPart_52 : decode b_Le_stepInPart 52 = .ok (.bipush 64, 2) := by decide +kernel
theorem d_Le_stepInPart_54 : decode b_Le_stepInPart 54 = .ok (.imul, 1) := by decide +kernel
theorem d_Le_stepInPart_55 : decode b_Le_stepInPart 55 = .ok (.iload 7, 2) := by decide +kernel
theorem d_Le_stepInPart_57 : decode b_Le_stepInPart 57 = .ok (.iadd, 1) := by decide +kernel
theorem d_Le_stepInPart_58 : decode b_Le_stepInPart 58 = .ok (.istore 8, 2) := by decide +kernel
theorem d_Le_stepInPart_60 : decode b_Le_stepInPart 60 = .ok (.aload_n 0, 1) := by decide +kernel
theorem d_Le_stepInPart_61 : decode b_Le_stepInPart 61 = .ok (.getfield 11, 3) := by decide +kernel
theorem d_Le_stepInPart_64 : decode b_Le_stepInPart 64 = .ok (.iload_n 1, 1) := by decide +kernel
theorem d_Le_stepInPart_65 : decode b_Le_stepInPart 65 = .ok (.bipush 7, 2) := by decide +kernel
theorem d_Le_stepInPart_67 : decode b_Le_stepInPart 67 = .ok (.imul, 1) := by decide +kernel
theorem d_Le_stepInPart_68 : decode b_Le_stepInPart 68 = .ok (.iload_n 3, 1) := by decide +kernel
theorem d_Le_stepInPart_69 : decode b_Le_stepInPart 69 = .ok (.ifCond .eq 28, 3) := by decide +kernel
theorem d_Le_stepInPart_72 : decode b_Le_stepInPart 72 = .ok (.aload_n 0, 1) := by decide +kernel
theorem d_Le_stepInPart_73 : decode b_Le_stepInPart 73 = .ok (.aload_n 0, 1) := by decide +kernel
theorem d_Le_stepInPart_74 : decode b_Le_stepInPart 74 = .ok (.getfield 35, 3) := by decide +kernel
theorem d_Le_stepInPart_77 : decode b_Le_stepInPart 77 = .ok (.iload_n 1, 1) := by decide +kernel
theorem d_Le_stepInPart_78 : decode b_Le_stepInPart 78 = .ok (.invokevirtual 96, 3) := by decide +kernel
theorem d_Le_stepInPart_81 : decode b_Le_stepInPart 81 = .ok (.iload 8, 2) := by decide +kernel
theorem d_Le_stepInPart_83 : decode b_Le_stepInPart 83 = .ok (.aload_n 0, 1) := by decide +kernel
theorem d_Le_stepInPart_84 : decode b_Le_stepInPart 84 = .ok (.getfield 35, 3) := by decide +kernel
theorem d_Le_stepInPart_87 : decode b_Le_stepInPart 87 = .ok (.iload_n 1, 1) := by decide +kernel
theorem d_Le_stepInPart_88 : decode b_Le_stepInPart 88 = .ok (.invokevirtual 109, 3) := by decide +kernel
theorem d_Le_stepInPart_91 : decode b_Le_stepInPart 91 = .ok (.invokevirtual 112, 3) := by decide +kernel
theorem d_Le_stepInPart_94 : decode b_Le_stepInPart 94 = .ok (.goto 25, 3) := by decide +kernel
theorem d_Le_stepInPart_97 : decode b_Le_stepInPart 97 = .ok (.aload_n 0, 1) := by decide +kernel
theorem d_Le_stepInPart_98 : decode b_Le_stepInPart 98 = .ok (.aload_n 0, 1) := by decide +kernel
theorem d_Le_stepInPart_99 : decode b_Le_stepInPart 99 = .ok (.getfield 35, 3) := by decide +kernel
theorem d_Le_stepInPart_102 : decode b_Le_stepInPart 102 = .ok (.iload_n 1, 1) := by decide +kernel
theorem d_Le_stepInPart_103 : decode b_Le_stepInPart 103 = .ok (.invokevirtual 96, 3) := by decide +kernel
theorem d_Le_stepInPart_106 : decode b_Le_stepInPart 106 = .ok (.aload_n 0, 1) := by decide +kernel
theorem d_Le_stepInPart_107 : decode b_Le_stepInPart 107 = .ok (.getfield 35, 3) := by decide +kernel
theorem d_Le_stepInPart_110 : decode b_Le_stepInPart 110 = .ok (.iload_n 1, 1) := by decide +kernel
theorem d_Le_stepInPart_111 : decode b_Le_stepInPart 111 = .ok (.invokevirtual 102, 3) := by decide +kernel
theorem d_Le_stepInPart_114 : decode b_Le_stepInPart 114 = .ok (.iload 8, 2) := by decide +kernel
theorem d_Le_stepInPart_116 : decode b_Le_stepInPart 116 = .ok (.invokevirtual 112, 3) := by decide +kernel
theorem d_Le_stepInPart_119 : decode b_Le_stepInPart 119 = .ok (.invokestatic 82, 3) := by decide +kernel
theorem d_Le_stepInPart_122 : decode b_Le_stepInPart 122 = .ok (.lload 5, 2) := by decide +kernel
theorem d_Le_stepInPart_124 : decode b_Le_stepInPart 124 = .ok (.iconst 1, 1) := by decide +kernel
theorem d_Le_stepInPart_125 : decode b_Le_stepInPart 125 = .ok (.lushr, 1) := by decide +kernel
theorem d_Le_stepInPart_126 : decode b_Le_stepInPart 126 = .ok (.lstore 5, 2) := by decide +kernel
theorem d_Le_stepInPart_128 : decode b_Le_stepInPart 128 = .ok (.iinc 7 1, 3) := by decide +kernel
theorem d_Le_stepInPart_131 : decode b_Le_stepInPart 131 = .ok (.goto (-104), 3) := by decide +kernel
theorem d_Le_stepInPart_134 : decode b_Le_stepInPart 134 = .ok (.iinc 4 1, 3) := by decide +kernel
theorem d_Le_stepInPart_137 : decode b_Le_stepInPart 137 = .ok (.goto (-134), 3) := by decide +kernel
theorem d_Le_stepInPart_140 : decode b_Le_stepInPart 140 = .ok (.return_, 1) := by decide +kernel
abbrev b_Le_expand : ByteArray := prog_4_method_5_code
def y_Le_expand : MethodName := ⟨R_Le, "expand", "(I)V"⟩
theorem k_Le_expand : kV y_Le_expand b_Le_expand 3 none 1 := ⟨gmem (List.mem_append_right _ (List.mem_of_getElem? (i := 742) (by decide +kernel))) (by decide +kernel), gmem (List.mem_append_left _ (List.mem_of_getElem? (i := 21) (by decide +kernel))) (by decide +kernel), in_Le, gmem (List.mem_append_right _ (List.mem_of_getElem? (i := 743) (by decide +kernel))) (by decide +kernel), by decide, by decide, by decide +kernel⟩
theorem d_Le_expand_0 : decode b_Le_expand 0 = .ok (.iconst 0, 1) := by decide +kernel
theorem d_Le_expand_1 : decode b_Le_expand 1 = .ok (.istore_n 2, 1) := by decide +kernel
theorem d_Le_expand_2 : decode b_Le_expand 2 = .ok (.iload_n 2, 1) := by decide +kernel
theorem d_Le_expand_3 : decode b_Le_expand 3 = .ok (.aload_n 0, 1) := by decide +kernel
theorem d_Le_expand_4 : decode b_Le_expand 4 = .ok (.getfield 39, 3) := by decide +kernel
theorem d_Le_expand_7 : decode b_Le_expand 7 = .ok (.invokevirtual 86, 3) := by decide +kernel
theorem d_Le_expand_10 : decode b_Le_expand 10 = .ok (.if_icmp .ge 52, 3) := by decide +kernel
theorem d_Le_expand_13 : decode b_Le_expand 13 = .ok (.aload_n 0, 1) := by decide +kernel
theorem d_Le_expand_14 : decode b_Le_expand 14 = .ok (.getfield 39, 3) := by decide +kernel
theorem d_Le_expand_17 : decode b_Le_expand 17 = .ok (.iload_n 2, 1) := by decide +kernel
theorem d_Le_expand_18 : decode b_Le_expand 18 = .ok (.invokevirtual 89, 3) := by decide +kernel
theorem d_Le_expand_21 : decode b_Le_expand 21 = .ok (.iload_n 1, 1) := by decide +kernel
theorem d_Le_expand_22 : decode b_Le_expand 22 = .ok (.if_icmp .ne 34, 3) := by decide +kernel
theorem d_Le_expand_25 : decode b_Le_expand 25 = .ok (.aload_n 0, 1) := by decide +kernel
theorem d_Le_expand_26 : decode b_Le_expand 26 = .ok (.aload_n 0, 1) := by decide +kernel
theorem d_Le_expand_27 : decode b_Le_expand 27 = .ok (.getfield 39, 3) := by decide +kernel
theorem d_Le_expand_30 : decode b_Le_expand 30 = .ok (.iload_n 2, 1) := by decide +kernel
theorem d_Le_expand_31 : decode b_Le_expand 31 = .ok (.invokevirtual 93, 3) := by decide +kernel
theorem d_Le_expand_34 : decode b_Le_expand 34 = .ok (.invokevirtual 79, 3) := by decide +kernel
theorem d_Le_expand_37 : decode b_Le_expand 37 = .ok (.aload_n 0, 1) := by decide +kernel
theorem d_Le_expand_38 : decode b_Le_expand 38 = .ok (.getfield 11, 3) := by decide +kernel
theorem d_Le_expand_41 : decode b_Le_expand 41 = .ok (.iload_n 1, 1) := by decide +kernel
theorem d_Le_expand_42 : decode b_Le_expand 42 = .ok (.bipush 7, 2) := by decide +kernel
theorem d_Le_expand_44 : decode b_Le_expand 44 = .ok (.imul, 1) := by decide +kernel
theorem d_Le_expand_45 : decode b_Le_expand 45 = .ok (.aload_n 0, 1) := by decide +kernel
theorem d_Le_expand_46 : decode b_Le_expand 46 = .ok (.getfield 39, 3) := by decide +kernel
theorem d_Le_expand_49 : decode b_Le_expand 49 = .ok (.iload_n 2, 1) := by decide +kernel
theorem d_Le_expand_50 : decode b_Le_expand 50 = .ok (.invokevirtual 93, 3) := by decide +kernel
theorem d_Le_expand_53 : decode b_Le_expand 53 = .ok (.invokestatic 82, 3) := by decide +kernel
theorem d_Le_expand_56 : decode b_Le_expand 56 = .ok (.iinc 2 1, 3) := by decide +kernel
theorem d_Le_expand_59 : decode b_Le_expand 59 = .ok (.goto (-57), 3) := by decide +kernel
theorem d_Le_expand_62 : decode b_Le_expand 62 = .ok (.aload_n 0, 1) := by decide +kernel
theorem d_Le_expand_63 : decode b_Le_expand 63 = .ok (.getfield 35, 3) := by decide +kernel
theorem d_Le_expand_66 : decode b_Le_expand 66 = .ok (.aload_n 0, 1) := by decide +kernel
theorem d_Le_expand_67 : decode b_Le_expand 67 = .ok (.getfield 35, 3) := by decide +kernel
theorem d_Le_expand_70 : decode b_Le_expand 70 = .ok (.iload_n 1, 1) := by decide +kernel
theorem d_Le_expand_71 : decode b_Le_expand 71 = .ok (.invokevirtual 96, 3) := by decide +kernel
theorem d_Le_expand_74 : decode b_Le_expand 74 = .ok (.invokevirtual 99, 3) := by decide +kernel
theorem d_Le_expand_77 : decode b_Le_expand 77 = .ok (.istore_n 2, 1) := by decide +kernel
theorem d_Le_expand_78 : decode b_Le_expand 78 = .ok (.iload_n 2, 1) := by decide +kernel
theorem d_Le_expand_79 : decode b_Le_expand 79 = .ok (.ifCond .le 17, 3) := by decide +kernel
theorem d_Le_expand_82 : decode b_Le_expand 82 = .ok (.aload_n 0, 1) := by decide +kernel
theorem d_Le_expand_83 : decode b_Le_expand 83 = .ok (.iload_n 1, 1) := by decide +kernel
theorem d_Le_expand_84 : decode b_Le_expand 84 = .ok (.aload_n 0, 1) := by decide +kernel
theorem d_Le_expand_85 : decode b_Le_expand 85 = .ok (.getfield 35, 3) := by decide +kernel
theorem d_Le_expand_88 : decode b_Le_expand 88 = .ok (.iload_n 1, 1) := by decide +kernel
theorem d_Le_expand_89 : decode b_Le_expand 89 = .ok (.invokevirtual 102, 3) := by decide +kernel
theorem d_Le_expand_92 : decode b_Le_expand 92 = .ok (.iconst 1, 1) := by decide +kernel
theorem d_Le_expand_93 : decode b_Le_expand 93 = .ok (.invokevirtual 105, 3) := by decide +kernel
theorem d_Le_expand_96 : decode b_Le_expand 96 = .ok (.iload_n 2, 1) := by decide +kernel
theorem d_Le_expand_97 : decode b_Le_expand 97 = .ok (.iconst 1, 1) := by decide +kernel
theorem d_Le_expand_98 : decode b_Le_expand 98 = .ok (.if_icmp .le 17, 3) := by decide +kernel
theorem d_Le_expand_101 : decode b_Le_expand 101 = .ok (.aload_n 0, 1) := by decide +kernel
theorem d_Le_expand_102 : decode b_Le_expand 102 = .ok (.iload_n 1, 1) := by decide +kernel
theorem d_Le_expand_103 : decode b_Le_expand 103 = .ok (.aload_n 0, 1) := by decide +kernel
theorem d_Le_expand_104 : decode b_Le_expand 104 = .ok (.getfield 35, 3) := by decide +kernel
theorem d_Le_expand_107 : decode b_Le_expand 107 = .ok (.iload_n 1, 1) := by decide +kernel
theorem d_Le_expand_108 : decode b_Le_expand 108 = .ok (.invokevirtual 109, 3) := by decide +kernel
theorem d_Le_expand_111 : decode b_Le_expand 111 = .ok (.iconst 0, 1) := by decide +kernel
theorem d_Le_expand_112 : decode b_Le_expand 112 = .ok (.invokevirtual 105, 3) := by decide +kernel
theorem d_Le_expand_115 : decode b_Le_expand 115 = .ok (.return_, 1) := by decide +kernel
abbrev b_Le_levelOf : ByteArray := prog_4_method_2_code
def y_Le_levelOf : MethodName := ⟨R_Le, "levelOf", "(II)I"⟩
theorem k_Le_levelOf : kV y_Le_levelOf b_Le_levelOf 7 (some .int) 2 := ⟨gmem (List.mem_append_right _ (List.mem_of_getElem? (i := 711) (by decide +kernel))) (by decide +kernel), gmem (List.mem_append_right _ (List.mem_of_getElem? (i := 712) (by decide +kernel))) (by decide +kernel), in_Le, gmem (List.mem_append_right _ (List.mem_of_getElem? (i := 713) (by decide +kernel))) (by decide +kernel), by decide, by decide, by decide +kernel⟩
theorem d_Le_levelOf_0 : decode b_Le_levelOf 0 = .ok (.aload_n 0, 1) := by decide +kernel
theorem d_Le_levelOf_1 : decode b_Le_levelOf 1 = .ok (.getfield 35, 3) := by decide +kernel
theorem d_Le_levelOf_4 : decode b_Le_levelOf 4 = .ok (.invokevirtual 43, 3) := by decide +kernel
theorem d_Le_levelOf_7 : decode b_Le_levelOf 7 = .ok (.istore_n 3, 1) := by decide +kernel
theorem d_Le_levelOf_8 : decode b_Le_levelOf 8 = .ok (.aload_n 0, 1) := by decide +kernel
theorem d_Le_levelOf_9 : decode b_Le_levelOf 9 = .ok (.iload_n 1, 1) := by decide +kernel
theorem d_Le_levelOf_10 : decode b_Le_levelOf 10 = .ok (.invokevirtual 49, 3) := by decide +kernel
theorem d_Le_levelOf_13 : decode b_Le_levelOf 13 = .ok (.iconst 0, 1) := by decide +kernel
theorem d_Le_levelOf_14 : decode b_Le_levelOf 14 = .ok (.istore 4, 2) := by decide +kernel
theorem d_Le_levelOf_16 : decode b_Le_levelOf 16 = .ok (.iload 4, 2) := by decide +kernel
theorem d_Le_levelOf_18 : decode b_Le_levelOf 18 = .ok (.sipush 400, 3) := by decide +kernel
theorem d_Le_levelOf_21 : decode b_Le_levelOf 21 = .ok (.if_icmp .ge 90, 3) := by decide +kernel
theorem d_Le_levelOf_24 : decode b_Le_levelOf 24 = .ok (.aload_n 0, 1) := by decide +kernel
theorem d_Le_levelOf_25 : decode b_Le_levelOf 25 = .ok (.getfield 53, 3) := by decide +kernel
theorem d_Le_levelOf_28 : decode b_Le_levelOf 28 = .ok (.sipush 400, 3) := by decide +kernel
theorem d_Le_levelOf_31 : decode b_Le_levelOf 31 = .ok (.if_icmp .gt 80, 3) := by decide +kernel
theorem d_Le_levelOf_34 : decode b_Le_levelOf 34 = .ok (.aload_n 0, 1) := by decide +kernel
theorem d_Le_levelOf_35 : decode b_Le_levelOf 35 = .ok (.getfield 22, 3) := by decide +kernel
theorem d_Le_levelOf_38 : decode b_Le_levelOf 38 = .ok (.iload_n 2, 1) := by decide +kernel
theorem d_Le_levelOf_39 : decode b_Le_levelOf 39 = .ok (.invokestatic 57, 3) := by decide +kernel
theorem d_Le_levelOf_42 : decode b_Le_levelOf 42 = .ok (.ifCond .ne 69, 3) := by decide +kernel
theorem d_Le_levelOf_45 : decode b_Le_levelOf 45 = .ok (.aload_n 0, 1) := by decide +kernel
theorem d_Le_levelOf_46 : decode b_Le_levelOf 46 = .ok (.invokevirtual 61, 3) := by decide +kernel
theorem d_Le_levelOf_49 : decode b_Le_levelOf 49 = .ok (.istore 5, 2) := by decide +kernel
theorem d_Le_levelOf_51 : decode b_Le_levelOf 51 = .ok (.iconst 0, 1) := by decide +kernel
theorem d_Le_levelOf_52 : decode b_Le_levelOf 52 = .ok (.istore 6, 2) := by decide +kernel
theorem d_Le_levelOf_54 : decode b_Le_levelOf 54 = .ok (.iload 6, 2) := by decide +kernel
theorem d_Le_levelOf_56 : decode b_Le_levelOf 56 = .ok (.iload 5, 2) := by decide +kernel
theorem d_Le_levelOf_58 : decode b_Le_levelOf 58 = .ok (.if_icmp .ge 43, 3) := by decide +kernel
theorem d_Le_levelOf_61 : decode b_Le_levelOf 61 = .ok (.aload_n 0, 1) := by decide +kernel
theorem d_Le_levelOf_62 : decode b_Le_levelOf 62 = .ok (.getfield 53, 3) := by decide +kernel
theorem d_Le_levelOf_65 : decode b_Le_levelOf 65 = .ok (.sipush 400, 3) := by decide +kernel
theorem d_Le_levelOf_68 : decode b_Le_levelOf 68 = .ok (.if_icmp .gt 33, 3) := by decide +kernel
theorem d_Le_levelOf_71 : decode b_Le_levelOf 71 = .ok (.aload_n 0, 1) := by decide +kernel
theorem d_Le_levelOf_72 : decode b_Le_levelOf 72 = .ok (.aload_n 0, 1) := by decide +kernel
theorem d_Le_levelOf_73 : decode b_Le_levelOf 73 = .ok (.getfield 31, 3) := by decide +kernel
theorem d_Le_levelOf_76 : decode b_Le_levelOf 76 = .ok (.iload 6, 2) := by decide +kernel
theorem d_Le_levelOf_78 : decode b_Le_levelOf 78 = .ok (.iaload, 1) := by decide +kernel
theorem d_Le_levelOf_79 : decode b_Le_levelOf 79 = .ok (.invokevirtual 64, 3) := by decide +kernel
theorem d_Le_levelOf_82 : decode b_Le_levelOf 82 = .ok (.aload_n 0, 1) := by decide +kernel
theorem d_Le_levelOf_83 : decode b_Le_levelOf 83 = .ok (.getfield 19, 3) := by decide +kernel
theorem d_Le_levelOf_86 : decode b_Le_levelOf 86 = .ok (.aload_n 0, 1) := by decide +kernel
theorem d_Le_levelOf_87 : decode b_Le_levelOf 87 = .ok (.getfield 31, 3) := by decide +kernel
theorem d_Le_levelOf_90 : decode b_Le_levelOf 90 = .ok (.iload 6, 2) := by decide +kernel
theorem d_Le_levelOf_92 : decode b_Le_levelOf 92 = .ok (.iaload, 1) := by decide +kernel
theorem d_Le_levelOf_93 : decode b_Le_levelOf 93 = .ok (.iconst 1, 1) := by decide +kernel
theorem d_Le_levelOf_94 : decode b_Le_levelOf 94 = .ok (.bastore, 1) := by decide +kernel
theorem d_Le_levelOf_95 : decode b_Le_levelOf 95 = .ok (.iinc 6 1, 3) := by decide +kernel
theorem d_Le_levelOf_98 : decode b_Le_levelOf 98 = .ok (.goto (-44), 3) := by decide +kernel
theorem d_Le_levelOf_101 : decode b_Le_levelOf 101 = .ok (.aload_n 0, 1) := by decide +kernel
theorem d_Le_levelOf_102 : decode b_Le_levelOf 102 = .ok (.invokevirtual 67, 3) := by decide +kernel
theorem d_Le_levelOf_105 : decode b_Le_levelOf 105 = .ok (.iinc 4 1, 3) := by decide +kernel
theorem d_Le_levelOf_108 : decode b_Le_levelOf 108 = .ok (.goto (-92), 3) := by decide +kernel
theorem d_Le_levelOf_111 : decode b_Le_levelOf 111 = .ok (.aload_n 0, 1) := by decide +kernel
theorem d_Le_levelOf_112 : decode b_Le_levelOf 112 = .ok (.getfield 35, 3) := by decide +kernel
theorem d_Le_levelOf_115 : decode b_Le_levelOf 115 = .ok (.iload_n 3, 1) := by decide +kernel
theorem d_Le_levelOf_116 : decode b_Le_levelOf 116 = .ok (.invokevirtual 70, 3) := by decide +kernel
theorem d_Le_levelOf_119 : decode b_Le_levelOf 119 = .ok (.aload_n 0, 1) := by decide +kernel
theorem d_Le_levelOf_120 : decode b_Le_levelOf 120 = .ok (.getfield 53, 3) := by decide +kernel
theorem d_Le_levelOf_123 : decode b_Le_levelOf 123 = .ok (.sipush 400, 3) := by decide +kernel
theorem d_Le_levelOf_126 : decode b_Le_levelOf 126 = .ok (.if_icmp .gt 19, 3) := by decide +kernel
theorem d_Le_levelOf_129 : decode b_Le_levelOf 129 = .ok (.aload_n 0, 1) := by decide +kernel
theorem d_Le_levelOf_130 : decode b_Le_levelOf 130 = .ok (.getfield 22, 3) := by decide +kernel
theorem d_Le_levelOf_133 : decode b_Le_levelOf 133 = .ok (.iload_n 2, 1) := by decide +kernel
theorem d_Le_levelOf_134 : decode b_Le_levelOf 134 = .ok (.invokestatic 57, 3) := by decide +kernel
theorem d_Le_levelOf_137 : decode b_Le_levelOf 137 = .ok (.ifCond .eq 8, 3) := by decide +kernel
theorem d_Le_levelOf_140 : decode b_Le_levelOf 140 = .ok (.iload 4, 2) := by decide +kernel
theorem d_Le_levelOf_142 : decode b_Le_levelOf 142 = .ok (.goto 5, 3) := by decide +kernel
theorem d_Le_levelOf_145 : decode b_Le_levelOf 145 = .ok (.bipush (-2), 2) := by decide +kernel
theorem d_Le_levelOf_147 : decode b_Le_levelOf 147 = .ok (.ireturn, 1) := by decide +kernel
theorem st_min : Cond.static Lib.Math.min.name ∈ gtbl := gmem (List.mem_append_right _ (List.mem_of_getElem? (i := 33) (by decide +kernel))) (by decide +kernel)
theorem co_min : Cond.code Lib.Math.min.name Lib.Math.min.code 2 (some .int) ∈ gtbl := gmem (List.mem_append_right _ (List.mem_of_getElem? (i := 34) (by decide +kernel))) (by decide +kernel)
theorem st_minl : Cond.static Lib.MathLoose.min_long.x ∈ gtbl := gmem (List.mem_append_right _ (List.mem_of_getElem? (i := 295) (by decide +kernel))) (by decide +kernel)
theorem co_minl : Cond.code Lib.MathLoose.min_long.x Lib.MathLoose.min_long.code 4 (some .long) ∈ gtbl := gmem (List.mem_append_right _ (List.mem_of_getElem? (i := 296) (by decide +kernel))) (by decide +kernel)
