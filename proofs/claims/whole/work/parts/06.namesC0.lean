abbrev b_Te_isMade : ByteArray := prog_8_method_3_code
def y_Te_isMade : MethodName := ⟨R_Te, "isMade", "(I)Z"⟩
theorem k_Te_isMade : kV y_Te_isMade b_Te_isMade 2 (some .boolean) 1 := ⟨gmem (List.mem_append_right _ (List.mem_of_getElem? (i := 252) (by decide +kernel))) (by decide +kernel), gmem (List.mem_append_right _ (List.mem_of_getElem? (i := 253) (by decide +kernel))) (by decide +kernel), in_Te, gmem (List.mem_append_right _ (List.mem_of_getElem? (i := 254) (by decide +kernel))) (by decide +kernel), by decide, by decide, by decide +kernel⟩
theorem d_Te_isMade_0 : decode b_Te_isMade 0 = .ok (.iload_n 1, 1) := by decide +kernel
theorem d_Te_isMade_1 : decode b_Te_isMade 1 = .ok (.ifCond .lt 15, 3) := by decide +kernel
theorem d_Te_isMade_4 : decode b_Te_isMade 4 = .ok (.iload_n 1, 1) := by decide +kernel
theorem d_Te_isMade_5 : decode b_Te_isMade 5 = .ok (.aload_n 0, 1) := by decide +kernel
theorem d_Te_isMade_6 : decode b_Te_isMade 6 = .ok (.getfield 45, 3) := by decide +kernel
theorem d_Te_isMade_9 : decode b_Te_isMade 9 = .ok (.if_icmp .ge 7, 3) := by decide +kernel
theorem d_Te_isMade_12 : decode b_Te_isMade 12 = .ok (.iconst 1, 1) := by decide +kernel
theorem d_Te_isMade_13 : decode b_Te_isMade 13 = .ok (.goto 4, 3) := by decide +kernel
theorem d_Te_isMade_16 : decode b_Te_isMade 16 = .ok (.iconst 0, 1) := by decide +kernel
theorem d_Te_isMade_17 : decode b_Te_isMade 17 = .ok (.ireturn, 1) := by decide +kernel
abbrev b_Te_count : ByteArray := prog_8_method_2_code
def y_Te_count : MethodName := ⟨R_Te, "count", "()I"⟩
theorem k_Te_count : kV y_Te_count b_Te_count 1 (some .int) 0 := ⟨gmem (List.mem_append_right _ (List.mem_of_getElem? (i := 280) (by decide +kernel))) (by decide +kernel), gmem (List.mem_append_right _ (List.mem_of_getElem? (i := 281) (by decide +kernel))) (by decide +kernel), in_Te, gmem (List.mem_append_right _ (List.mem_of_getElem? (i := 282) (by decide +kernel))) (by decide +kernel), by decide, by decide, by decide +kernel⟩
theorem d_Te_count_0 : decode b_Te_count 0 = .ok (.aload_n 0, 1) := by decide +kernel
theorem d_Te_count_1 : decode b_Te_count 1 = .ok (.getfield 45, 3) := by decide +kernel
theorem d_Te_count_4 : decode b_Te_count 4 = .ok (.ireturn, 1) := by decide +kernel
abbrev b_Ru_countAt : ByteArray := prog_6_method_8_code
def y_Ru_countAt : MethodName := ⟨R_Ru, "countAt", "(I)I"⟩
theorem k_Ru_countAt : kV y_Ru_countAt b_Ru_countAt 4 (some .int) 1 := ⟨gmem (List.mem_append_right _ (List.mem_of_getElem? (i := 284) (by decide +kernel))) (by decide +kernel), gmem (List.mem_append_right _ (List.mem_of_getElem? (i := 285) (by decide +kernel))) (by decide +kernel), in_Ru, gmem (List.mem_append_right _ (List.mem_of_getElem? (i := 286) (by decide +kernel))) (by decide +kernel), by decide, by decide, by decide +kernel⟩
theorem d_Ru_countAt_0 : decode b_Ru_countAt 0 = .ok (.iconst 0, 1) := by decide +kernel
theorem d_Ru_countAt_1 : decode b_Ru_countAt 1 = .ok (.istore_n 2, 1) := by decide +kernel
theorem d_Ru_countAt_2 : decode b_Ru_countAt 2 = .ok (.iconst 0, 1) := by decide +kernel
theorem d_Ru_countAt_3 : decode b_Ru_countAt 3 = .ok (.istore_n 3, 1) := by decide +kernel
theorem d_Ru_countAt_4 : decode b_Ru_countAt 4 = .ok (.iload_n 3, 1) := by decide +kernel
theorem d_Ru_countAt_5 : decode b_Ru_countAt 5 = .ok (.aload_n 0, 1) := by decide +kernel
theorem d_Ru_countAt_6 : decode b_Ru_countAt 6 = .ok (.getfield 18, 3) := by decide +kernel
theorem d_Ru_countAt_9 : decode b_Ru_countAt 9 = .ok (.if_icmp .ge 22, 3) := by decide +kernel
theorem d_Ru_countAt_12 : decode b_Ru_countAt 12 = .ok (.aload_n 0, 1) := by decide +kernel
theorem d_Ru_countAt_13 : decode b_Ru_countAt 13 = .ok (.getfield 9, 3) := by decide +kernel
theorem d_Ru_countAt_16 : decode b_Ru_countAt 16 = .ok (.iload_n 3, 1) := by decide +kernel
theorem d_Ru_countAt_17 : decode b_Ru_countAt 17 = .ok (.iaload, 1) := by decide +kernel
theorem d_Ru_countAt_18 : decode b_Ru_countAt 18 = .ok (.iload_n 1, 1) := by decide +kernel
theorem d_Ru_countAt_19 : decode b_Ru_countAt 19 = .ok (.if_icmp .ne 6, 3) := by decide +kernel
theorem d_Ru_countAt_22 : decode b_Ru_countAt 22 = .ok (.iinc 2 1, 3) := by decide +kernel
theorem d_Ru_countAt_25 : decode b_Ru_countAt 25 = .ok (.iinc 3 1, 3) := by decide +kernel
theorem d_Ru_countAt_28 : decode b_Ru_countAt 28 = .ok (.goto (-24), 3) := by decide +kernel
theorem d_Ru_countAt_31 : decode b_Ru_countAt 31 = .ok (.iload_n 2, 1) := by decide +kernel
theorem d_Ru_countAt_32 : decode b_Ru_countAt 32 = .ok (.ireturn, 1) := by decide +kernel
abbrev b_Te_firstOf : ByteArray := prog_8_method_7_code
def y_Te_firstOf : MethodName := ⟨R_Te, "firstOf", "(I)I"⟩
theorem k_Te_firstOf : kV y_Te_firstOf b_Te_firstOf 2 (some .int) 1 := ⟨gmem (List.mem_append_right _ (List.mem_of_getElem? (i := 260) (by decide +kernel))) (by decide +kernel), gmem (List.mem_append_right _ (List.mem_of_getElem? (i := 261) (by decide +kernel))) (by decide +kernel), in_Te, gmem (List.mem_append_right _ (List.mem_of_getElem? (i := 262) (by decide +kernel))) (by decide +kernel), by decide, by decide, by decide +kernel⟩
theorem d_Te_firstOf_0 : decode b_Te_firstOf 0 = .ok (.aload_n 0, 1) := by decide +kernel
theorem d_Te_firstOf_1 : decode b_Te_firstOf 1 = .ok (.getfield 18, 3) := by decide +kernel
theorem d_Te_firstOf_4 : decode b_Te_firstOf 4 = .ok (.iload_n 1, 1) := by decide +kernel
theorem d_Te_firstOf_5 : decode b_Te_firstOf 5 = .ok (.iaload, 1) := by decide +kernel
theorem d_Te_firstOf_6 : decode b_Te_firstOf 6 = .ok (.ireturn, 1) := by decide +kernel
abbrev b_Sp_countIn : ByteArray := prog_7_method_6_code
def y_Sp_countIn : MethodName := ⟨R_Sp, "countIn", "(I)J"⟩
theorem k_Sp_countIn : kV y_Sp_countIn b_Sp_countIn 2 (some .long) 1 := ⟨gmem (List.mem_append_right _ (List.mem_of_getElem? (i := 290) (by decide +kernel))) (by decide +kernel), gmem (List.mem_append_left _ (List.mem_of_getElem? (i := 1) (by decide +kernel))) (by decide +kernel), in_Sp, gmem (List.mem_append_right _ (List.mem_of_getElem? (i := 291) (by decide +kernel))) (by decide +kernel), by decide, by decide, by decide +kernel⟩
theorem d_Sp_countIn_0 : decode b_Sp_countIn 0 = .ok (.iload_n 1, 1) := by decide +kernel
theorem d_Sp_countIn_1 : decode b_Sp_countIn 1 = .ok (.iconst (-1), 1) := by decide +kernel
theorem d_Sp_countIn_2 : decode b_Sp_countIn 2 = .ok (.if_icmp .ne 7, 3) := by decide +kernel
theorem d_Sp_countIn_5 : decode b_Sp_countIn 5 = .ok (.lconst 0, 1) := by decide +kernel
theorem d_Sp_countIn_6 : decode b_Sp_countIn 6 = .ok (.goto 9, 3) := by decide +kernel
theorem d_Sp_countIn_9 : decode b_Sp_countIn 9 = .ok (.aload_n 0, 1) := by decide +kernel
theorem d_Sp_countIn_10 : decode b_Sp_countIn 10 = .ok (.getfield 9, 3) := by decide +kernel
theorem d_Sp_countIn_13 : decode b_Sp_countIn 13 = .ok (.iload_n 1, 1) := by decide +kernel
theorem d_Sp_countIn_14 : decode b_Sp_countIn 14 = .ok (.laload, 1) := by decide +kernel
theorem d_Sp_countIn_15 : decode b_Sp_countIn 15 = .ok (.lreturn, 1) := by decide +kernel
abbrev b_Te_secondOf : ByteArray := prog_8_method_8_code
def y_Te_secondOf : MethodName := ⟨R_Te, "secondOf", "(I)I"⟩
theorem k_Te_secondOf : kV y_Te_secondOf b_Te_secondOf 2 (some .int) 1 := ⟨gmem (List.mem_append_right _ (List.mem_of_getElem? (i := 264) (by decide +kernel))) (by decide +kernel), gmem (List.mem_append_right _ (List.mem_of_getElem? (i := 265) (by decide +kernel))) (by decide +kernel), in_Te, gmem (List.mem_append_right _ (List.mem_of_getElem? (i := 266) (by decide +kernel))) (by decide +kernel), by decide, by decide, by decide +kernel⟩
theorem d_Te_secondOf_0 : decode b_Te_secondOf 0 = .ok (.aload_n 0, 1) := by decide +kernel
theorem d_Te_secondOf_1 : decode b_Te_secondOf 1 = .ok (.getfield 21, 3) := by decide +kernel
theorem d_Te_secondOf_4 : decode b_Te_secondOf 4 = .ok (.iload_n 1, 1) := by decide +kernel
theorem d_Te_secondOf_5 : decode b_Te_secondOf 5 = .ok (.iaload, 1) := by decide +kernel
theorem d_Te_secondOf_6 : decode b_Te_secondOf 6 = .ok (.ireturn, 1) := by decide +kernel
abbrev b_Sp_countAll : ByteArray := prog_7_method_5_code
def y_Sp_countAll : MethodName := ⟨R_Sp, "countAll", "()V"⟩
theorem k_Sp_countAll : kV y_Sp_countAll b_Sp_countAll 2 none 0 := ⟨gmem (List.mem_append_right _ (List.mem_of_getElem? (i := 277) (by decide +kernel))) (by decide +kernel), gmem (List.mem_append_left _ (List.mem_of_getElem? (i := 0) (by decide +kernel))) (by decide +kernel), in_Sp, gmem (List.mem_append_right _ (List.mem_of_getElem? (i := 278) (by decide +kernel))) (by decide +kernel), by decide, by decide, by decide +kernel⟩
theorem d_Sp_countAll_0 : decode b_Sp_countAll 0 = .ok (.iconst 0, 1) := by decide +kernel
theorem d_Sp_countAll_1 : decode b_Sp_countAll 1 = .ok (.istore_n 1, 1) := by decide +kernel
theorem d_Sp_countAll_2 : decode b_Sp_countAll 2 = .ok (.iload_n 1, 1) := by decide +kernel
theorem d_Sp_countAll_3 : decode b_Sp_countAll 3 = .ok (.aload_n 0, 1) := by decide +kernel
theorem d_Sp_countAll_4 : decode b_Sp_countAll 4 = .ok (.getfield 23, 3) := by decide +kernel
theorem d_Sp_countAll_7 : decode b_Sp_countAll 7 = .ok (.invokevirtual 67, 3) := by decide +kernel
theorem d_Sp_countAll_10 : decode b_Sp_countAll 10 = .ok (.if_icmp .ge 50, 3) := by decide +kernel
theorem d_Sp_countAll_13 : decode b_Sp_countAll 13 = .ok (.aload_n 0, 1) := by decide +kernel
theorem d_Sp_countAll_14 : decode b_Sp_countAll 14 = .ok (.getfield 9, 3) := by decide +kernel
theorem d_Sp_countAll_17 : decode b_Sp_countAll 17 = .ok (.iload_n 1, 1) := by decide +kernel
theorem d_Sp_countAll_18 : decode b_Sp_countAll 18 = .ok (.aload_n 0, 1) := by decide +kernel
theorem d_Sp_countAll_19 : decode b_Sp_countAll 19 = .ok (.getfield 27, 3) := by decide +kernel
theorem d_Sp_countAll_22 : decode b_Sp_countAll 22 = .ok (.iload_n 1, 1) := by decide +kernel
theorem d_Sp_countAll_23 : decode b_Sp_countAll 23 = .ok (.invokevirtual 42, 3) := by decide +kernel
theorem d_Sp_countAll_26 : decode b_Sp_countAll 26 = .ok (.i2l, 1) := by decide +kernel
theorem d_Sp_countAll_27 : decode b_Sp_countAll 27 = .ok (.aload_n 0, 1) := by decide +kernel
theorem d_Sp_countAll_28 : decode b_Sp_countAll 28 = .ok (.aload_n 0, 1) := by decide +kernel
theorem d_Sp_countAll_29 : decode b_Sp_countAll 29 = .ok (.getfield 23, 3) := by decide +kernel
theorem d_Sp_countAll_32 : decode b_Sp_countAll 32 = .ok (.iload_n 1, 1) := by decide +kernel
theorem d_Sp_countAll_33 : decode b_Sp_countAll 33 = .ok (.invokevirtual 48, 3) := by decide +kernel
theorem d_Sp_countAll_36 : decode b_Sp_countAll 36 = .ok (.invokevirtual 53, 3) := by decide +kernel
theorem d_Sp_countAll_39 : decode b_Sp_countAll 39 = .ok (.ladd, 1) := by decide +kernel
theorem d_Sp_countAll_40 : decode b_Sp_countAll 40 = .ok (.aload_n 0, 1) := by decide +kernel
theorem d_Sp_countAll_41 : decode b_Sp_countAll 41 = .ok (.aload_n 0, 1) := by decide +kernel
theorem d_Sp_countAll_42 : decode b_Sp_countAll 42 = .ok (.getfield 23, 3) := by decide +kernel
theorem d_Sp_countAll_45 : decode b_Sp_countAll 45 = .ok (.iload_n 1, 1) := by decide +kernel
theorem d_Sp_countAll_46 : decode b_Sp_countAll 46 = .ok (.invokevirtual 57, 3) := by decide +kernel
theorem d_Sp_countAll_49 : decode b_Sp_countAll 49 = .ok (.invokevirtual 53, 3) := by decide +kernel
theorem d_Sp_countAll_52 : decode b_Sp_countAll 52 = .ok (.ladd, 1) := by decide +kernel
theorem d_Sp_countAll_53 : decode b_Sp_countAll 53 = .ok (.lastore, 1) := by decide +kernel
theorem d_Sp_countAll_54 : decode b_Sp_countAll 54 = .ok (.iinc 1 1, 3) := by decide +kernel
theorem d_Sp_countAll_57 : decode b_Sp_countAll 57 = .ok (.goto (-55), 3) := by decide +kernel
theorem d_Sp_countAll_60 : decode b_Sp_countAll 60 = .ok (.return_, 1) := by decide +kernel
abbrev b_Sp_countOf : ByteArray := prog_7_method_2_code
def y_Sp_countOf : MethodName := ⟨R_Sp, "countOf", "(I)I"⟩
theorem k_Sp_countOf : kV y_Sp_countOf b_Sp_countOf 2 (some .int) 1 := ⟨gmem (List.mem_append_right _ (List.mem_of_getElem? (i := 272) (by decide +kernel))) (by decide +kernel), gmem (List.mem_append_right _ (List.mem_of_getElem? (i := 273) (by decide +kernel))) (by decide +kernel), in_Sp, gmem (List.mem_append_right _ (List.mem_of_getElem? (i := 274) (by decide +kernel))) (by decide +kernel), by decide, by decide, by decide +kernel⟩
theorem d_Sp_countOf_0 : decode b_Sp_countOf 0 = .ok (.aload_n 0, 1) := by decide +kernel
theorem d_Sp_countOf_1 : decode b_Sp_countOf 1 = .ok (.invokevirtual 31, 3) := by decide +kernel
theorem d_Sp_countOf_4 : decode b_Sp_countOf 4 = .ok (.ldc2_w 34, 3) := by decide +kernel
theorem d_Sp_countOf_7 : decode b_Sp_countOf 7 = .ok (.aload_n 0, 1) := by decide +kernel
theorem d_Sp_countOf_8 : decode b_Sp_countOf 8 = .ok (.getfield 9, 3) := by decide +kernel
theorem d_Sp_countOf_11 : decode b_Sp_countOf 11 = .ok (.iload_n 1, 1) := by decide +kernel
theorem d_Sp_countOf_12 : decode b_Sp_countOf 12 = .ok (.laload, 1) := by decide +kernel
theorem d_Sp_countOf_13 : decode b_Sp_countOf 13 = .ok (.invokestatic 36, 3) := by decide +kernel
theorem d_Sp_countOf_16 : decode b_Sp_countOf 16 = .ok (.l2i, 1) := by decide +kernel
theorem d_Sp_countOf_17 : decode b_Sp_countOf 17 = .ok (.ireturn, 1) := by decide +kernel
abbrev b_Te_sizeOf : ByteArray := prog_8_method_9_code
def y_Te_sizeOf : MethodName := ⟨R_Te, "sizeOf", "(I)I"⟩
theorem k_Te_sizeOf : kV y_Te_sizeOf b_Te_sizeOf 2 (some .int) 1 := ⟨gmem (List.mem_append_right _ (List.mem_of_getElem? (i := 268) (by decide +kernel))) (by decide +kernel), gmem (List.mem_append_right _ (List.mem_of_getElem? (i := 269) (by decide +kernel))) (by decide +kernel), in_Te, gmem (List.mem_append_right _ (List.mem_of_getElem? (i := 270) (by decide +kernel))) (by decide +kernel), by decide, by decide, by decide +kernel⟩
theorem d_Te_sizeOf_0 : decode b_Te_sizeOf 0 = .ok (.aload_n 0, 1) := by decide +kernel
theorem d_Te_sizeOf_1 : decode b_Te_sizeOf 1 = .ok (.getfield 24, 3) := by decide +kernel
theorem d_Te_sizeOf_4 : decode b_Te_sizeOf 4 = .ok (.iload_n 1, 1) := by decide +kernel
theorem d_Te_sizeOf_5 : decode b_Te_sizeOf 5 = .ok (.iaload, 1) := by decide +kernel
theorem d_Te_sizeOf_6 : decode b_Te_sizeOf 6 = .ok (.ireturn, 1) := by decide +kernel
abbrev b_Te_symbolOf : ByteArray := prog_8_method_6_code
def y_Te_symbolOf : MethodName := ⟨R_Te, "symbolOf", "(I)I"⟩
theorem k_Te_symbolOf : kV y_Te_symbolOf b_Te_symbolOf 2 (some .int) 1 := ⟨gmem (List.mem_append_right _ (List.mem_of_getElem? (i := 256) (by decide +kernel))) (by decide +kernel), gmem (List.mem_append_right _ (List.mem_of_getElem? (i := 257) (by decide +kernel))) (by decide +kernel), in_Te, gmem (List.mem_append_right _ (List.mem_of_getElem? (i := 258) (by decide +kernel))) (by decide +kernel), by decide, by decide, by decide +kernel⟩
theorem d_Te_symbolOf_0 : decode b_Te_symbolOf 0 = .ok (.aload_n 0, 1) := by decide +kernel
theorem d_Te_symbolOf_1 : decode b_Te_symbolOf 1 = .ok (.getfield 15, 3) := by decide +kernel
theorem d_Te_symbolOf_4 : decode b_Te_symbolOf 4 = .ok (.iload_n 1, 1) := by decide +kernel
theorem d_Te_symbolOf_5 : decode b_Te_symbolOf 5 = .ok (.iaload, 1) := by decide +kernel
theorem d_Te_symbolOf_6 : decode b_Te_symbolOf 6 = .ok (.ireturn, 1) := by decide +kernel
abbrev b_Gr_of : ByteArray := prog_1_method_3_code
def y_Gr_of : MethodName := ⟨R_Gr, "of", "(II)I"⟩
theorem k_Gr_of : kV y_Gr_of b_Gr_of 3 (some .int) 2 := ⟨gmem (List.mem_append_right _ (List.mem_of_getElem? (i := 248) (by decide +kernel))) (by decide +kernel), gmem (List.mem_append_right _ (List.mem_of_getElem? (i := 249) (by decide +kernel))) (by decide +kernel), in_Gr, gmem (List.mem_append_right _ (List.mem_of_getElem? (i := 250) (by decide +kernel))) (by decide +kernel), by decide, by decide, by decide +kernel⟩
theorem d_Gr_of_0 : decode b_Gr_of 0 = .ok (.aload_n 0, 1) := by decide +kernel
theorem d_Gr_of_1 : decode b_Gr_of 1 = .ok (.getfield 14, 3) := by decide +kernel
theorem d_Gr_of_4 : decode b_Gr_of 4 = .ok (.iload_n 1, 1) := by decide +kernel
theorem d_Gr_of_5 : decode b_Gr_of 5 = .ok (.invokevirtual 80, 3) := by decide +kernel
theorem d_Gr_of_8 : decode b_Gr_of 8 = .ok (.ifCond .ne 5, 3) := by decide +kernel
theorem d_Gr_of_11 : decode b_Gr_of 11 = .ok (.iconst (-1), 1) := by decide +kernel
theorem d_Gr_of_12 : decode b_Gr_of 12 = .ok (.ireturn, 1) := by decide +kernel
theorem d_Gr_of_13 : decode b_Gr_of 13 = .ok (.iload_n 2, 1) := by decide +kernel
theorem d_Gr_of_14 : decode b_Gr_of 14 = .ok (.tableswitch 79 0 4 #[34, 43, 52, 61, 70], 34) := by decide +kernel
theorem d_Gr_of_48 : decode b_Gr_of 48 = .ok (.aload_n 0, 1) := by decide +kernel
theorem d_Gr_of_49 : decode b_Gr_of 49 = .ok (.getfield 14, 3) := by decide +kernel
theorem d_Gr_of_52 : decode b_Gr_of 52 = .ok (.iload_n 1, 1) := by decide +kernel
theorem d_Gr_of_53 : decode b_Gr_of 53 = .ok (.invokevirtual 84, 3) := by decide +kernel
theorem d_Gr_of_56 : decode b_Gr_of 56 = .ok (.ireturn, 1) := by decide +kernel
theorem d_Gr_of_57 : decode b_Gr_of 57 = .ok (.aload_n 0, 1) := by decide +kernel
theorem d_Gr_of_58 : decode b_Gr_of 58 = .ok (.getfield 14, 3) := by decide +kernel
theorem d_Gr_of_61 : decode b_Gr_of 61 = .ok (.iload_n 1, 1) := by decide +kernel
theorem d_Gr_of_62 : decode b_Gr_of 62 = .ok (.invokevirtual 88, 3) := by decide +kernel
theorem d_Gr_of_65 : decode b_Gr_of 65 = .ok (.ireturn, 1) := by decide +kernel
theorem d_Gr_of_66 : decode b_Gr_of 66 = .ok (.aload_n 0, 1) := by decide +kernel
theorem d_Gr_of_67 : decode b_Gr_of 67 = .ok (.getfield 14, 3) := by decide +kernel
theorem d_Gr_of_70 : decode b_Gr_of 70 = .ok (.iload_n 1, 1) := by decide +kernel
theorem d_Gr_of_71 : decode b_Gr_of 71 = .ok (.invokevirtual 91, 3) := by decide +kernel
theorem d_Gr_of_74 : decode b_Gr_of 74 = .ok (.ireturn, 1) := by decide +kernel
theorem d_Gr_of_75 : decode b_Gr_of 75 = .ok (.aload_n 0, 1) := by decide +kernel
theorem d_Gr_of_76 : decode b_Gr_of 76 = .ok (.getfield 14, 3) := by decide +kernel
theorem d_Gr_of_79 : decode b_Gr_of 79 = .ok (.iload_n 1, 1) := by decide +kernel
theorem d_Gr_of_80 : decode b_Gr_of 80 = .ok (.invokevirtual 94, 3) := by decide +kernel
theorem d_Gr_of_83 : decode b_Gr_of 83 = .ok (.ireturn, 1) := by decide +kernel
theorem d_Gr_of_84 : decode b_Gr_of 84 = .ok (.aload_n 0, 1) := by decide +kernel
theorem d_Gr_of_85 : decode b_Gr_of 85 = .ok (.getfield 55, 3) := by decide +kernel
theorem d_Gr_of_88 : decode b_Gr_of 88 = .ok (.iload_n 1, 1) := by decide +kernel
theorem d_Gr_of_89 : decode b_Gr_of 89 = .ok (.invokevirtual 97, 3) := by decide +kernel
theorem d_Gr_of_92 : decode b_Gr_of 92 = .ok (.ireturn, 1) := by decide +kernel
theorem d_Gr_of_93 : decode b_Gr_of 93 = .ok (.iconst (-1), 1) := by decide +kernel
theorem d_Gr_of_94 : decode b_Gr_of 94 = .ok (.ireturn, 1) := by decide +kernel
abbrev b_Ru_dropLast : ByteArray := prog_6_method_7_code
def y_Ru_dropLast : MethodName := ⟨R_Ru, "dropLast", "()Z"⟩
theorem k_Ru_dropLast : kV y_Ru_dropLast b_Ru_dropLast 1 (some .boolean) 0 := ⟨gmem (List.mem_append_right _ (List.mem_of_getElem? (i := 302) (by decide +kernel))) (by decide +kernel), gmem (List.mem_append_right _ (List.mem_of_getElem? (i := 303) (by decide +kernel))) (by decide +kernel), in_Ru, gmem (List.mem_append_right _ (List.mem_of_getElem? (i := 304) (by decide +kernel))) (by decide +kernel), by decide, by decide, by decide +kernel⟩
theorem d_Ru_dropLast_0 : decode b_Ru_dropLast 0 = .ok (.aload_n 0, 1) := by decide +kernel
theorem d_Ru_dropLast_1 : decode b_Ru_dropLast 1 = .ok (.getfield 18, 3) := by decide +kernel
theorem d_Ru_dropLast_4 : decode b_Ru_dropLast 4 = .ok (.ifCond .ne 5, 3) := by decide +kernel
theorem d_Ru_dropLast_7 : decode b_Ru_dropLast 7 = .ok (.iconst 0, 1) := by decide +kernel
theorem d_Ru_dropLast_8 : decode b_Ru_dropLast 8 = .ok (.ireturn, 1) := by decide +kernel
theorem d_Ru_dropLast_9 : decode b_Ru_dropLast 9 = .ok (.aload_n 0, 1) := by decide +kernel
theorem d_Ru_dropLast_10 : decode b_Ru_dropLast 10 = .ok (.dup, 1) := by decide +kernel
theorem d_Ru_dropLast_11 : decode b_Ru_dropLast 11 = .ok (.getfield 18, 3) := by decide +kernel
theorem d_Ru_dropLast_14 : decode b_Ru_dropLast 14 = .ok (.iconst 1, 1) := by decide +kernel
theorem d_Ru_dropLast_15 : decode b_Ru_dropLast 15 = .ok (.isub, 1) := by decide +kernel
theorem d_Ru_dropLast_16 : decode b_Ru_dropLast 16 = .ok (.putfield 18, 3) := by decide +kernel
theorem d_Ru_dropLast_19 : decode b_Ru_dropLast 19 = .ok (.aload_n 0, 1) := by decide +kernel
theorem d_Ru_dropLast_20 : decode b_Ru_dropLast 20 = .ok (.dup, 1) := by decide +kernel
theorem d_Ru_dropLast_21 : decode b_Ru_dropLast 21 = .ok (.getfield 22, 3) := by decide +kernel
theorem d_Ru_dropLast_24 : decode b_Ru_dropLast 24 = .ok (.iconst 1, 1) := by decide +kernel
theorem d_Ru_dropLast_25 : decode b_Ru_dropLast 25 = .ok (.iadd, 1) := by decide +kernel
theorem d_Ru_dropLast_26 : decode b_Ru_dropLast 26 = .ok (.putfield 22, 3) := by decide +kernel
theorem d_Ru_dropLast_29 : decode b_Ru_dropLast 29 = .ok (.iconst 1, 1) := by decide +kernel
theorem d_Ru_dropLast_30 : decode b_Ru_dropLast 30 = .ok (.ireturn, 1) := by decide +kernel
abbrev b_Gr_cut : ByteArray := prog_1_method_5_code
def y_Gr_cut : MethodName := ⟨R_Gr, "cut", "()Z"⟩
theorem k_Gr_cut : kV y_Gr_cut b_Gr_cut 1 (some .boolean) 0 := ⟨gmem (List.mem_append_right _ (List.mem_of_getElem? (i := 298) (by decide +kernel))) (by decide +kernel), gmem (List.mem_append_right _ (List.mem_of_getElem? (i := 299) (by decide +kernel))) (by decide +kernel), in_Gr, gmem (List.mem_append_right _ (List.mem_of_getElem? (i := 300) (by decide +kernel))) (by decide +kernel), by decide, by decide, by decide +kernel⟩
theorem d_Gr_cut_0 : decode b_Gr_cut 0 = .ok (.aload_n 0, 1) := by decide +kernel
theorem d_Gr_cut_1 : decode b_Gr_cut 1 = .ok (.getfield 21, 3) := by decide +kernel
theorem d_Gr_cut_4 : decode b_Gr_cut 4 = .ok (.invokevirtual 104, 3) := by decide +kernel
theorem d_Gr_cut_7 : decode b_Gr_cut 7 = .ok (.ireturn, 1) := by decide +kernel
abbrev b_Gr_isState : ByteArray := prog_1_method_18_code
def y_Gr_isState : MethodName := ⟨R_Gr, "isState", "(I)Z"⟩
theorem k_Gr_isState : kS y_Gr_isState b_Gr_isState 1 (some .boolean) 1 := ⟨gmem (List.mem_append_right _ (List.mem_of_getElem? (i := 310) (by decide +kernel))) (by decide +kernel), in_Gr, gmem (List.mem_append_right _ (List.mem_of_getElem? (i := 311) (by decide +kernel))) (by decide +kernel), by decide, by decide, by decide +kernel⟩
theorem d_Gr_isState_0 : decode b_Gr_isState 0 = .ok (.iload_n 0, 1) := by decide +kernel
theorem d_Gr_isState_1 : decode b_Gr_isState 1 = .ok (.ifCond .lt 13, 3) := by decide +kernel
theorem d_Gr_isState_4 : decode b_Gr_isState 4 = .ok (.iload_n 0, 1) := by decide +kernel
theorem d_Gr_isState_5 : decode b_Gr_isState 5 = .ok (.bipush 6, 2) := by decide +kernel
theorem d_Gr_isState_7 : decode b_Gr_isState 7 = .ok (.if_icmp .ge 7, 3) := by decide +kernel
theorem d_Gr_isState_10 : decode b_Gr_isState 10 = .ok (.iconst 1, 1) := by decide +kernel
theorem d_Gr_isState_11 : decode b_Gr_isState 11 = .ok (.goto 4, 3) := by decide +kernel
theorem d_Gr_isState_14 : decode b_Gr_isState 14 = .ok (.iconst 0, 1) := by decide +kernel
theorem d_Gr_isState_15 : decode b_Gr_isState 15 = .ok (.ireturn, 1) := by decide +kernel
abbrev b_Au_setFinal : ByteArray := prog_2_method_5_code
def y_Au_setFinal : MethodName := ⟨R_Au, "setFinal", "(IZ)Z"⟩
theorem k_Au_setFinal : kV y_Au_setFinal b_Au_setFinal 4 (some .boolean) 2 := ⟨gmem (List.mem_append_right _ (List.mem_of_getElem? (i := 313) (by decide +kernel))) (by decide +kernel), gmem (List.mem_append_right _ (List.mem_of_getElem? (i := 314) (by decide +kernel))) (by decide +kernel), in_Au, gmem (List.mem_append_right _ (List.mem_of_getElem? (i := 315) (by decide +kernel))) (by decide +kernel), by decide, by decide, by decide +kernel⟩
theorem d_Au_setFinal_0 : decode b_Au_setFinal 0 = .ok (.iload_n 2, 1) := by decide +kernel
theorem d_Au_setFinal_1 : decode b_Au_setFinal 1 = .ok (.ifCond .eq 14, 3) := by decide +kernel
theorem d_Au_setFinal_4 : decode b_Au_setFinal 4 = .ok (.aload_n 0, 1) := by decide +kernel
theorem d_Au_setFinal_5 : decode b_Au_setFinal 5 = .ok (.getfield 35, 3) := by decide +kernel
theorem d_Au_setFinal_8 : decode b_Au_setFinal 8 = .ok (.iconst 1, 1) := by decide +kernel
theorem d_Au_setFinal_9 : decode b_Au_setFinal 9 = .ok (.iload_n 1, 1) := by decide +kernel
theorem d_Au_setFinal_10 : decode b_Au_setFinal 10 = .ok (.ishl, 1) := by decide +kernel
theorem d_Au_setFinal_11 : decode b_Au_setFinal 11 = .ok (.ior, 1) := by decide +kernel
theorem d_Au_setFinal_12 : decode b_Au_setFinal 12 = .ok (.goto 13, 3) := by decide +kernel
theorem d_Au_setFinal_15 : decode b_Au_setFinal 15 = .ok (.aload_n 0, 1) := by decide +kernel
theorem d_Au_setFinal_16 : decode b_Au_setFinal 16 = .ok (.getfield 35, 3) := by decide +kernel
theorem d_Au_setFinal_19 : decode b_Au_setFinal 19 = .ok (.iconst 1, 1) := by decide +kernel
theorem d_Au_setFinal_20 : decode b_Au_setFinal 20 = .ok (.iload_n 1, 1) := by decide +kernel
theorem d_Au_setFinal_21 : decode b_Au_setFinal 21 = .ok (.ishl, 1) := by decide +kernel
theorem d_Au_setFinal_22 : decode b_Au_setFinal 22 = .ok (.iconst (-1), 1) := by decide +kernel
theorem d_Au_setFinal_23 : decode b_Au_setFinal 23 = .ok (.ixor, 1) := by decide +kernel
theorem d_Au_setFinal_24 : decode b_Au_setFinal 24 = .ok (.iand, 1) := by decide +kernel
theorem d_Au_setFinal_25 : decode b_Au_setFinal 25 = .ok (.istore_n 3, 1) := by decide +kernel
theorem d_Au_setFinal_26 : decode b_Au_setFinal 26 = .ok (.iload_n 3, 1) := by decide +kernel
theorem d_Au_setFinal_27 : decode b_Au_setFinal 27 = .ok (.aload_n 0, 1) := by decide +kernel
theorem d_Au_setFinal_28 : decode b_Au_setFinal 28 = .ok (.getfield 35, 3) := by decide +kernel
theorem d_Au_setFinal_31 : decode b_Au_setFinal 31 = .ok (.if_icmp .ne 5, 3) := by decide +kernel
theorem d_Au_setFinal_34 : decode b_Au_setFinal 34 = .ok (.iconst 0, 1) := by decide +kernel
theorem d_Au_setFinal_35 : decode b_Au_setFinal 35 = .ok (.ireturn, 1) := by decide +kernel
theorem d_Au_setFinal_36 : decode b_Au_setFinal 36 = .ok (.aload_n 0, 1) := by decide +kernel
theorem d_Au_setFinal_37 : decode b_Au_setFinal 37 = .ok (.iload_n 3, 1) := by decide +kernel
theorem d_Au_setFinal_38 : decode b_Au_setFinal 38 = .ok (.putfield 35, 3) := by decide +kernel
theorem d_Au_setFinal_41 : decode b_Au_setFinal 41 = .ok (.iconst 1, 1) := by decide +kernel
theorem d_Au_setFinal_42 : decode b_Au_setFinal 42 = .ok (.ireturn, 1) := by decide +kernel
abbrev b_Gr_mark : ByteArray := prog_1_method_7_code
def y_Gr_mark : MethodName := ⟨R_Gr, "mark", "(IZ)Z"⟩
theorem k_Gr_mark : kV y_Gr_mark b_Gr_mark 3 (some .boolean) 2 := ⟨gmem (List.mem_append_right _ (List.mem_of_getElem? (i := 306) (by decide +kernel))) (by decide +kernel), gmem (List.mem_append_right _ (List.mem_of_getElem? (i := 307) (by decide +kernel))) (by decide +kernel), in_Gr, gmem (List.mem_append_right _ (List.mem_of_getElem? (i := 308) (by decide +kernel))) (by decide +kernel), by decide, by decide, by decide +kernel⟩
theorem d_Gr_mark_0 : decode b_Gr_mark 0 = .ok (.iload_n 1, 1) := by decide +kernel
theorem d_Gr_mark_1 : decode b_Gr_mark 1 = .ok (.invokestatic 116, 3) := by decide +kernel
theorem d_Gr_mark_4 : decode b_Gr_mark 4 = .ok (.ifCond .eq 19, 3) := by decide +kernel
theorem d_Gr_mark_7 : decode b_Gr_mark 7 = .ok (.aload_n 0, 1) := by decide +kernel
theorem d_Gr_mark_8 : decode b_Gr_mark 8 = .ok (.getfield 30, 3) := by decide +kernel
theorem d_Gr_mark_11 : decode b_Gr_mark 11 = .ok (.iload_n 1, 1) := by decide +kernel
theorem d_Gr_mark_12 : decode b_Gr_mark 12 = .ok (.iload_n 2, 1) := by decide +kernel
theorem d_Gr_mark_13 : decode b_Gr_mark 13 = .ok (.invokevirtual 119, 3) := by decide +kernel
theorem d_Gr_mark_16 : decode b_Gr_mark 16 = .ok (.ifCond .eq 7, 3) := by decide +kernel
theorem d_Gr_mark_19 : decode b_Gr_mark 19 = .ok (.iconst 1, 1) := by decide +kernel
theorem d_Gr_mark_20 : decode b_Gr_mark 20 = .ok (.goto 4, 3) := by decide +kernel
theorem d_Gr_mark_23 : decode b_Gr_mark 23 = .ok (.iconst 0, 1) := by decide +kernel
theorem d_Gr_mark_24 : decode b_Gr_mark 24 = .ok (.ireturn, 1) := by decide +kernel
abbrev b_Te_placesOf : ByteArray := prog_8_method_5_code
def y_Te_placesOf : MethodName := ⟨R_Te, "placesOf", "(I)I"⟩
theorem k_Te_placesOf : kV y_Te_placesOf b_Te_placesOf 2 (some .int) 1 := ⟨gmem (List.mem_append_right _ (List.mem_of_getElem? (i := 334) (by decide +kernel))) (by decide +kernel), gmem (List.mem_append_right _ (List.mem_of_getElem? (i := 335) (by decide +kernel))) (by decide +kernel), in_Te, gmem (List.mem_append_right _ (List.mem_of_getElem? (i := 336) (by decide +kernel))) (by decide +kernel), by decide, by decide, by decide +kernel⟩
theorem d_Te_placesOf_0 : decode b_Te_placesOf 0 = .ok (.aload_n 0, 1) := by decide +kernel
theorem d_Te_placesOf_1 : decode b_Te_placesOf 1 = .ok (.getfield 9, 3) := by decide +kernel
theorem d_Te_placesOf_4 : decode b_Te_placesOf 4 = .ok (.iload_n 1, 1) := by decide +kernel
theorem d_Te_placesOf_5 : decode b_Te_placesOf 5 = .ok (.iaload, 1) := by decide +kernel
theorem d_Te_placesOf_6 : decode b_Te_placesOf 6 = .ok (.ireturn, 1) := by decide +kernel
abbrev b_Au_finals : ByteArray := prog_2_method_3_code
def y_Au_finals : MethodName := ⟨R_Au, "finals", "()I"⟩
theorem k_Au_finals : kV y_Au_finals b_Au_finals 1 (some .int) 0 := ⟨gmem (List.mem_append_right _ (List.mem_of_getElem? (i := 330) (by decide +kernel))) (by decide +kernel), gmem (List.mem_append_right _ (List.mem_of_getElem? (i := 331) (by decide +kernel))) (by decide +kernel), in_Au, gmem (List.mem_append_right _ (List.mem_of_getElem? (i := 332) (by decide +kernel))) (by decide +kernel), by decide, by decide, by decide +kernel⟩
theorem d_Au_finals_0 : decode b_Au_finals 0 = .ok (.aload_n 0, 1) := by decide +kernel
theorem d_Au_finals_1 : decode b_Au_finals 1 = .ok (.getfield 35, 3) := by decide +kernel
theorem d_Au_finals_4 : decode b_Au_finals 4 = .ok (.ireturn, 1) := by decide +kernel
abbrev b_Au_count : ByteArray := prog_2_method_2_code
def y_Au_count : MethodName := ⟨R_Au, "count", "()I"⟩
theorem k_Au_count : kV y_Au_count b_Au_count 1 (some .int) 0 := ⟨gmem (List.mem_append_right _ (List.mem_of_getElem? (i := 326) (by decide +kernel))) (by decide +kernel), gmem (List.mem_append_right _ (List.mem_of_getElem? (i := 327) (by decide +kernel))) (by decide +kernel), in_Au, gmem (List.mem_append_right _ (List.mem_of_getElem? (i := 328) (by decide +kernel))) (by decide +kernel), by decide, by decide, by decide +kernel⟩
theorem d_Au_count_0 : decode b_Au_count 0 = .ok (.aload_n 0, 1) := by decide +kernel
theorem d_Au_count_1 : decode b_Au_count 1 = .ok (.getfield 31, 3) := by decide +kernel
theorem d_Au_count_4 : decode b_Au_count 4 = .ok (.ireturn, 1) := by decide +kernel
abbrev b_Ru_count : ByteArray := prog_6_method_2_code
def y_Ru_count : MethodName := ⟨R_Ru, "count", "()I"⟩
theorem k_Ru_count : kV y_Ru_count b_Ru_count 1 (some .int) 0 := ⟨gmem (List.mem_append_right _ (List.mem_of_getElem? (i := 322) (by decide +kernel))) (by decide +kernel), gmem (List.mem_append_right _ (List.mem_of_getElem? (i := 323) (by decide +kernel))) (by decide +kernel), in_Ru, gmem (List.mem_append_right _ (List.mem_of_getElem? (i := 324) (by decide +kernel))) (by decide +kernel), by decide, by decide, by decide +kernel⟩
theorem d_Ru_count_0 : decode b_Ru_count 0 = .ok (.aload_n 0, 1) := by decide +kernel
theorem d_Ru_count_1 : decode b_Ru_count 1 = .ok (.getfield 18, 3) := by decide +kernel
theorem d_Ru_count_4 : decode b_Ru_count 4 = .ok (.ireturn, 1) := by decide +kernel
abbrev b_Gr_look : ByteArray := prog_1_method_17_code
def y_Gr_look : MethodName := ⟨R_Gr, "look", "(I)I"⟩
theorem k_Gr_look : kV y_Gr_look b_Gr_look 2 (some .int) 1 := ⟨gmem (List.mem_append_right _ (List.mem_of_getElem? (i := 317) (by decide +kernel))) (by decide +kernel), gmem (List.mem_append_right _ (List.mem_of_getElem? (i := 318) (by decide +kernel))) (by decide +kernel), in_Gr, gmem (List.mem_append_right _ (List.mem_of_getElem? (i := 319) (by decide +kernel))) (by decide +kernel), by decide, by decide, by decide +kernel⟩
theorem d_Gr_look_0 : decode b_Gr_look 0 = .ok (.iload_n 1, 1) := by decide +kernel
theorem d_Gr_look_1 : decode b_Gr_look 1 = .ok (.tableswitch 63 0 3 #[31, 39, 47, 55], 31) := by decide +kernel
theorem d_Gr_look_32 : decode b_Gr_look 32 = .ok (.aload_n 0, 1) := by decide +kernel
theorem d_Gr_look_33 : decode b_Gr_look 33 = .ok (.getfield 14, 3) := by decide +kernel
theorem d_Gr_look_36 : decode b_Gr_look 36 = .ok (.invokevirtual 158, 3) := by decide +kernel
theorem d_Gr_look_39 : decode b_Gr_look 39 = .ok (.ireturn, 1) := by decide +kernel
theorem d_Gr_look_40 : decode b_Gr_look 40 = .ok (.aload_n 0, 1) := by decide +kernel
theorem d_Gr_look_41 : decode b_Gr_look 41 = .ok (.getfield 21, 3) := by decide +kernel
theorem d_Gr_look_44 : decode b_Gr_look 44 = .ok (.invokevirtual 162, 3) := by decide +kernel
theorem d_Gr_look_47 : decode b_Gr_look 47 = .ok (.ireturn, 1) := by decide +kernel
theorem d_Gr_look_48 : decode b_Gr_look 48 = .ok (.aload_n 0, 1) := by decide +kernel
theorem d_Gr_look_49 : decode b_Gr_look 49 = .ok (.getfield 30, 3) := by decide +kernel
theorem d_Gr_look_52 : decode b_Gr_look 52 = .ok (.invokevirtual 163, 3) := by decide +kernel
theorem d_Gr_look_55 : decode b_Gr_look 55 = .ok (.ireturn, 1) := by decide +kernel
theorem d_Gr_look_56 : decode b_Gr_look 56 = .ok (.aload_n 0, 1) := by decide +kernel
theorem d_Gr_look_57 : decode b_Gr_look 57 = .ok (.getfield 30, 3) := by decide +kernel
theorem d_Gr_look_60 : decode b_Gr_look 60 = .ok (.invokevirtual 164, 3) := by decide +kernel
theorem d_Gr_look_63 : decode b_Gr_look 63 = .ok (.ireturn, 1) := by decide +kernel
theorem d_Gr_look_64 : decode b_Gr_look 64 = .ok (.iload_n 1, 1) := by decide +kernel
theorem d_Gr_look_65 : decode b_Gr_look 65 = .ok (.iconst 4, 1) := by decide +kernel
theorem d_Gr_look_66 : decode b_Gr_look 66 = .ok (.if_icmp .lt 22, 3) := by decide +kernel
theorem d_Gr_look_69 : decode b_Gr_look 69 = .ok (.iload_n 1, 1) := by decide +kernel
theorem d_Gr_look_70 : decode b_Gr_look 70 = .ok (.bipush 10, 2) := by decide +kernel
theorem d_Gr_look_72 : decode b_Gr_look 72 = .ok (.if_icmp .ge 16, 3) := by decide +kernel
theorem d_Gr_look_75 : decode b_Gr_look 75 = .ok (.aload_n 0, 1) := by decide +kernel
theorem d_Gr_look_76 : decode b_Gr_look 76 = .ok (.getfield 14, 3) := by decide +kernel
theorem d_Gr_look_79 : decode b_Gr_look 79 = .ok (.iload_n 1, 1) := by decide +kernel
theorem d_Gr_look_80 : decode b_Gr_look 80 = .ok (.iconst 4, 1) := by decide +kernel
theorem d_Gr_look_81 : decode b_Gr_look 81 = .ok (.isub, 1) := by decide +kernel
theorem d_Gr_look_82 : decode b_Gr_look 82 = .ok (.invokevirtual 167, 3) := by decide +kernel
theorem d_Gr_look_85 : decode b_Gr_look 85 = .ok (.goto 4, 3) := by decide +kernel
theorem d_Gr_look_88 : decode b_Gr_look 88 = .ok (.iconst (-1), 1) := by decide +kernel
theorem d_Gr_look_89 : decode b_Gr_look 89 = .ok (.ireturn, 1) := by decide +kernel
abbrev b_Te_isSymbol : ByteArray := prog_8_method_4_code
def y_Te_isSymbol : MethodName := ⟨R_Te, "isSymbol", "(I)Z"⟩
theorem k_Te_isSymbol : kV y_Te_isSymbol b_Te_isSymbol 2 (some .boolean) 1 := ⟨gmem (List.mem_append_right _ (List.mem_of_getElem? (i := 354) (by decide +kernel))) (by decide +kernel), gmem (List.mem_append_right _ (List.mem_of_getElem? (i := 355) (by decide +kernel))) (by decide +kernel), in_Te, gmem (List.mem_append_right _ (List.mem_of_getElem? (i := 356) (by decide +kernel))) (by decide +kernel), by decide, by decide, by decide +kernel⟩
theorem d_Te_isSymbol_0 : decode b_Te_isSymbol 0 = .ok (.iload_n 1, 1) := by decide +kernel
theorem d_Te_isSymbol_1 : decode b_Te_isSymbol 1 = .ok (.ifCond .lt 13, 3) := by decide +kernel
theorem d_Te_isSymbol_4 : decode b_Te_isSymbol 4 = .ok (.iload_n 1, 1) := by decide +kernel
theorem d_Te_isSymbol_5 : decode b_Te_isSymbol 5 = .ok (.bipush 6, 2) := by decide +kernel
theorem d_Te_isSymbol_7 : decode b_Te_isSymbol 7 = .ok (.if_icmp .ge 7, 3) := by decide +kernel
theorem d_Te_isSymbol_10 : decode b_Te_isSymbol 10 = .ok (.iconst 1, 1) := by decide +kernel
theorem d_Te_isSymbol_11 : decode b_Te_isSymbol 11 = .ok (.goto 4, 3) := by decide +kernel
theorem d_Te_isSymbol_14 : decode b_Te_isSymbol 14 = .ok (.iconst 0, 1) := by decide +kernel
theorem d_Te_isSymbol_15 : decode b_Te_isSymbol 15 = .ok (.ireturn, 1) := by decide +kernel
abbrev b_Te_canStand : ByteArray := prog_8_method_10_code
def y_Te_canStand : MethodName := ⟨R_Te, "canStand", "(III)Z"⟩
theorem k_Te_canStand : kV y_Te_canStand b_Te_canStand 4 (some .boolean) 3 := ⟨gmem (List.mem_append_right _ (List.mem_of_getElem? (i := 350) (by decide +kernel))) (by decide +kernel), gmem (List.mem_append_right _ (List.mem_of_getElem? (i := 351) (by decide +kernel))) (by decide +kernel), in_Te, gmem (List.mem_append_right _ (List.mem_of_getElem? (i := 352) (by decide +kernel))) (by decide +kernel), by decide, by decide, by decide +kernel⟩
theorem d_Te_canStand_0 : decode b_Te_canStand 0 = .ok (.aload_n 0, 1) := by decide +kernel
theorem d_Te_canStand_1 : decode b_Te_canStand 1 = .ok (.iload_n 1, 1) := by decide +kernel
theorem d_Te_canStand_2 : decode b_Te_canStand 2 = .ok (.invokevirtual 49, 3) := by decide +kernel
theorem d_Te_canStand_5 : decode b_Te_canStand 5 = .ok (.ifCond .eq 43, 3) := by decide +kernel
theorem d_Te_canStand_8 : decode b_Te_canStand 8 = .ok (.aload_n 0, 1) := by decide +kernel
theorem d_Te_canStand_9 : decode b_Te_canStand 9 = .ok (.getfield 9, 3) := by decide +kernel
theorem d_Te_canStand_12 : decode b_Te_canStand 12 = .ok (.iload_n 1, 1) := by decide +kernel
theorem d_Te_canStand_13 : decode b_Te_canStand 13 = .ok (.iaload, 1) := by decide +kernel
theorem d_Te_canStand_14 : decode b_Te_canStand 14 = .ok (.iconst 1, 1) := by decide +kernel
theorem d_Te_canStand_15 : decode b_Te_canStand 15 = .ok (.if_icmp .lt 11, 3) := by decide +kernel
theorem d_Te_canStand_18 : decode b_Te_canStand 18 = .ok (.aload_n 0, 1) := by decide +kernel
theorem d_Te_canStand_19 : decode b_Te_canStand 19 = .ok (.iload_n 2, 1) := by decide +kernel
theorem d_Te_canStand_20 : decode b_Te_canStand 20 = .ok (.invokevirtual 53, 3) := by decide +kernel
theorem d_Te_canStand_23 : decode b_Te_canStand 23 = .ok (.ifCond .eq 25, 3) := by decide +kernel
theorem d_Te_canStand_26 : decode b_Te_canStand 26 = .ok (.aload_n 0, 1) := by decide +kernel
theorem d_Te_canStand_27 : decode b_Te_canStand 27 = .ok (.getfield 9, 3) := by decide +kernel
theorem d_Te_canStand_30 : decode b_Te_canStand 30 = .ok (.iload_n 1, 1) := by decide +kernel
theorem d_Te_canStand_31 : decode b_Te_canStand 31 = .ok (.iaload, 1) := by decide +kernel
theorem d_Te_canStand_32 : decode b_Te_canStand 32 = .ok (.iconst 2, 1) := by decide +kernel
theorem d_Te_canStand_33 : decode b_Te_canStand 33 = .ok (.if_icmp .lt 11, 3) := by decide +kernel
theorem d_Te_canStand_36 : decode b_Te_canStand 36 = .ok (.aload_n 0, 1) := by decide +kernel
theorem d_Te_canStand_37 : decode b_Te_canStand 37 = .ok (.iload_n 3, 1) := by decide +kernel
theorem d_Te_canStand_38 : decode b_Te_canStand 38 = .ok (.invokevirtual 53, 3) := by decide +kernel
theorem d_Te_canStand_41 : decode b_Te_canStand 41 = .ok (.ifCond .eq 7, 3) := by decide +kernel
theorem d_Te_canStand_44 : decode b_Te_canStand 44 = .ok (.iconst 1, 1) := by decide +kernel
theorem d_Te_canStand_45 : decode b_Te_canStand 45 = .ok (.goto 4, 3) := by decide +kernel
theorem d_Te_canStand_48 : decode b_Te_canStand 48 = .ok (.iconst 0, 1) := by decide +kernel
theorem d_Te_canStand_49 : decode b_Te_canStand 49 = .ok (.ireturn, 1) := by decide +kernel
abbrev b_Te_bucketOf : ByteArray := prog_8_method_16_code
def y_Te_bucketOf : MethodName := ⟨R_Te, "bucketOf", "(III)I"⟩
theorem k_Te_bucketOf : kS y_Te_bucketOf b_Te_bucketOf 3 (some .int) 3 := ⟨gmem (List.mem_append_right _ (List.mem_of_getElem? (i := 430) (by decide +kernel))) (by decide +kernel), in_Te, gmem (List.mem_append_right _ (List.mem_of_getElem? (i := 431) (by decide +kernel))) (by decide +kernel), by decide, by decide, by decide +kernel⟩
theorem d_Te_bucketOf_0 : decode b_Te_bucketOf 0 = .ok (.iload_n 0, 1) := by decide +kernel
theorem d_Te_bucketOf_1 : decode b_Te_bucketOf 1 = .ok (.sipush 961, 3) := by decide +kernel
theorem d_Te_bucketOf_4 : decode b_Te_bucketOf 4 = .ok (.imul, 1) := by decide +kernel
theorem d_Te_bucketOf_5 : decode b_Te_bucketOf 5 = .ok (.iload_n 1, 1) := by decide +kernel
theorem d_Te_bucketOf_6 : decode b_Te_bucketOf 6 = .ok (.bipush 31, 2) := by decide +kernel
theorem d_Te_bucketOf_8 : decode b_Te_bucketOf 8 = .ok (.imul, 1) := by decide +kernel
theorem d_Te_bucketOf_9 : decode b_Te_bucketOf 9 = .ok (.iadd, 1) := by decide +kernel
theorem d_Te_bucketOf_10 : decode b_Te_bucketOf 10 = .ok (.iload_n 2, 1) := by decide +kernel
theorem d_Te_bucketOf_11 : decode b_Te_bucketOf 11 = .ok (.iadd, 1) := by decide +kernel
theorem d_Te_bucketOf_12 : decode b_Te_bucketOf 12 = .ok (.sipush 255, 3) := by decide +kernel
theorem d_Te_bucketOf_15 : decode b_Te_bucketOf 15 = .ok (.iand, 1) := by decide +kernel
theorem d_Te_bucketOf_16 : decode b_Te_bucketOf 16 = .ok (.ireturn, 1) := by decide +kernel
abbrev b_Te_find : ByteArray := prog_8_method_12_code
def y_Te_find : MethodName := ⟨R_Te, "find", "(III)I"⟩
theorem k_Te_find : kV y_Te_find b_Te_find 8 (some .int) 3 := ⟨gmem (List.mem_append_right _ (List.mem_of_getElem? (i := 426) (by decide +kernel))) (by decide +kernel), gmem (List.mem_append_right _ (List.mem_of_getElem? (i := 427) (by decide +kernel))) (by decide +kernel), in_Te, gmem (List.mem_append_right _ (List.mem_of_getElem? (i := 428) (by decide +kernel))) (by decide +kernel), by decide, by decide, by decide +kernel⟩
theorem d_Te_find_0 : decode b_Te_find 0 = .ok (.aload_n 0, 1) := by decide +kernel
theorem d_Te_find_1 : decode b_Te_find 1 = .ok (.getfield 9, 3) := by decide +kernel
theorem d_Te_find_4 : decode b_Te_find 4 = .ok (.iload_n 1, 1) := by decide +kernel
theorem d_Te_find_5 : decode b_Te_find 5 = .ok (.iaload, 1) := by decide +kernel
theorem d_Te_find_6 : decode b_Te_find 6 = .ok (.iconst 1, 1) := by decide +kernel
theorem d_Te_find_7 : decode b_Te_find 7 = .ok (.if_icmp .ge 7, 3) := by decide +kernel
theorem d_Te_find_10 : decode b_Te_find 10 = .ok (.iconst (-1), 1) := by decide +kernel
theorem d_Te_find_11 : decode b_Te_find 11 = .ok (.goto 4, 3) := by decide +kernel
theorem d_Te_find_14 : decode b_Te_find 14 = .ok (.iload_n 2, 1) := by decide +kernel
theorem d_Te_find_15 : decode b_Te_find 15 = .ok (.istore 4, 2) := by decide +kernel
theorem d_Te_find_17 : decode b_Te_find 17 = .ok (.aload_n 0, 1) := by decide +kernel
theorem d_Te_find_18 : decode b_Te_find 18 = .ok (.getfield 9, 3) := by decide +kernel
theorem d_Te_find_21 : decode b_Te_find 21 = .ok (.iload_n 1, 1) := by decide +kernel
theorem d_Te_find_22 : decode b_Te_find 22 = .ok (.iaload, 1) := by decide +kernel
theorem d_Te_find_23 : decode b_Te_find 23 = .ok (.iconst 2, 1) := by decide +kernel
theorem d_Te_find_24 : decode b_Te_find 24 = .ok (.if_icmp .ge 7, 3) := by decide +kernel
theorem d_Te_find_27 : decode b_Te_find 27 = .ok (.iconst (-1), 1) := by decide +kernel
theorem d_Te_find_28 : decode b_Te_find 28 = .ok (.goto 4, 3) := by decide +kernel
theorem d_Te_find_31 : decode b_Te_find 31 = .ok (.iload_n 3, 1) := by decide +kernel
theorem d_Te_find_32 : decode b_Te_find 32 = .ok (.istore 5, 2) := by decide +kernel
theorem d_Te_find_34 : decode b_Te_find 34 = .ok (.aload_n 0, 1) := by decide +kernel
theorem d_Te_find_35 : decode b_Te_find 35 = .ok (.getfield 27, 3) := by decide +kernel
theorem d_Te_find_38 : decode b_Te_find 38 = .ok (.iload_n 1, 1) := by decide +kernel
theorem d_Te_find_39 : decode b_Te_find 39 = .ok (.iload 4, 2) := by decide +kernel
theorem d_Te_find_41 : decode b_Te_find 41 = .ok (.iload 5, 2) := by decide +kernel
theorem d_Te_find_43 : decode b_Te_find 43 = .ok (.invokestatic 63, 3) := by decide +kernel
theorem d_Te_find_46 : decode b_Te_find 46 = .ok (.iaload, 1) := by decide +kernel
theorem d_Te_find_47 : decode b_Te_find 47 = .ok (.istore 6, 2) := by decide +kernel
theorem d_Te_find_49 : decode b_Te_find 49 = .ok (.iconst 0, 1) := by decide +kernel
theorem d_Te_find_50 : decode b_Te_find 50 = .ok (.istore 7, 2) := by decide +kernel
theorem d_Te_find_52 : decode b_Te_find 52 = .ok (.iload 7, 2) := by decide +kernel
theorem d_Te_find_54 : decode b_Te_find 54 = .ok (.sipush 448, 3) := by decide +kernel
theorem d_Te_find_57 : decode b_Te_find 57 = .ok (.if_icmp .ge 62, 3) := by decide +kernel
theorem d_Te_find_60 : decode b_Te_find 60 = .ok (.iload 6, 2) := by decide +kernel
theorem d_Te_find_62 : decode b_Te_find 62 = .ok (.iconst (-1), 1) := by decide +kernel
theorem d_Te_find_63 : decode b_Te_find 63 = .ok (.if_icmp .eq 56, 3) := by decide +kernel
theorem d_Te_find_66 : decode b_Te_find 66 = .ok (.aload_n 0, 1) := by decide +kernel
theorem d_Te_find_67 : decode b_Te_find 67 = .ok (.getfield 15, 3) := by decide +kernel
theorem d_Te_find_70 : decode b_Te_find 70 = .ok (.iload 6, 2) := by decide +kernel
theorem d_Te_find_72 : decode b_Te_find 72 = .ok (.iaload, 1) := by decide +kernel
theorem d_Te_find_73 : decode b_Te_find 73 = .ok (.iload_n 1, 1) := by decide +kernel
theorem d_Te_find_74 : decode b_Te_find 74 = .ok (.if_icmp .ne 30, 3) := by decide +kernel
theorem d_Te_find_77 : decode b_Te_find 77 = .ok (.aload_n 0, 1) := by decide +kernel
theorem d_Te_find_78 : decode b_Te_find 78 = .ok (.getfield 18, 3) := by decide +kernel
theorem d_Te_find_81 : decode b_Te_find 81 = .ok (.iload 6, 2) := by decide +kernel
theorem d_Te_find_83 : decode b_Te_find 83 = .ok (.iaload, 1) := by decide +kernel
theorem d_Te_find_84 : decode b_Te_find 84 = .ok (.iload 4, 2) := by decide +kernel
theorem d_Te_find_86 : decode b_Te_find 86 = .ok (.if_icmp .ne 18, 3) := by decide +kernel
theorem d_Te_find_89 : decode b_Te_find 89 = .ok (.aload_n 0, 1) := by decide +kernel
theorem d_Te_find_90 : decode b_Te_find 90 = .ok (.getfield 21, 3) := by decide +kernel
theorem d_Te_find_93 : decode b_Te_find 93 = .ok (.iload 6, 2) := by decide +kernel
theorem d_Te_find_95 : decode b_Te_find 95 = .ok (.iaload, 1) := by decide +kernel
theorem d_Te_find_96 : decode b_Te_find 96 = .ok (.iload 5, 2) := by decide +kernel
theorem d_Te_find_98 : decode b_Te_find 98 = .ok (.if_icmp .ne 6, 3) := by decide +kernel
theorem d_Te_find_101 : decode b_Te_find 101 = .ok (.iload 6, 2) := by decide +kernel
theorem d_Te_find_103 : decode b_Te_find 103 = .ok (.ireturn, 1) := by decide +kernel
theorem d_Te_find_104 : decode b_Te_find 104 = .ok (.aload_n 0, 1) := by decide +kernel
theorem d_Te_find_105 : decode b_Te_find 105 = .ok (.getfield 30, 3) := by decide +kernel
theorem d_Te_find_108 : decode b_Te_find 108 = .ok (.iload 6, 2) := by decide +kernel
theorem d_Te_find_110 : decode b_Te_find 110 = .ok (.iaload, 1) := by decide +kernel
theorem d_Te_find_111 : decode b_Te_find 111 = .ok (.istore 6, 2) := by decide +kernel
theorem d_Te_find_113 : decode b_Te_find 113 = .ok (.iinc 7 1, 3) := by decide +kernel
theorem d_Te_find_116 : decode b_Te_find 116 = .ok (.goto (-64), 3) := by decide +kernel
theorem d_Te_find_119 : decode b_Te_find 119 = .ok (.iconst (-1), 1) := by decide +kernel
theorem d_Te_find_120 : decode b_Te_find 120 = .ok (.ireturn, 1) := by decide +kernel
abbrev b_Te_joinedSize : ByteArray := prog_8_method_15_code
def y_Te_joinedSize : MethodName := ⟨R_Te, "joinedSize", "(III)I"⟩
theorem k_Te_joinedSize : kV y_Te_joinedSize b_Te_joinedSize 5 (some .int) 3 := ⟨gmem (List.mem_append_right _ (List.mem_of_getElem? (i := 438) (by decide +kernel))) (by decide +kernel), gmem (List.mem_append_left _ (List.mem_of_getElem? (i := 3) (by decide +kernel))) (by decide +kernel), in_Te, gmem (List.mem_append_right _ (List.mem_of_getElem? (i := 439) (by decide +kernel))) (by decide +kernel), by decide, by decide, by decide +kernel⟩
theorem d_Te_joinedSize_0 : decode b_Te_joinedSize 0 = .ok (.aload_n 0, 1) := by decide +kernel
theorem d_Te_joinedSize_1 : decode b_Te_joinedSize 1 = .ok (.getfield 9, 3) := by decide +kernel
theorem d_Te_joinedSize_4 : decode b_Te_joinedSize 4 = .ok (.iload_n 1, 1) := by decide +kernel
theorem d_Te_joinedSize_5 : decode b_Te_joinedSize 5 = .ok (.iaload, 1) := by decide +kernel
theorem d_Te_joinedSize_6 : decode b_Te_joinedSize 6 = .ok (.iconst 1, 1) := by decide +kernel
theorem d_Te_joinedSize_7 : decode b_Te_joinedSize 7 = .ok (.if_icmp .ge 7, 3) := by decide +kernel
theorem d_Te_joinedSize_10 : decode b_Te_joinedSize 10 = .ok (.iconst 0, 1) := by decide +kernel
theorem d_Te_joinedSize_11 : decode b_Te_joinedSize 11 = .ok (.goto 9, 3) := by decide +kernel
theorem d_Te_joinedSize_14 : decode b_Te_joinedSize 14 = .ok (.aload_n 0, 1) := by decide +kernel
theorem d_Te_joinedSize_15 : decode b_Te_joinedSize 15 = .ok (.getfield 24, 3) := by decide +kernel
theorem d_Te_joinedSize_18 : decode b_Te_joinedSize 18 = .ok (.iload_n 2, 1) := by decide +kernel
theorem d_Te_joinedSize_19 : decode b_Te_joinedSize 19 = .ok (.iaload, 1) := by decide +kernel
theorem d_Te_joinedSize_20 : decode b_Te_joinedSize 20 = .ok (.aload_n 0, 1) := by decide +kernel
theorem d_Te_joinedSize_21 : decode b_Te_joinedSize 21 = .ok (.getfield 9, 3) := by decide +kernel
theorem d_Te_joinedSize_24 : decode b_Te_joinedSize 24 = .ok (.iload_n 1, 1) := by decide +kernel
theorem d_Te_joinedSize_25 : decode b_Te_joinedSize 25 = .ok (.iaload, 1) := by decide +kernel
theorem d_Te_joinedSize_26 : decode b_Te_joinedSize 26 = .ok (.iconst 2, 1) := by decide +kernel
theorem d_Te_joinedSize_27 : decode b_Te_joinedSize 27 = .ok (.if_icmp .ge 7, 3) := by decide +kernel
theorem d_Te_joinedSize_30 : decode b_Te_joinedSize 30 = .ok (.iconst 0, 1) := by decide +kernel
theorem d_Te_joinedSize_31 : decode b_Te_joinedSize 31 = .ok (.goto 9, 3) := by decide +kernel
theorem d_Te_joinedSize_34 : decode b_Te_joinedSize 34 = .ok (.aload_n 0, 1) := by decide +kernel
theorem d_Te_joinedSize_35 : decode b_Te_joinedSize 35 = .ok (.getfield 24, 3) := by decide +kernel
theorem d_Te_joinedSize_38 : decode b_Te_joinedSize 38 = .ok (.iload_n 3, 1) := by decide +kernel
theorem d_Te_joinedSize_39 : decode b_Te_joinedSize 39 = .ok (.iaload, 1) := by decide +kernel
theorem d_Te_joinedSize_40 : decode b_Te_joinedSize 40 = .ok (.iadd, 1) := by decide +kernel
theorem d_Te_joinedSize_41 : decode b_Te_joinedSize 41 = .ok (.istore 4, 2) := by decide +kernel
theorem d_Te_joinedSize_43 : decode b_Te_joinedSize 43 = .ok (.ldc 69, 2) := by decide +kernel
theorem d_Te_joinedSize_45 : decode b_Te_joinedSize 45 = .ok (.iconst 1, 1) := by decide +kernel
theorem d_Te_joinedSize_46 : decode b_Te_joinedSize 46 = .ok (.iload 4, 2) := by decide +kernel
theorem d_Te_joinedSize_48 : decode b_Te_joinedSize 48 = .ok (.iadd, 1) := by decide +kernel
theorem d_Te_joinedSize_49 : decode b_Te_joinedSize 49 = .ok (.invokestatic 33, 3) := by decide +kernel
theorem d_Te_joinedSize_52 : decode b_Te_joinedSize 52 = .ok (.ireturn, 1) := by decide +kernel
abbrev b_Te_append : ByteArray := prog_8_method_13_code
def y_Te_append : MethodName := ⟨R_Te, "append", "(III)I"⟩
theorem k_Te_append : kV y_Te_append b_Te_append 6 (some .int) 3 := ⟨gmem (List.mem_append_right _ (List.mem_of_getElem? (i := 433) (by decide +kernel))) (by decide +kernel), gmem (List.mem_append_right _ (List.mem_of_getElem? (i := 434) (by decide +kernel))) (by decide +kernel), in_Te, gmem (List.mem_append_right _ (List.mem_of_getElem? (i := 435) (by decide +kernel))) (by decide +kernel), by decide, by decide, by decide +kernel⟩
theorem d_Te_append_0 : decode b_Te_append 0 = .ok (.aload_n 0, 1) := by decide +kernel
theorem d_Te_append_1 : decode b_Te_append 1 = .ok (.getfield 45, 3) := by decide +kernel
theorem d_Te_append_4 : decode b_Te_append 4 = .ok (.sipush 448, 3) := by decide +kernel
theorem d_Te_append_7 : decode b_Te_append 7 = .ok (.if_icmp .lt 5, 3) := by decide +kernel
theorem d_Te_append_10 : decode b_Te_append 10 = .ok (.iconst (-1), 1) := by decide +kernel
theorem d_Te_append_11 : decode b_Te_append 11 = .ok (.ireturn, 1) := by decide +kernel
theorem d_Te_append_12 : decode b_Te_append 12 = .ok (.aload_n 0, 1) := by decide +kernel
theorem d_Te_append_13 : decode b_Te_append 13 = .ok (.dup, 1) := by decide +kernel
theorem d_Te_append_14 : decode b_Te_append 14 = .ok (.getfield 45, 3) := by decide +kernel
theorem d_Te_append_17 : decode b_Te_append 17 = .ok (.dup_x1, 1) := by decide +kernel
theorem d_Te_append_18 : decode b_Te_append 18 = .ok (.iconst 1, 1) := by decide +kernel
theorem d_Te_append_19 : decode b_Te_append 19 = .ok (.iadd, 1) := by decide +kernel
theorem d_Te_append_20 : decode b_Te_append 20 = .ok (.putfield 45, 3) := by decide +kernel
theorem d_Te_append_23 : decode b_Te_append 23 = .ok (.istore 4, 2) := by decide +kernel
theorem d_Te_append_25 : decode b_Te_append 25 = .ok (.aload_n 0, 1) := by decide +kernel
theorem d_Te_append_26 : decode b_Te_append 26 = .ok (.getfield 15, 3) := by decide +kernel
theorem d_Te_append_29 : decode b_Te_append 29 = .ok (.iload 4, 2) := by decide +kernel
theorem d_Te_append_31 : decode b_Te_append 31 = .ok (.iload_n 1, 1) := by decide +kernel
theorem d_Te_append_32 : decode b_Te_append 32 = .ok (.iastore, 1) := by decide +kernel
theorem d_Te_append_33 : decode b_Te_append 33 = .ok (.aload_n 0, 1) := by decide +kernel
theorem d_Te_append_34 : decode b_Te_append 34 = .ok (.getfield 18, 3) := by decide +kernel
theorem d_Te_append_37 : decode b_Te_append 37 = .ok (.iload 4, 2) := by decide +kernel
theorem d_Te_append_39 : decode b_Te_append 39 = .ok (.aload_n 0, 1) := by decide +kernel
theorem d_Te_append_40 : decode b_Te_append 40 = .ok (.getfield 9, 3) := by decide +kernel
theorem d_Te_append_43 : decode b_Te_append 43 = .ok (.iload_n 1, 1) := by decide +kernel
theorem d_Te_append_44 : decode b_Te_append 44 = .ok (.iaload, 1) := by decide +kernel
theorem d_Te_append_45 : decode b_Te_append 45 = .ok (.iconst 1, 1) := by decide +kernel
theorem d_Te_append_46 : decode b_Te_append 46 = .ok (.if_icmp .ge 7, 3) := by decide +kernel
theorem d_Te_append_49 : decode b_Te_append 49 = .ok (.iconst (-1), 1) := by decide +kernel
theorem d_Te_append_50 : decode b_Te_append 50 = .ok (.goto 4, 3) := by decide +kernel
theorem d_Te_append_53 : decode b_Te_append 53 = .ok (.iload_n 2, 1) := by decide +kernel
theorem d_Te_append_54 : decode b_Te_append 54 = .ok (.iastore, 1) := by decide +kernel
theorem d_Te_append_55 : decode b_Te_append 55 = .ok (.aload_n 0, 1) := by decide +kernel
theorem d_Te_append_56 : decode b_Te_append 56 = .ok (.getfield 21, 3) := by decide +kernel
theorem d_Te_append_59 : decode b_Te_append 59 = .ok (.iload 4, 2) := by decide +kernel
theorem d_Te_append_61 : decode b_Te_append 61 = .ok (.aload_n 0, 1) := by decide +kernel
theorem d_Te_append_62 : decode b_Te_append 62 = .ok (.getfield 9, 3) := by decide +kernel
theorem d_Te_append_65 : decode b_Te_append 65 = .ok (.iload_n 1, 1) := by decide +kernel
theorem d_Te_append_66 : decode b_Te_append 66 = .ok (.iaload, 1) := by decide +kernel
theorem d_Te_append_67 : decode b_Te_append 67 = .ok (.iconst 2, 1) := by decide +kernel
theorem d_Te_append_68 : decode b_Te_append 68 = .ok (.if_icmp .ge 7, 3) := by decide +kernel
theorem d_Te_append_71 : decode b_Te_append 71 = .ok (.iconst (-1), 1) := by decide +kernel
theorem d_Te_append_72 : decode b_Te_append 72 = .ok (.goto 4, 3) := by decide +kernel
theorem d_Te_append_75 : decode b_Te_append 75 = .ok (.iload_n 3, 1) := by decide +kernel
theorem d_Te_append_76 : decode b_Te_append 76 = .ok (.iastore, 1) := by decide +kernel
theorem d_Te_append_77 : decode b_Te_append 77 = .ok (.aload_n 0, 1) := by decide +kernel
theorem d_Te_append_78 : decode b_Te_append 78 = .ok (.getfield 24, 3) := by decide +kernel
theorem d_Te_append_81 : decode b_Te_append 81 = .ok (.iload 4, 2) := by decide +kernel
theorem d_Te_append_83 : decode b_Te_append 83 = .ok (.aload_n 0, 1) := by decide +kernel
theorem d_Te_append_84 : decode b_Te_append 84 = .ok (.iload_n 1, 1) := by decide +kernel
theorem d_Te_append_85 : decode b_Te_append 85 = .ok (.aload_n 0, 1) := by decide +kernel
theorem d_Te_append_86 : decode b_Te_append 86 = .ok (.getfield 18, 3) := by decide +kernel
theorem d_Te_append_89 : decode b_Te_append 89 = .ok (.iload 4, 2) := by decide +kernel
theorem d_Te_append_91 : decode b_Te_append 91 = .ok (.iaload, 1) := by decide +kernel
theorem d_Te_append_92 : decode b_Te_append 92 = .ok (.aload_n 0, 1) := by decide +kernel
theorem d_Te_append_93 : decode b_Te_append 93 = .ok (.getfield 21, 3) := by decide +kernel
theorem d_Te_append_96 : decode b_Te_append 96 = .ok (.iload 4, 2) := by decide +kernel
theorem d_Te_append_98 : decode b_Te_append 98 = .ok (.iaload, 1) := by decide +kernel
theorem d_Te_append_99 : decode b_Te_append 99 = .ok (.invokevirtual 66, 3) := by decide +kernel
theorem d_Te_append_102 : decode b_Te_append 102 = .ok (.iastore, 1) := by decide +kernel
theorem d_Te_append_103 : decode b_Te_append 103 = .ok (.iload_n 1, 1) := by decide +kernel
theorem d_Te_append_104 : decode b_Te_append 104 = .ok (.aload_n 0, 1) := by decide +kernel
theorem d_Te_append_105 : decode b_Te_append 105 = .ok (.getfield 18, 3) := by decide +kernel
theorem d_Te_append_108 : decode b_Te_append 108 = .ok (.iload 4, 2) := by decide +kernel
theorem d_Te_append_110 : decode b_Te_append 110 = .ok (.iaload, 1) := by decide +kernel
theorem d_Te_append_111 : decode b_Te_append 111 = .ok (.aload_n 0, 1) := by decide +kernel
theorem d_Te_append_112 : decode b_Te_append 112 = .ok (.getfield 21, 3) := by decide +kernel
theorem d_Te_append_115 : decode b_Te_append 115 = .ok (.iload 4, 2) := by decide +kernel
theorem d_Te_append_117 : decode b_Te_append 117 = .ok (.iaload, 1) := by decide +kernel
theorem d_Te_append_118 : decode b_Te_append 118 = .ok (.invokestatic 63, 3) := by decide +kernel
theorem d_Te_append_121 : decode b_Te_append 121 = .ok (.istore 5, 2) := by decide +kernel
theorem d_Te_append_123 : decode b_Te_append 123 = .ok (.aload_n 0, 1) := by decide +kernel
theorem d_Te_append_124 : decode b_Te_append 124 = .ok (.getfield 30, 3) := by decide +kernel
theorem d_Te_append_127 : decode b_Te_append 127 = .ok (.iload 4, 2) := by decide +kernel
theorem d_Te_append_129 : decode b_Te_append 129 = .ok (.aload_n 0, 1) := by decide +kernel
theorem d_Te_append_130 : decode b_Te_append 130 = .ok (.getfield 27, 3) := by decide +kernel
theorem d_Te_append_133 : decode b_Te_append 133 = .ok (.iload 5, 2) := by decide +kernel
theorem d_Te_append_135 : decode b_Te_append 135 = .ok (.iaload, 1) := by decide +kernel
theorem d_Te_append_136 : decode b_Te_append 136 = .ok (.iastore, 1) := by decide +kernel
theorem d_Te_append_137 : decode b_Te_append 137 = .ok (.aload_n 0, 1) := by decide +kernel
theorem d_Te_append_138 : decode b_Te_append 138 = .ok (.getfield 27, 3) := by decide +kernel
theorem d_Te_append_141 : decode b_Te_append 141 = .ok (.iload 5, 2) := by decide +kernel
theorem d_Te_append_143 : decode b_Te_append 143 = .ok (.iload 4, 2) := by decide +kernel
theorem d_Te_append_145 : decode b_Te_append 145 = .ok (.iastore, 1) := by decide +kernel
theorem d_Te_append_146 : decode b_Te_append 146 = .ok (.iload 4, 2) := by decide +kernel
theorem d_Te_append_148 : decode b_Te_append 148 = .ok (.ireturn, 1) := by decide +kernel
abbrev b_Te_findOrAppend : ByteArray := prog_8_method_11_code
def y_Te_findOrAppend : MethodName := ⟨R_Te, "findOrAppend", "(III)I"⟩
theorem k_Te_findOrAppend : kV y_Te_findOrAppend b_Te_findOrAppend 5 (some .int) 3 := ⟨gmem (List.mem_append_right _ (List.mem_of_getElem? (i := 422) (by decide +kernel))) (by decide +kernel), gmem (List.mem_append_right _ (List.mem_of_getElem? (i := 423) (by decide +kernel))) (by decide +kernel), in_Te, gmem (List.mem_append_right _ (List.mem_of_getElem? (i := 424) (by decide +kernel))) (by decide +kernel), by decide, by decide, by decide +kernel⟩
theorem d_Te_findOrAppend_0 : decode b_Te_findOrAppend 0 = .ok (.aload_n 0, 1) := by decide +kernel
theorem d_Te_findOrAppend_1 : decode b_Te_findOrAppend 1 = .ok (.iload_n 1, 1) := by decide +kernel
theorem d_Te_findOrAppend_2 : decode b_Te_findOrAppend 2 = .ok (.iload_n 2, 1) := by decide +kernel
theorem d_Te_findOrAppend_3 : decode b_Te_findOrAppend 3 = .ok (.iload_n 3, 1) := by decide +kernel
theorem d_Te_findOrAppend_4 : decode b_Te_findOrAppend 4 = .ok (.invokevirtual 56, 3) := by decide +kernel
theorem d_Te_findOrAppend_7 : decode b_Te_findOrAppend 7 = .ok (.istore 4, 2) := by decide +kernel
theorem d_Te_findOrAppend_9 : decode b_Te_findOrAppend 9 = .ok (.iload 4, 2) := by decide +kernel
theorem d_Te_findOrAppend_11 : decode b_Te_findOrAppend 11 = .ok (.iconst (-1), 1) := by decide +kernel
theorem d_Te_findOrAppend_12 : decode b_Te_findOrAppend 12 = .ok (.if_icmp .ne 12, 3) := by decide +kernel
theorem d_Te_findOrAppend_15 : decode b_Te_findOrAppend 15 = .ok (.aload_n 0, 1) := by decide +kernel
theorem d_Te_findOrAppend_16 : decode b_Te_findOrAppend 16 = .ok (.getfield 45, 3) := by decide +kernel
theorem d_Te_findOrAppend_19 : decode b_Te_findOrAppend 19 = .ok (.bipush 48, 2) := by decide +kernel
theorem d_Te_findOrAppend_21 : decode b_Te_findOrAppend 21 = .ok (.if_icmp .lt 8, 3) := by decide +kernel
theorem d_Te_findOrAppend_24 : decode b_Te_findOrAppend 24 = .ok (.iload 4, 2) := by decide +kernel
theorem d_Te_findOrAppend_26 : decode b_Te_findOrAppend 26 = .ok (.goto 10, 3) := by decide +kernel
theorem d_Te_findOrAppend_29 : decode b_Te_findOrAppend 29 = .ok (.aload_n 0, 1) := by decide +kernel
theorem d_Te_findOrAppend_30 : decode b_Te_findOrAppend 30 = .ok (.iload_n 1, 1) := by decide +kernel
theorem d_Te_findOrAppend_31 : decode b_Te_findOrAppend 31 = .ok (.iload_n 2, 1) := by decide +kernel
theorem d_Te_findOrAppend_32 : decode b_Te_findOrAppend 32 = .ok (.iload_n 3, 1) := by decide +kernel
theorem d_Te_findOrAppend_33 : decode b_Te_findOrAppend 33 = .ok (.invokevirtual 60, 3) := by decide +kernel
theorem d_Te_findOrAppend_36 : decode b_Te_findOrAppend 36 = .ok (.ireturn, 1) := by decide +kernel
abbrev b_Te_keepFirst : ByteArray := prog_8_method_14_code
def y_Te_keepFirst : MethodName := ⟨R_Te, "keepFirst", "(I)V"⟩
theorem k_Te_keepFirst : kV y_Te_keepFirst b_Te_keepFirst 2 none 1 := ⟨gmem (List.mem_append_right _ (List.mem_of_getElem? (i := 700) (by decide +kernel))) (by decide +kernel), gmem (List.mem_append_right _ (List.mem_of_getElem? (i := 701) (by decide +kernel))) (by decide +kernel), in_Te, gmem (List.mem_append_right _ (List.mem_of_getElem? (i := 702) (by decide +kernel))) (by decide +kernel), by decide, by decide, by decide +kernel⟩
theorem d_Te_keepFirst_0 : decode b_Te_keepFirst 0 = .ok (.aload_n 0, 1) := by decide +kernel
theorem d_Te_keepFirst_1 : decode b_Te_keepFirst 1 = .ok (.getfield 45, 3) := by decide +kernel
theorem d_Te_keepFirst_4 : decode b_Te_keepFirst 4 = .ok (.iload_n 1, 1) := by decide +kernel
theorem d_Te_keepFirst_5 : decode b_Te_keepFirst 5 = .ok (.if_icmp .le 60, 3) := by decide +kernel
theorem d_Te_keepFirst_8 : decode b_Te_keepFirst 8 = .ok (.aload_n 0, 1) := by decide +kernel
theorem d_Te_keepFirst_9 : decode b_Te_keepFirst 9 = .ok (.dup, 1) := by decide +kernel
theorem d_Te_keepFirst_10 : decode b_Te_keepFirst 10 = .ok (.getfield 45, 3) := by decide +kernel
theorem d_Te_keepFirst_13 : decode b_Te_keepFirst 13 = .ok (.iconst 1, 1) := by decide +kernel
theorem d_Te_keepFirst_14 : decode b_Te_keepFirst 14 = .ok (.isub, 1) := by decide +kernel
theorem d_Te_keepFirst_15 : decode b_Te_keepFirst 15 = .ok (.putfield 45, 3) := by decide +kernel
theorem d_Te_keepFirst_18 : decode b_Te_keepFirst 18 = .ok (.aload_n 0, 1) := by decide +kernel
theorem d_Te_keepFirst_19 : decode b_Te_keepFirst 19 = .ok (.getfield 27, 3) := by decide +kernel
theorem d_Te_keepFirst_22 : decode b_Te_keepFirst 22 = .ok (.aload_n 0, 1) := by decide +kernel
theorem d_Te_keepFirst_23 : decode b_Te_keepFirst 23 = .ok (.getfield 15, 3) := by decide +kernel
theorem d_Te_keepFirst_26 : decode b_Te_keepFirst 26 = .ok (.aload_n 0, 1) := by decide +kernel
theorem d_Te_keepFirst_27 : decode b_Te_keepFirst 27 = .ok (.getfield 45, 3) := by decide +kernel
theorem d_Te_keepFirst_30 : decode b_Te_keepFirst 30 = .ok (.iaload, 1) := by decide +kernel
theorem d_Te_keepFirst_31 : decode b_Te_keepFirst 31 = .ok (.aload_n 0, 1) := by decide +kernel
theorem d_Te_keepFirst_32 : decode b_Te_keepFirst 32 = .ok (.getfield 18, 3) := by decide +kernel
theorem d_Te_keepFirst_35 : decode b_Te_keepFirst 35 = .ok (.aload_n 0, 1) := by decide +kernel
theorem d_Te_keepFirst_36 : decode b_Te_keepFirst 36 = .ok (.getfield 45, 3) := by decide +kernel
theorem d_Te_keepFirst_39 : decode b_Te_keepFirst 39 = .ok (.iaload, 1) := by decide +kernel
theorem d_Te_keepFirst_40 : decode b_Te_keepFirst 40 = .ok (.aload_n 0, 1) := by decide +kernel
theorem d_Te_keepFirst_41 : decode b_Te_keepFirst 41 = .ok (.getfield 21, 3) := by decide +kernel
theorem d_Te_keepFirst_44 : decode b_Te_keepFirst 44 = .ok (.aload_n 0, 1) := by decide +kernel
theorem d_Te_keepFirst_45 : decode b_Te_keepFirst 45 = .ok (.getfield 45, 3) := by decide +kernel
theorem d_Te_keepFirst_48 : decode b_Te_keepFirst 48 = .ok (.iaload, 1) := by decide +kernel
theorem d_Te_keepFirst_49 : decode b_Te_keepFirst 49 = .ok (.invokestatic 63, 3) := by decide +kernel
theorem d_Te_keepFirst_52 : decode b_Te_keepFirst 52 = .ok (.aload_n 0, 1) := by decide +kernel
theorem d_Te_keepFirst_53 : decode b_Te_keepFirst 53 = .ok (.getfield 30, 3) := by decide +kernel
theorem d_Te_keepFirst_56 : decode b_Te_keepFirst 56 = .ok (.aload_n 0, 1) := by decide +kernel
theorem d_Te_keepFirst_57 : decode b_Te_keepFirst 57 = .ok (.getfield 45, 3) := by decide +kernel
theorem d_Te_keepFirst_60 : decode b_Te_keepFirst 60 = .ok (.iaload, 1) := by decide +kernel
theorem d_Te_keepFirst_61 : decode b_Te_keepFirst 61 = .ok (.iastore, 1) := by decide +kernel
theorem d_Te_keepFirst_62 : decode b_Te_keepFirst 62 = .ok (.goto (-62), 3) := by decide +kernel
theorem d_Te_keepFirst_65 : decode b_Te_keepFirst 65 = .ok (.return_, 1) := by decide +kernel
abbrev b_Ru_changes : ByteArray := prog_6_method_3_code
def y_Ru_changes : MethodName := ⟨R_Ru, "changes", "()I"⟩
theorem k_Ru_changes : kV y_Ru_changes b_Ru_changes 1 (some .int) 0 := ⟨gmem (List.mem_append_right _ (List.mem_of_getElem? (i := 502) (by decide +kernel))) (by decide +kernel), gmem (List.mem_append_right _ (List.mem_of_getElem? (i := 503) (by decide +kernel))) (by decide +kernel), in_Ru, gmem (List.mem_append_right _ (List.mem_of_getElem? (i := 504) (by decide +kernel))) (by decide +kernel), by decide, by decide, by decide +kernel⟩
theorem d_Ru_changes_0 : decode b_Ru_changes 0 = .ok (.aload_n 0, 1) := by decide +kernel
theorem d_Ru_changes_1 : decode b_Ru_changes 1 = .ok (.getfield 22, 3) := by decide +kernel
theorem d_Ru_changes_4 : decode b_Ru_changes 4 = .ok (.ireturn, 1) := by decide +kernel
abbrev b_Ru_leftOf : ByteArray := prog_6_method_4_code
def y_Ru_leftOf : MethodName := ⟨R_Ru, "leftOf", "(I)I"⟩
theorem k_Ru_leftOf : kV y_Ru_leftOf b_Ru_leftOf 2 (some .int) 1 := ⟨gmem (List.mem_append_right _ (List.mem_of_getElem? (i := 511) (by decide +kernel))) (by decide +kernel), gmem (List.mem_append_right _ (List.mem_of_getElem? (i := 512) (by decide +kernel))) (by decide +kernel), in_Ru, gmem (List.mem_append_right _ (List.mem_of_getElem? (i := 513) (by decide +kernel))) (by decide +kernel), by decide, by decide, by decide +kernel⟩
theorem d_Ru_leftOf_0 : decode b_Ru_leftOf 0 = .ok (.aload_n 0, 1) := by decide +kernel
theorem d_Ru_leftOf_1 : decode b_Ru_leftOf 1 = .ok (.getfield 9, 3) := by decide +kernel
theorem d_Ru_leftOf_4 : decode b_Ru_leftOf 4 = .ok (.iload_n 1, 1) := by decide +kernel
theorem d_Ru_leftOf_5 : decode b_Ru_leftOf 5 = .ok (.iaload, 1) := by decide +kernel
theorem d_Ru_leftOf_6 : decode b_Ru_leftOf 6 = .ok (.ireturn, 1) := by decide +kernel
abbrev b_Ru_rightOf : ByteArray := prog_6_method_5_code
def y_Ru_rightOf : MethodName := ⟨R_Ru, "rightOf", "(I)I"⟩
theorem k_Ru_rightOf : kV y_Ru_rightOf b_Ru_rightOf 2 (some .int) 1 := ⟨gmem (List.mem_append_right _ (List.mem_of_getElem? (i := 515) (by decide +kernel))) (by decide +kernel), gmem (List.mem_append_right _ (List.mem_of_getElem? (i := 516) (by decide +kernel))) (by decide +kernel), in_Ru, gmem (List.mem_append_right _ (List.mem_of_getElem? (i := 517) (by decide +kernel))) (by decide +kernel), by decide, by decide, by decide +kernel⟩
theorem d_Ru_rightOf_0 : decode b_Ru_rightOf 0 = .ok (.aload_n 0, 1) := by decide +kernel
theorem d_Ru_rightOf_1 : decode b_Ru_rightOf 1 = .ok (.getfield 15, 3) := by decide +kernel
theorem d_Ru_rightOf_4 : decode b_Ru_rightOf 4 = .ok (.iload_n 1, 1) := by decide +kernel
theorem d_Ru_rightOf_5 : decode b_Ru_rightOf 5 = .ok (.iaload, 1) := by decide +kernel
theorem d_Ru_rightOf_6 : decode b_Ru_rightOf 6 = .ok (.ireturn, 1) := by decide +kernel
abbrev b_Ru_append : ByteArray := prog_6_method_6_code
def y_Ru_append : MethodName := ⟨R_Ru, "append", "(II)I"⟩
theorem k_Ru_append : kV y_Ru_append b_Ru_append 3 (some .int) 2 := ⟨gmem (List.mem_append_right _ (List.mem_of_getElem? (i := 464) (by decide +kernel))) (by decide +kernel), gmem (List.mem_append_right _ (List.mem_of_getElem? (i := 465) (by decide +kernel))) (by decide +kernel), in_Ru, gmem (List.mem_append_right _ (List.mem_of_getElem? (i := 466) (by decide +kernel))) (by decide +kernel), by decide, by decide, by decide +kernel⟩
theorem d_Ru_append_0 : decode b_Ru_append 0 = .ok (.aload_n 0, 1) := by decide +kernel
theorem d_Ru_append_1 : decode b_Ru_append 1 = .ok (.getfield 18, 3) := by decide +kernel
theorem d_Ru_append_4 : decode b_Ru_append 4 = .ok (.bipush 8, 2) := by decide +kernel
theorem d_Ru_append_6 : decode b_Ru_append 6 = .ok (.if_icmp .lt 5, 3) := by decide +kernel
theorem d_Ru_append_9 : decode b_Ru_append 9 = .ok (.iconst (-1), 1) := by decide +kernel
theorem d_Ru_append_10 : decode b_Ru_append 10 = .ok (.ireturn, 1) := by decide +kernel
theorem d_Ru_append_11 : decode b_Ru_append 11 = .ok (.aload_n 0, 1) := by decide +kernel
theorem d_Ru_append_12 : decode b_Ru_append 12 = .ok (.getfield 9, 3) := by decide +kernel
theorem d_Ru_append_15 : decode b_Ru_append 15 = .ok (.aload_n 0, 1) := by decide +kernel
theorem d_Ru_append_16 : decode b_Ru_append 16 = .ok (.getfield 18, 3) := by decide +kernel
theorem d_Ru_append_19 : decode b_Ru_append 19 = .ok (.iload_n 1, 1) := by decide +kernel
theorem d_Ru_append_20 : decode b_Ru_append 20 = .ok (.iastore, 1) := by decide +kernel
theorem d_Ru_append_21 : decode b_Ru_append 21 = .ok (.aload_n 0, 1) := by decide +kernel
theorem d_Ru_append_22 : decode b_Ru_append 22 = .ok (.getfield 15, 3) := by decide +kernel
theorem d_Ru_append_25 : decode b_Ru_append 25 = .ok (.aload_n 0, 1) := by decide +kernel
theorem d_Ru_append_26 : decode b_Ru_append 26 = .ok (.getfield 18, 3) := by decide +kernel
theorem d_Ru_append_29 : decode b_Ru_append 29 = .ok (.iload_n 2, 1) := by decide +kernel
theorem d_Ru_append_30 : decode b_Ru_append 30 = .ok (.iastore, 1) := by decide +kernel
theorem d_Ru_append_31 : decode b_Ru_append 31 = .ok (.aload_n 0, 1) := by decide +kernel
theorem d_Ru_append_32 : decode b_Ru_append 32 = .ok (.dup, 1) := by decide +kernel
theorem d_Ru_append_33 : decode b_Ru_append 33 = .ok (.getfield 22, 3) := by decide +kernel
theorem d_Ru_append_36 : decode b_Ru_append 36 = .ok (.iconst 1, 1) := by decide +kernel
theorem d_Ru_append_37 : decode b_Ru_append 37 = .ok (.iadd, 1) := by decide +kernel
theorem d_Ru_append_38 : decode b_Ru_append 38 = .ok (.putfield 22, 3) := by decide +kernel
theorem d_Ru_append_41 : decode b_Ru_append 41 = .ok (.aload_n 0, 1) := by decide +kernel
theorem d_Ru_append_42 : decode b_Ru_append 42 = .ok (.dup, 1) := by decide +kernel
theorem d_Ru_append_43 : decode b_Ru_append 43 = .ok (.getfield 18, 3) := by decide +kernel
theorem d_Ru_append_46 : decode b_Ru_append 46 = .ok (.dup_x1, 1) := by decide +kernel
theorem d_Ru_append_47 : decode b_Ru_append 47 = .ok (.iconst 1, 1) := by decide +kernel
theorem d_Ru_append_48 : decode b_Ru_append 48 = .ok (.iadd, 1) := by decide +kernel
theorem d_Ru_append_49 : decode b_Ru_append 49 = .ok (.putfield 18, 3) := by decide +kernel
theorem d_Ru_append_52 : decode b_Ru_append 52 = .ok (.ireturn, 1) := by decide +kernel
abbrev b_Ru_rightAt : ByteArray := prog_6_method_9_code
def y_Ru_rightAt : MethodName := ⟨R_Ru, "rightAt", "(II)I"⟩
theorem k_Ru_rightAt : kV y_Ru_rightAt b_Ru_rightAt 5 (some .int) 2 := ⟨gmem (List.mem_append_right _ (List.mem_of_getElem? (i := 690) (by decide +kernel))) (by decide +kernel), gmem (List.mem_append_right _ (List.mem_of_getElem? (i := 691) (by decide +kernel))) (by decide +kernel), in_Ru, gmem (List.mem_append_right _ (List.mem_of_getElem? (i := 692) (by decide +kernel))) (by decide +kernel), by decide, by decide, by decide +kernel⟩
theorem d_Ru_rightAt_0 : decode b_Ru_rightAt 0 = .ok (.iconst 0, 1) := by decide +kernel
theorem d_Ru_rightAt_1 : decode b_Ru_rightAt 1 = .ok (.istore_n 3, 1) := by decide +kernel
theorem d_Ru_rightAt_2 : decode b_Ru_rightAt 2 = .ok (.iconst 0, 1) := by decide +kernel
theorem d_Ru_rightAt_3 : decode b_Ru_rightAt 3 = .ok (.istore 4, 2) := by decide +kernel
theorem d_Ru_rightAt_5 : decode b_Ru_rightAt 5 = .ok (.iload 4, 2) := by decide +kernel
theorem d_Ru_rightAt_7 : decode b_Ru_rightAt 7 = .ok (.aload_n 0, 1) := by decide +kernel
theorem d_Ru_rightAt_8 : decode b_Ru_rightAt 8 = .ok (.getfield 18, 3) := by decide +kernel
theorem d_Ru_rightAt_11 : decode b_Ru_rightAt 11 = .ok (.if_icmp .ge 39, 3) := by decide +kernel
theorem d_Ru_rightAt_14 : decode b_Ru_rightAt 14 = .ok (.aload_n 0, 1) := by decide +kernel
theorem d_Ru_rightAt_15 : decode b_Ru_rightAt 15 = .ok (.getfield 9, 3) := by decide +kernel
theorem d_Ru_rightAt_18 : decode b_Ru_rightAt 18 = .ok (.iload 4, 2) := by decide +kernel
theorem d_Ru_rightAt_20 : decode b_Ru_rightAt 20 = .ok (.iaload, 1) := by decide +kernel
theorem d_Ru_rightAt_21 : decode b_Ru_rightAt 21 = .ok (.iload_n 1, 1) := by decide +kernel
theorem d_Ru_rightAt_22 : decode b_Ru_rightAt 22 = .ok (.if_icmp .eq 6, 3) := by decide +kernel
theorem d_Ru_rightAt_25 : decode b_Ru_rightAt 25 = .ok (.goto 19, 3) := by decide +kernel
theorem d_Ru_rightAt_28 : decode b_Ru_rightAt 28 = .ok (.iload_n 3, 1) := by decide +kernel
theorem d_Ru_rightAt_29 : decode b_Ru_rightAt 29 = .ok (.iload_n 2, 1) := by decide +kernel
theorem d_Ru_rightAt_30 : decode b_Ru_rightAt 30 = .ok (.if_icmp .ne 11, 3) := by decide +kernel
theorem d_Ru_rightAt_33 : decode b_Ru_rightAt 33 = .ok (.aload_n 0, 1) := by decide +kernel
theorem d_Ru_rightAt_34 : decode b_Ru_rightAt 34 = .ok (.getfield 15, 3) := by decide +kernel
theorem d_Ru_rightAt_37 : decode b_Ru_rightAt 37 = .ok (.iload 4, 2) := by decide +kernel
theorem d_Ru_rightAt_39 : decode b_Ru_rightAt 39 = .ok (.iaload, 1) := by decide +kernel
theorem d_Ru_rightAt_40 : decode b_Ru_rightAt 40 = .ok (.ireturn, 1) := by decide +kernel
theorem d_Ru_rightAt_41 : decode b_Ru_rightAt 41 = .ok (.iinc 3 1, 3) := by decide +kernel
theorem d_Ru_rightAt_44 : decode b_Ru_rightAt 44 = .ok (.iinc 4 1, 3) := by decide +kernel
theorem d_Ru_rightAt_47 : decode b_Ru_rightAt 47 = .ok (.goto (-42), 3) := by decide +kernel
theorem d_Ru_rightAt_50 : decode b_Ru_rightAt 50 = .ok (.iconst (-1), 1) := by decide +kernel
theorem d_Ru_rightAt_51 : decode b_Ru_rightAt 51 = .ok (.ireturn, 1) := by decide +kernel
abbrev b_Au_anyFinal : ByteArray := prog_2_method_4_code
def y_Au_anyFinal : MethodName := ⟨R_Au, "anyFinal", "(I)Z"⟩
theorem k_Au_anyFinal : kV y_Au_anyFinal b_Au_anyFinal 2 (some .boolean) 1 := ⟨gmem (List.mem_append_right _ (List.mem_of_getElem? (i := 590) (by decide +kernel))) (by decide +kernel), gmem (List.mem_append_right _ (List.mem_of_getElem? (i := 591) (by decide +kernel))) (by decide +kernel), in_Au, gmem (List.mem_append_right _ (List.mem_of_getElem? (i := 592) (by decide +kernel))) (by decide +kernel), by decide, by decide, by decide +kernel⟩
theorem d_Au_anyFinal_0 : decode b_Au_anyFinal 0 = .ok (.iload_n 1, 1) := by decide +kernel
theorem d_Au_anyFinal_1 : decode b_Au_anyFinal 1 = .ok (.aload_n 0, 1) := by decide +kernel
theorem d_Au_anyFinal_2 : decode b_Au_anyFinal 2 = .ok (.getfield 35, 3) := by decide +kernel
theorem d_Au_anyFinal_5 : decode b_Au_anyFinal 5 = .ok (.iand, 1) := by decide +kernel
theorem d_Au_anyFinal_6 : decode b_Au_anyFinal 6 = .ok (.ifCond .eq 7, 3) := by decide +kernel
theorem d_Au_anyFinal_9 : decode b_Au_anyFinal 9 = .ok (.iconst 1, 1) := by decide +kernel
theorem d_Au_anyFinal_10 : decode b_Au_anyFinal 10 = .ok (.goto 4, 3) := by decide +kernel
theorem d_Au_anyFinal_13 : decode b_Au_anyFinal 13 = .ok (.iconst 0, 1) := by decide +kernel
theorem d_Au_anyFinal_14 : decode b_Au_anyFinal 14 = .ok (.ireturn, 1) := by decide +kernel
abbrev b_Au_canStand : ByteArray := prog_2_method_6_code
def y_Au_canStand : MethodName := ⟨R_Au, "canStand", "(IIII)Z"⟩
theorem k_Au_canStand : kV y_Au_canStand b_Au_canStand 5 (some .boolean) 4 := ⟨gmem (List.mem_append_right _ (List.mem_of_getElem? (i := 475) (by decide +kernel))) (by decide +kernel), gmem (List.mem_append_right _ (List.mem_of_getElem? (i := 476) (by decide +kernel))) (by decide +kernel), in_Au, gmem (List.mem_append_right _ (List.mem_of_getElem? (i := 477) (by decide +kernel))) (by decide +kernel), by decide, by decide, by decide +kernel⟩
theorem d_Au_canStand_0 : decode b_Au_canStand 0 = .ok (.aload_n 0, 1) := by decide +kernel
theorem d_Au_canStand_1 : decode b_Au_canStand 1 = .ok (.getfield 27, 3) := by decide +kernel
theorem d_Au_canStand_4 : decode b_Au_canStand 4 = .ok (.iload_n 1, 1) := by decide +kernel
theorem d_Au_canStand_5 : decode b_Au_canStand 5 = .ok (.invokevirtual 38, 3) := by decide +kernel
theorem d_Au_canStand_8 : decode b_Au_canStand 8 = .ok (.ifCond .eq 53, 3) := by decide +kernel
theorem d_Au_canStand_11 : decode b_Au_canStand 11 = .ok (.iload 4, 2) := by decide +kernel
theorem d_Au_canStand_13 : decode b_Au_canStand 13 = .ok (.invokestatic 44, 3) := by decide +kernel
theorem d_Au_canStand_16 : decode b_Au_canStand 16 = .ok (.ifCond .eq 45, 3) := by decide +kernel
theorem d_Au_canStand_19 : decode b_Au_canStand 19 = .ok (.aload_n 0, 1) := by decide +kernel
theorem d_Au_canStand_20 : decode b_Au_canStand 20 = .ok (.getfield 27, 3) := by decide +kernel
theorem d_Au_canStand_23 : decode b_Au_canStand 23 = .ok (.iload_n 1, 1) := by decide +kernel
theorem d_Au_canStand_24 : decode b_Au_canStand 24 = .ok (.invokevirtual 47, 3) := by decide +kernel
theorem d_Au_canStand_27 : decode b_Au_canStand 27 = .ok (.iconst 1, 1) := by decide +kernel
theorem d_Au_canStand_28 : decode b_Au_canStand 28 = .ok (.if_icmp .lt 10, 3) := by decide +kernel
theorem d_Au_canStand_31 : decode b_Au_canStand 31 = .ok (.iload_n 2, 1) := by decide +kernel
theorem d_Au_canStand_32 : decode b_Au_canStand 32 = .ok (.invokestatic 44, 3) := by decide +kernel
theorem d_Au_canStand_35 : decode b_Au_canStand 35 = .ok (.ifCond .eq 26, 3) := by decide +kernel
theorem d_Au_canStand_38 : decode b_Au_canStand 38 = .ok (.aload_n 0, 1) := by decide +kernel
theorem d_Au_canStand_39 : decode b_Au_canStand 39 = .ok (.getfield 27, 3) := by decide +kernel
theorem d_Au_canStand_42 : decode b_Au_canStand 42 = .ok (.iload_n 1, 1) := by decide +kernel
theorem d_Au_canStand_43 : decode b_Au_canStand 43 = .ok (.invokevirtual 47, 3) := by decide +kernel
theorem d_Au_canStand_46 : decode b_Au_canStand 46 = .ok (.iconst 2, 1) := by decide +kernel
theorem d_Au_canStand_47 : decode b_Au_canStand 47 = .ok (.if_icmp .lt 10, 3) := by decide +kernel
theorem d_Au_canStand_50 : decode b_Au_canStand 50 = .ok (.iload_n 3, 1) := by decide +kernel
theorem d_Au_canStand_51 : decode b_Au_canStand 51 = .ok (.invokestatic 44, 3) := by decide +kernel
theorem d_Au_canStand_54 : decode b_Au_canStand 54 = .ok (.ifCond .eq 7, 3) := by decide +kernel
theorem d_Au_canStand_57 : decode b_Au_canStand 57 = .ok (.iconst 1, 1) := by decide +kernel
theorem d_Au_canStand_58 : decode b_Au_canStand 58 = .ok (.goto 4, 3) := by decide +kernel
theorem d_Au_canStand_61 : decode b_Au_canStand 61 = .ok (.iconst 0, 1) := by decide +kernel
theorem d_Au_canStand_62 : decode b_Au_canStand 62 = .ok (.ireturn, 1) := by decide +kernel
abbrev b_Au_holds : ByteArray := prog_2_method_7_code
def y_Au_holds : MethodName := ⟨R_Au, "holds", "(IIII)Z"⟩
theorem k_Au_holds : kV y_Au_holds b_Au_holds 6 (some .boolean) 4 := ⟨gmem (List.mem_append_right _ (List.mem_of_getElem? (i := 482) (by decide +kernel))) (by decide +kernel), gmem (List.mem_append_right _ (List.mem_of_getElem? (i := 483) (by decide +kernel))) (by decide +kernel), in_Au, gmem (List.mem_append_right _ (List.mem_of_getElem? (i := 484) (by decide +kernel))) (by decide +kernel), by decide, by decide, by decide +kernel⟩
theorem d_Au_holds_0 : decode b_Au_holds 0 = .ok (.iconst 0, 1) := by decide +kernel
theorem d_Au_holds_1 : decode b_Au_holds 1 = .ok (.istore 5, 2) := by decide +kernel
theorem d_Au_holds_3 : decode b_Au_holds 3 = .ok (.iload 5, 2) := by decide +kernel
theorem d_Au_holds_5 : decode b_Au_holds 5 = .ok (.aload_n 0, 1) := by decide +kernel
theorem d_Au_holds_6 : decode b_Au_holds 6 = .ok (.getfield 31, 3) := by decide +kernel
theorem d_Au_holds_9 : decode b_Au_holds 9 = .ok (.if_icmp .ge 80, 3) := by decide +kernel
theorem d_Au_holds_12 : decode b_Au_holds 12 = .ok (.aload_n 0, 1) := by decide +kernel
theorem d_Au_holds_13 : decode b_Au_holds 13 = .ok (.getfield 9, 3) := by decide +kernel
theorem d_Au_holds_16 : decode b_Au_holds 16 = .ok (.iload 5, 2) := by decide +kernel
theorem d_Au_holds_18 : decode b_Au_holds 18 = .ok (.iaload, 1) := by decide +kernel
theorem d_Au_holds_19 : decode b_Au_holds 19 = .ok (.iload_n 1, 1) := by decide +kernel
theorem d_Au_holds_20 : decode b_Au_holds 20 = .ok (.if_icmp .ne 63, 3) := by decide +kernel
theorem d_Au_holds_23 : decode b_Au_holds 23 = .ok (.aload_n 0, 1) := by decide +kernel
theorem d_Au_holds_24 : decode b_Au_holds 24 = .ok (.getfield 21, 3) := by decide +kernel
theorem d_Au_holds_27 : decode b_Au_holds 27 = .ok (.iload 5, 2) := by decide +kernel
theorem d_Au_holds_29 : decode b_Au_holds 29 = .ok (.iaload, 1) := by decide +kernel
theorem d_Au_holds_30 : decode b_Au_holds 30 = .ok (.iload 4, 2) := by decide +kernel
theorem d_Au_holds_32 : decode b_Au_holds 32 = .ok (.if_icmp .ne 51, 3) := by decide +kernel
theorem d_Au_holds_35 : decode b_Au_holds 35 = .ok (.aload_n 0, 1) := by decide +kernel
theorem d_Au_holds_36 : decode b_Au_holds 36 = .ok (.getfield 27, 3) := by decide +kernel
theorem d_Au_holds_39 : decode b_Au_holds 39 = .ok (.iload_n 1, 1) := by decide +kernel
theorem d_Au_holds_40 : decode b_Au_holds 40 = .ok (.invokevirtual 47, 3) := by decide +kernel
theorem d_Au_holds_43 : decode b_Au_holds 43 = .ok (.iconst 1, 1) := by decide +kernel
theorem d_Au_holds_44 : decode b_Au_holds 44 = .ok (.if_icmp .lt 14, 3) := by decide +kernel
theorem d_Au_holds_47 : decode b_Au_holds 47 = .ok (.aload_n 0, 1) := by decide +kernel
theorem d_Au_holds_48 : decode b_Au_holds 48 = .ok (.getfield 15, 3) := by decide +kernel
theorem d_Au_holds_51 : decode b_Au_holds 51 = .ok (.iload 5, 2) := by decide +kernel
theorem d_Au_holds_53 : decode b_Au_holds 53 = .ok (.iaload, 1) := by decide +kernel
theorem d_Au_holds_54 : decode b_Au_holds 54 = .ok (.iload_n 2, 1) := by decide +kernel
theorem d_Au_holds_55 : decode b_Au_holds 55 = .ok (.if_icmp .ne 28, 3) := by decide +kernel
theorem d_Au_holds_58 : decode b_Au_holds 58 = .ok (.aload_n 0, 1) := by decide +kernel
theorem d_Au_holds_59 : decode b_Au_holds 59 = .ok (.getfield 27, 3) := by decide +kernel
theorem d_Au_holds_62 : decode b_Au_holds 62 = .ok (.iload_n 1, 1) := by decide +kernel
theorem d_Au_holds_63 : decode b_Au_holds 63 = .ok (.invokevirtual 47, 3) := by decide +kernel
theorem d_Au_holds_66 : decode b_Au_holds 66 = .ok (.iconst 2, 1) := by decide +kernel
theorem d_Au_holds_67 : decode b_Au_holds 67 = .ok (.if_icmp .lt 14, 3) := by decide +kernel
theorem d_Au_holds_70 : decode b_Au_holds 70 = .ok (.aload_n 0, 1) := by decide +kernel
theorem d_Au_holds_71 : decode b_Au_holds 71 = .ok (.getfield 18, 3) := by decide +kernel
theorem d_Au_holds_74 : decode b_Au_holds 74 = .ok (.iload 5, 2) := by decide +kernel
theorem d_Au_holds_76 : decode b_Au_holds 76 = .ok (.iaload, 1) := by decide +kernel
theorem d_Au_holds_77 : decode b_Au_holds 77 = .ok (.iload_n 3, 1) := by decide +kernel
theorem d_Au_holds_78 : decode b_Au_holds 78 = .ok (.if_icmp .ne 5, 3) := by decide +kernel
theorem d_Au_holds_81 : decode b_Au_holds 81 = .ok (.iconst 1, 1) := by decide +kernel
theorem d_Au_holds_82 : decode b_Au_holds 82 = .ok (.ireturn, 1) := by decide +kernel
theorem d_Au_holds_83 : decode b_Au_holds 83 = .ok (.iinc 5 1, 3) := by decide +kernel
theorem d_Au_holds_86 : decode b_Au_holds 86 = .ok (.goto (-83), 3) := by decide +kernel
theorem d_Au_holds_89 : decode b_Au_holds 89 = .ok (.iconst 0, 1) := by decide +kernel
theorem d_Au_holds_90 : decode b_Au_holds 90 = .ok (.ireturn, 1) := by decide +kernel
abbrev b_Au_append : ByteArray := prog_2_method_8_code
def y_Au_append : MethodName := ⟨R_Au, "append", "(IIII)Z"⟩
theorem k_Au_append : kV y_Au_append b_Au_append 5 (some .boolean) 4 := ⟨gmem (List.mem_append_right _ (List.mem_of_getElem? (i := 486) (by decide +kernel))) (by decide +kernel), gmem (List.mem_append_right _ (List.mem_of_getElem? (i := 487) (by decide +kernel))) (by decide +kernel), in_Au, gmem (List.mem_append_right _ (List.mem_of_getElem? (i := 488) (by decide +kernel))) (by decide +kernel), by decide, by decide, by decide +kernel⟩
theorem d_Au_append_0 : decode b_Au_append 0 = .ok (.aload_n 0, 1) := by decide +kernel
theorem d_Au_append_1 : decode b_Au_append 1 = .ok (.getfield 31, 3) := by decide +kernel
theorem d_Au_append_4 : decode b_Au_append 4 = .ok (.bipush 20, 2) := by decide +kernel
theorem d_Au_append_6 : decode b_Au_append 6 = .ok (.if_icmp .lt 5, 3) := by decide +kernel
theorem d_Au_append_9 : decode b_Au_append 9 = .ok (.iconst 0, 1) := by decide +kernel
theorem d_Au_append_10 : decode b_Au_append 10 = .ok (.ireturn, 1) := by decide +kernel
theorem d_Au_append_11 : decode b_Au_append 11 = .ok (.aload_n 0, 1) := by decide +kernel
theorem d_Au_append_12 : decode b_Au_append 12 = .ok (.getfield 9, 3) := by decide +kernel
theorem d_Au_append_15 : decode b_Au_append 15 = .ok (.aload_n 0, 1) := by decide +kernel
theorem d_Au_append_16 : decode b_Au_append 16 = .ok (.getfield 31, 3) := by decide +kernel
theorem d_Au_append_19 : decode b_Au_append 19 = .ok (.iload_n 1, 1) := by decide +kernel
theorem d_Au_append_20 : decode b_Au_append 20 = .ok (.iastore, 1) := by decide +kernel
theorem d_Au_append_21 : decode b_Au_append 21 = .ok (.aload_n 0, 1) := by decide +kernel
theorem d_Au_append_22 : decode b_Au_append 22 = .ok (.getfield 15, 3) := by decide +kernel
theorem d_Au_append_25 : decode b_Au_append 25 = .ok (.aload_n 0, 1) := by decide +kernel
theorem d_Au_append_26 : decode b_Au_append 26 = .ok (.getfield 31, 3) := by decide +kernel
theorem d_Au_append_29 : decode b_Au_append 29 = .ok (.aload_n 0, 1) := by decide +kernel
theorem d_Au_append_30 : decode b_Au_append 30 = .ok (.getfield 27, 3) := by decide +kernel
theorem d_Au_append_33 : decode b_Au_append 33 = .ok (.iload_n 1, 1) := by decide +kernel
theorem d_Au_append_34 : decode b_Au_append 34 = .ok (.invokevirtual 47, 3) := by decide +kernel
theorem d_Au_append_37 : decode b_Au_append 37 = .ok (.iconst 1, 1) := by decide +kernel
theorem d_Au_append_38 : decode b_Au_append 38 = .ok (.if_icmp .ge 7, 3) := by decide +kernel
theorem d_Au_append_41 : decode b_Au_append 41 = .ok (.iconst 0, 1) := by decide +kernel
theorem d_Au_append_42 : decode b_Au_append 42 = .ok (.goto 4, 3) := by decide +kernel
theorem d_Au_append_45 : decode b_Au_append 45 = .ok (.iload_n 2, 1) := by decide +kernel
theorem d_Au_append_46 : decode b_Au_append 46 = .ok (.iastore, 1) := by decide +kernel
theorem d_Au_append_47 : decode b_Au_append 47 = .ok (.aload_n 0, 1) := by decide +kernel
theorem d_Au_append_48 : decode b_Au_append 48 = .ok (.getfield 18, 3) := by decide +kernel
theorem d_Au_append_51 : decode b_Au_append 51 = .ok (.aload_n 0, 1) := by decide +kernel
theorem d_Au_append_52 : decode b_Au_append 52 = .ok (.getfield 31, 3) := by decide +kernel
theorem d_Au_append_55 : decode b_Au_append 55 = .ok (.aload_n 0, 1) := by decide +kernel
theorem d_Au_append_56 : decode b_Au_append 56 = .ok (.getfield 27, 3) := by decide +kernel
theorem d_Au_append_59 : decode b_Au_append 59 = .ok (.iload_n 1, 1) := by decide +kernel
theorem d_Au_append_60 : decode b_Au_append 60 = .ok (.invokevirtual 47, 3) := by decide +kernel
theorem d_Au_append_63 : decode b_Au_append 63 = .ok (.iconst 2, 1) := by decide +kernel
theorem d_Au_append_64 : decode b_Au_append 64 = .ok (.if_icmp .ge 7, 3) := by decide +kernel
theorem d_Au_append_67 : decode b_Au_append 67 = .ok (.iconst 0, 1) := by decide +kernel
theorem d_Au_append_68 : decode b_Au_append 68 = .ok (.goto 4, 3) := by decide +kernel
theorem d_Au_append_71 : decode b_Au_append 71 = .ok (.iload_n 3, 1) := by decide +kernel
theorem d_Au_append_72 : decode b_Au_append 72 = .ok (.iastore, 1) := by decide +kernel
theorem d_Au_append_73 : decode b_Au_append 73 = .ok (.aload_n 0, 1) := by decide +kernel
theorem d_Au_append_74 : decode b_Au_append 74 = .ok (.getfield 21, 3) := by decide +kernel
theorem d_Au_append_77 : decode b_Au_append 77 = .ok (.aload_n 0, 1) := by decide +kernel
theorem d_Au_append_78 : decode b_Au_append 78 = .ok (.getfield 31, 3) := by decide +kernel
theorem d_Au_append_81 : decode b_Au_append 81 = .ok (.iload 4, 2) := by decide +kernel
theorem d_Au_append_83 : decode b_Au_append 83 = .ok (.iastore, 1) := by decide +kernel
theorem d_Au_append_84 : decode b_Au_append 84 = .ok (.aload_n 0, 1) := by decide +kernel
theorem d_Au_append_85 : decode b_Au_append 85 = .ok (.dup, 1) := by decide +kernel
theorem d_Au_append_86 : decode b_Au_append 86 = .ok (.getfield 31, 3) := by decide +kernel
theorem d_Au_append_89 : decode b_Au_append 89 = .ok (.iconst 1, 1) := by decide +kernel
theorem d_Au_append_90 : decode b_Au_append 90 = .ok (.iadd, 1) := by decide +kernel
theorem d_Au_append_91 : decode b_Au_append 91 = .ok (.putfield 31, 3) := by decide +kernel
theorem d_Au_append_94 : decode b_Au_append 94 = .ok (.iconst 1, 1) := by decide +kernel
theorem d_Au_append_95 : decode b_Au_append 95 = .ok (.ireturn, 1) := by decide +kernel
abbrev b_Au_targetsOf : ByteArray := prog_2_method_9_code
def y_Au_targetsOf : MethodName := ⟨R_Au, "targetsOf", "(III)I"⟩
theorem k_Au_targetsOf : kV y_Au_targetsOf b_Au_targetsOf 6 (some .int) 3 := ⟨gmem (List.mem_append_right _ (List.mem_of_getElem? (i := 582) (by decide +kernel))) (by decide +kernel), gmem (List.mem_append_right _ (List.mem_of_getElem? (i := 583) (by decide +kernel))) (by decide +kernel), in_Au, gmem (List.mem_append_right _ (List.mem_of_getElem? (i := 584) (by decide +kernel))) (by decide +kernel), by decide, by decide, by decide +kernel⟩
theorem d_Au_targetsOf_0 : decode b_Au_targetsOf 0 = .ok (.iconst 0, 1) := by decide +kernel
theorem d_Au_targetsOf_1 : decode b_Au_targetsOf 1 = .ok (.istore 4, 2) := by decide +kernel
theorem d_Au_targetsOf_3 : decode b_Au_targetsOf 3 = .ok (.iconst 0, 1) := by decide +kernel
theorem d_Au_targetsOf_4 : decode b_Au_targetsOf 4 = .ok (.istore 5, 2) := by decide +kernel
theorem d_Au_targetsOf_6 : decode b_Au_targetsOf 6 = .ok (.iload 5, 2) := by decide +kernel
theorem d_Au_targetsOf_8 : decode b_Au_targetsOf 8 = .ok (.aload_n 0, 1) := by decide +kernel
theorem d_Au_targetsOf_9 : decode b_Au_targetsOf 9 = .ok (.getfield 31, 3) := by decide +kernel
theorem d_Au_targetsOf_12 : decode b_Au_targetsOf 12 = .ok (.if_icmp .ge 62, 3) := by decide +kernel
theorem d_Au_targetsOf_15 : decode b_Au_targetsOf 15 = .ok (.aload_n 0, 1) := by decide +kernel
theorem d_Au_targetsOf_16 : decode b_Au_targetsOf 16 = .ok (.getfield 9, 3) := by decide +kernel
theorem d_Au_targetsOf_19 : decode b_Au_targetsOf 19 = .ok (.iload 5, 2) := by decide +kernel
theorem d_Au_targetsOf_21 : decode b_Au_targetsOf 21 = .ok (.iaload, 1) := by decide +kernel
theorem d_Au_targetsOf_22 : decode b_Au_targetsOf 22 = .ok (.iload_n 1, 1) := by decide +kernel
theorem d_Au_targetsOf_23 : decode b_Au_targetsOf 23 = .ok (.if_icmp .ne 45, 3) := by decide +kernel
theorem d_Au_targetsOf_26 : decode b_Au_targetsOf 26 = .ok (.iload_n 2, 1) := by decide +kernel
theorem d_Au_targetsOf_27 : decode b_Au_targetsOf 27 = .ok (.aload_n 0, 1) := by decide +kernel
theorem d_Au_targetsOf_28 : decode b_Au_targetsOf 28 = .ok (.getfield 15, 3) := by decide +kernel
theorem d_Au_targetsOf_31 : decode b_Au_targetsOf 31 = .ok (.iload 5, 2) := by decide +kernel
theorem d_Au_targetsOf_33 : decode b_Au_targetsOf 33 = .ok (.iaload, 1) := by decide +kernel
theorem d_Au_targetsOf_34 : decode b_Au_targetsOf 34 = .ok (.ishr, 1) := by decide +kernel
theorem d_Au_targetsOf_35 : decode b_Au_targetsOf 35 = .ok (.iconst 1, 1) := by decide +kernel
theorem d_Au_targetsOf_36 : decode b_Au_targetsOf 36 = .ok (.iand, 1) := by decide +kernel
theorem d_Au_targetsOf_37 : decode b_Au_targetsOf 37 = .ok (.ifCond .eq 31, 3) := by decide +kernel
theorem d_Au_targetsOf_40 : decode b_Au_targetsOf 40 = .ok (.iload_n 3, 1) := by decide +kernel
theorem d_Au_targetsOf_41 : decode b_Au_targetsOf 41 = .ok (.aload_n 0, 1) := by decide +kernel
theorem d_Au_targetsOf_42 : decode b_Au_targetsOf 42 = .ok (.getfield 18, 3) := by decide +kernel
theorem d_Au_targetsOf_45 : decode b_Au_targetsOf 45 = .ok (.iload 5, 2) := by decide +kernel
theorem d_Au_targetsOf_47 : decode b_Au_targetsOf 47 = .ok (.iaload, 1) := by decide +kernel
theorem d_Au_targetsOf_48 : decode b_Au_targetsOf 48 = .ok (.ishr, 1) := by decide +kernel
theorem d_Au_targetsOf_49 : decode b_Au_targetsOf 49 = .ok (.iconst 1, 1) := by decide +kernel
theorem d_Au_targetsOf_50 : decode b_Au_targetsOf 50 = .ok (.iand, 1) := by decide +kernel
theorem d_Au_targetsOf_51 : decode b_Au_targetsOf 51 = .ok (.ifCond .eq 17, 3) := by decide +kernel
theorem d_Au_targetsOf_54 : decode b_Au_targetsOf 54 = .ok (.iload 4, 2) := by decide +kernel
theorem d_Au_targetsOf_56 : decode b_Au_targetsOf 56 = .ok (.iconst 1, 1) := by decide +kernel
theorem d_Au_targetsOf_57 : decode b_Au_targetsOf 57 = .ok (.aload_n 0, 1) := by decide +kernel
theorem d_Au_targetsOf_58 : decode b_Au_targetsOf 58 = .ok (.getfield 21, 3) := by decide +kernel
theorem d_Au_targetsOf_61 : decode b_Au_targetsOf 61 = .ok (.iload 5, 2) := by decide +kernel
theorem d_Au_targetsOf_63 : decode b_Au_targetsOf 63 = .ok (.iaload, 1) := by decide +kernel
theorem d_Au_targetsOf_64 : decode b_Au_targetsOf 64 = .ok (.ishl, 1) := by decide +kernel
theorem d_Au_targetsOf_65 : decode b_Au_targetsOf 65 = .ok (.ior, 1) := by decide +kernel
theorem d_Au_targetsOf_66 : decode b_Au_targetsOf 66 = .ok (.istore 4, 2) := by decide +kernel
theorem d_Au_targetsOf_68 : decode b_Au_targetsOf 68 = .ok (.iinc 5 1, 3) := by decide +kernel
theorem d_Au_targetsOf_71 : decode b_Au_targetsOf 71 = .ok (.goto (-65), 3) := by decide +kernel
theorem d_Au_targetsOf_74 : decode b_Au_targetsOf 74 = .ok (.iload 4, 2) := by decide +kernel
theorem d_Au_targetsOf_76 : decode b_Au_targetsOf 76 = .ok (.ireturn, 1) := by decide +kernel
abbrev b_Ar_fillI : ByteArray := prog_18_method_103_code
def y_Ar_fillI : MethodName := ⟨R_Ar, "fill", "([II)V"⟩
theorem k_Ar_fillI : kS y_Ar_fillI b_Ar_fillI 4 none 2 := ⟨gmem (List.mem_append_right _ (List.mem_of_getElem? (i := 36) (by decide +kernel))) (by decide +kernel), in_Ar, gmem (List.mem_append_right _ (List.mem_of_getElem? (i := 37) (by decide +kernel))) (by decide +kernel), by decide, by decide, by decide +kernel⟩
theorem d_Ar_fillI_0 : decode b_Ar_fillI 0 = .ok (.iconst 0, 1) := by decide +kernel
theorem d_Ar_fillI_1 : decode b_Ar_fillI 1 = .ok (.istore_n 2, 1) := by decide +kernel
theorem d_Ar_fillI_2 : decode b_Ar_fillI 2 = .ok (.aload_n 0, 1) := by decide +kernel
theorem d_Ar_fillI_3 : decode b_Ar_fillI 3 = .ok (.arraylength, 1) := by decide +kernel
theorem d_Ar_fillI_4 : decode b_Ar_fillI 4 = .ok (.istore_n 3, 1) := by decide +kernel
theorem d_Ar_fillI_5 : decode b_Ar_fillI 5 = .ok (.iload_n 2, 1) := by decide +kernel
theorem d_Ar_fillI_6 : decode b_Ar_fillI 6 = .ok (.iload_n 3, 1) := by decide +kernel
theorem d_Ar_fillI_7 : decode b_Ar_fillI 7 = .ok (.if_icmp .ge 13, 3) := by decide +kernel
theorem d_Ar_fillI_10 : decode b_Ar_fillI 10 = .ok (.aload_n 0, 1) := by decide +kernel
theorem d_Ar_fillI_11 : decode b_Ar_fillI 11 = .ok (.iload_n 2, 1) := by decide +kernel
theorem d_Ar_fillI_12 : decode b_Ar_fillI 12 = .ok (.iload_n 1, 1) := by decide +kernel
theorem d_Ar_fillI_13 : decode b_Ar_fillI 13 = .ok (.iastore, 1) := by decide +kernel
theorem d_Ar_fillI_14 : decode b_Ar_fillI 14 = .ok (.iinc 2 1, 3) := by decide +kernel
theorem d_Ar_fillI_17 : decode b_Ar_fillI 17 = .ok (.goto (-12), 3) := by decide +kernel
theorem d_Ar_fillI_20 : decode b_Ar_fillI 20 = .ok (.return_, 1) := by decide +kernel
abbrev b_Au_lighten : ByteArray := prog_2_method_11_code
def y_Au_lighten : MethodName := ⟨R_Au, "lighten", "(I)V"⟩
theorem k_Au_lighten : kV y_Au_lighten b_Au_lighten 5 none 1 := ⟨gmem (List.mem_append_right _ (List.mem_of_getElem? (i := 660) (by decide +kernel))) (by decide +kernel), gmem (List.mem_append_left _ (List.mem_of_getElem? (i := 16) (by decide +kernel))) (by decide +kernel), in_Au, gmem (List.mem_append_right _ (List.mem_of_getElem? (i := 661) (by decide +kernel))) (by decide +kernel), by decide, by decide, by decide +kernel⟩
theorem d_Au_lighten_0 : decode b_Au_lighten 0 = .ok (.aload_n 0, 1) := by decide +kernel
theorem d_Au_lighten_1 : decode b_Au_lighten 1 = .ok (.getfield 27, 3) := by decide +kernel
theorem d_Au_lighten_4 : decode b_Au_lighten 4 = .ok (.aload_n 0, 1) := by decide +kernel
theorem d_Au_lighten_5 : decode b_Au_lighten 5 = .ok (.getfield 9, 3) := by decide +kernel
theorem d_Au_lighten_8 : decode b_Au_lighten 8 = .ok (.iload_n 1, 1) := by decide +kernel
theorem d_Au_lighten_9 : decode b_Au_lighten 9 = .ok (.iaload, 1) := by decide +kernel
theorem d_Au_lighten_10 : decode b_Au_lighten 10 = .ok (.invokevirtual 47, 3) := by decide +kernel
theorem d_Au_lighten_13 : decode b_Au_lighten 13 = .ok (.iconst 1, 1) := by decide +kernel
theorem d_Au_lighten_14 : decode b_Au_lighten 14 = .ok (.if_icmp .ge 7, 3) := by decide +kernel
theorem d_Au_lighten_17 : decode b_Au_lighten 17 = .ok (.iconst 0, 1) := by decide +kernel
theorem d_Au_lighten_18 : decode b_Au_lighten 18 = .ok (.goto 14, 3) := by decide +kernel
theorem d_Au_lighten_21 : decode b_Au_lighten 21 = .ok (.aload_n 0, 1) := by decide +kernel
theorem d_Au_lighten_22 : decode b_Au_lighten 22 = .ok (.getfield 24, 3) := by decide +kernel
theorem d_Au_lighten_25 : decode b_Au_lighten 25 = .ok (.aload_n 0, 1) := by decide +kernel
theorem d_Au_lighten_26 : decode b_Au_lighten 26 = .ok (.getfield 15, 3) := by decide +kernel
theorem d_Au_lighten_29 : decode b_Au_lighten 29 = .ok (.iload_n 1, 1) := by decide +kernel
theorem d_Au_lighten_30 : decode b_Au_lighten 30 = .ok (.iaload, 1) := by decide +kernel
theorem d_Au_lighten_31 : decode b_Au_lighten 31 = .ok (.iaload, 1) := by decide +kernel
theorem d_Au_lighten_32 : decode b_Au_lighten 32 = .ok (.istore_n 2, 1) := by decide +kernel
theorem d_Au_lighten_33 : decode b_Au_lighten 33 = .ok (.aload_n 0, 1) := by decide +kernel
theorem d_Au_lighten_34 : decode b_Au_lighten 34 = .ok (.getfield 27, 3) := by decide +kernel
theorem d_Au_lighten_37 : decode b_Au_lighten 37 = .ok (.aload_n 0, 1) := by decide +kernel
theorem d_Au_lighten_38 : decode b_Au_lighten 38 = .ok (.getfield 9, 3) := by decide +kernel
theorem d_Au_lighten_41 : decode b_Au_lighten 41 = .ok (.iload_n 1, 1) := by decide +kernel
theorem d_Au_lighten_42 : decode b_Au_lighten 42 = .ok (.iaload, 1) := by decide +kernel
theorem d_Au_lighten_43 : decode b_Au_lighten 43 = .ok (.invokevirtual 47, 3) := by decide +kernel
theorem d_Au_lighten_46 : decode b_Au_lighten 46 = .ok (.iconst 2, 1) := by decide +kernel
theorem d_Au_lighten_47 : decode b_Au_lighten 47 = .ok (.if_icmp .ge 7, 3) := by decide +kernel
theorem d_Au_lighten_50 : decode b_Au_lighten 50 = .ok (.iconst 0, 1) := by decide +kernel
theorem d_Au_lighten_51 : decode b_Au_lighten 51 = .ok (.goto 14, 3) := by decide +kernel
theorem d_Au_lighten_54 : decode b_Au_lighten 54 = .ok (.aload_n 0, 1) := by decide +kernel
theorem d_Au_lighten_55 : decode b_Au_lighten 55 = .ok (.getfield 24, 3) := by decide +kernel
theorem d_Au_lighten_58 : decode b_Au_lighten 58 = .ok (.aload_n 0, 1) := by decide +kernel
theorem d_Au_lighten_59 : decode b_Au_lighten 59 = .ok (.getfield 18, 3) := by decide +kernel
theorem d_Au_lighten_62 : decode b_Au_lighten 62 = .ok (.iload_n 1, 1) := by decide +kernel
theorem d_Au_lighten_63 : decode b_Au_lighten 63 = .ok (.iaload, 1) := by decide +kernel
theorem d_Au_lighten_64 : decode b_Au_lighten 64 = .ok (.iaload, 1) := by decide +kernel
theorem d_Au_lighten_65 : decode b_Au_lighten 65 = .ok (.istore_n 3, 1) := by decide +kernel
theorem d_Au_lighten_66 : decode b_Au_lighten 66 = .ok (.iload_n 2, 1) := by decide +kernel
theorem d_Au_lighten_67 : decode b_Au_lighten 67 = .ok (.iconst (-1), 1) := by decide +kernel
theorem d_Au_lighten_68 : decode b_Au_lighten 68 = .ok (.if_icmp .eq 8, 3) := by decide +kernel
theorem d_Au_lighten_71 : decode b_Au_lighten 71 = .ok (.iload_n 3, 1) := by decide +kernel
theorem d_Au_lighten_72 : decode b_Au_lighten 72 = .ok (.iconst (-1), 1) := by decide +kernel
theorem d_Au_lighten_73 : decode b_Au_lighten 73 = .ok (.if_icmp .ne 4, 3) := by decide +kernel
theorem d_Au_lighten_76 : decode b_Au_lighten 76 = .ok (.return_, 1) := by decide +kernel
theorem d_Au_lighten_77 : decode b_Au_lighten 77 = .ok (.aload_n 0, 1) := by decide +kernel
theorem d_Au_lighten_78 : decode b_Au_lighten 78 = .ok (.getfield 24, 3) := by decide +kernel
theorem d_Au_lighten_81 : decode b_Au_lighten 81 = .ok (.aload_n 0, 1) := by decide +kernel
theorem d_Au_lighten_82 : decode b_Au_lighten 82 = .ok (.getfield 21, 3) := by decide +kernel
theorem d_Au_lighten_85 : decode b_Au_lighten 85 = .ok (.iload_n 1, 1) := by decide +kernel
theorem d_Au_lighten_86 : decode b_Au_lighten 86 = .ok (.iaload, 1) := by decide +kernel
theorem d_Au_lighten_87 : decode b_Au_lighten 87 = .ok (.iaload, 1) := by decide +kernel
theorem d_Au_lighten_88 : decode b_Au_lighten 88 = .ok (.istore 4, 2) := by decide +kernel
theorem d_Au_lighten_90 : decode b_Au_lighten 90 = .ok (.iload 4, 2) := by decide +kernel
theorem d_Au_lighten_92 : decode b_Au_lighten 92 = .ok (.iconst (-1), 1) := by decide +kernel
theorem d_Au_lighten_93 : decode b_Au_lighten 93 = .ok (.if_icmp .eq 13, 3) := by decide +kernel
theorem d_Au_lighten_96 : decode b_Au_lighten 96 = .ok (.iconst 1, 1) := by decide +kernel
theorem d_Au_lighten_97 : decode b_Au_lighten 97 = .ok (.iload_n 2, 1) := by decide +kernel
theorem d_Au_lighten_98 : decode b_Au_lighten 98 = .ok (.iadd, 1) := by decide +kernel
theorem d_Au_lighten_99 : decode b_Au_lighten 99 = .ok (.iload_n 3, 1) := by decide +kernel
theorem d_Au_lighten_100 : decode b_Au_lighten 100 = .ok (.iadd, 1) := by decide +kernel
theorem d_Au_lighten_101 : decode b_Au_lighten 101 = .ok (.iload 4, 2) := by decide +kernel
theorem d_Au_lighten_103 : decode b_Au_lighten 103 = .ok (.if_icmp .ge 19, 3) := by decide +kernel
theorem d_Au_lighten_106 : decode b_Au_lighten 106 = .ok (.aload_n 0, 1) := by decide +kernel
theorem d_Au_lighten_107 : decode b_Au_lighten 107 = .ok (.getfield 24, 3) := by decide +kernel
theorem d_Au_lighten_110 : decode b_Au_lighten 110 = .ok (.aload_n 0, 1) := by decide +kernel
theorem d_Au_lighten_111 : decode b_Au_lighten 111 = .ok (.getfield 21, 3) := by decide +kernel
theorem d_Au_lighten_114 : decode b_Au_lighten 114 = .ok (.iload_n 1, 1) := by decide +kernel
theorem d_Au_lighten_115 : decode b_Au_lighten 115 = .ok (.iaload, 1) := by decide +kernel
theorem d_Au_lighten_116 : decode b_Au_lighten 116 = .ok (.iconst 1, 1) := by decide +kernel
theorem d_Au_lighten_117 : decode b_Au_lighten 117 = .ok (.iload_n 2, 1) := by decide +kernel
theorem d_Au_lighten_118 : decode b_Au_lighten 118 = .ok (.iadd, 1) := by decide +kernel
theorem d_Au_lighten_119 : decode b_Au_lighten 119 = .ok (.iload_n 3, 1) := by decide +kernel
theorem d_Au_lighten_120 : decode b_Au_lighten 120 = .ok (.iadd, 1) := by decide +kernel
theorem d_Au_lighten_121 : decode b_Au_lighten 121 = .ok (.iastore, 1) := by decide +kernel
theorem d_Au_lighten_122 : decode b_Au_lighten 122 = .ok (.return_, 1) := by decide +kernel
abbrev b_Au_leastSize : ByteArray := prog_2_method_10_code
def y_Au_leastSize : MethodName := ⟨R_Au, "leastSize", "(I)I"⟩
theorem k_Au_leastSize : kV y_Au_leastSize b_Au_leastSize 4 (some .int) 1 := ⟨gmem (List.mem_append_right _ (List.mem_of_getElem? (i := 654) (by decide +kernel))) (by decide +kernel), gmem (List.mem_append_right _ (List.mem_of_getElem? (i := 655) (by decide +kernel))) (by decide +kernel), in_Au, gmem (List.mem_append_right _ (List.mem_of_getElem? (i := 656) (by decide +kernel))) (by decide +kernel), by decide, by decide, by decide +kernel⟩
theorem d_Au_leastSize_0 : decode b_Au_leastSize 0 = .ok (.aload_n 0, 1) := by decide +kernel
theorem d_Au_leastSize_1 : decode b_Au_leastSize 1 = .ok (.getfield 24, 3) := by decide +kernel
theorem d_Au_leastSize_4 : decode b_Au_leastSize 4 = .ok (.iconst (-1), 1) := by decide +kernel
theorem d_Au_leastSize_5 : decode b_Au_leastSize 5 = .ok (.invokestatic 51, 3) := by decide +kernel
theorem d_Au_leastSize_8 : decode b_Au_leastSize 8 = .ok (.iconst 0, 1) := by decide +kernel
theorem d_Au_leastSize_9 : decode b_Au_leastSize 9 = .ok (.istore_n 2, 1) := by decide +kernel
theorem d_Au_leastSize_10 : decode b_Au_leastSize 10 = .ok (.iload_n 2, 1) := by decide +kernel
theorem d_Au_leastSize_11 : decode b_Au_leastSize 11 = .ok (.bipush 6, 2) := by decide +kernel
theorem d_Au_leastSize_13 : decode b_Au_leastSize 13 = .ok (.if_icmp .ge 30, 3) := by decide +kernel
theorem d_Au_leastSize_16 : decode b_Au_leastSize 16 = .ok (.iconst 0, 1) := by decide +kernel
theorem d_Au_leastSize_17 : decode b_Au_leastSize 17 = .ok (.istore_n 3, 1) := by decide +kernel
theorem d_Au_leastSize_18 : decode b_Au_leastSize 18 = .ok (.iload_n 3, 1) := by decide +kernel
theorem d_Au_leastSize_19 : decode b_Au_leastSize 19 = .ok (.aload_n 0, 1) := by decide +kernel
theorem d_Au_leastSize_20 : decode b_Au_leastSize 20 = .ok (.getfield 31, 3) := by decide +kernel
theorem d_Au_leastSize_23 : decode b_Au_leastSize 23 = .ok (.if_icmp .ge 14, 3) := by decide +kernel
theorem d_Au_leastSize_26 : decode b_Au_leastSize 26 = .ok (.aload_n 0, 1) := by decide +kernel
theorem d_Au_leastSize_27 : decode b_Au_leastSize 27 = .ok (.iload_n 3, 1) := by decide +kernel
theorem d_Au_leastSize_28 : decode b_Au_leastSize 28 = .ok (.invokevirtual 57, 3) := by decide +kernel
theorem d_Au_leastSize_31 : decode b_Au_leastSize 31 = .ok (.iinc 3 1, 3) := by decide +kernel
theorem d_Au_leastSize_34 : decode b_Au_leastSize 34 = .ok (.goto (-16), 3) := by decide +kernel
theorem d_Au_leastSize_37 : decode b_Au_leastSize 37 = .ok (.iinc 2 1, 3) := by decide +kernel
theorem d_Au_leastSize_40 : decode b_Au_leastSize 40 = .ok (.goto (-30), 3) := by decide +kernel
theorem d_Au_leastSize_43 : decode b_Au_leastSize 43 = .ok (.aload_n 0, 1) := by decide +kernel
theorem d_Au_leastSize_44 : decode b_Au_leastSize 44 = .ok (.getfield 24, 3) := by decide +kernel
theorem d_Au_leastSize_47 : decode b_Au_leastSize 47 = .ok (.iload_n 1, 1) := by decide +kernel
theorem d_Au_leastSize_48 : decode b_Au_leastSize 48 = .ok (.iaload, 1) := by decide +kernel
theorem d_Au_leastSize_49 : decode b_Au_leastSize 49 = .ok (.ireturn, 1) := by decide +kernel
abbrev b_Re_isIn : ByteArray := prog_5_method_14_code
def y_Re_isIn : MethodName := ⟨R_Re, "isIn", "([JII)Z"⟩
theorem k_Re_isIn : kS y_Re_isIn b_Re_isIn 3 (some .boolean) 3 := ⟨gmem (List.mem_append_right _ (List.mem_of_getElem? (i := 523) (by decide +kernel))) (by decide +kernel), in_Re, gmem (List.mem_append_right _ (List.mem_of_getElem? (i := 524) (by decide +kernel))) (by decide +kernel), by decide, by decide, by decide +kernel⟩
theorem d_Re_isIn_0 : decode b_Re_isIn 0 = .ok (.aload_n 0, 1) := by decide +kernel
theorem d_Re_isIn_1 : decode b_Re_isIn 1 = .ok (.iload_n 1, 1) := by decide +kernel
theorem d_Re_isIn_2 : decode b_Re_isIn 2 = .ok (.laload, 1) := by decide +kernel
theorem d_Re_isIn_3 : decode b_Re_isIn 3 = .ok (.iload_n 2, 1) := by decide +kernel
theorem d_Re_isIn_4 : decode b_Re_isIn 4 = .ok (.lshr, 1) := by decide +kernel
theorem d_Re_isIn_5 : decode b_Re_isIn 5 = .ok (.lconst 1, 1) := by decide +kernel
theorem d_Re_isIn_6 : decode b_Re_isIn 6 = .ok (.land, 1) := by decide +kernel
theorem d_Re_isIn_7 : decode b_Re_isIn 7 = .ok (.lconst 0, 1) := by decide +kernel
theorem d_Re_isIn_8 : decode b_Re_isIn 8 = .ok (.lcmp, 1) := by decide +kernel
theorem d_Re_isIn_9 : decode b_Re_isIn 9 = .ok (.ifCond .eq 7, 3) := by decide +kernel
theorem d_Re_isIn_12 : decode b_Re_isIn 12 = .ok (.iconst 1, 1) := by decide +kernel
theorem d_Re_isIn_13 : decode b_Re_isIn 13 = .ok (.goto 4, 3) := by decide +kernel
theorem d_Re_isIn_16 : decode b_Re_isIn 16 = .ok (.iconst 0, 1) := by decide +kernel
theorem d_Re_isIn_17 : decode b_Re_isIn 17 = .ok (.ireturn, 1) := by decide +kernel
abbrev b_Re_chain : ByteArray := prog_5_method_7_code
def y_Re_chain : MethodName := ⟨R_Re, "chain", "(I)V"⟩
theorem k_Re_chain : kV y_Re_chain b_Re_chain 4 none 1 := ⟨gmem (List.mem_append_right _ (List.mem_of_getElem? (i := 520) (by decide +kernel))) (by decide +kernel), gmem (List.mem_append_left _ (List.mem_of_getElem? (i := 5) (by decide +kernel))) (by decide +kernel), in_Re, gmem (List.mem_append_right _ (List.mem_of_getElem? (i := 521) (by decide +kernel))) (by decide +kernel), by decide, by decide, by decide +kernel⟩
theorem d_Re_chain_0 : decode b_Re_chain 0 = .ok (.iconst 0, 1) := by decide +kernel
theorem d_Re_chain_1 : decode b_Re_chain 1 = .ok (.istore_n 2, 1) := by decide +kernel
theorem d_Re_chain_2 : decode b_Re_chain 2 = .ok (.iload_n 2, 1) := by decide +kernel
theorem d_Re_chain_3 : decode b_Re_chain 3 = .ok (.iload_n 1, 1) := by decide +kernel
theorem d_Re_chain_4 : decode b_Re_chain 4 = .ok (.if_icmp .ge 49, 3) := by decide +kernel
theorem d_Re_chain_7 : decode b_Re_chain 7 = .ok (.iconst 0, 1) := by decide +kernel
theorem d_Re_chain_8 : decode b_Re_chain 8 = .ok (.istore_n 3, 1) := by decide +kernel
theorem d_Re_chain_9 : decode b_Re_chain 9 = .ok (.iload_n 3, 1) := by decide +kernel
theorem d_Re_chain_10 : decode b_Re_chain 10 = .ok (.iload_n 1, 1) := by decide +kernel
theorem d_Re_chain_11 : decode b_Re_chain 11 = .ok (.if_icmp .ge 36, 3) := by decide +kernel
theorem d_Re_chain_14 : decode b_Re_chain 14 = .ok (.aload_n 0, 1) := by decide +kernel
theorem d_Re_chain_15 : decode b_Re_chain 15 = .ok (.getfield 9, 3) := by decide +kernel
theorem d_Re_chain_18 : decode b_Re_chain 18 = .ok (.iload_n 3, 1) := by decide +kernel
theorem d_Re_chain_19 : decode b_Re_chain 19 = .ok (.iload_n 2, 1) := by decide +kernel
theorem d_Re_chain_20 : decode b_Re_chain 20 = .ok (.invokestatic 55, 3) := by decide +kernel
theorem d_Re_chain_23 : decode b_Re_chain 23 = .ok (.ifCond .eq 18, 3) := by decide +kernel
theorem d_Re_chain_26 : decode b_Re_chain 26 = .ok (.aload_n 0, 1) := by decide +kernel
theorem d_Re_chain_27 : decode b_Re_chain 27 = .ok (.getfield 9, 3) := by decide +kernel
theorem d_Re_chain_30 : decode b_Re_chain 30 = .ok (.iload_n 3, 1) := by decide +kernel
theorem d_Re_chain_31 : decode b_Re_chain 31 = .ok (.dup2, 1) := by decide +kernel
theorem d_Re_chain_32 : decode b_Re_chain 32 = .ok (.laload, 1) := by decide +kernel
theorem d_Re_chain_33 : decode b_Re_chain 33 = .ok (.aload_n 0, 1) := by decide +kernel
theorem d_Re_chain_34 : decode b_Re_chain 34 = .ok (.getfield 9, 3) := by decide +kernel
theorem d_Re_chain_37 : decode b_Re_chain 37 = .ok (.iload_n 2, 1) := by decide +kernel
theorem d_Re_chain_38 : decode b_Re_chain 38 = .ok (.laload, 1) := by decide +kernel
theorem d_Re_chain_39 : decode b_Re_chain 39 = .ok (.lor, 1) := by decide +kernel
theorem d_Re_chain_40 : decode b_Re_chain 40 = .ok (.lastore, 1) := by decide +kernel
theorem d_Re_chain_41 : decode b_Re_chain 41 = .ok (.iinc 3 1, 3) := by decide +kernel
theorem d_Re_chain_44 : decode b_Re_chain 44 = .ok (.goto (-35), 3) := by decide +kernel
theorem d_Re_chain_47 : decode b_Re_chain 47 = .ok (.iinc 2 1, 3) := by decide +kernel
theorem d_Re_chain_50 : decode b_Re_chain 50 = .ok (.goto (-48), 3) := by decide +kernel
theorem d_Re_chain_53 : decode b_Re_chain 53 = .ok (.return_, 1) := by decide +kernel
abbrev b_Re_partsRelated : ByteArray := prog_5_method_11_code
def y_Re_partsRelated : MethodName := ⟨R_Re, "partsRelated", "([JII)Z"⟩
theorem k_Re_partsRelated : kV y_Re_partsRelated b_Re_partsRelated 5 (some .boolean) 3 := ⟨gmem (List.mem_append_right _ (List.mem_of_getElem? (i := 531) (by decide +kernel))) (by decide +kernel), gmem (List.mem_append_left _ (List.mem_of_getElem? (i := 7) (by decide +kernel))) (by decide +kernel), in_Re, gmem (List.mem_append_right _ (List.mem_of_getElem? (i := 532) (by decide +kernel))) (by decide +kernel), by decide, by decide, by decide +kernel⟩
theorem d_Re_partsRelated_0 : decode b_Re_partsRelated 0 = .ok (.aload_n 0, 1) := by decide +kernel
theorem d_Re_partsRelated_1 : decode b_Re_partsRelated 1 = .ok (.getfield 29, 3) := by decide +kernel
theorem d_Re_partsRelated_4 : decode b_Re_partsRelated 4 = .ok (.iload_n 2, 1) := by decide +kernel
theorem d_Re_partsRelated_5 : decode b_Re_partsRelated 5 = .ok (.invokevirtual 91, 3) := by decide +kernel
theorem d_Re_partsRelated_8 : decode b_Re_partsRelated 8 = .ok (.aload_n 0, 1) := by decide +kernel
theorem d_Re_partsRelated_9 : decode b_Re_partsRelated 9 = .ok (.getfield 29, 3) := by decide +kernel
theorem d_Re_partsRelated_12 : decode b_Re_partsRelated 12 = .ok (.iload_n 3, 1) := by decide +kernel
theorem d_Re_partsRelated_13 : decode b_Re_partsRelated 13 = .ok (.invokevirtual 91, 3) := by decide +kernel
theorem d_Re_partsRelated_16 : decode b_Re_partsRelated 16 = .ok (.if_icmp .eq 5, 3) := by decide +kernel
theorem d_Re_partsRelated_19 : decode b_Re_partsRelated 19 = .ok (.iconst 0, 1) := by decide +kernel
theorem d_Re_partsRelated_20 : decode b_Re_partsRelated 20 = .ok (.ireturn, 1) := by decide +kernel
theorem d_Re_partsRelated_21 : decode b_Re_partsRelated 21 = .ok (.aload_n 0, 1) := by decide +kernel
theorem d_Re_partsRelated_22 : decode b_Re_partsRelated 22 = .ok (.getfield 29, 3) := by decide +kernel
theorem d_Re_partsRelated_25 : decode b_Re_partsRelated 25 = .ok (.aload_n 0, 1) := by decide +kernel
theorem d_Re_partsRelated_26 : decode b_Re_partsRelated 26 = .ok (.getfield 29, 3) := by decide +kernel
theorem d_Re_partsRelated_29 : decode b_Re_partsRelated 29 = .ok (.iload_n 2, 1) := by decide +kernel
theorem d_Re_partsRelated_30 : decode b_Re_partsRelated 30 = .ok (.invokevirtual 91, 3) := by decide +kernel
theorem d_Re_partsRelated_33 : decode b_Re_partsRelated 33 = .ok (.invokevirtual 94, 3) := by decide +kernel
theorem d_Re_partsRelated_36 : decode b_Re_partsRelated 36 = .ok (.istore 4, 2) := by decide +kernel
theorem d_Re_partsRelated_38 : decode b_Re_partsRelated 38 = .ok (.iload 4, 2) := by decide +kernel
theorem d_Re_partsRelated_40 : decode b_Re_partsRelated 40 = .ok (.iconst 1, 1) := by decide +kernel
theorem d_Re_partsRelated_41 : decode b_Re_partsRelated 41 = .ok (.if_icmp .lt 26, 3) := by decide +kernel
theorem d_Re_partsRelated_44 : decode b_Re_partsRelated 44 = .ok (.aload_n 1, 1) := by decide +kernel
theorem d_Re_partsRelated_45 : decode b_Re_partsRelated 45 = .ok (.aload_n 0, 1) := by decide +kernel
theorem d_Re_partsRelated_46 : decode b_Re_partsRelated 46 = .ok (.getfield 29, 3) := by decide +kernel
theorem d_Re_partsRelated_49 : decode b_Re_partsRelated 49 = .ok (.iload_n 2, 1) := by decide +kernel
theorem d_Re_partsRelated_50 : decode b_Re_partsRelated 50 = .ok (.invokevirtual 97, 3) := by decide +kernel
theorem d_Re_partsRelated_53 : decode b_Re_partsRelated 53 = .ok (.aload_n 0, 1) := by decide +kernel
theorem d_Re_partsRelated_54 : decode b_Re_partsRelated 54 = .ok (.getfield 29, 3) := by decide +kernel
theorem d_Re_partsRelated_57 : decode b_Re_partsRelated 57 = .ok (.iload_n 3, 1) := by decide +kernel
theorem d_Re_partsRelated_58 : decode b_Re_partsRelated 58 = .ok (.invokevirtual 97, 3) := by decide +kernel
theorem d_Re_partsRelated_61 : decode b_Re_partsRelated 61 = .ok (.invokestatic 55, 3) := by decide +kernel
theorem d_Re_partsRelated_64 : decode b_Re_partsRelated 64 = .ok (.ifCond .eq 36, 3) := by decide +kernel
theorem d_Re_partsRelated_67 : decode b_Re_partsRelated 67 = .ok (.iload 4, 2) := by decide +kernel
theorem d_Re_partsRelated_69 : decode b_Re_partsRelated 69 = .ok (.iconst 2, 1) := by decide +kernel
theorem d_Re_partsRelated_70 : decode b_Re_partsRelated 70 = .ok (.if_icmp .lt 26, 3) := by decide +kernel
theorem d_Re_partsRelated_73 : decode b_Re_partsRelated 73 = .ok (.aload_n 1, 1) := by decide +kernel
theorem d_Re_partsRelated_74 : decode b_Re_partsRelated 74 = .ok (.aload_n 0, 1) := by decide +kernel
theorem d_Re_partsRelated_75 : decode b_Re_partsRelated 75 = .ok (.getfield 29, 3) := by decide +kernel
theorem d_Re_partsRelated_78 : decode b_Re_partsRelated 78 = .ok (.iload_n 2, 1) := by decide +kernel
theorem d_Re_partsRelated_79 : decode b_Re_partsRelated 79 = .ok (.invokevirtual 100, 3) := by decide +kernel
theorem d_Re_partsRelated_82 : decode b_Re_partsRelated 82 = .ok (.aload_n 0, 1) := by decide +kernel
theorem d_Re_partsRelated_83 : decode b_Re_partsRelated 83 = .ok (.getfield 29, 3) := by decide +kernel
theorem d_Re_partsRelated_86 : decode b_Re_partsRelated 86 = .ok (.iload_n 3, 1) := by decide +kernel
theorem d_Re_partsRelated_87 : decode b_Re_partsRelated 87 = .ok (.invokevirtual 100, 3) := by decide +kernel
theorem d_Re_partsRelated_90 : decode b_Re_partsRelated 90 = .ok (.invokestatic 55, 3) := by decide +kernel
theorem d_Re_partsRelated_93 : decode b_Re_partsRelated 93 = .ok (.ifCond .eq 7, 3) := by decide +kernel
theorem d_Re_partsRelated_96 : decode b_Re_partsRelated 96 = .ok (.iconst 1, 1) := by decide +kernel
theorem d_Re_partsRelated_97 : decode b_Re_partsRelated 97 = .ok (.goto 4, 3) := by decide +kernel
theorem d_Re_partsRelated_100 : decode b_Re_partsRelated 100 = .ok (.iconst 0, 1) := by decide +kernel
theorem d_Re_partsRelated_101 : decode b_Re_partsRelated 101 = .ok (.ireturn, 1) := by decide +kernel
abbrev b_Re_liftFromParts : ByteArray := prog_5_method_10_code
def y_Re_liftFromParts : MethodName := ⟨R_Re, "liftFromParts", "([JI)Z"⟩
theorem k_Re_liftFromParts : kV y_Re_liftFromParts b_Re_liftFromParts 6 (some .boolean) 2 := ⟨gmem (List.mem_append_right _ (List.mem_of_getElem? (i := 527) (by decide +kernel))) (by decide +kernel), gmem (List.mem_append_left _ (List.mem_of_getElem? (i := 6) (by decide +kernel))) (by decide +kernel), in_Re, gmem (List.mem_append_right _ (List.mem_of_getElem? (i := 528) (by decide +kernel))) (by decide +kernel), by decide, by decide, by decide +kernel⟩
theorem d_Re_liftFromParts_0 : decode b_Re_liftFromParts 0 = .ok (.iconst 0, 1) := by decide +kernel
theorem d_Re_liftFromParts_1 : decode b_Re_liftFromParts 1 = .ok (.istore_n 3, 1) := by decide +kernel
theorem d_Re_liftFromParts_2 : decode b_Re_liftFromParts 2 = .ok (.iconst 0, 1) := by decide +kernel
theorem d_Re_liftFromParts_3 : decode b_Re_liftFromParts 3 = .ok (.istore 4, 2) := by decide +kernel
theorem d_Re_liftFromParts_5 : decode b_Re_liftFromParts 5 = .ok (.iload 4, 2) := by decide +kernel
theorem d_Re_liftFromParts_7 : decode b_Re_liftFromParts 7 = .ok (.iload_n 2, 1) := by decide +kernel
theorem d_Re_liftFromParts_8 : decode b_Re_liftFromParts 8 = .ok (.if_icmp .ge 60, 3) := by decide +kernel
theorem d_Re_liftFromParts_11 : decode b_Re_liftFromParts 11 = .ok (.iconst 0, 1) := by decide +kernel
theorem d_Re_liftFromParts_12 : decode b_Re_liftFromParts 12 = .ok (.istore 5, 2) := by decide +kernel
theorem d_Re_liftFromParts_14 : decode b_Re_liftFromParts 14 = .ok (.iload 5, 2) := by decide +kernel
theorem d_Re_liftFromParts_16 : decode b_Re_liftFromParts 16 = .ok (.iload_n 2, 1) := by decide +kernel
theorem d_Re_liftFromParts_17 : decode b_Re_liftFromParts 17 = .ok (.if_icmp .ge 45, 3) := by decide +kernel
theorem d_Re_liftFromParts_20 : decode b_Re_liftFromParts 20 = .ok (.aload_n 1, 1) := by decide +kernel
theorem d_Re_liftFromParts_21 : decode b_Re_liftFromParts 21 = .ok (.iload 4, 2) := by decide +kernel
theorem d_Re_liftFromParts_23 : decode b_Re_liftFromParts 23 = .ok (.iload 5, 2) := by decide +kernel
theorem d_Re_liftFromParts_25 : decode b_Re_liftFromParts 25 = .ok (.invokestatic 55, 3) := by decide +kernel
theorem d_Re_liftFromParts_28 : decode b_Re_liftFromParts 28 = .ok (.ifCond .ne 28, 3) := by decide +kernel
theorem d_Re_liftFromParts_31 : decode b_Re_liftFromParts 31 = .ok (.aload_n 0, 1) := by decide +kernel
theorem d_Re_liftFromParts_32 : decode b_Re_liftFromParts 32 = .ok (.aload_n 1, 1) := by decide +kernel
theorem d_Re_liftFromParts_33 : decode b_Re_liftFromParts 33 = .ok (.iload 4, 2) := by decide +kernel
theorem d_Re_liftFromParts_35 : decode b_Re_liftFromParts 35 = .ok (.iload 5, 2) := by decide +kernel
theorem d_Re_liftFromParts_37 : decode b_Re_liftFromParts 37 = .ok (.invokevirtual 88, 3) := by decide +kernel
theorem d_Re_liftFromParts_40 : decode b_Re_liftFromParts 40 = .ok (.ifCond .eq 16, 3) := by decide +kernel
theorem d_Re_liftFromParts_43 : decode b_Re_liftFromParts 43 = .ok (.aload_n 1, 1) := by decide +kernel
theorem d_Re_liftFromParts_44 : decode b_Re_liftFromParts 44 = .ok (.iload 4, 2) := by decide +kernel
theorem d_Re_liftFromParts_46 : decode b_Re_liftFromParts 46 = .ok (.dup2, 1) := by decide +kernel
theorem d_Re_liftFromParts_47 : decode b_Re_liftFromParts 47 = .ok (.laload, 1) := by decide +kernel
theorem d_Re_liftFromParts_48 : decode b_Re_liftFromParts 48 = .ok (.lconst 1, 1) := by decide +kernel
theorem d_Re_liftFromParts_49 : decode b_Re_liftFromParts 49 = .ok (.iload 5, 2) := by decide +kernel
theorem d_Re_liftFromParts_51 : decode b_Re_liftFromParts 51 = .ok (.lshl, 1) := by decide +kernel
theorem d_Re_liftFromParts_52 : decode b_Re_liftFromParts 52 = .ok (.lor, 1) := by decide +kernel
theorem d_Re_liftFromParts_53 : decode b_Re_liftFromParts 53 = .ok (.lastore, 1) := by decide +kernel
theorem d_Re_liftFromParts_54 : decode b_Re_liftFromParts 54 = .ok (.iconst 1, 1) := by decide +kernel
theorem d_Re_liftFromParts_55 : decode b_Re_liftFromParts 55 = .ok (.istore_n 3, 1) := by decide +kernel
theorem d_Re_liftFromParts_56 : decode b_Re_liftFromParts 56 = .ok (.iinc 5 1, 3) := by decide +kernel
theorem d_Re_liftFromParts_59 : decode b_Re_liftFromParts 59 = .ok (.goto (-45), 3) := by decide +kernel
theorem d_Re_liftFromParts_62 : decode b_Re_liftFromParts 62 = .ok (.iinc 4 1, 3) := by decide +kernel
theorem d_Re_liftFromParts_65 : decode b_Re_liftFromParts 65 = .ok (.goto (-60), 3) := by decide +kernel
theorem d_Re_liftFromParts_68 : decode b_Re_liftFromParts 68 = .ok (.iload_n 3, 1) := by decide +kernel
theorem d_Re_liftFromParts_69 : decode b_Re_liftFromParts 69 = .ok (.ireturn, 1) := by decide +kernel
abbrev b_Re_findReached : ByteArray := prog_5_method_6_code
def y_Re_findReached : MethodName := ⟨R_Re, "findReached", "()V"⟩
theorem k_Re_findReached : kV y_Re_findReached b_Re_findReached 4 none 0 := ⟨gmem (List.mem_append_right _ (List.mem_of_getElem? (i := 507) (by decide +kernel))) (by decide +kernel), gmem (List.mem_append_left _ (List.mem_of_getElem? (i := 4) (by decide +kernel))) (by decide +kernel), in_Re, gmem (List.mem_append_right _ (List.mem_of_getElem? (i := 508) (by decide +kernel))) (by decide +kernel), by decide, by decide, by decide +kernel⟩
theorem d_Re_findReached_0 : decode b_Re_findReached 0 = .ok (.aload_n 0, 1) := by decide +kernel
theorem d_Re_findReached_1 : decode b_Re_findReached 1 = .ok (.getfield 29, 3) := by decide +kernel
theorem d_Re_findReached_4 : decode b_Re_findReached 4 = .ok (.invokevirtual 37, 3) := by decide +kernel
theorem d_Re_findReached_7 : decode b_Re_findReached 7 = .ok (.istore_n 1, 1) := by decide +kernel
theorem d_Re_findReached_8 : decode b_Re_findReached 8 = .ok (.iconst 0, 1) := by decide +kernel
theorem d_Re_findReached_9 : decode b_Re_findReached 9 = .ok (.istore_n 2, 1) := by decide +kernel
theorem d_Re_findReached_10 : decode b_Re_findReached 10 = .ok (.iload_n 2, 1) := by decide +kernel
theorem d_Re_findReached_11 : decode b_Re_findReached 11 = .ok (.iload_n 1, 1) := by decide +kernel
theorem d_Re_findReached_12 : decode b_Re_findReached 12 = .ok (.if_icmp .ge 18, 3) := by decide +kernel
theorem d_Re_findReached_15 : decode b_Re_findReached 15 = .ok (.aload_n 0, 1) := by decide +kernel
theorem d_Re_findReached_16 : decode b_Re_findReached 16 = .ok (.getfield 9, 3) := by decide +kernel
theorem d_Re_findReached_19 : decode b_Re_findReached 19 = .ok (.iload_n 2, 1) := by decide +kernel
theorem d_Re_findReached_20 : decode b_Re_findReached 20 = .ok (.lconst 1, 1) := by decide +kernel
theorem d_Re_findReached_21 : decode b_Re_findReached 21 = .ok (.iload_n 2, 1) := by decide +kernel
theorem d_Re_findReached_22 : decode b_Re_findReached 22 = .ok (.lshl, 1) := by decide +kernel
theorem d_Re_findReached_23 : decode b_Re_findReached 23 = .ok (.lastore, 1) := by decide +kernel
theorem d_Re_findReached_24 : decode b_Re_findReached 24 = .ok (.iinc 2 1, 3) := by decide +kernel
theorem d_Re_findReached_27 : decode b_Re_findReached 27 = .ok (.goto (-17), 3) := by decide +kernel
theorem d_Re_findReached_30 : decode b_Re_findReached 30 = .ok (.iconst 0, 1) := by decide +kernel
theorem d_Re_findReached_31 : decode b_Re_findReached 31 = .ok (.istore_n 2, 1) := by decide +kernel
theorem d_Re_findReached_32 : decode b_Re_findReached 32 = .ok (.iload_n 2, 1) := by decide +kernel
theorem d_Re_findReached_33 : decode b_Re_findReached 33 = .ok (.aload_n 0, 1) := by decide +kernel
theorem d_Re_findReached_34 : decode b_Re_findReached 34 = .ok (.getfield 33, 3) := by decide +kernel
theorem d_Re_findReached_37 : decode b_Re_findReached 37 = .ok (.invokevirtual 70, 3) := by decide +kernel
theorem d_Re_findReached_40 : decode b_Re_findReached 40 = .ok (.if_icmp .ge 35, 3) := by decide +kernel
theorem d_Re_findReached_43 : decode b_Re_findReached 43 = .ok (.aload_n 0, 1) := by decide +kernel
theorem d_Re_findReached_44 : decode b_Re_findReached 44 = .ok (.getfield 9, 3) := by decide +kernel
theorem d_Re_findReached_47 : decode b_Re_findReached 47 = .ok (.aload_n 0, 1) := by decide +kernel
theorem d_Re_findReached_48 : decode b_Re_findReached 48 = .ok (.getfield 33, 3) := by decide +kernel
theorem d_Re_findReached_51 : decode b_Re_findReached 51 = .ok (.iload_n 2, 1) := by decide +kernel
theorem d_Re_findReached_52 : decode b_Re_findReached 52 = .ok (.invokevirtual 71, 3) := by decide +kernel
theorem d_Re_findReached_55 : decode b_Re_findReached 55 = .ok (.dup2, 1) := by decide +kernel
theorem d_Re_findReached_56 : decode b_Re_findReached 56 = .ok (.laload, 1) := by decide +kernel
theorem d_Re_findReached_57 : decode b_Re_findReached 57 = .ok (.lconst 1, 1) := by decide +kernel
theorem d_Re_findReached_58 : decode b_Re_findReached 58 = .ok (.aload_n 0, 1) := by decide +kernel
theorem d_Re_findReached_59 : decode b_Re_findReached 59 = .ok (.getfield 33, 3) := by decide +kernel
theorem d_Re_findReached_62 : decode b_Re_findReached 62 = .ok (.iload_n 2, 1) := by decide +kernel
theorem d_Re_findReached_63 : decode b_Re_findReached 63 = .ok (.invokevirtual 74, 3) := by decide +kernel
theorem d_Re_findReached_66 : decode b_Re_findReached 66 = .ok (.lshl, 1) := by decide +kernel
theorem d_Re_findReached_67 : decode b_Re_findReached 67 = .ok (.lor, 1) := by decide +kernel
theorem d_Re_findReached_68 : decode b_Re_findReached 68 = .ok (.lastore, 1) := by decide +kernel
theorem d_Re_findReached_69 : decode b_Re_findReached 69 = .ok (.iinc 2 1, 3) := by decide +kernel
theorem d_Re_findReached_72 : decode b_Re_findReached 72 = .ok (.goto (-40), 3) := by decide +kernel
theorem d_Re_findReached_75 : decode b_Re_findReached 75 = .ok (.iconst 1, 1) := by decide +kernel
theorem d_Re_findReached_76 : decode b_Re_findReached 76 = .ok (.istore_n 2, 1) := by decide +kernel
theorem d_Re_findReached_77 : decode b_Re_findReached 77 = .ok (.iconst 0, 1) := by decide +kernel
theorem d_Re_findReached_78 : decode b_Re_findReached 78 = .ok (.istore_n 3, 1) := by decide +kernel
