theorem cl_IA : Cond.classLink "GroundReach" 70 xIA ∈ gtbl := gmem (List.mem_append_right _ (List.mem_of_getElem? (i := 358) (by decide +kernel))) (by decide +kernel)
theorem in_IA : Cond.initialized xIA ∈ gtbl := gmem (List.mem_append_right _ (List.mem_of_getElem? (i := 15) (by decide +kernel))) (by decide +kernel)
theorem is_IA : Cond.instantiable xIA 6 ∈ gtbl := gmem (List.mem_append_right _ (List.mem_of_getElem? (i := 359) (by decide +kernel))) (by decide +kernel)
theorem cl_IS : Cond.classLink "GroundReach" 77 xIS ∈ gtbl := gmem (List.mem_append_right _ (List.mem_of_getElem? (i := 441) (by decide +kernel))) (by decide +kernel)
theorem in_IS : Cond.initialized xIS ∈ gtbl := gmem (List.mem_append_right _ (List.mem_of_getElem? (i := 16) (by decide +kernel))) (by decide +kernel)
theorem is_IS : Cond.instantiable xIS 6 ∈ gtbl := gmem (List.mem_append_right _ (List.mem_of_getElem? (i := 442) (by decide +kernel))) (by decide +kernel)
theorem cl_IB : Cond.classLink "GroundReach" 149 xIB ∈ gtbl := gmem (List.mem_append_right _ (List.mem_of_getElem? (i := 670) (by decide +kernel))) (by decide +kernel)
theorem in_IB : Cond.initialized xIB ∈ gtbl := gmem (List.mem_append_right _ (List.mem_of_getElem? (i := 17) (by decide +kernel))) (by decide +kernel)
theorem is_IB : Cond.instantiable xIB 6 ∈ gtbl := gmem (List.mem_append_right _ (List.mem_of_getElem? (i := 671) (by decide +kernel))) (by decide +kernel)
abbrev b_Gr_term : ByteArray := prog_1_method_2_code
def y_Gr_term : MethodName := ⟨R_Gr, "term", "(III)I"⟩
theorem k_Gr_term : kV y_Gr_term b_Gr_term 5 (some .int) 3 := ⟨gmem (List.mem_append_right _ (List.mem_of_getElem? (i := 346) (by decide +kernel))) (by decide +kernel), gmem (List.mem_append_right _ (List.mem_of_getElem? (i := 347) (by decide +kernel))) (by decide +kernel), in_Gr, gmem (List.mem_append_right _ (List.mem_of_getElem? (i := 348) (by decide +kernel))) (by decide +kernel), by decide, by decide, by decide +kernel⟩
theorem d_Gr_term_0 : decode b_Gr_term 0 = .ok (.aload_n 0, 1) := by decide +kernel
theorem d_Gr_term_1 : decode b_Gr_term 1 = .ok (.getfield 14, 3) := by decide +kernel
theorem d_Gr_term_4 : decode b_Gr_term 4 = .ok (.iload_n 1, 1) := by decide +kernel
theorem d_Gr_term_5 : decode b_Gr_term 5 = .ok (.iload_n 2, 1) := by decide +kernel
theorem d_Gr_term_6 : decode b_Gr_term 6 = .ok (.iload_n 3, 1) := by decide +kernel
theorem d_Gr_term_7 : decode b_Gr_term 7 = .ok (.invokevirtual 66, 3) := by decide +kernel
theorem d_Gr_term_10 : decode b_Gr_term 10 = .ok (.ifCond .ne 11, 3) := by decide +kernel
theorem d_Gr_term_13 : decode b_Gr_term 13 = .ok (.new 70, 3) := by decide +kernel
theorem d_Gr_term_16 : decode b_Gr_term 16 = .ok (.dup, 1) := by decide +kernel
theorem d_Gr_term_17 : decode b_Gr_term 17 = .ok (.invokespecial 72, 3) := by decide +kernel
theorem d_Gr_term_20 : decode b_Gr_term 20 = .ok (.athrow, 1) := by decide +kernel
theorem d_Gr_term_21 : decode b_Gr_term 21 = .ok (.aload_n 0, 1) := by decide +kernel
theorem d_Gr_term_22 : decode b_Gr_term 22 = .ok (.getfield 14, 3) := by decide +kernel
theorem d_Gr_term_25 : decode b_Gr_term 25 = .ok (.iload_n 1, 1) := by decide +kernel
theorem d_Gr_term_26 : decode b_Gr_term 26 = .ok (.iload_n 2, 1) := by decide +kernel
theorem d_Gr_term_27 : decode b_Gr_term 27 = .ok (.iload_n 3, 1) := by decide +kernel
theorem d_Gr_term_28 : decode b_Gr_term 28 = .ok (.invokevirtual 73, 3) := by decide +kernel
theorem d_Gr_term_31 : decode b_Gr_term 31 = .ok (.istore 4, 2) := by decide +kernel
theorem d_Gr_term_33 : decode b_Gr_term 33 = .ok (.iload 4, 2) := by decide +kernel
theorem d_Gr_term_35 : decode b_Gr_term 35 = .ok (.iconst (-1), 1) := by decide +kernel
theorem d_Gr_term_36 : decode b_Gr_term 36 = .ok (.if_icmp .ne 11, 3) := by decide +kernel
theorem d_Gr_term_39 : decode b_Gr_term 39 = .ok (.new 77, 3) := by decide +kernel
theorem d_Gr_term_42 : decode b_Gr_term 42 = .ok (.dup, 1) := by decide +kernel
theorem d_Gr_term_43 : decode b_Gr_term 43 = .ok (.invokespecial 79, 3) := by decide +kernel
theorem d_Gr_term_46 : decode b_Gr_term 46 = .ok (.athrow, 1) := by decide +kernel
theorem d_Gr_term_47 : decode b_Gr_term 47 = .ok (.iload 4, 2) := by decide +kernel
theorem d_Gr_term_49 : decode b_Gr_term 49 = .ok (.ireturn, 1) := by decide +kernel
abbrev b_Gr_rule : ByteArray := prog_1_method_4_code
def y_Gr_rule : MethodName := ⟨R_Gr, "rule", "(II)I"⟩
theorem k_Gr_rule : kV y_Gr_rule b_Gr_rule 4 (some .int) 2 := ⟨gmem (List.mem_append_right _ (List.mem_of_getElem? (i := 460) (by decide +kernel))) (by decide +kernel), gmem (List.mem_append_right _ (List.mem_of_getElem? (i := 461) (by decide +kernel))) (by decide +kernel), in_Gr, gmem (List.mem_append_right _ (List.mem_of_getElem? (i := 462) (by decide +kernel))) (by decide +kernel), by decide, by decide, by decide +kernel⟩
theorem d_Gr_rule_0 : decode b_Gr_rule 0 = .ok (.aload_n 0, 1) := by decide +kernel
theorem d_Gr_rule_1 : decode b_Gr_rule 1 = .ok (.getfield 14, 3) := by decide +kernel
theorem d_Gr_rule_4 : decode b_Gr_rule 4 = .ok (.iload_n 1, 1) := by decide +kernel
theorem d_Gr_rule_5 : decode b_Gr_rule 5 = .ok (.invokevirtual 80, 3) := by decide +kernel
theorem d_Gr_rule_8 : decode b_Gr_rule 8 = .ok (.ifCond .eq 19, 3) := by decide +kernel
theorem d_Gr_rule_11 : decode b_Gr_rule 11 = .ok (.aload_n 0, 1) := by decide +kernel
theorem d_Gr_rule_12 : decode b_Gr_rule 12 = .ok (.getfield 14, 3) := by decide +kernel
theorem d_Gr_rule_15 : decode b_Gr_rule 15 = .ok (.iload_n 2, 1) := by decide +kernel
theorem d_Gr_rule_16 : decode b_Gr_rule 16 = .ok (.invokevirtual 80, 3) := by decide +kernel
theorem d_Gr_rule_19 : decode b_Gr_rule 19 = .ok (.ifCond .eq 8, 3) := by decide +kernel
theorem d_Gr_rule_22 : decode b_Gr_rule 22 = .ok (.iload_n 1, 1) := by decide +kernel
theorem d_Gr_rule_23 : decode b_Gr_rule 23 = .ok (.iload_n 2, 1) := by decide +kernel
theorem d_Gr_rule_24 : decode b_Gr_rule 24 = .ok (.if_icmp .ne 11, 3) := by decide +kernel
theorem d_Gr_rule_27 : decode b_Gr_rule 27 = .ok (.new 70, 3) := by decide +kernel
theorem d_Gr_rule_30 : decode b_Gr_rule 30 = .ok (.dup, 1) := by decide +kernel
theorem d_Gr_rule_31 : decode b_Gr_rule 31 = .ok (.invokespecial 72, 3) := by decide +kernel
theorem d_Gr_rule_34 : decode b_Gr_rule 34 = .ok (.athrow, 1) := by decide +kernel
theorem d_Gr_rule_35 : decode b_Gr_rule 35 = .ok (.aload_n 0, 1) := by decide +kernel
theorem d_Gr_rule_36 : decode b_Gr_rule 36 = .ok (.getfield 21, 3) := by decide +kernel
theorem d_Gr_rule_39 : decode b_Gr_rule 39 = .ok (.iload_n 1, 1) := by decide +kernel
theorem d_Gr_rule_40 : decode b_Gr_rule 40 = .ok (.iload_n 2, 1) := by decide +kernel
theorem d_Gr_rule_41 : decode b_Gr_rule 41 = .ok (.invokevirtual 100, 3) := by decide +kernel
theorem d_Gr_rule_44 : decode b_Gr_rule 44 = .ok (.istore_n 3, 1) := by decide +kernel
theorem d_Gr_rule_45 : decode b_Gr_rule 45 = .ok (.iload_n 3, 1) := by decide +kernel
theorem d_Gr_rule_46 : decode b_Gr_rule 46 = .ok (.iconst (-1), 1) := by decide +kernel
theorem d_Gr_rule_47 : decode b_Gr_rule 47 = .ok (.if_icmp .ne 11, 3) := by decide +kernel
theorem d_Gr_rule_50 : decode b_Gr_rule 50 = .ok (.new 77, 3) := by decide +kernel
theorem d_Gr_rule_53 : decode b_Gr_rule 53 = .ok (.dup, 1) := by decide +kernel
theorem d_Gr_rule_54 : decode b_Gr_rule 54 = .ok (.invokespecial 79, 3) := by decide +kernel
theorem d_Gr_rule_57 : decode b_Gr_rule 57 = .ok (.athrow, 1) := by decide +kernel
theorem d_Gr_rule_58 : decode b_Gr_rule 58 = .ok (.iload_n 3, 1) := by decide +kernel
theorem d_Gr_rule_59 : decode b_Gr_rule 59 = .ok (.ireturn, 1) := by decide +kernel
abbrev b_Gr_edge : ByteArray := prog_1_method_6_code
def y_Gr_edge : MethodName := ⟨R_Gr, "edge", "(IIII)Z"⟩
theorem k_Gr_edge : kV y_Gr_edge b_Gr_edge 5 (some .boolean) 4 := ⟨gmem (List.mem_append_right _ (List.mem_of_getElem? (i := 471) (by decide +kernel))) (by decide +kernel), gmem (List.mem_append_right _ (List.mem_of_getElem? (i := 472) (by decide +kernel))) (by decide +kernel), in_Gr, gmem (List.mem_append_right _ (List.mem_of_getElem? (i := 473) (by decide +kernel))) (by decide +kernel), by decide, by decide, by decide +kernel⟩
theorem d_Gr_edge_0 : decode b_Gr_edge 0 = .ok (.aload_n 0, 1) := by decide +kernel
theorem d_Gr_edge_1 : decode b_Gr_edge 1 = .ok (.getfield 30, 3) := by decide +kernel
theorem d_Gr_edge_4 : decode b_Gr_edge 4 = .ok (.iload_n 1, 1) := by decide +kernel
theorem d_Gr_edge_5 : decode b_Gr_edge 5 = .ok (.iload_n 2, 1) := by decide +kernel
theorem d_Gr_edge_6 : decode b_Gr_edge 6 = .ok (.iload_n 3, 1) := by decide +kernel
theorem d_Gr_edge_7 : decode b_Gr_edge 7 = .ok (.iload 4, 2) := by decide +kernel
theorem d_Gr_edge_9 : decode b_Gr_edge 9 = .ok (.invokevirtual 108, 3) := by decide +kernel
theorem d_Gr_edge_12 : decode b_Gr_edge 12 = .ok (.ifCond .ne 11, 3) := by decide +kernel
theorem d_Gr_edge_15 : decode b_Gr_edge 15 = .ok (.new 70, 3) := by decide +kernel
theorem d_Gr_edge_18 : decode b_Gr_edge 18 = .ok (.dup, 1) := by decide +kernel
theorem d_Gr_edge_19 : decode b_Gr_edge 19 = .ok (.invokespecial 72, 3) := by decide +kernel
theorem d_Gr_edge_22 : decode b_Gr_edge 22 = .ok (.athrow, 1) := by decide +kernel
theorem d_Gr_edge_23 : decode b_Gr_edge 23 = .ok (.aload_n 0, 1) := by decide +kernel
theorem d_Gr_edge_24 : decode b_Gr_edge 24 = .ok (.getfield 30, 3) := by decide +kernel
theorem d_Gr_edge_27 : decode b_Gr_edge 27 = .ok (.iload_n 1, 1) := by decide +kernel
theorem d_Gr_edge_28 : decode b_Gr_edge 28 = .ok (.iload_n 2, 1) := by decide +kernel
theorem d_Gr_edge_29 : decode b_Gr_edge 29 = .ok (.iload_n 3, 1) := by decide +kernel
theorem d_Gr_edge_30 : decode b_Gr_edge 30 = .ok (.iload 4, 2) := by decide +kernel
theorem d_Gr_edge_32 : decode b_Gr_edge 32 = .ok (.invokevirtual 111, 3) := by decide +kernel
theorem d_Gr_edge_35 : decode b_Gr_edge 35 = .ok (.ifCond .eq 5, 3) := by decide +kernel
theorem d_Gr_edge_38 : decode b_Gr_edge 38 = .ok (.iconst 0, 1) := by decide +kernel
theorem d_Gr_edge_39 : decode b_Gr_edge 39 = .ok (.ireturn, 1) := by decide +kernel
theorem d_Gr_edge_40 : decode b_Gr_edge 40 = .ok (.aload_n 0, 1) := by decide +kernel
theorem d_Gr_edge_41 : decode b_Gr_edge 41 = .ok (.getfield 30, 3) := by decide +kernel
theorem d_Gr_edge_44 : decode b_Gr_edge 44 = .ok (.iload_n 1, 1) := by decide +kernel
theorem d_Gr_edge_45 : decode b_Gr_edge 45 = .ok (.iload_n 2, 1) := by decide +kernel
theorem d_Gr_edge_46 : decode b_Gr_edge 46 = .ok (.iload_n 3, 1) := by decide +kernel
theorem d_Gr_edge_47 : decode b_Gr_edge 47 = .ok (.iload 4, 2) := by decide +kernel
theorem d_Gr_edge_49 : decode b_Gr_edge 49 = .ok (.invokevirtual 114, 3) := by decide +kernel
theorem d_Gr_edge_52 : decode b_Gr_edge 52 = .ok (.ifCond .ne 11, 3) := by decide +kernel
theorem d_Gr_edge_55 : decode b_Gr_edge 55 = .ok (.new 77, 3) := by decide +kernel
theorem d_Gr_edge_58 : decode b_Gr_edge 58 = .ok (.dup, 1) := by decide +kernel
theorem d_Gr_edge_59 : decode b_Gr_edge 59 = .ok (.invokespecial 79, 3) := by decide +kernel
theorem d_Gr_edge_62 : decode b_Gr_edge 62 = .ok (.athrow, 1) := by decide +kernel
theorem d_Gr_edge_63 : decode b_Gr_edge 63 = .ok (.iconst 1, 1) := by decide +kernel
theorem d_Gr_edge_64 : decode b_Gr_edge 64 = .ok (.ireturn, 1) := by decide +kernel
abbrev b_Gr_reaches : ByteArray := prog_1_method_8_code
def y_Gr_reaches : MethodName := ⟨R_Gr, "reaches", "(II)Z"⟩
theorem k_Gr_reaches : kV y_Gr_reaches b_Gr_reaches 3 (some .boolean) 2 := ⟨gmem (List.mem_append_right _ (List.mem_of_getElem? (i := 493) (by decide +kernel))) (by decide +kernel), gmem (List.mem_append_right _ (List.mem_of_getElem? (i := 494) (by decide +kernel))) (by decide +kernel), in_Gr, gmem (List.mem_append_right _ (List.mem_of_getElem? (i := 495) (by decide +kernel))) (by decide +kernel), by decide, by decide, by decide +kernel⟩
theorem d_Gr_reaches_0 : decode b_Gr_reaches 0 = .ok (.aload_n 0, 1) := by decide +kernel
theorem d_Gr_reaches_1 : decode b_Gr_reaches 1 = .ok (.getfield 14, 3) := by decide +kernel
theorem d_Gr_reaches_4 : decode b_Gr_reaches 4 = .ok (.iload_n 1, 1) := by decide +kernel
theorem d_Gr_reaches_5 : decode b_Gr_reaches 5 = .ok (.invokevirtual 80, 3) := by decide +kernel
theorem d_Gr_reaches_8 : decode b_Gr_reaches 8 = .ok (.ifCond .eq 14, 3) := by decide +kernel
theorem d_Gr_reaches_11 : decode b_Gr_reaches 11 = .ok (.aload_n 0, 1) := by decide +kernel
theorem d_Gr_reaches_12 : decode b_Gr_reaches 12 = .ok (.getfield 14, 3) := by decide +kernel
theorem d_Gr_reaches_15 : decode b_Gr_reaches 15 = .ok (.iload_n 2, 1) := by decide +kernel
theorem d_Gr_reaches_16 : decode b_Gr_reaches 16 = .ok (.invokevirtual 80, 3) := by decide +kernel
theorem d_Gr_reaches_19 : decode b_Gr_reaches 19 = .ok (.ifCond .ne 11, 3) := by decide +kernel
theorem d_Gr_reaches_22 : decode b_Gr_reaches 22 = .ok (.new 70, 3) := by decide +kernel
theorem d_Gr_reaches_25 : decode b_Gr_reaches 25 = .ok (.dup, 1) := by decide +kernel
theorem d_Gr_reaches_26 : decode b_Gr_reaches 26 = .ok (.invokespecial 72, 3) := by decide +kernel
theorem d_Gr_reaches_29 : decode b_Gr_reaches 29 = .ok (.athrow, 1) := by decide +kernel
theorem d_Gr_reaches_30 : decode b_Gr_reaches 30 = .ok (.aload_n 0, 1) := by decide +kernel
theorem d_Gr_reaches_31 : decode b_Gr_reaches 31 = .ok (.getfield 39, 3) := by decide +kernel
theorem d_Gr_reaches_34 : decode b_Gr_reaches 34 = .ok (.invokevirtual 123, 3) := by decide +kernel
theorem d_Gr_reaches_37 : decode b_Gr_reaches 37 = .ok (.aload_n 0, 1) := by decide +kernel
theorem d_Gr_reaches_38 : decode b_Gr_reaches 38 = .ok (.getfield 39, 3) := by decide +kernel
theorem d_Gr_reaches_41 : decode b_Gr_reaches 41 = .ok (.iload_n 1, 1) := by decide +kernel
theorem d_Gr_reaches_42 : decode b_Gr_reaches 42 = .ok (.iload_n 2, 1) := by decide +kernel
theorem d_Gr_reaches_43 : decode b_Gr_reaches 43 = .ok (.invokevirtual 126, 3) := by decide +kernel
theorem d_Gr_reaches_46 : decode b_Gr_reaches 46 = .ok (.ireturn, 1) := by decide +kernel
abbrev b_Gr_meet : ByteArray := prog_1_method_9_code
def y_Gr_meet : MethodName := ⟨R_Gr, "meet", "(II)Z"⟩
theorem k_Gr_meet : kV y_Gr_meet b_Gr_meet 3 (some .boolean) 2 := ⟨gmem (List.mem_append_right _ (List.mem_of_getElem? (i := 545) (by decide +kernel))) (by decide +kernel), gmem (List.mem_append_right _ (List.mem_of_getElem? (i := 546) (by decide +kernel))) (by decide +kernel), in_Gr, gmem (List.mem_append_right _ (List.mem_of_getElem? (i := 547) (by decide +kernel))) (by decide +kernel), by decide, by decide, by decide +kernel⟩
theorem d_Gr_meet_0 : decode b_Gr_meet 0 = .ok (.aload_n 0, 1) := by decide +kernel
theorem d_Gr_meet_1 : decode b_Gr_meet 1 = .ok (.getfield 14, 3) := by decide +kernel
theorem d_Gr_meet_4 : decode b_Gr_meet 4 = .ok (.iload_n 1, 1) := by decide +kernel
theorem d_Gr_meet_5 : decode b_Gr_meet 5 = .ok (.invokevirtual 80, 3) := by decide +kernel
theorem d_Gr_meet_8 : decode b_Gr_meet 8 = .ok (.ifCond .eq 14, 3) := by decide +kernel
theorem d_Gr_meet_11 : decode b_Gr_meet 11 = .ok (.aload_n 0, 1) := by decide +kernel
theorem d_Gr_meet_12 : decode b_Gr_meet 12 = .ok (.getfield 14, 3) := by decide +kernel
theorem d_Gr_meet_15 : decode b_Gr_meet 15 = .ok (.iload_n 2, 1) := by decide +kernel
theorem d_Gr_meet_16 : decode b_Gr_meet 16 = .ok (.invokevirtual 80, 3) := by decide +kernel
theorem d_Gr_meet_19 : decode b_Gr_meet 19 = .ok (.ifCond .ne 11, 3) := by decide +kernel
theorem d_Gr_meet_22 : decode b_Gr_meet 22 = .ok (.new 70, 3) := by decide +kernel
theorem d_Gr_meet_25 : decode b_Gr_meet 25 = .ok (.dup, 1) := by decide +kernel
theorem d_Gr_meet_26 : decode b_Gr_meet 26 = .ok (.invokespecial 72, 3) := by decide +kernel
theorem d_Gr_meet_29 : decode b_Gr_meet 29 = .ok (.athrow, 1) := by decide +kernel
theorem d_Gr_meet_30 : decode b_Gr_meet 30 = .ok (.aload_n 0, 1) := by decide +kernel
theorem d_Gr_meet_31 : decode b_Gr_meet 31 = .ok (.getfield 39, 3) := by decide +kernel
theorem d_Gr_meet_34 : decode b_Gr_meet 34 = .ok (.invokevirtual 123, 3) := by decide +kernel
theorem d_Gr_meet_37 : decode b_Gr_meet 37 = .ok (.aload_n 0, 1) := by decide +kernel
theorem d_Gr_meet_38 : decode b_Gr_meet 38 = .ok (.getfield 39, 3) := by decide +kernel
theorem d_Gr_meet_41 : decode b_Gr_meet 41 = .ok (.iload_n 1, 1) := by decide +kernel
theorem d_Gr_meet_42 : decode b_Gr_meet 42 = .ok (.iload_n 2, 1) := by decide +kernel
theorem d_Gr_meet_43 : decode b_Gr_meet 43 = .ok (.invokevirtual 130, 3) := by decide +kernel
theorem d_Gr_meet_46 : decode b_Gr_meet 46 = .ok (.ireturn, 1) := by decide +kernel
abbrev b_Gr_has : ByteArray := prog_1_method_10_code
def y_Gr_has : MethodName := ⟨R_Gr, "has", "(I)Z"⟩
theorem k_Gr_has : kV y_Gr_has b_Gr_has 2 (some .boolean) 1 := ⟨gmem (List.mem_append_right _ (List.mem_of_getElem? (i := 564) (by decide +kernel))) (by decide +kernel), gmem (List.mem_append_right _ (List.mem_of_getElem? (i := 565) (by decide +kernel))) (by decide +kernel), in_Gr, gmem (List.mem_append_right _ (List.mem_of_getElem? (i := 566) (by decide +kernel))) (by decide +kernel), by decide, by decide, by decide +kernel⟩
theorem d_Gr_has_0 : decode b_Gr_has 0 = .ok (.aload_n 0, 1) := by decide +kernel
theorem d_Gr_has_1 : decode b_Gr_has 1 = .ok (.getfield 14, 3) := by decide +kernel
theorem d_Gr_has_4 : decode b_Gr_has 4 = .ok (.iload_n 1, 1) := by decide +kernel
theorem d_Gr_has_5 : decode b_Gr_has 5 = .ok (.invokevirtual 80, 3) := by decide +kernel
theorem d_Gr_has_8 : decode b_Gr_has 8 = .ok (.ifCond .ne 11, 3) := by decide +kernel
theorem d_Gr_has_11 : decode b_Gr_has 11 = .ok (.new 70, 3) := by decide +kernel
theorem d_Gr_has_14 : decode b_Gr_has 14 = .ok (.dup, 1) := by decide +kernel
theorem d_Gr_has_15 : decode b_Gr_has 15 = .ok (.invokespecial 72, 3) := by decide +kernel
theorem d_Gr_has_18 : decode b_Gr_has 18 = .ok (.athrow, 1) := by decide +kernel
theorem d_Gr_has_19 : decode b_Gr_has 19 = .ok (.aload_n 0, 1) := by decide +kernel
theorem d_Gr_has_20 : decode b_Gr_has 20 = .ok (.getfield 30, 3) := by decide +kernel
theorem d_Gr_has_23 : decode b_Gr_has 23 = .ok (.aload_n 0, 1) := by decide +kernel
theorem d_Gr_has_24 : decode b_Gr_has 24 = .ok (.getfield 48, 3) := by decide +kernel
theorem d_Gr_has_27 : decode b_Gr_has 27 = .ok (.iload_n 1, 1) := by decide +kernel
theorem d_Gr_has_28 : decode b_Gr_has 28 = .ok (.invokevirtual 133, 3) := by decide +kernel
theorem d_Gr_has_31 : decode b_Gr_has 31 = .ok (.invokevirtual 136, 3) := by decide +kernel
theorem d_Gr_has_34 : decode b_Gr_has 34 = .ok (.ireturn, 1) := by decide +kernel
abbrev b_Gr_from : ByteArray := prog_1_method_11_code
def y_Gr_from : MethodName := ⟨R_Gr, "from", "(I)Z"⟩
theorem k_Gr_from : kV y_Gr_from b_Gr_from 2 (some .boolean) 1 := ⟨gmem (List.mem_append_right _ (List.mem_of_getElem? (i := 597) (by decide +kernel))) (by decide +kernel), gmem (List.mem_append_right _ (List.mem_of_getElem? (i := 598) (by decide +kernel))) (by decide +kernel), in_Gr, gmem (List.mem_append_right _ (List.mem_of_getElem? (i := 599) (by decide +kernel))) (by decide +kernel), by decide, by decide, by decide +kernel⟩
theorem d_Gr_from_0 : decode b_Gr_from 0 = .ok (.aload_n 0, 1) := by decide +kernel
theorem d_Gr_from_1 : decode b_Gr_from 1 = .ok (.getfield 14, 3) := by decide +kernel
theorem d_Gr_from_4 : decode b_Gr_from 4 = .ok (.iload_n 1, 1) := by decide +kernel
theorem d_Gr_from_5 : decode b_Gr_from 5 = .ok (.invokevirtual 80, 3) := by decide +kernel
theorem d_Gr_from_8 : decode b_Gr_from 8 = .ok (.ifCond .ne 11, 3) := by decide +kernel
theorem d_Gr_from_11 : decode b_Gr_from 11 = .ok (.new 70, 3) := by decide +kernel
theorem d_Gr_from_14 : decode b_Gr_from 14 = .ok (.dup, 1) := by decide +kernel
theorem d_Gr_from_15 : decode b_Gr_from 15 = .ok (.invokespecial 72, 3) := by decide +kernel
theorem d_Gr_from_18 : decode b_Gr_from 18 = .ok (.athrow, 1) := by decide +kernel
theorem d_Gr_from_19 : decode b_Gr_from 19 = .ok (.aload_n 0, 1) := by decide +kernel
theorem d_Gr_from_20 : decode b_Gr_from 20 = .ok (.getfield 39, 3) := by decide +kernel
theorem d_Gr_from_23 : decode b_Gr_from 23 = .ok (.invokevirtual 123, 3) := by decide +kernel
theorem d_Gr_from_26 : decode b_Gr_from 26 = .ok (.aload_n 0, 1) := by decide +kernel
theorem d_Gr_from_27 : decode b_Gr_from 27 = .ok (.getfield 30, 3) := by decide +kernel
theorem d_Gr_from_30 : decode b_Gr_from 30 = .ok (.aload_n 0, 1) := by decide +kernel
theorem d_Gr_from_31 : decode b_Gr_from 31 = .ok (.getfield 48, 3) := by decide +kernel
theorem d_Gr_from_34 : decode b_Gr_from 34 = .ok (.iload_n 1, 1) := by decide +kernel
theorem d_Gr_from_35 : decode b_Gr_from 35 = .ok (.invokevirtual 139, 3) := by decide +kernel
theorem d_Gr_from_38 : decode b_Gr_from 38 = .ok (.invokevirtual 136, 3) := by decide +kernel
theorem d_Gr_from_41 : decode b_Gr_from 41 = .ok (.ireturn, 1) := by decide +kernel
abbrev b_Gr_into : ByteArray := prog_1_method_12_code
def y_Gr_into : MethodName := ⟨R_Gr, "into", "(I)Z"⟩
theorem k_Gr_into : kV y_Gr_into b_Gr_into 2 (some .boolean) 1 := ⟨gmem (List.mem_append_right _ (List.mem_of_getElem? (i := 617) (by decide +kernel))) (by decide +kernel), gmem (List.mem_append_right _ (List.mem_of_getElem? (i := 618) (by decide +kernel))) (by decide +kernel), in_Gr, gmem (List.mem_append_right _ (List.mem_of_getElem? (i := 619) (by decide +kernel))) (by decide +kernel), by decide, by decide, by decide +kernel⟩
theorem d_Gr_into_0 : decode b_Gr_into 0 = .ok (.aload_n 0, 1) := by decide +kernel
theorem d_Gr_into_1 : decode b_Gr_into 1 = .ok (.getfield 14, 3) := by decide +kernel
theorem d_Gr_into_4 : decode b_Gr_into 4 = .ok (.iload_n 1, 1) := by decide +kernel
theorem d_Gr_into_5 : decode b_Gr_into 5 = .ok (.invokevirtual 80, 3) := by decide +kernel
theorem d_Gr_into_8 : decode b_Gr_into 8 = .ok (.ifCond .ne 11, 3) := by decide +kernel
theorem d_Gr_into_11 : decode b_Gr_into 11 = .ok (.new 70, 3) := by decide +kernel
theorem d_Gr_into_14 : decode b_Gr_into 14 = .ok (.dup, 1) := by decide +kernel
theorem d_Gr_into_15 : decode b_Gr_into 15 = .ok (.invokespecial 72, 3) := by decide +kernel
theorem d_Gr_into_18 : decode b_Gr_into 18 = .ok (.athrow, 1) := by decide +kernel
theorem d_Gr_into_19 : decode b_Gr_into 19 = .ok (.aload_n 0, 1) := by decide +kernel
theorem d_Gr_into_20 : decode b_Gr_into 20 = .ok (.getfield 39, 3) := by decide +kernel
theorem d_Gr_into_23 : decode b_Gr_into 23 = .ok (.invokevirtual 123, 3) := by decide +kernel
theorem d_Gr_into_26 : decode b_Gr_into 26 = .ok (.aload_n 0, 1) := by decide +kernel
theorem d_Gr_into_27 : decode b_Gr_into 27 = .ok (.getfield 30, 3) := by decide +kernel
theorem d_Gr_into_30 : decode b_Gr_into 30 = .ok (.aload_n 0, 1) := by decide +kernel
theorem d_Gr_into_31 : decode b_Gr_into 31 = .ok (.getfield 48, 3) := by decide +kernel
theorem d_Gr_into_34 : decode b_Gr_into 34 = .ok (.iload_n 1, 1) := by decide +kernel
theorem d_Gr_into_35 : decode b_Gr_into 35 = .ok (.invokevirtual 142, 3) := by decide +kernel
theorem d_Gr_into_38 : decode b_Gr_into 38 = .ok (.invokevirtual 136, 3) := by decide +kernel
theorem d_Gr_into_41 : decode b_Gr_into 41 = .ok (.ireturn, 1) := by decide +kernel
abbrev b_Gr_least : ByteArray := prog_1_method_13_code
def y_Gr_least : MethodName := ⟨R_Gr, "least", "(I)I"⟩
theorem k_Gr_least : kV y_Gr_least b_Gr_least 2 (some .int) 1 := ⟨gmem (List.mem_append_right _ (List.mem_of_getElem? (i := 628) (by decide +kernel))) (by decide +kernel), gmem (List.mem_append_right _ (List.mem_of_getElem? (i := 629) (by decide +kernel))) (by decide +kernel), in_Gr, gmem (List.mem_append_right _ (List.mem_of_getElem? (i := 630) (by decide +kernel))) (by decide +kernel), by decide, by decide, by decide +kernel⟩
theorem d_Gr_least_0 : decode b_Gr_least 0 = .ok (.aload_n 0, 1) := by decide +kernel
theorem d_Gr_least_1 : decode b_Gr_least 1 = .ok (.getfield 14, 3) := by decide +kernel
theorem d_Gr_least_4 : decode b_Gr_least 4 = .ok (.iload_n 1, 1) := by decide +kernel
theorem d_Gr_least_5 : decode b_Gr_least 5 = .ok (.invokevirtual 80, 3) := by decide +kernel
theorem d_Gr_least_8 : decode b_Gr_least 8 = .ok (.ifCond .ne 11, 3) := by decide +kernel
theorem d_Gr_least_11 : decode b_Gr_least 11 = .ok (.new 70, 3) := by decide +kernel
theorem d_Gr_least_14 : decode b_Gr_least 14 = .ok (.dup, 1) := by decide +kernel
theorem d_Gr_least_15 : decode b_Gr_least 15 = .ok (.invokespecial 72, 3) := by decide +kernel
theorem d_Gr_least_18 : decode b_Gr_least 18 = .ok (.athrow, 1) := by decide +kernel
theorem d_Gr_least_19 : decode b_Gr_least 19 = .ok (.aload_n 0, 1) := by decide +kernel
theorem d_Gr_least_20 : decode b_Gr_least 20 = .ok (.getfield 39, 3) := by decide +kernel
theorem d_Gr_least_23 : decode b_Gr_least 23 = .ok (.invokevirtual 123, 3) := by decide +kernel
theorem d_Gr_least_26 : decode b_Gr_least 26 = .ok (.aload_n 0, 1) := by decide +kernel
theorem d_Gr_least_27 : decode b_Gr_least 27 = .ok (.getfield 39, 3) := by decide +kernel
theorem d_Gr_least_30 : decode b_Gr_least 30 = .ok (.iload_n 1, 1) := by decide +kernel
theorem d_Gr_least_31 : decode b_Gr_least 31 = .ok (.invokevirtual 145, 3) := by decide +kernel
theorem d_Gr_least_34 : decode b_Gr_least 34 = .ok (.ireturn, 1) := by decide +kernel
abbrev b_Gr_lightest : ByteArray := prog_1_method_14_code
def y_Gr_lightest : MethodName := ⟨R_Gr, "lightest", "(I)I"⟩
theorem k_Gr_lightest : kV y_Gr_lightest b_Gr_lightest 2 (some .int) 1 := ⟨gmem (List.mem_append_right _ (List.mem_of_getElem? (i := 650) (by decide +kernel))) (by decide +kernel), gmem (List.mem_append_right _ (List.mem_of_getElem? (i := 651) (by decide +kernel))) (by decide +kernel), in_Gr, gmem (List.mem_append_right _ (List.mem_of_getElem? (i := 652) (by decide +kernel))) (by decide +kernel), by decide, by decide, by decide +kernel⟩
theorem d_Gr_lightest_0 : decode b_Gr_lightest 0 = .ok (.iload_n 1, 1) := by decide +kernel
theorem d_Gr_lightest_1 : decode b_Gr_lightest 1 = .ok (.invokestatic 116, 3) := by decide +kernel
theorem d_Gr_lightest_4 : decode b_Gr_lightest 4 = .ok (.ifCond .ne 11, 3) := by decide +kernel
theorem d_Gr_lightest_7 : decode b_Gr_lightest 7 = .ok (.new 70, 3) := by decide +kernel
theorem d_Gr_lightest_10 : decode b_Gr_lightest 10 = .ok (.dup, 1) := by decide +kernel
theorem d_Gr_lightest_11 : decode b_Gr_lightest 11 = .ok (.invokespecial 72, 3) := by decide +kernel
theorem d_Gr_lightest_14 : decode b_Gr_lightest 14 = .ok (.athrow, 1) := by decide +kernel
theorem d_Gr_lightest_15 : decode b_Gr_lightest 15 = .ok (.aload_n 0, 1) := by decide +kernel
theorem d_Gr_lightest_16 : decode b_Gr_lightest 16 = .ok (.getfield 30, 3) := by decide +kernel
theorem d_Gr_lightest_19 : decode b_Gr_lightest 19 = .ok (.iload_n 1, 1) := by decide +kernel
theorem d_Gr_lightest_20 : decode b_Gr_lightest 20 = .ok (.invokevirtual 148, 3) := by decide +kernel
theorem d_Gr_lightest_23 : decode b_Gr_lightest 23 = .ok (.ireturn, 1) := by decide +kernel
abbrev b_Gr_step : ByteArray := prog_1_method_15_code
def y_Gr_step : MethodName := ⟨R_Gr, "step", "(II)I"⟩
theorem k_Gr_step : kV y_Gr_step b_Gr_step 4 (some .int) 2 := ⟨gmem (List.mem_append_right _ (List.mem_of_getElem? (i := 667) (by decide +kernel))) (by decide +kernel), gmem (List.mem_append_right _ (List.mem_of_getElem? (i := 668) (by decide +kernel))) (by decide +kernel), in_Gr, gmem (List.mem_append_right _ (List.mem_of_getElem? (i := 669) (by decide +kernel))) (by decide +kernel), by decide, by decide, by decide +kernel⟩
theorem d_Gr_step_0 : decode b_Gr_step 0 = .ok (.aload_n 0, 1) := by decide +kernel
theorem d_Gr_step_1 : decode b_Gr_step 1 = .ok (.getfield 14, 3) := by decide +kernel
theorem d_Gr_step_4 : decode b_Gr_step 4 = .ok (.iload_n 1, 1) := by decide +kernel
theorem d_Gr_step_5 : decode b_Gr_step 5 = .ok (.invokevirtual 80, 3) := by decide +kernel
theorem d_Gr_step_8 : decode b_Gr_step 8 = .ok (.ifCond .eq 26, 3) := by decide +kernel
theorem d_Gr_step_11 : decode b_Gr_step 11 = .ok (.iload_n 2, 1) := by decide +kernel
theorem d_Gr_step_12 : decode b_Gr_step 12 = .ok (.ifCond .lt 22, 3) := by decide +kernel
theorem d_Gr_step_15 : decode b_Gr_step 15 = .ok (.iload_n 2, 1) := by decide +kernel
theorem d_Gr_step_16 : decode b_Gr_step 16 = .ok (.sipush 999, 3) := by decide +kernel
theorem d_Gr_step_19 : decode b_Gr_step 19 = .ok (.if_icmp .gt 15, 3) := by decide +kernel
theorem d_Gr_step_22 : decode b_Gr_step 22 = .ok (.iload_n 2, 1) := by decide +kernel
theorem d_Gr_step_23 : decode b_Gr_step 23 = .ok (.aload_n 0, 1) := by decide +kernel
theorem d_Gr_step_24 : decode b_Gr_step 24 = .ok (.getfield 55, 3) := by decide +kernel
theorem d_Gr_step_27 : decode b_Gr_step 27 = .ok (.iload_n 1, 1) := by decide +kernel
theorem d_Gr_step_28 : decode b_Gr_step 28 = .ok (.invokevirtual 97, 3) := by decide +kernel
theorem d_Gr_step_31 : decode b_Gr_step 31 = .ok (.if_icmp .lt 11, 3) := by decide +kernel
theorem d_Gr_step_34 : decode b_Gr_step 34 = .ok (.new 149, 3) := by decide +kernel
theorem d_Gr_step_37 : decode b_Gr_step 37 = .ok (.dup, 1) := by decide +kernel
theorem d_Gr_step_38 : decode b_Gr_step 38 = .ok (.invokespecial 151, 3) := by decide +kernel
theorem d_Gr_step_41 : decode b_Gr_step 41 = .ok (.athrow, 1) := by decide +kernel
theorem d_Gr_step_42 : decode b_Gr_step 42 = .ok (.aload_n 0, 1) := by decide +kernel
theorem d_Gr_step_43 : decode b_Gr_step 43 = .ok (.getfield 55, 3) := by decide +kernel
theorem d_Gr_step_46 : decode b_Gr_step 46 = .ok (.iload_n 1, 1) := by decide +kernel
theorem d_Gr_step_47 : decode b_Gr_step 47 = .ok (.iload_n 2, 1) := by decide +kernel
theorem d_Gr_step_48 : decode b_Gr_step 48 = .ok (.invokevirtual 152, 3) := by decide +kernel
theorem d_Gr_step_51 : decode b_Gr_step 51 = .ok (.istore_n 3, 1) := by decide +kernel
theorem d_Gr_step_52 : decode b_Gr_step 52 = .ok (.iload_n 3, 1) := by decide +kernel
theorem d_Gr_step_53 : decode b_Gr_step 53 = .ok (.iconst (-1), 1) := by decide +kernel
theorem d_Gr_step_54 : decode b_Gr_step 54 = .ok (.if_icmp .ne 11, 3) := by decide +kernel
theorem d_Gr_step_57 : decode b_Gr_step 57 = .ok (.new 77, 3) := by decide +kernel
theorem d_Gr_step_60 : decode b_Gr_step 60 = .ok (.dup, 1) := by decide +kernel
theorem d_Gr_step_61 : decode b_Gr_step 61 = .ok (.invokespecial 79, 3) := by decide +kernel
theorem d_Gr_step_64 : decode b_Gr_step 64 = .ok (.athrow, 1) := by decide +kernel
theorem d_Gr_step_65 : decode b_Gr_step 65 = .ok (.iload_n 3, 1) := by decide +kernel
theorem d_Gr_step_66 : decode b_Gr_step 66 = .ok (.ireturn, 1) := by decide +kernel
abbrev b_Gr_distance : ByteArray := prog_1_method_16_code
def y_Gr_distance : MethodName := ⟨R_Gr, "distance", "(II)I"⟩
theorem k_Gr_distance : kV y_Gr_distance b_Gr_distance 3 (some .int) 2 := ⟨gmem (List.mem_append_right _ (List.mem_of_getElem? (i := 707) (by decide +kernel))) (by decide +kernel), gmem (List.mem_append_right _ (List.mem_of_getElem? (i := 708) (by decide +kernel))) (by decide +kernel), in_Gr, gmem (List.mem_append_right _ (List.mem_of_getElem? (i := 709) (by decide +kernel))) (by decide +kernel), by decide, by decide, by decide +kernel⟩
theorem d_Gr_distance_0 : decode b_Gr_distance 0 = .ok (.aload_n 0, 1) := by decide +kernel
theorem d_Gr_distance_1 : decode b_Gr_distance 1 = .ok (.getfield 14, 3) := by decide +kernel
theorem d_Gr_distance_4 : decode b_Gr_distance 4 = .ok (.iload_n 1, 1) := by decide +kernel
theorem d_Gr_distance_5 : decode b_Gr_distance 5 = .ok (.invokevirtual 80, 3) := by decide +kernel
theorem d_Gr_distance_8 : decode b_Gr_distance 8 = .ok (.ifCond .eq 14, 3) := by decide +kernel
theorem d_Gr_distance_11 : decode b_Gr_distance 11 = .ok (.aload_n 0, 1) := by decide +kernel
theorem d_Gr_distance_12 : decode b_Gr_distance 12 = .ok (.getfield 14, 3) := by decide +kernel
theorem d_Gr_distance_15 : decode b_Gr_distance 15 = .ok (.iload_n 2, 1) := by decide +kernel
theorem d_Gr_distance_16 : decode b_Gr_distance 16 = .ok (.invokevirtual 80, 3) := by decide +kernel
theorem d_Gr_distance_19 : decode b_Gr_distance 19 = .ok (.ifCond .ne 11, 3) := by decide +kernel
theorem d_Gr_distance_22 : decode b_Gr_distance 22 = .ok (.new 70, 3) := by decide +kernel
theorem d_Gr_distance_25 : decode b_Gr_distance 25 = .ok (.dup, 1) := by decide +kernel
theorem d_Gr_distance_26 : decode b_Gr_distance 26 = .ok (.invokespecial 72, 3) := by decide +kernel
theorem d_Gr_distance_29 : decode b_Gr_distance 29 = .ok (.athrow, 1) := by decide +kernel
theorem d_Gr_distance_30 : decode b_Gr_distance 30 = .ok (.aload_n 0, 1) := by decide +kernel
theorem d_Gr_distance_31 : decode b_Gr_distance 31 = .ok (.getfield 39, 3) := by decide +kernel
theorem d_Gr_distance_34 : decode b_Gr_distance 34 = .ok (.invokevirtual 123, 3) := by decide +kernel
theorem d_Gr_distance_37 : decode b_Gr_distance 37 = .ok (.aload_n 0, 1) := by decide +kernel
theorem d_Gr_distance_38 : decode b_Gr_distance 38 = .ok (.getfield 39, 3) := by decide +kernel
theorem d_Gr_distance_41 : decode b_Gr_distance 41 = .ok (.iload_n 1, 1) := by decide +kernel
theorem d_Gr_distance_42 : decode b_Gr_distance 42 = .ok (.iload_n 2, 1) := by decide +kernel
theorem d_Gr_distance_43 : decode b_Gr_distance 43 = .ok (.invokevirtual 126, 3) := by decide +kernel
theorem d_Gr_distance_46 : decode b_Gr_distance 46 = .ok (.ifCond .eq 15, 3) := by decide +kernel
theorem d_Gr_distance_49 : decode b_Gr_distance 49 = .ok (.aload_n 0, 1) := by decide +kernel
theorem d_Gr_distance_50 : decode b_Gr_distance 50 = .ok (.getfield 62, 3) := by decide +kernel
theorem d_Gr_distance_53 : decode b_Gr_distance 53 = .ok (.iload_n 1, 1) := by decide +kernel
theorem d_Gr_distance_54 : decode b_Gr_distance 54 = .ok (.iload_n 2, 1) := by decide +kernel
theorem d_Gr_distance_55 : decode b_Gr_distance 55 = .ok (.invokevirtual 155, 3) := by decide +kernel
theorem d_Gr_distance_58 : decode b_Gr_distance 58 = .ok (.goto 4, 3) := by decide +kernel
theorem d_Gr_distance_61 : decode b_Gr_distance 61 = .ok (.iconst (-1), 1) := by decide +kernel
theorem d_Gr_distance_62 : decode b_Gr_distance 62 = .ok (.ireturn, 1) := by decide +kernel
theorem ml_Gr_66 : Cond.methodLink R_Gr 66 y_Te_canStand ∈ gtbl := gmem (List.mem_append_right _ (List.mem_of_getElem? (i := 349) (by decide +kernel))) (by decide +kernel)
theorem ml_Gr_73 : Cond.methodLink R_Gr 73 y_Te_findOrAppend ∈ gtbl := gmem (List.mem_append_right _ (List.mem_of_getElem? (i := 421) (by decide +kernel))) (by decide +kernel)
theorem ml_Gr_100 : Cond.methodLink R_Gr 100 y_Ru_append ∈ gtbl := gmem (List.mem_append_right _ (List.mem_of_getElem? (i := 463) (by decide +kernel))) (by decide +kernel)
theorem ml_Gr_108 : Cond.methodLink R_Gr 108 y_Au_canStand ∈ gtbl := gmem (List.mem_append_right _ (List.mem_of_getElem? (i := 474) (by decide +kernel))) (by decide +kernel)
theorem ml_Gr_111 : Cond.methodLink R_Gr 111 y_Au_holds ∈ gtbl := gmem (List.mem_append_right _ (List.mem_of_getElem? (i := 481) (by decide +kernel))) (by decide +kernel)
theorem ml_Gr_114 : Cond.methodLink R_Gr 114 y_Au_append ∈ gtbl := gmem (List.mem_append_right _ (List.mem_of_getElem? (i := 485) (by decide +kernel))) (by decide +kernel)
theorem ml_Gr_123 : Cond.methodLink R_Gr 123 y_Re_renew ∈ gtbl := gmem (List.mem_append_right _ (List.mem_of_getElem? (i := 496) (by decide +kernel))) (by decide +kernel)
theorem ml_Gr_126 : Cond.methodLink R_Gr 126 y_Re_leads ∈ gtbl := gmem (List.mem_append_right _ (List.mem_of_getElem? (i := 537) (by decide +kernel))) (by decide +kernel)
theorem ml_Gr_130 : Cond.methodLink R_Gr 130 y_Re_joins ∈ gtbl := gmem (List.mem_append_right _ (List.mem_of_getElem? (i := 548) (by decide +kernel))) (by decide +kernel)
theorem ml_Gr_133 : Cond.methodLink R_Gr 133 y_La_statesAt ∈ gtbl := gmem (List.mem_append_right _ (List.mem_of_getElem? (i := 567) (by decide +kernel))) (by decide +kernel)
theorem ml_Gr_136 : Cond.methodLink R_Gr 136 y_Au_anyFinal ∈ gtbl := gmem (List.mem_append_right _ (List.mem_of_getElem? (i := 589) (by decide +kernel))) (by decide +kernel)
theorem ml_Gr_139 : Cond.methodLink R_Gr 139 y_La_statesBefore ∈ gtbl := gmem (List.mem_append_right _ (List.mem_of_getElem? (i := 600) (by decide +kernel))) (by decide +kernel)
theorem ml_Gr_142 : Cond.methodLink R_Gr 142 y_La_statesBehind ∈ gtbl := gmem (List.mem_append_right _ (List.mem_of_getElem? (i := 620) (by decide +kernel))) (by decide +kernel)
theorem ml_Gr_145 : Cond.methodLink R_Gr 145 y_Re_leastSize ∈ gtbl := gmem (List.mem_append_right _ (List.mem_of_getElem? (i := 631) (by decide +kernel))) (by decide +kernel)
theorem ml_Gr_148 : Cond.methodLink R_Gr 148 y_Au_leastSize ∈ gtbl := gmem (List.mem_append_right _ (List.mem_of_getElem? (i := 653) (by decide +kernel))) (by decide +kernel)
theorem ml_Gr_152 : Cond.methodLink R_Gr 152 y_Sp_targetOf ∈ gtbl := gmem (List.mem_append_right _ (List.mem_of_getElem? (i := 685) (by decide +kernel))) (by decide +kernel)
theorem ml_Gr_155 : Cond.methodLink R_Gr 155 y_Le_levelOf ∈ gtbl := gmem (List.mem_append_right _ (List.mem_of_getElem? (i := 710) (by decide +kernel))) (by decide +kernel)
