theorem cl_Lw_13 : Cond.classLink R_Lw 13 xIA ∈ gtbl := gmem (List.mem_append_right _ (List.mem_of_getElem? (i := 343) (by decide +kernel))) (by decide +kernel)
theorem cl_Lw_15 : Cond.classLink R_Lw 15 xIS ∈ gtbl := gmem (List.mem_append_right _ (List.mem_of_getElem? (i := 344) (by decide +kernel))) (by decide +kernel)
theorem cl_Lw_52 : Cond.classLink R_Lw 52 xIB ∈ gtbl := gmem (List.mem_append_right _ (List.mem_of_getElem? (i := 665) (by decide +kernel))) (by decide +kernel)
abbrev b_Lw_term : ByteArray := method_3_code
def y_Lw_term : MethodName := ⟨R_Lw, "term", "(LGroundReach;III[J)I"⟩
abbrev hh_Lw_term : List (Nat × Nat × Nat × Nat) := [(0, 12, 15, 13), (0, 12, 19, 15)]
theorem cw_Lw_term : Cond.codeWith y_Lw_term b_Lw_term 6 (some .int) hh_Lw_term ∈ gtbl := gmem (List.mem_append_right _ (List.mem_of_getElem? (i := 342) (by decide +kernel))) (by decide +kernel)
theorem sw_Lw_term : Cond.static y_Lw_term ∈ gtbl := gmem (List.mem_append_right _ (List.mem_of_getElem? (i := 341) (by decide +kernel))) (by decide +kernel)
theorem d_Lw_term_0 : decode b_Lw_term 0 = .ok (.aload 4, 2) := by decide +kernel
theorem d_Lw_term_2 : decode b_Lw_term 2 = .ok (.iconst 0, 1) := by decide +kernel
theorem d_Lw_term_3 : decode b_Lw_term 3 = .ok (.aload_n 0, 1) := by decide +kernel
theorem d_Lw_term_4 : decode b_Lw_term 4 = .ok (.iload_n 1, 1) := by decide +kernel
theorem d_Lw_term_5 : decode b_Lw_term 5 = .ok (.iload_n 2, 1) := by decide +kernel
theorem d_Lw_term_6 : decode b_Lw_term 6 = .ok (.iload_n 3, 1) := by decide +kernel
theorem d_Lw_term_7 : decode b_Lw_term 7 = .ok (.invokevirtual 7, 3) := by decide +kernel
theorem d_Lw_term_10 : decode b_Lw_term 10 = .ok (.i2l, 1) := by decide +kernel
theorem d_Lw_term_11 : decode b_Lw_term 11 = .ok (.lastore, 1) := by decide +kernel
theorem d_Lw_term_12 : decode b_Lw_term 12 = .ok (.goto 11, 3) := by decide +kernel
theorem d_Lw_term_15 : decode b_Lw_term 15 = .ok (.astore 5, 2) := by decide +kernel
theorem d_Lw_term_17 : decode b_Lw_term 17 = .ok (.iconst 1, 1) := by decide +kernel
theorem d_Lw_term_18 : decode b_Lw_term 18 = .ok (.ireturn, 1) := by decide +kernel
theorem d_Lw_term_19 : decode b_Lw_term 19 = .ok (.astore 5, 2) := by decide +kernel
theorem d_Lw_term_21 : decode b_Lw_term 21 = .ok (.iconst 2, 1) := by decide +kernel
theorem d_Lw_term_22 : decode b_Lw_term 22 = .ok (.ireturn, 1) := by decide +kernel
theorem d_Lw_term_23 : decode b_Lw_term 23 = .ok (.iconst 0, 1) := by decide +kernel
theorem d_Lw_term_24 : decode b_Lw_term 24 = .ok (.ireturn, 1) := by decide +kernel
theorem ml_Lw_7 : Cond.methodLink R_Lw 7 y_Gr_term ∈ gtbl := gmem (List.mem_append_right _ (List.mem_of_getElem? (i := 345) (by decide +kernel))) (by decide +kernel)
abbrev rm_Lw_term : Room := { frames := 7, cells := 1, slots := 6, locals := 118 }
abbrev b_Lw_rule : ByteArray := method_4_code
def y_Lw_rule : MethodName := ⟨R_Lw, "rule", "(LGroundReach;II[J)I"⟩
abbrev hh_Lw_rule : List (Nat × Nat × Nat × Nat) := [(0, 10, 13, 13), (0, 10, 17, 15)]
theorem cw_Lw_rule : Cond.codeWith y_Lw_rule b_Lw_rule 5 (some .int) hh_Lw_rule ∈ gtbl := gmem (List.mem_append_right _ (List.mem_of_getElem? (i := 458) (by decide +kernel))) (by decide +kernel)
theorem sw_Lw_rule : Cond.static y_Lw_rule ∈ gtbl := gmem (List.mem_append_right _ (List.mem_of_getElem? (i := 457) (by decide +kernel))) (by decide +kernel)
theorem d_Lw_rule_0 : decode b_Lw_rule 0 = .ok (.aload_n 3, 1) := by decide +kernel
theorem d_Lw_rule_1 : decode b_Lw_rule 1 = .ok (.iconst 0, 1) := by decide +kernel
theorem d_Lw_rule_2 : decode b_Lw_rule 2 = .ok (.aload_n 0, 1) := by decide +kernel
theorem d_Lw_rule_3 : decode b_Lw_rule 3 = .ok (.iload_n 1, 1) := by decide +kernel
theorem d_Lw_rule_4 : decode b_Lw_rule 4 = .ok (.iload_n 2, 1) := by decide +kernel
theorem d_Lw_rule_5 : decode b_Lw_rule 5 = .ok (.invokevirtual 17, 3) := by decide +kernel
theorem d_Lw_rule_8 : decode b_Lw_rule 8 = .ok (.i2l, 1) := by decide +kernel
theorem d_Lw_rule_9 : decode b_Lw_rule 9 = .ok (.lastore, 1) := by decide +kernel
theorem d_Lw_rule_10 : decode b_Lw_rule 10 = .ok (.goto 11, 3) := by decide +kernel
theorem d_Lw_rule_13 : decode b_Lw_rule 13 = .ok (.astore 4, 2) := by decide +kernel
theorem d_Lw_rule_15 : decode b_Lw_rule 15 = .ok (.iconst 1, 1) := by decide +kernel
theorem d_Lw_rule_16 : decode b_Lw_rule 16 = .ok (.ireturn, 1) := by decide +kernel
theorem d_Lw_rule_17 : decode b_Lw_rule 17 = .ok (.astore 4, 2) := by decide +kernel
theorem d_Lw_rule_19 : decode b_Lw_rule 19 = .ok (.iconst 2, 1) := by decide +kernel
theorem d_Lw_rule_20 : decode b_Lw_rule 20 = .ok (.ireturn, 1) := by decide +kernel
theorem d_Lw_rule_21 : decode b_Lw_rule 21 = .ok (.iconst 0, 1) := by decide +kernel
theorem d_Lw_rule_22 : decode b_Lw_rule 22 = .ok (.ireturn, 1) := by decide +kernel
theorem ml_Lw_17 : Cond.methodLink R_Lw 17 y_Gr_rule ∈ gtbl := gmem (List.mem_append_right _ (List.mem_of_getElem? (i := 459) (by decide +kernel))) (by decide +kernel)
abbrev rm_Lw_rule : Room := { frames := 7, cells := 1, slots := 6, locals := 104 }
abbrev b_Lw_edge : ByteArray := method_5_code
def y_Lw_edge : MethodName := ⟨R_Lw, "edge", "(LGroundReach;IIII[J)I"⟩
abbrev hh_Lw_edge : List (Nat × Nat × Nat × Nat) := [(0, 21, 24, 13), (0, 21, 28, 15)]
theorem cw_Lw_edge : Cond.codeWith y_Lw_edge b_Lw_edge 7 (some .int) hh_Lw_edge ∈ gtbl := gmem (List.mem_append_right _ (List.mem_of_getElem? (i := 469) (by decide +kernel))) (by decide +kernel)
theorem sw_Lw_edge : Cond.static y_Lw_edge ∈ gtbl := gmem (List.mem_append_right _ (List.mem_of_getElem? (i := 468) (by decide +kernel))) (by decide +kernel)
theorem d_Lw_edge_0 : decode b_Lw_edge 0 = .ok (.aload 5, 2) := by decide +kernel
theorem d_Lw_edge_2 : decode b_Lw_edge 2 = .ok (.iconst 0, 1) := by decide +kernel
theorem d_Lw_edge_3 : decode b_Lw_edge 3 = .ok (.aload_n 0, 1) := by decide +kernel
theorem d_Lw_edge_4 : decode b_Lw_edge 4 = .ok (.iload_n 1, 1) := by decide +kernel
theorem d_Lw_edge_5 : decode b_Lw_edge 5 = .ok (.iload_n 2, 1) := by decide +kernel
theorem d_Lw_edge_6 : decode b_Lw_edge 6 = .ok (.iload_n 3, 1) := by decide +kernel
theorem d_Lw_edge_7 : decode b_Lw_edge 7 = .ok (.iload 4, 2) := by decide +kernel
theorem d_Lw_edge_9 : decode b_Lw_edge 9 = .ok (.invokevirtual 21, 3) := by decide +kernel
theorem d_Lw_edge_12 : decode b_Lw_edge 12 = .ok (.ifCond .eq 7, 3) := by decide +kernel
theorem d_Lw_edge_15 : decode b_Lw_edge 15 = .ok (.lconst 1, 1) := by decide +kernel
theorem d_Lw_edge_16 : decode b_Lw_edge 16 = .ok (.goto 4, 3) := by decide +kernel
theorem d_Lw_edge_19 : decode b_Lw_edge 19 = .ok (.lconst 0, 1) := by decide +kernel
theorem d_Lw_edge_20 : decode b_Lw_edge 20 = .ok (.lastore, 1) := by decide +kernel
theorem d_Lw_edge_21 : decode b_Lw_edge 21 = .ok (.goto 11, 3) := by decide +kernel
theorem d_Lw_edge_24 : decode b_Lw_edge 24 = .ok (.astore 6, 2) := by decide +kernel
theorem d_Lw_edge_26 : decode b_Lw_edge 26 = .ok (.iconst 1, 1) := by decide +kernel
theorem d_Lw_edge_27 : decode b_Lw_edge 27 = .ok (.ireturn, 1) := by decide +kernel
theorem d_Lw_edge_28 : decode b_Lw_edge 28 = .ok (.astore 6, 2) := by decide +kernel
theorem d_Lw_edge_30 : decode b_Lw_edge 30 = .ok (.iconst 2, 1) := by decide +kernel
theorem d_Lw_edge_31 : decode b_Lw_edge 31 = .ok (.ireturn, 1) := by decide +kernel
theorem d_Lw_edge_32 : decode b_Lw_edge 32 = .ok (.iconst 0, 1) := by decide +kernel
theorem d_Lw_edge_33 : decode b_Lw_edge 33 = .ok (.ireturn, 1) := by decide +kernel
theorem ml_Lw_21 : Cond.methodLink R_Lw 21 y_Gr_edge ∈ gtbl := gmem (List.mem_append_right _ (List.mem_of_getElem? (i := 470) (by decide +kernel))) (by decide +kernel)
abbrev rm_Lw_edge : Room := { frames := 7, cells := 1, slots := 6, locals := 105 }
abbrev b_Lw_reaches : ByteArray := method_6_code
def y_Lw_reaches : MethodName := ⟨R_Lw, "reaches", "(LGroundReach;II[J)I"⟩
abbrev hh_Lw_reaches : List (Nat × Nat × Nat × Nat) := [(0, 17, 20, 13)]
theorem cw_Lw_reaches : Cond.codeWith y_Lw_reaches b_Lw_reaches 5 (some .int) hh_Lw_reaches ∈ gtbl := gmem (List.mem_append_right _ (List.mem_of_getElem? (i := 491) (by decide +kernel))) (by decide +kernel)
theorem sw_Lw_reaches : Cond.static y_Lw_reaches ∈ gtbl := gmem (List.mem_append_right _ (List.mem_of_getElem? (i := 490) (by decide +kernel))) (by decide +kernel)
theorem d_Lw_reaches_0 : decode b_Lw_reaches 0 = .ok (.aload_n 3, 1) := by decide +kernel
theorem d_Lw_reaches_1 : decode b_Lw_reaches 1 = .ok (.iconst 0, 1) := by decide +kernel
theorem d_Lw_reaches_2 : decode b_Lw_reaches 2 = .ok (.aload_n 0, 1) := by decide +kernel
theorem d_Lw_reaches_3 : decode b_Lw_reaches 3 = .ok (.iload_n 1, 1) := by decide +kernel
theorem d_Lw_reaches_4 : decode b_Lw_reaches 4 = .ok (.iload_n 2, 1) := by decide +kernel
theorem d_Lw_reaches_5 : decode b_Lw_reaches 5 = .ok (.invokevirtual 25, 3) := by decide +kernel
theorem d_Lw_reaches_8 : decode b_Lw_reaches 8 = .ok (.ifCond .eq 7, 3) := by decide +kernel
theorem d_Lw_reaches_11 : decode b_Lw_reaches 11 = .ok (.lconst 1, 1) := by decide +kernel
theorem d_Lw_reaches_12 : decode b_Lw_reaches 12 = .ok (.goto 4, 3) := by decide +kernel
theorem d_Lw_reaches_15 : decode b_Lw_reaches 15 = .ok (.lconst 0, 1) := by decide +kernel
theorem d_Lw_reaches_16 : decode b_Lw_reaches 16 = .ok (.lastore, 1) := by decide +kernel
theorem d_Lw_reaches_17 : decode b_Lw_reaches 17 = .ok (.goto 7, 3) := by decide +kernel
theorem d_Lw_reaches_20 : decode b_Lw_reaches 20 = .ok (.astore 4, 2) := by decide +kernel
theorem d_Lw_reaches_22 : decode b_Lw_reaches 22 = .ok (.iconst 1, 1) := by decide +kernel
theorem d_Lw_reaches_23 : decode b_Lw_reaches 23 = .ok (.ireturn, 1) := by decide +kernel
theorem d_Lw_reaches_24 : decode b_Lw_reaches 24 = .ok (.iconst 0, 1) := by decide +kernel
theorem d_Lw_reaches_25 : decode b_Lw_reaches 25 = .ok (.ireturn, 1) := by decide +kernel
theorem ml_Lw_25 : Cond.methodLink R_Lw 25 y_Gr_reaches ∈ gtbl := gmem (List.mem_append_right _ (List.mem_of_getElem? (i := 492) (by decide +kernel))) (by decide +kernel)
abbrev rm_Lw_reaches : Room := { frames := 7, cells := 1, slots := 6, locals := 136 }
abbrev b_Lw_meet : ByteArray := method_7_code
def y_Lw_meet : MethodName := ⟨R_Lw, "meet", "(LGroundReach;II[J)I"⟩
abbrev hh_Lw_meet : List (Nat × Nat × Nat × Nat) := [(0, 17, 20, 13)]
theorem cw_Lw_meet : Cond.codeWith y_Lw_meet b_Lw_meet 5 (some .int) hh_Lw_meet ∈ gtbl := gmem (List.mem_append_right _ (List.mem_of_getElem? (i := 543) (by decide +kernel))) (by decide +kernel)
theorem sw_Lw_meet : Cond.static y_Lw_meet ∈ gtbl := gmem (List.mem_append_right _ (List.mem_of_getElem? (i := 542) (by decide +kernel))) (by decide +kernel)
theorem d_Lw_meet_0 : decode b_Lw_meet 0 = .ok (.aload_n 3, 1) := by decide +kernel
theorem d_Lw_meet_1 : decode b_Lw_meet 1 = .ok (.iconst 0, 1) := by decide +kernel
theorem d_Lw_meet_2 : decode b_Lw_meet 2 = .ok (.aload_n 0, 1) := by decide +kernel
theorem d_Lw_meet_3 : decode b_Lw_meet 3 = .ok (.iload_n 1, 1) := by decide +kernel
theorem d_Lw_meet_4 : decode b_Lw_meet 4 = .ok (.iload_n 2, 1) := by decide +kernel
theorem d_Lw_meet_5 : decode b_Lw_meet 5 = .ok (.invokevirtual 29, 3) := by decide +kernel
theorem d_Lw_meet_8 : decode b_Lw_meet 8 = .ok (.ifCond .eq 7, 3) := by decide +kernel
theorem d_Lw_meet_11 : decode b_Lw_meet 11 = .ok (.lconst 1, 1) := by decide +kernel
theorem d_Lw_meet_12 : decode b_Lw_meet 12 = .ok (.goto 4, 3) := by decide +kernel
theorem d_Lw_meet_15 : decode b_Lw_meet 15 = .ok (.lconst 0, 1) := by decide +kernel
theorem d_Lw_meet_16 : decode b_Lw_meet 16 = .ok (.lastore, 1) := by decide +kernel
theorem d_Lw_meet_17 : decode b_Lw_meet 17 = .ok (.goto 7, 3) := by decide +kernel
theorem d_Lw_meet_20 : decode b_Lw_meet 20 = .ok (.astore 4, 2) := by decide +kernel
theorem d_Lw_meet_22 : decode b_Lw_meet 22 = .ok (.iconst 1, 1) := by decide +kernel
theorem d_Lw_meet_23 : decode b_Lw_meet 23 = .ok (.ireturn, 1) := by decide +kernel
theorem d_Lw_meet_24 : decode b_Lw_meet 24 = .ok (.iconst 0, 1) := by decide +kernel
theorem d_Lw_meet_25 : decode b_Lw_meet 25 = .ok (.ireturn, 1) := by decide +kernel
theorem ml_Lw_29 : Cond.methodLink R_Lw 29 y_Gr_meet ∈ gtbl := gmem (List.mem_append_right _ (List.mem_of_getElem? (i := 544) (by decide +kernel))) (by decide +kernel)
abbrev rm_Lw_meet : Room := { frames := 7, cells := 1, slots := 6, locals := 138 }
abbrev b_Lw_has : ByteArray := method_8_code
def y_Lw_has : MethodName := ⟨R_Lw, "has", "(LGroundReach;I[J)I"⟩
abbrev hh_Lw_has : List (Nat × Nat × Nat × Nat) := [(0, 16, 19, 13)]
theorem cw_Lw_has : Cond.codeWith y_Lw_has b_Lw_has 4 (some .int) hh_Lw_has ∈ gtbl := gmem (List.mem_append_right _ (List.mem_of_getElem? (i := 562) (by decide +kernel))) (by decide +kernel)
theorem sw_Lw_has : Cond.static y_Lw_has ∈ gtbl := gmem (List.mem_append_right _ (List.mem_of_getElem? (i := 561) (by decide +kernel))) (by decide +kernel)
theorem d_Lw_has_0 : decode b_Lw_has 0 = .ok (.aload_n 2, 1) := by decide +kernel
theorem d_Lw_has_1 : decode b_Lw_has 1 = .ok (.iconst 0, 1) := by decide +kernel
theorem d_Lw_has_2 : decode b_Lw_has 2 = .ok (.aload_n 0, 1) := by decide +kernel
theorem d_Lw_has_3 : decode b_Lw_has 3 = .ok (.iload_n 1, 1) := by decide +kernel
theorem d_Lw_has_4 : decode b_Lw_has 4 = .ok (.invokevirtual 32, 3) := by decide +kernel
theorem d_Lw_has_7 : decode b_Lw_has 7 = .ok (.ifCond .eq 7, 3) := by decide +kernel
theorem d_Lw_has_10 : decode b_Lw_has 10 = .ok (.lconst 1, 1) := by decide +kernel
theorem d_Lw_has_11 : decode b_Lw_has 11 = .ok (.goto 4, 3) := by decide +kernel
theorem d_Lw_has_14 : decode b_Lw_has 14 = .ok (.lconst 0, 1) := by decide +kernel
theorem d_Lw_has_15 : decode b_Lw_has 15 = .ok (.lastore, 1) := by decide +kernel
theorem d_Lw_has_16 : decode b_Lw_has 16 = .ok (.goto 6, 3) := by decide +kernel
theorem d_Lw_has_19 : decode b_Lw_has 19 = .ok (.astore_n 3, 1) := by decide +kernel
theorem d_Lw_has_20 : decode b_Lw_has 20 = .ok (.iconst 1, 1) := by decide +kernel
theorem d_Lw_has_21 : decode b_Lw_has 21 = .ok (.ireturn, 1) := by decide +kernel
theorem d_Lw_has_22 : decode b_Lw_has 22 = .ok (.iconst 0, 1) := by decide +kernel
theorem d_Lw_has_23 : decode b_Lw_has 23 = .ok (.ireturn, 1) := by decide +kernel
theorem ml_Lw_32 : Cond.methodLink R_Lw 32 y_Gr_has ∈ gtbl := gmem (List.mem_append_right _ (List.mem_of_getElem? (i := 563) (by decide +kernel))) (by decide +kernel)
abbrev rm_Lw_has : Room := { frames := 7, cells := 1, slots := 6, locals := 102 }
abbrev b_Lw_from : ByteArray := method_9_code
def y_Lw_from : MethodName := ⟨R_Lw, "from", "(LGroundReach;I[J)I"⟩
abbrev hh_Lw_from : List (Nat × Nat × Nat × Nat) := [(0, 16, 19, 13)]
theorem cw_Lw_from : Cond.codeWith y_Lw_from b_Lw_from 4 (some .int) hh_Lw_from ∈ gtbl := gmem (List.mem_append_right _ (List.mem_of_getElem? (i := 595) (by decide +kernel))) (by decide +kernel)
theorem sw_Lw_from : Cond.static y_Lw_from ∈ gtbl := gmem (List.mem_append_right _ (List.mem_of_getElem? (i := 594) (by decide +kernel))) (by decide +kernel)
theorem d_Lw_from_0 : decode b_Lw_from 0 = .ok (.aload_n 2, 1) := by decide +kernel
theorem d_Lw_from_1 : decode b_Lw_from 1 = .ok (.iconst 0, 1) := by decide +kernel
theorem d_Lw_from_2 : decode b_Lw_from 2 = .ok (.aload_n 0, 1) := by decide +kernel
theorem d_Lw_from_3 : decode b_Lw_from 3 = .ok (.iload_n 1, 1) := by decide +kernel
theorem d_Lw_from_4 : decode b_Lw_from 4 = .ok (.invokevirtual 36, 3) := by decide +kernel
theorem d_Lw_from_7 : decode b_Lw_from 7 = .ok (.ifCond .eq 7, 3) := by decide +kernel
theorem d_Lw_from_10 : decode b_Lw_from 10 = .ok (.lconst 1, 1) := by decide +kernel
theorem d_Lw_from_11 : decode b_Lw_from 11 = .ok (.goto 4, 3) := by decide +kernel
theorem d_Lw_from_14 : decode b_Lw_from 14 = .ok (.lconst 0, 1) := by decide +kernel
theorem d_Lw_from_15 : decode b_Lw_from 15 = .ok (.lastore, 1) := by decide +kernel
theorem d_Lw_from_16 : decode b_Lw_from 16 = .ok (.goto 6, 3) := by decide +kernel
theorem d_Lw_from_19 : decode b_Lw_from 19 = .ok (.astore_n 3, 1) := by decide +kernel
theorem d_Lw_from_20 : decode b_Lw_from 20 = .ok (.iconst 1, 1) := by decide +kernel
theorem d_Lw_from_21 : decode b_Lw_from 21 = .ok (.ireturn, 1) := by decide +kernel
theorem d_Lw_from_22 : decode b_Lw_from 22 = .ok (.iconst 0, 1) := by decide +kernel
theorem d_Lw_from_23 : decode b_Lw_from 23 = .ok (.ireturn, 1) := by decide +kernel
theorem ml_Lw_36 : Cond.methodLink R_Lw 36 y_Gr_from ∈ gtbl := gmem (List.mem_append_right _ (List.mem_of_getElem? (i := 596) (by decide +kernel))) (by decide +kernel)
abbrev rm_Lw_from : Room := { frames := 7, cells := 1, slots := 6, locals := 135 }
abbrev b_Lw_into : ByteArray := method_10_code
def y_Lw_into : MethodName := ⟨R_Lw, "into", "(LGroundReach;I[J)I"⟩
abbrev hh_Lw_into : List (Nat × Nat × Nat × Nat) := [(0, 16, 19, 13)]
theorem cw_Lw_into : Cond.codeWith y_Lw_into b_Lw_into 4 (some .int) hh_Lw_into ∈ gtbl := gmem (List.mem_append_right _ (List.mem_of_getElem? (i := 615) (by decide +kernel))) (by decide +kernel)
theorem sw_Lw_into : Cond.static y_Lw_into ∈ gtbl := gmem (List.mem_append_right _ (List.mem_of_getElem? (i := 614) (by decide +kernel))) (by decide +kernel)
theorem d_Lw_into_0 : decode b_Lw_into 0 = .ok (.aload_n 2, 1) := by decide +kernel
theorem d_Lw_into_1 : decode b_Lw_into 1 = .ok (.iconst 0, 1) := by decide +kernel
theorem d_Lw_into_2 : decode b_Lw_into 2 = .ok (.aload_n 0, 1) := by decide +kernel
theorem d_Lw_into_3 : decode b_Lw_into 3 = .ok (.iload_n 1, 1) := by decide +kernel
theorem d_Lw_into_4 : decode b_Lw_into 4 = .ok (.invokevirtual 39, 3) := by decide +kernel
theorem d_Lw_into_7 : decode b_Lw_into 7 = .ok (.ifCond .eq 7, 3) := by decide +kernel
theorem d_Lw_into_10 : decode b_Lw_into 10 = .ok (.lconst 1, 1) := by decide +kernel
theorem d_Lw_into_11 : decode b_Lw_into 11 = .ok (.goto 4, 3) := by decide +kernel
theorem d_Lw_into_14 : decode b_Lw_into 14 = .ok (.lconst 0, 1) := by decide +kernel
theorem d_Lw_into_15 : decode b_Lw_into 15 = .ok (.lastore, 1) := by decide +kernel
theorem d_Lw_into_16 : decode b_Lw_into 16 = .ok (.goto 6, 3) := by decide +kernel
theorem d_Lw_into_19 : decode b_Lw_into 19 = .ok (.astore_n 3, 1) := by decide +kernel
theorem d_Lw_into_20 : decode b_Lw_into 20 = .ok (.iconst 1, 1) := by decide +kernel
theorem d_Lw_into_21 : decode b_Lw_into 21 = .ok (.ireturn, 1) := by decide +kernel
theorem d_Lw_into_22 : decode b_Lw_into 22 = .ok (.iconst 0, 1) := by decide +kernel
theorem d_Lw_into_23 : decode b_Lw_into 23 = .ok (.ireturn, 1) := by decide +kernel
theorem ml_Lw_39 : Cond.methodLink R_Lw 39 y_Gr_into ∈ gtbl := gmem (List.mem_append_right _ (List.mem_of_getElem? (i := 616) (by decide +kernel))) (by decide +kernel)
abbrev rm_Lw_into : Room := { frames := 7, cells := 1, slots := 6, locals := 135 }
abbrev b_Lw_least : ByteArray := method_11_code
def y_Lw_least : MethodName := ⟨R_Lw, "least", "(LGroundReach;I[J)I"⟩
abbrev hh_Lw_least : List (Nat × Nat × Nat × Nat) := [(0, 9, 12, 13)]
theorem cw_Lw_least : Cond.codeWith y_Lw_least b_Lw_least 4 (some .int) hh_Lw_least ∈ gtbl := gmem (List.mem_append_right _ (List.mem_of_getElem? (i := 626) (by decide +kernel))) (by decide +kernel)
theorem sw_Lw_least : Cond.static y_Lw_least ∈ gtbl := gmem (List.mem_append_right _ (List.mem_of_getElem? (i := 625) (by decide +kernel))) (by decide +kernel)
theorem d_Lw_least_0 : decode b_Lw_least 0 = .ok (.aload_n 2, 1) := by decide +kernel
theorem d_Lw_least_1 : decode b_Lw_least 1 = .ok (.iconst 0, 1) := by decide +kernel
theorem d_Lw_least_2 : decode b_Lw_least 2 = .ok (.aload_n 0, 1) := by decide +kernel
theorem d_Lw_least_3 : decode b_Lw_least 3 = .ok (.iload_n 1, 1) := by decide +kernel
theorem d_Lw_least_4 : decode b_Lw_least 4 = .ok (.invokevirtual 42, 3) := by decide +kernel
theorem d_Lw_least_7 : decode b_Lw_least 7 = .ok (.i2l, 1) := by decide +kernel
theorem d_Lw_least_8 : decode b_Lw_least 8 = .ok (.lastore, 1) := by decide +kernel
theorem d_Lw_least_9 : decode b_Lw_least 9 = .ok (.goto 6, 3) := by decide +kernel
theorem d_Lw_least_12 : decode b_Lw_least 12 = .ok (.astore_n 3, 1) := by decide +kernel
theorem d_Lw_least_13 : decode b_Lw_least 13 = .ok (.iconst 1, 1) := by decide +kernel
theorem d_Lw_least_14 : decode b_Lw_least 14 = .ok (.ireturn, 1) := by decide +kernel
theorem d_Lw_least_15 : decode b_Lw_least 15 = .ok (.iconst 0, 1) := by decide +kernel
theorem d_Lw_least_16 : decode b_Lw_least 16 = .ok (.ireturn, 1) := by decide +kernel
theorem ml_Lw_42 : Cond.methodLink R_Lw 42 y_Gr_least ∈ gtbl := gmem (List.mem_append_right _ (List.mem_of_getElem? (i := 627) (by decide +kernel))) (by decide +kernel)
abbrev rm_Lw_least : Room := { frames := 7, cells := 1, slots := 6, locals := 135 }
abbrev b_Lw_lightest : ByteArray := method_12_code
def y_Lw_lightest : MethodName := ⟨R_Lw, "lightest", "(LGroundReach;I[J)I"⟩
abbrev hh_Lw_lightest : List (Nat × Nat × Nat × Nat) := [(0, 9, 12, 13)]
theorem cw_Lw_lightest : Cond.codeWith y_Lw_lightest b_Lw_lightest 4 (some .int) hh_Lw_lightest ∈ gtbl := gmem (List.mem_append_right _ (List.mem_of_getElem? (i := 648) (by decide +kernel))) (by decide +kernel)
theorem sw_Lw_lightest : Cond.static y_Lw_lightest ∈ gtbl := gmem (List.mem_append_right _ (List.mem_of_getElem? (i := 647) (by decide +kernel))) (by decide +kernel)
theorem d_Lw_lightest_0 : decode b_Lw_lightest 0 = .ok (.aload_n 2, 1) := by decide +kernel
theorem d_Lw_lightest_1 : decode b_Lw_lightest 1 = .ok (.iconst 0, 1) := by decide +kernel
theorem d_Lw_lightest_2 : decode b_Lw_lightest 2 = .ok (.aload_n 0, 1) := by decide +kernel
theorem d_Lw_lightest_3 : decode b_Lw_lightest 3 = .ok (.iload_n 1, 1) := by decide +kernel
theorem d_Lw_lightest_4 : decode b_Lw_lightest 4 = .ok (.invokevirtual 46, 3) := by decide +kernel
theorem d_Lw_lightest_7 : decode b_Lw_lightest 7 = .ok (.i2l, 1) := by decide +kernel
theorem d_Lw_lightest_8 : decode b_Lw_lightest 8 = .ok (.lastore, 1) := by decide +kernel
theorem d_Lw_lightest_9 : decode b_Lw_lightest 9 = .ok (.goto 6, 3) := by decide +kernel
theorem d_Lw_lightest_12 : decode b_Lw_lightest 12 = .ok (.astore_n 3, 1) := by decide +kernel
theorem d_Lw_lightest_13 : decode b_Lw_lightest 13 = .ok (.iconst 1, 1) := by decide +kernel
theorem d_Lw_lightest_14 : decode b_Lw_lightest 14 = .ok (.ireturn, 1) := by decide +kernel
theorem d_Lw_lightest_15 : decode b_Lw_lightest 15 = .ok (.iconst 0, 1) := by decide +kernel
theorem d_Lw_lightest_16 : decode b_Lw_lightest 16 = .ok (.ireturn, 1) := by decide +kernel
theorem ml_Lw_46 : Cond.methodLink R_Lw 46 y_Gr_lightest ∈ gtbl := gmem (List.mem_append_right _ (List.mem_of_getElem? (i := 649) (by decide +kernel))) (by decide +kernel)
abbrev rm_Lw_lightest : Room := { frames := 7, cells := 1, slots := 6, locals := 102 }
abbrev b_Lw_step : ByteArray := method_13_code
def y_Lw_step : MethodName := ⟨R_Lw, "step", "(LGroundReach;II[J)I"⟩
abbrev hh_Lw_step : List (Nat × Nat × Nat × Nat) := [(0, 10, 13, 52), (0, 10, 17, 15)]
theorem cw_Lw_step : Cond.codeWith y_Lw_step b_Lw_step 5 (some .int) hh_Lw_step ∈ gtbl := gmem (List.mem_append_right _ (List.mem_of_getElem? (i := 664) (by decide +kernel))) (by decide +kernel)
theorem sw_Lw_step : Cond.static y_Lw_step ∈ gtbl := gmem (List.mem_append_right _ (List.mem_of_getElem? (i := 663) (by decide +kernel))) (by decide +kernel)
theorem d_Lw_step_0 : decode b_Lw_step 0 = .ok (.aload_n 3, 1) := by decide +kernel
theorem d_Lw_step_1 : decode b_Lw_step 1 = .ok (.iconst 0, 1) := by decide +kernel
theorem d_Lw_step_2 : decode b_Lw_step 2 = .ok (.aload_n 0, 1) := by decide +kernel
theorem d_Lw_step_3 : decode b_Lw_step 3 = .ok (.iload_n 1, 1) := by decide +kernel
theorem d_Lw_step_4 : decode b_Lw_step 4 = .ok (.iload_n 2, 1) := by decide +kernel
theorem d_Lw_step_5 : decode b_Lw_step 5 = .ok (.invokevirtual 49, 3) := by decide +kernel
theorem d_Lw_step_8 : decode b_Lw_step 8 = .ok (.i2l, 1) := by decide +kernel
theorem d_Lw_step_9 : decode b_Lw_step 9 = .ok (.lastore, 1) := by decide +kernel
theorem d_Lw_step_10 : decode b_Lw_step 10 = .ok (.goto 11, 3) := by decide +kernel
theorem d_Lw_step_13 : decode b_Lw_step 13 = .ok (.astore 4, 2) := by decide +kernel
theorem d_Lw_step_15 : decode b_Lw_step 15 = .ok (.iconst 1, 1) := by decide +kernel
theorem d_Lw_step_16 : decode b_Lw_step 16 = .ok (.ireturn, 1) := by decide +kernel
theorem d_Lw_step_17 : decode b_Lw_step 17 = .ok (.astore 4, 2) := by decide +kernel
theorem d_Lw_step_19 : decode b_Lw_step 19 = .ok (.iconst 2, 1) := by decide +kernel
theorem d_Lw_step_20 : decode b_Lw_step 20 = .ok (.ireturn, 1) := by decide +kernel
theorem d_Lw_step_21 : decode b_Lw_step 21 = .ok (.iconst 0, 1) := by decide +kernel
theorem d_Lw_step_22 : decode b_Lw_step 22 = .ok (.ireturn, 1) := by decide +kernel
theorem ml_Lw_49 : Cond.methodLink R_Lw 49 y_Gr_step ∈ gtbl := gmem (List.mem_append_right _ (List.mem_of_getElem? (i := 666) (by decide +kernel))) (by decide +kernel)
abbrev rm_Lw_step : Room := { frames := 7, cells := 1, slots := 6, locals := 172 }
abbrev b_Lw_distance : ByteArray := method_14_code
def y_Lw_distance : MethodName := ⟨R_Lw, "distance", "(LGroundReach;II[J)I"⟩
abbrev hh_Lw_distance : List (Nat × Nat × Nat × Nat) := [(0, 10, 13, 13)]
theorem cw_Lw_distance : Cond.codeWith y_Lw_distance b_Lw_distance 5 (some .int) hh_Lw_distance ∈ gtbl := gmem (List.mem_append_right _ (List.mem_of_getElem? (i := 705) (by decide +kernel))) (by decide +kernel)
theorem sw_Lw_distance : Cond.static y_Lw_distance ∈ gtbl := gmem (List.mem_append_right _ (List.mem_of_getElem? (i := 704) (by decide +kernel))) (by decide +kernel)
theorem d_Lw_distance_0 : decode b_Lw_distance 0 = .ok (.aload_n 3, 1) := by decide +kernel
theorem d_Lw_distance_1 : decode b_Lw_distance 1 = .ok (.iconst 0, 1) := by decide +kernel
theorem d_Lw_distance_2 : decode b_Lw_distance 2 = .ok (.aload_n 0, 1) := by decide +kernel
theorem d_Lw_distance_3 : decode b_Lw_distance 3 = .ok (.iload_n 1, 1) := by decide +kernel
theorem d_Lw_distance_4 : decode b_Lw_distance 4 = .ok (.iload_n 2, 1) := by decide +kernel
theorem d_Lw_distance_5 : decode b_Lw_distance 5 = .ok (.invokevirtual 54, 3) := by decide +kernel
theorem d_Lw_distance_8 : decode b_Lw_distance 8 = .ok (.i2l, 1) := by decide +kernel
theorem d_Lw_distance_9 : decode b_Lw_distance 9 = .ok (.lastore, 1) := by decide +kernel
theorem d_Lw_distance_10 : decode b_Lw_distance 10 = .ok (.goto 7, 3) := by decide +kernel
theorem d_Lw_distance_13 : decode b_Lw_distance 13 = .ok (.astore 4, 2) := by decide +kernel
theorem d_Lw_distance_15 : decode b_Lw_distance 15 = .ok (.iconst 1, 1) := by decide +kernel
theorem d_Lw_distance_16 : decode b_Lw_distance 16 = .ok (.ireturn, 1) := by decide +kernel
theorem d_Lw_distance_17 : decode b_Lw_distance 17 = .ok (.iconst 0, 1) := by decide +kernel
theorem d_Lw_distance_18 : decode b_Lw_distance 18 = .ok (.ireturn, 1) := by decide +kernel
theorem ml_Lw_54 : Cond.methodLink R_Lw 54 y_Gr_distance ∈ gtbl := gmem (List.mem_append_right _ (List.mem_of_getElem? (i := 706) (by decide +kernel))) (by decide +kernel)
abbrev rm_Lw_distance : Room := { frames := 8, cells := 1, slots := 6, locals := 193 }
