theorem ac_I : Cond.arrayClass .int ∈ gtbl := gmem (List.mem_append_right _ (List.mem_of_getElem? (i := 63) (by decide +kernel))) (by decide +kernel)
theorem ac_J : Cond.arrayClass .long ∈ gtbl := gmem (List.mem_append_right _ (List.mem_of_getElem? (i := 145) (by decide +kernel))) (by decide +kernel)
theorem ac_Z : Cond.arrayClass .boolean ∈ gtbl := gmem (List.mem_append_right _ (List.mem_of_getElem? (i := 187) (by decide +kernel))) (by decide +kernel)
theorem ob_i : Cond.instanceMethod objectInit ∈ gtbl := gmem (List.mem_append_right _ (List.mem_of_getElem? (i := 24) (by decide +kernel))) (by decide +kernel)
theorem ob_c : Cond.code objectInit ⟨#[0xb1]⟩ 1 none ∈ gtbl := gmem (List.mem_append_right _ (List.mem_of_getElem? (i := 25) (by decide +kernel))) (by decide +kernel)
abbrev b_Ru_init : ByteArray := prog_6_method_1_code
def y_Ru_init : MethodName := ⟨R_Ru, "<init>", "()V"⟩
theorem k_Ru_init : kC y_Ru_init b_Ru_init 1 0 := ⟨gmem (List.mem_append_right _ (List.mem_of_getElem? (i := 67) (by decide +kernel))) (by decide +kernel), in_Ru, gmem (List.mem_append_right _ (List.mem_of_getElem? (i := 68) (by decide +kernel))) (by decide +kernel), rfl, by decide, by decide, by decide +kernel⟩
theorem is_Ru : Cond.instantiable R_Ru 4 ∈ gtbl := gmem (List.mem_append_right _ (List.mem_of_getElem? (i := 65) (by decide +kernel))) (by decide +kernel)
theorem df_Ru : ∀ j, j < 4 → defaultValue (t_Ru j) = vp_V [.null, .null, .int 0, .int 0] j := by
  intro j hj
  have hj2 : j = 0 ∨ j = 1 ∨ j = 2 ∨ j = 3 := by omega
  rcases hj2 with rfl | rfl | rfl | rfl <;> rfl
theorem d_Ru_init_0 : decode b_Ru_init 0 = .ok (.aload_n 0, 1) := by decide +kernel
theorem d_Ru_init_1 : decode b_Ru_init 1 = .ok (.invokespecial 3, 3) := by decide +kernel
theorem mo_Ru : Cond.methodLink R_Ru 3 objectInit ∈ gtbl := gmem (List.mem_append_right _ (List.mem_of_getElem? (i := 69) (by decide +kernel))) (by decide +kernel)
theorem d_Ru_init_4 : decode b_Ru_init 4 = .ok (.aload_n 0, 1) := by decide +kernel
theorem d_Ru_init_5 : decode b_Ru_init 5 = .ok (.bipush 8, 2) := by decide +kernel
theorem d_Ru_init_7 : decode b_Ru_init 7 = .ok (.newarray .int, 2) := by decide +kernel
theorem d_Ru_init_9 : decode b_Ru_init 9 = .ok (.putfield 9, 3) := by decide +kernel
theorem d_Ru_init_12 : decode b_Ru_init 12 = .ok (.aload_n 0, 1) := by decide +kernel
theorem d_Ru_init_13 : decode b_Ru_init 13 = .ok (.bipush 8, 2) := by decide +kernel
theorem d_Ru_init_15 : decode b_Ru_init 15 = .ok (.newarray .int, 2) := by decide +kernel
theorem d_Ru_init_17 : decode b_Ru_init 17 = .ok (.putfield 15, 3) := by decide +kernel
theorem d_Ru_init_20 : decode b_Ru_init 20 = .ok (.return_, 1) := by decide +kernel
abbrev rm_Ru_init : Room := { frames := 1, cells := 2, slots := 16, locals := 12 }
abbrev b_Au_init : ByteArray := prog_2_method_1_code
def y_Au_init : MethodName := ⟨R_Au, "<init>", "(LGroundReach$Terms;)V"⟩
theorem k_Au_init : kC y_Au_init b_Au_init 2 1 := ⟨gmem (List.mem_append_right _ (List.mem_of_getElem? (i := 86) (by decide +kernel))) (by decide +kernel), in_Au, gmem (List.mem_append_right _ (List.mem_of_getElem? (i := 87) (by decide +kernel))) (by decide +kernel), rfl, by decide, by decide, by decide +kernel⟩
theorem is_Au : Cond.instantiable R_Au 8 ∈ gtbl := gmem (List.mem_append_right _ (List.mem_of_getElem? (i := 84) (by decide +kernel))) (by decide +kernel)
theorem df_Au : ∀ j, j < 8 → defaultValue (t_Au j) = vp_V [.null, .null, .null, .null, .null, .null, .int 0, .int 0] j := by
  intro j hj
  have hj2 : j = 0 ∨ j = 1 ∨ j = 2 ∨ j = 3 ∨ j = 4 ∨ j = 5 ∨ j = 6 ∨ j = 7 := by omega
  rcases hj2 with rfl | rfl | rfl | rfl | rfl | rfl | rfl | rfl <;> rfl
theorem d_Au_init_0 : decode b_Au_init 0 = .ok (.aload_n 0, 1) := by decide +kernel
theorem d_Au_init_1 : decode b_Au_init 1 = .ok (.invokespecial 3, 3) := by decide +kernel
theorem mo_Au : Cond.methodLink R_Au 3 objectInit ∈ gtbl := gmem (List.mem_append_right _ (List.mem_of_getElem? (i := 88) (by decide +kernel))) (by decide +kernel)
theorem d_Au_init_4 : decode b_Au_init 4 = .ok (.aload_n 0, 1) := by decide +kernel
theorem d_Au_init_5 : decode b_Au_init 5 = .ok (.bipush 20, 2) := by decide +kernel
theorem d_Au_init_7 : decode b_Au_init 7 = .ok (.newarray .int, 2) := by decide +kernel
theorem d_Au_init_9 : decode b_Au_init 9 = .ok (.putfield 9, 3) := by decide +kernel
theorem d_Au_init_12 : decode b_Au_init 12 = .ok (.aload_n 0, 1) := by decide +kernel
theorem d_Au_init_13 : decode b_Au_init 13 = .ok (.bipush 20, 2) := by decide +kernel
theorem d_Au_init_15 : decode b_Au_init 15 = .ok (.newarray .int, 2) := by decide +kernel
theorem d_Au_init_17 : decode b_Au_init 17 = .ok (.putfield 15, 3) := by decide +kernel
theorem d_Au_init_20 : decode b_Au_init 20 = .ok (.aload_n 0, 1) := by decide +kernel
theorem d_Au_init_21 : decode b_Au_init 21 = .ok (.bipush 20, 2) := by decide +kernel
theorem d_Au_init_23 : decode b_Au_init 23 = .ok (.newarray .int, 2) := by decide +kernel
theorem d_Au_init_25 : decode b_Au_init 25 = .ok (.putfield 18, 3) := by decide +kernel
theorem d_Au_init_28 : decode b_Au_init 28 = .ok (.aload_n 0, 1) := by decide +kernel
theorem d_Au_init_29 : decode b_Au_init 29 = .ok (.bipush 20, 2) := by decide +kernel
theorem d_Au_init_31 : decode b_Au_init 31 = .ok (.newarray .int, 2) := by decide +kernel
theorem d_Au_init_33 : decode b_Au_init 33 = .ok (.putfield 21, 3) := by decide +kernel
theorem d_Au_init_36 : decode b_Au_init 36 = .ok (.aload_n 0, 1) := by decide +kernel
theorem d_Au_init_37 : decode b_Au_init 37 = .ok (.bipush 6, 2) := by decide +kernel
theorem d_Au_init_39 : decode b_Au_init 39 = .ok (.newarray .int, 2) := by decide +kernel
theorem d_Au_init_41 : decode b_Au_init 41 = .ok (.putfield 24, 3) := by decide +kernel
theorem d_Au_init_44 : decode b_Au_init 44 = .ok (.aload_n 0, 1) := by decide +kernel
theorem d_Au_init_45 : decode b_Au_init 45 = .ok (.aload_n 1, 1) := by decide +kernel
theorem d_Au_init_46 : decode b_Au_init 46 = .ok (.putfield 27, 3) := by decide +kernel
theorem d_Au_init_49 : decode b_Au_init 49 = .ok (.return_, 1) := by decide +kernel
abbrev rm_Au_init : Room := { frames := 1, cells := 5, slots := 86, locals := 12 }
abbrev b_Re_init : ByteArray := prog_5_method_1_code
def y_Re_init : MethodName := ⟨R_Re, "<init>", "(LGroundReach$Terms;LGroundReach$Rules;)V"⟩
theorem k_Re_init : kC y_Re_init b_Re_init 3 2 := ⟨gmem (List.mem_append_right _ (List.mem_of_getElem? (i := 117) (by decide +kernel))) (by decide +kernel), in_Re, gmem (List.mem_append_right _ (List.mem_of_getElem? (i := 118) (by decide +kernel))) (by decide +kernel), rfl, by decide, by decide, by decide +kernel⟩
theorem is_Re : Cond.instantiable R_Re 8 ∈ gtbl := gmem (List.mem_append_right _ (List.mem_of_getElem? (i := 115) (by decide +kernel))) (by decide +kernel)
theorem df_Re : ∀ j, j < 8 → defaultValue (t_Re j) = vp_V [.null, .null, .null, .null, .null, .int 0, .int 0, .int 0] j := by
  intro j hj
  have hj2 : j = 0 ∨ j = 1 ∨ j = 2 ∨ j = 3 ∨ j = 4 ∨ j = 5 ∨ j = 6 ∨ j = 7 := by omega
  rcases hj2 with rfl | rfl | rfl | rfl | rfl | rfl | rfl | rfl <;> rfl
theorem d_Re_init_0 : decode b_Re_init 0 = .ok (.aload_n 0, 1) := by decide +kernel
theorem d_Re_init_1 : decode b_Re_init 1 = .ok (.invokespecial 3, 3) := by decide +kernel
theorem mo_Re : Cond.methodLink R_Re 3 objectInit ∈ gtbl := gmem (List.mem_append_right _ (List.mem_of_getElem? (i := 119) (by decide +kernel))) (by decide +kernel)
theorem d_Re_init_4 : decode b_Re_init 4 = .ok (.aload_n 0, 1) := by decide +kernel
theorem d_Re_init_5 : decode b_Re_init 5 = .ok (.bipush 48, 2) := by decide +kernel
theorem d_Re_init_7 : decode b_Re_init 7 = .ok (.newarray .long, 2) := by decide +kernel
theorem d_Re_init_9 : decode b_Re_init 9 = .ok (.putfield 9, 3) := by decide +kernel
theorem d_Re_init_12 : decode b_Re_init 12 = .ok (.aload_n 0, 1) := by decide +kernel
theorem d_Re_init_13 : decode b_Re_init 13 = .ok (.bipush 48, 2) := by decide +kernel
theorem d_Re_init_15 : decode b_Re_init 15 = .ok (.newarray .long, 2) := by decide +kernel
theorem d_Re_init_17 : decode b_Re_init 17 = .ok (.putfield 15, 3) := by decide +kernel
theorem d_Re_init_20 : decode b_Re_init 20 = .ok (.aload_n 0, 1) := by decide +kernel
theorem d_Re_init_21 : decode b_Re_init 21 = .ok (.bipush 48, 2) := by decide +kernel
theorem d_Re_init_23 : decode b_Re_init 23 = .ok (.newarray .int, 2) := by decide +kernel
theorem d_Re_init_25 : decode b_Re_init 25 = .ok (.putfield 18, 3) := by decide +kernel
theorem d_Re_init_28 : decode b_Re_init 28 = .ok (.aload_n 0, 1) := by decide +kernel
theorem d_Re_init_29 : decode b_Re_init 29 = .ok (.iconst (-1), 1) := by decide +kernel
theorem d_Re_init_30 : decode b_Re_init 30 = .ok (.putfield 22, 3) := by decide +kernel
theorem d_Re_init_33 : decode b_Re_init 33 = .ok (.aload_n 0, 1) := by decide +kernel
theorem d_Re_init_34 : decode b_Re_init 34 = .ok (.iconst (-1), 1) := by decide +kernel
theorem d_Re_init_35 : decode b_Re_init 35 = .ok (.putfield 26, 3) := by decide +kernel
theorem d_Re_init_38 : decode b_Re_init 38 = .ok (.aload_n 0, 1) := by decide +kernel
theorem d_Re_init_39 : decode b_Re_init 39 = .ok (.aload_n 1, 1) := by decide +kernel
theorem d_Re_init_40 : decode b_Re_init 40 = .ok (.putfield 29, 3) := by decide +kernel
theorem d_Re_init_43 : decode b_Re_init 43 = .ok (.aload_n 0, 1) := by decide +kernel
theorem d_Re_init_44 : decode b_Re_init 44 = .ok (.aload_n 2, 1) := by decide +kernel
theorem d_Re_init_45 : decode b_Re_init 45 = .ok (.putfield 33, 3) := by decide +kernel
theorem d_Re_init_48 : decode b_Re_init 48 = .ok (.return_, 1) := by decide +kernel
abbrev rm_Re_init : Room := { frames := 1, cells := 3, slots := 144, locals := 12 }
abbrev b_La_init : ByteArray := prog_3_method_1_code
def y_La_init : MethodName := ⟨R_La, "<init>", "(LGroundReach$Terms;LGroundReach$Automaton;LGroundReach$Relations;)V"⟩
theorem k_La_init : kC y_La_init b_La_init 4 3 := ⟨gmem (List.mem_append_right _ (List.mem_of_getElem? (i := 149) (by decide +kernel))) (by decide +kernel), in_La, gmem (List.mem_append_right _ (List.mem_of_getElem? (i := 150) (by decide +kernel))) (by decide +kernel), rfl, by decide, by decide, by decide +kernel⟩
theorem is_La : Cond.instantiable R_La 4 ∈ gtbl := gmem (List.mem_append_right _ (List.mem_of_getElem? (i := 147) (by decide +kernel))) (by decide +kernel)
theorem df_La : ∀ j, j < 4 → defaultValue (t_La j) = vp_V [.null, .null, .null, .null] j := by
  intro j hj
  have hj2 : j = 0 ∨ j = 1 ∨ j = 2 ∨ j = 3 := by omega
  rcases hj2 with rfl | rfl | rfl | rfl <;> rfl
theorem d_La_init_0 : decode b_La_init 0 = .ok (.aload_n 0, 1) := by decide +kernel
theorem d_La_init_1 : decode b_La_init 1 = .ok (.invokespecial 3, 3) := by decide +kernel
theorem mo_La : Cond.methodLink R_La 3 objectInit ∈ gtbl := gmem (List.mem_append_right _ (List.mem_of_getElem? (i := 151) (by decide +kernel))) (by decide +kernel)
theorem d_La_init_4 : decode b_La_init 4 = .ok (.aload_n 0, 1) := by decide +kernel
theorem d_La_init_5 : decode b_La_init 5 = .ok (.bipush 48, 2) := by decide +kernel
theorem d_La_init_7 : decode b_La_init 7 = .ok (.newarray .int, 2) := by decide +kernel
theorem d_La_init_9 : decode b_La_init 9 = .ok (.putfield 9, 3) := by decide +kernel
theorem d_La_init_12 : decode b_La_init 12 = .ok (.aload_n 0, 1) := by decide +kernel
theorem d_La_init_13 : decode b_La_init 13 = .ok (.aload_n 1, 1) := by decide +kernel
theorem d_La_init_14 : decode b_La_init 14 = .ok (.putfield 15, 3) := by decide +kernel
theorem d_La_init_17 : decode b_La_init 17 = .ok (.aload_n 0, 1) := by decide +kernel
theorem d_La_init_18 : decode b_La_init 18 = .ok (.aload_n 2, 1) := by decide +kernel
theorem d_La_init_19 : decode b_La_init 19 = .ok (.putfield 19, 3) := by decide +kernel
theorem d_La_init_22 : decode b_La_init 22 = .ok (.aload_n 0, 1) := by decide +kernel
theorem d_La_init_23 : decode b_La_init 23 = .ok (.aload_n 3, 1) := by decide +kernel
theorem d_La_init_24 : decode b_La_init 24 = .ok (.putfield 23, 3) := by decide +kernel
theorem d_La_init_27 : decode b_La_init 27 = .ok (.return_, 1) := by decide +kernel
abbrev rm_La_init : Room := { frames := 1, cells := 1, slots := 48, locals := 12 }
abbrev b_Sp_init : ByteArray := prog_7_method_1_code
def y_Sp_init : MethodName := ⟨R_Sp, "<init>", "(LGroundReach$Terms;LGroundReach$Rules;)V"⟩
theorem k_Sp_init : kC y_Sp_init b_Sp_init 3 2 := ⟨gmem (List.mem_append_right _ (List.mem_of_getElem? (i := 168) (by decide +kernel))) (by decide +kernel), in_Sp, gmem (List.mem_append_right _ (List.mem_of_getElem? (i := 169) (by decide +kernel))) (by decide +kernel), rfl, by decide, by decide, by decide +kernel⟩
theorem is_Sp : Cond.instantiable R_Sp 5 ∈ gtbl := gmem (List.mem_append_right _ (List.mem_of_getElem? (i := 166) (by decide +kernel))) (by decide +kernel)
theorem df_Sp : ∀ j, j < 5 → defaultValue (t_Sp j) = vp_V [.null, .null, .null, .null, .null] j := by
  intro j hj
  have hj2 : j = 0 ∨ j = 1 ∨ j = 2 ∨ j = 3 ∨ j = 4 := by omega
  rcases hj2 with rfl | rfl | rfl | rfl | rfl <;> rfl
theorem d_Sp_init_0 : decode b_Sp_init 0 = .ok (.aload_n 0, 1) := by decide +kernel
theorem d_Sp_init_1 : decode b_Sp_init 1 = .ok (.invokespecial 3, 3) := by decide +kernel
theorem mo_Sp : Cond.methodLink R_Sp 3 objectInit ∈ gtbl := gmem (List.mem_append_right _ (List.mem_of_getElem? (i := 170) (by decide +kernel))) (by decide +kernel)
theorem d_Sp_init_4 : decode b_Sp_init 4 = .ok (.aload_n 0, 1) := by decide +kernel
theorem d_Sp_init_5 : decode b_Sp_init 5 = .ok (.bipush 48, 2) := by decide +kernel
theorem d_Sp_init_7 : decode b_Sp_init 7 = .ok (.newarray .long, 2) := by decide +kernel
theorem d_Sp_init_9 : decode b_Sp_init 9 = .ok (.putfield 9, 3) := by decide +kernel
theorem d_Sp_init_12 : decode b_Sp_init 12 = .ok (.aload_n 0, 1) := by decide +kernel
theorem d_Sp_init_13 : decode b_Sp_init 13 = .ok (.bipush 48, 2) := by decide +kernel
theorem d_Sp_init_15 : decode b_Sp_init 15 = .ok (.newarray .int, 2) := by decide +kernel
theorem d_Sp_init_17 : decode b_Sp_init 17 = .ok (.putfield 15, 3) := by decide +kernel
theorem d_Sp_init_20 : decode b_Sp_init 20 = .ok (.aload_n 0, 1) := by decide +kernel
theorem d_Sp_init_21 : decode b_Sp_init 21 = .ok (.bipush 48, 2) := by decide +kernel
theorem d_Sp_init_23 : decode b_Sp_init 23 = .ok (.newarray .boolean, 2) := by decide +kernel
theorem d_Sp_init_25 : decode b_Sp_init 25 = .ok (.putfield 19, 3) := by decide +kernel
theorem d_Sp_init_28 : decode b_Sp_init 28 = .ok (.aload_n 0, 1) := by decide +kernel
theorem d_Sp_init_29 : decode b_Sp_init 29 = .ok (.aload_n 1, 1) := by decide +kernel
theorem d_Sp_init_30 : decode b_Sp_init 30 = .ok (.putfield 23, 3) := by decide +kernel
theorem d_Sp_init_33 : decode b_Sp_init 33 = .ok (.aload_n 0, 1) := by decide +kernel
theorem d_Sp_init_34 : decode b_Sp_init 34 = .ok (.aload_n 2, 1) := by decide +kernel
theorem d_Sp_init_35 : decode b_Sp_init 35 = .ok (.putfield 27, 3) := by decide +kernel
theorem d_Sp_init_38 : decode b_Sp_init 38 = .ok (.return_, 1) := by decide +kernel
abbrev rm_Sp_init : Room := { frames := 1, cells := 3, slots := 144, locals := 12 }
abbrev b_Le_init : ByteArray := prog_4_method_1_code
def y_Le_init : MethodName := ⟨R_Le, "<init>", "(LGroundReach$Terms;LGroundReach$Rules;)V"⟩
theorem k_Le_init : kC y_Le_init b_Le_init 3 2 := ⟨gmem (List.mem_append_right _ (List.mem_of_getElem? (i := 191) (by decide +kernel))) (by decide +kernel), in_Le, gmem (List.mem_append_right _ (List.mem_of_getElem? (i := 192) (by decide +kernel))) (by decide +kernel), rfl, by decide, by decide, by decide +kernel⟩
theorem is_Le : Cond.instantiable R_Le 10 ∈ gtbl := gmem (List.mem_append_right _ (List.mem_of_getElem? (i := 189) (by decide +kernel))) (by decide +kernel)
theorem df_Le : ∀ j, j < 10 → defaultValue (t_Le j) = vp_V [.null, .null, .null, .null, .null, .null, .null, .null, .null, .int 0] j := by
  intro j hj
  have hj2 : j = 0 ∨ j = 1 ∨ j = 2 ∨ j = 3 ∨ j = 4 ∨ j = 5 ∨ j = 6 ∨ j = 7 ∨ j = 8 ∨ j = 9 := by omega
  rcases hj2 with rfl | rfl | rfl | rfl | rfl | rfl | rfl | rfl | rfl | rfl <;> rfl
theorem d_Le_init_0 : decode b_Le_init 0 = .ok (.aload_n 0, 1) := by decide +kernel
theorem d_Le_init_1 : decode b_Le_init 1 = .ok (.invokespecial 3, 3) := by decide +kernel
theorem mo_Le : Cond.methodLink R_Le 3 objectInit ∈ gtbl := gmem (List.mem_append_right _ (List.mem_of_getElem? (i := 193) (by decide +kernel))) (by decide +kernel)
theorem d_Le_init_4 : decode b_Le_init 4 = .ok (.aload_n 0, 1) := by decide +kernel
theorem d_Le_init_5 : decode b_Le_init 5 = .ok (.sipush 3136, 3) := by decide +kernel
theorem d_Le_init_8 : decode b_Le_init 8 = .ok (.newarray .long, 2) := by decide +kernel
theorem d_Le_init_10 : decode b_Le_init 10 = .ok (.putfield 11, 3) := by decide +kernel
theorem d_Le_init_13 : decode b_Le_init 13 = .ok (.aload_n 0, 1) := by decide +kernel
theorem d_Le_init_14 : decode b_Le_init 14 = .ok (.sipush 448, 3) := by decide +kernel
theorem d_Le_init_17 : decode b_Le_init 17 = .ok (.newarray .boolean, 2) := by decide +kernel
theorem d_Le_init_19 : decode b_Le_init 19 = .ok (.putfield 15, 3) := by decide +kernel
theorem d_Le_init_22 : decode b_Le_init 22 = .ok (.aload_n 0, 1) := by decide +kernel
theorem d_Le_init_23 : decode b_Le_init 23 = .ok (.sipush 448, 3) := by decide +kernel
theorem d_Le_init_26 : decode b_Le_init 26 = .ok (.newarray .boolean, 2) := by decide +kernel
theorem d_Le_init_28 : decode b_Le_init 28 = .ok (.putfield 19, 3) := by decide +kernel
theorem d_Le_init_31 : decode b_Le_init 31 = .ok (.aload_n 0, 1) := by decide +kernel
theorem d_Le_init_32 : decode b_Le_init 32 = .ok (.bipush 7, 2) := by decide +kernel
theorem d_Le_init_34 : decode b_Le_init 34 = .ok (.newarray .long, 2) := by decide +kernel
theorem d_Le_init_36 : decode b_Le_init 36 = .ok (.putfield 22, 3) := by decide +kernel
theorem d_Le_init_39 : decode b_Le_init 39 = .ok (.aload_n 0, 1) := by decide +kernel
theorem d_Le_init_40 : decode b_Le_init 40 = .ok (.bipush 7, 2) := by decide +kernel
theorem d_Le_init_42 : decode b_Le_init 42 = .ok (.newarray .long, 2) := by decide +kernel
theorem d_Le_init_44 : decode b_Le_init 44 = .ok (.putfield 25, 3) := by decide +kernel
theorem d_Le_init_47 : decode b_Le_init 47 = .ok (.aload_n 0, 1) := by decide +kernel
theorem d_Le_init_48 : decode b_Le_init 48 = .ok (.bipush 7, 2) := by decide +kernel
theorem d_Le_init_50 : decode b_Le_init 50 = .ok (.newarray .long, 2) := by decide +kernel
theorem d_Le_init_52 : decode b_Le_init 52 = .ok (.putfield 28, 3) := by decide +kernel
theorem d_Le_init_55 : decode b_Le_init 55 = .ok (.aload_n 0, 1) := by decide +kernel
theorem d_Le_init_56 : decode b_Le_init 56 = .ok (.sipush 448, 3) := by decide +kernel
theorem d_Le_init_59 : decode b_Le_init 59 = .ok (.newarray .int, 2) := by decide +kernel
theorem d_Le_init_61 : decode b_Le_init 61 = .ok (.putfield 31, 3) := by decide +kernel
theorem d_Le_init_64 : decode b_Le_init 64 = .ok (.aload_n 0, 1) := by decide +kernel
theorem d_Le_init_65 : decode b_Le_init 65 = .ok (.aload_n 1, 1) := by decide +kernel
theorem d_Le_init_66 : decode b_Le_init 66 = .ok (.putfield 35, 3) := by decide +kernel
theorem d_Le_init_69 : decode b_Le_init 69 = .ok (.aload_n 0, 1) := by decide +kernel
theorem d_Le_init_70 : decode b_Le_init 70 = .ok (.aload_n 2, 1) := by decide +kernel
theorem d_Le_init_71 : decode b_Le_init 71 = .ok (.putfield 39, 3) := by decide +kernel
theorem d_Le_init_74 : decode b_Le_init 74 = .ok (.return_, 1) := by decide +kernel
abbrev rm_Le_init : Room := { frames := 1, cells := 7, slots := 4501, locals := 12 }
abbrev b_Te_init : ByteArray := prog_8_method_1_code
def y_Te_init : MethodName := ⟨R_Te, "<init>", "(I)V"⟩
theorem k_Te_init : kC y_Te_init b_Te_init 3 1 := ⟨gmem (List.mem_append_right _ (List.mem_of_getElem? (i := 29) (by decide +kernel))) (by decide +kernel), in_Te, gmem (List.mem_append_right _ (List.mem_of_getElem? (i := 30) (by decide +kernel))) (by decide +kernel), rfl, by decide, by decide, by decide +kernel⟩
theorem is_Te : Cond.instantiable R_Te 8 ∈ gtbl := gmem (List.mem_append_right _ (List.mem_of_getElem? (i := 27) (by decide +kernel))) (by decide +kernel)
theorem df_Te : ∀ j, j < 8 → defaultValue (t_Te j) = vp_V [.null, .null, .null, .null, .null, .null, .null, .int 0] j := by
  intro j hj
  have hj2 : j = 0 ∨ j = 1 ∨ j = 2 ∨ j = 3 ∨ j = 4 ∨ j = 5 ∨ j = 6 ∨ j = 7 := by omega
  rcases hj2 with rfl | rfl | rfl | rfl | rfl | rfl | rfl | rfl <;> rfl
theorem d_Te_init_0 : decode b_Te_init 0 = .ok (.aload_n 0, 1) := by decide +kernel
theorem d_Te_init_1 : decode b_Te_init 1 = .ok (.invokespecial 3, 3) := by decide +kernel
theorem mo_Te : Cond.methodLink R_Te 3 objectInit ∈ gtbl := gmem (List.mem_append_right _ (List.mem_of_getElem? (i := 31) (by decide +kernel))) (by decide +kernel)
theorem d_Te_init_4 : decode b_Te_init 4 = .ok (.aload_n 0, 1) := by decide +kernel
theorem d_Te_init_5 : decode b_Te_init 5 = .ok (.bipush 6, 2) := by decide +kernel
theorem d_Te_init_7 : decode b_Te_init 7 = .ok (.newarray .int, 2) := by decide +kernel
theorem d_Te_init_9 : decode b_Te_init 9 = .ok (.putfield 9, 3) := by decide +kernel
theorem d_Te_init_12 : decode b_Te_init 12 = .ok (.aload_n 0, 1) := by decide +kernel
theorem d_Te_init_13 : decode b_Te_init 13 = .ok (.sipush 448, 3) := by decide +kernel
theorem d_Te_init_16 : decode b_Te_init 16 = .ok (.newarray .int, 2) := by decide +kernel
theorem d_Te_init_18 : decode b_Te_init 18 = .ok (.putfield 15, 3) := by decide +kernel
theorem d_Te_init_21 : decode b_Te_init 21 = .ok (.aload_n 0, 1) := by decide +kernel
theorem d_Te_init_22 : decode b_Te_init 22 = .ok (.sipush 448, 3) := by decide +kernel
theorem d_Te_init_25 : decode b_Te_init 25 = .ok (.newarray .int, 2) := by decide +kernel
theorem d_Te_init_27 : decode b_Te_init 27 = .ok (.putfield 18, 3) := by decide +kernel
theorem d_Te_init_30 : decode b_Te_init 30 = .ok (.aload_n 0, 1) := by decide +kernel
theorem d_Te_init_31 : decode b_Te_init 31 = .ok (.sipush 448, 3) := by decide +kernel
theorem d_Te_init_34 : decode b_Te_init 34 = .ok (.newarray .int, 2) := by decide +kernel
theorem d_Te_init_36 : decode b_Te_init 36 = .ok (.putfield 21, 3) := by decide +kernel
theorem d_Te_init_39 : decode b_Te_init 39 = .ok (.aload_n 0, 1) := by decide +kernel
theorem d_Te_init_40 : decode b_Te_init 40 = .ok (.sipush 448, 3) := by decide +kernel
theorem d_Te_init_43 : decode b_Te_init 43 = .ok (.newarray .int, 2) := by decide +kernel
theorem d_Te_init_45 : decode b_Te_init 45 = .ok (.putfield 24, 3) := by decide +kernel
theorem d_Te_init_48 : decode b_Te_init 48 = .ok (.aload_n 0, 1) := by decide +kernel
theorem d_Te_init_49 : decode b_Te_init 49 = .ok (.sipush 256, 3) := by decide +kernel
theorem d_Te_init_52 : decode b_Te_init 52 = .ok (.newarray .int, 2) := by decide +kernel
theorem d_Te_init_54 : decode b_Te_init 54 = .ok (.putfield 27, 3) := by decide +kernel
theorem d_Te_init_57 : decode b_Te_init 57 = .ok (.aload_n 0, 1) := by decide +kernel
theorem d_Te_init_58 : decode b_Te_init 58 = .ok (.sipush 448, 3) := by decide +kernel
theorem d_Te_init_61 : decode b_Te_init 61 = .ok (.newarray .int, 2) := by decide +kernel
theorem d_Te_init_63 : decode b_Te_init 63 = .ok (.putfield 30, 3) := by decide +kernel
theorem d_Te_init_66 : decode b_Te_init 66 = .ok (.iconst 0, 1) := by decide +kernel
theorem d_Te_init_67 : decode b_Te_init 67 = .ok (.istore_n 2, 1) := by decide +kernel
theorem d_Te_init_68 : decode b_Te_init 68 = .ok (.iload_n 2, 1) := by decide +kernel
theorem d_Te_init_69 : decode b_Te_init 69 = .ok (.bipush 6, 2) := by decide +kernel
theorem d_Te_init_71 : decode b_Te_init 71 = .ok (.if_icmp .ge 26, 3) := by decide +kernel
theorem d_Te_init_74 : decode b_Te_init 74 = .ok (.aload_n 0, 1) := by decide +kernel
theorem d_Te_init_75 : decode b_Te_init 75 = .ok (.getfield 9, 3) := by decide +kernel
theorem d_Te_init_78 : decode b_Te_init 78 = .ok (.iload_n 2, 1) := by decide +kernel
theorem d_Te_init_79 : decode b_Te_init 79 = .ok (.iconst 2, 1) := by decide +kernel
theorem d_Te_init_80 : decode b_Te_init 80 = .ok (.iload_n 1, 1) := by decide +kernel
theorem d_Te_init_81 : decode b_Te_init 81 = .ok (.iconst 2, 1) := by decide +kernel
theorem d_Te_init_82 : decode b_Te_init 82 = .ok (.iload_n 2, 1) := by decide +kernel
theorem d_Te_init_83 : decode b_Te_init 83 = .ok (.imul, 1) := by decide +kernel
theorem d_Te_init_84 : decode b_Te_init 84 = .ok (.ishr, 1) := by decide +kernel
theorem d_Te_init_85 : decode b_Te_init 85 = .ok (.iconst 3, 1) := by decide +kernel
theorem d_Te_init_86 : decode b_Te_init 86 = .ok (.iand, 1) := by decide +kernel
theorem d_Te_init_87 : decode b_Te_init 87 = .ok (.invokestatic 33, 3) := by decide +kernel
theorem d_Te_init_90 : decode b_Te_init 90 = .ok (.iastore, 1) := by decide +kernel
theorem d_Te_init_91 : decode b_Te_init 91 = .ok (.iinc 2 1, 3) := by decide +kernel
theorem d_Te_init_94 : decode b_Te_init 94 = .ok (.goto (-26), 3) := by decide +kernel
theorem d_Te_init_97 : decode b_Te_init 97 = .ok (.aload_n 0, 1) := by decide +kernel
theorem d_Te_init_98 : decode b_Te_init 98 = .ok (.getfield 27, 3) := by decide +kernel
theorem d_Te_init_101 : decode b_Te_init 101 = .ok (.iconst (-1), 1) := by decide +kernel
theorem d_Te_init_102 : decode b_Te_init 102 = .ok (.invokestatic 39, 3) := by decide +kernel
theorem d_Te_init_105 : decode b_Te_init 105 = .ok (.return_, 1) := by decide +kernel
-- room of Te_init: see rm_Te_initT
abbrev b_Mo_init : ByteArray := prog_10_method_1_code
def y_Mo_init : MethodName := ⟨R_Mo, "<init>", "(I)V"⟩
theorem k_Mo_init : kC y_Mo_init b_Mo_init 4 1 := ⟨gmem (List.mem_append_right _ (List.mem_of_getElem? (i := 766) (by decide +kernel))) (by decide +kernel), in_Mo, gmem (List.mem_append_right _ (List.mem_of_getElem? (i := 767) (by decide +kernel))) (by decide +kernel), rfl, by decide, by decide, by decide +kernel⟩
theorem is_Mo : Cond.instantiable R_Mo 26 ∈ gtbl := gmem (List.mem_append_right _ (List.mem_of_getElem? (i := 764) (by decide +kernel))) (by decide +kernel)
theorem df_Mo : ∀ j, j < 26 → defaultValue (t_Mo j) = vp_V [.int 0, .null, .null, .null, .null, .int 0, .int 0, .null, .null, .int 0, .null, .int 0, .null, .null, .null, .null, .null, .int 0, .int 0, .null, .null, .null, .null, .null, .null, .null] j := by
  intro j hj
  have hj2 : j = 0 ∨ j = 1 ∨ j = 2 ∨ j = 3 ∨ j = 4 ∨ j = 5 ∨ j = 6 ∨ j = 7 ∨ j = 8 ∨ j = 9 ∨ j = 10 ∨ j = 11 ∨ j = 12 ∨ j = 13 ∨ j = 14 ∨ j = 15 ∨ j = 16 ∨ j = 17 ∨ j = 18 ∨ j = 19 ∨ j = 20 ∨ j = 21 ∨ j = 22 ∨ j = 23 ∨ j = 24 ∨ j = 25 := by omega
  rcases hj2 with rfl | rfl | rfl | rfl | rfl | rfl | rfl | rfl | rfl | rfl | rfl | rfl | rfl | rfl | rfl | rfl | rfl | rfl | rfl | rfl | rfl | rfl | rfl | rfl | rfl | rfl <;> rfl
theorem d_Mo_init_0 : decode b_Mo_init 0 = .ok (.aload_n 0, 1) := by decide +kernel
theorem d_Mo_init_1 : decode b_Mo_init 1 = .ok (.invokespecial 1, 3) := by decide +kernel
theorem mo_Mo : Cond.methodLink R_Mo 1 objectInit ∈ gtbl := gmem (List.mem_append_right _ (List.mem_of_getElem? (i := 768) (by decide +kernel))) (by decide +kernel)
theorem d_Mo_init_4 : decode b_Mo_init 4 = .ok (.aload_n 0, 1) := by decide +kernel
theorem d_Mo_init_5 : decode b_Mo_init 5 = .ok (.bipush 6, 2) := by decide +kernel
theorem d_Mo_init_7 : decode b_Mo_init 7 = .ok (.newarray .int, 2) := by decide +kernel
theorem d_Mo_init_9 : decode b_Mo_init 9 = .ok (.putfield 7, 3) := by decide +kernel
theorem d_Mo_init_12 : decode b_Mo_init 12 = .ok (.aload_n 0, 1) := by decide +kernel
theorem d_Mo_init_13 : decode b_Mo_init 13 = .ok (.sipush 520, 3) := by decide +kernel
theorem d_Mo_init_16 : decode b_Mo_init 16 = .ok (.newarray .int, 2) := by decide +kernel
theorem d_Mo_init_18 : decode b_Mo_init 18 = .ok (.putfield 13, 3) := by decide +kernel
theorem d_Mo_init_21 : decode b_Mo_init 21 = .ok (.aload_n 0, 1) := by decide +kernel
theorem d_Mo_init_22 : decode b_Mo_init 22 = .ok (.sipush 520, 3) := by decide +kernel
theorem d_Mo_init_25 : decode b_Mo_init 25 = .ok (.newarray .int, 2) := by decide +kernel
theorem d_Mo_init_27 : decode b_Mo_init 27 = .ok (.putfield 16, 3) := by decide +kernel
theorem d_Mo_init_30 : decode b_Mo_init 30 = .ok (.aload_n 0, 1) := by decide +kernel
theorem d_Mo_init_31 : decode b_Mo_init 31 = .ok (.sipush 520, 3) := by decide +kernel
theorem d_Mo_init_34 : decode b_Mo_init 34 = .ok (.newarray .int, 2) := by decide +kernel
theorem d_Mo_init_36 : decode b_Mo_init 36 = .ok (.putfield 19, 3) := by decide +kernel
theorem d_Mo_init_39 : decode b_Mo_init 39 = .ok (.aload_n 0, 1) := by decide +kernel
theorem d_Mo_init_40 : decode b_Mo_init 40 = .ok (.bipush 8, 2) := by decide +kernel
theorem d_Mo_init_42 : decode b_Mo_init 42 = .ok (.newarray .int, 2) := by decide +kernel
theorem d_Mo_init_44 : decode b_Mo_init 44 = .ok (.putfield 22, 3) := by decide +kernel
theorem d_Mo_init_47 : decode b_Mo_init 47 = .ok (.aload_n 0, 1) := by decide +kernel
theorem d_Mo_init_48 : decode b_Mo_init 48 = .ok (.bipush 8, 2) := by decide +kernel
theorem d_Mo_init_50 : decode b_Mo_init 50 = .ok (.newarray .int, 2) := by decide +kernel
theorem d_Mo_init_52 : decode b_Mo_init 52 = .ok (.putfield 25, 3) := by decide +kernel
theorem d_Mo_init_55 : decode b_Mo_init 55 = .ok (.aload_n 0, 1) := by decide +kernel
theorem d_Mo_init_56 : decode b_Mo_init 56 = .ok (.bipush 80, 2) := by decide +kernel
theorem d_Mo_init_58 : decode b_Mo_init 58 = .ok (.newarray .int, 2) := by decide +kernel
theorem d_Mo_init_60 : decode b_Mo_init 60 = .ok (.putfield 28, 3) := by decide +kernel
theorem d_Mo_init_63 : decode b_Mo_init 63 = .ok (.aload_n 0, 1) := by decide +kernel
theorem d_Mo_init_64 : decode b_Mo_init 64 = .ok (.sipush 2304, 3) := by decide +kernel
theorem d_Mo_init_67 : decode b_Mo_init 67 = .ok (.newarray .boolean, 2) := by decide +kernel
theorem d_Mo_init_69 : decode b_Mo_init 69 = .ok (.putfield 31, 3) := by decide +kernel
theorem d_Mo_init_72 : decode b_Mo_init 72 = .ok (.aload_n 0, 1) := by decide +kernel
theorem d_Mo_init_73 : decode b_Mo_init 73 = .ok (.sipush 2304, 3) := by decide +kernel
theorem d_Mo_init_76 : decode b_Mo_init 76 = .ok (.newarray .boolean, 2) := by decide +kernel
theorem d_Mo_init_78 : decode b_Mo_init 78 = .ok (.putfield 35, 3) := by decide +kernel
theorem d_Mo_init_81 : decode b_Mo_init 81 = .ok (.aload_n 0, 1) := by decide +kernel
theorem d_Mo_init_82 : decode b_Mo_init 82 = .ok (.sipush 288, 3) := by decide +kernel
theorem d_Mo_init_85 : decode b_Mo_init 85 = .ok (.newarray .boolean, 2) := by decide +kernel
theorem d_Mo_init_87 : decode b_Mo_init 87 = .ok (.putfield 38, 3) := by decide +kernel
theorem d_Mo_init_90 : decode b_Mo_init 90 = .ok (.aload_n 0, 1) := by decide +kernel
theorem d_Mo_init_91 : decode b_Mo_init 91 = .ok (.bipush 48, 2) := by decide +kernel
theorem d_Mo_init_93 : decode b_Mo_init 93 = .ok (.newarray .int, 2) := by decide +kernel
theorem d_Mo_init_95 : decode b_Mo_init 95 = .ok (.putfield 41, 3) := by decide +kernel
theorem d_Mo_init_98 : decode b_Mo_init 98 = .ok (.aload_n 0, 1) := by decide +kernel
theorem d_Mo_init_99 : decode b_Mo_init 99 = .ok (.bipush 6, 2) := by decide +kernel
theorem d_Mo_init_101 : decode b_Mo_init 101 = .ok (.newarray .int, 2) := by decide +kernel
theorem d_Mo_init_103 : decode b_Mo_init 103 = .ok (.putfield 44, 3) := by decide +kernel
theorem d_Mo_init_106 : decode b_Mo_init 106 = .ok (.aload_n 0, 1) := by decide +kernel
theorem d_Mo_init_107 : decode b_Mo_init 107 = .ok (.sipush 520, 3) := by decide +kernel
theorem d_Mo_init_110 : decode b_Mo_init 110 = .ok (.newarray .boolean, 2) := by decide +kernel
theorem d_Mo_init_112 : decode b_Mo_init 112 = .ok (.putfield 47, 3) := by decide +kernel
theorem d_Mo_init_115 : decode b_Mo_init 115 = .ok (.aload_n 0, 1) := by decide +kernel
theorem d_Mo_init_116 : decode b_Mo_init 116 = .ok (.sipush 520, 3) := by decide +kernel
theorem d_Mo_init_119 : decode b_Mo_init 119 = .ok (.newarray .boolean, 2) := by decide +kernel
theorem d_Mo_init_121 : decode b_Mo_init 121 = .ok (.putfield 50, 3) := by decide +kernel
theorem d_Mo_init_124 : decode b_Mo_init 124 = .ok (.aload_n 0, 1) := by decide +kernel
theorem d_Mo_init_125 : decode b_Mo_init 125 = .ok (.sipush 520, 3) := by decide +kernel
theorem d_Mo_init_128 : decode b_Mo_init 128 = .ok (.newarray .int, 2) := by decide +kernel
theorem d_Mo_init_130 : decode b_Mo_init 130 = .ok (.putfield 53, 3) := by decide +kernel
theorem d_Mo_init_133 : decode b_Mo_init 133 = .ok (.aload_n 0, 1) := by decide +kernel
theorem d_Mo_init_134 : decode b_Mo_init 134 = .ok (.sipush 520, 3) := by decide +kernel
theorem d_Mo_init_137 : decode b_Mo_init 137 = .ok (.newarray .int, 2) := by decide +kernel
theorem d_Mo_init_139 : decode b_Mo_init 139 = .ok (.putfield 56, 3) := by decide +kernel
theorem d_Mo_init_142 : decode b_Mo_init 142 = .ok (.aload_n 0, 1) := by decide +kernel
theorem d_Mo_init_143 : decode b_Mo_init 143 = .ok (.sipush 1100, 3) := by decide +kernel
theorem d_Mo_init_146 : decode b_Mo_init 146 = .ok (.newarray .int, 2) := by decide +kernel
theorem d_Mo_init_148 : decode b_Mo_init 148 = .ok (.putfield 59, 3) := by decide +kernel
theorem d_Mo_init_151 : decode b_Mo_init 151 = .ok (.aload_n 0, 1) := by decide +kernel
theorem d_Mo_init_152 : decode b_Mo_init 152 = .ok (.sipush 520, 3) := by decide +kernel
theorem d_Mo_init_155 : decode b_Mo_init 155 = .ok (.newarray .int, 2) := by decide +kernel
theorem d_Mo_init_157 : decode b_Mo_init 157 = .ok (.putfield 62, 3) := by decide +kernel
theorem d_Mo_init_160 : decode b_Mo_init 160 = .ok (.aload_n 0, 1) := by decide +kernel
theorem d_Mo_init_161 : decode b_Mo_init 161 = .ok (.sipush 520, 3) := by decide +kernel
theorem d_Mo_init_164 : decode b_Mo_init 164 = .ok (.newarray .int, 2) := by decide +kernel
theorem d_Mo_init_166 : decode b_Mo_init 166 = .ok (.putfield 65, 3) := by decide +kernel
theorem d_Mo_init_169 : decode b_Mo_init 169 = .ok (.iconst 0, 1) := by decide +kernel
theorem d_Mo_init_170 : decode b_Mo_init 170 = .ok (.istore_n 2, 1) := by decide +kernel
theorem d_Mo_init_171 : decode b_Mo_init 171 = .ok (.iload_n 2, 1) := by decide +kernel
theorem d_Mo_init_172 : decode b_Mo_init 172 = .ok (.bipush 6, 2) := by decide +kernel
theorem d_Mo_init_174 : decode b_Mo_init 174 = .ok (.if_icmp .ge 33, 3) := by decide +kernel
theorem d_Mo_init_177 : decode b_Mo_init 177 = .ok (.iload_n 1, 1) := by decide +kernel
theorem d_Mo_init_178 : decode b_Mo_init 178 = .ok (.iconst 2, 1) := by decide +kernel
theorem d_Mo_init_179 : decode b_Mo_init 179 = .ok (.iload_n 2, 1) := by decide +kernel
theorem d_Mo_init_180 : decode b_Mo_init 180 = .ok (.imul, 1) := by decide +kernel
theorem d_Mo_init_181 : decode b_Mo_init 181 = .ok (.ishr, 1) := by decide +kernel
theorem d_Mo_init_182 : decode b_Mo_init 182 = .ok (.iconst 3, 1) := by decide +kernel
theorem d_Mo_init_183 : decode b_Mo_init 183 = .ok (.iand, 1) := by decide +kernel
theorem d_Mo_init_184 : decode b_Mo_init 184 = .ok (.istore_n 3, 1) := by decide +kernel
theorem d_Mo_init_185 : decode b_Mo_init 185 = .ok (.aload_n 0, 1) := by decide +kernel
theorem d_Mo_init_186 : decode b_Mo_init 186 = .ok (.getfield 7, 3) := by decide +kernel
theorem d_Mo_init_189 : decode b_Mo_init 189 = .ok (.iload_n 2, 1) := by decide +kernel
theorem d_Mo_init_190 : decode b_Mo_init 190 = .ok (.iload_n 3, 1) := by decide +kernel
theorem d_Mo_init_191 : decode b_Mo_init 191 = .ok (.iconst 3, 1) := by decide +kernel
theorem d_Mo_init_192 : decode b_Mo_init 192 = .ok (.if_icmp .ne 7, 3) := by decide +kernel
theorem d_Mo_init_195 : decode b_Mo_init 195 = .ok (.iconst 2, 1) := by decide +kernel
theorem d_Mo_init_196 : decode b_Mo_init 196 = .ok (.goto 4, 3) := by decide +kernel
theorem d_Mo_init_199 : decode b_Mo_init 199 = .ok (.iload_n 3, 1) := by decide +kernel
theorem d_Mo_init_200 : decode b_Mo_init 200 = .ok (.iastore, 1) := by decide +kernel
theorem d_Mo_init_201 : decode b_Mo_init 201 = .ok (.iinc 2 1, 3) := by decide +kernel
theorem d_Mo_init_204 : decode b_Mo_init 204 = .ok (.goto (-33), 3) := by decide +kernel
theorem d_Mo_init_207 : decode b_Mo_init 207 = .ok (.return_, 1) := by decide +kernel
-- room of Mo_init: see rm_Mo_initT
theorem ml_Te_39 : Cond.methodLink R_Te 39 y_Ar_fillI ∈ gtbl := gmem (List.mem_append_right _ (List.mem_of_getElem? (i := 35) (by decide +kernel))) (by decide +kernel)
abbrev b_Gr_init : ByteArray := prog_1_method_1_code
def y_Gr_init : MethodName := ⟨R_Gr, "<init>", "(I)V"⟩
theorem k_Gr_init : kC y_Gr_init b_Gr_init 2 1 := ⟨gmem (List.mem_append_right _ (List.mem_of_getElem? (i := 21) (by decide +kernel))) (by decide +kernel), in_Gr, gmem (List.mem_append_right _ (List.mem_of_getElem? (i := 22) (by decide +kernel))) (by decide +kernel), rfl, by decide, by decide, by decide +kernel⟩
theorem is_Gr : Cond.instantiable R_Gr 7 ∈ gtbl := gmem (List.mem_append_right _ (List.mem_of_getElem? (i := 19) (by decide +kernel))) (by decide +kernel)
theorem df_Gr : ∀ j, j < 7 → defaultValue (t_Gr j) = vp_V [.null, .null, .null, .null, .null, .null, .null] j := by
  intro j hj
  have hj2 : j = 0 ∨ j = 1 ∨ j = 2 ∨ j = 3 ∨ j = 4 ∨ j = 5 ∨ j = 6 := by omega
  rcases hj2 with rfl | rfl | rfl | rfl | rfl | rfl | rfl <;> rfl
theorem d_Gr_init_0 : decode b_Gr_init 0 = .ok (.aload_n 0, 1) := by decide +kernel
theorem d_Gr_init_1 : decode b_Gr_init 1 = .ok (.invokespecial 3, 3) := by decide +kernel
theorem mo_Gr : Cond.methodLink R_Gr 3 objectInit ∈ gtbl := gmem (List.mem_append_right _ (List.mem_of_getElem? (i := 23) (by decide +kernel))) (by decide +kernel)
theorem d_Gr_init_4 : decode b_Gr_init 4 = .ok (.aload_n 0, 1) := by decide +kernel
theorem d_Gr_init_5 : decode b_Gr_init 5 = .ok (.new 9, 3) := by decide +kernel
theorem cn_Gr_9 : Cond.classLink R_Gr 9 R_Te ∈ gtbl := gmem (List.mem_append_right _ (List.mem_of_getElem? (i := 26) (by decide +kernel))) (by decide +kernel)
theorem d_Gr_init_8 : decode b_Gr_init 8 = .ok (.dup, 1) := by decide +kernel
theorem d_Gr_init_9 : decode b_Gr_init 9 = .ok (.iload_n 1, 1) := by decide +kernel
theorem d_Gr_init_10 : decode b_Gr_init 10 = .ok (.invokespecial 11, 3) := by decide +kernel
theorem ml_Gr_11 : Cond.methodLink R_Gr 11 y_Te_init ∈ gtbl := gmem (List.mem_append_right _ (List.mem_of_getElem? (i := 28) (by decide +kernel))) (by decide +kernel)
theorem d_Gr_init_13 : decode b_Gr_init 13 = .ok (.putfield 14, 3) := by decide +kernel
theorem d_Gr_init_16 : decode b_Gr_init 16 = .ok (.aload_n 0, 1) := by decide +kernel
theorem d_Gr_init_17 : decode b_Gr_init 17 = .ok (.new 18, 3) := by decide +kernel
theorem cn_Gr_18 : Cond.classLink R_Gr 18 R_Ru ∈ gtbl := gmem (List.mem_append_right _ (List.mem_of_getElem? (i := 64) (by decide +kernel))) (by decide +kernel)
theorem d_Gr_init_20 : decode b_Gr_init 20 = .ok (.dup, 1) := by decide +kernel
theorem d_Gr_init_21 : decode b_Gr_init 21 = .ok (.invokespecial 20, 3) := by decide +kernel
theorem d_Gr_init_24 : decode b_Gr_init 24 = .ok (.putfield 21, 3) := by decide +kernel
theorem d_Gr_init_27 : decode b_Gr_init 27 = .ok (.aload_n 0, 1) := by decide +kernel
theorem d_Gr_init_28 : decode b_Gr_init 28 = .ok (.new 25, 3) := by decide +kernel
theorem cn_Gr_25 : Cond.classLink R_Gr 25 R_Au ∈ gtbl := gmem (List.mem_append_right _ (List.mem_of_getElem? (i := 83) (by decide +kernel))) (by decide +kernel)
theorem d_Gr_init_31 : decode b_Gr_init 31 = .ok (.dup, 1) := by decide +kernel
theorem d_Gr_init_32 : decode b_Gr_init 32 = .ok (.aload_n 0, 1) := by decide +kernel
theorem d_Gr_init_33 : decode b_Gr_init 33 = .ok (.getfield 14, 3) := by decide +kernel
theorem d_Gr_init_36 : decode b_Gr_init 36 = .ok (.invokespecial 27, 3) := by decide +kernel
theorem ml_Gr_27 : Cond.methodLink R_Gr 27 y_Au_init ∈ gtbl := gmem (List.mem_append_right _ (List.mem_of_getElem? (i := 85) (by decide +kernel))) (by decide +kernel)
theorem d_Gr_init_39 : decode b_Gr_init 39 = .ok (.putfield 30, 3) := by decide +kernel
theorem d_Gr_init_42 : decode b_Gr_init 42 = .ok (.aload_n 0, 1) := by decide +kernel
theorem d_Gr_init_43 : decode b_Gr_init 43 = .ok (.new 34, 3) := by decide +kernel
theorem cn_Gr_34 : Cond.classLink R_Gr 34 R_Re ∈ gtbl := gmem (List.mem_append_right _ (List.mem_of_getElem? (i := 114) (by decide +kernel))) (by decide +kernel)
theorem d_Gr_init_46 : decode b_Gr_init 46 = .ok (.dup, 1) := by decide +kernel
theorem d_Gr_init_47 : decode b_Gr_init 47 = .ok (.aload_n 0, 1) := by decide +kernel
theorem d_Gr_init_48 : decode b_Gr_init 48 = .ok (.getfield 14, 3) := by decide +kernel
theorem d_Gr_init_51 : decode b_Gr_init 51 = .ok (.aload_n 0, 1) := by decide +kernel
theorem d_Gr_init_52 : decode b_Gr_init 52 = .ok (.getfield 21, 3) := by decide +kernel
theorem d_Gr_init_55 : decode b_Gr_init 55 = .ok (.invokespecial 36, 3) := by decide +kernel
theorem ml_Gr_36 : Cond.methodLink R_Gr 36 y_Re_init ∈ gtbl := gmem (List.mem_append_right _ (List.mem_of_getElem? (i := 116) (by decide +kernel))) (by decide +kernel)
theorem d_Gr_init_58 : decode b_Gr_init 58 = .ok (.putfield 39, 3) := by decide +kernel
theorem d_Gr_init_61 : decode b_Gr_init 61 = .ok (.aload_n 0, 1) := by decide +kernel
theorem d_Gr_init_62 : decode b_Gr_init 62 = .ok (.new 43, 3) := by decide +kernel
theorem cn_Gr_43 : Cond.classLink R_Gr 43 R_La ∈ gtbl := gmem (List.mem_append_right _ (List.mem_of_getElem? (i := 146) (by decide +kernel))) (by decide +kernel)
theorem d_Gr_init_65 : decode b_Gr_init 65 = .ok (.dup, 1) := by decide +kernel
theorem d_Gr_init_66 : decode b_Gr_init 66 = .ok (.aload_n 0, 1) := by decide +kernel
theorem d_Gr_init_67 : decode b_Gr_init 67 = .ok (.getfield 14, 3) := by decide +kernel
theorem d_Gr_init_70 : decode b_Gr_init 70 = .ok (.aload_n 0, 1) := by decide +kernel
theorem d_Gr_init_71 : decode b_Gr_init 71 = .ok (.getfield 30, 3) := by decide +kernel
theorem d_Gr_init_74 : decode b_Gr_init 74 = .ok (.aload_n 0, 1) := by decide +kernel
theorem d_Gr_init_75 : decode b_Gr_init 75 = .ok (.getfield 39, 3) := by decide +kernel
theorem d_Gr_init_78 : decode b_Gr_init 78 = .ok (.invokespecial 45, 3) := by decide +kernel
theorem ml_Gr_45 : Cond.methodLink R_Gr 45 y_La_init ∈ gtbl := gmem (List.mem_append_right _ (List.mem_of_getElem? (i := 148) (by decide +kernel))) (by decide +kernel)
theorem d_Gr_init_81 : decode b_Gr_init 81 = .ok (.putfield 48, 3) := by decide +kernel
theorem d_Gr_init_84 : decode b_Gr_init 84 = .ok (.aload_n 0, 1) := by decide +kernel
theorem d_Gr_init_85 : decode b_Gr_init 85 = .ok (.new 52, 3) := by decide +kernel
theorem cn_Gr_52 : Cond.classLink R_Gr 52 R_Sp ∈ gtbl := gmem (List.mem_append_right _ (List.mem_of_getElem? (i := 165) (by decide +kernel))) (by decide +kernel)
theorem d_Gr_init_88 : decode b_Gr_init 88 = .ok (.dup, 1) := by decide +kernel
theorem d_Gr_init_89 : decode b_Gr_init 89 = .ok (.aload_n 0, 1) := by decide +kernel
theorem d_Gr_init_90 : decode b_Gr_init 90 = .ok (.getfield 14, 3) := by decide +kernel
theorem d_Gr_init_93 : decode b_Gr_init 93 = .ok (.aload_n 0, 1) := by decide +kernel
theorem d_Gr_init_94 : decode b_Gr_init 94 = .ok (.getfield 21, 3) := by decide +kernel
theorem d_Gr_init_97 : decode b_Gr_init 97 = .ok (.invokespecial 54, 3) := by decide +kernel
theorem ml_Gr_54 : Cond.methodLink R_Gr 54 y_Sp_init ∈ gtbl := gmem (List.mem_append_right _ (List.mem_of_getElem? (i := 167) (by decide +kernel))) (by decide +kernel)
theorem d_Gr_init_100 : decode b_Gr_init 100 = .ok (.putfield 55, 3) := by decide +kernel
theorem d_Gr_init_103 : decode b_Gr_init 103 = .ok (.aload_n 0, 1) := by decide +kernel
theorem d_Gr_init_104 : decode b_Gr_init 104 = .ok (.new 59, 3) := by decide +kernel
theorem cn_Gr_59 : Cond.classLink R_Gr 59 R_Le ∈ gtbl := gmem (List.mem_append_right _ (List.mem_of_getElem? (i := 188) (by decide +kernel))) (by decide +kernel)
theorem d_Gr_init_107 : decode b_Gr_init 107 = .ok (.dup, 1) := by decide +kernel
theorem d_Gr_init_108 : decode b_Gr_init 108 = .ok (.aload_n 0, 1) := by decide +kernel
theorem d_Gr_init_109 : decode b_Gr_init 109 = .ok (.getfield 14, 3) := by decide +kernel
theorem d_Gr_init_112 : decode b_Gr_init 112 = .ok (.aload_n 0, 1) := by decide +kernel
theorem d_Gr_init_113 : decode b_Gr_init 113 = .ok (.getfield 21, 3) := by decide +kernel
theorem d_Gr_init_116 : decode b_Gr_init 116 = .ok (.invokespecial 61, 3) := by decide +kernel
theorem ml_Gr_61 : Cond.methodLink R_Gr 61 y_Le_init ∈ gtbl := gmem (List.mem_append_right _ (List.mem_of_getElem? (i := 190) (by decide +kernel))) (by decide +kernel)
theorem d_Gr_init_119 : decode b_Gr_init 119 = .ok (.putfield 62, 3) := by decide +kernel
theorem d_Gr_init_122 : decode b_Gr_init 122 = .ok (.return_, 1) := by decide +kernel
abbrev rm_Gr_init : Room := { frames := 2, cells := 35, slots := 7488, locals := 45 }
