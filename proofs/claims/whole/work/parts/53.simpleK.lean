set_option maxHeartbeats 4000000 in
set_option maxRecDepth 100000 in
theorem c_Ru_init (l : Launch) (D : va_G) (cA : ClassId × ClassId × ClassId) (h : Nat) : ctV l y_Ru_init (wsOf y_Ru_init b_Ru_init 1 none) rm_Ru_init D cA [(h, .inr (2, [.null, .null, .int 0, .int 0]))] [.ref h] 2 16 (fun _ : Nat → Nat => True) (fun u : Nat → Nat => [(h, .inr (2, [.ref (u 0), .ref (u 1), .int 0, .int 0])), ((u 0), .inl (cA.1, 8, .inl (fun _ => 0))), ((u 1), .inl (cA.1, 8, .inl (fun _ => 0)))]) := by
  refine ctV_of (by decide) rfl (Nat.le_of_ble_eq_true rfl) ?_
  intro p e s m below meth c S hr hlk hin hK A hA I ls hl
  have hl : lv_has ls 1 [(0, .ref h)] := hl
  generalize hlo : ([] : List Loc) = locs at I ⊢
  refine lv_aload_n S.1 S.2.1 d_Ru_init_0 rfl (lv_at hl 0 rfl) ?_
  refine W.objInit S.1 S.2.1 S.2.2.2.1 (S.2.2.2.2 _ mo_Ru) (S.2.2.2.2 _ ob_i) (S.2.2.2.2 _ ob_c) rfl (hl.1.trans S.2.2.1.symm) rfl d_Ru_init_1 (Nat.le_of_ble_eq_true rfl) (Nat.le_of_ble_eq_true rfl) ?_
  refine W.eq (g2 := F0 m 4 ls []) rfl ?_
  refine lv_aload_n S.1 S.2.1 d_Ru_init_4 rfl (lv_at hl 0 rfl) ?_
  refine lv_bipush (v := (8 : Int32)) S.1 S.2.1 d_Ru_init_5 rfl ?_
  refine k_newI (N := 8) hK S ac_I hA I (by decide) (by decide) (by decide) (Nat.le_of_ble_eq_true rfl) (Nat.le_of_ble_eq_true rfl) d_Ru_init_7 (fun q7 H I => ?_)
  have I : kI D A s [(h, .inr (2, [.null, .null, .int 0, .int 0])), (q7, .inl (cA.1, 8, .inl (fun _ => 0)))] H locs := I
  refine va_putF (D := D) (ci := 2) (v := .ref q7) (ty := .array .int) (C := R_Ru) (T := F_Ru) (N := 4) S.1 S.2.1 S.2.2.2.2 u_Ru t_Ru t_Ru_ok n_Ru S.2.2.2.1 hK.1.1 I.1 I.2.1 I.2.2 0 rfl rfl 0 (by decide) (S.2.2.2.2 _ fl_Ru_left) (fun _ h9 => h9) rfl hin rfl (by decide +kernel) rfl rfl (Nat.le_of_ble_eq_true rfl) d_Ru_init_9 (fun H locs hP hD hS => ?_)
  have I : kI D A s [(h, .inr (2, [.ref q7, .null, .int 0, .int 0])), (q7, .inl (cA.1, 8, .inl (fun _ => 0)))] H locs := ⟨hP, hD, hS⟩
  refine lv_aload_n S.1 S.2.1 d_Ru_init_12 rfl (lv_at hl 0 rfl) ?_
  refine lv_bipush (v := (8 : Int32)) S.1 S.2.1 d_Ru_init_13 rfl ?_
  refine k_newI (N := 8) hK S ac_I hA I (by decide) (by decide) (by decide) (Nat.le_of_ble_eq_true rfl) (Nat.le_of_ble_eq_true rfl) d_Ru_init_15 (fun q15 H I => ?_)
  have I : kI D A s [(h, .inr (2, [.ref q7, .null, .int 0, .int 0])), (q7, .inl (cA.1, 8, .inl (fun _ => 0))), (q15, .inl (cA.1, 8, .inl (fun _ => 0)))] H locs := I
  refine va_putF (D := D) (ci := 2) (v := .ref q15) (ty := .array .int) (C := R_Ru) (T := F_Ru) (N := 4) S.1 S.2.1 S.2.2.2.2 u_Ru t_Ru t_Ru_ok n_Ru S.2.2.2.1 hK.1.1 I.1 I.2.1 I.2.2 0 rfl rfl 1 (by decide) (S.2.2.2.2 _ fl_Ru_right) (fun _ h9 => h9) rfl hin rfl (by decide +kernel) rfl rfl (Nat.le_of_ble_eq_true rfl) d_Ru_init_17 (fun H locs hP hD hS => ?_)
  have I : kI D A s [(h, .inr (2, [.ref q7, .ref q15, .int 0, .int 0])), (q7, .inl (cA.1, 8, .inl (fun _ => 0))), (q15, .inl (cA.1, 8, .inl (fun _ => 0)))] H locs := ⟨hP, hD, hS⟩
  exact ret_ct (u := (fun k => match k with | 0 => q7 | 1 => q15 | _ => 0)) S hr hlk I trivial d_Ru_init_20
set_option maxHeartbeats 4000000 in
set_option maxRecDepth 100000 in
theorem c_Au_init (l : Launch) (D : va_G) (cA : ClassId × ClassId × ClassId) (h b1 : Nat) : ctV l y_Au_init (wsOf y_Au_init b_Au_init 2 none) rm_Au_init D cA [(h, .inr (3, [.null, .null, .null, .null, .null, .null, .int 0, .int 0]))] [.ref h, .ref b1] 5 86 (fun _ : Nat → Nat => True) (fun u : Nat → Nat => [(h, .inr (3, [.ref b1, .ref (u 0), .ref (u 1), .ref (u 2), .ref (u 3), .ref (u 4), .int 0, .int 0])), ((u 0), .inl (cA.1, 20, .inl (fun _ => 0))), ((u 1), .inl (cA.1, 20, .inl (fun _ => 0))), ((u 2), .inl (cA.1, 20, .inl (fun _ => 0))), ((u 3), .inl (cA.1, 20, .inl (fun _ => 0))), ((u 4), .inl (cA.1, 6, .inl (fun _ => 0)))]) := by
  refine ctV_of (by decide) rfl (Nat.le_of_ble_eq_true rfl) ?_
  intro p e s m below meth c S hr hlk hin hK A hA I ls hl
  have hl : lv_has ls 2 [(0, .ref h), (1, .ref b1)] := hl
  generalize hlo : ([] : List Loc) = locs at I ⊢
  refine lv_aload_n S.1 S.2.1 d_Au_init_0 rfl (lv_at hl 0 rfl) ?_
  refine W.objInit S.1 S.2.1 S.2.2.2.1 (S.2.2.2.2 _ mo_Au) (S.2.2.2.2 _ ob_i) (S.2.2.2.2 _ ob_c) rfl (hl.1.trans S.2.2.1.symm) rfl d_Au_init_1 (Nat.le_of_ble_eq_true rfl) (Nat.le_of_ble_eq_true rfl) ?_
  refine W.eq (g2 := F0 m 4 ls []) rfl ?_
  refine lv_aload_n S.1 S.2.1 d_Au_init_4 rfl (lv_at hl 0 rfl) ?_
  refine lv_bipush (v := (20 : Int32)) S.1 S.2.1 d_Au_init_5 rfl ?_
  refine k_newI (N := 20) hK S ac_I hA I (by decide) (by decide) (by decide) (Nat.le_of_ble_eq_true rfl) (Nat.le_of_ble_eq_true rfl) d_Au_init_7 (fun q7 H I => ?_)
  have I : kI D A s [(h, .inr (3, [.null, .null, .null, .null, .null, .null, .int 0, .int 0])), (q7, .inl (cA.1, 20, .inl (fun _ => 0)))] H locs := I
  refine va_putF (D := D) (ci := 3) (v := .ref q7) (ty := .array .int) (C := R_Au) (T := F_Au) (N := 8) S.1 S.2.1 S.2.2.2.2 u_Au t_Au t_Au_ok n_Au S.2.2.2.1 hK.1.1 I.1 I.2.1 I.2.2 0 rfl rfl 1 (by decide) (S.2.2.2.2 _ fl_Au_symbol) (fun _ h9 => h9) rfl hin rfl (by decide +kernel) rfl rfl (Nat.le_of_ble_eq_true rfl) d_Au_init_9 (fun H locs hP hD hS => ?_)
  have I : kI D A s [(h, .inr (3, [.null, .ref q7, .null, .null, .null, .null, .int 0, .int 0])), (q7, .inl (cA.1, 20, .inl (fun _ => 0)))] H locs := ⟨hP, hD, hS⟩
  refine lv_aload_n S.1 S.2.1 d_Au_init_12 rfl (lv_at hl 0 rfl) ?_
  refine lv_bipush (v := (20 : Int32)) S.1 S.2.1 d_Au_init_13 rfl ?_
  refine k_newI (N := 20) hK S ac_I hA I (by decide) (by decide) (by decide) (Nat.le_of_ble_eq_true rfl) (Nat.le_of_ble_eq_true rfl) d_Au_init_15 (fun q15 H I => ?_)
  have I : kI D A s [(h, .inr (3, [.null, .ref q7, .null, .null, .null, .null, .int 0, .int 0])), (q7, .inl (cA.1, 20, .inl (fun _ => 0))), (q15, .inl (cA.1, 20, .inl (fun _ => 0)))] H locs := I
  refine va_putF (D := D) (ci := 3) (v := .ref q15) (ty := .array .int) (C := R_Au) (T := F_Au) (N := 8) S.1 S.2.1 S.2.2.2.2 u_Au t_Au t_Au_ok n_Au S.2.2.2.1 hK.1.1 I.1 I.2.1 I.2.2 0 rfl rfl 2 (by decide) (S.2.2.2.2 _ fl_Au_first) (fun _ h9 => h9) rfl hin rfl (by decide +kernel) rfl rfl (Nat.le_of_ble_eq_true rfl) d_Au_init_17 (fun H locs hP hD hS => ?_)
  have I : kI D A s [(h, .inr (3, [.null, .ref q7, .ref q15, .null, .null, .null, .int 0, .int 0])), (q7, .inl (cA.1, 20, .inl (fun _ => 0))), (q15, .inl (cA.1, 20, .inl (fun _ => 0)))] H locs := ⟨hP, hD, hS⟩
  refine lv_aload_n S.1 S.2.1 d_Au_init_20 rfl (lv_at hl 0 rfl) ?_
  refine lv_bipush (v := (20 : Int32)) S.1 S.2.1 d_Au_init_21 rfl ?_
  refine k_newI (N := 20) hK S ac_I hA I (by decide) (by decide) (by decide) (Nat.le_of_ble_eq_true rfl) (Nat.le_of_ble_eq_true rfl) d_Au_init_23 (fun q23 H I => ?_)
  have I : kI D A s [(h, .inr (3, [.null, .ref q7, .ref q15, .null, .null, .null, .int 0, .int 0])), (q7, .inl (cA.1, 20, .inl (fun _ => 0))), (q15, .inl (cA.1, 20, .inl (fun _ => 0))), (q23, .inl (cA.1, 20, .inl (fun _ => 0)))] H locs := I
  refine va_putF (D := D) (ci := 3) (v := .ref q23) (ty := .array .int) (C := R_Au) (T := F_Au) (N := 8) S.1 S.2.1 S.2.2.2.2 u_Au t_Au t_Au_ok n_Au S.2.2.2.1 hK.1.1 I.1 I.2.1 I.2.2 0 rfl rfl 3 (by decide) (S.2.2.2.2 _ fl_Au_second) (fun _ h9 => h9) rfl hin rfl (by decide +kernel) rfl rfl (Nat.le_of_ble_eq_true rfl) d_Au_init_25 (fun H locs hP hD hS => ?_)
  have I : kI D A s [(h, .inr (3, [.null, .ref q7, .ref q15, .ref q23, .null, .null, .int 0, .int 0])), (q7, .inl (cA.1, 20, .inl (fun _ => 0))), (q15, .inl (cA.1, 20, .inl (fun _ => 0))), (q23, .inl (cA.1, 20, .inl (fun _ => 0)))] H locs := ⟨hP, hD, hS⟩
  refine lv_aload_n S.1 S.2.1 d_Au_init_28 rfl (lv_at hl 0 rfl) ?_
  refine lv_bipush (v := (20 : Int32)) S.1 S.2.1 d_Au_init_29 rfl ?_
  refine k_newI (N := 20) hK S ac_I hA I (by decide) (by decide) (by decide) (Nat.le_of_ble_eq_true rfl) (Nat.le_of_ble_eq_true rfl) d_Au_init_31 (fun q31 H I => ?_)
  have I : kI D A s [(h, .inr (3, [.null, .ref q7, .ref q15, .ref q23, .null, .null, .int 0, .int 0])), (q7, .inl (cA.1, 20, .inl (fun _ => 0))), (q15, .inl (cA.1, 20, .inl (fun _ => 0))), (q23, .inl (cA.1, 20, .inl (fun _ => 0))), (q31, .inl (cA.1, 20, .inl (fun _ => 0)))] H locs := I
  refine va_putF (D := D) (ci := 3) (v := .ref q31) (ty := .array .int) (C := R_Au) (T := F_Au) (N := 8) S.1 S.2.1 S.2.2.2.2 u_Au t_Au t_Au_ok n_Au S.2.2.2.1 hK.1.1 I.1 I.2.1 I.2.2 0 rfl rfl 4 (by decide) (S.2.2.2.2 _ fl_Au_target) (fun _ h9 => h9) rfl hin rfl (by decide +kernel) rfl rfl (Nat.le_of_ble_eq_true rfl) d_Au_init_33 (fun H locs hP hD hS => ?_)
  have I : kI D A s [(h, .inr (3, [.null, .ref q7, .ref q15, .ref q23, .ref q31, .null, .int 0, .int 0])), (q7, .inl (cA.1, 20, .inl (fun _ => 0))), (q15, .inl (cA.1, 20, .inl (fun _ => 0))), (q23, .inl (cA.1, 20, .inl (fun _ => 0))), (q31, .inl (cA.1, 20, .inl (fun _ => 0)))] H locs := ⟨hP, hD, hS⟩
  refine lv_aload_n S.1 S.2.1 d_Au_init_36 rfl (lv_at hl 0 rfl) ?_
  refine lv_bipush (v := (6 : Int32)) S.1 S.2.1 d_Au_init_37 rfl ?_
  refine k_newI (N := 6) hK S ac_I hA I (by decide) (by decide) (by decide) (Nat.le_of_ble_eq_true rfl) (Nat.le_of_ble_eq_true rfl) d_Au_init_39 (fun q39 H I => ?_)
  have I : kI D A s [(h, .inr (3, [.null, .ref q7, .ref q15, .ref q23, .ref q31, .null, .int 0, .int 0])), (q7, .inl (cA.1, 20, .inl (fun _ => 0))), (q15, .inl (cA.1, 20, .inl (fun _ => 0))), (q23, .inl (cA.1, 20, .inl (fun _ => 0))), (q31, .inl (cA.1, 20, .inl (fun _ => 0))), (q39, .inl (cA.1, 6, .inl (fun _ => 0)))] H locs := I
  refine va_putF (D := D) (ci := 3) (v := .ref q39) (ty := .array .int) (C := R_Au) (T := F_Au) (N := 8) S.1 S.2.1 S.2.2.2.2 u_Au t_Au t_Au_ok n_Au S.2.2.2.1 hK.1.1 I.1 I.2.1 I.2.2 0 rfl rfl 5 (by decide) (S.2.2.2.2 _ fl_Au_weight) (fun _ h9 => h9) rfl hin rfl (by decide +kernel) rfl rfl (Nat.le_of_ble_eq_true rfl) d_Au_init_41 (fun H locs hP hD hS => ?_)
  have I : kI D A s [(h, .inr (3, [.null, .ref q7, .ref q15, .ref q23, .ref q31, .ref q39, .int 0, .int 0])), (q7, .inl (cA.1, 20, .inl (fun _ => 0))), (q15, .inl (cA.1, 20, .inl (fun _ => 0))), (q23, .inl (cA.1, 20, .inl (fun _ => 0))), (q31, .inl (cA.1, 20, .inl (fun _ => 0))), (q39, .inl (cA.1, 6, .inl (fun _ => 0)))] H locs := ⟨hP, hD, hS⟩
  refine lv_aload_n S.1 S.2.1 d_Au_init_44 rfl (lv_at hl 0 rfl) ?_
  refine lv_aload_n S.1 S.2.1 d_Au_init_45 rfl (lv_at hl 1 rfl) ?_
  refine va_putF (D := D) (ci := 3) (v := .ref b1) (ty := .object "GroundReach$Terms") (C := R_Au) (T := F_Au) (N := 8) S.1 S.2.1 S.2.2.2.2 u_Au t_Au t_Au_ok n_Au S.2.2.2.1 hK.1.1 I.1 I.2.1 I.2.2 0 rfl rfl 0 (by decide) (S.2.2.2.2 _ fl_Au_terms) (fun _ h9 => h9) rfl hin rfl (by decide +kernel) rfl rfl (Nat.le_of_ble_eq_true rfl) d_Au_init_46 (fun H locs hP hD hS => ?_)
  have I : kI D A s [(h, .inr (3, [.ref b1, .ref q7, .ref q15, .ref q23, .ref q31, .ref q39, .int 0, .int 0])), (q7, .inl (cA.1, 20, .inl (fun _ => 0))), (q15, .inl (cA.1, 20, .inl (fun _ => 0))), (q23, .inl (cA.1, 20, .inl (fun _ => 0))), (q31, .inl (cA.1, 20, .inl (fun _ => 0))), (q39, .inl (cA.1, 6, .inl (fun _ => 0)))] H locs := ⟨hP, hD, hS⟩
  exact ret_ct (u := (fun k => match k with | 0 => q7 | 1 => q15 | 2 => q23 | 3 => q31 | 4 => q39 | _ => 0)) S hr hlk I trivial d_Au_init_49
set_option maxHeartbeats 4000000 in
set_option maxRecDepth 100000 in
theorem c_Re_init (l : Launch) (D : va_G) (cA : ClassId × ClassId × ClassId) (h b1 b2 : Nat) : ctV l y_Re_init (wsOf y_Re_init b_Re_init 3 none) rm_Re_init D cA [(h, .inr (4, [.null, .null, .null, .null, .null, .int 0, .int 0, .int 0]))] [.ref h, .ref b1, .ref b2] 3 144 (fun _ : Nat → Nat => True) (fun u : Nat → Nat => [(h, .inr (4, [.ref b1, .ref b2, .ref (u 0), .ref (u 1), .ref (u 2), .int (-1 : Int32), .int (-1 : Int32), .int 0])), ((u 0), .inl (cA.2.1, 48, .inr (.inl (fun _ => 0)))), ((u 1), .inl (cA.2.1, 48, .inr (.inl (fun _ => 0)))), ((u 2), .inl (cA.1, 48, .inl (fun _ => 0)))]) := by
  refine ctV_of (by decide) rfl (Nat.le_of_ble_eq_true rfl) ?_
  intro p e s m below meth c S hr hlk hin hK A hA I ls hl
  have hl : lv_has ls 3 [(0, .ref h), (1, .ref b1), (2, .ref b2)] := hl
  generalize hlo : ([] : List Loc) = locs at I ⊢
  refine lv_aload_n S.1 S.2.1 d_Re_init_0 rfl (lv_at hl 0 rfl) ?_
  refine W.objInit S.1 S.2.1 S.2.2.2.1 (S.2.2.2.2 _ mo_Re) (S.2.2.2.2 _ ob_i) (S.2.2.2.2 _ ob_c) rfl (hl.1.trans S.2.2.1.symm) rfl d_Re_init_1 (Nat.le_of_ble_eq_true rfl) (Nat.le_of_ble_eq_true rfl) ?_
  refine W.eq (g2 := F0 m 4 ls []) rfl ?_
  refine lv_aload_n S.1 S.2.1 d_Re_init_4 rfl (lv_at hl 0 rfl) ?_
  refine lv_bipush (v := (48 : Int32)) S.1 S.2.1 d_Re_init_5 rfl ?_
  refine k_newJ (N := 48) hK S ac_J hA I (by decide) (by decide) (by decide) (Nat.le_of_ble_eq_true rfl) (Nat.le_of_ble_eq_true rfl) d_Re_init_7 (fun q7 H I => ?_)
  have I : kI D A s [(h, .inr (4, [.null, .null, .null, .null, .null, .int 0, .int 0, .int 0])), (q7, .inl (cA.2.1, 48, .inr (.inl (fun _ => 0))))] H locs := I
  refine va_putF (D := D) (ci := 4) (v := .ref q7) (ty := .array .long) (C := R_Re) (T := F_Re) (N := 8) S.1 S.2.1 S.2.2.2.2 u_Re t_Re t_Re_ok n_Re S.2.2.2.1 hK.1.1 I.1 I.2.1 I.2.2 0 rfl rfl 2 (by decide) (S.2.2.2.2 _ fl_Re_reached) (fun _ h9 => h9) rfl hin rfl (by decide +kernel) rfl rfl (Nat.le_of_ble_eq_true rfl) d_Re_init_9 (fun H locs hP hD hS => ?_)
  have I : kI D A s [(h, .inr (4, [.null, .null, .ref q7, .null, .null, .int 0, .int 0, .int 0])), (q7, .inl (cA.2.1, 48, .inr (.inl (fun _ => 0))))] H locs := ⟨hP, hD, hS⟩
  refine lv_aload_n S.1 S.2.1 d_Re_init_12 rfl (lv_at hl 0 rfl) ?_
  refine lv_bipush (v := (48 : Int32)) S.1 S.2.1 d_Re_init_13 rfl ?_
  refine k_newJ (N := 48) hK S ac_J hA I (by decide) (by decide) (by decide) (Nat.le_of_ble_eq_true rfl) (Nat.le_of_ble_eq_true rfl) d_Re_init_15 (fun q15 H I => ?_)
  have I : kI D A s [(h, .inr (4, [.null, .null, .ref q7, .null, .null, .int 0, .int 0, .int 0])), (q7, .inl (cA.2.1, 48, .inr (.inl (fun _ => 0)))), (q15, .inl (cA.2.1, 48, .inr (.inl (fun _ => 0))))] H locs := I
  refine va_putF (D := D) (ci := 4) (v := .ref q15) (ty := .array .long) (C := R_Re) (T := F_Re) (N := 8) S.1 S.2.1 S.2.2.2.2 u_Re t_Re t_Re_ok n_Re S.2.2.2.1 hK.1.1 I.1 I.2.1 I.2.2 0 rfl rfl 3 (by decide) (S.2.2.2.2 _ fl_Re_joined) (fun _ h9 => h9) rfl hin rfl (by decide +kernel) rfl rfl (Nat.le_of_ble_eq_true rfl) d_Re_init_17 (fun H locs hP hD hS => ?_)
  have I : kI D A s [(h, .inr (4, [.null, .null, .ref q7, .ref q15, .null, .int 0, .int 0, .int 0])), (q7, .inl (cA.2.1, 48, .inr (.inl (fun _ => 0)))), (q15, .inl (cA.2.1, 48, .inr (.inl (fun _ => 0))))] H locs := ⟨hP, hD, hS⟩
  refine lv_aload_n S.1 S.2.1 d_Re_init_20 rfl (lv_at hl 0 rfl) ?_
  refine lv_bipush (v := (48 : Int32)) S.1 S.2.1 d_Re_init_21 rfl ?_
  refine k_newI (N := 48) hK S ac_I hA I (by decide) (by decide) (by decide) (Nat.le_of_ble_eq_true rfl) (Nat.le_of_ble_eq_true rfl) d_Re_init_23 (fun q23 H I => ?_)
  have I : kI D A s [(h, .inr (4, [.null, .null, .ref q7, .ref q15, .null, .int 0, .int 0, .int 0])), (q7, .inl (cA.2.1, 48, .inr (.inl (fun _ => 0)))), (q15, .inl (cA.2.1, 48, .inr (.inl (fun _ => 0)))), (q23, .inl (cA.1, 48, .inl (fun _ => 0)))] H locs := I
  refine va_putF (D := D) (ci := 4) (v := .ref q23) (ty := .array .int) (C := R_Re) (T := F_Re) (N := 8) S.1 S.2.1 S.2.2.2.2 u_Re t_Re t_Re_ok n_Re S.2.2.2.1 hK.1.1 I.1 I.2.1 I.2.2 0 rfl rfl 4 (by decide) (S.2.2.2.2 _ fl_Re_least) (fun _ h9 => h9) rfl hin rfl (by decide +kernel) rfl rfl (Nat.le_of_ble_eq_true rfl) d_Re_init_25 (fun H locs hP hD hS => ?_)
  have I : kI D A s [(h, .inr (4, [.null, .null, .ref q7, .ref q15, .ref q23, .int 0, .int 0, .int 0])), (q7, .inl (cA.2.1, 48, .inr (.inl (fun _ => 0)))), (q15, .inl (cA.2.1, 48, .inr (.inl (fun _ => 0)))), (q23, .inl (cA.1, 48, .inl (fun _ => 0)))] H locs := ⟨hP, hD, hS⟩
  refine lv_aload_n S.1 S.2.1 d_Re_init_28 rfl (lv_at hl 0 rfl) ?_
  refine lv_iconst (v := (-1 : Int32)) S.1 S.2.1 d_Re_init_29 rfl ?_
  refine va_put (D := D) (ci := 4) (v := .int (-1 : Int32)) (ty := .int) (C := R_Re) (T := F_Re) (N := 8) S.1 S.2.1 S.2.2.2.2 u_Re t_Re t_Re_ok n_Re S.2.2.2.1 hK.1.1 I.1 I.2.1 I.2.2 0 rfl rfl 5 (by decide) (S.2.2.2.2 _ fl_Re_termsThen) (fun _ h9 => h9) rfl (by decide +kernel) rfl rfl (Nat.le_of_ble_eq_true rfl) d_Re_init_30 (fun H locs hP hD hS => ?_)
  have I : kI D A s [(h, .inr (4, [.null, .null, .ref q7, .ref q15, .ref q23, .int (-1 : Int32), .int 0, .int 0])), (q7, .inl (cA.2.1, 48, .inr (.inl (fun _ => 0)))), (q15, .inl (cA.2.1, 48, .inr (.inl (fun _ => 0)))), (q23, .inl (cA.1, 48, .inl (fun _ => 0)))] H locs := ⟨hP, hD, hS⟩
  refine lv_aload_n S.1 S.2.1 d_Re_init_33 rfl (lv_at hl 0 rfl) ?_
  refine lv_iconst (v := (-1 : Int32)) S.1 S.2.1 d_Re_init_34 rfl ?_
  refine va_put (D := D) (ci := 4) (v := .int (-1 : Int32)) (ty := .int) (C := R_Re) (T := F_Re) (N := 8) S.1 S.2.1 S.2.2.2.2 u_Re t_Re t_Re_ok n_Re S.2.2.2.1 hK.1.1 I.1 I.2.1 I.2.2 0 rfl rfl 6 (by decide) (S.2.2.2.2 _ fl_Re_changesThen) (fun _ h9 => h9) rfl (by decide +kernel) rfl rfl (Nat.le_of_ble_eq_true rfl) d_Re_init_35 (fun H locs hP hD hS => ?_)
  have I : kI D A s [(h, .inr (4, [.null, .null, .ref q7, .ref q15, .ref q23, .int (-1 : Int32), .int (-1 : Int32), .int 0])), (q7, .inl (cA.2.1, 48, .inr (.inl (fun _ => 0)))), (q15, .inl (cA.2.1, 48, .inr (.inl (fun _ => 0)))), (q23, .inl (cA.1, 48, .inl (fun _ => 0)))] H locs := ⟨hP, hD, hS⟩
  refine lv_aload_n S.1 S.2.1 d_Re_init_38 rfl (lv_at hl 0 rfl) ?_
  refine lv_aload_n S.1 S.2.1 d_Re_init_39 rfl (lv_at hl 1 rfl) ?_
  refine va_putF (D := D) (ci := 4) (v := .ref b1) (ty := .object "GroundReach$Terms") (C := R_Re) (T := F_Re) (N := 8) S.1 S.2.1 S.2.2.2.2 u_Re t_Re t_Re_ok n_Re S.2.2.2.1 hK.1.1 I.1 I.2.1 I.2.2 0 rfl rfl 0 (by decide) (S.2.2.2.2 _ fl_Re_terms) (fun _ h9 => h9) rfl hin rfl (by decide +kernel) rfl rfl (Nat.le_of_ble_eq_true rfl) d_Re_init_40 (fun H locs hP hD hS => ?_)
  have I : kI D A s [(h, .inr (4, [.ref b1, .null, .ref q7, .ref q15, .ref q23, .int (-1 : Int32), .int (-1 : Int32), .int 0])), (q7, .inl (cA.2.1, 48, .inr (.inl (fun _ => 0)))), (q15, .inl (cA.2.1, 48, .inr (.inl (fun _ => 0)))), (q23, .inl (cA.1, 48, .inl (fun _ => 0)))] H locs := ⟨hP, hD, hS⟩
  refine lv_aload_n S.1 S.2.1 d_Re_init_43 rfl (lv_at hl 0 rfl) ?_
  refine lv_aload_n S.1 S.2.1 d_Re_init_44 rfl (lv_at hl 2 rfl) ?_
  refine va_putF (D := D) (ci := 4) (v := .ref b2) (ty := .object "GroundReach$Rules") (C := R_Re) (T := F_Re) (N := 8) S.1 S.2.1 S.2.2.2.2 u_Re t_Re t_Re_ok n_Re S.2.2.2.1 hK.1.1 I.1 I.2.1 I.2.2 0 rfl rfl 1 (by decide) (S.2.2.2.2 _ fl_Re_rules) (fun _ h9 => h9) rfl hin rfl (by decide +kernel) rfl rfl (Nat.le_of_ble_eq_true rfl) d_Re_init_45 (fun H locs hP hD hS => ?_)
  have I : kI D A s [(h, .inr (4, [.ref b1, .ref b2, .ref q7, .ref q15, .ref q23, .int (-1 : Int32), .int (-1 : Int32), .int 0])), (q7, .inl (cA.2.1, 48, .inr (.inl (fun _ => 0)))), (q15, .inl (cA.2.1, 48, .inr (.inl (fun _ => 0)))), (q23, .inl (cA.1, 48, .inl (fun _ => 0)))] H locs := ⟨hP, hD, hS⟩
  exact ret_ct (u := (fun k => match k with | 0 => q7 | 1 => q15 | 2 => q23 | _ => 0)) S hr hlk I trivial d_Re_init_48
set_option maxHeartbeats 4000000 in
set_option maxRecDepth 100000 in
theorem c_La_init (l : Launch) (D : va_G) (cA : ClassId × ClassId × ClassId) (h b1 b2 b3 : Nat) : ctV l y_La_init (wsOf y_La_init b_La_init 4 none) rm_La_init D cA [(h, .inr (5, [.null, .null, .null, .null]))] [.ref h, .ref b1, .ref b2, .ref b3] 1 48 (fun _ : Nat → Nat => True) (fun u : Nat → Nat => [(h, .inr (5, [.ref b1, .ref b2, .ref b3, .ref (u 0)])), ((u 0), .inl (cA.1, 48, .inl (fun _ => 0)))]) := by
  refine ctV_of (by decide) rfl (Nat.le_of_ble_eq_true rfl) ?_
  intro p e s m below meth c S hr hlk hin hK A hA I ls hl
  have hl : lv_has ls 4 [(0, .ref h), (1, .ref b1), (2, .ref b2), (3, .ref b3)] := hl
  generalize hlo : ([] : List Loc) = locs at I ⊢
  refine lv_aload_n S.1 S.2.1 d_La_init_0 rfl (lv_at hl 0 rfl) ?_
  refine W.objInit S.1 S.2.1 S.2.2.2.1 (S.2.2.2.2 _ mo_La) (S.2.2.2.2 _ ob_i) (S.2.2.2.2 _ ob_c) rfl (hl.1.trans S.2.2.1.symm) rfl d_La_init_1 (Nat.le_of_ble_eq_true rfl) (Nat.le_of_ble_eq_true rfl) ?_
  refine W.eq (g2 := F0 m 4 ls []) rfl ?_
  refine lv_aload_n S.1 S.2.1 d_La_init_4 rfl (lv_at hl 0 rfl) ?_
  refine lv_bipush (v := (48 : Int32)) S.1 S.2.1 d_La_init_5 rfl ?_
  refine k_newI (N := 48) hK S ac_I hA I (by decide) (by decide) (by decide) (Nat.le_of_ble_eq_true rfl) (Nat.le_of_ble_eq_true rfl) d_La_init_7 (fun q7 H I => ?_)
  have I : kI D A s [(h, .inr (5, [.null, .null, .null, .null])), (q7, .inl (cA.1, 48, .inl (fun _ => 0)))] H locs := I
  refine va_putF (D := D) (ci := 5) (v := .ref q7) (ty := .array .int) (C := R_La) (T := F_La) (N := 4) S.1 S.2.1 S.2.2.2.2 u_La t_La t_La_ok n_La S.2.2.2.1 hK.1.1 I.1 I.2.1 I.2.2 0 rfl rfl 3 (by decide) (S.2.2.2.2 _ fl_La_states) (fun _ h9 => h9) rfl hin rfl (by decide +kernel) rfl rfl (Nat.le_of_ble_eq_true rfl) d_La_init_9 (fun H locs hP hD hS => ?_)
  have I : kI D A s [(h, .inr (5, [.null, .null, .null, .ref q7])), (q7, .inl (cA.1, 48, .inl (fun _ => 0)))] H locs := ⟨hP, hD, hS⟩
  refine lv_aload_n S.1 S.2.1 d_La_init_12 rfl (lv_at hl 0 rfl) ?_
  refine lv_aload_n S.1 S.2.1 d_La_init_13 rfl (lv_at hl 1 rfl) ?_
  refine va_putF (D := D) (ci := 5) (v := .ref b1) (ty := .object "GroundReach$Terms") (C := R_La) (T := F_La) (N := 4) S.1 S.2.1 S.2.2.2.2 u_La t_La t_La_ok n_La S.2.2.2.1 hK.1.1 I.1 I.2.1 I.2.2 0 rfl rfl 0 (by decide) (S.2.2.2.2 _ fl_La_terms) (fun _ h9 => h9) rfl hin rfl (by decide +kernel) rfl rfl (Nat.le_of_ble_eq_true rfl) d_La_init_14 (fun H locs hP hD hS => ?_)
  have I : kI D A s [(h, .inr (5, [.ref b1, .null, .null, .ref q7])), (q7, .inl (cA.1, 48, .inl (fun _ => 0)))] H locs := ⟨hP, hD, hS⟩
  refine lv_aload_n S.1 S.2.1 d_La_init_17 rfl (lv_at hl 0 rfl) ?_
  refine lv_aload_n S.1 S.2.1 d_La_init_18 rfl (lv_at hl 2 rfl) ?_
  refine va_putF (D := D) (ci := 5) (v := .ref b2) (ty := .object "GroundReach$Automaton") (C := R_La) (T := F_La) (N := 4) S.1 S.2.1 S.2.2.2.2 u_La t_La t_La_ok n_La S.2.2.2.1 hK.1.1 I.1 I.2.1 I.2.2 0 rfl rfl 1 (by decide) (S.2.2.2.2 _ fl_La_automaton) (fun _ h9 => h9) rfl hin rfl (by decide +kernel) rfl rfl (Nat.le_of_ble_eq_true rfl) d_La_init_19 (fun H locs hP hD hS => ?_)
  have I : kI D A s [(h, .inr (5, [.ref b1, .ref b2, .null, .ref q7])), (q7, .inl (cA.1, 48, .inl (fun _ => 0)))] H locs := ⟨hP, hD, hS⟩
  refine lv_aload_n S.1 S.2.1 d_La_init_22 rfl (lv_at hl 0 rfl) ?_
  refine lv_aload_n S.1 S.2.1 d_La_init_23 rfl (lv_at hl 3 rfl) ?_
  refine va_putF (D := D) (ci := 5) (v := .ref b3) (ty := .object "GroundReach$Relations") (C := R_La) (T := F_La) (N := 4) S.1 S.2.1 S.2.2.2.2 u_La t_La t_La_ok n_La S.2.2.2.1 hK.1.1 I.1 I.2.1 I.2.2 0 rfl rfl 2 (by decide) (S.2.2.2.2 _ fl_La_relations) (fun _ h9 => h9) rfl hin rfl (by decide +kernel) rfl rfl (Nat.le_of_ble_eq_true rfl) d_La_init_24 (fun H locs hP hD hS => ?_)
  have I : kI D A s [(h, .inr (5, [.ref b1, .ref b2, .ref b3, .ref q7])), (q7, .inl (cA.1, 48, .inl (fun _ => 0)))] H locs := ⟨hP, hD, hS⟩
  exact ret_ct (u := (fun k => match k with | 0 => q7 | _ => 0)) S hr hlk I trivial d_La_init_27
set_option maxHeartbeats 4000000 in
set_option maxRecDepth 100000 in
theorem c_Sp_init (l : Launch) (D : va_G) (cA : ClassId × ClassId × ClassId) (h b1 b2 : Nat) : ctV l y_Sp_init (wsOf y_Sp_init b_Sp_init 3 none) rm_Sp_init D cA [(h, .inr (6, [.null, .null, .null, .null, .null]))] [.ref h, .ref b1, .ref b2] 3 144 (fun _ : Nat → Nat => True) (fun u : Nat → Nat => [(h, .inr (6, [.ref b1, .ref b2, .ref (u 0), .ref (u 1), .ref (u 2)])), ((u 0), .inl (cA.2.1, 48, .inr (.inl (fun _ => 0)))), ((u 1), .inl (cA.1, 48, .inl (fun _ => 0))), ((u 2), .inl (cA.2.2, 48, .inl (fun _ => 0)))]) := by
  refine ctV_of (by decide) rfl (Nat.le_of_ble_eq_true rfl) ?_
  intro p e s m below meth c S hr hlk hin hK A hA I ls hl
  have hl : lv_has ls 3 [(0, .ref h), (1, .ref b1), (2, .ref b2)] := hl
  generalize hlo : ([] : List Loc) = locs at I ⊢
  refine lv_aload_n S.1 S.2.1 d_Sp_init_0 rfl (lv_at hl 0 rfl) ?_
  refine W.objInit S.1 S.2.1 S.2.2.2.1 (S.2.2.2.2 _ mo_Sp) (S.2.2.2.2 _ ob_i) (S.2.2.2.2 _ ob_c) rfl (hl.1.trans S.2.2.1.symm) rfl d_Sp_init_1 (Nat.le_of_ble_eq_true rfl) (Nat.le_of_ble_eq_true rfl) ?_
  refine W.eq (g2 := F0 m 4 ls []) rfl ?_
  refine lv_aload_n S.1 S.2.1 d_Sp_init_4 rfl (lv_at hl 0 rfl) ?_
  refine lv_bipush (v := (48 : Int32)) S.1 S.2.1 d_Sp_init_5 rfl ?_
  refine k_newJ (N := 48) hK S ac_J hA I (by decide) (by decide) (by decide) (Nat.le_of_ble_eq_true rfl) (Nat.le_of_ble_eq_true rfl) d_Sp_init_7 (fun q7 H I => ?_)
  have I : kI D A s [(h, .inr (6, [.null, .null, .null, .null, .null])), (q7, .inl (cA.2.1, 48, .inr (.inl (fun _ => 0))))] H locs := I
  refine va_putF (D := D) (ci := 6) (v := .ref q7) (ty := .array .long) (C := R_Sp) (T := F_Sp) (N := 5) S.1 S.2.1 S.2.2.2.2 u_Sp t_Sp t_Sp_ok n_Sp S.2.2.2.1 hK.1.1 I.1 I.2.1 I.2.2 0 rfl rfl 2 (by decide) (S.2.2.2.2 _ fl_Sp_counts) (fun _ h9 => h9) rfl hin rfl (by decide +kernel) rfl rfl (Nat.le_of_ble_eq_true rfl) d_Sp_init_9 (fun H locs hP hD hS => ?_)
  have I : kI D A s [(h, .inr (6, [.null, .null, .ref q7, .null, .null])), (q7, .inl (cA.2.1, 48, .inr (.inl (fun _ => 0))))] H locs := ⟨hP, hD, hS⟩
  refine lv_aload_n S.1 S.2.1 d_Sp_init_12 rfl (lv_at hl 0 rfl) ?_
  refine lv_bipush (v := (48 : Int32)) S.1 S.2.1 d_Sp_init_13 rfl ?_
  refine k_newI (N := 48) hK S ac_I hA I (by decide) (by decide) (by decide) (Nat.le_of_ble_eq_true rfl) (Nat.le_of_ble_eq_true rfl) d_Sp_init_15 (fun q15 H I => ?_)
  have I : kI D A s [(h, .inr (6, [.null, .null, .ref q7, .null, .null])), (q7, .inl (cA.2.1, 48, .inr (.inl (fun _ => 0)))), (q15, .inl (cA.1, 48, .inl (fun _ => 0)))] H locs := I
  refine va_putF (D := D) (ci := 6) (v := .ref q15) (ty := .array .int) (C := R_Sp) (T := F_Sp) (N := 5) S.1 S.2.1 S.2.2.2.2 u_Sp t_Sp t_Sp_ok n_Sp S.2.2.2.1 hK.1.1 I.1 I.2.1 I.2.2 0 rfl rfl 3 (by decide) (S.2.2.2.2 _ fl_Sp_path) (fun _ h9 => h9) rfl hin rfl (by decide +kernel) rfl rfl (Nat.le_of_ble_eq_true rfl) d_Sp_init_17 (fun H locs hP hD hS => ?_)
  have I : kI D A s [(h, .inr (6, [.null, .null, .ref q7, .ref q15, .null])), (q7, .inl (cA.2.1, 48, .inr (.inl (fun _ => 0)))), (q15, .inl (cA.1, 48, .inl (fun _ => 0)))] H locs := ⟨hP, hD, hS⟩
  refine lv_aload_n S.1 S.2.1 d_Sp_init_20 rfl (lv_at hl 0 rfl) ?_
  refine lv_bipush (v := (48 : Int32)) S.1 S.2.1 d_Sp_init_21 rfl ?_
  refine k_newZ (N := 48) hK S ac_Z hA I (by decide) (by decide) (by decide) (Nat.le_of_ble_eq_true rfl) (Nat.le_of_ble_eq_true rfl) d_Sp_init_23 (fun q23 H I => ?_)
  have I : kI D A s [(h, .inr (6, [.null, .null, .ref q7, .ref q15, .null])), (q7, .inl (cA.2.1, 48, .inr (.inl (fun _ => 0)))), (q15, .inl (cA.1, 48, .inl (fun _ => 0))), (q23, .inl (cA.2.2, 48, .inl (fun _ => 0)))] H locs := I
  refine va_putF (D := D) (ci := 6) (v := .ref q23) (ty := .array .boolean) (C := R_Sp) (T := F_Sp) (N := 5) S.1 S.2.1 S.2.2.2.2 u_Sp t_Sp t_Sp_ok n_Sp S.2.2.2.1 hK.1.1 I.1 I.2.1 I.2.2 0 rfl rfl 4 (by decide) (S.2.2.2.2 _ fl_Sp_wentFirst) (fun _ h9 => h9) rfl hin rfl (by decide +kernel) rfl rfl (Nat.le_of_ble_eq_true rfl) d_Sp_init_25 (fun H locs hP hD hS => ?_)
  have I : kI D A s [(h, .inr (6, [.null, .null, .ref q7, .ref q15, .ref q23])), (q7, .inl (cA.2.1, 48, .inr (.inl (fun _ => 0)))), (q15, .inl (cA.1, 48, .inl (fun _ => 0))), (q23, .inl (cA.2.2, 48, .inl (fun _ => 0)))] H locs := ⟨hP, hD, hS⟩
  refine lv_aload_n S.1 S.2.1 d_Sp_init_28 rfl (lv_at hl 0 rfl) ?_
  refine lv_aload_n S.1 S.2.1 d_Sp_init_29 rfl (lv_at hl 1 rfl) ?_
  refine va_putF (D := D) (ci := 6) (v := .ref b1) (ty := .object "GroundReach$Terms") (C := R_Sp) (T := F_Sp) (N := 5) S.1 S.2.1 S.2.2.2.2 u_Sp t_Sp t_Sp_ok n_Sp S.2.2.2.1 hK.1.1 I.1 I.2.1 I.2.2 0 rfl rfl 0 (by decide) (S.2.2.2.2 _ fl_Sp_terms) (fun _ h9 => h9) rfl hin rfl (by decide +kernel) rfl rfl (Nat.le_of_ble_eq_true rfl) d_Sp_init_30 (fun H locs hP hD hS => ?_)
  have I : kI D A s [(h, .inr (6, [.ref b1, .null, .ref q7, .ref q15, .ref q23])), (q7, .inl (cA.2.1, 48, .inr (.inl (fun _ => 0)))), (q15, .inl (cA.1, 48, .inl (fun _ => 0))), (q23, .inl (cA.2.2, 48, .inl (fun _ => 0)))] H locs := ⟨hP, hD, hS⟩
  refine lv_aload_n S.1 S.2.1 d_Sp_init_33 rfl (lv_at hl 0 rfl) ?_
  refine lv_aload_n S.1 S.2.1 d_Sp_init_34 rfl (lv_at hl 2 rfl) ?_
  refine va_putF (D := D) (ci := 6) (v := .ref b2) (ty := .object "GroundReach$Rules") (C := R_Sp) (T := F_Sp) (N := 5) S.1 S.2.1 S.2.2.2.2 u_Sp t_Sp t_Sp_ok n_Sp S.2.2.2.1 hK.1.1 I.1 I.2.1 I.2.2 0 rfl rfl 1 (by decide) (S.2.2.2.2 _ fl_Sp_rules) (fun _ h9 => h9) rfl hin rfl (by decide +kernel) rfl rfl (Nat.le_of_ble_eq_true rfl) d_Sp_init_35 (fun H locs hP hD hS => ?_)
  have I : kI D A s [(h, .inr (6, [.ref b1, .ref b2, .ref q7, .ref q15, .ref q23])), (q7, .inl (cA.2.1, 48, .inr (.inl (fun _ => 0)))), (q15, .inl (cA.1, 48, .inl (fun _ => 0))), (q23, .inl (cA.2.2, 48, .inl (fun _ => 0)))] H locs := ⟨hP, hD, hS⟩
  exact ret_ct (u := (fun k => match k with | 0 => q7 | 1 => q15 | 2 => q23 | _ => 0)) S hr hlk I trivial d_Sp_init_38
set_option maxHeartbeats 4000000 in
set_option maxRecDepth 100000 in
theorem c_Le_init (l : Launch) (D : va_G) (cA : ClassId × ClassId × ClassId) (h b1 b2 : Nat) : ctV l y_Le_init (wsOf y_Le_init b_Le_init 3 none) rm_Le_init D cA [(h, .inr (7, [.null, .null, .null, .null, .null, .null, .null, .null, .null, .int 0]))] [.ref h, .ref b1, .ref b2] 7 4501 (fun _ : Nat → Nat => True) (fun u : Nat → Nat => [(h, .inr (7, [.ref b1, .ref b2, .ref (u 0), .ref (u 1), .ref (u 2), .ref (u 3), .ref (u 4), .ref (u 5), .ref (u 6), .int 0])), ((u 0), .inl (cA.2.1, 3136, .inr (.inl (fun _ => 0)))), ((u 1), .inl (cA.2.2, 448, .inl (fun _ => 0))), ((u 2), .inl (cA.2.2, 448, .inl (fun _ => 0))), ((u 3), .inl (cA.2.1, 7, .inr (.inl (fun _ => 0)))), ((u 4), .inl (cA.2.1, 7, .inr (.inl (fun _ => 0)))), ((u 5), .inl (cA.2.1, 7, .inr (.inl (fun _ => 0)))), ((u 6), .inl (cA.1, 448, .inl (fun _ => 0)))]) := by
  refine ctV_of (by decide) rfl (Nat.le_of_ble_eq_true rfl) ?_
  intro p e s m below meth c S hr hlk hin hK A hA I ls hl
  have hl : lv_has ls 3 [(0, .ref h), (1, .ref b1), (2, .ref b2)] := hl
  generalize hlo : ([] : List Loc) = locs at I ⊢
  refine lv_aload_n S.1 S.2.1 d_Le_init_0 rfl (lv_at hl 0 rfl) ?_
  refine W.objInit S.1 S.2.1 S.2.2.2.1 (S.2.2.2.2 _ mo_Le) (S.2.2.2.2 _ ob_i) (S.2.2.2.2 _ ob_c) rfl (hl.1.trans S.2.2.1.symm) rfl d_Le_init_1 (Nat.le_of_ble_eq_true rfl) (Nat.le_of_ble_eq_true rfl) ?_
  refine W.eq (g2 := F0 m 4 ls []) rfl ?_
  refine lv_aload_n S.1 S.2.1 d_Le_init_4 rfl (lv_at hl 0 rfl) ?_
  refine lv_sipush (v := (3136 : Int32)) S.1 S.2.1 d_Le_init_5 rfl ?_
  refine k_newJ (N := 3136) hK S ac_J hA I (by decide) (by decide) (by decide) (Nat.le_of_ble_eq_true rfl) (Nat.le_of_ble_eq_true rfl) d_Le_init_8 (fun q8 H I => ?_)
  have I : kI D A s [(h, .inr (7, [.null, .null, .null, .null, .null, .null, .null, .null, .null, .int 0])), (q8, .inl (cA.2.1, 3136, .inr (.inl (fun _ => 0))))] H locs := I
  refine va_putF (D := D) (ci := 7) (v := .ref q8) (ty := .array .long) (C := R_Le) (T := F_Le) (N := 10) S.1 S.2.1 S.2.2.2.2 u_Le t_Le t_Le_ok n_Le S.2.2.2.1 hK.1.1 I.1 I.2.1 I.2.2 0 rfl rfl 2 (by decide) (S.2.2.2.2 _ fl_Le_after) (fun _ h9 => h9) rfl hin rfl (by decide +kernel) rfl rfl (Nat.le_of_ble_eq_true rfl) d_Le_init_10 (fun H locs hP hD hS => ?_)
  have I : kI D A s [(h, .inr (7, [.null, .null, .ref q8, .null, .null, .null, .null, .null, .null, .int 0])), (q8, .inl (cA.2.1, 3136, .inr (.inl (fun _ => 0))))] H locs := ⟨hP, hD, hS⟩
  refine lv_aload_n S.1 S.2.1 d_Le_init_13 rfl (lv_at hl 0 rfl) ?_
  refine lv_sipush (v := (448 : Int32)) S.1 S.2.1 d_Le_init_14 rfl ?_
  refine k_newZ (N := 448) hK S ac_Z hA I (by decide) (by decide) (by decide) (Nat.le_of_ble_eq_true rfl) (Nat.le_of_ble_eq_true rfl) d_Le_init_17 (fun q17 H I => ?_)
  have I : kI D A s [(h, .inr (7, [.null, .null, .ref q8, .null, .null, .null, .null, .null, .null, .int 0])), (q8, .inl (cA.2.1, 3136, .inr (.inl (fun _ => 0)))), (q17, .inl (cA.2.2, 448, .inl (fun _ => 0)))] H locs := I
  refine va_putF (D := D) (ci := 7) (v := .ref q17) (ty := .array .boolean) (C := R_Le) (T := F_Le) (N := 10) S.1 S.2.1 S.2.2.2.2 u_Le t_Le t_Le_ok n_Le S.2.2.2.1 hK.1.1 I.1 I.2.1 I.2.2 0 rfl rfl 3 (by decide) (S.2.2.2.2 _ fl_Le_counted) (fun _ h9 => h9) rfl hin rfl (by decide +kernel) rfl rfl (Nat.le_of_ble_eq_true rfl) d_Le_init_19 (fun H locs hP hD hS => ?_)
  have I : kI D A s [(h, .inr (7, [.null, .null, .ref q8, .ref q17, .null, .null, .null, .null, .null, .int 0])), (q8, .inl (cA.2.1, 3136, .inr (.inl (fun _ => 0)))), (q17, .inl (cA.2.2, 448, .inl (fun _ => 0)))] H locs := ⟨hP, hD, hS⟩
  refine lv_aload_n S.1 S.2.1 d_Le_init_22 rfl (lv_at hl 0 rfl) ?_
  refine lv_sipush (v := (448 : Int32)) S.1 S.2.1 d_Le_init_23 rfl ?_
  refine k_newZ (N := 448) hK S ac_Z hA I (by decide) (by decide) (by decide) (Nat.le_of_ble_eq_true rfl) (Nat.le_of_ble_eq_true rfl) d_Le_init_26 (fun q26 H I => ?_)
  have I : kI D A s [(h, .inr (7, [.null, .null, .ref q8, .ref q17, .null, .null, .null, .null, .null, .int 0])), (q8, .inl (cA.2.1, 3136, .inr (.inl (fun _ => 0)))), (q17, .inl (cA.2.2, 448, .inl (fun _ => 0))), (q26, .inl (cA.2.2, 448, .inl (fun _ => 0)))] H locs := I
  refine va_putF (D := D) (ci := 7) (v := .ref q26) (ty := .array .boolean) (C := R_Le) (T := F_Le) (N := 10) S.1 S.2.1 S.2.2.2.2 u_Le t_Le t_Le_ok n_Le S.2.2.2.1 hK.1.1 I.1 I.2.1 I.2.2 0 rfl rfl 4 (by decide) (S.2.2.2.2 _ fl_Le_expanded) (fun _ h9 => h9) rfl hin rfl (by decide +kernel) rfl rfl (Nat.le_of_ble_eq_true rfl) d_Le_init_28 (fun H locs hP hD hS => ?_)
  have I : kI D A s [(h, .inr (7, [.null, .null, .ref q8, .ref q17, .ref q26, .null, .null, .null, .null, .int 0])), (q8, .inl (cA.2.1, 3136, .inr (.inl (fun _ => 0)))), (q17, .inl (cA.2.2, 448, .inl (fun _ => 0))), (q26, .inl (cA.2.2, 448, .inl (fun _ => 0)))] H locs := ⟨hP, hD, hS⟩
  refine lv_aload_n S.1 S.2.1 d_Le_init_31 rfl (lv_at hl 0 rfl) ?_
  refine lv_bipush (v := (7 : Int32)) S.1 S.2.1 d_Le_init_32 rfl ?_
  refine k_newJ (N := 7) hK S ac_J hA I (by decide) (by decide) (by decide) (Nat.le_of_ble_eq_true rfl) (Nat.le_of_ble_eq_true rfl) d_Le_init_34 (fun q34 H I => ?_)
  have I : kI D A s [(h, .inr (7, [.null, .null, .ref q8, .ref q17, .ref q26, .null, .null, .null, .null, .int 0])), (q8, .inl (cA.2.1, 3136, .inr (.inl (fun _ => 0)))), (q17, .inl (cA.2.2, 448, .inl (fun _ => 0))), (q26, .inl (cA.2.2, 448, .inl (fun _ => 0))), (q34, .inl (cA.2.1, 7, .inr (.inl (fun _ => 0))))] H locs := I
  refine va_putF (D := D) (ci := 7) (v := .ref q34) (ty := .array .long) (C := R_Le) (T := F_Le) (N := 10) S.1 S.2.1 S.2.2.2.2 u_Le t_Le t_Le_ok n_Le S.2.2.2.1 hK.1.1 I.1 I.2.1 I.2.2 0 rfl rfl 5 (by decide) (S.2.2.2.2 _ fl_Le_inLevels) (fun _ h9 => h9) rfl hin rfl (by decide +kernel) rfl rfl (Nat.le_of_ble_eq_true rfl) d_Le_init_36 (fun H locs hP hD hS => ?_)
  have I : kI D A s [(h, .inr (7, [.null, .null, .ref q8, .ref q17, .ref q26, .ref q34, .null, .null, .null, .int 0])), (q8, .inl (cA.2.1, 3136, .inr (.inl (fun _ => 0)))), (q17, .inl (cA.2.2, 448, .inl (fun _ => 0))), (q26, .inl (cA.2.2, 448, .inl (fun _ => 0))), (q34, .inl (cA.2.1, 7, .inr (.inl (fun _ => 0))))] H locs := ⟨hP, hD, hS⟩
  refine lv_aload_n S.1 S.2.1 d_Le_init_39 rfl (lv_at hl 0 rfl) ?_
  refine lv_bipush (v := (7 : Int32)) S.1 S.2.1 d_Le_init_40 rfl ?_
  refine k_newJ (N := 7) hK S ac_J hA I (by decide) (by decide) (by decide) (Nat.le_of_ble_eq_true rfl) (Nat.le_of_ble_eq_true rfl) d_Le_init_42 (fun q42 H I => ?_)
  have I : kI D A s [(h, .inr (7, [.null, .null, .ref q8, .ref q17, .ref q26, .ref q34, .null, .null, .null, .int 0])), (q8, .inl (cA.2.1, 3136, .inr (.inl (fun _ => 0)))), (q17, .inl (cA.2.2, 448, .inl (fun _ => 0))), (q26, .inl (cA.2.2, 448, .inl (fun _ => 0))), (q34, .inl (cA.2.1, 7, .inr (.inl (fun _ => 0)))), (q42, .inl (cA.2.1, 7, .inr (.inl (fun _ => 0))))] H locs := I
  refine va_putF (D := D) (ci := 7) (v := .ref q42) (ty := .array .long) (C := R_Le) (T := F_Le) (N := 10) S.1 S.2.1 S.2.2.2.2 u_Le t_Le t_Le_ok n_Le S.2.2.2.1 hK.1.1 I.1 I.2.1 I.2.2 0 rfl rfl 6 (by decide) (S.2.2.2.2 _ fl_Le_newest) (fun _ h9 => h9) rfl hin rfl (by decide +kernel) rfl rfl (Nat.le_of_ble_eq_true rfl) d_Le_init_44 (fun H locs hP hD hS => ?_)
  have I : kI D A s [(h, .inr (7, [.null, .null, .ref q8, .ref q17, .ref q26, .ref q34, .ref q42, .null, .null, .int 0])), (q8, .inl (cA.2.1, 3136, .inr (.inl (fun _ => 0)))), (q17, .inl (cA.2.2, 448, .inl (fun _ => 0))), (q26, .inl (cA.2.2, 448, .inl (fun _ => 0))), (q34, .inl (cA.2.1, 7, .inr (.inl (fun _ => 0)))), (q42, .inl (cA.2.1, 7, .inr (.inl (fun _ => 0))))] H locs := ⟨hP, hD, hS⟩
  refine lv_aload_n S.1 S.2.1 d_Le_init_47 rfl (lv_at hl 0 rfl) ?_
  refine lv_bipush (v := (7 : Int32)) S.1 S.2.1 d_Le_init_48 rfl ?_
  refine k_newJ (N := 7) hK S ac_J hA I (by decide) (by decide) (by decide) (Nat.le_of_ble_eq_true rfl) (Nat.le_of_ble_eq_true rfl) d_Le_init_50 (fun q50 H I => ?_)
  have I : kI D A s [(h, .inr (7, [.null, .null, .ref q8, .ref q17, .ref q26, .ref q34, .ref q42, .null, .null, .int 0])), (q8, .inl (cA.2.1, 3136, .inr (.inl (fun _ => 0)))), (q17, .inl (cA.2.2, 448, .inl (fun _ => 0))), (q26, .inl (cA.2.2, 448, .inl (fun _ => 0))), (q34, .inl (cA.2.1, 7, .inr (.inl (fun _ => 0)))), (q42, .inl (cA.2.1, 7, .inr (.inl (fun _ => 0)))), (q50, .inl (cA.2.1, 7, .inr (.inl (fun _ => 0))))] H locs := I
  refine va_putF (D := D) (ci := 7) (v := .ref q50) (ty := .array .long) (C := R_Le) (T := F_Le) (N := 10) S.1 S.2.1 S.2.2.2.2 u_Le t_Le t_Le_ok n_Le S.2.2.2.1 hK.1.1 I.1 I.2.1 I.2.2 0 rfl rfl 7 (by decide) (S.2.2.2.2 _ fl_Le_coming) (fun _ h9 => h9) rfl hin rfl (by decide +kernel) rfl rfl (Nat.le_of_ble_eq_true rfl) d_Le_init_52 (fun H locs hP hD hS => ?_)
  have I : kI D A s [(h, .inr (7, [.null, .null, .ref q8, .ref q17, .ref q26, .ref q34, .ref q42, .ref q50, .null, .int 0])), (q8, .inl (cA.2.1, 3136, .inr (.inl (fun _ => 0)))), (q17, .inl (cA.2.2, 448, .inl (fun _ => 0))), (q26, .inl (cA.2.2, 448, .inl (fun _ => 0))), (q34, .inl (cA.2.1, 7, .inr (.inl (fun _ => 0)))), (q42, .inl (cA.2.1, 7, .inr (.inl (fun _ => 0)))), (q50, .inl (cA.2.1, 7, .inr (.inl (fun _ => 0))))] H locs := ⟨hP, hD, hS⟩
  refine lv_aload_n S.1 S.2.1 d_Le_init_55 rfl (lv_at hl 0 rfl) ?_
  refine lv_sipush (v := (448 : Int32)) S.1 S.2.1 d_Le_init_56 rfl ?_
  refine k_newI (N := 448) hK S ac_I hA I (by decide) (by decide) (by decide) (Nat.le_of_ble_eq_true rfl) (Nat.le_of_ble_eq_true rfl) d_Le_init_59 (fun q59 H I => ?_)
  have I : kI D A s [(h, .inr (7, [.null, .null, .ref q8, .ref q17, .ref q26, .ref q34, .ref q42, .ref q50, .null, .int 0])), (q8, .inl (cA.2.1, 3136, .inr (.inl (fun _ => 0)))), (q17, .inl (cA.2.2, 448, .inl (fun _ => 0))), (q26, .inl (cA.2.2, 448, .inl (fun _ => 0))), (q34, .inl (cA.2.1, 7, .inr (.inl (fun _ => 0)))), (q42, .inl (cA.2.1, 7, .inr (.inl (fun _ => 0)))), (q50, .inl (cA.2.1, 7, .inr (.inl (fun _ => 0)))), (q59, .inl (cA.1, 448, .inl (fun _ => 0)))] H locs := I
  refine va_putF (D := D) (ci := 7) (v := .ref q59) (ty := .array .int) (C := R_Le) (T := F_Le) (N := 10) S.1 S.2.1 S.2.2.2.2 u_Le t_Le t_Le_ok n_Le S.2.2.2.1 hK.1.1 I.1 I.2.1 I.2.2 0 rfl rfl 8 (by decide) (S.2.2.2.2 _ fl_Le_waiting) (fun _ h9 => h9) rfl hin rfl (by decide +kernel) rfl rfl (Nat.le_of_ble_eq_true rfl) d_Le_init_61 (fun H locs hP hD hS => ?_)
  have I : kI D A s [(h, .inr (7, [.null, .null, .ref q8, .ref q17, .ref q26, .ref q34, .ref q42, .ref q50, .ref q59, .int 0])), (q8, .inl (cA.2.1, 3136, .inr (.inl (fun _ => 0)))), (q17, .inl (cA.2.2, 448, .inl (fun _ => 0))), (q26, .inl (cA.2.2, 448, .inl (fun _ => 0))), (q34, .inl (cA.2.1, 7, .inr (.inl (fun _ => 0)))), (q42, .inl (cA.2.1, 7, .inr (.inl (fun _ => 0)))), (q50, .inl (cA.2.1, 7, .inr (.inl (fun _ => 0)))), (q59, .inl (cA.1, 448, .inl (fun _ => 0)))] H locs := ⟨hP, hD, hS⟩
  refine lv_aload_n S.1 S.2.1 d_Le_init_64 rfl (lv_at hl 0 rfl) ?_
  refine lv_aload_n S.1 S.2.1 d_Le_init_65 rfl (lv_at hl 1 rfl) ?_
  refine va_putF (D := D) (ci := 7) (v := .ref b1) (ty := .object "GroundReach$Terms") (C := R_Le) (T := F_Le) (N := 10) S.1 S.2.1 S.2.2.2.2 u_Le t_Le t_Le_ok n_Le S.2.2.2.1 hK.1.1 I.1 I.2.1 I.2.2 0 rfl rfl 0 (by decide) (S.2.2.2.2 _ fl_Le_terms) (fun _ h9 => h9) rfl hin rfl (by decide +kernel) rfl rfl (Nat.le_of_ble_eq_true rfl) d_Le_init_66 (fun H locs hP hD hS => ?_)
  have I : kI D A s [(h, .inr (7, [.ref b1, .null, .ref q8, .ref q17, .ref q26, .ref q34, .ref q42, .ref q50, .ref q59, .int 0])), (q8, .inl (cA.2.1, 3136, .inr (.inl (fun _ => 0)))), (q17, .inl (cA.2.2, 448, .inl (fun _ => 0))), (q26, .inl (cA.2.2, 448, .inl (fun _ => 0))), (q34, .inl (cA.2.1, 7, .inr (.inl (fun _ => 0)))), (q42, .inl (cA.2.1, 7, .inr (.inl (fun _ => 0)))), (q50, .inl (cA.2.1, 7, .inr (.inl (fun _ => 0)))), (q59, .inl (cA.1, 448, .inl (fun _ => 0)))] H locs := ⟨hP, hD, hS⟩
  refine lv_aload_n S.1 S.2.1 d_Le_init_69 rfl (lv_at hl 0 rfl) ?_
  refine lv_aload_n S.1 S.2.1 d_Le_init_70 rfl (lv_at hl 2 rfl) ?_
  refine va_putF (D := D) (ci := 7) (v := .ref b2) (ty := .object "GroundReach$Rules") (C := R_Le) (T := F_Le) (N := 10) S.1 S.2.1 S.2.2.2.2 u_Le t_Le t_Le_ok n_Le S.2.2.2.1 hK.1.1 I.1 I.2.1 I.2.2 0 rfl rfl 1 (by decide) (S.2.2.2.2 _ fl_Le_rules) (fun _ h9 => h9) rfl hin rfl (by decide +kernel) rfl rfl (Nat.le_of_ble_eq_true rfl) d_Le_init_71 (fun H locs hP hD hS => ?_)
  have I : kI D A s [(h, .inr (7, [.ref b1, .ref b2, .ref q8, .ref q17, .ref q26, .ref q34, .ref q42, .ref q50, .ref q59, .int 0])), (q8, .inl (cA.2.1, 3136, .inr (.inl (fun _ => 0)))), (q17, .inl (cA.2.2, 448, .inl (fun _ => 0))), (q26, .inl (cA.2.2, 448, .inl (fun _ => 0))), (q34, .inl (cA.2.1, 7, .inr (.inl (fun _ => 0)))), (q42, .inl (cA.2.1, 7, .inr (.inl (fun _ => 0)))), (q50, .inl (cA.2.1, 7, .inr (.inl (fun _ => 0)))), (q59, .inl (cA.1, 448, .inl (fun _ => 0)))] H locs := ⟨hP, hD, hS⟩
  exact ret_ct (u := (fun k => match k with | 0 => q8 | 1 => q17 | 2 => q26 | 3 => q34 | 4 => q42 | 5 => q50 | 6 => q59 | _ => 0)) S hr hlk I trivial d_Le_init_74
