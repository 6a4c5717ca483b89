set_option maxHeartbeats 4000000 in
set_option maxRecDepth 100000 in
theorem n_Le_start_26 {p : Program} {l : Launch} {e : Env} {s : State} {m : MethodId} {args : Array Value} {below : List Frame} {meth : Method} {c : Code} {D : va_G} {A : Nat → Prop} {ad : Nat → Nat} {cA : ClassId × ClassId × ClassId} {te : Te} {ru : Ru} {au : Au} {re : Re} {la : La} {sp : Sp} {x1 : Int32} {Q : Le → Prop} (S : CallFix p m c b_Le_start 3 s args gtbl R_Le) (hr : meth.sig.returnType = none) (hlk : meth.locks = false) (hK : gK D (tyA cA) s) (hA : ∀ q : Nat, s.heap.size ≤ q → A q) : ∀ n : Nat, ∀ (ls : Array Slot) (H : Heap) (locs : List Loc) (x2 : Int32) (le : Le), p_Le_start_26 x1 te Q n x2 le → lv_has ls 3 [(0, .ref (ad 28)), (1, .int x1), (2, .int x2)] → gIn D A s (wC ad cA) (te, ru, au, re, la, sp, le) H locs → W p l e rm_Le_start s m args below meth c H locs 0 0 (qV D (tyA cA) A (wC ad cA) (fun u : Le => (te, ru, au, re, la, sp, u)) (fun u : Le => Q u) below args s) (F0 m 26 ls []) := by
  intro n
  induction n with
  | zero =>
    intro ls H locs x2 le h
    exact (show False from h).elim
  | succ n ih =>
    intro ls H locs x2 le h hl I
    refine lv_iload_n S.1 S.2.1 d_Le_start_26 rfl (lv_at hl 2 rfl) ?_
    refine lv_sipush (v := (448 : Int32)) S.1 S.2.1 d_Le_start_27 rfl ?_
    refine lv_icmp_ge (tgt := 53) S.1 S.2.1 d_Le_start_30 (by decide) (fun hc => ?_) (fun hc => ?_)
    · have h := h.1 hc
      refine lv_aload_n S.1 S.2.1 d_Le_start_53 rfl (lv_at hl 0 rfl) ?_
      refine lv_iconst (v := (0 : Int32)) S.1 S.2.1 d_Le_start_54 rfl ?_
      refine q_Le_countedTerms S hK I d_Le_start_55 (fun H locs le55 ele55 I => ?_)
      have h := h le55 ele55
      refine lv_aload_n S.1 S.2.1 d_Le_start_58 rfl (lv_at hl 0 rfl) ?_
      refine lv_iload_n S.1 S.2.1 d_Le_start_59 rfl (lv_at hl 1 rfl) ?_
      refine callV_rwv S (c_Le_countWithParts l D ad cA _ _ _ _ _ _ _ _ _ h) (mkV S.2.2.2.2 ml_Le_79 k_Le_countWithParts rfl rfl ⟨Nat.le_of_ble_eq_true rfl, Nat.le_of_ble_eq_true rfl⟩) (rv_Le hK I.1) hK hA I hl.1 rfl rfl (Nat.le_of_ble_eq_true rfl) d_Le_start_60 ⟨Nat.zero_le _, Nat.zero_le _⟩ (fun le60 H locs h I => ?_)
      refine lv_aload_n S.1 S.2.1 d_Le_start_63 rfl (lv_at hl 0 rfl) ?_
      refine g_Le_inLevels S hK I.1 d_Le_start_64 ?_
      refine lv_iconst (v := (0 : Int32)) S.1 S.2.1 d_Le_start_67 rfl ?_
      refine lv_iload_n S.1 S.2.1 d_Le_start_68 rfl (lv_at hl 1 rfl) ?_
      refine callS_rwv S (c_Le_include_inLevels l D ad cA _ _ _ _ _ _ _ _ _ _ h) (mkS S.2.2.2.2 ml_Le_82 k_Le_include rfl rfl ⟨Nat.le_of_ble_eq_true rfl, Nat.le_of_ble_eq_true rfl⟩) hK hA I hl.1 rfl rfl (Nat.le_of_ble_eq_true rfl) d_Le_start_69 ⟨Nat.zero_le _, Nat.zero_le _⟩ (fun le69 H locs h I => ?_)
      refine lv_aload_n S.1 S.2.1 d_Le_start_72 rfl (lv_at hl 0 rfl) ?_
      refine g_Le_newest S hK I.1 d_Le_start_73 ?_
      refine lv_iconst (v := (0 : Int32)) S.1 S.2.1 d_Le_start_76 rfl ?_
      refine lv_iload_n S.1 S.2.1 d_Le_start_77 rfl (lv_at hl 1 rfl) ?_
      refine callS_rwv S (c_Le_include_newest l D ad cA _ _ _ _ _ _ _ _ _ _ h) (mkS S.2.2.2.2 ml_Le_82 k_Le_include rfl rfl ⟨Nat.le_of_ble_eq_true rfl, Nat.le_of_ble_eq_true rfl⟩) hK hA I hl.1 rfl rfl (Nat.le_of_ble_eq_true rfl) d_Le_start_78 ⟨Nat.zero_le _, Nat.zero_le _⟩ (fun le78 H locs h I => ?_)
      exact ret_rwv S hr hlk hK I h d_Le_start_81
    · have h := h.2 hc
      refine lv_aload_n S.1 S.2.1 d_Le_start_33 rfl (lv_at hl 0 rfl) ?_
      refine g_Le_counted S hK I.1 d_Le_start_34 ?_
      refine lv_iload_n S.1 S.2.1 d_Le_start_37 rfl (lv_at hl 2 rfl) ?_
      refine lv_iconst (v := (0 : Int32)) S.1 S.2.1 d_Le_start_38 rfl ?_
      obtain ⟨hin, h⟩ := h
      refine s_Le_counted S hK I hin d_Le_start_39 (fun H locs le39 ele39 I => ?_)
      have h := h le39 ele39
      refine lv_aload_n S.1 S.2.1 d_Le_start_40 rfl (lv_at hl 0 rfl) ?_
      refine g_Le_expanded S hK I.1 d_Le_start_41 ?_
      refine lv_iload_n S.1 S.2.1 d_Le_start_44 rfl (lv_at hl 2 rfl) ?_
      refine lv_iconst (v := (0 : Int32)) S.1 S.2.1 d_Le_start_45 rfl ?_
      obtain ⟨hin, h⟩ := h
      refine s_Le_expanded S hK I hin d_Le_start_46 (fun H locs le46 ele46 I => ?_)
      have h := h le46 ele46
      refine lv_iinc (k := 2) (v := x2 + (1 : Int32)) (lv' := [(2, .int (x2 + (1 : Int32))), (0, .ref (ad 28)), (1, .int x1)]) S.1 S.2.1 d_Le_start_47 hl rfl rfl (by decide) rfl (fun ls hl => ?_)
      refine lv_goto (tgt := 26) S.1 S.2.1 d_Le_start_50 (by decide) ?_
      exact ih _ _ _ _ _ h (lv_sub hl [1, 2, 0] rfl) I
set_option maxHeartbeats 4000000 in
set_option maxRecDepth 100000 in
theorem c_Le_start (l : Launch) (D : va_G) (ad : Nat → Nat) (cA : ClassId × ClassId × ClassId) (te : Te) (ru : Ru) (au : Au) (re : Re) (la : La) (sp : Sp) (le : Le) (x1 : Int32) (Q : Le → Prop) (h : p_Le_start x1 te le Q) : rwV l y_Le_start (wsOf y_Le_start b_Le_start 3 none) rm_Le_start D (tyA cA) (wC ad cA) [.ref (ad 28), .int x1] (te, ru, au, re, la, sp, le) (fun u : Le => (te, ru, au, re, la, sp, u)) (fun u : Le => Q u) := by
  refine rwV_of (by decide) (Nat.le_of_ble_eq_true rfl) ?_
  intro p e s m below meth c S hr hlk hK A hA I ls hl
  have hl : lv_has ls 3 [(0, .ref (ad 28)), (1, .int x1)] := hl
  refine lv_aload_n S.1 S.2.1 d_Le_start_0 rfl (lv_at hl 0 rfl) ?_
  refine g_Le_after S hK I.1 d_Le_start_1 ?_
  refine lv_lconst (v := (0 : Int64)) S.1 S.2.1 d_Le_start_4 rfl ?_
  refine callS_rwv S (c_Ar_fillJ_after l D ad cA _ _ _ _ _ _ _ _ _ h) (mkS S.2.2.2.2 ml_Le_73 k_Ar_fillJ rfl rfl ⟨Nat.le_of_ble_eq_true rfl, Nat.le_of_ble_eq_true rfl⟩) hK hA I hl.1 rfl rfl (Nat.le_of_ble_eq_true rfl) d_Le_start_5 ⟨Nat.zero_le _, Nat.zero_le _⟩ (fun le5 H locs h I => ?_)
  refine lv_aload_n S.1 S.2.1 d_Le_start_8 rfl (lv_at hl 0 rfl) ?_
  refine g_Le_inLevels S hK I.1 d_Le_start_9 ?_
  refine lv_lconst (v := (0 : Int64)) S.1 S.2.1 d_Le_start_12 rfl ?_
  refine callS_rwv S (c_Ar_fillJ_inLevels l D ad cA _ _ _ _ _ _ _ _ _ h) (mkS S.2.2.2.2 ml_Le_73 k_Ar_fillJ rfl rfl ⟨Nat.le_of_ble_eq_true rfl, Nat.le_of_ble_eq_true rfl⟩) hK hA I hl.1 rfl rfl (Nat.le_of_ble_eq_true rfl) d_Le_start_13 ⟨Nat.zero_le _, Nat.zero_le _⟩ (fun le13 H locs h I => ?_)
  refine lv_aload_n S.1 S.2.1 d_Le_start_16 rfl (lv_at hl 0 rfl) ?_
  refine g_Le_newest S hK I.1 d_Le_start_17 ?_
  refine lv_lconst (v := (0 : Int64)) S.1 S.2.1 d_Le_start_20 rfl ?_
  refine callS_rwv S (c_Ar_fillJ_newest l D ad cA _ _ _ _ _ _ _ _ _ h) (mkS S.2.2.2.2 ml_Le_73 k_Ar_fillJ rfl rfl ⟨Nat.le_of_ble_eq_true rfl, Nat.le_of_ble_eq_true rfl⟩) hK hA I hl.1 rfl rfl (Nat.le_of_ble_eq_true rfl) d_Le_start_21 ⟨Nat.zero_le _, Nat.zero_le _⟩ (fun le21 H locs h I => ?_)
  refine lv_iconst (v := (0 : Int32)) S.1 S.2.1 d_Le_start_24 rfl ?_
  refine lv_istore_n (lv' := [(2, .int (0 : Int32)), (0, .ref (ad 28)), (1, .int x1)]) S.1 S.2.1 d_Le_start_25 rfl hl (by decide) rfl (fun ls hl => ?_)
  obtain ⟨n', h⟩ := h
  exact n_Le_start_26 S hr hlk hK hA n' _ _ _ _ _ h (lv_sub hl [1, 2, 0] rfl) I

set_option maxHeartbeats 4000000 in
set_option maxRecDepth 100000 in
theorem c_Le_isIn_inLevels (l : Launch) (D : va_G) (ad : Nat → Nat) (cA : ClassId × ClassId × ClassId) (te : Te) (ru : Ru) (au : Au) (re : Re) (la : La) (sp : Sp) (le : Le) (x1 : Int32) (Q : Int32 → Prop) (h : p_Le_isIn_inLevels x1 le Q) : roI l y_Le_isIn (wsOf y_Le_isIn b_Le_isIn 2 (some .boolean)) rm_Le_isIn_inLevels D (tyA cA) (wC ad cA) [.ref (ad 32), .int x1] (te, ru, au, re, la, sp, le) Q := by
  refine roI_of (by decide) (Nat.le_of_ble_eq_true rfl) ?_
  intro p e s m below meth c S hr hlk hK hP ls hl
  have hl : lv_has ls 2 [(0, .ref (ad 32)), (1, .int x1)] := hl
  refine lv_aload_n S.1 S.2.1 d_Le_isIn_0 rfl (lv_at hl 0 rfl) ?_
  refine lv_iload_n S.1 S.2.1 d_Le_isIn_1 rfl (lv_at hl 1 rfl) ?_
  refine lv_bipush (v := (64 : Int32)) S.1 S.2.1 d_Le_isIn_2 rfl ?_
  refine lv_idiv S.1 S.2.1 d_Le_isIn_4 (by decide) ?_
  obtain ⟨hin, h⟩ := h
  refine a_Le_inLevels S hK hP hin d_Le_isIn_5 ?_
  refine lv_iload_n S.1 S.2.1 d_Le_isIn_6 rfl (lv_at hl 1 rfl) ?_
  refine lv_bipush (v := (64 : Int32)) S.1 S.2.1 d_Le_isIn_7 rfl ?_
  refine lv_irem S.1 S.2.1 d_Le_isIn_9 (by decide) ?_
  refine lv_lshr S.1 S.2.1 d_Le_isIn_10 rfl ?_
  refine lv_lconst (v := (1 : Int64)) S.1 S.2.1 d_Le_isIn_11 rfl ?_
  refine lv_land S.1 S.2.1 d_Le_isIn_12 ?_
  refine lv_lconst (v := (0 : Int64)) S.1 S.2.1 d_Le_isIn_13 rfl ?_
  refine W.lcmp S.1 S.2.1 d_Le_isIn_14 ?_
  refine lv_if_eq (tgt := 22) S.1 S.2.1 d_Le_isIn_15 (by decide) (fun hc => ?_) (fun hc => ?_)
  · have h := h.1 hc
    refine lv_iconst (v := (0 : Int32)) S.1 S.2.1 d_Le_isIn_22 rfl ?_
    exact ret_roz S hr hlk (by decide) h d_Le_isIn_23
  · have h := h.2 hc
    refine lv_iconst (v := (1 : Int32)) S.1 S.2.1 d_Le_isIn_18 rfl ?_
    refine lv_goto (tgt := 23) S.1 S.2.1 d_Le_isIn_19 (by decide) ?_
    exact ret_roz S hr hlk (by decide) h d_Le_isIn_23

set_option maxHeartbeats 4000000 in
set_option maxRecDepth 100000 in
theorem n_Le_findWaiting_4 {p : Program} {l : Launch} {e : Env} {s : State} {m : MethodId} {args : Array Value} {below : List Frame} {meth : Method} {c : Code} {D : va_G} {A : Nat → Prop} {ad : Nat → Nat} {cA : ClassId × ClassId × ClassId} {te : Te} {ru : Ru} {au : Au} {re : Re} {la : La} {sp : Sp} {Q : Int32 → Le → Prop} (S : CallFix p m c b_Le_findWaiting 3 s args gtbl R_Le) (hr : meth.sig.returnType = (some .int)) (hlk : meth.locks = false) (hK : gK D (tyA cA) s) (hA : ∀ q : Nat, s.heap.size ≤ q → A q) : ∀ n : Nat, ∀ (ls : Array Slot) (H : Heap) (locs : List Loc) (x1 : Int32) (x2 : Int32) (le : Le), p_Le_findWaiting_4 te Q n x1 x2 le → lv_has ls 3 [(0, .ref (ad 28)), (1, .int x1), (2, .int x2)] → gIn D A s (wC ad cA) (te, ru, au, re, la, sp, le) H locs → W p l e rm_Le_findWaiting s m args below meth c H locs 0 0 (qI D (tyA cA) A (wC ad cA) (fun u : Le => (te, ru, au, re, la, sp, u)) (fun (r : Int32) (u : Le) => Q r u) below args s) (F0 m 4 ls []) := by
  intro n
  induction n with
  | zero =>
    intro ls H locs x1 x2 le h
    exact (show False from h).elim
  | succ n ih =>
    intro ls H locs x1 x2 le h hl I
    refine lv_iload_n S.1 S.2.1 d_Le_findWaiting_4 rfl (lv_at hl 2 rfl) ?_
    refine lv_aload_n S.1 S.2.1 d_Le_findWaiting_5 rfl (lv_at hl 0 rfl) ?_
    refine g_Le_terms S hK I.1 d_Le_findWaiting_6 ?_
    refine callV_roi S (c_Te_count l D ad cA _ _ _ _ _ _ _ _ h) (mkV S.2.2.2.2 ml_Le_43 k_Te_count rfl rfl ⟨Nat.le_of_ble_eq_true rfl, Nat.le_of_ble_eq_true rfl⟩) (rv_Te hK I.1) hK I.1 hl.1 rfl rfl (Nat.le_of_ble_eq_true rfl) d_Le_findWaiting_9 ⟨Nat.zero_le _, Nat.zero_le _⟩ (fun r9 h => ?_)
    refine lv_icmp_ge (tgt := 49) S.1 S.2.1 d_Le_findWaiting_12 (by decide) (fun hc => ?_) (fun hc => ?_)
    · have h := h.1 hc
      refine lv_iload_n S.1 S.2.1 d_Le_findWaiting_49 rfl (lv_at hl 1 rfl) ?_
      exact ret_rwi S hr hlk hK I h d_Le_findWaiting_50
    · have h := h.2 hc
      refine lv_aload_n S.1 S.2.1 d_Le_findWaiting_15 rfl (lv_at hl 0 rfl) ?_
      refine g_Le_counted S hK I.1 d_Le_findWaiting_16 ?_
      refine lv_iload_n S.1 S.2.1 d_Le_findWaiting_19 rfl (lv_at hl 2 rfl) ?_
      obtain ⟨hin, h⟩ := h
      refine a_Le_counted S hK I.1 hin d_Le_findWaiting_20 ?_
      refine lv_if_eq (tgt := 43) S.1 S.2.1 d_Le_findWaiting_21 (by decide) (fun hc => ?_) (fun hc => ?_)
      · have h := h.1 hc
        refine lv_iinc (k := 2) (v := x2 + (1 : Int32)) (lv' := [(2, .int (x2 + (1 : Int32))), (0, .ref (ad 28)), (1, .int x1)]) S.1 S.2.1 d_Le_findWaiting_43 hl rfl rfl (by decide) rfl (fun ls hl => ?_)
        refine lv_goto (tgt := 4) S.1 S.2.1 d_Le_findWaiting_46 (by decide) ?_
        exact ih _ _ _ _ _ _ h (lv_sub hl [1, 2, 0] rfl) I
      · have h := h.2 hc
        refine lv_aload_n S.1 S.2.1 d_Le_findWaiting_24 rfl (lv_at hl 0 rfl) ?_
        refine g_Le_expanded S hK I.1 d_Le_findWaiting_25 ?_
        refine lv_iload_n S.1 S.2.1 d_Le_findWaiting_28 rfl (lv_at hl 2 rfl) ?_
        obtain ⟨hin, h⟩ := h
        refine a_Le_expanded S hK I.1 hin d_Le_findWaiting_29 ?_
        refine lv_if_ne (tgt := 43) S.1 S.2.1 d_Le_findWaiting_30 (by decide) (fun hc => ?_) (fun hc => ?_)
        · have h := h.1 hc
          refine lv_iinc (k := 2) (v := x2 + (1 : Int32)) (lv' := [(2, .int (x2 + (1 : Int32))), (0, .ref (ad 28)), (1, .int x1)]) S.1 S.2.1 d_Le_findWaiting_43 hl rfl rfl (by decide) rfl (fun ls hl => ?_)
          refine lv_goto (tgt := 4) S.1 S.2.1 d_Le_findWaiting_46 (by decide) ?_
          exact ih _ _ _ _ _ _ h (lv_sub hl [1, 2, 0] rfl) I
        · have h := h.2 hc
          refine lv_aload_n S.1 S.2.1 d_Le_findWaiting_33 rfl (lv_at hl 0 rfl) ?_
          refine g_Le_waiting S hK I.1 d_Le_findWaiting_34 ?_
          refine lv_iload_n S.1 S.2.1 d_Le_findWaiting_37 rfl (lv_at hl 1 rfl) ?_
          refine lv_iinc (k := 1) (v := x1 + (1 : Int32)) (lv' := [(1, .int (x1 + (1 : Int32))), (0, .ref (ad 28)), (2, .int x2)]) S.1 S.2.1 d_Le_findWaiting_38 hl rfl rfl (by decide) rfl (fun ls hl => ?_)
          refine lv_iload_n S.1 S.2.1 d_Le_findWaiting_41 rfl (lv_at hl 2 rfl) ?_
          obtain ⟨hin, h⟩ := h
          refine s_Le_waiting S hK I hin d_Le_findWaiting_42 (fun H locs le42 ele42 I => ?_)
          have h := h le42 ele42
          refine lv_iinc (k := 2) (v := x2 + (1 : Int32)) (lv' := [(2, .int (x2 + (1 : Int32))), (1, .int (x1 + (1 : Int32))), (0, .ref (ad 28))]) S.1 S.2.1 d_Le_findWaiting_43 hl rfl rfl (by decide) rfl (fun ls hl => ?_)
          refine lv_goto (tgt := 4) S.1 S.2.1 d_Le_findWaiting_46 (by decide) ?_
          exact ih _ _ _ _ _ _ h (lv_sub hl [2, 1, 0] rfl) I
set_option maxHeartbeats 4000000 in
set_option maxRecDepth 100000 in
theorem c_Le_findWaiting (l : Launch) (D : va_G) (ad : Nat → Nat) (cA : ClassId × ClassId × ClassId) (te : Te) (ru : Ru) (au : Au) (re : Re) (la : La) (sp : Sp) (le : Le)  (Q : Int32 → Le → Prop) (h : p_Le_findWaiting  te le Q) : rwI l y_Le_findWaiting (wsOf y_Le_findWaiting b_Le_findWaiting 3 (some .int)) rm_Le_findWaiting D (tyA cA) (wC ad cA) [.ref (ad 28)] (te, ru, au, re, la, sp, le) (fun u : Le => (te, ru, au, re, la, sp, u)) (fun (r : Int32) (u : Le) => Q r u) := by
  refine rwI_of (by decide) (Nat.le_of_ble_eq_true rfl) ?_
  intro p e s m below meth c S hr hlk hK A hA I ls hl
  have hl : lv_has ls 3 [(0, .ref (ad 28))] := hl
  refine lv_iconst (v := (0 : Int32)) S.1 S.2.1 d_Le_findWaiting_0 rfl ?_
  refine lv_istore_n (lv' := [(1, .int (0 : Int32)), (0, .ref (ad 28))]) S.1 S.2.1 d_Le_findWaiting_1 rfl hl (by decide) rfl (fun ls hl => ?_)
  refine lv_iconst (v := (0 : Int32)) S.1 S.2.1 d_Le_findWaiting_2 rfl ?_
  refine lv_istore_n (lv' := [(2, .int (0 : Int32)), (1, .int (0 : Int32)), (0, .ref (ad 28))]) S.1 S.2.1 d_Le_findWaiting_3 rfl hl (by decide) rfl (fun ls hl => ?_)
  obtain ⟨n', h⟩ := h
  exact n_Le_findWaiting_4 S hr hlk hK hA n' _ _ _ _ _ _ h (lv_sub hl [2, 1, 0] rfl) I

set_option maxHeartbeats 4000000 in
set_option maxRecDepth 100000 in
theorem n_Ar_fillJ_coming_6 {p : Program} {l : Launch} {e : Env} {s : State} {m : MethodId} {args : Array Value} {below : List Frame} {meth : Method} {c : Code} {D : va_G} {A : Nat → Prop} {ad : Nat → Nat} {cA : ClassId × ClassId × ClassId} {te : Te} {ru : Ru} {au : Au} {re : Re} {la : La} {sp : Sp} {x1 : Int64} {Q : Le → Prop} (S : CallFix p m c b_Ar_fillJ 5 s args gtbl R_Ar) (hr : meth.sig.returnType = none) (hlk : meth.locks = false) (hK : gK D (tyA cA) s) (hA : ∀ q : Nat, s.heap.size ≤ q → A q) : ∀ n : Nat, ∀ (ls : Array Slot) (H : Heap) (locs : List Loc) (x3 : Int32) (x4 : Int32) (le : Le), p_Ar_fillJ_coming_6 x1 Q n x3 x4 le → lv_has ls 5 [(0, .ref (ad 34)), (1, .long x1), (3, .int x3), (4, .int x4)] → gIn D A s (wC ad cA) (te, ru, au, re, la, sp, le) H locs → W p l e rm_Ar_fillJ_coming s m args below meth c H locs 0 0 (qV D (tyA cA) A (wC ad cA) (fun u : Le => (te, ru, au, re, la, sp, u)) (fun u : Le => Q u) below args s) (F0 m 6 ls []) := by
  intro n
  induction n with
  | zero =>
    intro ls H locs x3 x4 le h
    exact (show False from h).elim
  | succ n ih =>
    intro ls H locs x3 x4 le h hl I
    refine lv_iload_n S.1 S.2.1 d_Ar_fillJ_6 rfl (lv_at hl 2 rfl) ?_
    refine lv_iload S.1 S.2.1 d_Ar_fillJ_7 (lv_at hl 3 rfl) ?_
    refine lv_icmp_ge (tgt := 22) S.1 S.2.1 d_Ar_fillJ_9 (by decide) (fun hc => ?_) (fun hc => ?_)
    · have h := h.1 hc
      exact ret_rwv S hr hlk hK I h d_Ar_fillJ_22
    · have h := h.2 hc
      refine lv_aload_n S.1 S.2.1 d_Ar_fillJ_12 rfl (lv_at hl 0 rfl) ?_
      refine lv_iload_n S.1 S.2.1 d_Ar_fillJ_13 rfl (lv_at hl 2 rfl) ?_
      refine lv_lload_n S.1 S.2.1 d_Ar_fillJ_14 rfl (lv_at hl 1 rfl) ?_
      obtain ⟨hin, h⟩ := h
      refine s_Le_coming S hK I hin d_Ar_fillJ_15 (fun H locs le15 ele15 I => ?_)
      have h := h le15 ele15
      refine lv_iinc (k := 2) (v := x3 + (1 : Int32)) (lv' := [(3, .int (x3 + (1 : Int32))), (0, .ref (ad 34)), (1, .long x1), (4, .int x4)]) S.1 S.2.1 d_Ar_fillJ_16 hl rfl rfl (by decide) rfl (fun ls hl => ?_)
      refine lv_goto (tgt := 6) S.1 S.2.1 d_Ar_fillJ_19 (by decide) ?_
      exact ih _ _ _ _ _ _ h (lv_sub hl [1, 2, 0, 3] rfl) I
set_option maxHeartbeats 4000000 in
set_option maxRecDepth 100000 in
theorem c_Ar_fillJ_coming (l : Launch) (D : va_G) (ad : Nat → Nat) (cA : ClassId × ClassId × ClassId) (te : Te) (ru : Ru) (au : Au) (re : Re) (la : La) (sp : Sp) (le : Le) (x1 : Int64) (Q : Le → Prop) (h : p_Ar_fillJ_coming x1 le Q) : rwV l y_Ar_fillJ (wsOf y_Ar_fillJ b_Ar_fillJ 5 none) rm_Ar_fillJ_coming D (tyA cA) (wC ad cA) [.ref (ad 34), .long x1] (te, ru, au, re, la, sp, le) (fun u : Le => (te, ru, au, re, la, sp, u)) (fun u : Le => Q u) := by
  refine rwV_of (by decide) (Nat.le_of_ble_eq_true rfl) ?_
  intro p e s m below meth c S hr hlk hK A hA I ls hl
  have hl : lv_has ls 5 [(0, .ref (ad 34)), (1, .long x1)] := hl
  refine lv_iconst (v := (0 : Int32)) S.1 S.2.1 d_Ar_fillJ_0 rfl ?_
  refine lv_istore_n (lv' := [(3, .int (0 : Int32)), (0, .ref (ad 34)), (1, .long x1)]) S.1 S.2.1 d_Ar_fillJ_1 rfl hl (by decide) rfl (fun ls hl => ?_)
  refine lv_aload_n S.1 S.2.1 d_Ar_fillJ_2 rfl (lv_at hl 1 rfl) ?_
  refine n_Le_coming S hK I.1 d_Ar_fillJ_3 ?_
  refine lv_istore (lv' := [(4, .int (7 : Int32)), (3, .int (0 : Int32)), (0, .ref (ad 34)), (1, .long x1)]) S.1 S.2.1 d_Ar_fillJ_4 hl (by decide) rfl (fun ls hl => ?_)
  obtain ⟨n', h⟩ := h
  exact n_Ar_fillJ_coming_6 S hr hlk hK hA n' _ _ _ _ _ _ h (lv_sub hl [2, 3, 1, 0] rfl) I

set_option maxHeartbeats 4000000 in
set_option maxRecDepth 100000 in
theorem c_Le_isIn_newest (l : Launch) (D : va_G) (ad : Nat → Nat) (cA : ClassId × ClassId × ClassId) (te : Te) (ru : Ru) (au : Au) (re : Re) (la : La) (sp : Sp) (le : Le) (x1 : Int32) (Q : Int32 → Prop) (h : p_Le_isIn_newest x1 le Q) : roI l y_Le_isIn (wsOf y_Le_isIn b_Le_isIn 2 (some .boolean)) rm_Le_isIn_newest D (tyA cA) (wC ad cA) [.ref (ad 33), .int x1] (te, ru, au, re, la, sp, le) Q := by
  refine roI_of (by decide) (Nat.le_of_ble_eq_true rfl) ?_
  intro p e s m below meth c S hr hlk hK hP ls hl
  have hl : lv_has ls 2 [(0, .ref (ad 33)), (1, .int x1)] := hl
  refine lv_aload_n S.1 S.2.1 d_Le_isIn_0 rfl (lv_at hl 0 rfl) ?_
  refine lv_iload_n S.1 S.2.1 d_Le_isIn_1 rfl (lv_at hl 1 rfl) ?_
  refine lv_bipush (v := (64 : Int32)) S.1 S.2.1 d_Le_isIn_2 rfl ?_
  refine lv_idiv S.1 S.2.1 d_Le_isIn_4 (by decide) ?_
  obtain ⟨hin, h⟩ := h
  refine a_Le_newest S hK hP hin d_Le_isIn_5 ?_
  refine lv_iload_n S.1 S.2.1 d_Le_isIn_6 rfl (lv_at hl 1 rfl) ?_
  refine lv_bipush (v := (64 : Int32)) S.1 S.2.1 d_Le_isIn_7 rfl ?_
  refine lv_irem S.1 S.2.1 d_Le_isIn_9 (by decide) ?_
  refine lv_lshr S.1 S.2.1 d_Le_isIn_10 rfl ?_
  refine lv_lconst (v := (1 : Int64)) S.1 S.2.1 d_Le_isIn_11 rfl ?_
  refine lv_land S.1 S.2.1 d_Le_isIn_12 ?_
  refine lv_lconst (v := (0 : Int64)) S.1 S.2.1 d_Le_isIn_13 rfl ?_
  refine W.lcmp S.1 S.2.1 d_Le_isIn_14 ?_
  refine lv_if_eq (tgt := 22) S.1 S.2.1 d_Le_isIn_15 (by decide) (fun hc => ?_) (fun hc => ?_)
  · have h := h.1 hc
    refine lv_iconst (v := (0 : Int32)) S.1 S.2.1 d_Le_isIn_22 rfl ?_
    exact ret_roz S hr hlk (by decide) h d_Le_isIn_23
  · have h := h.2 hc
    refine lv_iconst (v := (1 : Int32)) S.1 S.2.1 d_Le_isIn_18 rfl ?_
    refine lv_goto (tgt := 23) S.1 S.2.1 d_Le_isIn_19 (by decide) ?_
    exact ret_roz S hr hlk (by decide) h d_Le_isIn_23

set_option maxHeartbeats 4000000 in
set_option maxRecDepth 100000 in
theorem n_Le_goOn_74 {p : Program} {l : Launch} {e : Env} {s : State} {m : MethodId} {args : Array Value} {below : List Frame} {meth : Method} {c : Code} {D : va_G} {A : Nat → Prop} {ad : Nat → Nat} {cA : ClassId × ClassId × ClassId} {te : Te} {ru : Ru} {au : Au} {re : Re} {la : La} {sp : Sp} {Q : Le → Prop} (S : CallFix p m c b_Le_goOn 3 s args gtbl R_Le) (hr : meth.sig.returnType = none) (hlk : meth.locks = false) (hK : gK D (tyA cA) s) (hA : ∀ q : Nat, s.heap.size ≤ q → A q) : ∀ n : Nat, ∀ (ls : Array Slot) (H : Heap) (locs : List Loc) (x1 : Int32) (le : Le), p_Le_goOn_74 te Q n x1 le → lv_has ls 3 [(0, .ref (ad 28)), (1, .int x1)] → gIn D A s (wC ad cA) (te, ru, au, re, la, sp, le) H locs → W p l e rm_Le_goOn s m args below meth c H locs 0 0 (qV D (tyA cA) A (wC ad cA) (fun u : Le => (te, ru, au, re, la, sp, u)) (fun u : Le => Q u) below args s) (F0 m 74 ls []) := by
  intro n
  induction n with
  | zero =>
    intro ls H locs x1 le h
    exact (show False from h).elim
  | succ n ih =>
    intro ls H locs x1 le h hl I
    refine lv_iload_n S.1 S.2.1 d_Le_goOn_74 rfl (lv_at hl 1 rfl) ?_
    refine lv_bipush (v := (7 : Int32)) S.1 S.2.1 d_Le_goOn_75 rfl ?_
    refine lv_icmp_ge (tgt := 124) S.1 S.2.1 d_Le_goOn_77 (by decide) (fun hc => ?_) (fun hc => ?_)
    · have h := h.1 hc
      exact ret_rwv S hr hlk hK I h d_Le_goOn_124
    · have h := h.2 hc
      refine lv_aload_n S.1 S.2.1 d_Le_goOn_80 rfl (lv_at hl 0 rfl) ?_
      refine g_Le_newest S hK I.1 d_Le_goOn_81 ?_
      refine lv_iload_n S.1 S.2.1 d_Le_goOn_84 rfl (lv_at hl 1 rfl) ?_
      refine lv_aload_n S.1 S.2.1 d_Le_goOn_85 rfl (lv_at hl 0 rfl) ?_
      refine g_Le_coming S hK I.1 d_Le_goOn_86 ?_
      refine lv_iload_n S.1 S.2.1 d_Le_goOn_89 rfl (lv_at hl 1 rfl) ?_
      obtain ⟨hin, h⟩ := h
      refine a_Le_coming S hK I.1 hin d_Le_goOn_90 ?_
      refine lv_aload_n S.1 S.2.1 d_Le_goOn_91 rfl (lv_at hl 0 rfl) ?_
      refine g_Le_inLevels S hK I.1 d_Le_goOn_92 ?_
      refine lv_iload_n S.1 S.2.1 d_Le_goOn_95 rfl (lv_at hl 1 rfl) ?_
      obtain ⟨hin, h⟩ := h
      refine a_Le_inLevels S hK I.1 hin d_Le_goOn_96 ?_
      refine lv_ldc2 (v := (-1 : Int64)) S.1 S.2.1 S.2.2.2.1 (S.2.2.2.2 _ kn_Le_122) d_Le_goOn_97 ?_
      refine lv_lxor S.1 S.2.1 d_Le_goOn_100 ?_
      refine lv_land S.1 S.2.1 d_Le_goOn_101 ?_
      obtain ⟨hin, h⟩ := h
      refine s_Le_newest S hK I hin d_Le_goOn_102 (fun H locs le102 ele102 I => ?_)
      have h := h le102 ele102
      refine lv_aload_n S.1 S.2.1 d_Le_goOn_103 rfl (lv_at hl 0 rfl) ?_
      refine g_Le_inLevels S hK I.1 d_Le_goOn_104 ?_
      refine lv_iload_n S.1 S.2.1 d_Le_goOn_107 rfl (lv_at hl 1 rfl) ?_
      refine lv_dup2_11 S.1 S.2.1 d_Le_goOn_108 rfl rfl ?_
      obtain ⟨hin, h⟩ := h
      refine a_Le_inLevels S hK I.1 hin d_Le_goOn_109 ?_
      refine lv_aload_n S.1 S.2.1 d_Le_goOn_110 rfl (lv_at hl 0 rfl) ?_
      refine g_Le_newest S hK I.1 d_Le_goOn_111 ?_
      refine lv_iload_n S.1 S.2.1 d_Le_goOn_114 rfl (lv_at hl 1 rfl) ?_
      obtain ⟨hin, h⟩ := h
      refine a_Le_newest S hK I.1 hin d_Le_goOn_115 ?_
      refine lv_lor S.1 S.2.1 d_Le_goOn_116 ?_
      obtain ⟨hin, h⟩ := h
      refine s_Le_inLevels S hK I hin d_Le_goOn_117 (fun H locs le117 ele117 I => ?_)
      have h := h le117 ele117
      refine lv_iinc (k := 1) (v := x1 + (1 : Int32)) (lv' := [(1, .int (x1 + (1 : Int32))), (0, .ref (ad 28))]) S.1 S.2.1 d_Le_goOn_118 hl rfl rfl (by decide) rfl (fun ls hl => ?_)
      refine lv_goto (tgt := 74) S.1 S.2.1 d_Le_goOn_121 (by decide) ?_
      exact ih _ _ _ _ _ h (lv_sub hl [1, 0] rfl) I
set_option maxHeartbeats 4000000 in
set_option maxRecDepth 100000 in
theorem n_Le_goOn_23 {p : Program} {l : Launch} {e : Env} {s : State} {m : MethodId} {args : Array Value} {below : List Frame} {meth : Method} {c : Code} {D : va_G} {A : Nat → Prop} {ad : Nat → Nat} {cA : ClassId × ClassId × ClassId} {te : Te} {ru : Ru} {au : Au} {re : Re} {la : La} {sp : Sp} {Q : Le → Prop} (S : CallFix p m c b_Le_goOn 3 s args gtbl R_Le) (hr : meth.sig.returnType = none) (hlk : meth.locks = false) (hK : gK D (tyA cA) s) (hA : ∀ q : Nat, s.heap.size ≤ q → A q) {k10 : Int32 → Le → Prop} (hk10 : ∀ (ls : Array Slot) (H : Heap) (locs : List Loc) (x1 : Int32) (le : Le), k10 x1 le → lv_has ls 3 [(0, .ref (ad 28)), (1, .int x1)] → gIn D A s (wC ad cA) (te, ru, au, re, la, sp, le) H locs → W p l e rm_Le_goOn s m args below meth c H locs 0 0 (qV D (tyA cA) A (wC ad cA) (fun u : Le => (te, ru, au, re, la, sp, u)) (fun u : Le => Q u) below args s) (F0 m 10 ls [])) : ∀ n : Nat, ∀ (ls : Array Slot) (H : Heap) (locs : List Loc) (x1 : Int32) (x2 : Int32) (le : Le), p_Le_goOn_23 te Q k10 n x1 x2 le → lv_has ls 3 [(0, .ref (ad 28)), (1, .int x1), (2, .int x2)] → gIn D A s (wC ad cA) (te, ru, au, re, la, sp, le) H locs → W p l e rm_Le_goOn s m args below meth c H locs 0 0 (qV D (tyA cA) A (wC ad cA) (fun u : Le => (te, ru, au, re, la, sp, u)) (fun u : Le => Q u) below args s) (F0 m 23 ls []) := by
  intro n
  induction n with
  | zero =>
    intro ls H locs x1 x2 le h
    exact (show False from h).elim
  | succ n ih =>
    intro ls H locs x1 x2 le h hl I
    refine lv_iload_n S.1 S.2.1 d_Le_goOn_23 rfl (lv_at hl 2 rfl) ?_
    refine lv_bipush (v := (7 : Int32)) S.1 S.2.1 d_Le_goOn_24 rfl ?_
    refine lv_icmp_ge (tgt := 66) S.1 S.2.1 d_Le_goOn_26 (by decide) (fun hc => ?_) (fun hc => ?_)
    · have h := h.1 hc
      refine lv_iinc (k := 1) (v := x1 + (1 : Int32)) (lv' := [(1, .int (x1 + (1 : Int32))), (0, .ref (ad 28)), (2, .int x2)]) S.1 S.2.1 d_Le_goOn_66 hl rfl rfl (by decide) rfl (fun ls hl => ?_)
      refine lv_goto (tgt := 10) S.1 S.2.1 d_Le_goOn_69 (by decide) ?_
      exact hk10 _ _ _ _ _ h (lv_sub hl [1, 0] rfl) I
    · have h := h.2 hc
      refine lv_aload_n S.1 S.2.1 d_Le_goOn_29 rfl (lv_at hl 0 rfl) ?_
      refine g_Le_newest S hK I.1 d_Le_goOn_30 ?_
      refine lv_iload_n S.1 S.2.1 d_Le_goOn_33 rfl (lv_at hl 1 rfl) ?_
      refine callS_roi S (c_Le_isIn_newest l D ad cA _ _ _ _ _ _ _ _ _ h) (mkS S.2.2.2.2 ml_Le_57 k_Le_isIn rfl rfl ⟨Nat.le_of_ble_eq_true rfl, Nat.le_of_ble_eq_true rfl⟩) hK I.1 hl.1 rfl rfl (Nat.le_of_ble_eq_true rfl) d_Le_goOn_34 ⟨Nat.zero_le _, Nat.zero_le _⟩ (fun r34 h => ?_)
      refine lv_if_eq (tgt := 66) S.1 S.2.1 d_Le_goOn_37 (by decide) (fun hc => ?_) (fun hc => ?_)
      · have h := h.1 hc
        refine lv_iinc (k := 1) (v := x1 + (1 : Int32)) (lv' := [(1, .int (x1 + (1 : Int32))), (0, .ref (ad 28)), (2, .int x2)]) S.1 S.2.1 d_Le_goOn_66 hl rfl rfl (by decide) rfl (fun ls hl => ?_)
        refine lv_goto (tgt := 10) S.1 S.2.1 d_Le_goOn_69 (by decide) ?_
        exact hk10 _ _ _ _ _ h (lv_sub hl [1, 0] rfl) I
      · have h := h.2 hc
        refine lv_aload_n S.1 S.2.1 d_Le_goOn_40 rfl (lv_at hl 0 rfl) ?_
        refine g_Le_coming S hK I.1 d_Le_goOn_41 ?_
        refine lv_iload_n S.1 S.2.1 d_Le_goOn_44 rfl (lv_at hl 2 rfl) ?_
        refine lv_dup2_11 S.1 S.2.1 d_Le_goOn_45 rfl rfl ?_
        obtain ⟨hin, h⟩ := h
        refine a_Le_coming S hK I.1 hin d_Le_goOn_46 ?_
        refine lv_aload_n S.1 S.2.1 d_Le_goOn_47 rfl (lv_at hl 0 rfl) ?_
        refine g_Le_after S hK I.1 d_Le_goOn_48 ?_
        refine lv_iload_n S.1 S.2.1 d_Le_goOn_51 rfl (lv_at hl 1 rfl) ?_
        refine lv_bipush (v := (7 : Int32)) S.1 S.2.1 d_Le_goOn_52 rfl ?_
        refine lv_imul S.1 S.2.1 d_Le_goOn_54 ?_
        refine lv_iload_n S.1 S.2.1 d_Le_goOn_55 rfl (lv_at hl 2 rfl) ?_
        refine lv_iadd S.1 S.2.1 d_Le_goOn_56 ?_
        obtain ⟨hin, h⟩ := h
        refine a_Le_after S hK I.1 hin d_Le_goOn_57 ?_
        refine lv_lor S.1 S.2.1 d_Le_goOn_58 ?_
        obtain ⟨hin, h⟩ := h
        refine s_Le_coming S hK I hin d_Le_goOn_59 (fun H locs le59 ele59 I => ?_)
        have h := h le59 ele59
        refine lv_iinc (k := 2) (v := x2 + (1 : Int32)) (lv' := [(2, .int (x2 + (1 : Int32))), (0, .ref (ad 28)), (1, .int x1)]) S.1 S.2.1 d_Le_goOn_60 hl rfl rfl (by decide) rfl (fun ls hl => ?_)
        refine lv_goto (tgt := 23) S.1 S.2.1 d_Le_goOn_63 (by decide) ?_
        exact ih _ _ _ _ _ _ h (lv_sub hl [1, 2, 0] rfl) I
set_option maxHeartbeats 4000000 in
set_option maxRecDepth 100000 in
theorem n_Le_goOn_10 {p : Program} {l : Launch} {e : Env} {s : State} {m : MethodId} {args : Array Value} {below : List Frame} {meth : Method} {c : Code} {D : va_G} {A : Nat → Prop} {ad : Nat → Nat} {cA : ClassId × ClassId × ClassId} {te : Te} {ru : Ru} {au : Au} {re : Re} {la : La} {sp : Sp} {Q : Le → Prop} (S : CallFix p m c b_Le_goOn 3 s args gtbl R_Le) (hr : meth.sig.returnType = none) (hlk : meth.locks = false) (hK : gK D (tyA cA) s) (hA : ∀ q : Nat, s.heap.size ≤ q → A q) : ∀ n : Nat, ∀ (ls : Array Slot) (H : Heap) (locs : List Loc) (x1 : Int32) (le : Le), p_Le_goOn_10 te Q n x1 le → lv_has ls 3 [(0, .ref (ad 28)), (1, .int x1)] → gIn D A s (wC ad cA) (te, ru, au, re, la, sp, le) H locs → W p l e rm_Le_goOn s m args below meth c H locs 0 0 (qV D (tyA cA) A (wC ad cA) (fun u : Le => (te, ru, au, re, la, sp, u)) (fun u : Le => Q u) below args s) (F0 m 10 ls []) := by
  intro n
  induction n with
  | zero =>
    intro ls H locs x1 le h
    exact (show False from h).elim
  | succ n ih =>
    intro ls H locs x1 le h hl I
    refine lv_iload_n S.1 S.2.1 d_Le_goOn_10 rfl (lv_at hl 1 rfl) ?_
    refine lv_aload_n S.1 S.2.1 d_Le_goOn_11 rfl (lv_at hl 0 rfl) ?_
    refine g_Le_terms S hK I.1 d_Le_goOn_12 ?_
    refine callV_roi S (c_Te_count l D ad cA _ _ _ _ _ _ _ _ h) (mkV S.2.2.2.2 ml_Le_43 k_Te_count rfl rfl ⟨Nat.le_of_ble_eq_true rfl, Nat.le_of_ble_eq_true rfl⟩) (rv_Te hK I.1) hK I.1 hl.1 rfl rfl (Nat.le_of_ble_eq_true rfl) d_Le_goOn_15 ⟨Nat.zero_le _, Nat.zero_le _⟩ (fun r15 h => ?_)
    refine lv_icmp_ge (tgt := 72) S.1 S.2.1 d_Le_goOn_18 (by decide) (fun hc => ?_) (fun hc => ?_)
    · have h := h.1 hc
      refine lv_iconst (v := (0 : Int32)) S.1 S.2.1 d_Le_goOn_72 rfl ?_
      refine lv_istore_n (lv' := [(1, .int (0 : Int32)), (0, .ref (ad 28))]) S.1 S.2.1 d_Le_goOn_73 rfl hl (by decide) rfl (fun ls hl => ?_)
      obtain ⟨n', h⟩ := h
      exact n_Le_goOn_74 S hr hlk hK hA n' _ _ _ _ _ h (lv_sub hl [1, 0] rfl) I
    · have h := h.2 hc
      refine lv_iconst (v := (0 : Int32)) S.1 S.2.1 d_Le_goOn_21 rfl ?_
      refine lv_istore_n (lv' := [(2, .int (0 : Int32)), (0, .ref (ad 28)), (1, .int x1)]) S.1 S.2.1 d_Le_goOn_22 rfl hl (by decide) rfl (fun ls hl => ?_)
      obtain ⟨n', h⟩ := h
      exact n_Le_goOn_23 S hr hlk hK hA ih n' _ _ _ _ _ _ h (lv_sub hl [1, 2, 0] rfl) I
set_option maxHeartbeats 4000000 in
set_option maxRecDepth 100000 in
theorem c_Le_goOn (l : Launch) (D : va_G) (ad : Nat → Nat) (cA : ClassId × ClassId × ClassId) (te : Te) (ru : Ru) (au : Au) (re : Re) (la : La) (sp : Sp) (le : Le)  (Q : Le → Prop) (h : p_Le_goOn  te le Q) : rwV l y_Le_goOn (wsOf y_Le_goOn b_Le_goOn 3 none) rm_Le_goOn D (tyA cA) (wC ad cA) [.ref (ad 28)] (te, ru, au, re, la, sp, le) (fun u : Le => (te, ru, au, re, la, sp, u)) (fun u : Le => Q u) := by
  refine rwV_of (by decide) (Nat.le_of_ble_eq_true rfl) ?_
  intro p e s m below meth c S hr hlk hK A hA I ls hl
  have hl : lv_has ls 3 [(0, .ref (ad 28))] := hl
  refine lv_aload_n S.1 S.2.1 d_Le_goOn_0 rfl (lv_at hl 0 rfl) ?_
  refine g_Le_coming S hK I.1 d_Le_goOn_1 ?_
  refine lv_lconst (v := (0 : Int64)) S.1 S.2.1 d_Le_goOn_4 rfl ?_
  refine callS_rwv S (c_Ar_fillJ_coming l D ad cA _ _ _ _ _ _ _ _ _ h) (mkS S.2.2.2.2 ml_Le_73 k_Ar_fillJ rfl rfl ⟨Nat.le_of_ble_eq_true rfl, Nat.le_of_ble_eq_true rfl⟩) hK hA I hl.1 rfl rfl (Nat.le_of_ble_eq_true rfl) d_Le_goOn_5 ⟨Nat.zero_le _, Nat.zero_le _⟩ (fun le5 H locs h I => ?_)
  refine lv_iconst (v := (0 : Int32)) S.1 S.2.1 d_Le_goOn_8 rfl ?_
  refine lv_istore_n (lv' := [(1, .int (0 : Int32)), (0, .ref (ad 28))]) S.1 S.2.1 d_Le_goOn_9 rfl hl (by decide) rfl (fun ls hl => ?_)
  obtain ⟨n', h⟩ := h
  exact n_Le_goOn_10 S hr hlk hK hA n' _ _ _ _ _ h (lv_sub hl [1, 0] rfl) I

set_option maxHeartbeats 4000000 in
set_option maxRecDepth 100000 in
theorem c_Le_findCounted (l : Launch) (D : va_G) (ad : Nat → Nat) (cA : ClassId × ClassId × ClassId) (te : Te) (ru : Ru) (au : Au) (re : Re) (la : La) (sp : Sp) (le : Le) (x1 : Int32) (x2 : Int32) (x3 : Int32) (Q : Int32 → Te → Le → Prop) (h : p_Le_findCounted x1 x2 x3 te le Q) : rwI l y_Le_findCounted (wsOf y_Le_findCounted b_Le_findCounted 6 (some .int)) rm_Le_findCounted D (tyA cA) (wC ad cA) [.ref (ad 28), .int x1, .int x2, .int x3] (te, ru, au, re, la, sp, le) (fun u : Te × Le => (u.1, ru, au, re, la, sp, u.2)) (fun (r : Int32) (u : Te × Le) => Q r u.1 u.2) := by
  refine rwI_of (by decide) (Nat.le_of_ble_eq_true rfl) ?_
  intro p e s m below meth c S hr hlk hK A hA I ls hl
  have hl : lv_has ls 6 [(0, .ref (ad 28)), (1, .int x1), (2, .int x2), (3, .int x3)] := hl
  refine lv_aload_n S.1 S.2.1 d_Le_findCounted_0 rfl (lv_at hl 0 rfl) ?_
  refine g_Le_terms S hK I.1 d_Le_findCounted_1 ?_
  refine lv_iload_n S.1 S.2.1 d_Le_findCounted_4 rfl (lv_at hl 1 rfl) ?_
  refine lv_iload_n S.1 S.2.1 d_Le_findCounted_5 rfl (lv_at hl 2 rfl) ?_
  refine lv_iload_n S.1 S.2.1 d_Le_findCounted_6 rfl (lv_at hl 3 rfl) ?_
  refine callV_roi S (c_Te_find l D ad cA _ _ _ _ _ _ _ _ _ _ _ h) (mkV S.2.2.2.2 ml_Le_116 k_Te_find rfl rfl ⟨Nat.le_of_ble_eq_true rfl, Nat.le_of_ble_eq_true rfl⟩) (rv_Te hK I.1) hK I.1 hl.1 rfl rfl (Nat.le_of_ble_eq_true rfl) d_Le_findCounted_7 ⟨Nat.zero_le _, Nat.zero_le _⟩ (fun r7 h => ?_)
  refine lv_istore (lv' := [(4, .int r7), (0, .ref (ad 28)), (1, .int x1), (2, .int x2), (3, .int x3)]) S.1 S.2.1 d_Le_findCounted_10 hl (by decide) rfl (fun ls hl => ?_)
  refine lv_iload S.1 S.2.1 d_Le_findCounted_12 (lv_at hl 0 rfl) ?_
  refine lv_iconst (v := (-1 : Int32)) S.1 S.2.1 d_Le_findCounted_14 rfl ?_
  refine lv_icmp_eq (tgt := 27) S.1 S.2.1 d_Le_findCounted_15 (by decide) (fun hc => ?_) (fun hc => ?_)
  · have h := h.1 hc
    refine lv_aload_n S.1 S.2.1 d_Le_findCounted_27 rfl (lv_at hl 1 rfl) ?_
    refine lv_dup S.1 S.2.1 d_Le_findCounted_28 rfl ?_
    refine g_Le_countedTerms S hK I.1 d_Le_findCounted_29 ?_
    refine lv_iconst (v := (1 : Int32)) S.1 S.2.1 d_Le_findCounted_32 rfl ?_
    refine lv_iadd S.1 S.2.1 d_Le_findCounted_33 ?_
    refine q_Le_countedTerms S hK I d_Le_findCounted_34 (fun H locs le34 ele34 I => ?_)
    have h := h le34 ele34
    refine lv_aload_n S.1 S.2.1 d_Le_findCounted_37 rfl (lv_at hl 1 rfl) ?_
    refine g_Le_countedTerms S hK I.1 d_Le_findCounted_38 ?_
    refine lv_sipush (v := (400 : Int32)) S.1 S.2.1 d_Le_findCounted_41 rfl ?_
    refine lv_icmp_le (tgt := 49) S.1 S.2.1 d_Le_findCounted_44 (by decide) (fun hc => ?_) (fun hc => ?_)
    · have h := h.1 hc
      refine lv_aload_n S.1 S.2.1 d_Le_findCounted_49 rfl (lv_at hl 1 rfl) ?_
      refine g_Le_terms S hK I.1 d_Le_findCounted_50 ?_
      refine lv_iload_n S.1 S.2.1 d_Le_findCounted_53 rfl (lv_at hl 2 rfl) ?_
      refine lv_iload_n S.1 S.2.1 d_Le_findCounted_54 rfl (lv_at hl 3 rfl) ?_
      refine lv_iload_n S.1 S.2.1 d_Le_findCounted_55 rfl (lv_at hl 4 rfl) ?_
      refine callV_rwi S (c_Te_append l D ad cA _ _ _ _ _ _ _ _ _ _ _ h) (mkV S.2.2.2.2 ml_Le_119 k_Te_append rfl rfl ⟨Nat.le_of_ble_eq_true rfl, Nat.le_of_ble_eq_true rfl⟩) (rv_Te hK I.1) hK hA I hl.1 rfl rfl (Nat.le_of_ble_eq_true rfl) d_Le_findCounted_56 ⟨Nat.zero_le _, Nat.zero_le _⟩ (fun r56 te56 H locs h I => ?_)
      refine lv_istore (lv' := [(5, .int r56), (4, .int r7), (0, .ref (ad 28)), (1, .int x1), (2, .int x2), (3, .int x3)]) S.1 S.2.1 d_Le_findCounted_59 hl (by decide) rfl (fun ls hl => ?_)
      refine lv_iload S.1 S.2.1 d_Le_findCounted_61 (lv_at hl 0 rfl) ?_
      refine lv_iconst (v := (-1 : Int32)) S.1 S.2.1 d_Le_findCounted_63 rfl ?_
      refine lv_icmp_eq (tgt := 75) S.1 S.2.1 d_Le_findCounted_64 (by decide) (fun hc => ?_) (fun hc => ?_)
      · have h := h.1 hc
        refine lv_iload S.1 S.2.1 d_Le_findCounted_75 (lv_at hl 0 rfl) ?_
        exact ret_rwi (u := (_, _)) S hr hlk hK I h d_Le_findCounted_77
      · have h := h.2 hc
        refine lv_aload_n S.1 S.2.1 d_Le_findCounted_67 rfl (lv_at hl 2 rfl) ?_
        refine g_Le_counted S hK I.1 d_Le_findCounted_68 ?_
        refine lv_iload S.1 S.2.1 d_Le_findCounted_71 (lv_at hl 0 rfl) ?_
        refine lv_iconst (v := (1 : Int32)) S.1 S.2.1 d_Le_findCounted_73 rfl ?_
        obtain ⟨hin, h⟩ := h
        refine s_Le_counted S hK I hin d_Le_findCounted_74 (fun H locs le74 ele74 I => ?_)
        have h := h le74 ele74
        refine lv_iload S.1 S.2.1 d_Le_findCounted_75 (lv_at hl 0 rfl) ?_
        exact ret_rwi (u := (_, _)) S hr hlk hK I h d_Le_findCounted_77
    · have h := h.2 hc
      refine lv_iconst (v := (-1 : Int32)) S.1 S.2.1 d_Le_findCounted_47 rfl ?_
      exact ret_rwi (u := (_, _)) S hr hlk hK I h d_Le_findCounted_48
  · have h := h.2 hc
    refine lv_aload_n S.1 S.2.1 d_Le_findCounted_18 rfl (lv_at hl 1 rfl) ?_
    refine lv_iload S.1 S.2.1 d_Le_findCounted_19 (lv_at hl 0 rfl) ?_
    refine callV_rwv S (c_Le_countWithParts l D ad cA _ _ _ _ _ _ _ _ _ h) (mkV S.2.2.2.2 ml_Le_79 k_Le_countWithParts rfl rfl ⟨Nat.le_of_ble_eq_true rfl, Nat.le_of_ble_eq_true rfl⟩) (rv_Le hK I.1) hK hA I hl.1 rfl rfl (Nat.le_of_ble_eq_true rfl) d_Le_findCounted_21 ⟨Nat.zero_le _, Nat.zero_le _⟩ (fun le21 H locs h I => ?_)
    refine lv_iload S.1 S.2.1 d_Le_findCounted_24 (lv_at hl 0 rfl) ?_
    exact ret_rwi (u := (_, _)) S hr hlk hK I h d_Le_findCounted_26

set_option maxHeartbeats 4000000 in
set_option maxRecDepth 100000 in
theorem c_Le_include_after (l : Launch) (D : va_G) (ad : Nat → Nat) (cA : ClassId × ClassId × ClassId) (te : Te) (ru : Ru) (au : Au) (re : Re) (la : La) (sp : Sp) (le : Le) (x1 : Int32) (x2 : Int32) (Q : Le → Prop) (h : p_Le_include_after x1 x2 le Q) : rwV l y_Le_include (wsOf y_Le_include b_Le_include 3 none) rm_Le_include_after D (tyA cA) (wC ad cA) [.ref (ad 29), .int x1, .int x2] (te, ru, au, re, la, sp, le) (fun u : Le => (te, ru, au, re, la, sp, u)) (fun u : Le => Q u) := by
  refine rwV_of (by decide) (Nat.le_of_ble_eq_true rfl) ?_
  intro p e s m below meth c S hr hlk hK A hA I ls hl
  have hl : lv_has ls 3 [(0, .ref (ad 29)), (1, .int x1), (2, .int x2)] := hl
  refine lv_iload_n S.1 S.2.1 d_Le_include_0 rfl (lv_at hl 2 rfl) ?_
  refine lv_iconst (v := (-1 : Int32)) S.1 S.2.1 d_Le_include_1 rfl ?_
  refine lv_icmp_eq (tgt := 22) S.1 S.2.1 d_Le_include_2 (by decide) (fun hc => ?_) (fun hc => ?_)
  · have h := h.1 hc
    exact ret_rwv S hr hlk hK I h d_Le_include_22
  · have h := h.2 hc
    refine lv_aload_n S.1 S.2.1 d_Le_include_5 rfl (lv_at hl 0 rfl) ?_
    refine lv_iload_n S.1 S.2.1 d_Le_include_6 rfl (lv_at hl 1 rfl) ?_
    refine lv_iload_n S.1 S.2.1 d_Le_include_7 rfl (lv_at hl 2 rfl) ?_
    refine lv_bipush (v := (64 : Int32)) S.1 S.2.1 d_Le_include_8 rfl ?_
    refine lv_idiv S.1 S.2.1 d_Le_include_10 (by decide) ?_
    refine lv_iadd S.1 S.2.1 d_Le_include_11 ?_
    refine lv_dup2_11 S.1 S.2.1 d_Le_include_12 rfl rfl ?_
    obtain ⟨hin, h⟩ := h
    refine a_Le_after S hK I.1 hin d_Le_include_13 ?_
    refine lv_lconst (v := (1 : Int64)) S.1 S.2.1 d_Le_include_14 rfl ?_
    refine lv_iload_n S.1 S.2.1 d_Le_include_15 rfl (lv_at hl 2 rfl) ?_
    refine lv_bipush (v := (64 : Int32)) S.1 S.2.1 d_Le_include_16 rfl ?_
    refine lv_irem S.1 S.2.1 d_Le_include_18 (by decide) ?_
    refine lv_lshl S.1 S.2.1 d_Le_include_19 rfl ?_
    refine lv_lor S.1 S.2.1 d_Le_include_20 ?_
    obtain ⟨hin, h⟩ := h
    refine s_Le_after S hK I hin d_Le_include_21 (fun H locs le21 ele21 I => ?_)
    have h := h le21 ele21
    exact ret_rwv S hr hlk hK I h d_Le_include_22

set_option maxHeartbeats 4000000 in
set_option maxRecDepth 100000 in
theorem n_Le_stepInPart_122 {p : Program} {l : Launch} {e : Env} {s : State} {m : MethodId} {args : Array Value} {below : List Frame} {meth : Method} {c : Code} {D : va_G} {A : Nat → Prop} {ad : Nat → Nat} {cA : ClassId × ClassId × ClassId} {ru : Ru} {au : Au} {re : Re} {la : La} {sp : Sp} {x1 : Int32} {x2 : Int32} {x3 : Int32} {Q : Te → Le → Prop} (S : CallFix p m c b_Le_stepInPart 9 s args gtbl R_Le) (hr : meth.sig.returnType = none) (hlk : meth.locks = false) (hK : gK D (tyA cA) s) (hA : ∀ q : Nat, s.heap.size ≤ q → A q) {k3 : Int32 → Te → Le → Prop} (hk3 : ∀ (ls : Array Slot) (H : Heap) (locs : List Loc) (x4 : Int32) (te : Te) (le : Le), k3 x4 te le → lv_has ls 9 [(0, .ref (ad 28)), (1, .int x1), (2, .int x2), (3, .int x3), (4, .int x4)] → gIn D A s (wC ad cA) (te, ru, au, re, la, sp, le) H locs → W p l e rm_Le_stepInPart s m args below meth c H locs 0 0 (qV D (tyA cA) A (wC ad cA) (fun u : Te × Le => (u.1, ru, au, re, la, sp, u.2)) (fun u : Te × Le => Q u.1 u.2) below args s) (F0 m 3 ls [])) {k27 : Int32 → Int64 → Int32 → Te → Le → Prop} (hk27 : ∀ (ls : Array Slot) (H : Heap) (locs : List Loc) (x4 : Int32) (x5 : Int64) (x7 : Int32) (te : Te) (le : Le), k27 x4 x5 x7 te le → lv_has ls 9 [(0, .ref (ad 28)), (1, .int x1), (2, .int x2), (3, .int x3), (4, .int x4), (5, .long x5), (7, .int x7)] → gIn D A s (wC ad cA) (te, ru, au, re, la, sp, le) H locs → W p l e rm_Le_stepInPart s m args below meth c H locs 0 0 (qV D (tyA cA) A (wC ad cA) (fun u : Te × Le => (u.1, ru, au, re, la, sp, u.2)) (fun u : Te × Le => Q u.1 u.2) below args s) (F0 m 27 ls [])) : ∀ (ls : Array Slot) (H : Heap) (locs : List Loc) (x4 : Int32) (x5 : Int64) (x7 : Int32) (te : Te) (le : Le), p_Le_stepInPart_122 x1 x2 x3 Q k3 k27 x4 x5 x7 te le → lv_has ls 9 [(0, .ref (ad 28)), (1, .int x1), (2, .int x2), (3, .int x3), (4, .int x4), (5, .long x5), (7, .int x7)] → gIn D A s (wC ad cA) (te, ru, au, re, la, sp, le) H locs → W p l e rm_Le_stepInPart s m args below meth c H locs 0 0 (qV D (tyA cA) A (wC ad cA) (fun u : Te × Le => (u.1, ru, au, re, la, sp, u.2)) (fun u : Te × Le => Q u.1 u.2) below args s) (F0 m 122 ls []) := by
  intro ls H locs x4 x5 x7 te le h hl I
  refine lv_lload S.1 S.2.1 d_Le_stepInPart_122 (lv_at hl 5 rfl) ?_
  refine lv_iconst (v := (1 : Int32)) S.1 S.2.1 d_Le_stepInPart_124 rfl ?_
  refine lv_lushr S.1 S.2.1 d_Le_stepInPart_125 rfl ?_
  refine lv_lstore (lv' := [(5, .long ((x5.toUInt64 >>> ((1 : Int32).toInt64.toUInt64 &&& Int64.toUInt64 63)).toInt64)), (0, .ref (ad 28)), (1, .int x1), (2, .int x2), (3, .int x3), (4, .int x4), (7, .int x7)]) S.1 S.2.1 d_Le_stepInPart_126 hl (by decide) rfl (fun ls hl => ?_)
  refine lv_iinc (k := 6) (v := x7 + (1 : Int32)) (lv' := [(7, .int (x7 + (1 : Int32))), (5, .long ((x5.toUInt64 >>> ((1 : Int32).toInt64.toUInt64 &&& Int64.toUInt64 63)).toInt64)), (0, .ref (ad 28)), (1, .int x1), (2, .int x2), (3, .int x3), (4, .int x4)]) S.1 S.2.1 d_Le_stepInPart_128 hl rfl rfl (by decide) rfl (fun ls hl => ?_)
  refine lv_goto (tgt := 27) S.1 S.2.1 d_Le_stepInPart_131 (by decide) ?_
  exact hk27 _ _ _ _ _ _ _ _ h (lv_sub hl [2, 3, 4, 5, 6, 1, 0] rfl) I
set_option maxHeartbeats 4000000 in
set_option maxRecDepth 100000 in
theorem n_Le_stepInPart_119 {p : Program} {l : Launch} {e : Env} {s : State} {m : MethodId} {args : Array Value} {below : List Frame} {meth : Method} {c : Code} {D : va_G} {A : Nat → Prop} {ad : Nat → Nat} {cA : ClassId × ClassId × ClassId} {ru : Ru} {au : Au} {re : Re} {la : La} {sp : Sp} {x1 : Int32} {x2 : Int32} {x3 : Int32} {Q : Te → Le → Prop} (S : CallFix p m c b_Le_stepInPart 9 s args gtbl R_Le) (hr : meth.sig.returnType = none) (hlk : meth.locks = false) (hK : gK D (tyA cA) s) (hA : ∀ q : Nat, s.heap.size ≤ q → A q) {k3 : Int32 → Te → Le → Prop} (hk3 : ∀ (ls : Array Slot) (H : Heap) (locs : List Loc) (x4 : Int32) (te : Te) (le : Le), k3 x4 te le → lv_has ls 9 [(0, .ref (ad 28)), (1, .int x1), (2, .int x2), (3, .int x3), (4, .int x4)] → gIn D A s (wC ad cA) (te, ru, au, re, la, sp, le) H locs → W p l e rm_Le_stepInPart s m args below meth c H locs 0 0 (qV D (tyA cA) A (wC ad cA) (fun u : Te × Le => (u.1, ru, au, re, la, sp, u.2)) (fun u : Te × Le => Q u.1 u.2) below args s) (F0 m 3 ls [])) {k27 : Int32 → Int64 → Int32 → Te → Le → Prop} (hk27 : ∀ (ls : Array Slot) (H : Heap) (locs : List Loc) (x4 : Int32) (x5 : Int64) (x7 : Int32) (te : Te) (le : Le), k27 x4 x5 x7 te le → lv_has ls 9 [(0, .ref (ad 28)), (1, .int x1), (2, .int x2), (3, .int x3), (4, .int x4), (5, .long x5), (7, .int x7)] → gIn D A s (wC ad cA) (te, ru, au, re, la, sp, le) H locs → W p l e rm_Le_stepInPart s m args below meth c H locs 0 0 (qV D (tyA cA) A (wC ad cA) (fun u : Te × Le => (u.1, ru, au, re, la, sp, u.2)) (fun u : Te × Le => Q u.1 u.2) below args s) (F0 m 27 ls [])) : ∀ (ls : Array Slot) (H : Heap) (locs : List Loc) (x4 : Int32) (x5 : Int64) (x7 : Int32) (y0 : Int32) (y1 : Int32) (te : Te) (le : Le), p_Le_stepInPart_119 x1 x2 x3 Q k3 k27 x4 x5 x7 y0 y1 te le → lv_has ls 9 [(0, .ref (ad 28)), (1, .int x1), (2, .int x2), (3, .int x3), (4, .int x4), (5, .long x5), (7, .int x7)] → gIn D A s (wC ad cA) (te, ru, au, re, la, sp, le) H locs → W p l e rm_Le_stepInPart s m args below meth c H locs 0 0 (qV D (tyA cA) A (wC ad cA) (fun u : Te × Le => (u.1, ru, au, re, la, sp, u.2)) (fun u : Te × Le => Q u.1 u.2) below args s) (F0 m 119 ls [.int y0, .int y1, .ref (ad 29)]) := by
  intro ls H locs x4 x5 x7 y0 y1 te le h hl I
  refine callS_rwv S (c_Le_include_after l D ad cA _ _ _ _ _ _ _ _ _ _ h) (mkS S.2.2.2.2 ml_Le_82 k_Le_include rfl rfl ⟨Nat.le_of_ble_eq_true rfl, Nat.le_of_ble_eq_true rfl⟩) hK hA I hl.1 rfl rfl (Nat.le_of_ble_eq_true rfl) d_Le_stepInPart_119 ⟨Nat.zero_le _, Nat.zero_le _⟩ (fun le119 H locs h I => ?_)
  exact n_Le_stepInPart_122 S hr hlk hK hA hk3 hk27 _ _ _ _ _ _ _ _ h (lv_sub hl [0, 1, 2, 3, 4, 5, 6] rfl) I
set_option maxHeartbeats 4000000 in
set_option maxRecDepth 100000 in
theorem n_Le_stepInPart_27 {p : Program} {l : Launch} {e : Env} {s : State} {m : MethodId} {args : Array Value} {below : List Frame} {meth : Method} {c : Code} {D : va_G} {A : Nat → Prop} {ad : Nat → Nat} {cA : ClassId × ClassId × ClassId} {ru : Ru} {au : Au} {re : Re} {la : La} {sp : Sp} {x1 : Int32} {x2 : Int32} {x3 : Int32} {Q : Te → Le → Prop} (S : CallFix p m c b_Le_stepInPart 9 s args gtbl R_Le) (hr : meth.sig.returnType = none) (hlk : meth.locks = false) (hK : gK D (tyA cA) s) (hA : ∀ q : Nat, s.heap.size ≤ q → A q) {k3 : Int32 → Te → Le → Prop} (hk3 : ∀ (ls : Array Slot) (H : Heap) (locs : List Loc) (x4 : Int32) (te : Te) (le : Le), k3 x4 te le → lv_has ls 9 [(0, .ref (ad 28)), (1, .int x1), (2, .int x2), (3, .int x3), (4, .int x4)] → gIn D A s (wC ad cA) (te, ru, au, re, la, sp, le) H locs → W p l e rm_Le_stepInPart s m args below meth c H locs 0 0 (qV D (tyA cA) A (wC ad cA) (fun u : Te × Le => (u.1, ru, au, re, la, sp, u.2)) (fun u : Te × Le => Q u.1 u.2) below args s) (F0 m 3 ls [])) : ∀ n : Nat, ∀ (ls : Array Slot) (H : Heap) (locs : List Loc) (x4 : Int32) (x5 : Int64) (x7 : Int32) (te : Te) (le : Le), p_Le_stepInPart_27 x1 x2 x3 Q k3 n x4 x5 x7 te le → lv_has ls 9 [(0, .ref (ad 28)), (1, .int x1), (2, .int x2), (3, .int x3), (4, .int x4), (5, .long x5), (7, .int x7)] → gIn D A s (wC ad cA) (te, ru, au, re, la, sp, le) H locs → W p l e rm_Le_stepInPart s m args below meth c H locs 0 0 (qV D (tyA cA) A (wC ad cA) (fun u : Te × Le => (u.1, ru, au, re, la, sp, u.2)) (fun u : Te × Le => Q u.1 u.2) below args s) (F0 m 27 ls []) := by
  intro n
  induction n with
  | zero =>
    intro ls H locs x4 x5 x7 te le h
    exact (show False from h).elim
  | succ n ih =>
    intro ls H locs x4 x5 x7 te le h hl I
    refine lv_iload S.1 S.2.1 d_Le_stepInPart_27 (lv_at hl 6 rfl) ?_
    refine lv_bipush (v := (64 : Int32)) S.1 S.2.1 d_Le_stepInPart_29 rfl ?_
    refine lv_icmp_ge (tgt := 134) S.1 S.2.1 d_Le_stepInPart_31 (by decide) (fun hc => ?_) (fun hc => ?_)
    · have h := h.1 hc
      refine lv_iinc (k := 4) (v := x4 + (1 : Int32)) (lv' := [(4, .int (x4 + (1 : Int32))), (0, .ref (ad 28)), (1, .int x1), (2, .int x2), (3, .int x3), (5, .long x5), (7, .int x7)]) S.1 S.2.1 d_Le_stepInPart_134 hl rfl rfl (by decide) rfl (fun ls hl => ?_)
      refine lv_goto (tgt := 3) S.1 S.2.1 d_Le_stepInPart_137 (by decide) ?_
      exact hk3 _ _ _ _ _ _ h (lv_sub hl [1, 2, 3, 4, 0] rfl) I
    · have h := h.2 hc
      refine lv_lload S.1 S.2.1 d_Le_stepInPart_34 (lv_at hl 5 rfl) ?_
      refine lv_lconst (v := (0 : Int64)) S.1 S.2.1 d_Le_stepInPart_36 rfl ?_
      refine W.lcmp S.1 S.2.1 d_Le_stepInPart_37 ?_
      refine lv_if_eq (tgt := 134) S.1 S.2.1 d_Le_stepInPart_38 (by decide) (fun hc => ?_) (fun hc => ?_)
      · have h := h.1 hc
        refine lv_iinc (k := 4) (v := x4 + (1 : Int32)) (lv' := [(4, .int (x4 + (1 : Int32))), (0, .ref (ad 28)), (1, .int x1), (2, .int x2), (3, .int x3), (5, .long x5), (7, .int x7)]) S.1 S.2.1 d_Le_stepInPart_134 hl rfl rfl (by decide) rfl (fun ls hl => ?_)
        refine lv_goto (tgt := 3) S.1 S.2.1 d_Le_stepInPart_137 (by decide) ?_
        exact hk3 _ _ _ _ _ _ h (lv_sub hl [1, 2, 3, 4, 0] rfl) I
      · have h := h.2 hc
        refine lv_lload S.1 S.2.1 d_Le_stepInPart_41 (lv_at hl 5 rfl) ?_
        refine lv_lconst (v := (1 : Int64)) S.1 S.2.1 d_Le_stepInPart_43 rfl ?_
        refine lv_land S.1 S.2.1 d_Le_stepInPart_44 ?_
        refine lv_lconst (v := (0 : Int64)) S.1 S.2.1 d_Le_stepInPart_45 rfl ?_
        refine W.lcmp S.1 S.2.1 d_Le_stepInPart_46 ?_
        refine lv_if_eq (tgt := 122) S.1 S.2.1 d_Le_stepInPart_47 (by decide) (fun hc => ?_) (fun hc => ?_)
        · have h := h.1 hc
          exact n_Le_stepInPart_122 S hr hlk hK hA hk3 ih _ _ _ _ _ _ _ _ h (lv_sub hl [0, 1, 2, 3, 4, 5, 6] rfl) I
        · have h := h.2 hc
          refine lv_iload S.1 S.2.1 d_Le_stepInPart_50 (lv_at hl 4 rfl) ?_
          refine lv_bipush (v := (64 : Int32)) S.1 S.2.1 d_Le_stepInPart_52 rfl ?_
          refine lv_imul S.1 S.2.1 d_Le_stepInPart_54 ?_
          refine lv_iload S.1 S.2.1 d_Le_stepInPart_55 (lv_at hl 6 rfl) ?_
          refine lv_iadd S.1 S.2.1 d_Le_stepInPart_57 ?_
          refine lv_istore (lv' := [(8, .int ((x4 * (64 : Int32)) + x7)), (0, .ref (ad 28)), (1, .int x1), (2, .int x2), (3, .int x3), (4, .int x4), (5, .long x5), (7, .int x7)]) S.1 S.2.1 d_Le_stepInPart_58 hl (by decide) rfl (fun ls hl => ?_)
          refine lv_aload_n S.1 S.2.1 d_Le_stepInPart_60 rfl (lv_at hl 1 rfl) ?_
          refine g_Le_after S hK I.1 d_Le_stepInPart_61 ?_
          refine lv_iload_n S.1 S.2.1 d_Le_stepInPart_64 rfl (lv_at hl 2 rfl) ?_
          refine lv_bipush (v := (7 : Int32)) S.1 S.2.1 d_Le_stepInPart_65 rfl ?_
          refine lv_imul S.1 S.2.1 d_Le_stepInPart_67 ?_
          refine lv_iload_n S.1 S.2.1 d_Le_stepInPart_68 rfl (lv_at hl 4 rfl) ?_
          refine lv_if_eq (tgt := 97) S.1 S.2.1 d_Le_stepInPart_69 (by decide) (fun hc => ?_) (fun hc => ?_)
          · have h := h.1 hc
            refine lv_aload_n S.1 S.2.1 d_Le_stepInPart_97 rfl (lv_at hl 1 rfl) ?_
            refine lv_aload_n S.1 S.2.1 d_Le_stepInPart_98 rfl (lv_at hl 1 rfl) ?_
            refine g_Le_terms S hK I.1 d_Le_stepInPart_99 ?_
            refine lv_iload_n S.1 S.2.1 d_Le_stepInPart_102 rfl (lv_at hl 2 rfl) ?_
            refine callV_roi S (c_Te_symbolOf l D ad cA _ _ _ _ _ _ _ _ _ h) (mkV S.2.2.2.2 ml_Le_96 k_Te_symbolOf rfl rfl ⟨Nat.le_of_ble_eq_true rfl, Nat.le_of_ble_eq_true rfl⟩) (rv_Te hK I.1) hK I.1 hl.1 rfl rfl (Nat.le_of_ble_eq_true rfl) d_Le_stepInPart_103 ⟨Nat.zero_le _, Nat.zero_le _⟩ (fun r103 h => ?_)
            refine lv_aload_n S.1 S.2.1 d_Le_stepInPart_106 rfl (lv_at hl 1 rfl) ?_
            refine g_Le_terms S hK I.1 d_Le_stepInPart_107 ?_
            refine lv_iload_n S.1 S.2.1 d_Le_stepInPart_110 rfl (lv_at hl 2 rfl) ?_
            refine callV_roi S (c_Te_firstOf l D ad cA _ _ _ _ _ _ _ _ _ h) (mkV S.2.2.2.2 ml_Le_102 k_Te_firstOf rfl rfl ⟨Nat.le_of_ble_eq_true rfl, Nat.le_of_ble_eq_true rfl⟩) (rv_Te hK I.1) hK I.1 hl.1 rfl rfl (Nat.le_of_ble_eq_true rfl) d_Le_stepInPart_111 ⟨Nat.zero_le _, Nat.zero_le _⟩ (fun r111 h => ?_)
            refine lv_iload S.1 S.2.1 d_Le_stepInPart_114 (lv_at hl 0 rfl) ?_
            refine callV_rwi S (c_Le_findCounted l D ad cA _ _ _ _ _ _ _ _ _ _ _ h) (mkV S.2.2.2.2 ml_Le_112 k_Le_findCounted rfl rfl ⟨Nat.le_of_ble_eq_true rfl, Nat.le_of_ble_eq_true rfl⟩) (rv_Le hK I.1) hK hA I hl.1 rfl rfl (Nat.le_of_ble_eq_true rfl) d_Le_stepInPart_116 ⟨Nat.zero_le _, Nat.zero_le _⟩ (fun r116 u116 H locs h I => ?_)
            obtain ⟨te116, le116⟩ := u116
            exact n_Le_stepInPart_119 S hr hlk hK hA hk3 ih _ _ _ _ _ _ _ _ _ _ h (lv_sub hl [1, 2, 3, 4, 5, 6, 7] rfl) I
          · have h := h.2 hc
            refine lv_aload_n S.1 S.2.1 d_Le_stepInPart_72 rfl (lv_at hl 1 rfl) ?_
            refine lv_aload_n S.1 S.2.1 d_Le_stepInPart_73 rfl (lv_at hl 1 rfl) ?_
            refine g_Le_terms S hK I.1 d_Le_stepInPart_74 ?_
            refine lv_iload_n S.1 S.2.1 d_Le_stepInPart_77 rfl (lv_at hl 2 rfl) ?_
            refine callV_roi S (c_Te_symbolOf l D ad cA _ _ _ _ _ _ _ _ _ h) (mkV S.2.2.2.2 ml_Le_96 k_Te_symbolOf rfl rfl ⟨Nat.le_of_ble_eq_true rfl, Nat.le_of_ble_eq_true rfl⟩) (rv_Te hK I.1) hK I.1 hl.1 rfl rfl (Nat.le_of_ble_eq_true rfl) d_Le_stepInPart_78 ⟨Nat.zero_le _, Nat.zero_le _⟩ (fun r78 h => ?_)
            refine lv_iload S.1 S.2.1 d_Le_stepInPart_81 (lv_at hl 0 rfl) ?_
            refine lv_aload_n S.1 S.2.1 d_Le_stepInPart_83 rfl (lv_at hl 1 rfl) ?_
            refine g_Le_terms S hK I.1 d_Le_stepInPart_84 ?_
            refine lv_iload_n S.1 S.2.1 d_Le_stepInPart_87 rfl (lv_at hl 2 rfl) ?_
            refine callV_roi S (c_Te_secondOf l D ad cA _ _ _ _ _ _ _ _ _ h) (mkV S.2.2.2.2 ml_Le_109 k_Te_secondOf rfl rfl ⟨Nat.le_of_ble_eq_true rfl, Nat.le_of_ble_eq_true rfl⟩) (rv_Te hK I.1) hK I.1 hl.1 rfl rfl (Nat.le_of_ble_eq_true rfl) d_Le_stepInPart_88 ⟨Nat.zero_le _, Nat.zero_le _⟩ (fun r88 h => ?_)
            refine callV_rwi S (c_Le_findCounted l D ad cA _ _ _ _ _ _ _ _ _ _ _ h) (mkV S.2.2.2.2 ml_Le_112 k_Le_findCounted rfl rfl ⟨Nat.le_of_ble_eq_true rfl, Nat.le_of_ble_eq_true rfl⟩) (rv_Le hK I.1) hK hA I hl.1 rfl rfl (Nat.le_of_ble_eq_true rfl) d_Le_stepInPart_91 ⟨Nat.zero_le _, Nat.zero_le _⟩ (fun r91 u91 H locs h I => ?_)
            obtain ⟨te91, le91⟩ := u91
            refine lv_goto (tgt := 119) S.1 S.2.1 d_Le_stepInPart_94 (by decide) ?_
            exact n_Le_stepInPart_119 S hr hlk hK hA hk3 ih _ _ _ _ _ _ _ _ _ _ h (lv_sub hl [1, 2, 3, 4, 5, 6, 7] rfl) I
set_option maxHeartbeats 4000000 in
set_option maxRecDepth 100000 in
theorem n_Le_stepInPart_3 {p : Program} {l : Launch} {e : Env} {s : State} {m : MethodId} {args : Array Value} {below : List Frame} {meth : Method} {c : Code} {D : va_G} {A : Nat → Prop} {ad : Nat → Nat} {cA : ClassId × ClassId × ClassId} {ru : Ru} {au : Au} {re : Re} {la : La} {sp : Sp} {x1 : Int32} {x2 : Int32} {x3 : Int32} {Q : Te → Le → Prop} (S : CallFix p m c b_Le_stepInPart 9 s args gtbl R_Le) (hr : meth.sig.returnType = none) (hlk : meth.locks = false) (hK : gK D (tyA cA) s) (hA : ∀ q : Nat, s.heap.size ≤ q → A q) : ∀ n : Nat, ∀ (ls : Array Slot) (H : Heap) (locs : List Loc) (x4 : Int32) (te : Te) (le : Le), p_Le_stepInPart_3 x1 x2 x3 Q n x4 te le → lv_has ls 9 [(0, .ref (ad 28)), (1, .int x1), (2, .int x2), (3, .int x3), (4, .int x4)] → gIn D A s (wC ad cA) (te, ru, au, re, la, sp, le) H locs → W p l e rm_Le_stepInPart s m args below meth c H locs 0 0 (qV D (tyA cA) A (wC ad cA) (fun u : Te × Le => (u.1, ru, au, re, la, sp, u.2)) (fun u : Te × Le => Q u.1 u.2) below args s) (F0 m 3 ls []) := by
  intro n
  induction n with
  | zero =>
    intro ls H locs x4 te le h
    exact (show False from h).elim
  | succ n ih =>
    intro ls H locs x4 te le h hl I
    refine lv_iload S.1 S.2.1 d_Le_stepInPart_3 (lv_at hl 4 rfl) ?_
    refine lv_bipush (v := (7 : Int32)) S.1 S.2.1 d_Le_stepInPart_5 rfl ?_
    refine lv_icmp_ge (tgt := 140) S.1 S.2.1 d_Le_stepInPart_7 (by decide) (fun hc => ?_) (fun hc => ?_)
    · have h := h.1 hc
      exact ret_rwv (u := (_, _)) S hr hlk hK I h d_Le_stepInPart_140
    · have h := h.2 hc
      refine lv_aload_n S.1 S.2.1 d_Le_stepInPart_10 rfl (lv_at hl 0 rfl) ?_
      refine g_Le_after S hK I.1 d_Le_stepInPart_11 ?_
      refine lv_iload_n S.1 S.2.1 d_Le_stepInPart_14 rfl (lv_at hl 2 rfl) ?_
      refine lv_bipush (v := (7 : Int32)) S.1 S.2.1 d_Le_stepInPart_15 rfl ?_
      refine lv_imul S.1 S.2.1 d_Le_stepInPart_17 ?_
      refine lv_iload S.1 S.2.1 d_Le_stepInPart_18 (lv_at hl 4 rfl) ?_
      refine lv_iadd S.1 S.2.1 d_Le_stepInPart_20 ?_
      obtain ⟨hin, h⟩ := h
      refine a_Le_after S hK I.1 hin d_Le_stepInPart_21 ?_
      refine lv_lstore (lv' := [(5, .long (Le_after le ((x2 * (7 : Int32)) + x4).toNatClampNeg)), (0, .ref (ad 28)), (1, .int x1), (2, .int x2), (3, .int x3), (4, .int x4)]) S.1 S.2.1 d_Le_stepInPart_22 hl (by decide) rfl (fun ls hl => ?_)
      refine lv_iconst (v := (0 : Int32)) S.1 S.2.1 d_Le_stepInPart_24 rfl ?_
      refine lv_istore (lv' := [(7, .int (0 : Int32)), (5, .long (Le_after le ((x2 * (7 : Int32)) + x4).toNatClampNeg)), (0, .ref (ad 28)), (1, .int x1), (2, .int x2), (3, .int x3), (4, .int x4)]) S.1 S.2.1 d_Le_stepInPart_25 hl (by decide) rfl (fun ls hl => ?_)
      obtain ⟨n', h⟩ := h
      exact n_Le_stepInPart_27 S hr hlk hK hA ih n' _ _ _ _ _ _ _ _ h (lv_sub hl [2, 3, 4, 5, 6, 1, 0] rfl) I
set_option maxHeartbeats 4000000 in
set_option maxRecDepth 100000 in
theorem c_Le_stepInPart (l : Launch) (D : va_G) (ad : Nat → Nat) (cA : ClassId × ClassId × ClassId) (te : Te) (ru : Ru) (au : Au) (re : Re) (la : La) (sp : Sp) (le : Le) (x1 : Int32) (x2 : Int32) (x3 : Int32) (Q : Te → Le → Prop) (h : p_Le_stepInPart x1 x2 x3 te le Q) : rwV l y_Le_stepInPart (wsOf y_Le_stepInPart b_Le_stepInPart 9 none) rm_Le_stepInPart D (tyA cA) (wC ad cA) [.ref (ad 28), .int x1, .int x2, .int x3] (te, ru, au, re, la, sp, le) (fun u : Te × Le => (u.1, ru, au, re, la, sp, u.2)) (fun u : Te × Le => Q u.1 u.2) := by
  refine rwV_of (by decide) (Nat.le_of_ble_eq_true rfl) ?_
  intro p e s m below meth c S hr hlk hK A hA I ls hl
  have hl : lv_has ls 9 [(0, .ref (ad 28)), (1, .int x1), (2, .int x2), (3, .int x3)] := hl
  refine lv_iconst (v := (0 : Int32)) S.1 S.2.1 d_Le_stepInPart_0 rfl ?_
  refine lv_istore (lv' := [(4, .int (0 : Int32)), (0, .ref (ad 28)), (1, .int x1), (2, .int x2), (3, .int x3)]) S.1 S.2.1 d_Le_stepInPart_1 hl (by decide) rfl (fun ls hl => ?_)
  obtain ⟨n', h⟩ := h
  exact n_Le_stepInPart_3 S hr hlk hK hA n' _ _ _ _ _ _ h (lv_sub hl [1, 2, 3, 4, 0] rfl) I

set_option maxHeartbeats 4000000 in
set_option maxRecDepth 100000 in
theorem n_Le_expand_96 {p : Program} {l : Launch} {e : Env} {s : State} {m : MethodId} {args : Array Value} {below : List Frame} {meth : Method} {c : Code} {D : va_G} {A : Nat → Prop} {ad : Nat → Nat} {cA : ClassId × ClassId × ClassId} {ru : Ru} {au : Au} {re : Re} {la : La} {sp : Sp} {x1 : Int32} {Q : Te → Le → Prop} (S : CallFix p m c b_Le_expand 3 s args gtbl R_Le) (hr : meth.sig.returnType = none) (hlk : meth.locks = false) (hK : gK D (tyA cA) s) (hA : ∀ q : Nat, s.heap.size ≤ q → A q) : ∀ (ls : Array Slot) (H : Heap) (locs : List Loc) (x2 : Int32) (te : Te) (le : Le), p_Le_expand_96 x1 ru Q x2 te le → lv_has ls 3 [(0, .ref (ad 28)), (1, .int x1), (2, .int x2)] → gIn D A s (wC ad cA) (te, ru, au, re, la, sp, le) H locs → W p l e rm_Le_expand s m args below meth c H locs 0 0 (qV D (tyA cA) A (wC ad cA) (fun u : Te × Le => (u.1, ru, au, re, la, sp, u.2)) (fun u : Te × Le => Q u.1 u.2) below args s) (F0 m 96 ls []) := by
  intro ls H locs x2 te le h hl I
  refine lv_iload_n S.1 S.2.1 d_Le_expand_96 rfl (lv_at hl 2 rfl) ?_
  refine lv_iconst (v := (1 : Int32)) S.1 S.2.1 d_Le_expand_97 rfl ?_
  refine lv_icmp_le (tgt := 115) S.1 S.2.1 d_Le_expand_98 (by decide) (fun hc => ?_) (fun hc => ?_)
  · have h := h.1 hc
    exact ret_rwv (u := (_, _)) S hr hlk hK I h d_Le_expand_115
  · have h := h.2 hc
    refine lv_aload_n S.1 S.2.1 d_Le_expand_101 rfl (lv_at hl 0 rfl) ?_
    refine lv_iload_n S.1 S.2.1 d_Le_expand_102 rfl (lv_at hl 1 rfl) ?_
    refine lv_aload_n S.1 S.2.1 d_Le_expand_103 rfl (lv_at hl 0 rfl) ?_
    refine g_Le_terms S hK I.1 d_Le_expand_104 ?_
    refine lv_iload_n S.1 S.2.1 d_Le_expand_107 rfl (lv_at hl 1 rfl) ?_
    refine callV_roi S (c_Te_secondOf l D ad cA _ _ _ _ _ _ _ _ _ h) (mkV S.2.2.2.2 ml_Le_109 k_Te_secondOf rfl rfl ⟨Nat.le_of_ble_eq_true rfl, Nat.le_of_ble_eq_true rfl⟩) (rv_Te hK I.1) hK I.1 hl.1 rfl rfl (Nat.le_of_ble_eq_true rfl) d_Le_expand_108 ⟨Nat.zero_le _, Nat.zero_le _⟩ (fun r108 h => ?_)
    refine lv_iconst (v := (0 : Int32)) S.1 S.2.1 d_Le_expand_111 rfl ?_
    refine callV_rwv S (c_Le_stepInPart l D ad cA _ _ _ _ _ _ _ _ _ _ _ h) (mkV S.2.2.2.2 ml_Le_105 k_Le_stepInPart rfl rfl ⟨Nat.le_of_ble_eq_true rfl, Nat.le_of_ble_eq_true rfl⟩) (rv_Le hK I.1) hK hA I hl.1 rfl rfl (Nat.le_of_ble_eq_true rfl) d_Le_expand_112 ⟨Nat.zero_le _, Nat.zero_le _⟩ (fun u112 H locs h I => ?_)
    obtain ⟨te112, le112⟩ := u112
    exact ret_rwv (u := (_, _)) S hr hlk hK I h d_Le_expand_115
set_option maxHeartbeats 4000000 in
set_option maxRecDepth 100000 in
theorem n_Le_expand_2 {p : Program} {l : Launch} {e : Env} {s : State} {m : MethodId} {args : Array Value} {below : List Frame} {meth : Method} {c : Code} {D : va_G} {A : Nat → Prop} {ad : Nat → Nat} {cA : ClassId × ClassId × ClassId} {ru : Ru} {au : Au} {re : Re} {la : La} {sp : Sp} {x1 : Int32} {Q : Te → Le → Prop} (S : CallFix p m c b_Le_expand 3 s args gtbl R_Le) (hr : meth.sig.returnType = none) (hlk : meth.locks = false) (hK : gK D (tyA cA) s) (hA : ∀ q : Nat, s.heap.size ≤ q → A q) : ∀ n : Nat, ∀ (ls : Array Slot) (H : Heap) (locs : List Loc) (x2 : Int32) (te : Te) (le : Le), p_Le_expand_2 x1 ru Q n x2 te le → lv_has ls 3 [(0, .ref (ad 28)), (1, .int x1), (2, .int x2)] → gIn D A s (wC ad cA) (te, ru, au, re, la, sp, le) H locs → W p l e rm_Le_expand s m args below meth c H locs 0 0 (qV D (tyA cA) A (wC ad cA) (fun u : Te × Le => (u.1, ru, au, re, la, sp, u.2)) (fun u : Te × Le => Q u.1 u.2) below args s) (F0 m 2 ls []) := by
  intro n
  induction n with
  | zero =>
    intro ls H locs x2 te le h
    exact (show False from h).elim
  | succ n ih =>
    intro ls H locs x2 te le h hl I
    refine lv_iload_n S.1 S.2.1 d_Le_expand_2 rfl (lv_at hl 2 rfl) ?_
    refine lv_aload_n S.1 S.2.1 d_Le_expand_3 rfl (lv_at hl 0 rfl) ?_
    refine g_Le_rules S hK I.1 d_Le_expand_4 ?_
    refine callV_roi S (c_Ru_count l D ad cA _ _ _ _ _ _ _ _ h) (mkV S.2.2.2.2 ml_Le_86 k_Ru_count rfl rfl ⟨Nat.le_of_ble_eq_true rfl, Nat.le_of_ble_eq_true rfl⟩) (rv_Ru hK I.1) hK I.1 hl.1 rfl rfl (Nat.le_of_ble_eq_true rfl) d_Le_expand_7 ⟨Nat.zero_le _, Nat.zero_le _⟩ (fun r7 h => ?_)
    refine lv_icmp_ge (tgt := 62) S.1 S.2.1 d_Le_expand_10 (by decide) (fun hc => ?_) (fun hc => ?_)
    · have h := h.1 hc
      refine lv_aload_n S.1 S.2.1 d_Le_expand_62 rfl (lv_at hl 0 rfl) ?_
      refine g_Le_terms S hK I.1 d_Le_expand_63 ?_
      refine lv_aload_n S.1 S.2.1 d_Le_expand_66 rfl (lv_at hl 0 rfl) ?_
      refine g_Le_terms S hK I.1 d_Le_expand_67 ?_
      refine lv_iload_n S.1 S.2.1 d_Le_expand_70 rfl (lv_at hl 1 rfl) ?_
      refine callV_roi S (c_Te_symbolOf l D ad cA _ _ _ _ _ _ _ _ _ h) (mkV S.2.2.2.2 ml_Le_96 k_Te_symbolOf rfl rfl ⟨Nat.le_of_ble_eq_true rfl, Nat.le_of_ble_eq_true rfl⟩) (rv_Te hK I.1) hK I.1 hl.1 rfl rfl (Nat.le_of_ble_eq_true rfl) d_Le_expand_71 ⟨Nat.zero_le _, Nat.zero_le _⟩ (fun r71 h => ?_)
      refine callV_roi S (c_Te_placesOf l D ad cA _ _ _ _ _ _ _ _ _ h) (mkV S.2.2.2.2 ml_Le_99 k_Te_placesOf rfl rfl ⟨Nat.le_of_ble_eq_true rfl, Nat.le_of_ble_eq_true rfl⟩) (rv_Te hK I.1) hK I.1 hl.1 rfl rfl (Nat.le_of_ble_eq_true rfl) d_Le_expand_74 ⟨Nat.zero_le _, Nat.zero_le _⟩ (fun r74 h => ?_)
      refine lv_istore_n (lv' := [(2, .int r74), (0, .ref (ad 28)), (1, .int x1)]) S.1 S.2.1 d_Le_expand_77 rfl hl (by decide) rfl (fun ls hl => ?_)
      refine lv_iload_n S.1 S.2.1 d_Le_expand_78 rfl (lv_at hl 0 rfl) ?_
      refine lv_if_le (tgt := 96) S.1 S.2.1 d_Le_expand_79 (by decide) (fun hc => ?_) (fun hc => ?_)
      · have h := h.1 hc
        exact n_Le_expand_96 S hr hlk hK hA _ _ _ _ _ _ h (lv_sub hl [1, 2, 0] rfl) I
      · have h := h.2 hc
        refine lv_aload_n S.1 S.2.1 d_Le_expand_82 rfl (lv_at hl 1 rfl) ?_
        refine lv_iload_n S.1 S.2.1 d_Le_expand_83 rfl (lv_at hl 2 rfl) ?_
        refine lv_aload_n S.1 S.2.1 d_Le_expand_84 rfl (lv_at hl 1 rfl) ?_
        refine g_Le_terms S hK I.1 d_Le_expand_85 ?_
        refine lv_iload_n S.1 S.2.1 d_Le_expand_88 rfl (lv_at hl 2 rfl) ?_
        refine callV_roi S (c_Te_firstOf l D ad cA _ _ _ _ _ _ _ _ _ h) (mkV S.2.2.2.2 ml_Le_102 k_Te_firstOf rfl rfl ⟨Nat.le_of_ble_eq_true rfl, Nat.le_of_ble_eq_true rfl⟩) (rv_Te hK I.1) hK I.1 hl.1 rfl rfl (Nat.le_of_ble_eq_true rfl) d_Le_expand_89 ⟨Nat.zero_le _, Nat.zero_le _⟩ (fun r89 h => ?_)
        refine lv_iconst (v := (1 : Int32)) S.1 S.2.1 d_Le_expand_92 rfl ?_
        refine callV_rwv S (c_Le_stepInPart l D ad cA _ _ _ _ _ _ _ _ _ _ _ h) (mkV S.2.2.2.2 ml_Le_105 k_Le_stepInPart rfl rfl ⟨Nat.le_of_ble_eq_true rfl, Nat.le_of_ble_eq_true rfl⟩) (rv_Le hK I.1) hK hA I hl.1 rfl rfl (Nat.le_of_ble_eq_true rfl) d_Le_expand_93 ⟨Nat.zero_le _, Nat.zero_le _⟩ (fun u93 H locs h I => ?_)
        obtain ⟨te93, le93⟩ := u93
        exact n_Le_expand_96 S hr hlk hK hA _ _ _ _ _ _ h (lv_sub hl [1, 2, 0] rfl) I
    · have h := h.2 hc
      refine lv_aload_n S.1 S.2.1 d_Le_expand_13 rfl (lv_at hl 0 rfl) ?_
      refine g_Le_rules S hK I.1 d_Le_expand_14 ?_
      refine lv_iload_n S.1 S.2.1 d_Le_expand_17 rfl (lv_at hl 2 rfl) ?_
      refine callV_roi S (c_Ru_leftOf l D ad cA _ _ _ _ _ _ _ _ _ h) (mkV S.2.2.2.2 ml_Le_89 k_Ru_leftOf rfl rfl ⟨Nat.le_of_ble_eq_true rfl, Nat.le_of_ble_eq_true rfl⟩) (rv_Ru hK I.1) hK I.1 hl.1 rfl rfl (Nat.le_of_ble_eq_true rfl) d_Le_expand_18 ⟨Nat.zero_le _, Nat.zero_le _⟩ (fun r18 h => ?_)
      refine lv_iload_n S.1 S.2.1 d_Le_expand_21 rfl (lv_at hl 1 rfl) ?_
      refine lv_icmp_ne (tgt := 56) S.1 S.2.1 d_Le_expand_22 (by decide) (fun hc => ?_) (fun hc => ?_)
      · have h := h.1 hc
        refine lv_iinc (k := 2) (v := x2 + (1 : Int32)) (lv' := [(2, .int (x2 + (1 : Int32))), (0, .ref (ad 28)), (1, .int x1)]) S.1 S.2.1 d_Le_expand_56 hl rfl rfl (by decide) rfl (fun ls hl => ?_)
        refine lv_goto (tgt := 2) S.1 S.2.1 d_Le_expand_59 (by decide) ?_
        exact ih _ _ _ _ _ _ h (lv_sub hl [1, 2, 0] rfl) I
      · have h := h.2 hc
        refine lv_aload_n S.1 S.2.1 d_Le_expand_25 rfl (lv_at hl 0 rfl) ?_
        refine lv_aload_n S.1 S.2.1 d_Le_expand_26 rfl (lv_at hl 0 rfl) ?_
        refine g_Le_rules S hK I.1 d_Le_expand_27 ?_
        refine lv_iload_n S.1 S.2.1 d_Le_expand_30 rfl (lv_at hl 2 rfl) ?_
        refine callV_roi S (c_Ru_rightOf l D ad cA _ _ _ _ _ _ _ _ _ h) (mkV S.2.2.2.2 ml_Le_93 k_Ru_rightOf rfl rfl ⟨Nat.le_of_ble_eq_true rfl, Nat.le_of_ble_eq_true rfl⟩) (rv_Ru hK I.1) hK I.1 hl.1 rfl rfl (Nat.le_of_ble_eq_true rfl) d_Le_expand_31 ⟨Nat.zero_le _, Nat.zero_le _⟩ (fun r31 h => ?_)
        refine callV_rwv S (c_Le_countWithParts l D ad cA _ _ _ _ _ _ _ _ _ h) (mkV S.2.2.2.2 ml_Le_79 k_Le_countWithParts rfl rfl ⟨Nat.le_of_ble_eq_true rfl, Nat.le_of_ble_eq_true rfl⟩) (rv_Le hK I.1) hK hA I hl.1 rfl rfl (Nat.le_of_ble_eq_true rfl) d_Le_expand_34 ⟨Nat.zero_le _, Nat.zero_le _⟩ (fun le34 H locs h I => ?_)
        refine lv_aload_n S.1 S.2.1 d_Le_expand_37 rfl (lv_at hl 0 rfl) ?_
        refine g_Le_after S hK I.1 d_Le_expand_38 ?_
        refine lv_iload_n S.1 S.2.1 d_Le_expand_41 rfl (lv_at hl 1 rfl) ?_
        refine lv_bipush (v := (7 : Int32)) S.1 S.2.1 d_Le_expand_42 rfl ?_
        refine lv_imul S.1 S.2.1 d_Le_expand_44 ?_
        refine lv_aload_n S.1 S.2.1 d_Le_expand_45 rfl (lv_at hl 0 rfl) ?_
        refine g_Le_rules S hK I.1 d_Le_expand_46 ?_
        refine lv_iload_n S.1 S.2.1 d_Le_expand_49 rfl (lv_at hl 2 rfl) ?_
        refine callV_roi S (c_Ru_rightOf l D ad cA _ _ _ _ _ _ _ _ _ h) (mkV S.2.2.2.2 ml_Le_93 k_Ru_rightOf rfl rfl ⟨Nat.le_of_ble_eq_true rfl, Nat.le_of_ble_eq_true rfl⟩) (rv_Ru hK I.1) hK I.1 hl.1 rfl rfl (Nat.le_of_ble_eq_true rfl) d_Le_expand_50 ⟨Nat.zero_le _, Nat.zero_le _⟩ (fun r50 h => ?_)
        refine callS_rwv S (c_Le_include_after l D ad cA _ _ _ _ _ _ _ _ _ _ h) (mkS S.2.2.2.2 ml_Le_82 k_Le_include rfl rfl ⟨Nat.le_of_ble_eq_true rfl, Nat.le_of_ble_eq_true rfl⟩) hK hA I hl.1 rfl rfl (Nat.le_of_ble_eq_true rfl) d_Le_expand_53 ⟨Nat.zero_le _, Nat.zero_le _⟩ (fun le53 H locs h I => ?_)
        refine lv_iinc (k := 2) (v := x2 + (1 : Int32)) (lv' := [(2, .int (x2 + (1 : Int32))), (0, .ref (ad 28)), (1, .int x1)]) S.1 S.2.1 d_Le_expand_56 hl rfl rfl (by decide) rfl (fun ls hl => ?_)
        refine lv_goto (tgt := 2) S.1 S.2.1 d_Le_expand_59 (by decide) ?_
        exact ih _ _ _ _ _ _ h (lv_sub hl [1, 2, 0] rfl) I
set_option maxHeartbeats 4000000 in
set_option maxRecDepth 100000 in
theorem c_Le_expand (l : Launch) (D : va_G) (ad : Nat → Nat) (cA : ClassId × ClassId × ClassId) (te : Te) (ru : Ru) (au : Au) (re : Re) (la : La) (sp : Sp) (le : Le) (x1 : Int32) (Q : Te → Le → Prop) (h : p_Le_expand x1 te ru le Q) : rwV l y_Le_expand (wsOf y_Le_expand b_Le_expand 3 none) rm_Le_expand D (tyA cA) (wC ad cA) [.ref (ad 28), .int x1] (te, ru, au, re, la, sp, le) (fun u : Te × Le => (u.1, ru, au, re, la, sp, u.2)) (fun u : Te × Le => Q u.1 u.2) := by
  refine rwV_of (by decide) (Nat.le_of_ble_eq_true rfl) ?_
  intro p e s m below meth c S hr hlk hK A hA I ls hl
  have hl : lv_has ls 3 [(0, .ref (ad 28)), (1, .int x1)] := hl
  refine lv_iconst (v := (0 : Int32)) S.1 S.2.1 d_Le_expand_0 rfl ?_
  refine lv_istore_n (lv' := [(2, .int (0 : Int32)), (0, .ref (ad 28)), (1, .int x1)]) S.1 S.2.1 d_Le_expand_1 rfl hl (by decide) rfl (fun ls hl => ?_)
  obtain ⟨n', h⟩ := h
  exact n_Le_expand_2 S hr hlk hK hA n' _ _ _ _ _ _ h (lv_sub hl [1, 2, 0] rfl) I
