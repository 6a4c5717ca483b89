set_option maxHeartbeats 4000000 in
set_option maxRecDepth 100000 in
theorem c_Te_isMade (l : Launch) (D : va_G) (ad : Nat → Nat) (cA : ClassId × ClassId × ClassId) (te : Te) (ru : Ru) (au : Au) (re : Re) (la : La) (sp : Sp) (le : Le) (x1 : Int32) (Q : Int32 → Prop) (h : p_Te_isMade x1 te Q) : roI l y_Te_isMade (wsOf y_Te_isMade b_Te_isMade 2 (some .boolean)) rm_Te_isMade D (tyA cA) (wC ad cA) [.ref (ad 1), .int x1] (te, ru, au, re, la, sp, le) Q := by
  refine roI_of (by decide) (Nat.le_of_ble_eq_true rfl) ?_
  intro p e s m below meth c S hr hlk hK hP ls hl
  have hl : lv_has ls 2 [(0, .ref (ad 1)), (1, .int x1)] := hl
  refine lv_iload_n S.1 S.2.1 d_Te_isMade_0 rfl (lv_at hl 1 rfl) ?_
  refine lv_if_lt (tgt := 16) S.1 S.2.1 d_Te_isMade_1 (by decide) (fun hc => ?_) (fun hc => ?_)
  · have h := h.1 hc
    refine lv_iconst (v := (0 : Int32)) S.1 S.2.1 d_Te_isMade_16 rfl ?_
    exact ret_roz S hr hlk (by decide) h d_Te_isMade_17
  · have h := h.2 hc
    refine lv_iload_n S.1 S.2.1 d_Te_isMade_4 rfl (lv_at hl 1 rfl) ?_
    refine lv_aload_n S.1 S.2.1 d_Te_isMade_5 rfl (lv_at hl 0 rfl) ?_
    refine g_Te_count S hK hP d_Te_isMade_6 ?_
    refine lv_icmp_ge (tgt := 16) S.1 S.2.1 d_Te_isMade_9 (by decide) (fun hc => ?_) (fun hc => ?_)
    · have h := h.1 hc
      refine lv_iconst (v := (0 : Int32)) S.1 S.2.1 d_Te_isMade_16 rfl ?_
      exact ret_roz S hr hlk (by decide) h d_Te_isMade_17
    · have h := h.2 hc
      refine lv_iconst (v := (1 : Int32)) S.1 S.2.1 d_Te_isMade_12 rfl ?_
      refine lv_goto (tgt := 17) S.1 S.2.1 d_Te_isMade_13 (by decide) ?_
      exact ret_roz S hr hlk (by decide) h d_Te_isMade_17

set_option maxHeartbeats 4000000 in
set_option maxRecDepth 100000 in
theorem c_Te_count (l : Launch) (D : va_G) (ad : Nat → Nat) (cA : ClassId × ClassId × ClassId) (te : Te) (ru : Ru) (au : Au) (re : Re) (la : La) (sp : Sp) (le : Le)  (Q : Int32 → Prop) (h : p_Te_count  te Q) : roI l y_Te_count (wsOf y_Te_count b_Te_count 1 (some .int)) rm_Te_count D (tyA cA) (wC ad cA) [.ref (ad 1)] (te, ru, au, re, la, sp, le) Q := by
  refine roI_of (by decide) (Nat.le_of_ble_eq_true rfl) ?_
  intro p e s m below meth c S hr hlk hK hP ls hl
  have hl : lv_has ls 1 [(0, .ref (ad 1))] := hl
  refine lv_aload_n S.1 S.2.1 d_Te_count_0 rfl (lv_at hl 0 rfl) ?_
  refine g_Te_count S hK hP d_Te_count_1 ?_
  exact ret_roi S hr hlk h d_Te_count_4

set_option maxHeartbeats 4000000 in
set_option maxRecDepth 100000 in
theorem n_Ru_countAt_4 {p : Program} {l : Launch} {e : Env} {s : State} {m : MethodId} {args : Array Value} {below : List Frame} {meth : Method} {c : Code} {D : va_G} {ad : Nat → Nat} {cA : ClassId × ClassId × ClassId} {te : Te} {ru : Ru} {au : Au} {re : Re} {la : La} {sp : Sp} {le : Le} {x1 : Int32} {Q : Int32 → Prop} (S : CallFix p m c b_Ru_countAt 4 s args gtbl R_Ru) (hr : meth.sig.returnType = (some .int)) (hlk : meth.locks = false) (hK : gK D (tyA cA) s) (hP : va_P D classes (wC ad cA (te, ru, au, re, la, sp, le)) s.heap) : ∀ n : Nat, ∀ (ls : Array Slot) (x2 : Int32) (x3 : Int32), p_Ru_countAt_4 x1 ru Q n x2 x3 → lv_has ls 4 [(0, .ref (ad 9)), (1, .int x1), (2, .int x2), (3, .int x3)] → W p l e rm_Ru_countAt s m args below meth c s.heap [] 0 0 (qRI Q below args s) (F0 m 4 ls []) := by
  intro n
  induction n with
  | zero =>
    intro ls x2 x3 h
    exact (show False from h).elim
  | succ n ih =>
    intro ls x2 x3 h hl
    refine lv_iload_n S.1 S.2.1 d_Ru_countAt_4 rfl (lv_at hl 3 rfl) ?_
    refine lv_aload_n S.1 S.2.1 d_Ru_countAt_5 rfl (lv_at hl 0 rfl) ?_
    refine g_Ru_count S hK hP d_Ru_countAt_6 ?_
    refine lv_icmp_ge (tgt := 31) S.1 S.2.1 d_Ru_countAt_9 (by decide) (fun hc => ?_) (fun hc => ?_)
    · have h := h.1 hc
      refine lv_iload_n S.1 S.2.1 d_Ru_countAt_31 rfl (lv_at hl 2 rfl) ?_
      exact ret_roi S hr hlk h d_Ru_countAt_32
    · have h := h.2 hc
      refine lv_aload_n S.1 S.2.1 d_Ru_countAt_12 rfl (lv_at hl 0 rfl) ?_
      refine g_Ru_left S hK hP d_Ru_countAt_13 ?_
      refine lv_iload_n S.1 S.2.1 d_Ru_countAt_16 rfl (lv_at hl 3 rfl) ?_
      obtain ⟨hin, h⟩ := h
      refine a_Ru_left S hK hP hin d_Ru_countAt_17 ?_
      refine lv_iload_n S.1 S.2.1 d_Ru_countAt_18 rfl (lv_at hl 1 rfl) ?_
      refine lv_icmp_ne (tgt := 25) S.1 S.2.1 d_Ru_countAt_19 (by decide) (fun hc => ?_) (fun hc => ?_)
      · have h := h.1 hc
        refine lv_iinc (k := 3) (v := x3 + (1 : Int32)) (lv' := [(3, .int (x3 + (1 : Int32))), (0, .ref (ad 9)), (1, .int x1), (2, .int x2)]) S.1 S.2.1 d_Ru_countAt_25 hl rfl rfl (by decide) rfl (fun ls hl => ?_)
        refine lv_goto (tgt := 4) S.1 S.2.1 d_Ru_countAt_28 (by decide) ?_
        exact ih _ _ _ h (lv_sub hl [1, 2, 3, 0] rfl)
      · have h := h.2 hc
        refine lv_iinc (k := 2) (v := x2 + (1 : Int32)) (lv' := [(2, .int (x2 + (1 : Int32))), (0, .ref (ad 9)), (1, .int x1), (3, .int x3)]) S.1 S.2.1 d_Ru_countAt_22 hl rfl rfl (by decide) rfl (fun ls hl => ?_)
        refine lv_iinc (k := 3) (v := x3 + (1 : Int32)) (lv' := [(3, .int (x3 + (1 : Int32))), (2, .int (x2 + (1 : Int32))), (0, .ref (ad 9)), (1, .int x1)]) S.1 S.2.1 d_Ru_countAt_25 hl rfl rfl (by decide) rfl (fun ls hl => ?_)
        refine lv_goto (tgt := 4) S.1 S.2.1 d_Ru_countAt_28 (by decide) ?_
        exact ih _ _ _ h (lv_sub hl [2, 3, 1, 0] rfl)
set_option maxHeartbeats 4000000 in
set_option maxRecDepth 100000 in
theorem c_Ru_countAt (l : Launch) (D : va_G) (ad : Nat → Nat) (cA : ClassId × ClassId × ClassId) (te : Te) (ru : Ru) (au : Au) (re : Re) (la : La) (sp : Sp) (le : Le) (x1 : Int32) (Q : Int32 → Prop) (h : p_Ru_countAt x1 ru Q) : roI l y_Ru_countAt (wsOf y_Ru_countAt b_Ru_countAt 4 (some .int)) rm_Ru_countAt D (tyA cA) (wC ad cA) [.ref (ad 9), .int x1] (te, ru, au, re, la, sp, le) Q := by
  refine roI_of (by decide) (Nat.le_of_ble_eq_true rfl) ?_
  intro p e s m below meth c S hr hlk hK hP ls hl
  have hl : lv_has ls 4 [(0, .ref (ad 9)), (1, .int x1)] := hl
  refine lv_iconst (v := (0 : Int32)) S.1 S.2.1 d_Ru_countAt_0 rfl ?_
  refine lv_istore_n (lv' := [(2, .int (0 : Int32)), (0, .ref (ad 9)), (1, .int x1)]) S.1 S.2.1 d_Ru_countAt_1 rfl hl (by decide) rfl (fun ls hl => ?_)
  refine lv_iconst (v := (0 : Int32)) S.1 S.2.1 d_Ru_countAt_2 rfl ?_
  refine lv_istore_n (lv' := [(3, .int (0 : Int32)), (2, .int (0 : Int32)), (0, .ref (ad 9)), (1, .int x1)]) S.1 S.2.1 d_Ru_countAt_3 rfl hl (by decide) rfl (fun ls hl => ?_)
  obtain ⟨n', h⟩ := h
  exact n_Ru_countAt_4 S hr hlk hK hP n' _ _ _ h (lv_sub hl [2, 3, 1, 0] rfl)

set_option maxHeartbeats 4000000 in
set_option maxRecDepth 100000 in
theorem c_Te_firstOf (l : Launch) (D : va_G) (ad : Nat → Nat) (cA : ClassId × ClassId × ClassId) (te : Te) (ru : Ru) (au : Au) (re : Re) (la : La) (sp : Sp) (le : Le) (x1 : Int32) (Q : Int32 → Prop) (h : p_Te_firstOf x1 te Q) : roI l y_Te_firstOf (wsOf y_Te_firstOf b_Te_firstOf 2 (some .int)) rm_Te_firstOf D (tyA cA) (wC ad cA) [.ref (ad 1), .int x1] (te, ru, au, re, la, sp, le) Q := by
  refine roI_of (by decide) (Nat.le_of_ble_eq_true rfl) ?_
  intro p e s m below meth c S hr hlk hK hP ls hl
  have hl : lv_has ls 2 [(0, .ref (ad 1)), (1, .int x1)] := hl
  refine lv_aload_n S.1 S.2.1 d_Te_firstOf_0 rfl (lv_at hl 0 rfl) ?_
  refine g_Te_first S hK hP d_Te_firstOf_1 ?_
  refine lv_iload_n S.1 S.2.1 d_Te_firstOf_4 rfl (lv_at hl 1 rfl) ?_
  obtain ⟨hin, h⟩ := h
  refine a_Te_first S hK hP hin d_Te_firstOf_5 ?_
  exact ret_roi S hr hlk h d_Te_firstOf_6

set_option maxHeartbeats 4000000 in
set_option maxRecDepth 100000 in
theorem c_Sp_countIn (l : Launch) (D : va_G) (ad : Nat → Nat) (cA : ClassId × ClassId × ClassId) (te : Te) (ru : Ru) (au : Au) (re : Re) (la : La) (sp : Sp) (le : Le) (x1 : Int32) (Q : Int64 → Prop) (h : p_Sp_countIn x1 sp Q) : roL l y_Sp_countIn (wsOf y_Sp_countIn b_Sp_countIn 2 (some .long)) rm_Sp_countIn D (tyA cA) (wC ad cA) [.ref (ad 24), .int x1] (te, ru, au, re, la, sp, le) Q := by
  refine roL_of (by decide) (Nat.le_of_ble_eq_true rfl) ?_
  intro p e s m below meth c S hr hlk hK hP ls hl
  have hl : lv_has ls 2 [(0, .ref (ad 24)), (1, .int x1)] := hl
  refine lv_iload_n S.1 S.2.1 d_Sp_countIn_0 rfl (lv_at hl 1 rfl) ?_
  refine lv_iconst (v := (-1 : Int32)) S.1 S.2.1 d_Sp_countIn_1 rfl ?_
  refine lv_icmp_ne (tgt := 9) S.1 S.2.1 d_Sp_countIn_2 (by decide) (fun hc => ?_) (fun hc => ?_)
  · have h := h.1 hc
    refine lv_aload_n S.1 S.2.1 d_Sp_countIn_9 rfl (lv_at hl 0 rfl) ?_
    refine g_Sp_counts S hK hP d_Sp_countIn_10 ?_
    refine lv_iload_n S.1 S.2.1 d_Sp_countIn_13 rfl (lv_at hl 1 rfl) ?_
    obtain ⟨hin, h⟩ := h
    refine a_Sp_counts S hK hP hin d_Sp_countIn_14 ?_
    exact ret_rol S hr hlk h d_Sp_countIn_15
  · have h := h.2 hc
    refine lv_lconst (v := (0 : Int64)) S.1 S.2.1 d_Sp_countIn_5 rfl ?_
    refine lv_goto (tgt := 15) S.1 S.2.1 d_Sp_countIn_6 (by decide) ?_
    exact ret_rol S hr hlk h d_Sp_countIn_15

set_option maxHeartbeats 4000000 in
set_option maxRecDepth 100000 in
theorem c_Te_secondOf (l : Launch) (D : va_G) (ad : Nat → Nat) (cA : ClassId × ClassId × ClassId) (te : Te) (ru : Ru) (au : Au) (re : Re) (la : La) (sp : Sp) (le : Le) (x1 : Int32) (Q : Int32 → Prop) (h : p_Te_secondOf x1 te Q) : roI l y_Te_secondOf (wsOf y_Te_secondOf b_Te_secondOf 2 (some .int)) rm_Te_secondOf D (tyA cA) (wC ad cA) [.ref (ad 1), .int x1] (te, ru, au, re, la, sp, le) Q := by
  refine roI_of (by decide) (Nat.le_of_ble_eq_true rfl) ?_
  intro p e s m below meth c S hr hlk hK hP ls hl
  have hl : lv_has ls 2 [(0, .ref (ad 1)), (1, .int x1)] := hl
  refine lv_aload_n S.1 S.2.1 d_Te_secondOf_0 rfl (lv_at hl 0 rfl) ?_
  refine g_Te_second S hK hP d_Te_secondOf_1 ?_
  refine lv_iload_n S.1 S.2.1 d_Te_secondOf_4 rfl (lv_at hl 1 rfl) ?_
  obtain ⟨hin, h⟩ := h
  refine a_Te_second S hK hP hin d_Te_secondOf_5 ?_
  exact ret_roi S hr hlk h d_Te_secondOf_6

set_option maxHeartbeats 4000000 in
set_option maxRecDepth 100000 in
theorem n_Sp_countAll_2 {p : Program} {l : Launch} {e : Env} {s : State} {m : MethodId} {args : Array Value} {below : List Frame} {meth : Method} {c : Code} {D : va_G} {A : Nat → Prop} {ad : Nat → Nat} {cA : ClassId × ClassId × ClassId} {te : Te} {ru : Ru} {au : Au} {re : Re} {la : La} {le : Le} {Q : Sp → Prop} (S : CallFix p m c b_Sp_countAll 2 s args gtbl R_Sp) (hr : meth.sig.returnType = none) (hlk : meth.locks = false) (hK : gK D (tyA cA) s) (hA : ∀ q : Nat, s.heap.size ≤ q → A q) : ∀ n : Nat, ∀ (ls : Array Slot) (H : Heap) (locs : List Loc) (x1 : Int32) (sp : Sp), p_Sp_countAll_2 te ru Q n x1 sp → lv_has ls 2 [(0, .ref (ad 24)), (1, .int x1)] → gIn D A s (wC ad cA) (te, ru, au, re, la, sp, le) H locs → W p l e rm_Sp_countAll s m args below meth c H locs 0 0 (qV D (tyA cA) A (wC ad cA) (fun u : Sp => (te, ru, au, re, la, u, le)) (fun u : Sp => Q u) below args s) (F0 m 2 ls []) := by
  intro n
  induction n with
  | zero =>
    intro ls H locs x1 sp h
    exact (show False from h).elim
  | succ n ih =>
    intro ls H locs x1 sp h hl I
    refine lv_iload_n S.1 S.2.1 d_Sp_countAll_2 rfl (lv_at hl 1 rfl) ?_
    refine lv_aload_n S.1 S.2.1 d_Sp_countAll_3 rfl (lv_at hl 0 rfl) ?_
    refine g_Sp_terms S hK I.1 d_Sp_countAll_4 ?_
    refine callV_roi S (c_Te_count l D ad cA _ _ _ _ _ _ _ _ h) (mkV S.2.2.2.2 ml_Sp_67 k_Te_count rfl rfl ⟨Nat.le_of_ble_eq_true rfl, Nat.le_of_ble_eq_true rfl⟩) (rv_Te hK I.1) hK I.1 hl.1 rfl rfl (Nat.le_of_ble_eq_true rfl) d_Sp_countAll_7 ⟨Nat.zero_le _, Nat.zero_le _⟩ (fun r7 h => ?_)
    refine lv_icmp_ge (tgt := 60) S.1 S.2.1 d_Sp_countAll_10 (by decide) (fun hc => ?_) (fun hc => ?_)
    · have h := h.1 hc
      exact ret_rwv S hr hlk hK I h d_Sp_countAll_60
    · have h := h.2 hc
      refine lv_aload_n S.1 S.2.1 d_Sp_countAll_13 rfl (lv_at hl 0 rfl) ?_
      refine g_Sp_counts S hK I.1 d_Sp_countAll_14 ?_
      refine lv_iload_n S.1 S.2.1 d_Sp_countAll_17 rfl (lv_at hl 1 rfl) ?_
      refine lv_aload_n S.1 S.2.1 d_Sp_countAll_18 rfl (lv_at hl 0 rfl) ?_
      refine g_Sp_rules S hK I.1 d_Sp_countAll_19 ?_
      refine lv_iload_n S.1 S.2.1 d_Sp_countAll_22 rfl (lv_at hl 1 rfl) ?_
      refine callV_roi S (c_Ru_countAt l D ad cA _ _ _ _ _ _ _ _ _ h) (mkV S.2.2.2.2 ml_Sp_42 k_Ru_countAt rfl rfl ⟨Nat.le_of_ble_eq_true rfl, Nat.le_of_ble_eq_true rfl⟩) (rv_Ru hK I.1) hK I.1 hl.1 rfl rfl (Nat.le_of_ble_eq_true rfl) d_Sp_countAll_23 ⟨Nat.zero_le _, Nat.zero_le _⟩ (fun r23 h => ?_)
      refine lv_i2l S.1 S.2.1 d_Sp_countAll_26 rfl ?_
      refine lv_aload_n S.1 S.2.1 d_Sp_countAll_27 rfl (lv_at hl 0 rfl) ?_
      refine lv_aload_n S.1 S.2.1 d_Sp_countAll_28 rfl (lv_at hl 0 rfl) ?_
      refine g_Sp_terms S hK I.1 d_Sp_countAll_29 ?_
      refine lv_iload_n S.1 S.2.1 d_Sp_countAll_32 rfl (lv_at hl 1 rfl) ?_
      refine callV_roi S (c_Te_firstOf l D ad cA _ _ _ _ _ _ _ _ _ h) (mkV S.2.2.2.2 ml_Sp_48 k_Te_firstOf rfl rfl ⟨Nat.le_of_ble_eq_true rfl, Nat.le_of_ble_eq_true rfl⟩) (rv_Te hK I.1) hK I.1 hl.1 rfl rfl (Nat.le_of_ble_eq_true rfl) d_Sp_countAll_33 ⟨Nat.zero_le _, Nat.zero_le _⟩ (fun r33 h => ?_)
      refine callV_rol S (c_Sp_countIn l D ad cA _ _ _ _ _ _ _ _ _ h) (mkV S.2.2.2.2 ml_Sp_53 k_Sp_countIn rfl rfl ⟨Nat.le_of_ble_eq_true rfl, Nat.le_of_ble_eq_true rfl⟩) (rv_Sp hK I.1) hK I.1 hl.1 rfl rfl (Nat.le_of_ble_eq_true rfl) d_Sp_countAll_36 ⟨Nat.zero_le _, Nat.zero_le _⟩ (fun r36 h => ?_)
      refine lv_ladd S.1 S.2.1 d_Sp_countAll_39 ?_
      refine lv_aload_n S.1 S.2.1 d_Sp_countAll_40 rfl (lv_at hl 0 rfl) ?_
      refine lv_aload_n S.1 S.2.1 d_Sp_countAll_41 rfl (lv_at hl 0 rfl) ?_
      refine g_Sp_terms S hK I.1 d_Sp_countAll_42 ?_
      refine lv_iload_n S.1 S.2.1 d_Sp_countAll_45 rfl (lv_at hl 1 rfl) ?_
      refine callV_roi S (c_Te_secondOf l D ad cA _ _ _ _ _ _ _ _ _ h) (mkV S.2.2.2.2 ml_Sp_57 k_Te_secondOf rfl rfl ⟨Nat.le_of_ble_eq_true rfl, Nat.le_of_ble_eq_true rfl⟩) (rv_Te hK I.1) hK I.1 hl.1 rfl rfl (Nat.le_of_ble_eq_true rfl) d_Sp_countAll_46 ⟨Nat.zero_le _, Nat.zero_le _⟩ (fun r46 h => ?_)
      refine callV_rol S (c_Sp_countIn l D ad cA _ _ _ _ _ _ _ _ _ h) (mkV S.2.2.2.2 ml_Sp_53 k_Sp_countIn rfl rfl ⟨Nat.le_of_ble_eq_true rfl, Nat.le_of_ble_eq_true rfl⟩) (rv_Sp hK I.1) hK I.1 hl.1 rfl rfl (Nat.le_of_ble_eq_true rfl) d_Sp_countAll_49 ⟨Nat.zero_le _, Nat.zero_le _⟩ (fun r49 h => ?_)
      refine lv_ladd S.1 S.2.1 d_Sp_countAll_52 ?_
      obtain ⟨hin, h⟩ := h
      refine s_Sp_counts S hK I hin d_Sp_countAll_53 (fun H locs sp53 esp53 I => ?_)
      have h := h sp53 esp53
      refine lv_iinc (k := 1) (v := x1 + (1 : Int32)) (lv' := [(1, .int (x1 + (1 : Int32))), (0, .ref (ad 24))]) S.1 S.2.1 d_Sp_countAll_54 hl rfl rfl (by decide) rfl (fun ls hl => ?_)
      refine lv_goto (tgt := 2) S.1 S.2.1 d_Sp_countAll_57 (by decide) ?_
      exact ih _ _ _ _ _ h (lv_sub hl [1, 0] rfl) I
set_option maxHeartbeats 4000000 in
set_option maxRecDepth 100000 in
theorem c_Sp_countAll (l : Launch) (D : va_G) (ad : Nat → Nat) (cA : ClassId × ClassId × ClassId) (te : Te) (ru : Ru) (au : Au) (re : Re) (la : La) (sp : Sp) (le : Le)  (Q : Sp → Prop) (h : p_Sp_countAll  te ru sp Q) : rwV l y_Sp_countAll (wsOf y_Sp_countAll b_Sp_countAll 2 none) rm_Sp_countAll D (tyA cA) (wC ad cA) [.ref (ad 24)] (te, ru, au, re, la, sp, le) (fun u : Sp => (te, ru, au, re, la, u, le)) (fun u : Sp => Q u) := by
  refine rwV_of (by decide) (Nat.le_of_ble_eq_true rfl) ?_
  intro p e s m below meth c S hr hlk hK A hA I ls hl
  have hl : lv_has ls 2 [(0, .ref (ad 24))] := hl
  refine lv_iconst (v := (0 : Int32)) S.1 S.2.1 d_Sp_countAll_0 rfl ?_
  refine lv_istore_n (lv' := [(1, .int (0 : Int32)), (0, .ref (ad 24))]) S.1 S.2.1 d_Sp_countAll_1 rfl hl (by decide) rfl (fun ls hl => ?_)
  obtain ⟨n', h⟩ := h
  exact n_Sp_countAll_2 S hr hlk hK hA n' _ _ _ _ _ h (lv_sub hl [1, 0] rfl) I

set_option maxHeartbeats 4000000 in
set_option maxRecDepth 100000 in
theorem c_Sp_countOf (l : Launch) (D : va_G) (ad : Nat → Nat) (cA : ClassId × ClassId × ClassId) (te : Te) (ru : Ru) (au : Au) (re : Re) (la : La) (sp : Sp) (le : Le) (x1 : Int32) (Q : Int32 → Sp → Prop) (h : p_Sp_countOf x1 te ru sp Q) : rwI l y_Sp_countOf (wsOf y_Sp_countOf b_Sp_countOf 2 (some .int)) rm_Sp_countOf D (tyA cA) (wC ad cA) [.ref (ad 24), .int x1] (te, ru, au, re, la, sp, le) (fun u : Sp => (te, ru, au, re, la, u, le)) (fun (r : Int32) (u : Sp) => Q r u) := by
  refine rwI_of (by decide) (Nat.le_of_ble_eq_true rfl) ?_
  intro p e s m below meth c S hr hlk hK A hA I ls hl
  have hl : lv_has ls 2 [(0, .ref (ad 24)), (1, .int x1)] := hl
  refine lv_aload_n S.1 S.2.1 d_Sp_countOf_0 rfl (lv_at hl 0 rfl) ?_
  refine callV_rwv S (c_Sp_countAll l D ad cA _ _ _ _ _ _ _ _ h) (mkV S.2.2.2.2 ml_Sp_31 k_Sp_countAll rfl rfl ⟨Nat.le_of_ble_eq_true rfl, Nat.le_of_ble_eq_true rfl⟩) (rv_Sp hK I.1) hK hA I hl.1 rfl rfl (Nat.le_of_ble_eq_true rfl) d_Sp_countOf_1 ⟨Nat.zero_le _, Nat.zero_le _⟩ (fun sp1 H locs h I => ?_)
  refine lv_ldc2 (v := (1000000000 : Int64)) S.1 S.2.1 S.2.2.2.1 (S.2.2.2.2 _ kn_Sp_34) d_Sp_countOf_4 ?_
  refine lv_aload_n S.1 S.2.1 d_Sp_countOf_7 rfl (lv_at hl 0 rfl) ?_
  refine g_Sp_counts S hK I.1 d_Sp_countOf_8 ?_
  refine lv_iload_n S.1 S.2.1 d_Sp_countOf_11 rfl (lv_at hl 1 rfl) ?_
  obtain ⟨hin, h⟩ := h
  refine a_Sp_counts S hK I.1 hin d_Sp_countOf_12 ?_
  refine va_mmin_long S.1 S.2.1 (S.2.2.1.trans hl.1.symm) S.2.2.2.1 (S.2.2.2.2 _ ml_Sp_36) (S.2.2.2.2 _ st_minl) (S.2.2.2.2 _ in_Ma) (S.2.2.2.2 _ co_minl) (Nat.le_of_ble_eq_true rfl) (Nat.le_of_ble_eq_true rfl) (Nat.le_refl _) (Nat.le_refl _) d_Sp_countOf_13 ?_
  refine lv_l2i S.1 S.2.1 d_Sp_countOf_16 rfl ?_
  exact ret_rwi S hr hlk hK I h d_Sp_countOf_17

set_option maxHeartbeats 4000000 in
set_option maxRecDepth 100000 in
theorem c_Te_sizeOf (l : Launch) (D : va_G) (ad : Nat → Nat) (cA : ClassId × ClassId × ClassId) (te : Te) (ru : Ru) (au : Au) (re : Re) (la : La) (sp : Sp) (le : Le) (x1 : Int32) (Q : Int32 → Prop) (h : p_Te_sizeOf x1 te Q) : roI l y_Te_sizeOf (wsOf y_Te_sizeOf b_Te_sizeOf 2 (some .int)) rm_Te_sizeOf D (tyA cA) (wC ad cA) [.ref (ad 1), .int x1] (te, ru, au, re, la, sp, le) Q := by
  refine roI_of (by decide) (Nat.le_of_ble_eq_true rfl) ?_
  intro p e s m below meth c S hr hlk hK hP ls hl
  have hl : lv_has ls 2 [(0, .ref (ad 1)), (1, .int x1)] := hl
  refine lv_aload_n S.1 S.2.1 d_Te_sizeOf_0 rfl (lv_at hl 0 rfl) ?_
  refine g_Te_size S hK hP d_Te_sizeOf_1 ?_
  refine lv_iload_n S.1 S.2.1 d_Te_sizeOf_4 rfl (lv_at hl 1 rfl) ?_
  obtain ⟨hin, h⟩ := h
  refine a_Te_size S hK hP hin d_Te_sizeOf_5 ?_
  exact ret_roi S hr hlk h d_Te_sizeOf_6

set_option maxHeartbeats 4000000 in
set_option maxRecDepth 100000 in
theorem c_Te_symbolOf (l : Launch) (D : va_G) (ad : Nat → Nat) (cA : ClassId × ClassId × ClassId) (te : Te) (ru : Ru) (au : Au) (re : Re) (la : La) (sp : Sp) (le : Le) (x1 : Int32) (Q : Int32 → Prop) (h : p_Te_symbolOf x1 te Q) : roI l y_Te_symbolOf (wsOf y_Te_symbolOf b_Te_symbolOf 2 (some .int)) rm_Te_symbolOf D (tyA cA) (wC ad cA) [.ref (ad 1), .int x1] (te, ru, au, re, la, sp, le) Q := by
  refine roI_of (by decide) (Nat.le_of_ble_eq_true rfl) ?_
  intro p e s m below meth c S hr hlk hK hP ls hl
  have hl : lv_has ls 2 [(0, .ref (ad 1)), (1, .int x1)] := hl
  refine lv_aload_n S.1 S.2.1 d_Te_symbolOf_0 rfl (lv_at hl 0 rfl) ?_
  refine g_Te_symbol S hK hP d_Te_symbolOf_1 ?_
  refine lv_iload_n S.1 S.2.1 d_Te_symbolOf_4 rfl (lv_at hl 1 rfl) ?_
  obtain ⟨hin, h⟩ := h
  refine a_Te_symbol S hK hP hin d_Te_symbolOf_5 ?_
  exact ret_roi S hr hlk h d_Te_symbolOf_6

set_option maxHeartbeats 4000000 in
set_option maxRecDepth 100000 in
theorem c_Gr_of (l : Launch) (D : va_G) (ad : Nat → Nat) (cA : ClassId × ClassId × ClassId) (te : Te) (ru : Ru) (au : Au) (re : Re) (la : La) (sp : Sp) (le : Le) (x1 : Int32) (x2 : Int32) (Q : Int32 → Sp → Prop) (h : p_Gr_of x1 x2 te ru sp Q) : rwI l y_Gr_of (wsOf y_Gr_of b_Gr_of 3 (some .int)) rm_Gr_of D (tyA cA) (wC ad cA) [.ref (ad 0), .int x1, .int x2] (te, ru, au, re, la, sp, le) (fun u : Sp => (te, ru, au, re, la, u, le)) (fun (r : Int32) (u : Sp) => Q r u) := by
  refine rwI_of (by decide) (Nat.le_of_ble_eq_true rfl) ?_
  intro p e s m below meth c S hr hlk hK A hA I ls hl
  have hl : lv_has ls 3 [(0, .ref (ad 0)), (1, .int x1), (2, .int x2)] := hl
  refine lv_aload_n S.1 S.2.1 d_Gr_of_0 rfl (lv_at hl 0 rfl) ?_
  refine g_Gr_terms S hK I.1 d_Gr_of_1 ?_
  refine lv_iload_n S.1 S.2.1 d_Gr_of_4 rfl (lv_at hl 1 rfl) ?_
  refine callV_roi S (c_Te_isMade l D ad cA _ _ _ _ _ _ _ _ _ h) (mkV S.2.2.2.2 ml_Gr_80 k_Te_isMade rfl rfl ⟨Nat.le_of_ble_eq_true rfl, Nat.le_of_ble_eq_true rfl⟩) (rv_Te hK I.1) hK I.1 hl.1 rfl rfl (Nat.le_of_ble_eq_true rfl) d_Gr_of_5 ⟨Nat.zero_le _, Nat.zero_le _⟩ (fun r5 h => ?_)
  refine lv_if_ne (tgt := 13) S.1 S.2.1 d_Gr_of_8 (by decide) (fun hc => ?_) (fun hc => ?_)
  · have h := h.1 hc
    refine lv_iload_n S.1 S.2.1 d_Gr_of_13 rfl (lv_at hl 2 rfl) ?_
    rcases sw_cases x2 4 (by decide) with hc | hc | ⟨j, hj, hx⟩
    · refine lv_tableOut (tgt := 93) S.1 S.2.1 d_Gr_of_14 (Or.inl hc) (by decide) ?_
      have h := h.1 (Or.inl hc)
      refine lv_iconst (v := (-1 : Int32)) S.1 S.2.1 d_Gr_of_93 rfl ?_
      exact ret_rwi S hr hlk hK I h d_Gr_of_94
    · refine lv_tableOut (tgt := 93) S.1 S.2.1 d_Gr_of_14 (Or.inr hc) (by decide) ?_
      have h := h.1 (Or.inr hc)
      refine lv_iconst (v := (-1 : Int32)) S.1 S.2.1 d_Gr_of_93 rfl ?_
      exact ret_rwi S hr hlk hK I h d_Gr_of_94
    · have hj2 : j = 0 ∨ j = 1 ∨ j = 2 ∨ j = 3 ∨ j = 4 := by omega
      rcases hj2 with rfl | rfl | rfl | rfl | rfl
      · have h := h.2.1 hx
        refine lv_tableIn (tgt := 48) (off := 34) S.1 S.2.1 d_Gr_of_14 (by rw [hx]; decide) (by rw [hx]; decide) (by rw [hx]; decide) (by decide) ?_
        refine lv_aload_n S.1 S.2.1 d_Gr_of_48 rfl (lv_at hl 0 rfl) ?_
        refine g_Gr_terms S hK I.1 d_Gr_of_49 ?_
        refine lv_iload_n S.1 S.2.1 d_Gr_of_52 rfl (lv_at hl 1 rfl) ?_
        refine callV_roi S (c_Te_symbolOf l D ad cA _ _ _ _ _ _ _ _ _ h) (mkV S.2.2.2.2 ml_Gr_84 k_Te_symbolOf rfl rfl ⟨Nat.le_of_ble_eq_true rfl, Nat.le_of_ble_eq_true rfl⟩) (rv_Te hK I.1) hK I.1 hl.1 rfl rfl (Nat.le_of_ble_eq_true rfl) d_Gr_of_53 ⟨Nat.zero_le _, Nat.zero_le _⟩ (fun r53 h => ?_)
        exact ret_rwi S hr hlk hK I h d_Gr_of_56
      · have h := h.2.2.1 hx
        refine lv_tableIn (tgt := 57) (off := 43) S.1 S.2.1 d_Gr_of_14 (by rw [hx]; decide) (by rw [hx]; decide) (by rw [hx]; decide) (by decide) ?_
        refine lv_aload_n S.1 S.2.1 d_Gr_of_57 rfl (lv_at hl 0 rfl) ?_
        refine g_Gr_terms S hK I.1 d_Gr_of_58 ?_
        refine lv_iload_n S.1 S.2.1 d_Gr_of_61 rfl (lv_at hl 1 rfl) ?_
        refine callV_roi S (c_Te_firstOf l D ad cA _ _ _ _ _ _ _ _ _ h) (mkV S.2.2.2.2 ml_Gr_88 k_Te_firstOf rfl rfl ⟨Nat.le_of_ble_eq_true rfl, Nat.le_of_ble_eq_true rfl⟩) (rv_Te hK I.1) hK I.1 hl.1 rfl rfl (Nat.le_of_ble_eq_true rfl) d_Gr_of_62 ⟨Nat.zero_le _, Nat.zero_le _⟩ (fun r62 h => ?_)
        exact ret_rwi S hr hlk hK I h d_Gr_of_65
      · have h := h.2.2.2.1 hx
        refine lv_tableIn (tgt := 66) (off := 52) S.1 S.2.1 d_Gr_of_14 (by rw [hx]; decide) (by rw [hx]; decide) (by rw [hx]; decide) (by decide) ?_
        refine lv_aload_n S.1 S.2.1 d_Gr_of_66 rfl (lv_at hl 0 rfl) ?_
        refine g_Gr_terms S hK I.1 d_Gr_of_67 ?_
        refine lv_iload_n S.1 S.2.1 d_Gr_of_70 rfl (lv_at hl 1 rfl) ?_
        refine callV_roi S (c_Te_secondOf l D ad cA _ _ _ _ _ _ _ _ _ h) (mkV S.2.2.2.2 ml_Gr_91 k_Te_secondOf rfl rfl ⟨Nat.le_of_ble_eq_true rfl, Nat.le_of_ble_eq_true rfl⟩) (rv_Te hK I.1) hK I.1 hl.1 rfl rfl (Nat.le_of_ble_eq_true rfl) d_Gr_of_71 ⟨Nat.zero_le _, Nat.zero_le _⟩ (fun r71 h => ?_)
        exact ret_rwi S hr hlk hK I h d_Gr_of_74
      · have h := h.2.2.2.2.1 hx
        refine lv_tableIn (tgt := 75) (off := 61) S.1 S.2.1 d_Gr_of_14 (by rw [hx]; decide) (by rw [hx]; decide) (by rw [hx]; decide) (by decide) ?_
        refine lv_aload_n S.1 S.2.1 d_Gr_of_75 rfl (lv_at hl 0 rfl) ?_
        refine g_Gr_terms S hK I.1 d_Gr_of_76 ?_
        refine lv_iload_n S.1 S.2.1 d_Gr_of_79 rfl (lv_at hl 1 rfl) ?_
        refine callV_roi S (c_Te_sizeOf l D ad cA _ _ _ _ _ _ _ _ _ h) (mkV S.2.2.2.2 ml_Gr_94 k_Te_sizeOf rfl rfl ⟨Nat.le_of_ble_eq_true rfl, Nat.le_of_ble_eq_true rfl⟩) (rv_Te hK I.1) hK I.1 hl.1 rfl rfl (Nat.le_of_ble_eq_true rfl) d_Gr_of_80 ⟨Nat.zero_le _, Nat.zero_le _⟩ (fun r80 h => ?_)
        exact ret_rwi S hr hlk hK I h d_Gr_of_83
      · have h := h.2.2.2.2.2 hx
        refine lv_tableIn (tgt := 84) (off := 70) S.1 S.2.1 d_Gr_of_14 (by rw [hx]; decide) (by rw [hx]; decide) (by rw [hx]; decide) (by decide) ?_
        refine lv_aload_n S.1 S.2.1 d_Gr_of_84 rfl (lv_at hl 0 rfl) ?_
        refine g_Gr_steps S hK I.1 d_Gr_of_85 ?_
        refine lv_iload_n S.1 S.2.1 d_Gr_of_88 rfl (lv_at hl 1 rfl) ?_
        refine callV_rwi S (c_Sp_countOf l D ad cA _ _ _ _ _ _ _ _ _ h) (mkV S.2.2.2.2 ml_Gr_97 k_Sp_countOf rfl rfl ⟨Nat.le_of_ble_eq_true rfl, Nat.le_of_ble_eq_true rfl⟩) (rv_Sp hK I.1) hK hA I hl.1 rfl rfl (Nat.le_of_ble_eq_true rfl) d_Gr_of_89 ⟨Nat.zero_le _, Nat.zero_le _⟩ (fun r89 sp89 H locs h I => ?_)
        exact ret_rwi S hr hlk hK I h d_Gr_of_92
  · have h := h.2 hc
    refine lv_iconst (v := (-1 : Int32)) S.1 S.2.1 d_Gr_of_11 rfl ?_
    exact ret_rwi S hr hlk hK I h d_Gr_of_12

set_option maxHeartbeats 4000000 in
set_option maxRecDepth 100000 in
theorem c_Ru_dropLast (l : Launch) (D : va_G) (ad : Nat → Nat) (cA : ClassId × ClassId × ClassId) (te : Te) (ru : Ru) (au : Au) (re : Re) (la : La) (sp : Sp) (le : Le)  (Q : Int32 → Ru → Prop) (h : p_Ru_dropLast  ru Q) : rwI l y_Ru_dropLast (wsOf y_Ru_dropLast b_Ru_dropLast 1 (some .boolean)) rm_Ru_dropLast D (tyA cA) (wC ad cA) [.ref (ad 9)] (te, ru, au, re, la, sp, le) (fun u : Ru => (te, u, au, re, la, sp, le)) (fun (r : Int32) (u : Ru) => Q r u) := by
  refine rwI_of (by decide) (Nat.le_of_ble_eq_true rfl) ?_
  intro p e s m below meth c S hr hlk hK A hA I ls hl
  have hl : lv_has ls 1 [(0, .ref (ad 9))] := hl
  refine lv_aload_n S.1 S.2.1 d_Ru_dropLast_0 rfl (lv_at hl 0 rfl) ?_
  refine g_Ru_count S hK I.1 d_Ru_dropLast_1 ?_
  refine lv_if_ne (tgt := 9) S.1 S.2.1 d_Ru_dropLast_4 (by decide) (fun hc => ?_) (fun hc => ?_)
  · have h := h.1 hc
    refine lv_aload_n S.1 S.2.1 d_Ru_dropLast_9 rfl (lv_at hl 0 rfl) ?_
    refine lv_dup S.1 S.2.1 d_Ru_dropLast_10 rfl ?_
    refine g_Ru_count S hK I.1 d_Ru_dropLast_11 ?_
    refine lv_iconst (v := (1 : Int32)) S.1 S.2.1 d_Ru_dropLast_14 rfl ?_
    refine lv_isub S.1 S.2.1 d_Ru_dropLast_15 ?_
    refine q_Ru_count S hK I d_Ru_dropLast_16 (fun H locs ru16 eru16 I => ?_)
    have h := h ru16 eru16
    refine lv_aload_n S.1 S.2.1 d_Ru_dropLast_19 rfl (lv_at hl 0 rfl) ?_
    refine lv_dup S.1 S.2.1 d_Ru_dropLast_20 rfl ?_
    refine g_Ru_changes S hK I.1 d_Ru_dropLast_21 ?_
    refine lv_iconst (v := (1 : Int32)) S.1 S.2.1 d_Ru_dropLast_24 rfl ?_
    refine lv_iadd S.1 S.2.1 d_Ru_dropLast_25 ?_
    refine q_Ru_changes S hK I d_Ru_dropLast_26 (fun H locs ru26 eru26 I => ?_)
    have h := h ru26 eru26
    refine lv_iconst (v := (1 : Int32)) S.1 S.2.1 d_Ru_dropLast_29 rfl ?_
    exact ret_rwz S hr hlk hK (by decide) I h d_Ru_dropLast_30
  · have h := h.2 hc
    refine lv_iconst (v := (0 : Int32)) S.1 S.2.1 d_Ru_dropLast_7 rfl ?_
    exact ret_rwz S hr hlk hK (by decide) I h d_Ru_dropLast_8

set_option maxHeartbeats 4000000 in
set_option maxRecDepth 100000 in
theorem c_Gr_cut (l : Launch) (D : va_G) (ad : Nat → Nat) (cA : ClassId × ClassId × ClassId) (te : Te) (ru : Ru) (au : Au) (re : Re) (la : La) (sp : Sp) (le : Le)  (Q : Int32 → Ru → Prop) (h : p_Gr_cut  ru Q) : rwI l y_Gr_cut (wsOf y_Gr_cut b_Gr_cut 1 (some .boolean)) rm_Gr_cut D (tyA cA) (wC ad cA) [.ref (ad 0)] (te, ru, au, re, la, sp, le) (fun u : Ru => (te, u, au, re, la, sp, le)) (fun (r : Int32) (u : Ru) => Q r u) := by
  refine rwI_of (by decide) (Nat.le_of_ble_eq_true rfl) ?_
  intro p e s m below meth c S hr hlk hK A hA I ls hl
  have hl : lv_has ls 1 [(0, .ref (ad 0))] := hl
  refine lv_aload_n S.1 S.2.1 d_Gr_cut_0 rfl (lv_at hl 0 rfl) ?_
  refine g_Gr_rules S hK I.1 d_Gr_cut_1 ?_
  refine callV_rwi S (c_Ru_dropLast l D ad cA _ _ _ _ _ _ _ _ h) (mkV S.2.2.2.2 ml_Gr_104 k_Ru_dropLast rfl rfl ⟨Nat.le_of_ble_eq_true rfl, Nat.le_of_ble_eq_true rfl⟩) (rv_Ru hK I.1) hK hA I hl.1 rfl rfl (Nat.le_of_ble_eq_true rfl) d_Gr_cut_4 ⟨Nat.zero_le _, Nat.zero_le _⟩ (fun r4 ru4 H locs h I => ?_)
  obtain ⟨hz, h⟩ := h
  exact ret_rwz S hr hlk hK (isB_n hz) I h d_Gr_cut_7

set_option maxHeartbeats 4000000 in
set_option maxRecDepth 100000 in
theorem c_Gr_isState (l : Launch) (D : va_G) (ad : Nat → Nat) (cA : ClassId × ClassId × ClassId) (te : Te) (ru : Ru) (au : Au) (re : Re) (la : La) (sp : Sp) (le : Le) (x0 : Int32) (Q : Int32 → Prop) (h : p_Gr_isState x0  Q) : roI l y_Gr_isState (wsOf y_Gr_isState b_Gr_isState 1 (some .boolean)) rm_Gr_isState D (tyA cA) (wC ad cA) [.int x0] (te, ru, au, re, la, sp, le) Q := by
  refine roI_of (by decide) (Nat.le_of_ble_eq_true rfl) ?_
  intro p e s m below meth c S hr hlk hK hP ls hl
  have hl : lv_has ls 1 [(0, .int x0)] := hl
  refine lv_iload_n S.1 S.2.1 d_Gr_isState_0 rfl (lv_at hl 0 rfl) ?_
  refine lv_if_lt (tgt := 14) S.1 S.2.1 d_Gr_isState_1 (by decide) (fun hc => ?_) (fun hc => ?_)
  · have h := h.1 hc
    refine lv_iconst (v := (0 : Int32)) S.1 S.2.1 d_Gr_isState_14 rfl ?_
    exact ret_roz S hr hlk (by decide) h d_Gr_isState_15
  · have h := h.2 hc
    refine lv_iload_n S.1 S.2.1 d_Gr_isState_4 rfl (lv_at hl 0 rfl) ?_
    refine lv_bipush (v := (6 : Int32)) S.1 S.2.1 d_Gr_isState_5 rfl ?_
    refine lv_icmp_ge (tgt := 14) S.1 S.2.1 d_Gr_isState_7 (by decide) (fun hc => ?_) (fun hc => ?_)
    · have h := h.1 hc
      refine lv_iconst (v := (0 : Int32)) S.1 S.2.1 d_Gr_isState_14 rfl ?_
      exact ret_roz S hr hlk (by decide) h d_Gr_isState_15
    · have h := h.2 hc
      refine lv_iconst (v := (1 : Int32)) S.1 S.2.1 d_Gr_isState_10 rfl ?_
      refine lv_goto (tgt := 15) S.1 S.2.1 d_Gr_isState_11 (by decide) ?_
      exact ret_roz S hr hlk (by decide) h d_Gr_isState_15

set_option maxHeartbeats 4000000 in
set_option maxRecDepth 100000 in
theorem n_Au_setFinal_25 {p : Program} {l : Launch} {e : Env} {s : State} {m : MethodId} {args : Array Value} {below : List Frame} {meth : Method} {c : Code} {D : va_G} {A : Nat → Prop} {ad : Nat → Nat} {cA : ClassId × ClassId × ClassId} {te : Te} {ru : Ru} {re : Re} {la : La} {sp : Sp} {le : Le} {x1 : Int32} {x2 : Int32} {Q : Int32 → Au → Prop} (S : CallFix p m c b_Au_setFinal 4 s args gtbl R_Au) (hr : meth.sig.returnType = (some .boolean)) (hlk : meth.locks = false) (hK : gK D (tyA cA) s) (hA : ∀ q : Nat, s.heap.size ≤ q → A q) : ∀ (ls : Array Slot) (H : Heap) (locs : List Loc) (y0 : Int32) (au : Au), p_Au_setFinal_25 x1 x2 Q y0 au → lv_has ls 4 [(0, .ref (ad 12))] → gIn D A s (wC ad cA) (te, ru, au, re, la, sp, le) H locs → W p l e rm_Au_setFinal s m args below meth c H locs 0 0 (qI D (tyA cA) A (wC ad cA) (fun u : Au => (te, ru, u, re, la, sp, le)) (fun (r : Int32) (u : Au) => Q r u) below args s) (F0 m 25 ls [.int y0]) := by
  intro ls H locs y0 au h hl I
  refine lv_istore_n (lv' := [(3, .int y0), (0, .ref (ad 12))]) S.1 S.2.1 d_Au_setFinal_25 rfl hl (by decide) rfl (fun ls hl => ?_)
  refine lv_iload_n S.1 S.2.1 d_Au_setFinal_26 rfl (lv_at hl 0 rfl) ?_
  refine lv_aload_n S.1 S.2.1 d_Au_setFinal_27 rfl (lv_at hl 1 rfl) ?_
  refine g_Au_finals S hK I.1 d_Au_setFinal_28 ?_
  refine lv_icmp_ne (tgt := 36) S.1 S.2.1 d_Au_setFinal_31 (by decide) (fun hc => ?_) (fun hc => ?_)
  · have h := h.1 hc
    refine lv_aload_n S.1 S.2.1 d_Au_setFinal_36 rfl (lv_at hl 1 rfl) ?_
    refine lv_iload_n S.1 S.2.1 d_Au_setFinal_37 rfl (lv_at hl 0 rfl) ?_
    refine q_Au_finals S hK I d_Au_setFinal_38 (fun H locs au38 eau38 I => ?_)
    have h := h au38 eau38
    refine lv_iconst (v := (1 : Int32)) S.1 S.2.1 d_Au_setFinal_41 rfl ?_
    exact ret_rwz S hr hlk hK (by decide) I h d_Au_setFinal_42
  · have h := h.2 hc
    refine lv_iconst (v := (0 : Int32)) S.1 S.2.1 d_Au_setFinal_34 rfl ?_
    exact ret_rwz S hr hlk hK (by decide) I h d_Au_setFinal_35
set_option maxHeartbeats 4000000 in
set_option maxRecDepth 100000 in
theorem c_Au_setFinal (l : Launch) (D : va_G) (ad : Nat → Nat) (cA : ClassId × ClassId × ClassId) (te : Te) (ru : Ru) (au : Au) (re : Re) (la : La) (sp : Sp) (le : Le) (x1 : Int32) (x2 : Int32) (Q : Int32 → Au → Prop) (h : p_Au_setFinal x1 x2 au Q) : rwI l y_Au_setFinal (wsOf y_Au_setFinal b_Au_setFinal 4 (some .boolean)) rm_Au_setFinal D (tyA cA) (wC ad cA) [.ref (ad 12), .int x1, .int x2] (te, ru, au, re, la, sp, le) (fun u : Au => (te, ru, u, re, la, sp, le)) (fun (r : Int32) (u : Au) => Q r u) := by
  refine rwI_of (by decide) (Nat.le_of_ble_eq_true rfl) ?_
  intro p e s m below meth c S hr hlk hK A hA I ls hl
  have hl : lv_has ls 4 [(0, .ref (ad 12)), (1, .int x1), (2, .int x2)] := hl
  refine lv_iload_n S.1 S.2.1 d_Au_setFinal_0 rfl (lv_at hl 2 rfl) ?_
  refine lv_if_eq (tgt := 15) S.1 S.2.1 d_Au_setFinal_1 (by decide) (fun hc => ?_) (fun hc => ?_)
  · have h := h.1 hc
    refine lv_aload_n S.1 S.2.1 d_Au_setFinal_15 rfl (lv_at hl 0 rfl) ?_
    refine g_Au_finals S hK I.1 d_Au_setFinal_16 ?_
    refine lv_iconst (v := (1 : Int32)) S.1 S.2.1 d_Au_setFinal_19 rfl ?_
    refine lv_iload_n S.1 S.2.1 d_Au_setFinal_20 rfl (lv_at hl 1 rfl) ?_
    refine lv_ishl S.1 S.2.1 d_Au_setFinal_21 ?_
    refine lv_iconst (v := (-1 : Int32)) S.1 S.2.1 d_Au_setFinal_22 rfl ?_
    refine lv_ixor S.1 S.2.1 d_Au_setFinal_23 ?_
    refine lv_iand S.1 S.2.1 d_Au_setFinal_24 ?_
    exact n_Au_setFinal_25 S hr hlk hK hA _ _ _ _ _ h (lv_sub hl [0] rfl) I
  · have h := h.2 hc
    refine lv_aload_n S.1 S.2.1 d_Au_setFinal_4 rfl (lv_at hl 0 rfl) ?_
    refine g_Au_finals S hK I.1 d_Au_setFinal_5 ?_
    refine lv_iconst (v := (1 : Int32)) S.1 S.2.1 d_Au_setFinal_8 rfl ?_
    refine lv_iload_n S.1 S.2.1 d_Au_setFinal_9 rfl (lv_at hl 1 rfl) ?_
    refine lv_ishl S.1 S.2.1 d_Au_setFinal_10 ?_
    refine lv_ior S.1 S.2.1 d_Au_setFinal_11 ?_
    refine lv_goto (tgt := 25) S.1 S.2.1 d_Au_setFinal_12 (by decide) ?_
    exact n_Au_setFinal_25 S hr hlk hK hA _ _ _ _ _ h (lv_sub hl [0] rfl) I

set_option maxHeartbeats 4000000 in
set_option maxRecDepth 100000 in
theorem c_Gr_mark (l : Launch) (D : va_G) (ad : Nat → Nat) (cA : ClassId × ClassId × ClassId) (te : Te) (ru : Ru) (au : Au) (re : Re) (la : La) (sp : Sp) (le : Le) (x1 : Int32) (x2 : Int32) (Q : Int32 → Au → Prop) (h : p_Gr_mark x1 x2 au Q) : rwI l y_Gr_mark (wsOf y_Gr_mark b_Gr_mark 3 (some .boolean)) rm_Gr_mark D (tyA cA) (wC ad cA) [.ref (ad 0), .int x1, .int x2] (te, ru, au, re, la, sp, le) (fun u : Au => (te, ru, u, re, la, sp, le)) (fun (r : Int32) (u : Au) => Q r u) := by
  refine rwI_of (by decide) (Nat.le_of_ble_eq_true rfl) ?_
  intro p e s m below meth c S hr hlk hK A hA I ls hl
  have hl : lv_has ls 3 [(0, .ref (ad 0)), (1, .int x1), (2, .int x2)] := hl
  refine lv_iload_n S.1 S.2.1 d_Gr_mark_0 rfl (lv_at hl 1 rfl) ?_
  refine callS_roi S (c_Gr_isState l D ad cA _ _ _ _ _ _ _ _ _ h) (mkS S.2.2.2.2 ml_Gr_116 k_Gr_isState rfl rfl ⟨Nat.le_of_ble_eq_true rfl, Nat.le_of_ble_eq_true rfl⟩) hK I.1 hl.1 rfl rfl (Nat.le_of_ble_eq_true rfl) d_Gr_mark_1 ⟨Nat.zero_le _, Nat.zero_le _⟩ (fun r1 h => ?_)
  refine lv_if_eq (tgt := 23) S.1 S.2.1 d_Gr_mark_4 (by decide) (fun hc => ?_) (fun hc => ?_)
  · have h := h.1 hc
    refine lv_iconst (v := (0 : Int32)) S.1 S.2.1 d_Gr_mark_23 rfl ?_
    exact ret_rwz S hr hlk hK (by decide) I h d_Gr_mark_24
  · have h := h.2 hc
    refine lv_aload_n S.1 S.2.1 d_Gr_mark_7 rfl (lv_at hl 0 rfl) ?_
    refine g_Gr_automaton S hK I.1 d_Gr_mark_8 ?_
    refine lv_iload_n S.1 S.2.1 d_Gr_mark_11 rfl (lv_at hl 1 rfl) ?_
    refine lv_iload_n S.1 S.2.1 d_Gr_mark_12 rfl (lv_at hl 2 rfl) ?_
    refine callV_rwi S (c_Au_setFinal l D ad cA _ _ _ _ _ _ _ _ _ _ h) (mkV S.2.2.2.2 ml_Gr_119 k_Au_setFinal rfl rfl ⟨Nat.le_of_ble_eq_true rfl, Nat.le_of_ble_eq_true rfl⟩) (rv_Au hK I.1) hK hA I hl.1 rfl rfl (Nat.le_of_ble_eq_true rfl) d_Gr_mark_13 ⟨Nat.zero_le _, Nat.zero_le _⟩ (fun r13 au13 H locs h I => ?_)
    refine lv_if_eq (tgt := 23) S.1 S.2.1 d_Gr_mark_16 (by decide) (fun hc => ?_) (fun hc => ?_)
    · have h := h.1 hc
      refine lv_iconst (v := (0 : Int32)) S.1 S.2.1 d_Gr_mark_23 rfl ?_
      exact ret_rwz S hr hlk hK (by decide) I h d_Gr_mark_24
    · have h := h.2 hc
      refine lv_iconst (v := (1 : Int32)) S.1 S.2.1 d_Gr_mark_19 rfl ?_
      refine lv_goto (tgt := 24) S.1 S.2.1 d_Gr_mark_20 (by decide) ?_
      exact ret_rwz S hr hlk hK (by decide) I h d_Gr_mark_24

set_option maxHeartbeats 4000000 in
set_option maxRecDepth 100000 in
theorem c_Te_placesOf (l : Launch) (D : va_G) (ad : Nat → Nat) (cA : ClassId × ClassId × ClassId) (te : Te) (ru : Ru) (au : Au) (re : Re) (la : La) (sp : Sp) (le : Le) (x1 : Int32) (Q : Int32 → Prop) (h : p_Te_placesOf x1 te Q) : roI l y_Te_placesOf (wsOf y_Te_placesOf b_Te_placesOf 2 (some .int)) rm_Te_placesOf D (tyA cA) (wC ad cA) [.ref (ad 1), .int x1] (te, ru, au, re, la, sp, le) Q := by
  refine roI_of (by decide) (Nat.le_of_ble_eq_true rfl) ?_
  intro p e s m below meth c S hr hlk hK hP ls hl
  have hl : lv_has ls 2 [(0, .ref (ad 1)), (1, .int x1)] := hl
  refine lv_aload_n S.1 S.2.1 d_Te_placesOf_0 rfl (lv_at hl 0 rfl) ?_
  refine g_Te_places S hK hP d_Te_placesOf_1 ?_
  refine lv_iload_n S.1 S.2.1 d_Te_placesOf_4 rfl (lv_at hl 1 rfl) ?_
  obtain ⟨hin, h⟩ := h
  refine a_Te_places S hK hP hin d_Te_placesOf_5 ?_
  exact ret_roi S hr hlk h d_Te_placesOf_6

set_option maxHeartbeats 4000000 in
set_option maxRecDepth 100000 in
theorem c_Au_finals (l : Launch) (D : va_G) (ad : Nat → Nat) (cA : ClassId × ClassId × ClassId) (te : Te) (ru : Ru) (au : Au) (re : Re) (la : La) (sp : Sp) (le : Le)  (Q : Int32 → Prop) (h : p_Au_finals  au Q) : roI l y_Au_finals (wsOf y_Au_finals b_Au_finals 1 (some .int)) rm_Au_finals D (tyA cA) (wC ad cA) [.ref (ad 12)] (te, ru, au, re, la, sp, le) Q := by
  refine roI_of (by decide) (Nat.le_of_ble_eq_true rfl) ?_
  intro p e s m below meth c S hr hlk hK hP ls hl
  have hl : lv_has ls 1 [(0, .ref (ad 12))] := hl
  refine lv_aload_n S.1 S.2.1 d_Au_finals_0 rfl (lv_at hl 0 rfl) ?_
  refine g_Au_finals S hK hP d_Au_finals_1 ?_
  exact ret_roi S hr hlk h d_Au_finals_4

set_option maxHeartbeats 4000000 in
set_option maxRecDepth 100000 in
theorem c_Au_count (l : Launch) (D : va_G) (ad : Nat → Nat) (cA : ClassId × ClassId × ClassId) (te : Te) (ru : Ru) (au : Au) (re : Re) (la : La) (sp : Sp) (le : Le)  (Q : Int32 → Prop) (h : p_Au_count  au Q) : roI l y_Au_count (wsOf y_Au_count b_Au_count 1 (some .int)) rm_Au_count D (tyA cA) (wC ad cA) [.ref (ad 12)] (te, ru, au, re, la, sp, le) Q := by
  refine roI_of (by decide) (Nat.le_of_ble_eq_true rfl) ?_
  intro p e s m below meth c S hr hlk hK hP ls hl
  have hl : lv_has ls 1 [(0, .ref (ad 12))] := hl
  refine lv_aload_n S.1 S.2.1 d_Au_count_0 rfl (lv_at hl 0 rfl) ?_
  refine g_Au_count S hK hP d_Au_count_1 ?_
  exact ret_roi S hr hlk h d_Au_count_4

set_option maxHeartbeats 4000000 in
set_option maxRecDepth 100000 in
theorem c_Ru_count (l : Launch) (D : va_G) (ad : Nat → Nat) (cA : ClassId × ClassId × ClassId) (te : Te) (ru : Ru) (au : Au) (re : Re) (la : La) (sp : Sp) (le : Le)  (Q : Int32 → Prop) (h : p_Ru_count  ru Q) : roI l y_Ru_count (wsOf y_Ru_count b_Ru_count 1 (some .int)) rm_Ru_count D (tyA cA) (wC ad cA) [.ref (ad 9)] (te, ru, au, re, la, sp, le) Q := by
  refine roI_of (by decide) (Nat.le_of_ble_eq_true rfl) ?_
  intro p e s m below meth c S hr hlk hK hP ls hl
  have hl : lv_has ls 1 [(0, .ref (ad 9))] := hl
  refine lv_aload_n S.1 S.2.1 d_Ru_count_0 rfl (lv_at hl 0 rfl) ?_
  refine g_Ru_count S hK hP d_Ru_count_1 ?_
  exact ret_roi S hr hlk h d_Ru_count_4

set_option maxHeartbeats 4000000 in
set_option maxRecDepth 100000 in
theorem c_Gr_look (l : Launch) (D : va_G) (ad : Nat → Nat) (cA : ClassId × ClassId × ClassId) (te : Te) (ru : Ru) (au : Au) (re : Re) (la : La) (sp : Sp) (le : Le) (x1 : Int32) (Q : Int32 → Prop) (h : p_Gr_look x1 te ru au Q) : roI l y_Gr_look (wsOf y_Gr_look b_Gr_look 2 (some .int)) rm_Gr_look D (tyA cA) (wC ad cA) [.ref (ad 0), .int x1] (te, ru, au, re, la, sp, le) Q := by
  refine roI_of (by decide) (Nat.le_of_ble_eq_true rfl) ?_
  intro p e s m below meth c S hr hlk hK hP ls hl
  have hl : lv_has ls 2 [(0, .ref (ad 0)), (1, .int x1)] := hl
  refine lv_iload_n S.1 S.2.1 d_Gr_look_0 rfl (lv_at hl 1 rfl) ?_
  rcases sw_cases x1 3 (by decide) with hc | hc | ⟨j, hj, hx⟩
  · refine lv_tableOut (tgt := 64) S.1 S.2.1 d_Gr_look_1 (Or.inl hc) (by decide) ?_
    have h := h.1 (Or.inl hc)
    refine lv_iload_n S.1 S.2.1 d_Gr_look_64 rfl (lv_at hl 1 rfl) ?_
    refine lv_iconst (v := (4 : Int32)) S.1 S.2.1 d_Gr_look_65 rfl ?_
    refine lv_icmp_lt (tgt := 88) S.1 S.2.1 d_Gr_look_66 (by decide) (fun hc => ?_) (fun hc => ?_)
    · have h := h.1 hc
      refine lv_iconst (v := (-1 : Int32)) S.1 S.2.1 d_Gr_look_88 rfl ?_
      exact ret_roi S hr hlk h d_Gr_look_89
    · have h := h.2 hc
      refine lv_iload_n S.1 S.2.1 d_Gr_look_69 rfl (lv_at hl 1 rfl) ?_
      refine lv_bipush (v := (10 : Int32)) S.1 S.2.1 d_Gr_look_70 rfl ?_
      refine lv_icmp_ge (tgt := 88) S.1 S.2.1 d_Gr_look_72 (by decide) (fun hc => ?_) (fun hc => ?_)
      · have h := h.1 hc
        refine lv_iconst (v := (-1 : Int32)) S.1 S.2.1 d_Gr_look_88 rfl ?_
        exact ret_roi S hr hlk h d_Gr_look_89
      · have h := h.2 hc
        refine lv_aload_n S.1 S.2.1 d_Gr_look_75 rfl (lv_at hl 0 rfl) ?_
        refine g_Gr_terms S hK hP d_Gr_look_76 ?_
        refine lv_iload_n S.1 S.2.1 d_Gr_look_79 rfl (lv_at hl 1 rfl) ?_
        refine lv_iconst (v := (4 : Int32)) S.1 S.2.1 d_Gr_look_80 rfl ?_
        refine lv_isub S.1 S.2.1 d_Gr_look_81 ?_
        refine callV_roi S (c_Te_placesOf l D ad cA _ _ _ _ _ _ _ _ _ h) (mkV S.2.2.2.2 ml_Gr_167 k_Te_placesOf rfl rfl ⟨Nat.le_of_ble_eq_true rfl, Nat.le_of_ble_eq_true rfl⟩) (rv_Te hK hP) hK hP hl.1 rfl rfl (Nat.le_of_ble_eq_true rfl) d_Gr_look_82 ⟨Nat.zero_le _, Nat.zero_le _⟩ (fun r82 h => ?_)
        refine lv_goto (tgt := 89) S.1 S.2.1 d_Gr_look_85 (by decide) ?_
        exact ret_roi S hr hlk h d_Gr_look_89
  · refine lv_tableOut (tgt := 64) S.1 S.2.1 d_Gr_look_1 (Or.inr hc) (by decide) ?_
    have h := h.1 (Or.inr hc)
    refine lv_iload_n S.1 S.2.1 d_Gr_look_64 rfl (lv_at hl 1 rfl) ?_
    refine lv_iconst (v := (4 : Int32)) S.1 S.2.1 d_Gr_look_65 rfl ?_
    refine lv_icmp_lt (tgt := 88) S.1 S.2.1 d_Gr_look_66 (by decide) (fun hc => ?_) (fun hc => ?_)
    · have h := h.1 hc
      refine lv_iconst (v := (-1 : Int32)) S.1 S.2.1 d_Gr_look_88 rfl ?_
      exact ret_roi S hr hlk h d_Gr_look_89
    · have h := h.2 hc
      refine lv_iload_n S.1 S.2.1 d_Gr_look_69 rfl (lv_at hl 1 rfl) ?_
      refine lv_bipush (v := (10 : Int32)) S.1 S.2.1 d_Gr_look_70 rfl ?_
      refine lv_icmp_ge (tgt := 88) S.1 S.2.1 d_Gr_look_72 (by decide) (fun hc => ?_) (fun hc => ?_)
      · have h := h.1 hc
        refine lv_iconst (v := (-1 : Int32)) S.1 S.2.1 d_Gr_look_88 rfl ?_
        exact ret_roi S hr hlk h d_Gr_look_89
      · have h := h.2 hc
        refine lv_aload_n S.1 S.2.1 d_Gr_look_75 rfl (lv_at hl 0 rfl) ?_
        refine g_Gr_terms S hK hP d_Gr_look_76 ?_
        refine lv_iload_n S.1 S.2.1 d_Gr_look_79 rfl (lv_at hl 1 rfl) ?_
        refine lv_iconst (v := (4 : Int32)) S.1 S.2.1 d_Gr_look_80 rfl ?_
        refine lv_isub S.1 S.2.1 d_Gr_look_81 ?_
        refine callV_roi S (c_Te_placesOf l D ad cA _ _ _ _ _ _ _ _ _ h) (mkV S.2.2.2.2 ml_Gr_167 k_Te_placesOf rfl rfl ⟨Nat.le_of_ble_eq_true rfl, Nat.le_of_ble_eq_true rfl⟩) (rv_Te hK hP) hK hP hl.1 rfl rfl (Nat.le_of_ble_eq_true rfl) d_Gr_look_82 ⟨Nat.zero_le _, Nat.zero_le _⟩ (fun r82 h => ?_)
        refine lv_goto (tgt := 89) S.1 S.2.1 d_Gr_look_85 (by decide) ?_
        exact ret_roi S hr hlk h d_Gr_look_89
  · have hj2 : j = 0 ∨ j = 1 ∨ j = 2 ∨ j = 3 := by omega
    rcases hj2 with rfl | rfl | rfl | rfl
    · have h := h.2.1 hx
      refine lv_tableIn (tgt := 32) (off := 31) S.1 S.2.1 d_Gr_look_1 (by rw [hx]; decide) (by rw [hx]; decide) (by rw [hx]; decide) (by decide) ?_
      refine lv_aload_n S.1 S.2.1 d_Gr_look_32 rfl (lv_at hl 0 rfl) ?_
      refine g_Gr_terms S hK hP d_Gr_look_33 ?_
      refine callV_roi S (c_Te_count l D ad cA _ _ _ _ _ _ _ _ h) (mkV S.2.2.2.2 ml_Gr_158 k_Te_count rfl rfl ⟨Nat.le_of_ble_eq_true rfl, Nat.le_of_ble_eq_true rfl⟩) (rv_Te hK hP) hK hP hl.1 rfl rfl (Nat.le_of_ble_eq_true rfl) d_Gr_look_36 ⟨Nat.zero_le _, Nat.zero_le _⟩ (fun r36 h => ?_)
      exact ret_roi S hr hlk h d_Gr_look_39
    · have h := h.2.2.1 hx
      refine lv_tableIn (tgt := 40) (off := 39) S.1 S.2.1 d_Gr_look_1 (by rw [hx]; decide) (by rw [hx]; decide) (by rw [hx]; decide) (by decide) ?_
      refine lv_aload_n S.1 S.2.1 d_Gr_look_40 rfl (lv_at hl 0 rfl) ?_
      refine g_Gr_rules S hK hP d_Gr_look_41 ?_
      refine callV_roi S (c_Ru_count l D ad cA _ _ _ _ _ _ _ _ h) (mkV S.2.2.2.2 ml_Gr_162 k_Ru_count rfl rfl ⟨Nat.le_of_ble_eq_true rfl, Nat.le_of_ble_eq_true rfl⟩) (rv_Ru hK hP) hK hP hl.1 rfl rfl (Nat.le_of_ble_eq_true rfl) d_Gr_look_44 ⟨Nat.zero_le _, Nat.zero_le _⟩ (fun r44 h => ?_)
      exact ret_roi S hr hlk h d_Gr_look_47
    · have h := h.2.2.2.1 hx
      refine lv_tableIn (tgt := 48) (off := 47) S.1 S.2.1 d_Gr_look_1 (by rw [hx]; decide) (by rw [hx]; decide) (by rw [hx]; decide) (by decide) ?_
      refine lv_aload_n S.1 S.2.1 d_Gr_look_48 rfl (lv_at hl 0 rfl) ?_
      refine g_Gr_automaton S hK hP d_Gr_look_49 ?_
      refine callV_roi S (c_Au_count l D ad cA _ _ _ _ _ _ _ _ h) (mkV S.2.2.2.2 ml_Gr_163 k_Au_count rfl rfl ⟨Nat.le_of_ble_eq_true rfl, Nat.le_of_ble_eq_true rfl⟩) (rv_Au hK hP) hK hP hl.1 rfl rfl (Nat.le_of_ble_eq_true rfl) d_Gr_look_52 ⟨Nat.zero_le _, Nat.zero_le _⟩ (fun r52 h => ?_)
      exact ret_roi S hr hlk h d_Gr_look_55
    · have h := h.2.2.2.2 hx
      refine lv_tableIn (tgt := 56) (off := 55) S.1 S.2.1 d_Gr_look_1 (by rw [hx]; decide) (by rw [hx]; decide) (by rw [hx]; decide) (by decide) ?_
      refine lv_aload_n S.1 S.2.1 d_Gr_look_56 rfl (lv_at hl 0 rfl) ?_
      refine g_Gr_automaton S hK hP d_Gr_look_57 ?_
      refine callV_roi S (c_Au_finals l D ad cA _ _ _ _ _ _ _ _ h) (mkV S.2.2.2.2 ml_Gr_164 k_Au_finals rfl rfl ⟨Nat.le_of_ble_eq_true rfl, Nat.le_of_ble_eq_true rfl⟩) (rv_Au hK hP) hK hP hl.1 rfl rfl (Nat.le_of_ble_eq_true rfl) d_Gr_look_60 ⟨Nat.zero_le _, Nat.zero_le _⟩ (fun r60 h => ?_)
      exact ret_roi S hr hlk h d_Gr_look_63

set_option maxHeartbeats 4000000 in
set_option maxRecDepth 100000 in
theorem c_Te_isSymbol (l : Launch) (D : va_G) (ad : Nat → Nat) (cA : ClassId × ClassId × ClassId) (te : Te) (ru : Ru) (au : Au) (re : Re) (la : La) (sp : Sp) (le : Le) (x1 : Int32) (Q : Int32 → Prop) (h : p_Te_isSymbol x1  Q) : roI l y_Te_isSymbol (wsOf y_Te_isSymbol b_Te_isSymbol 2 (some .boolean)) rm_Te_isSymbol D (tyA cA) (wC ad cA) [.ref (ad 1), .int x1] (te, ru, au, re, la, sp, le) Q := by
  refine roI_of (by decide) (Nat.le_of_ble_eq_true rfl) ?_
  intro p e s m below meth c S hr hlk hK hP ls hl
  have hl : lv_has ls 2 [(0, .ref (ad 1)), (1, .int x1)] := hl
  refine lv_iload_n S.1 S.2.1 d_Te_isSymbol_0 rfl (lv_at hl 1 rfl) ?_
  refine lv_if_lt (tgt := 14) S.1 S.2.1 d_Te_isSymbol_1 (by decide) (fun hc => ?_) (fun hc => ?_)
  · have h := h.1 hc
    refine lv_iconst (v := (0 : Int32)) S.1 S.2.1 d_Te_isSymbol_14 rfl ?_
    exact ret_roz S hr hlk (by decide) h d_Te_isSymbol_15
  · have h := h.2 hc
    refine lv_iload_n S.1 S.2.1 d_Te_isSymbol_4 rfl (lv_at hl 1 rfl) ?_
    refine lv_bipush (v := (6 : Int32)) S.1 S.2.1 d_Te_isSymbol_5 rfl ?_
    refine lv_icmp_ge (tgt := 14) S.1 S.2.1 d_Te_isSymbol_7 (by decide) (fun hc => ?_) (fun hc => ?_)
    · have h := h.1 hc
      refine lv_iconst (v := (0 : Int32)) S.1 S.2.1 d_Te_isSymbol_14 rfl ?_
      exact ret_roz S hr hlk (by decide) h d_Te_isSymbol_15
    · have h := h.2 hc
      refine lv_iconst (v := (1 : Int32)) S.1 S.2.1 d_Te_isSymbol_10 rfl ?_
      refine lv_goto (tgt := 15) S.1 S.2.1 d_Te_isSymbol_11 (by decide) ?_
      exact ret_roz S hr hlk (by decide) h d_Te_isSymbol_15

set_option maxHeartbeats 4000000 in
set_option maxRecDepth 100000 in
theorem n_Te_canStand_44 {p : Program} {l : Launch} {e : Env} {s : State} {m : MethodId} {args : Array Value} {below : List Frame} {meth : Method} {c : Code} {D : va_G} {ad : Nat → Nat} {cA : ClassId × ClassId × ClassId} {te : Te} {ru : Ru} {au : Au} {re : Re} {la : La} {sp : Sp} {le : Le} {x1 : Int32} {x2 : Int32} {x3 : Int32} {Q : Int32 → Prop} (S : CallFix p m c b_Te_canStand 4 s args gtbl R_Te) (hr : meth.sig.returnType = (some .boolean)) (hlk : meth.locks = false) (hK : gK D (tyA cA) s) (hP : va_P D classes (wC ad cA (te, ru, au, re, la, sp, le)) s.heap) : ∀ (ls : Array Slot) , p_Te_canStand_44 x1 x2 x3 te Q  → lv_has ls 4 [] → W p l e rm_Te_canStand s m args below meth c s.heap [] 0 0 (qRI Q below args s) (F0 m 44 ls []) := by
  intro ls  h hl
  refine lv_iconst (v := (1 : Int32)) S.1 S.2.1 d_Te_canStand_44 rfl ?_
  refine lv_goto (tgt := 49) S.1 S.2.1 d_Te_canStand_45 (by decide) ?_
  exact ret_roz S hr hlk (by decide) h d_Te_canStand_49
set_option maxHeartbeats 4000000 in
set_option maxRecDepth 100000 in
theorem n_Te_canStand_26 {p : Program} {l : Launch} {e : Env} {s : State} {m : MethodId} {args : Array Value} {below : List Frame} {meth : Method} {c : Code} {D : va_G} {ad : Nat → Nat} {cA : ClassId × ClassId × ClassId} {te : Te} {ru : Ru} {au : Au} {re : Re} {la : La} {sp : Sp} {le : Le} {x1 : Int32} {x2 : Int32} {x3 : Int32} {Q : Int32 → Prop} (S : CallFix p m c b_Te_canStand 4 s args gtbl R_Te) (hr : meth.sig.returnType = (some .boolean)) (hlk : meth.locks = false) (hK : gK D (tyA cA) s) (hP : va_P D classes (wC ad cA (te, ru, au, re, la, sp, le)) s.heap) : ∀ (ls : Array Slot) , p_Te_canStand_26 x1 x2 x3 te Q  → lv_has ls 4 [(0, .ref (ad 1)), (1, .int x1), (3, .int x3)] → W p l e rm_Te_canStand s m args below meth c s.heap [] 0 0 (qRI Q below args s) (F0 m 26 ls []) := by
  intro ls  h hl
  refine lv_aload_n S.1 S.2.1 d_Te_canStand_26 rfl (lv_at hl 0 rfl) ?_
  refine g_Te_places S hK hP d_Te_canStand_27 ?_
  refine lv_iload_n S.1 S.2.1 d_Te_canStand_30 rfl (lv_at hl 1 rfl) ?_
  obtain ⟨hin, h⟩ := h
  refine a_Te_places S hK hP hin d_Te_canStand_31 ?_
  refine lv_iconst (v := (2 : Int32)) S.1 S.2.1 d_Te_canStand_32 rfl ?_
  refine lv_icmp_lt (tgt := 44) S.1 S.2.1 d_Te_canStand_33 (by decide) (fun hc => ?_) (fun hc => ?_)
  · have h := h.1 hc
    exact n_Te_canStand_44 S hr hlk hK hP _ h (lv_sub hl [] rfl)
  · have h := h.2 hc
    refine lv_aload_n S.1 S.2.1 d_Te_canStand_36 rfl (lv_at hl 0 rfl) ?_
    refine lv_iload_n S.1 S.2.1 d_Te_canStand_37 rfl (lv_at hl 2 rfl) ?_
    refine callV_roi S (c_Te_isMade l D ad cA _ _ _ _ _ _ _ _ _ h) (mkV S.2.2.2.2 ml_Te_53 k_Te_isMade rfl rfl ⟨Nat.le_of_ble_eq_true rfl, Nat.le_of_ble_eq_true rfl⟩) (rv_Te hK hP) hK hP hl.1 rfl rfl (Nat.le_of_ble_eq_true rfl) d_Te_canStand_38 ⟨Nat.zero_le _, Nat.zero_le _⟩ (fun r38 h => ?_)
    refine lv_if_eq (tgt := 48) S.1 S.2.1 d_Te_canStand_41 (by decide) (fun hc => ?_) (fun hc => ?_)
    · have h := h.1 hc
      refine lv_iconst (v := (0 : Int32)) S.1 S.2.1 d_Te_canStand_48 rfl ?_
      exact ret_roz S hr hlk (by decide) h d_Te_canStand_49
    · have h := h.2 hc
      exact n_Te_canStand_44 S hr hlk hK hP _ h (lv_sub hl [] rfl)
set_option maxHeartbeats 4000000 in
set_option maxRecDepth 100000 in
theorem c_Te_canStand (l : Launch) (D : va_G) (ad : Nat → Nat) (cA : ClassId × ClassId × ClassId) (te : Te) (ru : Ru) (au : Au) (re : Re) (la : La) (sp : Sp) (le : Le) (x1 : Int32) (x2 : Int32) (x3 : Int32) (Q : Int32 → Prop) (h : p_Te_canStand x1 x2 x3 te Q) : roI l y_Te_canStand (wsOf y_Te_canStand b_Te_canStand 4 (some .boolean)) rm_Te_canStand D (tyA cA) (wC ad cA) [.ref (ad 1), .int x1, .int x2, .int x3] (te, ru, au, re, la, sp, le) Q := by
  refine roI_of (by decide) (Nat.le_of_ble_eq_true rfl) ?_
  intro p e s m below meth c S hr hlk hK hP ls hl
  have hl : lv_has ls 4 [(0, .ref (ad 1)), (1, .int x1), (2, .int x2), (3, .int x3)] := hl
  refine lv_aload_n S.1 S.2.1 d_Te_canStand_0 rfl (lv_at hl 0 rfl) ?_
  refine lv_iload_n S.1 S.2.1 d_Te_canStand_1 rfl (lv_at hl 1 rfl) ?_
  refine callV_roi S (c_Te_isSymbol l D ad cA _ _ _ _ _ _ _ _ _ h) (mkV S.2.2.2.2 ml_Te_49 k_Te_isSymbol rfl rfl ⟨Nat.le_of_ble_eq_true rfl, Nat.le_of_ble_eq_true rfl⟩) (rv_Te hK hP) hK hP hl.1 rfl rfl (Nat.le_of_ble_eq_true rfl) d_Te_canStand_2 ⟨Nat.zero_le _, Nat.zero_le _⟩ (fun r2 h => ?_)
  refine lv_if_eq (tgt := 48) S.1 S.2.1 d_Te_canStand_5 (by decide) (fun hc => ?_) (fun hc => ?_)
  · have h := h.1 hc
    refine lv_iconst (v := (0 : Int32)) S.1 S.2.1 d_Te_canStand_48 rfl ?_
    exact ret_roz S hr hlk (by decide) h d_Te_canStand_49
  · have h := h.2 hc
    refine lv_aload_n S.1 S.2.1 d_Te_canStand_8 rfl (lv_at hl 0 rfl) ?_
    refine g_Te_places S hK hP d_Te_canStand_9 ?_
    refine lv_iload_n S.1 S.2.1 d_Te_canStand_12 rfl (lv_at hl 1 rfl) ?_
    obtain ⟨hin, h⟩ := h
    refine a_Te_places S hK hP hin d_Te_canStand_13 ?_
    refine lv_iconst (v := (1 : Int32)) S.1 S.2.1 d_Te_canStand_14 rfl ?_
    refine lv_icmp_lt (tgt := 26) S.1 S.2.1 d_Te_canStand_15 (by decide) (fun hc => ?_) (fun hc => ?_)
    · have h := h.1 hc
      exact n_Te_canStand_26 S hr hlk hK hP _ h (lv_sub hl [0, 1, 3] rfl)
    · have h := h.2 hc
      refine lv_aload_n S.1 S.2.1 d_Te_canStand_18 rfl (lv_at hl 0 rfl) ?_
      refine lv_iload_n S.1 S.2.1 d_Te_canStand_19 rfl (lv_at hl 2 rfl) ?_
      refine callV_roi S (c_Te_isMade l D ad cA _ _ _ _ _ _ _ _ _ h) (mkV S.2.2.2.2 ml_Te_53 k_Te_isMade rfl rfl ⟨Nat.le_of_ble_eq_true rfl, Nat.le_of_ble_eq_true rfl⟩) (rv_Te hK hP) hK hP hl.1 rfl rfl (Nat.le_of_ble_eq_true rfl) d_Te_canStand_20 ⟨Nat.zero_le _, Nat.zero_le _⟩ (fun r20 h => ?_)
      refine lv_if_eq (tgt := 48) S.1 S.2.1 d_Te_canStand_23 (by decide) (fun hc => ?_) (fun hc => ?_)
      · have h := h.1 hc
        refine lv_iconst (v := (0 : Int32)) S.1 S.2.1 d_Te_canStand_48 rfl ?_
        exact ret_roz S hr hlk (by decide) h d_Te_canStand_49
      · have h := h.2 hc
        exact n_Te_canStand_26 S hr hlk hK hP _ h (lv_sub hl [0, 1, 3] rfl)

set_option maxHeartbeats 4000000 in
set_option maxRecDepth 100000 in
theorem c_Te_bucketOf (l : Launch) (D : va_G) (ad : Nat → Nat) (cA : ClassId × ClassId × ClassId) (te : Te) (ru : Ru) (au : Au) (re : Re) (la : La) (sp : Sp) (le : Le) (x0 : Int32) (x1 : Int32) (x2 : Int32) (Q : Int32 → Prop) (h : p_Te_bucketOf x0 x1 x2  Q) : roI l y_Te_bucketOf (wsOf y_Te_bucketOf b_Te_bucketOf 3 (some .int)) rm_Te_bucketOf D (tyA cA) (wC ad cA) [.int x0, .int x1, .int x2] (te, ru, au, re, la, sp, le) Q := by
  refine roI_of (by decide) (Nat.le_of_ble_eq_true rfl) ?_
  intro p e s m below meth c S hr hlk hK hP ls hl
  have hl : lv_has ls 3 [(0, .int x0), (1, .int x1), (2, .int x2)] := hl
  refine lv_iload_n S.1 S.2.1 d_Te_bucketOf_0 rfl (lv_at hl 0 rfl) ?_
  refine lv_sipush (v := (961 : Int32)) S.1 S.2.1 d_Te_bucketOf_1 rfl ?_
  refine lv_imul S.1 S.2.1 d_Te_bucketOf_4 ?_
  refine lv_iload_n S.1 S.2.1 d_Te_bucketOf_5 rfl (lv_at hl 1 rfl) ?_
  refine lv_bipush (v := (31 : Int32)) S.1 S.2.1 d_Te_bucketOf_6 rfl ?_
  refine lv_imul S.1 S.2.1 d_Te_bucketOf_8 ?_
  refine lv_iadd S.1 S.2.1 d_Te_bucketOf_9 ?_
  refine lv_iload_n S.1 S.2.1 d_Te_bucketOf_10 rfl (lv_at hl 2 rfl) ?_
  refine lv_iadd S.1 S.2.1 d_Te_bucketOf_11 ?_
  refine lv_sipush (v := (255 : Int32)) S.1 S.2.1 d_Te_bucketOf_12 rfl ?_
  refine lv_iand S.1 S.2.1 d_Te_bucketOf_15 ?_
  exact ret_roi S hr hlk h d_Te_bucketOf_16

set_option maxHeartbeats 4000000 in
set_option maxRecDepth 100000 in
theorem n_Te_find_104 {p : Program} {l : Launch} {e : Env} {s : State} {m : MethodId} {args : Array Value} {below : List Frame} {meth : Method} {c : Code} {D : va_G} {ad : Nat → Nat} {cA : ClassId × ClassId × ClassId} {te : Te} {ru : Ru} {au : Au} {re : Re} {la : La} {sp : Sp} {le : Le} {x1 : Int32} {x2 : Int32} {x3 : Int32} {Q : Int32 → Prop} (S : CallFix p m c b_Te_find 8 s args gtbl R_Te) (hr : meth.sig.returnType = (some .int)) (hlk : meth.locks = false) (hK : gK D (tyA cA) s) (hP : va_P D classes (wC ad cA (te, ru, au, re, la, sp, le)) s.heap) {k52 : Int32 → Int32 → Int32 → Int32 → Prop} (hk52 : ∀ (ls : Array Slot) (x4 : Int32) (x5 : Int32) (x6 : Int32) (x7 : Int32), k52 x4 x5 x6 x7 → lv_has ls 8 [(0, .ref (ad 1)), (1, .int x1), (4, .int x4), (5, .int x5), (6, .int x6), (7, .int x7)] → W p l e rm_Te_find s m args below meth c s.heap [] 0 0 (qRI Q below args s) (F0 m 52 ls [])) : ∀ (ls : Array Slot) (x4 : Int32) (x5 : Int32) (x6 : Int32) (x7 : Int32), p_Te_find_104 x1 x2 x3 te Q k52 x4 x5 x6 x7 → lv_has ls 8 [(0, .ref (ad 1)), (1, .int x1), (4, .int x4), (5, .int x5), (6, .int x6), (7, .int x7)] → W p l e rm_Te_find s m args below meth c s.heap [] 0 0 (qRI Q below args s) (F0 m 104 ls []) := by
  intro ls x4 x5 x6 x7 h hl
  refine lv_aload_n S.1 S.2.1 d_Te_find_104 rfl (lv_at hl 0 rfl) ?_
  refine g_Te_olderInBucket S hK hP d_Te_find_105 ?_
  refine lv_iload S.1 S.2.1 d_Te_find_108 (lv_at hl 4 rfl) ?_
  obtain ⟨hin, h⟩ := h
  refine a_Te_olderInBucket S hK hP hin d_Te_find_110 ?_
  refine lv_istore (lv' := [(6, .int (Te_olderInBucket te x6.toNatClampNeg)), (0, .ref (ad 1)), (1, .int x1), (4, .int x4), (5, .int x5), (7, .int x7)]) S.1 S.2.1 d_Te_find_111 hl (by decide) rfl (fun ls hl => ?_)
  refine lv_iinc (k := 5) (v := x7 + (1 : Int32)) (lv' := [(7, .int (x7 + (1 : Int32))), (6, .int (Te_olderInBucket te x6.toNatClampNeg)), (0, .ref (ad 1)), (1, .int x1), (4, .int x4), (5, .int x5)]) S.1 S.2.1 d_Te_find_113 hl rfl rfl (by decide) rfl (fun ls hl => ?_)
  refine lv_goto (tgt := 52) S.1 S.2.1 d_Te_find_116 (by decide) ?_
  exact hk52 _ _ _ _ _ h (lv_sub hl [2, 3, 4, 5, 1, 0] rfl)
set_option maxHeartbeats 4000000 in
set_option maxRecDepth 100000 in
theorem n_Te_find_52 {p : Program} {l : Launch} {e : Env} {s : State} {m : MethodId} {args : Array Value} {below : List Frame} {meth : Method} {c : Code} {D : va_G} {ad : Nat → Nat} {cA : ClassId × ClassId × ClassId} {te : Te} {ru : Ru} {au : Au} {re : Re} {la : La} {sp : Sp} {le : Le} {x1 : Int32} {x2 : Int32} {x3 : Int32} {Q : Int32 → Prop} (S : CallFix p m c b_Te_find 8 s args gtbl R_Te) (hr : meth.sig.returnType = (some .int)) (hlk : meth.locks = false) (hK : gK D (tyA cA) s) (hP : va_P D classes (wC ad cA (te, ru, au, re, la, sp, le)) s.heap) : ∀ n : Nat, ∀ (ls : Array Slot) (x4 : Int32) (x5 : Int32) (x6 : Int32) (x7 : Int32), p_Te_find_52 x1 x2 x3 te Q n x4 x5 x6 x7 → lv_has ls 8 [(0, .ref (ad 1)), (1, .int x1), (4, .int x4), (5, .int x5), (6, .int x6), (7, .int x7)] → W p l e rm_Te_find s m args below meth c s.heap [] 0 0 (qRI Q below args s) (F0 m 52 ls []) := by
  intro n
  induction n with
  | zero =>
    intro ls x4 x5 x6 x7 h
    exact (show False from h).elim
  | succ n ih =>
    intro ls x4 x5 x6 x7 h hl
    refine lv_iload S.1 S.2.1 d_Te_find_52 (lv_at hl 5 rfl) ?_
    refine lv_sipush (v := (448 : Int32)) S.1 S.2.1 d_Te_find_54 rfl ?_
    refine lv_icmp_ge (tgt := 119) S.1 S.2.1 d_Te_find_57 (by decide) (fun hc => ?_) (fun hc => ?_)
    · have h := h.1 hc
      refine lv_iconst (v := (-1 : Int32)) S.1 S.2.1 d_Te_find_119 rfl ?_
      exact ret_roi S hr hlk h d_Te_find_120
    · have h := h.2 hc
      refine lv_iload S.1 S.2.1 d_Te_find_60 (lv_at hl 4 rfl) ?_
      refine lv_iconst (v := (-1 : Int32)) S.1 S.2.1 d_Te_find_62 rfl ?_
      refine lv_icmp_eq (tgt := 119) S.1 S.2.1 d_Te_find_63 (by decide) (fun hc => ?_) (fun hc => ?_)
      · have h := h.1 hc
        refine lv_iconst (v := (-1 : Int32)) S.1 S.2.1 d_Te_find_119 rfl ?_
        exact ret_roi S hr hlk h d_Te_find_120
      · have h := h.2 hc
        refine lv_aload_n S.1 S.2.1 d_Te_find_66 rfl (lv_at hl 0 rfl) ?_
        refine g_Te_symbol S hK hP d_Te_find_67 ?_
        refine lv_iload S.1 S.2.1 d_Te_find_70 (lv_at hl 4 rfl) ?_
        obtain ⟨hin, h⟩ := h
        refine a_Te_symbol S hK hP hin d_Te_find_72 ?_
        refine lv_iload_n S.1 S.2.1 d_Te_find_73 rfl (lv_at hl 1 rfl) ?_
        refine lv_icmp_ne (tgt := 104) S.1 S.2.1 d_Te_find_74 (by decide) (fun hc => ?_) (fun hc => ?_)
        · have h := h.1 hc
          exact n_Te_find_104 S hr hlk hK hP ih _ _ _ _ _ h (lv_sub hl [0, 1, 2, 3, 4, 5] rfl)
        · have h := h.2 hc
          refine lv_aload_n S.1 S.2.1 d_Te_find_77 rfl (lv_at hl 0 rfl) ?_
          refine g_Te_first S hK hP d_Te_find_78 ?_
          refine lv_iload S.1 S.2.1 d_Te_find_81 (lv_at hl 4 rfl) ?_
          obtain ⟨hin, h⟩ := h
          refine a_Te_first S hK hP hin d_Te_find_83 ?_
          refine lv_iload S.1 S.2.1 d_Te_find_84 (lv_at hl 2 rfl) ?_
          refine lv_icmp_ne (tgt := 104) S.1 S.2.1 d_Te_find_86 (by decide) (fun hc => ?_) (fun hc => ?_)
          · have h := h.1 hc
            exact n_Te_find_104 S hr hlk hK hP ih _ _ _ _ _ h (lv_sub hl [0, 1, 2, 3, 4, 5] rfl)
          · have h := h.2 hc
            refine lv_aload_n S.1 S.2.1 d_Te_find_89 rfl (lv_at hl 0 rfl) ?_
            refine g_Te_second S hK hP d_Te_find_90 ?_
            refine lv_iload S.1 S.2.1 d_Te_find_93 (lv_at hl 4 rfl) ?_
            obtain ⟨hin, h⟩ := h
            refine a_Te_second S hK hP hin d_Te_find_95 ?_
            refine lv_iload S.1 S.2.1 d_Te_find_96 (lv_at hl 3 rfl) ?_
            refine lv_icmp_ne (tgt := 104) S.1 S.2.1 d_Te_find_98 (by decide) (fun hc => ?_) (fun hc => ?_)
            · have h := h.1 hc
              exact n_Te_find_104 S hr hlk hK hP ih _ _ _ _ _ h (lv_sub hl [0, 1, 2, 3, 4, 5] rfl)
            · have h := h.2 hc
              refine lv_iload S.1 S.2.1 d_Te_find_101 (lv_at hl 4 rfl) ?_
              exact ret_roi S hr hlk h d_Te_find_103
set_option maxHeartbeats 4000000 in
set_option maxRecDepth 100000 in
theorem n_Te_find_32 {p : Program} {l : Launch} {e : Env} {s : State} {m : MethodId} {args : Array Value} {below : List Frame} {meth : Method} {c : Code} {D : va_G} {ad : Nat → Nat} {cA : ClassId × ClassId × ClassId} {te : Te} {ru : Ru} {au : Au} {re : Re} {la : La} {sp : Sp} {le : Le} {x1 : Int32} {x2 : Int32} {x3 : Int32} {Q : Int32 → Prop} (S : CallFix p m c b_Te_find 8 s args gtbl R_Te) (hr : meth.sig.returnType = (some .int)) (hlk : meth.locks = false) (hK : gK D (tyA cA) s) (hP : va_P D classes (wC ad cA (te, ru, au, re, la, sp, le)) s.heap) : ∀ (ls : Array Slot) (x4 : Int32) (y0 : Int32), p_Te_find_32 x1 x2 x3 te Q x4 y0 → lv_has ls 8 [(0, .ref (ad 1)), (1, .int x1), (4, .int x4)] → W p l e rm_Te_find s m args below meth c s.heap [] 0 0 (qRI Q below args s) (F0 m 32 ls [.int y0]) := by
  intro ls x4 y0 h hl
  refine lv_istore (lv' := [(5, .int y0), (0, .ref (ad 1)), (1, .int x1), (4, .int x4)]) S.1 S.2.1 d_Te_find_32 hl (by decide) rfl (fun ls hl => ?_)
  refine lv_aload_n S.1 S.2.1 d_Te_find_34 rfl (lv_at hl 1 rfl) ?_
  refine g_Te_newestIn S hK hP d_Te_find_35 ?_
  refine lv_iload_n S.1 S.2.1 d_Te_find_38 rfl (lv_at hl 2 rfl) ?_
  refine lv_iload S.1 S.2.1 d_Te_find_39 (lv_at hl 3 rfl) ?_
  refine lv_iload S.1 S.2.1 d_Te_find_41 (lv_at hl 0 rfl) ?_
  refine callS_roi S (c_Te_bucketOf l D ad cA _ _ _ _ _ _ _ _ _ _ _ h) (mkS S.2.2.2.2 ml_Te_63 k_Te_bucketOf rfl rfl ⟨Nat.le_of_ble_eq_true rfl, Nat.le_of_ble_eq_true rfl⟩) hK hP hl.1 rfl rfl (Nat.le_of_ble_eq_true rfl) d_Te_find_43 ⟨Nat.zero_le _, Nat.zero_le _⟩ (fun r43 h => ?_)
  obtain ⟨hin, h⟩ := h
  refine a_Te_newestIn S hK hP hin d_Te_find_46 ?_
  refine lv_istore (lv' := [(6, .int (Te_newestIn te r43.toNatClampNeg)), (5, .int y0), (0, .ref (ad 1)), (1, .int x1), (4, .int x4)]) S.1 S.2.1 d_Te_find_47 hl (by decide) rfl (fun ls hl => ?_)
  refine lv_iconst (v := (0 : Int32)) S.1 S.2.1 d_Te_find_49 rfl ?_
  refine lv_istore (lv' := [(7, .int (0 : Int32)), (6, .int (Te_newestIn te r43.toNatClampNeg)), (5, .int y0), (0, .ref (ad 1)), (1, .int x1), (4, .int x4)]) S.1 S.2.1 d_Te_find_50 hl (by decide) rfl (fun ls hl => ?_)
  obtain ⟨n', h⟩ := h
  exact n_Te_find_52 S hr hlk hK hP n' _ _ _ _ _ h (lv_sub hl [3, 4, 5, 2, 1, 0] rfl)
set_option maxHeartbeats 4000000 in
set_option maxRecDepth 100000 in
theorem n_Te_find_15 {p : Program} {l : Launch} {e : Env} {s : State} {m : MethodId} {args : Array Value} {below : List Frame} {meth : Method} {c : Code} {D : va_G} {ad : Nat → Nat} {cA : ClassId × ClassId × ClassId} {te : Te} {ru : Ru} {au : Au} {re : Re} {la : La} {sp : Sp} {le : Le} {x1 : Int32} {x2 : Int32} {x3 : Int32} {Q : Int32 → Prop} (S : CallFix p m c b_Te_find 8 s args gtbl R_Te) (hr : meth.sig.returnType = (some .int)) (hlk : meth.locks = false) (hK : gK D (tyA cA) s) (hP : va_P D classes (wC ad cA (te, ru, au, re, la, sp, le)) s.heap) : ∀ (ls : Array Slot) (y0 : Int32), p_Te_find_15 x1 x2 x3 te Q y0 → lv_has ls 8 [(0, .ref (ad 1)), (1, .int x1), (3, .int x3)] → W p l e rm_Te_find s m args below meth c s.heap [] 0 0 (qRI Q below args s) (F0 m 15 ls [.int y0]) := by
  intro ls y0 h hl
  refine lv_istore (lv' := [(4, .int y0), (0, .ref (ad 1)), (1, .int x1), (3, .int x3)]) S.1 S.2.1 d_Te_find_15 hl (by decide) rfl (fun ls hl => ?_)
  refine lv_aload_n S.1 S.2.1 d_Te_find_17 rfl (lv_at hl 1 rfl) ?_
  refine g_Te_places S hK hP d_Te_find_18 ?_
  refine lv_iload_n S.1 S.2.1 d_Te_find_21 rfl (lv_at hl 2 rfl) ?_
  obtain ⟨hin, h⟩ := h
  refine a_Te_places S hK hP hin d_Te_find_22 ?_
  refine lv_iconst (v := (2 : Int32)) S.1 S.2.1 d_Te_find_23 rfl ?_
  refine lv_icmp_ge (tgt := 31) S.1 S.2.1 d_Te_find_24 (by decide) (fun hc => ?_) (fun hc => ?_)
  · have h := h.1 hc
    refine lv_iload_n S.1 S.2.1 d_Te_find_31 rfl (lv_at hl 3 rfl) ?_
    exact n_Te_find_32 S hr hlk hK hP _ _ _ h (lv_sub hl [1, 2, 0] rfl)
  · have h := h.2 hc
    refine lv_iconst (v := (-1 : Int32)) S.1 S.2.1 d_Te_find_27 rfl ?_
    refine lv_goto (tgt := 32) S.1 S.2.1 d_Te_find_28 (by decide) ?_
    exact n_Te_find_32 S hr hlk hK hP _ _ _ h (lv_sub hl [1, 2, 0] rfl)
set_option maxHeartbeats 4000000 in
set_option maxRecDepth 100000 in
theorem c_Te_find (l : Launch) (D : va_G) (ad : Nat → Nat) (cA : ClassId × ClassId × ClassId) (te : Te) (ru : Ru) (au : Au) (re : Re) (la : La) (sp : Sp) (le : Le) (x1 : Int32) (x2 : Int32) (x3 : Int32) (Q : Int32 → Prop) (h : p_Te_find x1 x2 x3 te Q) : roI l y_Te_find (wsOf y_Te_find b_Te_find 8 (some .int)) rm_Te_find D (tyA cA) (wC ad cA) [.ref (ad 1), .int x1, .int x2, .int x3] (te, ru, au, re, la, sp, le) Q := by
  refine roI_of (by decide) (Nat.le_of_ble_eq_true rfl) ?_
  intro p e s m below meth c S hr hlk hK hP ls hl
  have hl : lv_has ls 8 [(0, .ref (ad 1)), (1, .int x1), (2, .int x2), (3, .int x3)] := hl
  refine lv_aload_n S.1 S.2.1 d_Te_find_0 rfl (lv_at hl 0 rfl) ?_
  refine g_Te_places S hK hP d_Te_find_1 ?_
  refine lv_iload_n S.1 S.2.1 d_Te_find_4 rfl (lv_at hl 1 rfl) ?_
  obtain ⟨hin, h⟩ := h
  refine a_Te_places S hK hP hin d_Te_find_5 ?_
  refine lv_iconst (v := (1 : Int32)) S.1 S.2.1 d_Te_find_6 rfl ?_
  refine lv_icmp_ge (tgt := 14) S.1 S.2.1 d_Te_find_7 (by decide) (fun hc => ?_) (fun hc => ?_)
  · have h := h.1 hc
    refine lv_iload_n S.1 S.2.1 d_Te_find_14 rfl (lv_at hl 2 rfl) ?_
    exact n_Te_find_15 S hr hlk hK hP _ _ h (lv_sub hl [0, 1, 3] rfl)
  · have h := h.2 hc
    refine lv_iconst (v := (-1 : Int32)) S.1 S.2.1 d_Te_find_10 rfl ?_
    refine lv_goto (tgt := 15) S.1 S.2.1 d_Te_find_11 (by decide) ?_
    exact n_Te_find_15 S hr hlk hK hP _ _ h (lv_sub hl [0, 1, 3] rfl)
