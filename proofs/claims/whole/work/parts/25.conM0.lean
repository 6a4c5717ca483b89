set_option maxHeartbeats 4000000 in
set_option maxRecDepth 100000 in
theorem c_Mo_thrown (l : Launch) (D : va_G) (ad : Nat → Nat) (cA : ClassId × ClassId × ClassId) (mo : Mo)  (Q : Int32 → Prop) (h : p_Mo_thrown  mo Q) : roI l y_Mo_thrown (wsOf y_Mo_thrown b_Mo_thrown 1 (some .int)) rm_Mo_thrown D (tyA cA) (wM ad cA) [.ref (ad 0)] mo Q := by
  refine roI_of (by decide) (Nat.le_of_ble_eq_true rfl) ?_
  intro p e s m below meth c S hr hlk hK hP ls hl
  have hl : lv_has ls 1 [(0, .ref (ad 0))] := hl
  refine lv_aload_n S.1 S.2.1 d_Mo_thrown_0 rfl (lv_at hl 0 rfl) ?_
  refine g_Mo_thrown S hK hP d_Mo_thrown_1 ?_
  exact ret_roi S hr hlk h d_Mo_thrown_4

set_option maxHeartbeats 4000000 in
set_option maxRecDepth 100000 in
theorem c_Mo_isTerm (l : Launch) (D : va_G) (ad : Nat → Nat) (cA : ClassId × ClassId × ClassId) (mo : Mo) (x1 : Int32) (Q : Int32 → Prop) (h : p_Mo_isTerm x1 mo Q) : roI l y_Mo_isTerm (wsOf y_Mo_isTerm b_Mo_isTerm 2 (some .boolean)) rm_Mo_isTerm D (tyA cA) (wM ad cA) [.ref (ad 0), .int x1] mo Q := by
  refine roI_of (by decide) (Nat.le_of_ble_eq_true rfl) ?_
  intro p e s m below meth c S hr hlk hK hP ls hl
  have hl : lv_has ls 2 [(0, .ref (ad 0)), (1, .int x1)] := hl
  refine lv_iload_n S.1 S.2.1 d_Mo_isTerm_0 rfl (lv_at hl 1 rfl) ?_
  refine lv_if_lt (tgt := 16) S.1 S.2.1 d_Mo_isTerm_1 (by decide) (fun hc => ?_) (fun hc => ?_)
  · have h := h.1 hc
    refine lv_iconst (v := (0 : Int32)) S.1 S.2.1 d_Mo_isTerm_16 rfl ?_
    exact ret_roz S hr hlk (by decide) h d_Mo_isTerm_17
  · have h := h.2 hc
    refine lv_iload_n S.1 S.2.1 d_Mo_isTerm_4 rfl (lv_at hl 1 rfl) ?_
    refine lv_aload_n S.1 S.2.1 d_Mo_isTerm_5 rfl (lv_at hl 0 rfl) ?_
    refine g_Mo_count S hK hP d_Mo_isTerm_6 ?_
    refine lv_icmp_ge (tgt := 16) S.1 S.2.1 d_Mo_isTerm_9 (by decide) (fun hc => ?_) (fun hc => ?_)
    · have h := h.1 hc
      refine lv_iconst (v := (0 : Int32)) S.1 S.2.1 d_Mo_isTerm_16 rfl ?_
      exact ret_roz S hr hlk (by decide) h d_Mo_isTerm_17
    · have h := h.2 hc
      refine lv_iconst (v := (1 : Int32)) S.1 S.2.1 d_Mo_isTerm_12 rfl ?_
      refine lv_goto (tgt := 17) S.1 S.2.1 d_Mo_isTerm_13 (by decide) ?_
      exact ret_roz S hr hlk (by decide) h d_Mo_isTerm_17

set_option maxHeartbeats 4000000 in
set_option maxRecDepth 100000 in
theorem c_Mo_isState (l : Launch) (D : va_G) (ad : Nat → Nat) (cA : ClassId × ClassId × ClassId) (mo : Mo) (x0 : Int32) (Q : Int32 → Prop) (h : p_Mo_isState x0  Q) : roI l y_Mo_isState (wsOf y_Mo_isState b_Mo_isState 1 (some .boolean)) rm_Mo_isState D (tyA cA) (wM ad cA) [.int x0] mo Q := by
  refine roI_of (by decide) (Nat.le_of_ble_eq_true rfl) ?_
  intro p e s m below meth c S hr hlk hK hP ls hl
  have hl : lv_has ls 1 [(0, .int x0)] := hl
  refine lv_iload_n S.1 S.2.1 d_Mo_isState_0 rfl (lv_at hl 0 rfl) ?_
  refine lv_if_lt (tgt := 14) S.1 S.2.1 d_Mo_isState_1 (by decide) (fun hc => ?_) (fun hc => ?_)
  · have h := h.1 hc
    refine lv_iconst (v := (0 : Int32)) S.1 S.2.1 d_Mo_isState_14 rfl ?_
    exact ret_roz S hr hlk (by decide) h d_Mo_isState_15
  · have h := h.2 hc
    refine lv_iload_n S.1 S.2.1 d_Mo_isState_4 rfl (lv_at hl 0 rfl) ?_
    refine lv_bipush (v := (6 : Int32)) S.1 S.2.1 d_Mo_isState_5 rfl ?_
    refine lv_icmp_ge (tgt := 14) S.1 S.2.1 d_Mo_isState_7 (by decide) (fun hc => ?_) (fun hc => ?_)
    · have h := h.1 hc
      refine lv_iconst (v := (0 : Int32)) S.1 S.2.1 d_Mo_isState_14 rfl ?_
      exact ret_roz S hr hlk (by decide) h d_Mo_isState_15
    · have h := h.2 hc
      refine lv_iconst (v := (1 : Int32)) S.1 S.2.1 d_Mo_isState_10 rfl ?_
      refine lv_goto (tgt := 15) S.1 S.2.1 d_Mo_isState_11 (by decide) ?_
      exact ret_roz S hr hlk (by decide) h d_Mo_isState_15

set_option maxHeartbeats 4000000 in
set_option maxRecDepth 100000 in
theorem n_Mo_known_6 {p : Program} {l : Launch} {e : Env} {s : State} {m : MethodId} {args : Array Value} {below : List Frame} {meth : Method} {c : Code} {D : va_G} {ad : Nat → Nat} {cA : ClassId × ClassId × ClassId} {mo : Mo} {x1 : Int32} {x2 : Int32} {x3 : Int32} {Q : Int32 → Prop} (S : CallFix p m c b_Mo_known 6 s args gtbl R_Mo) (hr : meth.sig.returnType = (some .int)) (hlk : meth.locks = false) (hK : gK D (tyA cA) s) (hP : va_P D classes (wM ad cA mo) s.heap) : ∀ n : Nat, ∀ (ls : Array Slot) (x4 : Int32) (x5 : Int32), p_Mo_known_6 x1 x2 x3 mo Q n x4 x5 → lv_has ls 6 [(0, .ref (ad 0)), (1, .int x1), (2, .int x2), (3, .int x3), (4, .int x4), (5, .int x5)] → W p l e rm_Mo_known s m args below meth c s.heap [] 0 0 (qRI Q below args s) (F0 m 6 ls []) := by
  intro n
  induction n with
  | zero =>
    intro ls x4 x5 h
    exact (show False from h).elim
  | succ n ih =>
    intro ls x4 x5 h hl
    refine lv_iload S.1 S.2.1 d_Mo_known_6 (lv_at hl 5 rfl) ?_
    refine lv_aload_n S.1 S.2.1 d_Mo_known_8 rfl (lv_at hl 0 rfl) ?_
    refine g_Mo_count S hK hP d_Mo_known_9 ?_
    refine lv_icmp_ge (tgt := 63) S.1 S.2.1 d_Mo_known_12 (by decide) (fun hc => ?_) (fun hc => ?_)
    · have h := h.1 hc
      refine lv_iload S.1 S.2.1 d_Mo_known_63 (lv_at hl 4 rfl) ?_
      exact ret_roi S hr hlk h d_Mo_known_65
    · have h := h.2 hc
      refine lv_aload_n S.1 S.2.1 d_Mo_known_15 rfl (lv_at hl 0 rfl) ?_
      refine g_Mo_symbol S hK hP d_Mo_known_16 ?_
      refine lv_iload S.1 S.2.1 d_Mo_known_19 (lv_at hl 5 rfl) ?_
      obtain ⟨hin, h⟩ := h
      refine a_Mo_symbol S hK hP hin d_Mo_known_21 ?_
      refine lv_iload_n S.1 S.2.1 d_Mo_known_22 rfl (lv_at hl 1 rfl) ?_
      refine lv_icmp_ne (tgt := 53) S.1 S.2.1 d_Mo_known_23 (by decide) (fun hc => ?_) (fun hc => ?_)
      · have h := h.1 hc
        refine lv_iload S.1 S.2.1 d_Mo_known_53 (lv_at hl 4 rfl) ?_
        refine lv_istore (lv' := [(4, .int x4), (0, .ref (ad 0)), (1, .int x1), (2, .int x2), (3, .int x3), (5, .int x5)]) S.1 S.2.1 d_Mo_known_55 hl (by decide) rfl (fun ls hl => ?_)
        refine lv_iinc (k := 5) (v := x5 + (1 : Int32)) (lv' := [(5, .int (x5 + (1 : Int32))), (4, .int x4), (0, .ref (ad 0)), (1, .int x1), (2, .int x2), (3, .int x3)]) S.1 S.2.1 d_Mo_known_57 hl rfl rfl (by decide) rfl (fun ls hl => ?_)
        refine lv_goto (tgt := 6) S.1 S.2.1 d_Mo_known_60 (by decide) ?_
        exact ih _ _ _ h (lv_sub hl [2, 3, 4, 5, 1, 0] rfl)
      · have h := h.2 hc
        refine lv_aload_n S.1 S.2.1 d_Mo_known_26 rfl (lv_at hl 0 rfl) ?_
        refine g_Mo_one S hK hP d_Mo_known_27 ?_
        refine lv_iload S.1 S.2.1 d_Mo_known_30 (lv_at hl 5 rfl) ?_
        obtain ⟨hin, h⟩ := h
        refine a_Mo_one S hK hP hin d_Mo_known_32 ?_
        refine lv_iload_n S.1 S.2.1 d_Mo_known_33 rfl (lv_at hl 2 rfl) ?_
        refine lv_icmp_ne (tgt := 53) S.1 S.2.1 d_Mo_known_34 (by decide) (fun hc => ?_) (fun hc => ?_)
        · have h := h.1 hc
          refine lv_iload S.1 S.2.1 d_Mo_known_53 (lv_at hl 4 rfl) ?_
          refine lv_istore (lv' := [(4, .int x4), (0, .ref (ad 0)), (1, .int x1), (2, .int x2), (3, .int x3), (5, .int x5)]) S.1 S.2.1 d_Mo_known_55 hl (by decide) rfl (fun ls hl => ?_)
          refine lv_iinc (k := 5) (v := x5 + (1 : Int32)) (lv' := [(5, .int (x5 + (1 : Int32))), (4, .int x4), (0, .ref (ad 0)), (1, .int x1), (2, .int x2), (3, .int x3)]) S.1 S.2.1 d_Mo_known_57 hl rfl rfl (by decide) rfl (fun ls hl => ?_)
          refine lv_goto (tgt := 6) S.1 S.2.1 d_Mo_known_60 (by decide) ?_
          exact ih _ _ _ h (lv_sub hl [2, 3, 4, 5, 1, 0] rfl)
        · have h := h.2 hc
          refine lv_aload_n S.1 S.2.1 d_Mo_known_37 rfl (lv_at hl 0 rfl) ?_
          refine g_Mo_two S hK hP d_Mo_known_38 ?_
          refine lv_iload S.1 S.2.1 d_Mo_known_41 (lv_at hl 5 rfl) ?_
          obtain ⟨hin, h⟩ := h
          refine a_Mo_two S hK hP hin d_Mo_known_43 ?_
          refine lv_iload_n S.1 S.2.1 d_Mo_known_44 rfl (lv_at hl 3 rfl) ?_
          refine lv_icmp_ne (tgt := 53) S.1 S.2.1 d_Mo_known_45 (by decide) (fun hc => ?_) (fun hc => ?_)
          · have h := h.1 hc
            refine lv_iload S.1 S.2.1 d_Mo_known_53 (lv_at hl 4 rfl) ?_
            refine lv_istore (lv' := [(4, .int x4), (0, .ref (ad 0)), (1, .int x1), (2, .int x2), (3, .int x3), (5, .int x5)]) S.1 S.2.1 d_Mo_known_55 hl (by decide) rfl (fun ls hl => ?_)
            refine lv_iinc (k := 5) (v := x5 + (1 : Int32)) (lv' := [(5, .int (x5 + (1 : Int32))), (4, .int x4), (0, .ref (ad 0)), (1, .int x1), (2, .int x2), (3, .int x3)]) S.1 S.2.1 d_Mo_known_57 hl rfl rfl (by decide) rfl (fun ls hl => ?_)
            refine lv_goto (tgt := 6) S.1 S.2.1 d_Mo_known_60 (by decide) ?_
            exact ih _ _ _ h (lv_sub hl [2, 3, 4, 5, 1, 0] rfl)
          · have h := h.2 hc
            refine lv_iload S.1 S.2.1 d_Mo_known_48 (lv_at hl 5 rfl) ?_
            refine lv_goto (tgt := 55) S.1 S.2.1 d_Mo_known_50 (by decide) ?_
            refine lv_istore (lv' := [(4, .int x5), (0, .ref (ad 0)), (1, .int x1), (2, .int x2), (3, .int x3), (5, .int x5)]) S.1 S.2.1 d_Mo_known_55 hl (by decide) rfl (fun ls hl => ?_)
            refine lv_iinc (k := 5) (v := x5 + (1 : Int32)) (lv' := [(5, .int (x5 + (1 : Int32))), (4, .int x5), (0, .ref (ad 0)), (1, .int x1), (2, .int x2), (3, .int x3)]) S.1 S.2.1 d_Mo_known_57 hl rfl rfl (by decide) rfl (fun ls hl => ?_)
            refine lv_goto (tgt := 6) S.1 S.2.1 d_Mo_known_60 (by decide) ?_
            exact ih _ _ _ h (lv_sub hl [2, 3, 4, 5, 1, 0] rfl)
set_option maxHeartbeats 4000000 in
set_option maxRecDepth 100000 in
theorem c_Mo_known (l : Launch) (D : va_G) (ad : Nat → Nat) (cA : ClassId × ClassId × ClassId) (mo : Mo) (x1 : Int32) (x2 : Int32) (x3 : Int32) (Q : Int32 → Prop) (h : p_Mo_known x1 x2 x3 mo Q) : roI l y_Mo_known (wsOf y_Mo_known b_Mo_known 6 (some .int)) rm_Mo_known D (tyA cA) (wM ad cA) [.ref (ad 0), .int x1, .int x2, .int x3] mo Q := by
  refine roI_of (by decide) (Nat.le_of_ble_eq_true rfl) ?_
  intro p e s m below meth c S hr hlk hK hP ls hl
  have hl : lv_has ls 6 [(0, .ref (ad 0)), (1, .int x1), (2, .int x2), (3, .int x3)] := hl
  refine lv_iconst (v := (-1 : Int32)) S.1 S.2.1 d_Mo_known_0 rfl ?_
  refine lv_istore (lv' := [(4, .int (-1 : Int32)), (0, .ref (ad 0)), (1, .int x1), (2, .int x2), (3, .int x3)]) S.1 S.2.1 d_Mo_known_1 hl (by decide) rfl (fun ls hl => ?_)
  refine lv_iconst (v := (0 : Int32)) S.1 S.2.1 d_Mo_known_3 rfl ?_
  refine lv_istore (lv' := [(5, .int (0 : Int32)), (4, .int (-1 : Int32)), (0, .ref (ad 0)), (1, .int x1), (2, .int x2), (3, .int x3)]) S.1 S.2.1 d_Mo_known_4 hl (by decide) rfl (fun ls hl => ?_)
  obtain ⟨n', h⟩ := h
  exact n_Mo_known_6 S hr hlk hK hP n' _ _ _ h (lv_sub hl [2, 3, 4, 5, 1, 0] rfl)

set_option maxHeartbeats 4000000 in
set_option maxRecDepth 100000 in
theorem c_Mo_make (l : Launch) (D : va_G) (ad : Nat → Nat) (cA : ClassId × ClassId × ClassId) (mo : Mo) (x1 : Int32) (x2 : Int32) (x3 : Int32) (Q : Int32 → Mo → Prop) (h : p_Mo_make x1 x2 x3 mo Q) : rwI l y_Mo_make (wsOf y_Mo_make b_Mo_make 5 (some .int)) rm_Mo_make D (tyA cA) (wM ad cA) [.ref (ad 0), .int x1, .int x2, .int x3] mo (fun u : Mo => u) (fun (r : Int32) (u : Mo) => Q r u) := by
  refine rwI_of (by decide) (Nat.le_of_ble_eq_true rfl) ?_
  intro p e s m below meth c S hr hlk hK A hA I ls hl
  have hl : lv_has ls 5 [(0, .ref (ad 0)), (1, .int x1), (2, .int x2), (3, .int x3)] := hl
  refine lv_aload_n S.1 S.2.1 d_Mo_make_0 rfl (lv_at hl 0 rfl) ?_
  refine lv_iload_n S.1 S.2.1 d_Mo_make_1 rfl (lv_at hl 1 rfl) ?_
  refine lv_iload_n S.1 S.2.1 d_Mo_make_2 rfl (lv_at hl 2 rfl) ?_
  refine lv_iload_n S.1 S.2.1 d_Mo_make_3 rfl (lv_at hl 3 rfl) ?_
  refine callV_roi S (c_Mo_known l D ad cA _ _ _ _ _ h) (mkV S.2.2.2.2 ml_Mo_75 k_Mo_known rfl rfl ⟨Nat.le_of_ble_eq_true rfl, Nat.le_of_ble_eq_true rfl⟩) (rv_Mo hK I.1) hK I.1 hl.1 rfl rfl (Nat.le_of_ble_eq_true rfl) d_Mo_make_4 ⟨Nat.zero_le _, Nat.zero_le _⟩ (fun r4 h => ?_)
  refine lv_istore (lv' := [(4, .int r4), (0, .ref (ad 0)), (1, .int x1), (2, .int x2), (3, .int x3)]) S.1 S.2.1 d_Mo_make_7 hl (by decide) rfl (fun ls hl => ?_)
  refine lv_iload S.1 S.2.1 d_Mo_make_9 (lv_at hl 0 rfl) ?_
  refine lv_if_lt (tgt := 17) S.1 S.2.1 d_Mo_make_11 (by decide) (fun hc => ?_) (fun hc => ?_)
  · have h := h.1 hc
    refine lv_aload_n S.1 S.2.1 d_Mo_make_17 rfl (lv_at hl 1 rfl) ?_
    refine g_Mo_symbol S hK I.1 d_Mo_make_18 ?_
    refine lv_aload_n S.1 S.2.1 d_Mo_make_21 rfl (lv_at hl 1 rfl) ?_
    refine g_Mo_count S hK I.1 d_Mo_make_22 ?_
    refine lv_iload_n S.1 S.2.1 d_Mo_make_25 rfl (lv_at hl 2 rfl) ?_
    obtain ⟨hin, h⟩ := h
    refine s_Mo_symbol S hK I hin d_Mo_make_26 (fun H locs mo26 emo26 I => ?_)
    have h := h mo26 emo26
    refine lv_aload_n S.1 S.2.1 d_Mo_make_27 rfl (lv_at hl 1 rfl) ?_
    refine g_Mo_one S hK I.1 d_Mo_make_28 ?_
    refine lv_aload_n S.1 S.2.1 d_Mo_make_31 rfl (lv_at hl 1 rfl) ?_
    refine g_Mo_count S hK I.1 d_Mo_make_32 ?_
    refine lv_iload_n S.1 S.2.1 d_Mo_make_35 rfl (lv_at hl 3 rfl) ?_
    obtain ⟨hin, h⟩ := h
    refine s_Mo_one S hK I hin d_Mo_make_36 (fun H locs mo36 emo36 I => ?_)
    have h := h mo36 emo36
    refine lv_aload_n S.1 S.2.1 d_Mo_make_37 rfl (lv_at hl 1 rfl) ?_
    refine g_Mo_two S hK I.1 d_Mo_make_38 ?_
    refine lv_aload_n S.1 S.2.1 d_Mo_make_41 rfl (lv_at hl 1 rfl) ?_
    refine g_Mo_count S hK I.1 d_Mo_make_42 ?_
    refine lv_iload_n S.1 S.2.1 d_Mo_make_45 rfl (lv_at hl 4 rfl) ?_
    obtain ⟨hin, h⟩ := h
    refine s_Mo_two S hK I hin d_Mo_make_46 (fun H locs mo46 emo46 I => ?_)
    have h := h mo46 emo46
    refine lv_aload_n S.1 S.2.1 d_Mo_make_47 rfl (lv_at hl 1 rfl) ?_
    refine lv_dup S.1 S.2.1 d_Mo_make_48 rfl ?_
    refine g_Mo_count S hK I.1 d_Mo_make_49 ?_
    refine lv_iconst (v := (1 : Int32)) S.1 S.2.1 d_Mo_make_52 rfl ?_
    refine lv_iadd S.1 S.2.1 d_Mo_make_53 ?_
    refine q_Mo_count S hK I d_Mo_make_54 (fun H locs mo54 emo54 I => ?_)
    have h := h mo54 emo54
    refine lv_aload_n S.1 S.2.1 d_Mo_make_57 rfl (lv_at hl 1 rfl) ?_
    refine g_Mo_count S hK I.1 d_Mo_make_58 ?_
    refine lv_iconst (v := (1 : Int32)) S.1 S.2.1 d_Mo_make_61 rfl ?_
    refine lv_isub S.1 S.2.1 d_Mo_make_62 ?_
    exact ret_rwi S hr hlk hK I h d_Mo_make_63
  · have h := h.2 hc
    refine lv_iload S.1 S.2.1 d_Mo_make_14 (lv_at hl 0 rfl) ?_
    exact ret_rwi S hr hlk hK I h d_Mo_make_16

set_option maxHeartbeats 4000000 in
set_option maxRecDepth 100000 in
theorem n_Mo_term_140 {p : Program} {l : Launch} {e : Env} {s : State} {m : MethodId} {args : Array Value} {below : List Frame} {meth : Method} {c : Code} {D : va_G} {A : Nat → Prop} {ad : Nat → Nat} {cA : ClassId × ClassId × ClassId}  {x1 : Int32} {x2 : Int32} {x3 : Int32} {Q : Int32 → Mo → Prop} (S : CallFix p m c b_Mo_term 6 s args gtbl R_Mo) (hr : meth.sig.returnType = (some .int)) (hlk : meth.locks = false) (hK : gK D (tyA cA) s) (hA : ∀ q : Nat, s.heap.size ≤ q → A q) : ∀ (ls : Array Slot) (H : Heap) (locs : List Loc) (x4 : Int32) (x5 : Int32) (y0 : Int32) (mo : Mo), p_Mo_term_140 x1 x2 x3 Q x4 x5 y0 mo → lv_has ls 6 [(0, .ref (ad 0)), (1, .int x1), (4, .int x4), (5, .int x5)] → gIn D A s (wM ad cA) mo H locs → W p l e rm_Mo_term s m args below meth c H locs 0 0 (qI D (tyA cA) A (wM ad cA) (fun u : Mo => u) (fun (r : Int32) (u : Mo) => Q r u) below args s) (F0 m 140 ls [.int y0, .ref (ad 0)]) := by
  intro ls H locs x4 x5 y0 mo h hl I
  refine q_Mo_thrown S hK I d_Mo_term_140 (fun H locs mo140 emo140 I => ?_)
  have h := h mo140 emo140
  refine lv_aload_n S.1 S.2.1 d_Mo_term_143 rfl (lv_at hl 0 rfl) ?_
  refine g_Mo_thrown S hK I.1 d_Mo_term_144 ?_
  refine lv_if_le (tgt := 154) S.1 S.2.1 d_Mo_term_147 (by decide) (fun hc => ?_) (fun hc => ?_)
  · have h := h.1 hc
    refine lv_aload_n S.1 S.2.1 d_Mo_term_154 rfl (lv_at hl 0 rfl) ?_
    refine lv_iload_n S.1 S.2.1 d_Mo_term_155 rfl (lv_at hl 1 rfl) ?_
    refine lv_iload S.1 S.2.1 d_Mo_term_156 (lv_at hl 2 rfl) ?_
    refine lv_iload S.1 S.2.1 d_Mo_term_158 (lv_at hl 3 rfl) ?_
    refine callV_rwi S (c_Mo_make l D ad cA _ _ _ _ _ h) (mkV S.2.2.2.2 ml_Mo_83 k_Mo_make rfl rfl ⟨Nat.le_of_ble_eq_true rfl, Nat.le_of_ble_eq_true rfl⟩) (rv_Mo hK I.1) hK hA I hl.1 rfl rfl (Nat.le_of_ble_eq_true rfl) d_Mo_term_160 ⟨Nat.zero_le _, Nat.zero_le _⟩ (fun r160 mo160 H locs h I => ?_)
    exact ret_rwi S hr hlk hK I h d_Mo_term_163
  · have h := h.2 hc
    refine lv_iconst (v := (0 : Int32)) S.1 S.2.1 d_Mo_term_150 rfl ?_
    refine lv_goto (tgt := 163) S.1 S.2.1 d_Mo_term_151 (by decide) ?_
    exact ret_rwi S hr hlk hK I h d_Mo_term_163
set_option maxHeartbeats 4000000 in
set_option maxRecDepth 100000 in
theorem n_Mo_term_139 {p : Program} {l : Launch} {e : Env} {s : State} {m : MethodId} {args : Array Value} {below : List Frame} {meth : Method} {c : Code} {D : va_G} {A : Nat → Prop} {ad : Nat → Nat} {cA : ClassId × ClassId × ClassId}  {x1 : Int32} {x2 : Int32} {x3 : Int32} {Q : Int32 → Mo → Prop} (S : CallFix p m c b_Mo_term 6 s args gtbl R_Mo) (hr : meth.sig.returnType = (some .int)) (hlk : meth.locks = false) (hK : gK D (tyA cA) s) (hA : ∀ q : Nat, s.heap.size ≤ q → A q) : ∀ (ls : Array Slot) (H : Heap) (locs : List Loc) (x4 : Int32) (x5 : Int32) (mo : Mo), p_Mo_term_139 x1 x2 x3 Q x4 x5 mo → lv_has ls 6 [(0, .ref (ad 0)), (1, .int x1), (4, .int x4), (5, .int x5)] → gIn D A s (wM ad cA) mo H locs → W p l e rm_Mo_term s m args below meth c H locs 0 0 (qI D (tyA cA) A (wM ad cA) (fun u : Mo => u) (fun (r : Int32) (u : Mo) => Q r u) below args s) (F0 m 139 ls [.ref (ad 0)]) := by
  intro ls H locs x4 x5 mo h hl I
  refine lv_iconst (v := (0 : Int32)) S.1 S.2.1 d_Mo_term_139 rfl ?_
  exact n_Mo_term_140 S hr hlk hK hA _ _ _ _ _ _ _ h (lv_sub hl [0, 1, 2, 3] rfl) I
set_option maxHeartbeats 4000000 in
set_option maxRecDepth 100000 in
theorem n_Mo_term_111 {p : Program} {l : Launch} {e : Env} {s : State} {m : MethodId} {args : Array Value} {below : List Frame} {meth : Method} {c : Code} {D : va_G} {A : Nat → Prop} {ad : Nat → Nat} {cA : ClassId × ClassId × ClassId}  {x1 : Int32} {x2 : Int32} {x3 : Int32} {Q : Int32 → Mo → Prop} (S : CallFix p m c b_Mo_term 6 s args gtbl R_Mo) (hr : meth.sig.returnType = (some .int)) (hlk : meth.locks = false) (hK : gK D (tyA cA) s) (hA : ∀ q : Nat, s.heap.size ≤ q → A q) : ∀ (ls : Array Slot) (H : Heap) (locs : List Loc) (x4 : Int32) (y0 : Int32) (mo : Mo), p_Mo_term_111 x1 x2 x3 Q x4 y0 mo → lv_has ls 6 [(0, .ref (ad 0)), (1, .int x1), (4, .int x4)] → gIn D A s (wM ad cA) mo H locs → W p l e rm_Mo_term s m args below meth c H locs 0 0 (qI D (tyA cA) A (wM ad cA) (fun u : Mo => u) (fun (r : Int32) (u : Mo) => Q r u) below args s) (F0 m 111 ls [.int y0]) := by
  intro ls H locs x4 y0 mo h hl I
  refine lv_istore (lv' := [(5, .int y0), (0, .ref (ad 0)), (1, .int x1), (4, .int x4)]) S.1 S.2.1 d_Mo_term_111 hl (by decide) rfl (fun ls hl => ?_)
  refine lv_aload_n S.1 S.2.1 d_Mo_term_113 rfl (lv_at hl 1 rfl) ?_
  refine lv_aload_n S.1 S.2.1 d_Mo_term_114 rfl (lv_at hl 1 rfl) ?_
  refine lv_iload_n S.1 S.2.1 d_Mo_term_115 rfl (lv_at hl 2 rfl) ?_
  refine lv_iload S.1 S.2.1 d_Mo_term_116 (lv_at hl 3 rfl) ?_
  refine lv_iload S.1 S.2.1 d_Mo_term_118 (lv_at hl 0 rfl) ?_
  refine callV_roi S (c_Mo_known l D ad cA _ _ _ _ _ h) (mkV S.2.2.2.2 ml_Mo_75 k_Mo_known rfl rfl ⟨Nat.le_of_ble_eq_true rfl, Nat.le_of_ble_eq_true rfl⟩) (rv_Mo hK I.1) hK I.1 hl.1 rfl rfl (Nat.le_of_ble_eq_true rfl) d_Mo_term_120 ⟨Nat.zero_le _, Nat.zero_le _⟩ (fun r120 h => ?_)
  refine lv_if_ge (tgt := 139) S.1 S.2.1 d_Mo_term_123 (by decide) (fun hc => ?_) (fun hc => ?_)
  · have h := h.1 hc
    exact n_Mo_term_139 S hr hlk hK hA _ _ _ _ _ _ h (lv_sub hl [1, 2, 3, 0] rfl) I
  · have h := h.2 hc
    refine lv_aload_n S.1 S.2.1 d_Mo_term_126 rfl (lv_at hl 1 rfl) ?_
    refine g_Mo_count S hK I.1 d_Mo_term_127 ?_
    refine lv_bipush (v := (48 : Int32)) S.1 S.2.1 d_Mo_term_130 rfl ?_
    refine lv_icmp_ne (tgt := 139) S.1 S.2.1 d_Mo_term_132 (by decide) (fun hc => ?_) (fun hc => ?_)
    · have h := h.1 hc
      exact n_Mo_term_139 S hr hlk hK hA _ _ _ _ _ _ h (lv_sub hl [1, 2, 3, 0] rfl) I
    · have h := h.2 hc
      refine lv_iconst (v := (2 : Int32)) S.1 S.2.1 d_Mo_term_135 rfl ?_
      refine lv_goto (tgt := 140) S.1 S.2.1 d_Mo_term_136 (by decide) ?_
      exact n_Mo_term_140 S hr hlk hK hA _ _ _ _ _ _ _ h (lv_sub hl [1, 2, 3, 0] rfl) I
set_option maxHeartbeats 4000000 in
set_option maxRecDepth 100000 in
theorem n_Mo_term_94 {p : Program} {l : Launch} {e : Env} {s : State} {m : MethodId} {args : Array Value} {below : List Frame} {meth : Method} {c : Code} {D : va_G} {A : Nat → Prop} {ad : Nat → Nat} {cA : ClassId × ClassId × ClassId}  {x1 : Int32} {x2 : Int32} {x3 : Int32} {Q : Int32 → Mo → Prop} (S : CallFix p m c b_Mo_term 6 s args gtbl R_Mo) (hr : meth.sig.returnType = (some .int)) (hlk : meth.locks = false) (hK : gK D (tyA cA) s) (hA : ∀ q : Nat, s.heap.size ≤ q → A q) : ∀ (ls : Array Slot) (H : Heap) (locs : List Loc) (y0 : Int32) (mo : Mo), p_Mo_term_94 x1 x2 x3 Q y0 mo → lv_has ls 6 [(0, .ref (ad 0)), (1, .int x1), (3, .int x3)] → gIn D A s (wM ad cA) mo H locs → W p l e rm_Mo_term s m args below meth c H locs 0 0 (qI D (tyA cA) A (wM ad cA) (fun u : Mo => u) (fun (r : Int32) (u : Mo) => Q r u) below args s) (F0 m 94 ls [.int y0]) := by
  intro ls H locs y0 mo h hl I
  refine lv_istore (lv' := [(4, .int y0), (0, .ref (ad 0)), (1, .int x1), (3, .int x3)]) S.1 S.2.1 d_Mo_term_94 hl (by decide) rfl (fun ls hl => ?_)
  refine lv_aload_n S.1 S.2.1 d_Mo_term_96 rfl (lv_at hl 1 rfl) ?_
  refine g_Mo_places S hK I.1 d_Mo_term_97 ?_
  refine lv_iload_n S.1 S.2.1 d_Mo_term_100 rfl (lv_at hl 2 rfl) ?_
  obtain ⟨hin, h⟩ := h
  refine a_Mo_places S hK I.1 hin d_Mo_term_101 ?_
  refine lv_iconst (v := (1 : Int32)) S.1 S.2.1 d_Mo_term_102 rfl ?_
  refine lv_icmp_le (tgt := 110) S.1 S.2.1 d_Mo_term_103 (by decide) (fun hc => ?_) (fun hc => ?_)
  · have h := h.1 hc
    refine lv_iconst (v := (-1 : Int32)) S.1 S.2.1 d_Mo_term_110 rfl ?_
    exact n_Mo_term_111 S hr hlk hK hA _ _ _ _ _ _ h (lv_sub hl [1, 2, 0] rfl) I
  · have h := h.2 hc
    refine lv_iload_n S.1 S.2.1 d_Mo_term_106 rfl (lv_at hl 3 rfl) ?_
    refine lv_goto (tgt := 111) S.1 S.2.1 d_Mo_term_107 (by decide) ?_
    exact n_Mo_term_111 S hr hlk hK hA _ _ _ _ _ _ h (lv_sub hl [1, 2, 0] rfl) I
set_option maxHeartbeats 4000000 in
set_option maxRecDepth 100000 in
theorem n_Mo_term_68 {p : Program} {l : Launch} {e : Env} {s : State} {m : MethodId} {args : Array Value} {below : List Frame} {meth : Method} {c : Code} {D : va_G} {A : Nat → Prop} {ad : Nat → Nat} {cA : ClassId × ClassId × ClassId}  {x1 : Int32} {x2 : Int32} {x3 : Int32} {Q : Int32 → Mo → Prop} (S : CallFix p m c b_Mo_term 6 s args gtbl R_Mo) (hr : meth.sig.returnType = (some .int)) (hlk : meth.locks = false) (hK : gK D (tyA cA) s) (hA : ∀ q : Nat, s.heap.size ≤ q → A q) : ∀ (ls : Array Slot) (H : Heap) (locs : List Loc) (y0 : Int32) (mo : Mo), p_Mo_term_68 x1 x2 x3 Q y0 mo → lv_has ls 6 [(0, .ref (ad 0)), (1, .int x1), (2, .int x2), (3, .int x3)] → gIn D A s (wM ad cA) mo H locs → W p l e rm_Mo_term s m args below meth c H locs 0 0 (qI D (tyA cA) A (wM ad cA) (fun u : Mo => u) (fun (r : Int32) (u : Mo) => Q r u) below args s) (F0 m 68 ls [.int y0, .ref (ad 0)]) := by
  intro ls H locs y0 mo h hl I
  refine q_Mo_thrown S hK I d_Mo_term_68 (fun H locs mo68 emo68 I => ?_)
  have h := h mo68 emo68
  refine lv_aload_n S.1 S.2.1 d_Mo_term_71 rfl (lv_at hl 0 rfl) ?_
  refine g_Mo_thrown S hK I.1 d_Mo_term_72 ?_
  refine lv_if_le (tgt := 80) S.1 S.2.1 d_Mo_term_75 (by decide) (fun hc => ?_) (fun hc => ?_)
  · have h := h.1 hc
    refine lv_aload_n S.1 S.2.1 d_Mo_term_80 rfl (lv_at hl 0 rfl) ?_
    refine g_Mo_places S hK I.1 d_Mo_term_81 ?_
    refine lv_iload_n S.1 S.2.1 d_Mo_term_84 rfl (lv_at hl 1 rfl) ?_
    obtain ⟨hin, h⟩ := h
    refine a_Mo_places S hK I.1 hin d_Mo_term_85 ?_
    refine lv_if_le (tgt := 93) S.1 S.2.1 d_Mo_term_86 (by decide) (fun hc => ?_) (fun hc => ?_)
    · have h := h.1 hc
      refine lv_iconst (v := (-1 : Int32)) S.1 S.2.1 d_Mo_term_93 rfl ?_
      exact n_Mo_term_94 S hr hlk hK hA _ _ _ _ _ h (lv_sub hl [0, 1, 3] rfl) I
    · have h := h.2 hc
      refine lv_iload_n S.1 S.2.1 d_Mo_term_89 rfl (lv_at hl 2 rfl) ?_
      refine lv_goto (tgt := 94) S.1 S.2.1 d_Mo_term_90 (by decide) ?_
      exact n_Mo_term_94 S hr hlk hK hA _ _ _ _ _ h (lv_sub hl [0, 1, 3] rfl) I
  · have h := h.2 hc
    refine lv_iconst (v := (0 : Int32)) S.1 S.2.1 d_Mo_term_78 rfl ?_
    exact ret_rwi S hr hlk hK I h d_Mo_term_79
set_option maxHeartbeats 4000000 in
set_option maxRecDepth 100000 in
theorem n_Mo_term_67 {p : Program} {l : Launch} {e : Env} {s : State} {m : MethodId} {args : Array Value} {below : List Frame} {meth : Method} {c : Code} {D : va_G} {A : Nat → Prop} {ad : Nat → Nat} {cA : ClassId × ClassId × ClassId}  {x1 : Int32} {x2 : Int32} {x3 : Int32} {Q : Int32 → Mo → Prop} (S : CallFix p m c b_Mo_term 6 s args gtbl R_Mo) (hr : meth.sig.returnType = (some .int)) (hlk : meth.locks = false) (hK : gK D (tyA cA) s) (hA : ∀ q : Nat, s.heap.size ≤ q → A q) : ∀ (ls : Array Slot) (H : Heap) (locs : List Loc) (mo : Mo), p_Mo_term_67 x1 x2 x3 Q mo → lv_has ls 6 [(0, .ref (ad 0)), (1, .int x1), (2, .int x2), (3, .int x3)] → gIn D A s (wM ad cA) mo H locs → W p l e rm_Mo_term s m args below meth c H locs 0 0 (qI D (tyA cA) A (wM ad cA) (fun u : Mo => u) (fun (r : Int32) (u : Mo) => Q r u) below args s) (F0 m 67 ls [.ref (ad 0)]) := by
  intro ls H locs mo h hl I
  refine lv_iconst (v := (0 : Int32)) S.1 S.2.1 d_Mo_term_67 rfl ?_
  exact n_Mo_term_68 S hr hlk hK hA _ _ _ _ _ h (lv_sub hl [0, 1, 2, 3] rfl) I
set_option maxHeartbeats 4000000 in
set_option maxRecDepth 100000 in
theorem n_Mo_term_63 {p : Program} {l : Launch} {e : Env} {s : State} {m : MethodId} {args : Array Value} {below : List Frame} {meth : Method} {c : Code} {D : va_G} {A : Nat → Prop} {ad : Nat → Nat} {cA : ClassId × ClassId × ClassId}  {x1 : Int32} {x2 : Int32} {x3 : Int32} {Q : Int32 → Mo → Prop} (S : CallFix p m c b_Mo_term 6 s args gtbl R_Mo) (hr : meth.sig.returnType = (some .int)) (hlk : meth.locks = false) (hK : gK D (tyA cA) s) (hA : ∀ q : Nat, s.heap.size ≤ q → A q) : ∀ (ls : Array Slot) (H : Heap) (locs : List Loc) (mo : Mo), p_Mo_term_63 x1 x2 x3 Q mo → lv_has ls 6 [(0, .ref (ad 0)), (1, .int x1), (2, .int x2), (3, .int x3)] → gIn D A s (wM ad cA) mo H locs → W p l e rm_Mo_term s m args below meth c H locs 0 0 (qI D (tyA cA) A (wM ad cA) (fun u : Mo => u) (fun (r : Int32) (u : Mo) => Q r u) below args s) (F0 m 63 ls [.ref (ad 0)]) := by
  intro ls H locs mo h hl I
  refine lv_iconst (v := (1 : Int32)) S.1 S.2.1 d_Mo_term_63 rfl ?_
  refine lv_goto (tgt := 68) S.1 S.2.1 d_Mo_term_64 (by decide) ?_
  exact n_Mo_term_68 S hr hlk hK hA _ _ _ _ _ h (lv_sub hl [0, 1, 2, 3] rfl) I
set_option maxHeartbeats 4000000 in
set_option maxRecDepth 100000 in
theorem n_Mo_term_45 {p : Program} {l : Launch} {e : Env} {s : State} {m : MethodId} {args : Array Value} {below : List Frame} {meth : Method} {c : Code} {D : va_G} {A : Nat → Prop} {ad : Nat → Nat} {cA : ClassId × ClassId × ClassId}  {x1 : Int32} {x2 : Int32} {x3 : Int32} {Q : Int32 → Mo → Prop} (S : CallFix p m c b_Mo_term 6 s args gtbl R_Mo) (hr : meth.sig.returnType = (some .int)) (hlk : meth.locks = false) (hK : gK D (tyA cA) s) (hA : ∀ q : Nat, s.heap.size ≤ q → A q) : ∀ (ls : Array Slot) (H : Heap) (locs : List Loc) (mo : Mo), p_Mo_term_45 x1 x2 x3 Q mo → lv_has ls 6 [(0, .ref (ad 0)), (1, .int x1), (2, .int x2), (3, .int x3)] → gIn D A s (wM ad cA) mo H locs → W p l e rm_Mo_term s m args below meth c H locs 0 0 (qI D (tyA cA) A (wM ad cA) (fun u : Mo => u) (fun (r : Int32) (u : Mo) => Q r u) below args s) (F0 m 45 ls [.ref (ad 0)]) := by
  intro ls H locs mo h hl I
  refine lv_aload_n S.1 S.2.1 d_Mo_term_45 rfl (lv_at hl 0 rfl) ?_
  refine g_Mo_places S hK I.1 d_Mo_term_46 ?_
  refine lv_iload_n S.1 S.2.1 d_Mo_term_49 rfl (lv_at hl 1 rfl) ?_
  obtain ⟨hin, h⟩ := h
  refine a_Mo_places S hK I.1 hin d_Mo_term_50 ?_
  refine lv_iconst (v := (1 : Int32)) S.1 S.2.1 d_Mo_term_51 rfl ?_
  refine lv_icmp_le (tgt := 67) S.1 S.2.1 d_Mo_term_52 (by decide) (fun hc => ?_) (fun hc => ?_)
  · have h := h.1 hc
    exact n_Mo_term_67 S hr hlk hK hA _ _ _ _ h (lv_sub hl [0, 1, 2, 3] rfl) I
  · have h := h.2 hc
    refine lv_aload_n S.1 S.2.1 d_Mo_term_55 rfl (lv_at hl 0 rfl) ?_
    refine lv_iload_n S.1 S.2.1 d_Mo_term_56 rfl (lv_at hl 3 rfl) ?_
    refine callV_roi S (c_Mo_isTerm l D ad cA _ _ _ h) (mkV S.2.2.2.2 ml_Mo_79 k_Mo_isTerm rfl rfl ⟨Nat.le_of_ble_eq_true rfl, Nat.le_of_ble_eq_true rfl⟩) (rv_Mo hK I.1) hK I.1 hl.1 rfl rfl (Nat.le_of_ble_eq_true rfl) d_Mo_term_57 ⟨Nat.zero_le _, Nat.zero_le _⟩ (fun r57 h => ?_)
    refine lv_if_ne (tgt := 67) S.1 S.2.1 d_Mo_term_60 (by decide) (fun hc => ?_) (fun hc => ?_)
    · have h := h.1 hc
      exact n_Mo_term_67 S hr hlk hK hA _ _ _ _ h (lv_sub hl [0, 1, 2, 3] rfl) I
    · have h := h.2 hc
      exact n_Mo_term_63 S hr hlk hK hA _ _ _ _ h (lv_sub hl [0, 1, 2, 3] rfl) I
set_option maxHeartbeats 4000000 in
set_option maxRecDepth 100000 in
theorem n_Mo_term_15 {p : Program} {l : Launch} {e : Env} {s : State} {m : MethodId} {args : Array Value} {below : List Frame} {meth : Method} {c : Code} {D : va_G} {A : Nat → Prop} {ad : Nat → Nat} {cA : ClassId × ClassId × ClassId}  {x1 : Int32} {x2 : Int32} {x3 : Int32} {Q : Int32 → Mo → Prop} (S : CallFix p m c b_Mo_term 6 s args gtbl R_Mo) (hr : meth.sig.returnType = (some .int)) (hlk : meth.locks = false) (hK : gK D (tyA cA) s) (hA : ∀ q : Nat, s.heap.size ≤ q → A q) : ∀ (ls : Array Slot) (H : Heap) (locs : List Loc) (y0 : Int32) (mo : Mo), p_Mo_term_15 x1 x2 x3 Q y0 mo → lv_has ls 6 [(0, .ref (ad 0)), (1, .int x1), (2, .int x2), (3, .int x3)] → gIn D A s (wM ad cA) mo H locs → W p l e rm_Mo_term s m args below meth c H locs 0 0 (qI D (tyA cA) A (wM ad cA) (fun u : Mo => u) (fun (r : Int32) (u : Mo) => Q r u) below args s) (F0 m 15 ls [.int y0, .ref (ad 0)]) := by
  intro ls H locs y0 mo h hl I
  refine q_Mo_thrown S hK I d_Mo_term_15 (fun H locs mo15 emo15 I => ?_)
  have h := h mo15 emo15
  refine lv_aload_n S.1 S.2.1 d_Mo_term_18 rfl (lv_at hl 0 rfl) ?_
  refine g_Mo_thrown S hK I.1 d_Mo_term_19 ?_
  refine lv_if_le (tgt := 27) S.1 S.2.1 d_Mo_term_22 (by decide) (fun hc => ?_) (fun hc => ?_)
  · have h := h.1 hc
    refine lv_aload_n S.1 S.2.1 d_Mo_term_27 rfl (lv_at hl 0 rfl) ?_
    refine lv_aload_n S.1 S.2.1 d_Mo_term_28 rfl (lv_at hl 0 rfl) ?_
    refine g_Mo_places S hK I.1 d_Mo_term_29 ?_
    refine lv_iload_n S.1 S.2.1 d_Mo_term_32 rfl (lv_at hl 1 rfl) ?_
    obtain ⟨hin, h⟩ := h
    refine a_Mo_places S hK I.1 hin d_Mo_term_33 ?_
    refine lv_if_le (tgt := 45) S.1 S.2.1 d_Mo_term_34 (by decide) (fun hc => ?_) (fun hc => ?_)
    · have h := h.1 hc
      exact n_Mo_term_45 S hr hlk hK hA _ _ _ _ h (lv_sub hl [0, 1, 2, 3] rfl) I
    · have h := h.2 hc
      refine lv_aload_n S.1 S.2.1 d_Mo_term_37 rfl (lv_at hl 0 rfl) ?_
      refine lv_iload_n S.1 S.2.1 d_Mo_term_38 rfl (lv_at hl 2 rfl) ?_
      refine callV_roi S (c_Mo_isTerm l D ad cA _ _ _ h) (mkV S.2.2.2.2 ml_Mo_79 k_Mo_isTerm rfl rfl ⟨Nat.le_of_ble_eq_true rfl, Nat.le_of_ble_eq_true rfl⟩) (rv_Mo hK I.1) hK I.1 hl.1 rfl rfl (Nat.le_of_ble_eq_true rfl) d_Mo_term_39 ⟨Nat.zero_le _, Nat.zero_le _⟩ (fun r39 h => ?_)
      refine lv_if_eq (tgt := 63) S.1 S.2.1 d_Mo_term_42 (by decide) (fun hc => ?_) (fun hc => ?_)
      · have h := h.1 hc
        exact n_Mo_term_63 S hr hlk hK hA _ _ _ _ h (lv_sub hl [0, 1, 2, 3] rfl) I
      · have h := h.2 hc
        exact n_Mo_term_45 S hr hlk hK hA _ _ _ _ h (lv_sub hl [0, 1, 2, 3] rfl) I
  · have h := h.2 hc
    refine lv_iconst (v := (0 : Int32)) S.1 S.2.1 d_Mo_term_25 rfl ?_
    exact ret_rwi S hr hlk hK I h d_Mo_term_26
set_option maxHeartbeats 4000000 in
set_option maxRecDepth 100000 in
theorem n_Mo_term_10 {p : Program} {l : Launch} {e : Env} {s : State} {m : MethodId} {args : Array Value} {below : List Frame} {meth : Method} {c : Code} {D : va_G} {A : Nat → Prop} {ad : Nat → Nat} {cA : ClassId × ClassId × ClassId}  {x1 : Int32} {x2 : Int32} {x3 : Int32} {Q : Int32 → Mo → Prop} (S : CallFix p m c b_Mo_term 6 s args gtbl R_Mo) (hr : meth.sig.returnType = (some .int)) (hlk : meth.locks = false) (hK : gK D (tyA cA) s) (hA : ∀ q : Nat, s.heap.size ≤ q → A q) : ∀ (ls : Array Slot) (H : Heap) (locs : List Loc) (mo : Mo), p_Mo_term_10 x1 x2 x3 Q mo → lv_has ls 6 [(0, .ref (ad 0)), (1, .int x1), (2, .int x2), (3, .int x3)] → gIn D A s (wM ad cA) mo H locs → W p l e rm_Mo_term s m args below meth c H locs 0 0 (qI D (tyA cA) A (wM ad cA) (fun u : Mo => u) (fun (r : Int32) (u : Mo) => Q r u) below args s) (F0 m 10 ls [.ref (ad 0)]) := by
  intro ls H locs mo h hl I
  refine lv_iconst (v := (1 : Int32)) S.1 S.2.1 d_Mo_term_10 rfl ?_
  refine lv_goto (tgt := 15) S.1 S.2.1 d_Mo_term_11 (by decide) ?_
  exact n_Mo_term_15 S hr hlk hK hA _ _ _ _ _ h (lv_sub hl [0, 1, 2, 3] rfl) I
set_option maxHeartbeats 4000000 in
set_option maxRecDepth 100000 in
theorem c_Mo_term (l : Launch) (D : va_G) (ad : Nat → Nat) (cA : ClassId × ClassId × ClassId) (mo : Mo) (x1 : Int32) (x2 : Int32) (x3 : Int32) (Q : Int32 → Mo → Prop) (h : p_Mo_term x1 x2 x3 mo Q) : rwI l y_Mo_term (wsOf y_Mo_term b_Mo_term 6 (some .int)) rm_Mo_term D (tyA cA) (wM ad cA) [.ref (ad 0), .int x1, .int x2, .int x3] mo (fun u : Mo => u) (fun (r : Int32) (u : Mo) => Q r u) := by
  refine rwI_of (by decide) (Nat.le_of_ble_eq_true rfl) ?_
  intro p e s m below meth c S hr hlk hK A hA I ls hl
  have hl : lv_has ls 6 [(0, .ref (ad 0)), (1, .int x1), (2, .int x2), (3, .int x3)] := hl
  refine lv_aload_n S.1 S.2.1 d_Mo_term_0 rfl (lv_at hl 0 rfl) ?_
  refine lv_iload_n S.1 S.2.1 d_Mo_term_1 rfl (lv_at hl 1 rfl) ?_
  refine lv_if_lt (tgt := 10) S.1 S.2.1 d_Mo_term_2 (by decide) (fun hc => ?_) (fun hc => ?_)
  · have h := h.1 hc
    exact n_Mo_term_10 S hr hlk hK hA _ _ _ _ h (lv_sub hl [0, 1, 2, 3] rfl) I
  · have h := h.2 hc
    refine lv_iload_n S.1 S.2.1 d_Mo_term_5 rfl (lv_at hl 1 rfl) ?_
    refine lv_iconst (v := (5 : Int32)) S.1 S.2.1 d_Mo_term_6 rfl ?_
    refine lv_icmp_le (tgt := 14) S.1 S.2.1 d_Mo_term_7 (by decide) (fun hc => ?_) (fun hc => ?_)
    · have h := h.1 hc
      refine lv_iconst (v := (0 : Int32)) S.1 S.2.1 d_Mo_term_14 rfl ?_
      exact n_Mo_term_15 S hr hlk hK hA _ _ _ _ _ h (lv_sub hl [0, 1, 2, 3] rfl) I
    · have h := h.2 hc
      exact n_Mo_term_10 S hr hlk hK hA _ _ _ _ h (lv_sub hl [0, 1, 2, 3] rfl) I

set_option maxHeartbeats 4000000 in
set_option maxRecDepth 100000 in
theorem c_Mo_capped (l : Launch) (D : va_G) (ad : Nat → Nat) (cA : ClassId × ClassId × ClassId) (mo : Mo) (x0 : Int64) (Q : Int32 → Prop) (h : p_Mo_capped x0  Q) : roI l y_Mo_capped (wsOf y_Mo_capped b_Mo_capped 2 (some .int)) rm_Mo_capped D (tyA cA) (wM ad cA) [.long x0] mo Q := by
  refine roI_of (by decide) (Nat.le_of_ble_eq_true rfl) ?_
  intro p e s m below meth c S hr hlk hK hP ls hl
  have hl : lv_has ls 2 [(0, .long x0)] := hl
  refine lv_lload_n S.1 S.2.1 d_Mo_capped_0 rfl (lv_at hl 0 rfl) ?_
  refine lv_ldc2 (v := (1000000000 : Int64)) S.1 S.2.1 S.2.2.2.1 (S.2.2.2.2 _ kn_Mo_86) d_Mo_capped_1 ?_
  refine W.lcmp S.1 S.2.1 d_Mo_capped_4 ?_
  refine lv_if_le (tgt := 13) S.1 S.2.1 d_Mo_capped_5 (by decide) (fun hc => ?_) (fun hc => ?_)
  · have h := h.1 hc
    refine lv_lload_n S.1 S.2.1 d_Mo_capped_13 rfl (lv_at hl 0 rfl) ?_
    refine lv_l2i S.1 S.2.1 d_Mo_capped_14 rfl ?_
    exact ret_roi S hr hlk h d_Mo_capped_15
  · have h := h.2 hc
    refine lv_ldc (v := (1000000000 : Int32)) S.1 S.2.1 S.2.2.2.1 (S.2.2.2.2 _ kn_Mo_88) d_Mo_capped_8 ?_
    refine lv_goto (tgt := 15) S.1 S.2.1 d_Mo_capped_10 (by decide) ?_
    exact ret_roi S hr hlk h d_Mo_capped_15

set_option maxHeartbeats 4000000 in
set_option maxRecDepth 100000 in
theorem n_Mo_size_58 {p : Program} {l : Launch} {e : Env} {s : State} {m : MethodId} {args : Array Value} {below : List Frame} {meth : Method} {c : Code} {D : va_G} {A : Nat → Prop} {ad : Nat → Nat} {cA : ClassId × ClassId × ClassId}  {x1 : Int32} {Q : Int32 → Mo → Prop} (S : CallFix p m c b_Mo_size 5 s args gtbl R_Mo) (hr : meth.sig.returnType = (some .int)) (hlk : meth.locks = false) (hK : gK D (tyA cA) s) (hA : ∀ q : Nat, s.heap.size ≤ q → A q) {k2 : Int32 → Mo → Prop} (hk2 : ∀ (ls : Array Slot) (H : Heap) (locs : List Loc) (x2 : Int32) (mo : Mo), k2 x2 mo → lv_has ls 5 [(0, .ref (ad 0)), (1, .int x1), (2, .int x2)] → gIn D A s (wM ad cA) mo H locs → W p l e rm_Mo_size s m args below meth c H locs 0 0 (qI D (tyA cA) A (wM ad cA) (fun u : Mo => u) (fun (r : Int32) (u : Mo) => Q r u) below args s) (F0 m 2 ls [])) : ∀ (ls : Array Slot) (H : Heap) (locs : List Loc) (x2 : Int32) (y0 : Int32) (y1 : Int64) (mo : Mo), p_Mo_size_58 x1 Q k2 x2 y0 y1 mo → lv_has ls 5 [(0, .ref (ad 0)), (1, .int x1), (2, .int x2)] → gIn D A s (wM ad cA) mo H locs → W p l e rm_Mo_size s m args below meth c H locs 0 0 (qI D (tyA cA) A (wM ad cA) (fun u : Mo => u) (fun (r : Int32) (u : Mo) => Q r u) below args s) (F0 m 58 ls [.int y0, .long y1]) := by
  intro ls H locs x2 y0 y1 mo h hl I
  refine lv_i2l S.1 S.2.1 d_Mo_size_58 rfl ?_
  refine lv_ladd S.1 S.2.1 d_Mo_size_59 ?_
  refine lv_lstore_n (lv' := [(3, .long (y1 + y0.toInt64)), (0, .ref (ad 0)), (1, .int x1), (2, .int x2)]) S.1 S.2.1 d_Mo_size_60 rfl hl (by decide) rfl (fun ls hl => ?_)
  refine lv_aload_n S.1 S.2.1 d_Mo_size_61 rfl (lv_at hl 1 rfl) ?_
  refine g_Mo_many S hK I.1 d_Mo_size_62 ?_
  refine lv_iload_n S.1 S.2.1 d_Mo_size_65 rfl (lv_at hl 3 rfl) ?_
  refine lv_lload_n S.1 S.2.1 d_Mo_size_66 rfl (lv_at hl 0 rfl) ?_
  refine callS_roi S (c_Mo_capped l D ad cA _ _ _ h) (mkS S.2.2.2.2 ml_Mo_89 k_Mo_capped rfl rfl ⟨Nat.le_of_ble_eq_true rfl, Nat.le_of_ble_eq_true rfl⟩) hK I.1 hl.1 rfl rfl (Nat.le_of_ble_eq_true rfl) d_Mo_size_67 ⟨Nat.zero_le _, Nat.zero_le _⟩ (fun r67 h => ?_)
  obtain ⟨hin, h⟩ := h
  refine s_Mo_many S hK I hin d_Mo_size_70 (fun H locs mo70 emo70 I => ?_)
  have h := h mo70 emo70
  refine lv_iinc (k := 3) (v := x2 + (1 : Int32)) (lv' := [(2, .int (x2 + (1 : Int32))), (3, .long (y1 + y0.toInt64)), (0, .ref (ad 0)), (1, .int x1)]) S.1 S.2.1 d_Mo_size_71 hl rfl rfl (by decide) rfl (fun ls hl => ?_)
  refine lv_goto (tgt := 2) S.1 S.2.1 d_Mo_size_74 (by decide) ?_
  exact hk2 _ _ _ _ _ h (lv_sub hl [2, 3, 0] rfl) I
set_option maxHeartbeats 4000000 in
set_option maxRecDepth 100000 in
theorem n_Mo_size_32 {p : Program} {l : Launch} {e : Env} {s : State} {m : MethodId} {args : Array Value} {below : List Frame} {meth : Method} {c : Code} {D : va_G} {A : Nat → Prop} {ad : Nat → Nat} {cA : ClassId × ClassId × ClassId}  {x1 : Int32} {Q : Int32 → Mo → Prop} (S : CallFix p m c b_Mo_size 5 s args gtbl R_Mo) (hr : meth.sig.returnType = (some .int)) (hlk : meth.locks = false) (hK : gK D (tyA cA) s) (hA : ∀ q : Nat, s.heap.size ≤ q → A q) {k2 : Int32 → Mo → Prop} (hk2 : ∀ (ls : Array Slot) (H : Heap) (locs : List Loc) (x2 : Int32) (mo : Mo), k2 x2 mo → lv_has ls 5 [(0, .ref (ad 0)), (1, .int x1), (2, .int x2)] → gIn D A s (wM ad cA) mo H locs → W p l e rm_Mo_size s m args below meth c H locs 0 0 (qI D (tyA cA) A (wM ad cA) (fun u : Mo => u) (fun (r : Int32) (u : Mo) => Q r u) below args s) (F0 m 2 ls [])) : ∀ (ls : Array Slot) (H : Heap) (locs : List Loc) (x2 : Int32) (y0 : Int32) (y1 : Int64) (mo : Mo), p_Mo_size_32 x1 Q k2 x2 y0 y1 mo → lv_has ls 5 [(0, .ref (ad 0)), (1, .int x1), (2, .int x2)] → gIn D A s (wM ad cA) mo H locs → W p l e rm_Mo_size s m args below meth c H locs 0 0 (qI D (tyA cA) A (wM ad cA) (fun u : Mo => u) (fun (r : Int32) (u : Mo) => Q r u) below args s) (F0 m 32 ls [.int y0, .long y1]) := by
  intro ls H locs x2 y0 y1 mo h hl I
  refine lv_i2l S.1 S.2.1 d_Mo_size_32 rfl ?_
  refine lv_ladd S.1 S.2.1 d_Mo_size_33 ?_
  refine lv_aload_n S.1 S.2.1 d_Mo_size_34 rfl (lv_at hl 0 rfl) ?_
  refine g_Mo_two S hK I.1 d_Mo_size_35 ?_
  refine lv_iload_n S.1 S.2.1 d_Mo_size_38 rfl (lv_at hl 2 rfl) ?_
  obtain ⟨hin, h⟩ := h
  refine a_Mo_two S hK I.1 hin d_Mo_size_39 ?_
  refine lv_if_ge (tgt := 47) S.1 S.2.1 d_Mo_size_40 (by decide) (fun hc => ?_) (fun hc => ?_)
  · have h := h.1 hc
    refine lv_aload_n S.1 S.2.1 d_Mo_size_47 rfl (lv_at hl 0 rfl) ?_
    refine g_Mo_many S hK I.1 d_Mo_size_48 ?_
    refine lv_aload_n S.1 S.2.1 d_Mo_size_51 rfl (lv_at hl 0 rfl) ?_
    refine g_Mo_two S hK I.1 d_Mo_size_52 ?_
    refine lv_iload_n S.1 S.2.1 d_Mo_size_55 rfl (lv_at hl 2 rfl) ?_
    obtain ⟨hin, h⟩ := h
    refine a_Mo_two S hK I.1 hin d_Mo_size_56 ?_
    obtain ⟨hin, h⟩ := h
    refine a_Mo_many S hK I.1 hin d_Mo_size_57 ?_
    exact n_Mo_size_58 S hr hlk hK hA hk2 _ _ _ _ _ _ _ h (lv_sub hl [0, 1, 2] rfl) I
  · have h := h.2 hc
    refine lv_iconst (v := (0 : Int32)) S.1 S.2.1 d_Mo_size_43 rfl ?_
    refine lv_goto (tgt := 58) S.1 S.2.1 d_Mo_size_44 (by decide) ?_
    exact n_Mo_size_58 S hr hlk hK hA hk2 _ _ _ _ _ _ _ h (lv_sub hl [0, 1, 2] rfl) I
set_option maxHeartbeats 4000000 in
set_option maxRecDepth 100000 in
theorem n_Mo_size_2 {p : Program} {l : Launch} {e : Env} {s : State} {m : MethodId} {args : Array Value} {below : List Frame} {meth : Method} {c : Code} {D : va_G} {A : Nat → Prop} {ad : Nat → Nat} {cA : ClassId × ClassId × ClassId}  {x1 : Int32} {Q : Int32 → Mo → Prop} (S : CallFix p m c b_Mo_size 5 s args gtbl R_Mo) (hr : meth.sig.returnType = (some .int)) (hlk : meth.locks = false) (hK : gK D (tyA cA) s) (hA : ∀ q : Nat, s.heap.size ≤ q → A q) : ∀ n : Nat, ∀ (ls : Array Slot) (H : Heap) (locs : List Loc) (x2 : Int32) (mo : Mo), p_Mo_size_2 x1 Q n x2 mo → lv_has ls 5 [(0, .ref (ad 0)), (1, .int x1), (2, .int x2)] → gIn D A s (wM ad cA) mo H locs → W p l e rm_Mo_size s m args below meth c H locs 0 0 (qI D (tyA cA) A (wM ad cA) (fun u : Mo => u) (fun (r : Int32) (u : Mo) => Q r u) below args s) (F0 m 2 ls []) := by
  intro n
  induction n with
  | zero =>
    intro ls H locs x2 mo h
    exact (show False from h).elim
  | succ n ih =>
    intro ls H locs x2 mo h hl I
    refine lv_iload_n S.1 S.2.1 d_Mo_size_2 rfl (lv_at hl 2 rfl) ?_
    refine lv_iload_n S.1 S.2.1 d_Mo_size_3 rfl (lv_at hl 1 rfl) ?_
    refine lv_icmp_gt (tgt := 77) S.1 S.2.1 d_Mo_size_4 (by decide) (fun hc => ?_) (fun hc => ?_)
    · have h := h.1 hc
      refine lv_aload_n S.1 S.2.1 d_Mo_size_77 rfl (lv_at hl 0 rfl) ?_
      refine g_Mo_many S hK I.1 d_Mo_size_78 ?_
      refine lv_iload_n S.1 S.2.1 d_Mo_size_81 rfl (lv_at hl 1 rfl) ?_
      obtain ⟨hin, h⟩ := h
      refine a_Mo_many S hK I.1 hin d_Mo_size_82 ?_
      exact ret_rwi S hr hlk hK I h d_Mo_size_83
    · have h := h.2 hc
      refine lv_lconst (v := (1 : Int64)) S.1 S.2.1 d_Mo_size_7 rfl ?_
      refine lv_aload_n S.1 S.2.1 d_Mo_size_8 rfl (lv_at hl 0 rfl) ?_
      refine g_Mo_one S hK I.1 d_Mo_size_9 ?_
      refine lv_iload_n S.1 S.2.1 d_Mo_size_12 rfl (lv_at hl 2 rfl) ?_
      obtain ⟨hin, h⟩ := h
      refine a_Mo_one S hK I.1 hin d_Mo_size_13 ?_
      refine lv_if_ge (tgt := 21) S.1 S.2.1 d_Mo_size_14 (by decide) (fun hc => ?_) (fun hc => ?_)
      · have h := h.1 hc
        refine lv_aload_n S.1 S.2.1 d_Mo_size_21 rfl (lv_at hl 0 rfl) ?_
        refine g_Mo_many S hK I.1 d_Mo_size_22 ?_
        refine lv_aload_n S.1 S.2.1 d_Mo_size_25 rfl (lv_at hl 0 rfl) ?_
        refine g_Mo_one S hK I.1 d_Mo_size_26 ?_
        refine lv_iload_n S.1 S.2.1 d_Mo_size_29 rfl (lv_at hl 2 rfl) ?_
        obtain ⟨hin, h⟩ := h
        refine a_Mo_one S hK I.1 hin d_Mo_size_30 ?_
        obtain ⟨hin, h⟩ := h
        refine a_Mo_many S hK I.1 hin d_Mo_size_31 ?_
        exact n_Mo_size_32 S hr hlk hK hA ih _ _ _ _ _ _ _ h (lv_sub hl [0, 1, 2] rfl) I
      · have h := h.2 hc
        refine lv_iconst (v := (0 : Int32)) S.1 S.2.1 d_Mo_size_17 rfl ?_
        refine lv_goto (tgt := 32) S.1 S.2.1 d_Mo_size_18 (by decide) ?_
        exact n_Mo_size_32 S hr hlk hK hA ih _ _ _ _ _ _ _ h (lv_sub hl [0, 1, 2] rfl) I
set_option maxHeartbeats 4000000 in
set_option maxRecDepth 100000 in
theorem c_Mo_size (l : Launch) (D : va_G) (ad : Nat → Nat) (cA : ClassId × ClassId × ClassId) (mo : Mo) (x1 : Int32) (Q : Int32 → Mo → Prop) (h : p_Mo_size x1 mo Q) : rwI l y_Mo_size (wsOf y_Mo_size b_Mo_size 5 (some .int)) rm_Mo_size D (tyA cA) (wM ad cA) [.ref (ad 0), .int x1] mo (fun u : Mo => u) (fun (r : Int32) (u : Mo) => Q r u) := by
  refine rwI_of (by decide) (Nat.le_of_ble_eq_true rfl) ?_
  intro p e s m below meth c S hr hlk hK A hA I ls hl
  have hl : lv_has ls 5 [(0, .ref (ad 0)), (1, .int x1)] := hl
  refine lv_iconst (v := (0 : Int32)) S.1 S.2.1 d_Mo_size_0 rfl ?_
  refine lv_istore_n (lv' := [(2, .int (0 : Int32)), (0, .ref (ad 0)), (1, .int x1)]) S.1 S.2.1 d_Mo_size_1 rfl hl (by decide) rfl (fun ls hl => ?_)
  obtain ⟨n', h⟩ := h
  exact n_Mo_size_2 S hr hlk hK hA n' _ _ _ _ _ h (lv_sub hl [1, 2, 0] rfl) I

set_option maxHeartbeats 4000000 in
set_option maxRecDepth 100000 in
theorem n_Mo_lefts_4 {p : Program} {l : Launch} {e : Env} {s : State} {m : MethodId} {args : Array Value} {below : List Frame} {meth : Method} {c : Code} {D : va_G} {ad : Nat → Nat} {cA : ClassId × ClassId × ClassId} {mo : Mo} {x1 : Int32} {Q : Int32 → Prop} (S : CallFix p m c b_Mo_lefts 4 s args gtbl R_Mo) (hr : meth.sig.returnType = (some .int)) (hlk : meth.locks = false) (hK : gK D (tyA cA) s) (hP : va_P D classes (wM ad cA mo) s.heap) : ∀ n : Nat, ∀ (ls : Array Slot) (x2 : Int32) (x3 : Int32), p_Mo_lefts_4 x1 mo Q n x2 x3 → lv_has ls 4 [(0, .ref (ad 0)), (1, .int x1), (2, .int x2), (3, .int x3)] → W p l e rm_Mo_lefts s m args below meth c s.heap [] 0 0 (qRI Q below args s) (F0 m 4 ls []) := by
  intro n
  induction n with
  | zero =>
    intro ls x2 x3 h
    exact (show False from h).elim
  | succ n ih =>
    intro ls x2 x3 h hl
    refine lv_iload_n S.1 S.2.1 d_Mo_lefts_4 rfl (lv_at hl 3 rfl) ?_
    refine lv_aload_n S.1 S.2.1 d_Mo_lefts_5 rfl (lv_at hl 0 rfl) ?_
    refine g_Mo_rules S hK hP d_Mo_lefts_6 ?_
    refine lv_icmp_ge (tgt := 36) S.1 S.2.1 d_Mo_lefts_9 (by decide) (fun hc => ?_) (fun hc => ?_)
    · have h := h.1 hc
      refine lv_iload_n S.1 S.2.1 d_Mo_lefts_36 rfl (lv_at hl 2 rfl) ?_
      exact ret_roi S hr hlk h d_Mo_lefts_37
    · have h := h.2 hc
      refine lv_iload_n S.1 S.2.1 d_Mo_lefts_12 rfl (lv_at hl 2 rfl) ?_
      refine lv_aload_n S.1 S.2.1 d_Mo_lefts_13 rfl (lv_at hl 0 rfl) ?_
      refine g_Mo_left S hK hP d_Mo_lefts_14 ?_
      refine lv_iload_n S.1 S.2.1 d_Mo_lefts_17 rfl (lv_at hl 3 rfl) ?_
      obtain ⟨hin, h⟩ := h
      refine a_Mo_left S hK hP hin d_Mo_lefts_18 ?_
      refine lv_iload_n S.1 S.2.1 d_Mo_lefts_19 rfl (lv_at hl 1 rfl) ?_
      refine lv_icmp_ne (tgt := 27) S.1 S.2.1 d_Mo_lefts_20 (by decide) (fun hc => ?_) (fun hc => ?_)
      · have h := h.1 hc
        refine lv_iconst (v := (0 : Int32)) S.1 S.2.1 d_Mo_lefts_27 rfl ?_
        refine lv_iadd S.1 S.2.1 d_Mo_lefts_28 ?_
        refine lv_istore_n (lv' := [(2, .int (x2 + (0 : Int32))), (0, .ref (ad 0)), (1, .int x1), (3, .int x3)]) S.1 S.2.1 d_Mo_lefts_29 rfl hl (by decide) rfl (fun ls hl => ?_)
        refine lv_iinc (k := 3) (v := x3 + (1 : Int32)) (lv' := [(3, .int (x3 + (1 : Int32))), (2, .int (x2 + (0 : Int32))), (0, .ref (ad 0)), (1, .int x1)]) S.1 S.2.1 d_Mo_lefts_30 hl rfl rfl (by decide) rfl (fun ls hl => ?_)
        refine lv_goto (tgt := 4) S.1 S.2.1 d_Mo_lefts_33 (by decide) ?_
        exact ih _ _ _ h (lv_sub hl [2, 3, 1, 0] rfl)
      · have h := h.2 hc
        refine lv_iconst (v := (1 : Int32)) S.1 S.2.1 d_Mo_lefts_23 rfl ?_
        refine lv_goto (tgt := 28) S.1 S.2.1 d_Mo_lefts_24 (by decide) ?_
        refine lv_iadd S.1 S.2.1 d_Mo_lefts_28 ?_
        refine lv_istore_n (lv' := [(2, .int (x2 + (1 : Int32))), (0, .ref (ad 0)), (1, .int x1), (3, .int x3)]) S.1 S.2.1 d_Mo_lefts_29 rfl hl (by decide) rfl (fun ls hl => ?_)
        refine lv_iinc (k := 3) (v := x3 + (1 : Int32)) (lv' := [(3, .int (x3 + (1 : Int32))), (2, .int (x2 + (1 : Int32))), (0, .ref (ad 0)), (1, .int x1)]) S.1 S.2.1 d_Mo_lefts_30 hl rfl rfl (by decide) rfl (fun ls hl => ?_)
        refine lv_goto (tgt := 4) S.1 S.2.1 d_Mo_lefts_33 (by decide) ?_
        exact ih _ _ _ h (lv_sub hl [2, 3, 1, 0] rfl)
set_option maxHeartbeats 4000000 in
set_option maxRecDepth 100000 in
theorem c_Mo_lefts (l : Launch) (D : va_G) (ad : Nat → Nat) (cA : ClassId × ClassId × ClassId) (mo : Mo) (x1 : Int32) (Q : Int32 → Prop) (h : p_Mo_lefts x1 mo Q) : roI l y_Mo_lefts (wsOf y_Mo_lefts b_Mo_lefts 4 (some .int)) rm_Mo_lefts D (tyA cA) (wM ad cA) [.ref (ad 0), .int x1] mo Q := by
  refine roI_of (by decide) (Nat.le_of_ble_eq_true rfl) ?_
  intro p e s m below meth c S hr hlk hK hP ls hl
  have hl : lv_has ls 4 [(0, .ref (ad 0)), (1, .int x1)] := hl
  refine lv_iconst (v := (0 : Int32)) S.1 S.2.1 d_Mo_lefts_0 rfl ?_
  refine lv_istore_n (lv' := [(2, .int (0 : Int32)), (0, .ref (ad 0)), (1, .int x1)]) S.1 S.2.1 d_Mo_lefts_1 rfl hl (by decide) rfl (fun ls hl => ?_)
  refine lv_iconst (v := (0 : Int32)) S.1 S.2.1 d_Mo_lefts_2 rfl ?_
  refine lv_istore_n (lv' := [(3, .int (0 : Int32)), (2, .int (0 : Int32)), (0, .ref (ad 0)), (1, .int x1)]) S.1 S.2.1 d_Mo_lefts_3 rfl hl (by decide) rfl (fun ls hl => ?_)
  obtain ⟨n', h⟩ := h
  exact n_Mo_lefts_4 S hr hlk hK hP n' _ _ _ h (lv_sub hl [2, 3, 1, 0] rfl)

set_option maxHeartbeats 4000000 in
set_option maxRecDepth 100000 in
theorem n_Mo_steps_63 {p : Program} {l : Launch} {e : Env} {s : State} {m : MethodId} {args : Array Value} {below : List Frame} {meth : Method} {c : Code} {D : va_G} {A : Nat → Prop} {ad : Nat → Nat} {cA : ClassId × ClassId × ClassId}  {x1 : Int32} {Q : Int32 → Mo → Prop} (S : CallFix p m c b_Mo_steps 5 s args gtbl R_Mo) (hr : meth.sig.returnType = (some .int)) (hlk : meth.locks = false) (hK : gK D (tyA cA) s) (hA : ∀ q : Nat, s.heap.size ≤ q → A q) {k2 : Int32 → Mo → Prop} (hk2 : ∀ (ls : Array Slot) (H : Heap) (locs : List Loc) (x2 : Int32) (mo : Mo), k2 x2 mo → lv_has ls 5 [(0, .ref (ad 0)), (1, .int x1), (2, .int x2)] → gIn D A s (wM ad cA) mo H locs → W p l e rm_Mo_steps s m args below meth c H locs 0 0 (qI D (tyA cA) A (wM ad cA) (fun u : Mo => u) (fun (r : Int32) (u : Mo) => Q r u) below args s) (F0 m 2 ls [])) : ∀ (ls : Array Slot) (H : Heap) (locs : List Loc) (x2 : Int32) (y0 : Int32) (y1 : Int64) (mo : Mo), p_Mo_steps_63 x1 Q k2 x2 y0 y1 mo → lv_has ls 5 [(0, .ref (ad 0)), (1, .int x1), (2, .int x2)] → gIn D A s (wM ad cA) mo H locs → W p l e rm_Mo_steps s m args below meth c H locs 0 0 (qI D (tyA cA) A (wM ad cA) (fun u : Mo => u) (fun (r : Int32) (u : Mo) => Q r u) below args s) (F0 m 63 ls [.int y0, .long y1]) := by
  intro ls H locs x2 y0 y1 mo h hl I
  refine lv_i2l S.1 S.2.1 d_Mo_steps_63 rfl ?_
  refine lv_ladd S.1 S.2.1 d_Mo_steps_64 ?_
  refine lv_lstore_n (lv' := [(3, .long (y1 + y0.toInt64)), (0, .ref (ad 0)), (1, .int x1), (2, .int x2)]) S.1 S.2.1 d_Mo_steps_65 rfl hl (by decide) rfl (fun ls hl => ?_)
  refine lv_aload_n S.1 S.2.1 d_Mo_steps_66 rfl (lv_at hl 1 rfl) ?_
  refine g_Mo_many S hK I.1 d_Mo_steps_67 ?_
  refine lv_iload_n S.1 S.2.1 d_Mo_steps_70 rfl (lv_at hl 3 rfl) ?_
  refine lv_lload_n S.1 S.2.1 d_Mo_steps_71 rfl (lv_at hl 0 rfl) ?_
  refine callS_roi S (c_Mo_capped l D ad cA _ _ _ h) (mkS S.2.2.2.2 ml_Mo_89 k_Mo_capped rfl rfl ⟨Nat.le_of_ble_eq_true rfl, Nat.le_of_ble_eq_true rfl⟩) hK I.1 hl.1 rfl rfl (Nat.le_of_ble_eq_true rfl) d_Mo_steps_72 ⟨Nat.zero_le _, Nat.zero_le _⟩ (fun r72 h => ?_)
  obtain ⟨hin, h⟩ := h
  refine s_Mo_many S hK I hin d_Mo_steps_75 (fun H locs mo75 emo75 I => ?_)
  have h := h mo75 emo75
  refine lv_iinc (k := 3) (v := x2 + (1 : Int32)) (lv' := [(2, .int (x2 + (1 : Int32))), (3, .long (y1 + y0.toInt64)), (0, .ref (ad 0)), (1, .int x1)]) S.1 S.2.1 d_Mo_steps_76 hl rfl rfl (by decide) rfl (fun ls hl => ?_)
  refine lv_goto (tgt := 2) S.1 S.2.1 d_Mo_steps_79 (by decide) ?_
  exact hk2 _ _ _ _ _ h (lv_sub hl [2, 3, 0] rfl) I
set_option maxHeartbeats 4000000 in
set_option maxRecDepth 100000 in
theorem n_Mo_steps_37 {p : Program} {l : Launch} {e : Env} {s : State} {m : MethodId} {args : Array Value} {below : List Frame} {meth : Method} {c : Code} {D : va_G} {A : Nat → Prop} {ad : Nat → Nat} {cA : ClassId × ClassId × ClassId}  {x1 : Int32} {Q : Int32 → Mo → Prop} (S : CallFix p m c b_Mo_steps 5 s args gtbl R_Mo) (hr : meth.sig.returnType = (some .int)) (hlk : meth.locks = false) (hK : gK D (tyA cA) s) (hA : ∀ q : Nat, s.heap.size ≤ q → A q) {k2 : Int32 → Mo → Prop} (hk2 : ∀ (ls : Array Slot) (H : Heap) (locs : List Loc) (x2 : Int32) (mo : Mo), k2 x2 mo → lv_has ls 5 [(0, .ref (ad 0)), (1, .int x1), (2, .int x2)] → gIn D A s (wM ad cA) mo H locs → W p l e rm_Mo_steps s m args below meth c H locs 0 0 (qI D (tyA cA) A (wM ad cA) (fun u : Mo => u) (fun (r : Int32) (u : Mo) => Q r u) below args s) (F0 m 2 ls [])) : ∀ (ls : Array Slot) (H : Heap) (locs : List Loc) (x2 : Int32) (y0 : Int32) (y1 : Int64) (mo : Mo), p_Mo_steps_37 x1 Q k2 x2 y0 y1 mo → lv_has ls 5 [(0, .ref (ad 0)), (1, .int x1), (2, .int x2)] → gIn D A s (wM ad cA) mo H locs → W p l e rm_Mo_steps s m args below meth c H locs 0 0 (qI D (tyA cA) A (wM ad cA) (fun u : Mo => u) (fun (r : Int32) (u : Mo) => Q r u) below args s) (F0 m 37 ls [.int y0, .long y1]) := by
  intro ls H locs x2 y0 y1 mo h hl I
  refine lv_i2l S.1 S.2.1 d_Mo_steps_37 rfl ?_
  refine lv_ladd S.1 S.2.1 d_Mo_steps_38 ?_
  refine lv_aload_n S.1 S.2.1 d_Mo_steps_39 rfl (lv_at hl 0 rfl) ?_
  refine g_Mo_two S hK I.1 d_Mo_steps_40 ?_
  refine lv_iload_n S.1 S.2.1 d_Mo_steps_43 rfl (lv_at hl 2 rfl) ?_
  obtain ⟨hin, h⟩ := h
  refine a_Mo_two S hK I.1 hin d_Mo_steps_44 ?_
  refine lv_if_ge (tgt := 52) S.1 S.2.1 d_Mo_steps_45 (by decide) (fun hc => ?_) (fun hc => ?_)
  · have h := h.1 hc
    refine lv_aload_n S.1 S.2.1 d_Mo_steps_52 rfl (lv_at hl 0 rfl) ?_
    refine g_Mo_many S hK I.1 d_Mo_steps_53 ?_
    refine lv_aload_n S.1 S.2.1 d_Mo_steps_56 rfl (lv_at hl 0 rfl) ?_
    refine g_Mo_two S hK I.1 d_Mo_steps_57 ?_
    refine lv_iload_n S.1 S.2.1 d_Mo_steps_60 rfl (lv_at hl 2 rfl) ?_
    obtain ⟨hin, h⟩ := h
    refine a_Mo_two S hK I.1 hin d_Mo_steps_61 ?_
    obtain ⟨hin, h⟩ := h
    refine a_Mo_many S hK I.1 hin d_Mo_steps_62 ?_
    exact n_Mo_steps_63 S hr hlk hK hA hk2 _ _ _ _ _ _ _ h (lv_sub hl [0, 1, 2] rfl) I
  · have h := h.2 hc
    refine lv_iconst (v := (0 : Int32)) S.1 S.2.1 d_Mo_steps_48 rfl ?_
    refine lv_goto (tgt := 63) S.1 S.2.1 d_Mo_steps_49 (by decide) ?_
    exact n_Mo_steps_63 S hr hlk hK hA hk2 _ _ _ _ _ _ _ h (lv_sub hl [0, 1, 2] rfl) I
set_option maxHeartbeats 4000000 in
set_option maxRecDepth 100000 in
theorem n_Mo_steps_2 {p : Program} {l : Launch} {e : Env} {s : State} {m : MethodId} {args : Array Value} {below : List Frame} {meth : Method} {c : Code} {D : va_G} {A : Nat → Prop} {ad : Nat → Nat} {cA : ClassId × ClassId × ClassId}  {x1 : Int32} {Q : Int32 → Mo → Prop} (S : CallFix p m c b_Mo_steps 5 s args gtbl R_Mo) (hr : meth.sig.returnType = (some .int)) (hlk : meth.locks = false) (hK : gK D (tyA cA) s) (hA : ∀ q : Nat, s.heap.size ≤ q → A q) : ∀ n : Nat, ∀ (ls : Array Slot) (H : Heap) (locs : List Loc) (x2 : Int32) (mo : Mo), p_Mo_steps_2 x1 Q n x2 mo → lv_has ls 5 [(0, .ref (ad 0)), (1, .int x1), (2, .int x2)] → gIn D A s (wM ad cA) mo H locs → W p l e rm_Mo_steps s m args below meth c H locs 0 0 (qI D (tyA cA) A (wM ad cA) (fun u : Mo => u) (fun (r : Int32) (u : Mo) => Q r u) below args s) (F0 m 2 ls []) := by
  intro n
  induction n with
  | zero =>
    intro ls H locs x2 mo h
    exact (show False from h).elim
  | succ n ih =>
    intro ls H locs x2 mo h hl I
    refine lv_iload_n S.1 S.2.1 d_Mo_steps_2 rfl (lv_at hl 2 rfl) ?_
    refine lv_iload_n S.1 S.2.1 d_Mo_steps_3 rfl (lv_at hl 1 rfl) ?_
    refine lv_icmp_gt (tgt := 82) S.1 S.2.1 d_Mo_steps_4 (by decide) (fun hc => ?_) (fun hc => ?_)
    · have h := h.1 hc
      refine lv_aload_n S.1 S.2.1 d_Mo_steps_82 rfl (lv_at hl 0 rfl) ?_
      refine g_Mo_many S hK I.1 d_Mo_steps_83 ?_
      refine lv_iload_n S.1 S.2.1 d_Mo_steps_86 rfl (lv_at hl 1 rfl) ?_
      obtain ⟨hin, h⟩ := h
      refine a_Mo_many S hK I.1 hin d_Mo_steps_87 ?_
      exact ret_rwi S hr hlk hK I h d_Mo_steps_88
    · have h := h.2 hc
      refine lv_aload_n S.1 S.2.1 d_Mo_steps_7 rfl (lv_at hl 0 rfl) ?_
      refine lv_iload_n S.1 S.2.1 d_Mo_steps_8 rfl (lv_at hl 2 rfl) ?_
      refine callV_roi S (c_Mo_lefts l D ad cA _ _ _ h) (mkV S.2.2.2.2 ml_Mo_96 k_Mo_lefts rfl rfl ⟨Nat.le_of_ble_eq_true rfl, Nat.le_of_ble_eq_true rfl⟩) (rv_Mo hK I.1) hK I.1 hl.1 rfl rfl (Nat.le_of_ble_eq_true rfl) d_Mo_steps_9 ⟨Nat.zero_le _, Nat.zero_le _⟩ (fun r9 h => ?_)
      refine lv_i2l S.1 S.2.1 d_Mo_steps_12 rfl ?_
      refine lv_aload_n S.1 S.2.1 d_Mo_steps_13 rfl (lv_at hl 0 rfl) ?_
      refine g_Mo_one S hK I.1 d_Mo_steps_14 ?_
      refine lv_iload_n S.1 S.2.1 d_Mo_steps_17 rfl (lv_at hl 2 rfl) ?_
      obtain ⟨hin, h⟩ := h
      refine a_Mo_one S hK I.1 hin d_Mo_steps_18 ?_
      refine lv_if_ge (tgt := 26) S.1 S.2.1 d_Mo_steps_19 (by decide) (fun hc => ?_) (fun hc => ?_)
      · have h := h.1 hc
        refine lv_aload_n S.1 S.2.1 d_Mo_steps_26 rfl (lv_at hl 0 rfl) ?_
        refine g_Mo_many S hK I.1 d_Mo_steps_27 ?_
        refine lv_aload_n S.1 S.2.1 d_Mo_steps_30 rfl (lv_at hl 0 rfl) ?_
        refine g_Mo_one S hK I.1 d_Mo_steps_31 ?_
        refine lv_iload_n S.1 S.2.1 d_Mo_steps_34 rfl (lv_at hl 2 rfl) ?_
        obtain ⟨hin, h⟩ := h
        refine a_Mo_one S hK I.1 hin d_Mo_steps_35 ?_
        obtain ⟨hin, h⟩ := h
        refine a_Mo_many S hK I.1 hin d_Mo_steps_36 ?_
        exact n_Mo_steps_37 S hr hlk hK hA ih _ _ _ _ _ _ _ h (lv_sub hl [0, 1, 2] rfl) I
      · have h := h.2 hc
        refine lv_iconst (v := (0 : Int32)) S.1 S.2.1 d_Mo_steps_22 rfl ?_
        refine lv_goto (tgt := 37) S.1 S.2.1 d_Mo_steps_23 (by decide) ?_
        exact n_Mo_steps_37 S hr hlk hK hA ih _ _ _ _ _ _ _ h (lv_sub hl [0, 1, 2] rfl) I
set_option maxHeartbeats 4000000 in
set_option maxRecDepth 100000 in
theorem c_Mo_steps (l : Launch) (D : va_G) (ad : Nat → Nat) (cA : ClassId × ClassId × ClassId) (mo : Mo) (x1 : Int32) (Q : Int32 → Mo → Prop) (h : p_Mo_steps x1 mo Q) : rwI l y_Mo_steps (wsOf y_Mo_steps b_Mo_steps 5 (some .int)) rm_Mo_steps D (tyA cA) (wM ad cA) [.ref (ad 0), .int x1] mo (fun u : Mo => u) (fun (r : Int32) (u : Mo) => Q r u) := by
  refine rwI_of (by decide) (Nat.le_of_ble_eq_true rfl) ?_
  intro p e s m below meth c S hr hlk hK A hA I ls hl
  have hl : lv_has ls 5 [(0, .ref (ad 0)), (1, .int x1)] := hl
  refine lv_iconst (v := (0 : Int32)) S.1 S.2.1 d_Mo_steps_0 rfl ?_
  refine lv_istore_n (lv' := [(2, .int (0 : Int32)), (0, .ref (ad 0)), (1, .int x1)]) S.1 S.2.1 d_Mo_steps_1 rfl hl (by decide) rfl (fun ls hl => ?_)
  obtain ⟨n', h⟩ := h
  exact n_Mo_steps_2 S hr hlk hK hA n' _ _ _ _ _ h (lv_sub hl [1, 2, 0] rfl) I

set_option maxHeartbeats 4000000 in
set_option maxRecDepth 100000 in
theorem c_Mo_of (l : Launch) (D : va_G) (ad : Nat → Nat) (cA : ClassId × ClassId × ClassId) (mo : Mo) (x1 : Int32) (x2 : Int32) (Q : Int32 → Mo → Prop) (h : p_Mo_of x1 x2 mo Q) : rwI l y_Mo_of (wsOf y_Mo_of b_Mo_of 3 (some .int)) rm_Mo_of D (tyA cA) (wM ad cA) [.ref (ad 0), .int x1, .int x2] mo (fun u : Mo => u) (fun (r : Int32) (u : Mo) => Q r u) := by
  refine rwI_of (by decide) (Nat.le_of_ble_eq_true rfl) ?_
  intro p e s m below meth c S hr hlk hK A hA I ls hl
  have hl : lv_has ls 3 [(0, .ref (ad 0)), (1, .int x1), (2, .int x2)] := hl
  refine lv_aload_n S.1 S.2.1 d_Mo_of_0 rfl (lv_at hl 0 rfl) ?_
  refine lv_iconst (v := (0 : Int32)) S.1 S.2.1 d_Mo_of_1 rfl ?_
  refine q_Mo_thrown S hK I d_Mo_of_2 (fun H locs mo2 emo2 I => ?_)
  have h := h mo2 emo2
  refine lv_aload_n S.1 S.2.1 d_Mo_of_5 rfl (lv_at hl 0 rfl) ?_
  refine lv_iload_n S.1 S.2.1 d_Mo_of_6 rfl (lv_at hl 1 rfl) ?_
  refine callV_roi S (c_Mo_isTerm l D ad cA _ _ _ h) (mkV S.2.2.2.2 ml_Mo_79 k_Mo_isTerm rfl rfl ⟨Nat.le_of_ble_eq_true rfl, Nat.le_of_ble_eq_true rfl⟩) (rv_Mo hK I.1) hK I.1 hl.1 rfl rfl (Nat.le_of_ble_eq_true rfl) d_Mo_of_7 ⟨Nat.zero_le _, Nat.zero_le _⟩ (fun r7 h => ?_)
  refine lv_if_eq (tgt := 22) S.1 S.2.1 d_Mo_of_10 (by decide) (fun hc => ?_) (fun hc => ?_)
  · have h := h.1 hc
    refine lv_iconst (v := (-1 : Int32)) S.1 S.2.1 d_Mo_of_22 rfl ?_
    exact ret_rwi S hr hlk hK I h d_Mo_of_23
  · have h := h.2 hc
    refine lv_iload_n S.1 S.2.1 d_Mo_of_13 rfl (lv_at hl 2 rfl) ?_
    refine lv_if_lt (tgt := 22) S.1 S.2.1 d_Mo_of_14 (by decide) (fun hc => ?_) (fun hc => ?_)
    · have h := h.1 hc
      refine lv_iconst (v := (-1 : Int32)) S.1 S.2.1 d_Mo_of_22 rfl ?_
      exact ret_rwi S hr hlk hK I h d_Mo_of_23
    · have h := h.2 hc
      refine lv_iload_n S.1 S.2.1 d_Mo_of_17 rfl (lv_at hl 2 rfl) ?_
      refine lv_iconst (v := (4 : Int32)) S.1 S.2.1 d_Mo_of_18 rfl ?_
      refine lv_icmp_le (tgt := 24) S.1 S.2.1 d_Mo_of_19 (by decide) (fun hc => ?_) (fun hc => ?_)
      · have h := h.1 hc
        refine lv_iload_n S.1 S.2.1 d_Mo_of_24 rfl (lv_at hl 2 rfl) ?_
        refine lv_if_ne (tgt := 37) S.1 S.2.1 d_Mo_of_25 (by decide) (fun hc => ?_) (fun hc => ?_)
        · have h := h.1 hc
          refine lv_iload_n S.1 S.2.1 d_Mo_of_37 rfl (lv_at hl 2 rfl) ?_
          refine lv_iconst (v := (1 : Int32)) S.1 S.2.1 d_Mo_of_38 rfl ?_
          refine lv_icmp_ne (tgt := 51) S.1 S.2.1 d_Mo_of_39 (by decide) (fun hc => ?_) (fun hc => ?_)
          · have h := h.1 hc
            refine lv_iload_n S.1 S.2.1 d_Mo_of_51 rfl (lv_at hl 2 rfl) ?_
            refine lv_iconst (v := (2 : Int32)) S.1 S.2.1 d_Mo_of_52 rfl ?_
            refine lv_icmp_ne (tgt := 65) S.1 S.2.1 d_Mo_of_53 (by decide) (fun hc => ?_) (fun hc => ?_)
            · have h := h.1 hc
              refine lv_iload_n S.1 S.2.1 d_Mo_of_65 rfl (lv_at hl 2 rfl) ?_
              refine lv_iconst (v := (3 : Int32)) S.1 S.2.1 d_Mo_of_66 rfl ?_
              refine lv_icmp_ne (tgt := 78) S.1 S.2.1 d_Mo_of_67 (by decide) (fun hc => ?_) (fun hc => ?_)
              · have h := h.1 hc
                refine lv_aload_n S.1 S.2.1 d_Mo_of_78 rfl (lv_at hl 0 rfl) ?_
                refine lv_iload_n S.1 S.2.1 d_Mo_of_79 rfl (lv_at hl 1 rfl) ?_
                refine callV_rwi S (c_Mo_steps l D ad cA _ _ _ h) (mkV S.2.2.2.2 ml_Mo_103 k_Mo_steps rfl rfl ⟨Nat.le_of_ble_eq_true rfl, Nat.le_of_ble_eq_true rfl⟩) (rv_Mo hK I.1) hK hA I hl.1 rfl rfl (Nat.le_of_ble_eq_true rfl) d_Mo_of_80 ⟨Nat.zero_le _, Nat.zero_le _⟩ (fun r80 mo80 H locs h I => ?_)
                exact ret_rwi S hr hlk hK I h d_Mo_of_83
              · have h := h.2 hc
                refine lv_aload_n S.1 S.2.1 d_Mo_of_70 rfl (lv_at hl 0 rfl) ?_
                refine lv_iload_n S.1 S.2.1 d_Mo_of_71 rfl (lv_at hl 1 rfl) ?_
                refine callV_rwi S (c_Mo_size l D ad cA _ _ _ h) (mkV S.2.2.2.2 ml_Mo_100 k_Mo_size rfl rfl ⟨Nat.le_of_ble_eq_true rfl, Nat.le_of_ble_eq_true rfl⟩) (rv_Mo hK I.1) hK hA I hl.1 rfl rfl (Nat.le_of_ble_eq_true rfl) d_Mo_of_72 ⟨Nat.zero_le _, Nat.zero_le _⟩ (fun r72 mo72 H locs h I => ?_)
                refine lv_goto (tgt := 83) S.1 S.2.1 d_Mo_of_75 (by decide) ?_
                exact ret_rwi S hr hlk hK I h d_Mo_of_83
            · have h := h.2 hc
              refine lv_aload_n S.1 S.2.1 d_Mo_of_56 rfl (lv_at hl 0 rfl) ?_
              refine g_Mo_two S hK I.1 d_Mo_of_57 ?_
              refine lv_iload_n S.1 S.2.1 d_Mo_of_60 rfl (lv_at hl 1 rfl) ?_
              obtain ⟨hin, h⟩ := h
              refine a_Mo_two S hK I.1 hin d_Mo_of_61 ?_
              refine lv_goto (tgt := 83) S.1 S.2.1 d_Mo_of_62 (by decide) ?_
              exact ret_rwi S hr hlk hK I h d_Mo_of_83
          · have h := h.2 hc
            refine lv_aload_n S.1 S.2.1 d_Mo_of_42 rfl (lv_at hl 0 rfl) ?_
            refine g_Mo_one S hK I.1 d_Mo_of_43 ?_
            refine lv_iload_n S.1 S.2.1 d_Mo_of_46 rfl (lv_at hl 1 rfl) ?_
            obtain ⟨hin, h⟩ := h
            refine a_Mo_one S hK I.1 hin d_Mo_of_47 ?_
            refine lv_goto (tgt := 83) S.1 S.2.1 d_Mo_of_48 (by decide) ?_
            exact ret_rwi S hr hlk hK I h d_Mo_of_83
        · have h := h.2 hc
          refine lv_aload_n S.1 S.2.1 d_Mo_of_28 rfl (lv_at hl 0 rfl) ?_
          refine g_Mo_symbol S hK I.1 d_Mo_of_29 ?_
          refine lv_iload_n S.1 S.2.1 d_Mo_of_32 rfl (lv_at hl 1 rfl) ?_
          obtain ⟨hin, h⟩ := h
          refine a_Mo_symbol S hK I.1 hin d_Mo_of_33 ?_
          refine lv_goto (tgt := 83) S.1 S.2.1 d_Mo_of_34 (by decide) ?_
          exact ret_rwi S hr hlk hK I h d_Mo_of_83
      · have h := h.2 hc
        refine lv_iconst (v := (-1 : Int32)) S.1 S.2.1 d_Mo_of_22 rfl ?_
        exact ret_rwi S hr hlk hK I h d_Mo_of_23
