set_option maxHeartbeats 4000000 in
set_option maxRecDepth 100000 in
theorem n_Re_renew_29 {p : Program} {l : Launch} {e : Env} {s : State} {m : MethodId} {args : Array Value} {below : List Frame} {meth : Method} {c : Code} {D : va_G} {A : Nat → Prop} {ad : Nat → Nat} {cA : ClassId × ClassId × ClassId} {te : Te} {ru : Ru} {au : Au} {la : La} {sp : Sp} {le : Le} {Q : Re → Prop} (S : CallFix p m c b_Re_renew 1 s args gtbl R_Re) (hr : meth.sig.returnType = none) (hlk : meth.locks = false) (hK : gK D (tyA cA) s) (hA : ∀ q : Nat, s.heap.size ≤ q → A q) : ∀ (ls : Array Slot) (H : Heap) (locs : List Loc) (re : Re), p_Re_renew_29 te ru Q re → lv_has ls 1 [(0, .ref (ad 18))] → gIn D A s (wC ad cA) (te, ru, au, re, la, sp, le) H locs → W p l e rm_Re_renew s m args below meth c H locs 0 0 (qV D (tyA cA) A (wC ad cA) (fun u : Re => (te, ru, au, u, la, sp, le)) (fun u : Re => Q u) below args s) (F0 m 29 ls []) := by
  intro ls H locs re h hl I
  refine lv_aload_n S.1 S.2.1 d_Re_renew_29 rfl (lv_at hl 0 rfl) ?_
  refine lv_aload_n S.1 S.2.1 d_Re_renew_30 rfl (lv_at hl 0 rfl) ?_
  refine g_Re_terms S hK I.1 d_Re_renew_31 ?_
  refine callV_roi S (c_Te_count l D ad cA _ _ _ _ _ _ _ _ h) (mkV S.2.2.2.2 ml_Re_37 k_Te_count rfl rfl ⟨Nat.le_of_ble_eq_true rfl, Nat.le_of_ble_eq_true rfl⟩) (rv_Te hK I.1) hK I.1 hl.1 rfl rfl (Nat.le_of_ble_eq_true rfl) d_Re_renew_34 ⟨Nat.zero_le _, Nat.zero_le _⟩ (fun r34 h => ?_)
  refine q_Re_termsThen S hK I d_Re_renew_37 (fun H locs re37 ere37 I => ?_)
  have h := h re37 ere37
  refine lv_aload_n S.1 S.2.1 d_Re_renew_40 rfl (lv_at hl 0 rfl) ?_
  refine lv_aload_n S.1 S.2.1 d_Re_renew_41 rfl (lv_at hl 0 rfl) ?_
  refine g_Re_rules S hK I.1 d_Re_renew_42 ?_
  refine callV_roi S (c_Ru_changes l D ad cA _ _ _ _ _ _ _ _ h) (mkV S.2.2.2.2 ml_Re_43 k_Ru_changes rfl rfl ⟨Nat.le_of_ble_eq_true rfl, Nat.le_of_ble_eq_true rfl⟩) (rv_Ru hK I.1) hK I.1 hl.1 rfl rfl (Nat.le_of_ble_eq_true rfl) d_Re_renew_45 ⟨Nat.zero_le _, Nat.zero_le _⟩ (fun r45 h => ?_)
  refine q_Re_changesThen S hK I d_Re_renew_48 (fun H locs re48 ere48 I => ?_)
  have h := h re48 ere48
  refine lv_aload_n S.1 S.2.1 d_Re_renew_51 rfl (lv_at hl 0 rfl) ?_
  refine lv_iconst (v := (0 : Int32)) S.1 S.2.1 d_Re_renew_52 rfl ?_
  refine q_Re_joinedKnown S hK I (by decide) (by decide) d_Re_renew_53 (fun H locs re53 ere53 I => ?_)
  have h := h re53 ere53
  refine lv_aload_n S.1 S.2.1 d_Re_renew_56 rfl (lv_at hl 0 rfl) ?_
  refine callV_rwv S (c_Re_findReached l D ad cA _ _ _ _ _ _ _ _ h) (mkV S.2.2.2.2 ml_Re_52 k_Re_findReached rfl rfl ⟨Nat.le_of_ble_eq_true rfl, Nat.le_of_ble_eq_true rfl⟩) (rv_Re hK I.1) hK hA I hl.1 rfl rfl (Nat.le_of_ble_eq_true rfl) d_Re_renew_57 ⟨Nat.zero_le _, Nat.zero_le _⟩ (fun re57 H locs h I => ?_)
  exact ret_rwv S hr hlk hK I h d_Re_renew_60
set_option maxHeartbeats 4000000 in
set_option maxRecDepth 100000 in
theorem c_Re_renew (l : Launch) (D : va_G) (ad : Nat → Nat) (cA : ClassId × ClassId × ClassId) (te : Te) (ru : Ru) (au : Au) (re : Re) (la : La) (sp : Sp) (le : Le)  (Q : Re → Prop) (h : p_Re_renew  te ru re Q) : rwV l y_Re_renew (wsOf y_Re_renew b_Re_renew 1 none) rm_Re_renew D (tyA cA) (wC ad cA) [.ref (ad 18)] (te, ru, au, re, la, sp, le) (fun u : Re => (te, ru, au, u, la, sp, le)) (fun u : Re => Q u) := by
  refine rwV_of (by decide) (Nat.le_of_ble_eq_true rfl) ?_
  intro p e s m below meth c S hr hlk hK A hA I ls hl
  have hl : lv_has ls 1 [(0, .ref (ad 18))] := hl
  refine lv_aload_n S.1 S.2.1 d_Re_renew_0 rfl (lv_at hl 0 rfl) ?_
  refine g_Re_termsThen S hK I.1 d_Re_renew_1 ?_
  refine lv_aload_n S.1 S.2.1 d_Re_renew_4 rfl (lv_at hl 0 rfl) ?_
  refine g_Re_terms S hK I.1 d_Re_renew_5 ?_
  refine callV_roi S (c_Te_count l D ad cA _ _ _ _ _ _ _ _ h) (mkV S.2.2.2.2 ml_Re_37 k_Te_count rfl rfl ⟨Nat.le_of_ble_eq_true rfl, Nat.le_of_ble_eq_true rfl⟩) (rv_Te hK I.1) hK I.1 hl.1 rfl rfl (Nat.le_of_ble_eq_true rfl) d_Re_renew_8 ⟨Nat.zero_le _, Nat.zero_le _⟩ (fun r8 h => ?_)
  refine lv_icmp_ne (tgt := 29) S.1 S.2.1 d_Re_renew_11 (by decide) (fun hc => ?_) (fun hc => ?_)
  · have h := h.1 hc
    exact n_Re_renew_29 S hr hlk hK hA _ _ _ _ h (lv_sub hl [0] rfl) I
  · have h := h.2 hc
    refine lv_aload_n S.1 S.2.1 d_Re_renew_14 rfl (lv_at hl 0 rfl) ?_
    refine g_Re_changesThen S hK I.1 d_Re_renew_15 ?_
    refine lv_aload_n S.1 S.2.1 d_Re_renew_18 rfl (lv_at hl 0 rfl) ?_
    refine g_Re_rules S hK I.1 d_Re_renew_19 ?_
    refine callV_roi S (c_Ru_changes l D ad cA _ _ _ _ _ _ _ _ h) (mkV S.2.2.2.2 ml_Re_43 k_Ru_changes rfl rfl ⟨Nat.le_of_ble_eq_true rfl, Nat.le_of_ble_eq_true rfl⟩) (rv_Ru hK I.1) hK I.1 hl.1 rfl rfl (Nat.le_of_ble_eq_true rfl) d_Re_renew_22 ⟨Nat.zero_le _, Nat.zero_le _⟩ (fun r22 h => ?_)
    refine lv_icmp_ne (tgt := 29) S.1 S.2.1 d_Re_renew_25 (by decide) (fun hc => ?_) (fun hc => ?_)
    · have h := h.1 hc
      exact n_Re_renew_29 S hr hlk hK hA _ _ _ _ h (lv_sub hl [0] rfl) I
    · have h := h.2 hc
      exact ret_rwv S hr hlk hK I h d_Re_renew_28

set_option maxHeartbeats 4000000 in
set_option maxRecDepth 100000 in
theorem c_Re_leads (l : Launch) (D : va_G) (ad : Nat → Nat) (cA : ClassId × ClassId × ClassId) (te : Te) (ru : Ru) (au : Au) (re : Re) (la : La) (sp : Sp) (le : Le) (x1 : Int32) (x2 : Int32) (Q : Int32 → Prop) (h : p_Re_leads x1 x2 re Q) : roI l y_Re_leads (wsOf y_Re_leads b_Re_leads 3 (some .boolean)) rm_Re_leads D (tyA cA) (wC ad cA) [.ref (ad 18), .int x1, .int x2] (te, ru, au, re, la, sp, le) Q := by
  refine roI_of (by decide) (Nat.le_of_ble_eq_true rfl) ?_
  intro p e s m below meth c S hr hlk hK hP ls hl
  have hl : lv_has ls 3 [(0, .ref (ad 18)), (1, .int x1), (2, .int x2)] := hl
  refine lv_aload_n S.1 S.2.1 d_Re_leads_0 rfl (lv_at hl 0 rfl) ?_
  refine g_Re_reached S hK hP d_Re_leads_1 ?_
  refine lv_iload_n S.1 S.2.1 d_Re_leads_4 rfl (lv_at hl 1 rfl) ?_
  refine lv_iload_n S.1 S.2.1 d_Re_leads_5 rfl (lv_at hl 2 rfl) ?_
  refine callS_roi S (c_Re_isIn_reached l D ad cA _ _ _ _ _ _ _ _ _ _ h) (mkS S.2.2.2.2 ml_Re_55 k_Re_isIn rfl rfl ⟨Nat.le_of_ble_eq_true rfl, Nat.le_of_ble_eq_true rfl⟩) hK hP hl.1 rfl rfl (Nat.le_of_ble_eq_true rfl) d_Re_leads_6 ⟨Nat.zero_le _, Nat.zero_le _⟩ (fun r6 h => ?_)
  obtain ⟨hz, h⟩ := h
  exact ret_roz S hr hlk (isB_n hz) h d_Re_leads_9

set_option maxHeartbeats 4000000 in
set_option maxRecDepth 100000 in
theorem c_Re_isIn_joined (l : Launch) (D : va_G) (ad : Nat → Nat) (cA : ClassId × ClassId × ClassId) (te : Te) (ru : Ru) (au : Au) (re : Re) (la : La) (sp : Sp) (le : Le) (x1 : Int32) (x2 : Int32) (Q : Int32 → Prop) (h : p_Re_isIn_joined x1 x2 re Q) : roI l y_Re_isIn (wsOf y_Re_isIn b_Re_isIn 3 (some .boolean)) rm_Re_isIn_joined D (tyA cA) (wC ad cA) [.ref (ad 20), .int x1, .int x2] (te, ru, au, re, la, sp, le) Q := by
  refine roI_of (by decide) (Nat.le_of_ble_eq_true rfl) ?_
  intro p e s m below meth c S hr hlk hK hP ls hl
  have hl : lv_has ls 3 [(0, .ref (ad 20)), (1, .int x1), (2, .int x2)] := hl
  refine lv_aload_n S.1 S.2.1 d_Re_isIn_0 rfl (lv_at hl 0 rfl) ?_
  refine lv_iload_n S.1 S.2.1 d_Re_isIn_1 rfl (lv_at hl 1 rfl) ?_
  obtain ⟨hin, h⟩ := h
  refine a_Re_joined S hK hP hin d_Re_isIn_2 ?_
  refine lv_iload_n S.1 S.2.1 d_Re_isIn_3 rfl (lv_at hl 2 rfl) ?_
  refine lv_lshr S.1 S.2.1 d_Re_isIn_4 rfl ?_
  refine lv_lconst (v := (1 : Int64)) S.1 S.2.1 d_Re_isIn_5 rfl ?_
  refine lv_land S.1 S.2.1 d_Re_isIn_6 ?_
  refine lv_lconst (v := (0 : Int64)) S.1 S.2.1 d_Re_isIn_7 rfl ?_
  refine W.lcmp S.1 S.2.1 d_Re_isIn_8 ?_
  refine lv_if_eq (tgt := 16) S.1 S.2.1 d_Re_isIn_9 (by decide) (fun hc => ?_) (fun hc => ?_)
  · have h := h.1 hc
    refine lv_iconst (v := (0 : Int32)) S.1 S.2.1 d_Re_isIn_16 rfl ?_
    exact ret_roz S hr hlk (by decide) h d_Re_isIn_17
  · have h := h.2 hc
    refine lv_iconst (v := (1 : Int32)) S.1 S.2.1 d_Re_isIn_12 rfl ?_
    refine lv_goto (tgt := 17) S.1 S.2.1 d_Re_isIn_13 (by decide) ?_
    exact ret_roz S hr hlk (by decide) h d_Re_isIn_17

set_option maxHeartbeats 4000000 in
set_option maxRecDepth 100000 in
theorem n_Re_inheritJoined_97 {p : Program} {l : Launch} {e : Env} {s : State} {m : MethodId} {args : Array Value} {below : List Frame} {meth : Method} {c : Code} {D : va_G} {A : Nat → Prop} {ad : Nat → Nat} {cA : ClassId × ClassId × ClassId} {te : Te} {ru : Ru} {au : Au} {la : La} {sp : Sp} {le : Le} {x1 : Int32} {Q : Int32 → Re → Prop} (S : CallFix p m c b_Re_inheritJoined 7 s args gtbl R_Re) (hr : meth.sig.returnType = (some .boolean)) (hlk : meth.locks = false) (hK : gK D (tyA cA) s) (hA : ∀ q : Nat, s.heap.size ≤ q → A q) {k4 : Int32 → Int32 → Re → Prop} (hk4 : ∀ (ls : Array Slot) (H : Heap) (locs : List Loc) (x2 : Int32) (x3 : Int32) (re : Re), k4 x2 x3 re → lv_has ls 7 [(0, .ref (ad 18)), (1, .int x1), (2, .int x2), (3, .int x3)] → gIn D A s (wC ad cA) (te, ru, au, re, la, sp, le) H locs → W p l e rm_Re_inheritJoined s m args below meth c H locs 0 0 (qI D (tyA cA) A (wC ad cA) (fun u : Re => (te, ru, au, u, la, sp, le)) (fun (r : Int32) (u : Re) => Q r u) below args s) (F0 m 4 ls [])) : ∀ (ls : Array Slot) (H : Heap) (locs : List Loc) (x3 : Int32) (x4 : Int64) (y0 : Int32) (y1 : Int32) (re : Re), p_Re_inheritJoined_97 x1 Q k4 x3 x4 y0 y1 re → lv_has ls 7 [(0, .ref (ad 18)), (1, .int x1), (3, .int x3), (4, .long x4)] → gIn D A s (wC ad cA) (te, ru, au, re, la, sp, le) H locs → W p l e rm_Re_inheritJoined s m args below meth c H locs 0 0 (qI D (tyA cA) A (wC ad cA) (fun u : Re => (te, ru, au, u, la, sp, le)) (fun (r : Int32) (u : Re) => Q r u) below args s) (F0 m 97 ls [.int y0, .int y1]) := by
  intro ls H locs x3 x4 y0 y1 re h hl I
  refine lv_ior S.1 S.2.1 d_Re_inheritJoined_97 ?_
  refine lv_istore_n (lv' := [(2, .int (y1 ||| y0)), (0, .ref (ad 18)), (1, .int x1), (3, .int x3), (4, .long x4)]) S.1 S.2.1 d_Re_inheritJoined_98 rfl hl (by decide) rfl (fun ls hl => ?_)
  refine lv_aload_n S.1 S.2.1 d_Re_inheritJoined_99 rfl (lv_at hl 1 rfl) ?_
  refine g_Re_joined S hK I.1 d_Re_inheritJoined_100 ?_
  refine lv_iload_n S.1 S.2.1 d_Re_inheritJoined_103 rfl (lv_at hl 3 rfl) ?_
  refine lv_lload S.1 S.2.1 d_Re_inheritJoined_104 (lv_at hl 4 rfl) ?_
  obtain ⟨hin, h⟩ := h
  refine s_Re_joined S hK I hin d_Re_inheritJoined_106 (fun H locs re106 ere106 I => ?_)
  have h := h re106 ere106
  refine lv_iinc (k := 3) (v := x3 + (1 : Int32)) (lv' := [(3, .int (x3 + (1 : Int32))), (2, .int (y1 ||| y0)), (0, .ref (ad 18)), (1, .int x1), (4, .long x4)]) S.1 S.2.1 d_Re_inheritJoined_107 hl rfl rfl (by decide) rfl (fun ls hl => ?_)
  refine lv_goto (tgt := 4) S.1 S.2.1 d_Re_inheritJoined_110 (by decide) ?_
  exact hk4 _ _ _ _ _ _ h (lv_sub hl [2, 3, 1, 0] rfl) I
set_option maxHeartbeats 4000000 in
set_option maxRecDepth 100000 in
theorem n_Re_inheritJoined_51 {p : Program} {l : Launch} {e : Env} {s : State} {m : MethodId} {args : Array Value} {below : List Frame} {meth : Method} {c : Code} {D : va_G} {A : Nat → Prop} {ad : Nat → Nat} {cA : ClassId × ClassId × ClassId} {te : Te} {ru : Ru} {au : Au} {la : La} {sp : Sp} {le : Le} {x1 : Int32} {Q : Int32 → Re → Prop} (S : CallFix p m c b_Re_inheritJoined 7 s args gtbl R_Re) (hr : meth.sig.returnType = (some .boolean)) (hlk : meth.locks = false) (hK : gK D (tyA cA) s) (hA : ∀ q : Nat, s.heap.size ≤ q → A q) {k4 : Int32 → Int32 → Re → Prop} (hk4 : ∀ (ls : Array Slot) (H : Heap) (locs : List Loc) (x2 : Int32) (x3 : Int32) (re : Re), k4 x2 x3 re → lv_has ls 7 [(0, .ref (ad 18)), (1, .int x1), (2, .int x2), (3, .int x3)] → gIn D A s (wC ad cA) (te, ru, au, re, la, sp, le) H locs → W p l e rm_Re_inheritJoined s m args below meth c H locs 0 0 (qI D (tyA cA) A (wC ad cA) (fun u : Re => (te, ru, au, u, la, sp, le)) (fun (r : Int32) (u : Re) => Q r u) below args s) (F0 m 4 ls [])) {k20 : Int32 → Int32 → Int64 → Int32 → Re → Prop} (hk20 : ∀ (ls : Array Slot) (H : Heap) (locs : List Loc) (x2 : Int32) (x3 : Int32) (x4 : Int64) (x6 : Int32) (re : Re), k20 x2 x3 x4 x6 re → lv_has ls 7 [(0, .ref (ad 18)), (1, .int x1), (2, .int x2), (3, .int x3), (4, .long x4), (6, .int x6)] → gIn D A s (wC ad cA) (te, ru, au, re, la, sp, le) H locs → W p l e rm_Re_inheritJoined s m args below meth c H locs 0 0 (qI D (tyA cA) A (wC ad cA) (fun u : Re => (te, ru, au, u, la, sp, le)) (fun (r : Int32) (u : Re) => Q r u) below args s) (F0 m 20 ls [])) : ∀ (ls : Array Slot) (H : Heap) (locs : List Loc) (x2 : Int32) (x3 : Int32) (x4 : Int64) (x6 : Int32) (re : Re), p_Re_inheritJoined_51 x1 Q k4 k20 x2 x3 x4 x6 re → lv_has ls 7 [(0, .ref (ad 18)), (1, .int x1), (2, .int x2), (3, .int x3), (4, .long x4), (6, .int x6)] → gIn D A s (wC ad cA) (te, ru, au, re, la, sp, le) H locs → W p l e rm_Re_inheritJoined s m args below meth c H locs 0 0 (qI D (tyA cA) A (wC ad cA) (fun u : Re => (te, ru, au, u, la, sp, le)) (fun (r : Int32) (u : Re) => Q r u) below args s) (F0 m 51 ls []) := by
  intro ls H locs x2 x3 x4 x6 re h hl I
  refine lv_aload_n S.1 S.2.1 d_Re_inheritJoined_51 rfl (lv_at hl 0 rfl) ?_
  refine g_Re_joined S hK I.1 d_Re_inheritJoined_52 ?_
  refine lv_iload S.1 S.2.1 d_Re_inheritJoined_55 (lv_at hl 5 rfl) ?_
  refine lv_iload_n S.1 S.2.1 d_Re_inheritJoined_57 rfl (lv_at hl 3 rfl) ?_
  refine callS_roi S (c_Re_isIn_joined l D ad cA _ _ _ _ _ _ _ _ _ _ h) (mkS S.2.2.2.2 ml_Re_55 k_Re_isIn rfl rfl ⟨Nat.le_of_ble_eq_true rfl, Nat.le_of_ble_eq_true rfl⟩) hK I.1 hl.1 rfl rfl (Nat.le_of_ble_eq_true rfl) d_Re_inheritJoined_58 ⟨Nat.zero_le _, Nat.zero_le _⟩ (fun r58 h => ?_)
  refine lv_if_eq (tgt := 73) S.1 S.2.1 d_Re_inheritJoined_61 (by decide) (fun hc => ?_) (fun hc => ?_)
  · have h := h.1 hc
    refine lv_iinc (k := 5) (v := x6 + (1 : Int32)) (lv' := [(6, .int (x6 + (1 : Int32))), (0, .ref (ad 18)), (1, .int x1), (2, .int x2), (3, .int x3), (4, .long x4)]) S.1 S.2.1 d_Re_inheritJoined_73 hl rfl rfl (by decide) rfl (fun ls hl => ?_)
    refine lv_goto (tgt := 20) S.1 S.2.1 d_Re_inheritJoined_76 (by decide) ?_
    exact hk20 _ _ _ _ _ _ _ _ h (lv_sub hl [1, 2, 3, 4, 5, 0] rfl) I
  · have h := h.2 hc
    refine lv_lload S.1 S.2.1 d_Re_inheritJoined_64 (lv_at hl 4 rfl) ?_
    refine lv_lconst (v := (1 : Int64)) S.1 S.2.1 d_Re_inheritJoined_66 rfl ?_
    refine lv_iload S.1 S.2.1 d_Re_inheritJoined_67 (lv_at hl 5 rfl) ?_
    refine lv_lshl S.1 S.2.1 d_Re_inheritJoined_69 rfl ?_
    refine lv_lor S.1 S.2.1 d_Re_inheritJoined_70 ?_
    refine lv_lstore (lv' := [(4, .long (x4 ||| ((1 : Int64) <<< (x6.toInt64 &&& 63)))), (0, .ref (ad 18)), (1, .int x1), (2, .int x2), (3, .int x3), (6, .int x6)]) S.1 S.2.1 d_Re_inheritJoined_71 hl (by decide) rfl (fun ls hl => ?_)
    refine lv_iinc (k := 5) (v := x6 + (1 : Int32)) (lv' := [(6, .int (x6 + (1 : Int32))), (4, .long (x4 ||| ((1 : Int64) <<< (x6.toInt64 &&& 63)))), (0, .ref (ad 18)), (1, .int x1), (2, .int x2), (3, .int x3)]) S.1 S.2.1 d_Re_inheritJoined_73 hl rfl rfl (by decide) rfl (fun ls hl => ?_)
    refine lv_goto (tgt := 20) S.1 S.2.1 d_Re_inheritJoined_76 (by decide) ?_
    exact hk20 _ _ _ _ _ _ _ _ h (lv_sub hl [2, 3, 4, 5, 1, 0] rfl) I
set_option maxHeartbeats 4000000 in
set_option maxRecDepth 100000 in
theorem n_Re_inheritJoined_20 {p : Program} {l : Launch} {e : Env} {s : State} {m : MethodId} {args : Array Value} {below : List Frame} {meth : Method} {c : Code} {D : va_G} {A : Nat → Prop} {ad : Nat → Nat} {cA : ClassId × ClassId × ClassId} {te : Te} {ru : Ru} {au : Au} {la : La} {sp : Sp} {le : Le} {x1 : Int32} {Q : Int32 → Re → Prop} (S : CallFix p m c b_Re_inheritJoined 7 s args gtbl R_Re) (hr : meth.sig.returnType = (some .boolean)) (hlk : meth.locks = false) (hK : gK D (tyA cA) s) (hA : ∀ q : Nat, s.heap.size ≤ q → A q) {k4 : Int32 → Int32 → Re → Prop} (hk4 : ∀ (ls : Array Slot) (H : Heap) (locs : List Loc) (x2 : Int32) (x3 : Int32) (re : Re), k4 x2 x3 re → lv_has ls 7 [(0, .ref (ad 18)), (1, .int x1), (2, .int x2), (3, .int x3)] → gIn D A s (wC ad cA) (te, ru, au, re, la, sp, le) H locs → W p l e rm_Re_inheritJoined s m args below meth c H locs 0 0 (qI D (tyA cA) A (wC ad cA) (fun u : Re => (te, ru, au, u, la, sp, le)) (fun (r : Int32) (u : Re) => Q r u) below args s) (F0 m 4 ls [])) : ∀ n : Nat, ∀ (ls : Array Slot) (H : Heap) (locs : List Loc) (x2 : Int32) (x3 : Int32) (x4 : Int64) (x6 : Int32) (re : Re), p_Re_inheritJoined_20 x1 Q k4 n x2 x3 x4 x6 re → lv_has ls 7 [(0, .ref (ad 18)), (1, .int x1), (2, .int x2), (3, .int x3), (4, .long x4), (6, .int x6)] → gIn D A s (wC ad cA) (te, ru, au, re, la, sp, le) H locs → W p l e rm_Re_inheritJoined s m args below meth c H locs 0 0 (qI D (tyA cA) A (wC ad cA) (fun u : Re => (te, ru, au, u, la, sp, le)) (fun (r : Int32) (u : Re) => Q r u) below args s) (F0 m 20 ls []) := by
  intro n
  induction n with
  | zero =>
    intro ls H locs x2 x3 x4 x6 re h
    exact (show False from h).elim
  | succ n ih =>
    intro ls H locs x2 x3 x4 x6 re h hl I
    refine lv_iload S.1 S.2.1 d_Re_inheritJoined_20 (lv_at hl 5 rfl) ?_
    refine lv_iload_n S.1 S.2.1 d_Re_inheritJoined_22 rfl (lv_at hl 1 rfl) ?_
    refine lv_icmp_ge (tgt := 79) S.1 S.2.1 d_Re_inheritJoined_23 (by decide) (fun hc => ?_) (fun hc => ?_)
    · have h := h.1 hc
      refine lv_iload_n S.1 S.2.1 d_Re_inheritJoined_79 rfl (lv_at hl 2 rfl) ?_
      refine lv_lload S.1 S.2.1 d_Re_inheritJoined_80 (lv_at hl 4 rfl) ?_
      refine lv_aload_n S.1 S.2.1 d_Re_inheritJoined_82 rfl (lv_at hl 0 rfl) ?_
      refine g_Re_joined S hK I.1 d_Re_inheritJoined_83 ?_
      refine lv_iload_n S.1 S.2.1 d_Re_inheritJoined_86 rfl (lv_at hl 3 rfl) ?_
      obtain ⟨hin, h⟩ := h
      refine a_Re_joined S hK I.1 hin d_Re_inheritJoined_87 ?_
      refine W.lcmp S.1 S.2.1 d_Re_inheritJoined_88 ?_
      refine lv_if_eq (tgt := 96) S.1 S.2.1 d_Re_inheritJoined_89 (by decide) (fun hc => ?_) (fun hc => ?_)
      · have h := h.1 hc
        refine lv_iconst (v := (0 : Int32)) S.1 S.2.1 d_Re_inheritJoined_96 rfl ?_
        exact n_Re_inheritJoined_97 S hr hlk hK hA hk4 _ _ _ _ _ _ _ _ h (lv_sub hl [0, 1, 3, 4] rfl) I
      · have h := h.2 hc
        refine lv_iconst (v := (1 : Int32)) S.1 S.2.1 d_Re_inheritJoined_92 rfl ?_
        refine lv_goto (tgt := 97) S.1 S.2.1 d_Re_inheritJoined_93 (by decide) ?_
        exact n_Re_inheritJoined_97 S hr hlk hK hA hk4 _ _ _ _ _ _ _ _ h (lv_sub hl [0, 1, 3, 4] rfl) I
    · have h := h.2 hc
      refine lv_aload_n S.1 S.2.1 d_Re_inheritJoined_26 rfl (lv_at hl 0 rfl) ?_
      refine g_Re_reached S hK I.1 d_Re_inheritJoined_27 ?_
      refine lv_iload_n S.1 S.2.1 d_Re_inheritJoined_30 rfl (lv_at hl 3 rfl) ?_
      refine lv_iload S.1 S.2.1 d_Re_inheritJoined_31 (lv_at hl 5 rfl) ?_
      refine callS_roi S (c_Re_isIn_reached l D ad cA _ _ _ _ _ _ _ _ _ _ h) (mkS S.2.2.2.2 ml_Re_55 k_Re_isIn rfl rfl ⟨Nat.le_of_ble_eq_true rfl, Nat.le_of_ble_eq_true rfl⟩) hK I.1 hl.1 rfl rfl (Nat.le_of_ble_eq_true rfl) d_Re_inheritJoined_33 ⟨Nat.zero_le _, Nat.zero_le _⟩ (fun r33 h => ?_)
      refine lv_if_eq (tgt := 51) S.1 S.2.1 d_Re_inheritJoined_36 (by decide) (fun hc => ?_) (fun hc => ?_)
      · have h := h.1 hc
        exact n_Re_inheritJoined_51 S hr hlk hK hA hk4 ih _ _ _ _ _ _ _ _ h (lv_sub hl [0, 1, 2, 3, 4, 5] rfl) I
      · have h := h.2 hc
        refine lv_lload S.1 S.2.1 d_Re_inheritJoined_39 (lv_at hl 4 rfl) ?_
        refine lv_aload_n S.1 S.2.1 d_Re_inheritJoined_41 rfl (lv_at hl 0 rfl) ?_
        refine g_Re_joined S hK I.1 d_Re_inheritJoined_42 ?_
        refine lv_iload S.1 S.2.1 d_Re_inheritJoined_45 (lv_at hl 5 rfl) ?_
        obtain ⟨hin, h⟩ := h
        refine a_Re_joined S hK I.1 hin d_Re_inheritJoined_47 ?_
        refine lv_lor S.1 S.2.1 d_Re_inheritJoined_48 ?_
        refine lv_lstore (lv' := [(4, .long (x4 ||| (Re_joined re x6.toNatClampNeg))), (0, .ref (ad 18)), (1, .int x1), (2, .int x2), (3, .int x3), (6, .int x6)]) S.1 S.2.1 d_Re_inheritJoined_49 hl (by decide) rfl (fun ls hl => ?_)
        exact n_Re_inheritJoined_51 S hr hlk hK hA hk4 ih _ _ _ _ _ _ _ _ h (lv_sub hl [1, 2, 3, 4, 0, 5] rfl) I
set_option maxHeartbeats 4000000 in
set_option maxRecDepth 100000 in
theorem n_Re_inheritJoined_4 {p : Program} {l : Launch} {e : Env} {s : State} {m : MethodId} {args : Array Value} {below : List Frame} {meth : Method} {c : Code} {D : va_G} {A : Nat → Prop} {ad : Nat → Nat} {cA : ClassId × ClassId × ClassId} {te : Te} {ru : Ru} {au : Au} {la : La} {sp : Sp} {le : Le} {x1 : Int32} {Q : Int32 → Re → Prop} (S : CallFix p m c b_Re_inheritJoined 7 s args gtbl R_Re) (hr : meth.sig.returnType = (some .boolean)) (hlk : meth.locks = false) (hK : gK D (tyA cA) s) (hA : ∀ q : Nat, s.heap.size ≤ q → A q) : ∀ n : Nat, ∀ (ls : Array Slot) (H : Heap) (locs : List Loc) (x2 : Int32) (x3 : Int32) (re : Re), p_Re_inheritJoined_4 x1 Q n x2 x3 re → lv_has ls 7 [(0, .ref (ad 18)), (1, .int x1), (2, .int x2), (3, .int x3)] → gIn D A s (wC ad cA) (te, ru, au, re, la, sp, le) H locs → W p l e rm_Re_inheritJoined s m args below meth c H locs 0 0 (qI D (tyA cA) A (wC ad cA) (fun u : Re => (te, ru, au, u, la, sp, le)) (fun (r : Int32) (u : Re) => Q r u) below args s) (F0 m 4 ls []) := by
  intro n
  induction n with
  | zero =>
    intro ls H locs x2 x3 re h
    exact (show False from h).elim
  | succ n ih =>
    intro ls H locs x2 x3 re h hl I
    refine lv_iload_n S.1 S.2.1 d_Re_inheritJoined_4 rfl (lv_at hl 3 rfl) ?_
    refine lv_iload_n S.1 S.2.1 d_Re_inheritJoined_5 rfl (lv_at hl 1 rfl) ?_
    refine lv_icmp_ge (tgt := 113) S.1 S.2.1 d_Re_inheritJoined_6 (by decide) (fun hc => ?_) (fun hc => ?_)
    · have h := h.1 hc
      refine lv_iload_n S.1 S.2.1 d_Re_inheritJoined_113 rfl (lv_at hl 2 rfl) ?_
      obtain ⟨hz, h⟩ := h
      exact ret_rwz S hr hlk hK (isB_n hz) I h d_Re_inheritJoined_114
    · have h := h.2 hc
      refine lv_aload_n S.1 S.2.1 d_Re_inheritJoined_9 rfl (lv_at hl 0 rfl) ?_
      refine g_Re_joined S hK I.1 d_Re_inheritJoined_10 ?_
      refine lv_iload_n S.1 S.2.1 d_Re_inheritJoined_13 rfl (lv_at hl 3 rfl) ?_
      obtain ⟨hin, h⟩ := h
      refine a_Re_joined S hK I.1 hin d_Re_inheritJoined_14 ?_
      refine lv_lstore (lv' := [(4, .long (Re_joined re x3.toNatClampNeg)), (0, .ref (ad 18)), (1, .int x1), (2, .int x2), (3, .int x3)]) S.1 S.2.1 d_Re_inheritJoined_15 hl (by decide) rfl (fun ls hl => ?_)
      refine lv_iconst (v := (0 : Int32)) S.1 S.2.1 d_Re_inheritJoined_17 rfl ?_
      refine lv_istore (lv' := [(6, .int (0 : Int32)), (4, .long (Re_joined re x3.toNatClampNeg)), (0, .ref (ad 18)), (1, .int x1), (2, .int x2), (3, .int x3)]) S.1 S.2.1 d_Re_inheritJoined_18 hl (by decide) rfl (fun ls hl => ?_)
      obtain ⟨n', h⟩ := h
      exact n_Re_inheritJoined_20 S hr hlk hK hA ih n' _ _ _ _ _ _ _ _ h (lv_sub hl [2, 3, 4, 5, 1, 0] rfl) I
set_option maxHeartbeats 4000000 in
set_option maxRecDepth 100000 in
theorem c_Re_inheritJoined (l : Launch) (D : va_G) (ad : Nat → Nat) (cA : ClassId × ClassId × ClassId) (te : Te) (ru : Ru) (au : Au) (re : Re) (la : La) (sp : Sp) (le : Le) (x1 : Int32) (Q : Int32 → Re → Prop) (h : p_Re_inheritJoined x1 re Q) : rwI l y_Re_inheritJoined (wsOf y_Re_inheritJoined b_Re_inheritJoined 7 (some .boolean)) rm_Re_inheritJoined D (tyA cA) (wC ad cA) [.ref (ad 18), .int x1] (te, ru, au, re, la, sp, le) (fun u : Re => (te, ru, au, u, la, sp, le)) (fun (r : Int32) (u : Re) => Q r u) := by
  refine rwI_of (by decide) (Nat.le_of_ble_eq_true rfl) ?_
  intro p e s m below meth c S hr hlk hK A hA I ls hl
  have hl : lv_has ls 7 [(0, .ref (ad 18)), (1, .int x1)] := hl
  refine lv_iconst (v := (0 : Int32)) S.1 S.2.1 d_Re_inheritJoined_0 rfl ?_
  refine lv_istore_n (lv' := [(2, .int (0 : Int32)), (0, .ref (ad 18)), (1, .int x1)]) S.1 S.2.1 d_Re_inheritJoined_1 rfl hl (by decide) rfl (fun ls hl => ?_)
  refine lv_iconst (v := (0 : Int32)) S.1 S.2.1 d_Re_inheritJoined_2 rfl ?_
  refine lv_istore_n (lv' := [(3, .int (0 : Int32)), (2, .int (0 : Int32)), (0, .ref (ad 18)), (1, .int x1)]) S.1 S.2.1 d_Re_inheritJoined_3 rfl hl (by decide) rfl (fun ls hl => ?_)
  obtain ⟨n', h⟩ := h
  exact n_Re_inheritJoined_4 S hr hlk hK hA n' _ _ _ _ _ _ h (lv_sub hl [2, 3, 1, 0] rfl) I

set_option maxHeartbeats 4000000 in
set_option maxRecDepth 100000 in
theorem n_Re_partsRelated_joined_96 {p : Program} {l : Launch} {e : Env} {s : State} {m : MethodId} {args : Array Value} {below : List Frame} {meth : Method} {c : Code} {D : va_G} {ad : Nat → Nat} {cA : ClassId × ClassId × ClassId} {te : Te} {ru : Ru} {au : Au} {re : Re} {la : La} {sp : Sp} {le : Le} {x2 : Int32} {x3 : Int32} {Q : Int32 → Prop} (S : CallFix p m c b_Re_partsRelated 5 s args gtbl R_Re) (hr : meth.sig.returnType = (some .boolean)) (hlk : meth.locks = false) (hK : gK D (tyA cA) s) (hP : va_P D classes (wC ad cA (te, ru, au, re, la, sp, le)) s.heap) : ∀ (ls : Array Slot) , p_Re_partsRelated_joined_96 x2 x3 te re Q  → lv_has ls 5 [] → W p l e rm_Re_partsRelated_joined s m args below meth c s.heap [] 0 0 (qRI Q below args s) (F0 m 96 ls []) := by
  intro ls  h hl
  refine lv_iconst (v := (1 : Int32)) S.1 S.2.1 d_Re_partsRelated_96 rfl ?_
  refine lv_goto (tgt := 101) S.1 S.2.1 d_Re_partsRelated_97 (by decide) ?_
  exact ret_roz S hr hlk (by decide) h d_Re_partsRelated_101
set_option maxHeartbeats 4000000 in
set_option maxRecDepth 100000 in
theorem n_Re_partsRelated_joined_67 {p : Program} {l : Launch} {e : Env} {s : State} {m : MethodId} {args : Array Value} {below : List Frame} {meth : Method} {c : Code} {D : va_G} {ad : Nat → Nat} {cA : ClassId × ClassId × ClassId} {te : Te} {ru : Ru} {au : Au} {re : Re} {la : La} {sp : Sp} {le : Le} {x2 : Int32} {x3 : Int32} {Q : Int32 → Prop} (S : CallFix p m c b_Re_partsRelated 5 s args gtbl R_Re) (hr : meth.sig.returnType = (some .boolean)) (hlk : meth.locks = false) (hK : gK D (tyA cA) s) (hP : va_P D classes (wC ad cA (te, ru, au, re, la, sp, le)) s.heap) : ∀ (ls : Array Slot) (x4 : Int32), p_Re_partsRelated_joined_67 x2 x3 te re Q x4 → lv_has ls 5 [(0, .ref (ad 18)), (1, .ref (ad 20)), (2, .int x2), (3, .int x3), (4, .int x4)] → W p l e rm_Re_partsRelated_joined s m args below meth c s.heap [] 0 0 (qRI Q below args s) (F0 m 67 ls []) := by
  intro ls x4 h hl
  refine lv_iload S.1 S.2.1 d_Re_partsRelated_67 (lv_at hl 4 rfl) ?_
  refine lv_iconst (v := (2 : Int32)) S.1 S.2.1 d_Re_partsRelated_69 rfl ?_
  refine lv_icmp_lt (tgt := 96) S.1 S.2.1 d_Re_partsRelated_70 (by decide) (fun hc => ?_) (fun hc => ?_)
  · have h := h.1 hc
    exact n_Re_partsRelated_joined_96 S hr hlk hK hP _ h (lv_sub hl [] rfl)
  · have h := h.2 hc
    refine lv_aload_n S.1 S.2.1 d_Re_partsRelated_73 rfl (lv_at hl 1 rfl) ?_
    refine lv_aload_n S.1 S.2.1 d_Re_partsRelated_74 rfl (lv_at hl 0 rfl) ?_
    refine g_Re_terms S hK hP d_Re_partsRelated_75 ?_
    refine lv_iload_n S.1 S.2.1 d_Re_partsRelated_78 rfl (lv_at hl 2 rfl) ?_
    refine callV_roi S (c_Te_secondOf l D ad cA _ _ _ _ _ _ _ _ _ h) (mkV S.2.2.2.2 ml_Re_100 k_Te_secondOf rfl rfl ⟨Nat.le_of_ble_eq_true rfl, Nat.le_of_ble_eq_true rfl⟩) (rv_Te hK hP) hK hP hl.1 rfl rfl (Nat.le_of_ble_eq_true rfl) d_Re_partsRelated_79 ⟨Nat.zero_le _, Nat.zero_le _⟩ (fun r79 h => ?_)
    refine lv_aload_n S.1 S.2.1 d_Re_partsRelated_82 rfl (lv_at hl 0 rfl) ?_
    refine g_Re_terms S hK hP d_Re_partsRelated_83 ?_
    refine lv_iload_n S.1 S.2.1 d_Re_partsRelated_86 rfl (lv_at hl 3 rfl) ?_
    refine callV_roi S (c_Te_secondOf l D ad cA _ _ _ _ _ _ _ _ _ h) (mkV S.2.2.2.2 ml_Re_100 k_Te_secondOf rfl rfl ⟨Nat.le_of_ble_eq_true rfl, Nat.le_of_ble_eq_true rfl⟩) (rv_Te hK hP) hK hP hl.1 rfl rfl (Nat.le_of_ble_eq_true rfl) d_Re_partsRelated_87 ⟨Nat.zero_le _, Nat.zero_le _⟩ (fun r87 h => ?_)
    refine callS_roi S (c_Re_isIn_joined l D ad cA _ _ _ _ _ _ _ _ _ _ h) (mkS S.2.2.2.2 ml_Re_55 k_Re_isIn rfl rfl ⟨Nat.le_of_ble_eq_true rfl, Nat.le_of_ble_eq_true rfl⟩) hK hP hl.1 rfl rfl (Nat.le_of_ble_eq_true rfl) d_Re_partsRelated_90 ⟨Nat.zero_le _, Nat.zero_le _⟩ (fun r90 h => ?_)
    refine lv_if_eq (tgt := 100) S.1 S.2.1 d_Re_partsRelated_93 (by decide) (fun hc => ?_) (fun hc => ?_)
    · have h := h.1 hc
      refine lv_iconst (v := (0 : Int32)) S.1 S.2.1 d_Re_partsRelated_100 rfl ?_
      exact ret_roz S hr hlk (by decide) h d_Re_partsRelated_101
    · have h := h.2 hc
      exact n_Re_partsRelated_joined_96 S hr hlk hK hP _ h (lv_sub hl [] rfl)
set_option maxHeartbeats 4000000 in
set_option maxRecDepth 100000 in
theorem c_Re_partsRelated_joined (l : Launch) (D : va_G) (ad : Nat → Nat) (cA : ClassId × ClassId × ClassId) (te : Te) (ru : Ru) (au : Au) (re : Re) (la : La) (sp : Sp) (le : Le) (x2 : Int32) (x3 : Int32) (Q : Int32 → Prop) (h : p_Re_partsRelated_joined x2 x3 te re Q) : roI l y_Re_partsRelated (wsOf y_Re_partsRelated b_Re_partsRelated 5 (some .boolean)) rm_Re_partsRelated_joined D (tyA cA) (wC ad cA) [.ref (ad 18), .ref (ad 20), .int x2, .int x3] (te, ru, au, re, la, sp, le) Q := by
  refine roI_of (by decide) (Nat.le_of_ble_eq_true rfl) ?_
  intro p e s m below meth c S hr hlk hK hP ls hl
  have hl : lv_has ls 5 [(0, .ref (ad 18)), (1, .ref (ad 20)), (2, .int x2), (3, .int x3)] := hl
  refine lv_aload_n S.1 S.2.1 d_Re_partsRelated_0 rfl (lv_at hl 0 rfl) ?_
  refine g_Re_terms S hK hP d_Re_partsRelated_1 ?_
  refine lv_iload_n S.1 S.2.1 d_Re_partsRelated_4 rfl (lv_at hl 2 rfl) ?_
  refine callV_roi S (c_Te_symbolOf l D ad cA _ _ _ _ _ _ _ _ _ h) (mkV S.2.2.2.2 ml_Re_91 k_Te_symbolOf rfl rfl ⟨Nat.le_of_ble_eq_true rfl, Nat.le_of_ble_eq_true rfl⟩) (rv_Te hK hP) hK hP hl.1 rfl rfl (Nat.le_of_ble_eq_true rfl) d_Re_partsRelated_5 ⟨Nat.zero_le _, Nat.zero_le _⟩ (fun r5 h => ?_)
  refine lv_aload_n S.1 S.2.1 d_Re_partsRelated_8 rfl (lv_at hl 0 rfl) ?_
  refine g_Re_terms S hK hP d_Re_partsRelated_9 ?_
  refine lv_iload_n S.1 S.2.1 d_Re_partsRelated_12 rfl (lv_at hl 3 rfl) ?_
  refine callV_roi S (c_Te_symbolOf l D ad cA _ _ _ _ _ _ _ _ _ h) (mkV S.2.2.2.2 ml_Re_91 k_Te_symbolOf rfl rfl ⟨Nat.le_of_ble_eq_true rfl, Nat.le_of_ble_eq_true rfl⟩) (rv_Te hK hP) hK hP hl.1 rfl rfl (Nat.le_of_ble_eq_true rfl) d_Re_partsRelated_13 ⟨Nat.zero_le _, Nat.zero_le _⟩ (fun r13 h => ?_)
  refine lv_icmp_eq (tgt := 21) S.1 S.2.1 d_Re_partsRelated_16 (by decide) (fun hc => ?_) (fun hc => ?_)
  · have h := h.1 hc
    refine lv_aload_n S.1 S.2.1 d_Re_partsRelated_21 rfl (lv_at hl 0 rfl) ?_
    refine g_Re_terms S hK hP d_Re_partsRelated_22 ?_
    refine lv_aload_n S.1 S.2.1 d_Re_partsRelated_25 rfl (lv_at hl 0 rfl) ?_
    refine g_Re_terms S hK hP d_Re_partsRelated_26 ?_
    refine lv_iload_n S.1 S.2.1 d_Re_partsRelated_29 rfl (lv_at hl 2 rfl) ?_
    refine callV_roi S (c_Te_symbolOf l D ad cA _ _ _ _ _ _ _ _ _ h) (mkV S.2.2.2.2 ml_Re_91 k_Te_symbolOf rfl rfl ⟨Nat.le_of_ble_eq_true rfl, Nat.le_of_ble_eq_true rfl⟩) (rv_Te hK hP) hK hP hl.1 rfl rfl (Nat.le_of_ble_eq_true rfl) d_Re_partsRelated_30 ⟨Nat.zero_le _, Nat.zero_le _⟩ (fun r30 h => ?_)
    refine callV_roi S (c_Te_placesOf l D ad cA _ _ _ _ _ _ _ _ _ h) (mkV S.2.2.2.2 ml_Re_94 k_Te_placesOf rfl rfl ⟨Nat.le_of_ble_eq_true rfl, Nat.le_of_ble_eq_true rfl⟩) (rv_Te hK hP) hK hP hl.1 rfl rfl (Nat.le_of_ble_eq_true rfl) d_Re_partsRelated_33 ⟨Nat.zero_le _, Nat.zero_le _⟩ (fun r33 h => ?_)
    refine lv_istore (lv' := [(4, .int r33), (0, .ref (ad 18)), (1, .ref (ad 20)), (2, .int x2), (3, .int x3)]) S.1 S.2.1 d_Re_partsRelated_36 hl (by decide) rfl (fun ls hl => ?_)
    refine lv_iload S.1 S.2.1 d_Re_partsRelated_38 (lv_at hl 0 rfl) ?_
    refine lv_iconst (v := (1 : Int32)) S.1 S.2.1 d_Re_partsRelated_40 rfl ?_
    refine lv_icmp_lt (tgt := 67) S.1 S.2.1 d_Re_partsRelated_41 (by decide) (fun hc => ?_) (fun hc => ?_)
    · have h := h.1 hc
      exact n_Re_partsRelated_joined_67 S hr hlk hK hP _ _ h (lv_sub hl [1, 2, 3, 4, 0] rfl)
    · have h := h.2 hc
      refine lv_aload_n S.1 S.2.1 d_Re_partsRelated_44 rfl (lv_at hl 2 rfl) ?_
      refine lv_aload_n S.1 S.2.1 d_Re_partsRelated_45 rfl (lv_at hl 1 rfl) ?_
      refine g_Re_terms S hK hP d_Re_partsRelated_46 ?_
      refine lv_iload_n S.1 S.2.1 d_Re_partsRelated_49 rfl (lv_at hl 3 rfl) ?_
      refine callV_roi S (c_Te_firstOf l D ad cA _ _ _ _ _ _ _ _ _ h) (mkV S.2.2.2.2 ml_Re_97 k_Te_firstOf rfl rfl ⟨Nat.le_of_ble_eq_true rfl, Nat.le_of_ble_eq_true rfl⟩) (rv_Te hK hP) hK hP hl.1 rfl rfl (Nat.le_of_ble_eq_true rfl) d_Re_partsRelated_50 ⟨Nat.zero_le _, Nat.zero_le _⟩ (fun r50 h => ?_)
      refine lv_aload_n S.1 S.2.1 d_Re_partsRelated_53 rfl (lv_at hl 1 rfl) ?_
      refine g_Re_terms S hK hP d_Re_partsRelated_54 ?_
      refine lv_iload_n S.1 S.2.1 d_Re_partsRelated_57 rfl (lv_at hl 4 rfl) ?_
      refine callV_roi S (c_Te_firstOf l D ad cA _ _ _ _ _ _ _ _ _ h) (mkV S.2.2.2.2 ml_Re_97 k_Te_firstOf rfl rfl ⟨Nat.le_of_ble_eq_true rfl, Nat.le_of_ble_eq_true rfl⟩) (rv_Te hK hP) hK hP hl.1 rfl rfl (Nat.le_of_ble_eq_true rfl) d_Re_partsRelated_58 ⟨Nat.zero_le _, Nat.zero_le _⟩ (fun r58 h => ?_)
      refine callS_roi S (c_Re_isIn_joined l D ad cA _ _ _ _ _ _ _ _ _ _ h) (mkS S.2.2.2.2 ml_Re_55 k_Re_isIn rfl rfl ⟨Nat.le_of_ble_eq_true rfl, Nat.le_of_ble_eq_true rfl⟩) hK hP hl.1 rfl rfl (Nat.le_of_ble_eq_true rfl) d_Re_partsRelated_61 ⟨Nat.zero_le _, Nat.zero_le _⟩ (fun r61 h => ?_)
      refine lv_if_eq (tgt := 100) S.1 S.2.1 d_Re_partsRelated_64 (by decide) (fun hc => ?_) (fun hc => ?_)
      · have h := h.1 hc
        refine lv_iconst (v := (0 : Int32)) S.1 S.2.1 d_Re_partsRelated_100 rfl ?_
        exact ret_roz S hr hlk (by decide) h d_Re_partsRelated_101
      · have h := h.2 hc
        exact n_Re_partsRelated_joined_67 S hr hlk hK hP _ _ h (lv_sub hl [1, 2, 3, 4, 0] rfl)
  · have h := h.2 hc
    refine lv_iconst (v := (0 : Int32)) S.1 S.2.1 d_Re_partsRelated_19 rfl ?_
    exact ret_roz S hr hlk (by decide) h d_Re_partsRelated_20

set_option maxHeartbeats 4000000 in
set_option maxRecDepth 100000 in
theorem n_Re_liftFromParts_joined_14 {p : Program} {l : Launch} {e : Env} {s : State} {m : MethodId} {args : Array Value} {below : List Frame} {meth : Method} {c : Code} {D : va_G} {A : Nat → Prop} {ad : Nat → Nat} {cA : ClassId × ClassId × ClassId} {te : Te} {ru : Ru} {au : Au} {la : La} {sp : Sp} {le : Le} {x2 : Int32} {Q : Int32 → Re → Prop} (S : CallFix p m c b_Re_liftFromParts 6 s args gtbl R_Re) (hr : meth.sig.returnType = (some .boolean)) (hlk : meth.locks = false) (hK : gK D (tyA cA) s) (hA : ∀ q : Nat, s.heap.size ≤ q → A q) {k5 : Int32 → Int32 → Re → Prop} (hk5 : ∀ (ls : Array Slot) (H : Heap) (locs : List Loc) (x3 : Int32) (x4 : Int32) (re : Re), k5 x3 x4 re → lv_has ls 6 [(0, .ref (ad 18)), (1, .ref (ad 20)), (2, .int x2), (3, .int x3), (4, .int x4)] → gIn D A s (wC ad cA) (te, ru, au, re, la, sp, le) H locs → W p l e rm_Re_liftFromParts_joined s m args below meth c H locs 0 0 (qI D (tyA cA) A (wC ad cA) (fun u : Re => (te, ru, au, u, la, sp, le)) (fun (r : Int32) (u : Re) => Q r u) below args s) (F0 m 5 ls [])) : ∀ n : Nat, ∀ (ls : Array Slot) (H : Heap) (locs : List Loc) (x3 : Int32) (x4 : Int32) (x5 : Int32) (re : Re), p_Re_liftFromParts_joined_14 x2 te Q k5 n x3 x4 x5 re → lv_has ls 6 [(0, .ref (ad 18)), (1, .ref (ad 20)), (2, .int x2), (3, .int x3), (4, .int x4), (5, .int x5)] → gIn D A s (wC ad cA) (te, ru, au, re, la, sp, le) H locs → W p l e rm_Re_liftFromParts_joined s m args below meth c H locs 0 0 (qI D (tyA cA) A (wC ad cA) (fun u : Re => (te, ru, au, u, la, sp, le)) (fun (r : Int32) (u : Re) => Q r u) below args s) (F0 m 14 ls []) := by
  intro n
  induction n with
  | zero =>
    intro ls H locs x3 x4 x5 re h
    exact (show False from h).elim
  | succ n ih =>
    intro ls H locs x3 x4 x5 re h hl I
    refine lv_iload S.1 S.2.1 d_Re_liftFromParts_14 (lv_at hl 5 rfl) ?_
    refine lv_iload_n S.1 S.2.1 d_Re_liftFromParts_16 rfl (lv_at hl 2 rfl) ?_
    refine lv_icmp_ge (tgt := 62) S.1 S.2.1 d_Re_liftFromParts_17 (by decide) (fun hc => ?_) (fun hc => ?_)
    · have h := h.1 hc
      refine lv_iinc (k := 4) (v := x4 + (1 : Int32)) (lv' := [(4, .int (x4 + (1 : Int32))), (0, .ref (ad 18)), (1, .ref (ad 20)), (2, .int x2), (3, .int x3), (5, .int x5)]) S.1 S.2.1 d_Re_liftFromParts_62 hl rfl rfl (by decide) rfl (fun ls hl => ?_)
      refine lv_goto (tgt := 5) S.1 S.2.1 d_Re_liftFromParts_65 (by decide) ?_
      exact hk5 _ _ _ _ _ _ h (lv_sub hl [1, 2, 3, 4, 0] rfl) I
    · have h := h.2 hc
      refine lv_aload_n S.1 S.2.1 d_Re_liftFromParts_20 rfl (lv_at hl 1 rfl) ?_
      refine lv_iload S.1 S.2.1 d_Re_liftFromParts_21 (lv_at hl 4 rfl) ?_
      refine lv_iload S.1 S.2.1 d_Re_liftFromParts_23 (lv_at hl 5 rfl) ?_
      refine callS_roi S (c_Re_isIn_joined l D ad cA _ _ _ _ _ _ _ _ _ _ h) (mkS S.2.2.2.2 ml_Re_55 k_Re_isIn rfl rfl ⟨Nat.le_of_ble_eq_true rfl, Nat.le_of_ble_eq_true rfl⟩) hK I.1 hl.1 rfl rfl (Nat.le_of_ble_eq_true rfl) d_Re_liftFromParts_25 ⟨Nat.zero_le _, Nat.zero_le _⟩ (fun r25 h => ?_)
      refine lv_if_ne (tgt := 56) S.1 S.2.1 d_Re_liftFromParts_28 (by decide) (fun hc => ?_) (fun hc => ?_)
      · have h := h.1 hc
        refine lv_iinc (k := 5) (v := x5 + (1 : Int32)) (lv' := [(5, .int (x5 + (1 : Int32))), (0, .ref (ad 18)), (1, .ref (ad 20)), (2, .int x2), (3, .int x3), (4, .int x4)]) S.1 S.2.1 d_Re_liftFromParts_56 hl rfl rfl (by decide) rfl (fun ls hl => ?_)
        refine lv_goto (tgt := 14) S.1 S.2.1 d_Re_liftFromParts_59 (by decide) ?_
        exact ih _ _ _ _ _ _ _ h (lv_sub hl [1, 2, 3, 4, 5, 0] rfl) I
      · have h := h.2 hc
        refine lv_aload_n S.1 S.2.1 d_Re_liftFromParts_31 rfl (lv_at hl 0 rfl) ?_
        refine lv_aload_n S.1 S.2.1 d_Re_liftFromParts_32 rfl (lv_at hl 1 rfl) ?_
        refine lv_iload S.1 S.2.1 d_Re_liftFromParts_33 (lv_at hl 4 rfl) ?_
        refine lv_iload S.1 S.2.1 d_Re_liftFromParts_35 (lv_at hl 5 rfl) ?_
        refine callV_roi S (c_Re_partsRelated_joined l D ad cA _ _ _ _ _ _ _ _ _ _ h) (mkV S.2.2.2.2 ml_Re_88 k_Re_partsRelated rfl rfl ⟨Nat.le_of_ble_eq_true rfl, Nat.le_of_ble_eq_true rfl⟩) (rv_Re hK I.1) hK I.1 hl.1 rfl rfl (Nat.le_of_ble_eq_true rfl) d_Re_liftFromParts_37 ⟨Nat.zero_le _, Nat.zero_le _⟩ (fun r37 h => ?_)
        refine lv_if_eq (tgt := 56) S.1 S.2.1 d_Re_liftFromParts_40 (by decide) (fun hc => ?_) (fun hc => ?_)
        · have h := h.1 hc
          refine lv_iinc (k := 5) (v := x5 + (1 : Int32)) (lv' := [(5, .int (x5 + (1 : Int32))), (0, .ref (ad 18)), (1, .ref (ad 20)), (2, .int x2), (3, .int x3), (4, .int x4)]) S.1 S.2.1 d_Re_liftFromParts_56 hl rfl rfl (by decide) rfl (fun ls hl => ?_)
          refine lv_goto (tgt := 14) S.1 S.2.1 d_Re_liftFromParts_59 (by decide) ?_
          exact ih _ _ _ _ _ _ _ h (lv_sub hl [1, 2, 3, 4, 5, 0] rfl) I
        · have h := h.2 hc
          refine lv_aload_n S.1 S.2.1 d_Re_liftFromParts_43 rfl (lv_at hl 1 rfl) ?_
          refine lv_iload S.1 S.2.1 d_Re_liftFromParts_44 (lv_at hl 4 rfl) ?_
          refine lv_dup2_11 S.1 S.2.1 d_Re_liftFromParts_46 rfl rfl ?_
          obtain ⟨hin, h⟩ := h
          refine a_Re_joined S hK I.1 hin d_Re_liftFromParts_47 ?_
          refine lv_lconst (v := (1 : Int64)) S.1 S.2.1 d_Re_liftFromParts_48 rfl ?_
          refine lv_iload S.1 S.2.1 d_Re_liftFromParts_49 (lv_at hl 5 rfl) ?_
          refine lv_lshl S.1 S.2.1 d_Re_liftFromParts_51 rfl ?_
          refine lv_lor S.1 S.2.1 d_Re_liftFromParts_52 ?_
          obtain ⟨hin, h⟩ := h
          refine s_Re_joined S hK I hin d_Re_liftFromParts_53 (fun H locs re53 ere53 I => ?_)
          have h := h re53 ere53
          refine lv_iconst (v := (1 : Int32)) S.1 S.2.1 d_Re_liftFromParts_54 rfl ?_
          refine lv_istore_n (lv' := [(3, .int (1 : Int32)), (0, .ref (ad 18)), (1, .ref (ad 20)), (2, .int x2), (4, .int x4), (5, .int x5)]) S.1 S.2.1 d_Re_liftFromParts_55 rfl hl (by decide) rfl (fun ls hl => ?_)
          refine lv_iinc (k := 5) (v := x5 + (1 : Int32)) (lv' := [(5, .int (x5 + (1 : Int32))), (3, .int (1 : Int32)), (0, .ref (ad 18)), (1, .ref (ad 20)), (2, .int x2), (4, .int x4)]) S.1 S.2.1 d_Re_liftFromParts_56 hl rfl rfl (by decide) rfl (fun ls hl => ?_)
          refine lv_goto (tgt := 14) S.1 S.2.1 d_Re_liftFromParts_59 (by decide) ?_
          exact ih _ _ _ _ _ _ _ h (lv_sub hl [2, 3, 4, 1, 5, 0] rfl) I
set_option maxHeartbeats 4000000 in
set_option maxRecDepth 100000 in
theorem n_Re_liftFromParts_joined_5 {p : Program} {l : Launch} {e : Env} {s : State} {m : MethodId} {args : Array Value} {below : List Frame} {meth : Method} {c : Code} {D : va_G} {A : Nat → Prop} {ad : Nat → Nat} {cA : ClassId × ClassId × ClassId} {te : Te} {ru : Ru} {au : Au} {la : La} {sp : Sp} {le : Le} {x2 : Int32} {Q : Int32 → Re → Prop} (S : CallFix p m c b_Re_liftFromParts 6 s args gtbl R_Re) (hr : meth.sig.returnType = (some .boolean)) (hlk : meth.locks = false) (hK : gK D (tyA cA) s) (hA : ∀ q : Nat, s.heap.size ≤ q → A q) : ∀ n : Nat, ∀ (ls : Array Slot) (H : Heap) (locs : List Loc) (x3 : Int32) (x4 : Int32) (re : Re), p_Re_liftFromParts_joined_5 x2 te Q n x3 x4 re → lv_has ls 6 [(0, .ref (ad 18)), (1, .ref (ad 20)), (2, .int x2), (3, .int x3), (4, .int x4)] → gIn D A s (wC ad cA) (te, ru, au, re, la, sp, le) H locs → W p l e rm_Re_liftFromParts_joined s m args below meth c H locs 0 0 (qI D (tyA cA) A (wC ad cA) (fun u : Re => (te, ru, au, u, la, sp, le)) (fun (r : Int32) (u : Re) => Q r u) below args s) (F0 m 5 ls []) := by
  intro n
  induction n with
  | zero =>
    intro ls H locs x3 x4 re h
    exact (show False from h).elim
  | succ n ih =>
    intro ls H locs x3 x4 re h hl I
    refine lv_iload S.1 S.2.1 d_Re_liftFromParts_5 (lv_at hl 4 rfl) ?_
    refine lv_iload_n S.1 S.2.1 d_Re_liftFromParts_7 rfl (lv_at hl 2 rfl) ?_
    refine lv_icmp_ge (tgt := 68) S.1 S.2.1 d_Re_liftFromParts_8 (by decide) (fun hc => ?_) (fun hc => ?_)
    · have h := h.1 hc
      refine lv_iload_n S.1 S.2.1 d_Re_liftFromParts_68 rfl (lv_at hl 3 rfl) ?_
      obtain ⟨hz, h⟩ := h
      exact ret_rwz S hr hlk hK (isB_n hz) I h d_Re_liftFromParts_69
    · have h := h.2 hc
      refine lv_iconst (v := (0 : Int32)) S.1 S.2.1 d_Re_liftFromParts_11 rfl ?_
      refine lv_istore (lv' := [(5, .int (0 : Int32)), (0, .ref (ad 18)), (1, .ref (ad 20)), (2, .int x2), (3, .int x3), (4, .int x4)]) S.1 S.2.1 d_Re_liftFromParts_12 hl (by decide) rfl (fun ls hl => ?_)
      obtain ⟨n', h⟩ := h
      exact n_Re_liftFromParts_joined_14 S hr hlk hK hA ih n' _ _ _ _ _ _ _ h (lv_sub hl [1, 2, 3, 4, 5, 0] rfl) I
set_option maxHeartbeats 4000000 in
set_option maxRecDepth 100000 in
theorem c_Re_liftFromParts_joined (l : Launch) (D : va_G) (ad : Nat → Nat) (cA : ClassId × ClassId × ClassId) (te : Te) (ru : Ru) (au : Au) (re : Re) (la : La) (sp : Sp) (le : Le) (x2 : Int32) (Q : Int32 → Re → Prop) (h : p_Re_liftFromParts_joined x2 te re Q) : rwI l y_Re_liftFromParts (wsOf y_Re_liftFromParts b_Re_liftFromParts 6 (some .boolean)) rm_Re_liftFromParts_joined D (tyA cA) (wC ad cA) [.ref (ad 18), .ref (ad 20), .int x2] (te, ru, au, re, la, sp, le) (fun u : Re => (te, ru, au, u, la, sp, le)) (fun (r : Int32) (u : Re) => Q r u) := by
  refine rwI_of (by decide) (Nat.le_of_ble_eq_true rfl) ?_
  intro p e s m below meth c S hr hlk hK A hA I ls hl
  have hl : lv_has ls 6 [(0, .ref (ad 18)), (1, .ref (ad 20)), (2, .int x2)] := hl
  refine lv_iconst (v := (0 : Int32)) S.1 S.2.1 d_Re_liftFromParts_0 rfl ?_
  refine lv_istore_n (lv' := [(3, .int (0 : Int32)), (0, .ref (ad 18)), (1, .ref (ad 20)), (2, .int x2)]) S.1 S.2.1 d_Re_liftFromParts_1 rfl hl (by decide) rfl (fun ls hl => ?_)
  refine lv_iconst (v := (0 : Int32)) S.1 S.2.1 d_Re_liftFromParts_2 rfl ?_
  refine lv_istore (lv' := [(4, .int (0 : Int32)), (3, .int (0 : Int32)), (0, .ref (ad 18)), (1, .ref (ad 20)), (2, .int x2)]) S.1 S.2.1 d_Re_liftFromParts_3 hl (by decide) rfl (fun ls hl => ?_)
  obtain ⟨n', h⟩ := h
  exact n_Re_liftFromParts_joined_5 S hr hlk hK hA n' _ _ _ _ _ _ h (lv_sub hl [2, 3, 4, 1, 0] rfl) I

set_option maxHeartbeats 4000000 in
set_option maxRecDepth 100000 in
theorem n_Re_findJoined_34 {p : Program} {l : Launch} {e : Env} {s : State} {m : MethodId} {args : Array Value} {below : List Frame} {meth : Method} {c : Code} {D : va_G} {A : Nat → Prop} {ad : Nat → Nat} {cA : ClassId × ClassId × ClassId} {te : Te} {ru : Ru} {au : Au} {la : La} {sp : Sp} {le : Le} {Q : Re → Prop} (S : CallFix p m c b_Re_findJoined 4 s args gtbl R_Re) (hr : meth.sig.returnType = none) (hlk : meth.locks = false) (hK : gK D (tyA cA) s) (hA : ∀ q : Nat, s.heap.size ≤ q → A q) : ∀ n : Nat, ∀ (ls : Array Slot) (H : Heap) (locs : List Loc) (x1 : Int32) (x2 : Int32) (x3 : Int32) (re : Re), p_Re_findJoined_34 te Q n x1 x2 x3 re → lv_has ls 4 [(0, .ref (ad 18)), (1, .int x1), (2, .int x2), (3, .int x3)] → gIn D A s (wC ad cA) (te, ru, au, re, la, sp, le) H locs → W p l e rm_Re_findJoined s m args below meth c H locs 0 0 (qV D (tyA cA) A (wC ad cA) (fun u : Re => (te, ru, au, u, la, sp, le)) (fun u : Re => Q u) below args s) (F0 m 34 ls []) := by
  intro n
  induction n with
  | zero =>
    intro ls H locs x1 x2 x3 re h
    exact (show False from h).elim
  | succ n ih =>
    intro ls H locs x1 x2 x3 re h hl I
    refine lv_iload_n S.1 S.2.1 d_Re_findJoined_34 rfl (lv_at hl 3 rfl) ?_
    refine lv_sipush (v := (2305 : Int32)) S.1 S.2.1 d_Re_findJoined_35 rfl ?_
    refine lv_icmp_ge (tgt := 71) S.1 S.2.1 d_Re_findJoined_38 (by decide) (fun hc => ?_) (fun hc => ?_)
    · have h := h.1 hc
      exact ret_rwv S hr hlk hK I h d_Re_findJoined_71
    · have h := h.2 hc
      refine lv_iload_n S.1 S.2.1 d_Re_findJoined_41 rfl (lv_at hl 2 rfl) ?_
      refine lv_if_eq (tgt := 71) S.1 S.2.1 d_Re_findJoined_42 (by decide) (fun hc => ?_) (fun hc => ?_)
      · have h := h.1 hc
        exact ret_rwv S hr hlk hK I h d_Re_findJoined_71
      · have h := h.2 hc
        refine lv_aload_n S.1 S.2.1 d_Re_findJoined_45 rfl (lv_at hl 0 rfl) ?_
        refine lv_iload_n S.1 S.2.1 d_Re_findJoined_46 rfl (lv_at hl 1 rfl) ?_
        refine callV_rwi S (c_Re_inheritJoined l D ad cA _ _ _ _ _ _ _ _ _ h) (mkV S.2.2.2.2 ml_Re_85 k_Re_inheritJoined rfl rfl ⟨Nat.le_of_ble_eq_true rfl, Nat.le_of_ble_eq_true rfl⟩) (rv_Re hK I.1) hK hA I hl.1 rfl rfl (Nat.le_of_ble_eq_true rfl) d_Re_findJoined_47 ⟨Nat.zero_le _, Nat.zero_le _⟩ (fun r47 re47 H locs h I => ?_)
        refine lv_istore_n (lv' := [(2, .int r47), (0, .ref (ad 18)), (1, .int x1), (3, .int x3)]) S.1 S.2.1 d_Re_findJoined_50 rfl hl (by decide) rfl (fun ls hl => ?_)
        refine lv_aload_n S.1 S.2.1 d_Re_findJoined_51 rfl (lv_at hl 1 rfl) ?_
        refine lv_aload_n S.1 S.2.1 d_Re_findJoined_52 rfl (lv_at hl 1 rfl) ?_
        refine g_Re_joined S hK I.1 d_Re_findJoined_53 ?_
        refine lv_iload_n S.1 S.2.1 d_Re_findJoined_56 rfl (lv_at hl 2 rfl) ?_
        refine callV_rwi S (c_Re_liftFromParts_joined l D ad cA _ _ _ _ _ _ _ _ _ h) (mkV S.2.2.2.2 ml_Re_81 k_Re_liftFromParts rfl rfl ⟨Nat.le_of_ble_eq_true rfl, Nat.le_of_ble_eq_true rfl⟩) (rv_Re hK I.1) hK hA I hl.1 rfl rfl (Nat.le_of_ble_eq_true rfl) d_Re_findJoined_57 ⟨Nat.zero_le _, Nat.zero_le _⟩ (fun r57 re57 H locs h I => ?_)
        refine lv_if_eq (tgt := 65) S.1 S.2.1 d_Re_findJoined_60 (by decide) (fun hc => ?_) (fun hc => ?_)
        · have h := h.1 hc
          refine lv_iinc (k := 3) (v := x3 + (1 : Int32)) (lv' := [(3, .int (x3 + (1 : Int32))), (2, .int r47), (0, .ref (ad 18)), (1, .int x1)]) S.1 S.2.1 d_Re_findJoined_65 hl rfl rfl (by decide) rfl (fun ls hl => ?_)
          refine lv_goto (tgt := 34) S.1 S.2.1 d_Re_findJoined_68 (by decide) ?_
          exact ih _ _ _ _ _ _ _ h (lv_sub hl [2, 3, 1, 0] rfl) I
        · have h := h.2 hc
          refine lv_iconst (v := (1 : Int32)) S.1 S.2.1 d_Re_findJoined_63 rfl ?_
          refine lv_istore_n (lv' := [(2, .int (1 : Int32)), (0, .ref (ad 18)), (1, .int x1), (3, .int x3)]) S.1 S.2.1 d_Re_findJoined_64 rfl hl (by decide) rfl (fun ls hl => ?_)
          refine lv_iinc (k := 3) (v := x3 + (1 : Int32)) (lv' := [(3, .int (x3 + (1 : Int32))), (2, .int (1 : Int32)), (0, .ref (ad 18)), (1, .int x1)]) S.1 S.2.1 d_Re_findJoined_65 hl rfl rfl (by decide) rfl (fun ls hl => ?_)
          refine lv_goto (tgt := 34) S.1 S.2.1 d_Re_findJoined_68 (by decide) ?_
          exact ih _ _ _ _ _ _ _ h (lv_sub hl [2, 3, 1, 0] rfl) I
set_option maxHeartbeats 4000000 in
set_option maxRecDepth 100000 in
theorem n_Re_findJoined_10 {p : Program} {l : Launch} {e : Env} {s : State} {m : MethodId} {args : Array Value} {below : List Frame} {meth : Method} {c : Code} {D : va_G} {A : Nat → Prop} {ad : Nat → Nat} {cA : ClassId × ClassId × ClassId} {te : Te} {ru : Ru} {au : Au} {la : La} {sp : Sp} {le : Le} {Q : Re → Prop} (S : CallFix p m c b_Re_findJoined 4 s args gtbl R_Re) (hr : meth.sig.returnType = none) (hlk : meth.locks = false) (hK : gK D (tyA cA) s) (hA : ∀ q : Nat, s.heap.size ≤ q → A q) : ∀ n : Nat, ∀ (ls : Array Slot) (H : Heap) (locs : List Loc) (x1 : Int32) (x2 : Int32) (re : Re), p_Re_findJoined_10 te Q n x1 x2 re → lv_has ls 4 [(0, .ref (ad 18)), (1, .int x1), (2, .int x2)] → gIn D A s (wC ad cA) (te, ru, au, re, la, sp, le) H locs → W p l e rm_Re_findJoined s m args below meth c H locs 0 0 (qV D (tyA cA) A (wC ad cA) (fun u : Re => (te, ru, au, u, la, sp, le)) (fun u : Re => Q u) below args s) (F0 m 10 ls []) := by
  intro n
  induction n with
  | zero =>
    intro ls H locs x1 x2 re h
    exact (show False from h).elim
  | succ n ih =>
    intro ls H locs x1 x2 re h hl I
    refine lv_iload_n S.1 S.2.1 d_Re_findJoined_10 rfl (lv_at hl 2 rfl) ?_
    refine lv_iload_n S.1 S.2.1 d_Re_findJoined_11 rfl (lv_at hl 1 rfl) ?_
    refine lv_icmp_ge (tgt := 30) S.1 S.2.1 d_Re_findJoined_12 (by decide) (fun hc => ?_) (fun hc => ?_)
    · have h := h.1 hc
      refine lv_iconst (v := (1 : Int32)) S.1 S.2.1 d_Re_findJoined_30 rfl ?_
      refine lv_istore_n (lv' := [(2, .int (1 : Int32)), (0, .ref (ad 18)), (1, .int x1)]) S.1 S.2.1 d_Re_findJoined_31 rfl hl (by decide) rfl (fun ls hl => ?_)
      refine lv_iconst (v := (0 : Int32)) S.1 S.2.1 d_Re_findJoined_32 rfl ?_
      refine lv_istore_n (lv' := [(3, .int (0 : Int32)), (2, .int (1 : Int32)), (0, .ref (ad 18)), (1, .int x1)]) S.1 S.2.1 d_Re_findJoined_33 rfl hl (by decide) rfl (fun ls hl => ?_)
      obtain ⟨n', h⟩ := h
      exact n_Re_findJoined_34 S hr hlk hK hA n' _ _ _ _ _ _ _ h (lv_sub hl [2, 3, 1, 0] rfl) I
    · have h := h.2 hc
      refine lv_aload_n S.1 S.2.1 d_Re_findJoined_15 rfl (lv_at hl 0 rfl) ?_
      refine g_Re_joined S hK I.1 d_Re_findJoined_16 ?_
      refine lv_iload_n S.1 S.2.1 d_Re_findJoined_19 rfl (lv_at hl 2 rfl) ?_
      refine lv_lconst (v := (1 : Int64)) S.1 S.2.1 d_Re_findJoined_20 rfl ?_
      refine lv_iload_n S.1 S.2.1 d_Re_findJoined_21 rfl (lv_at hl 2 rfl) ?_
      refine lv_lshl S.1 S.2.1 d_Re_findJoined_22 rfl ?_
      obtain ⟨hin, h⟩ := h
      refine s_Re_joined S hK I hin d_Re_findJoined_23 (fun H locs re23 ere23 I => ?_)
      have h := h re23 ere23
      refine lv_iinc (k := 2) (v := x2 + (1 : Int32)) (lv' := [(2, .int (x2 + (1 : Int32))), (0, .ref (ad 18)), (1, .int x1)]) S.1 S.2.1 d_Re_findJoined_24 hl rfl rfl (by decide) rfl (fun ls hl => ?_)
      refine lv_goto (tgt := 10) S.1 S.2.1 d_Re_findJoined_27 (by decide) ?_
      exact ih _ _ _ _ _ _ h (lv_sub hl [1, 2, 0] rfl) I
set_option maxHeartbeats 4000000 in
set_option maxRecDepth 100000 in
theorem c_Re_findJoined (l : Launch) (D : va_G) (ad : Nat → Nat) (cA : ClassId × ClassId × ClassId) (te : Te) (ru : Ru) (au : Au) (re : Re) (la : La) (sp : Sp) (le : Le)  (Q : Re → Prop) (h : p_Re_findJoined  te re Q) : rwV l y_Re_findJoined (wsOf y_Re_findJoined b_Re_findJoined 4 none) rm_Re_findJoined D (tyA cA) (wC ad cA) [.ref (ad 18)] (te, ru, au, re, la, sp, le) (fun u : Re => (te, ru, au, u, la, sp, le)) (fun u : Re => Q u) := by
  refine rwV_of (by decide) (Nat.le_of_ble_eq_true rfl) ?_
  intro p e s m below meth c S hr hlk hK A hA I ls hl
  have hl : lv_has ls 4 [(0, .ref (ad 18))] := hl
  refine lv_aload_n S.1 S.2.1 d_Re_findJoined_0 rfl (lv_at hl 0 rfl) ?_
  refine g_Re_terms S hK I.1 d_Re_findJoined_1 ?_
  refine callV_roi S (c_Te_count l D ad cA _ _ _ _ _ _ _ _ h) (mkV S.2.2.2.2 ml_Re_37 k_Te_count rfl rfl ⟨Nat.le_of_ble_eq_true rfl, Nat.le_of_ble_eq_true rfl⟩) (rv_Te hK I.1) hK I.1 hl.1 rfl rfl (Nat.le_of_ble_eq_true rfl) d_Re_findJoined_4 ⟨Nat.zero_le _, Nat.zero_le _⟩ (fun r4 h => ?_)
  refine lv_istore_n (lv' := [(1, .int r4), (0, .ref (ad 18))]) S.1 S.2.1 d_Re_findJoined_7 rfl hl (by decide) rfl (fun ls hl => ?_)
  refine lv_iconst (v := (0 : Int32)) S.1 S.2.1 d_Re_findJoined_8 rfl ?_
  refine lv_istore_n (lv' := [(2, .int (0 : Int32)), (1, .int r4), (0, .ref (ad 18))]) S.1 S.2.1 d_Re_findJoined_9 rfl hl (by decide) rfl (fun ls hl => ?_)
  obtain ⟨n', h⟩ := h
  exact n_Re_findJoined_10 S hr hlk hK hA n' _ _ _ _ _ _ h (lv_sub hl [2, 1, 0] rfl) I

set_option maxHeartbeats 4000000 in
set_option maxRecDepth 100000 in
theorem n_Re_joins_16 {p : Program} {l : Launch} {e : Env} {s : State} {m : MethodId} {args : Array Value} {below : List Frame} {meth : Method} {c : Code} {D : va_G} {A : Nat → Prop} {ad : Nat → Nat} {cA : ClassId × ClassId × ClassId} {te : Te} {ru : Ru} {au : Au} {la : La} {sp : Sp} {le : Le} {x1 : Int32} {x2 : Int32} {Q : Int32 → Re → Prop} (S : CallFix p m c b_Re_joins 3 s args gtbl R_Re) (hr : meth.sig.returnType = (some .boolean)) (hlk : meth.locks = false) (hK : gK D (tyA cA) s) (hA : ∀ q : Nat, s.heap.size ≤ q → A q) : ∀ (ls : Array Slot) (H : Heap) (locs : List Loc) (re : Re), p_Re_joins_16 x1 x2 te Q re → lv_has ls 3 [(0, .ref (ad 18)), (1, .int x1), (2, .int x2)] → gIn D A s (wC ad cA) (te, ru, au, re, la, sp, le) H locs → W p l e rm_Re_joins s m args below meth c H locs 0 0 (qI D (tyA cA) A (wC ad cA) (fun u : Re => (te, ru, au, u, la, sp, le)) (fun (r : Int32) (u : Re) => Q r u) below args s) (F0 m 16 ls []) := by
  intro ls H locs re h hl I
  refine lv_aload_n S.1 S.2.1 d_Re_joins_16 rfl (lv_at hl 0 rfl) ?_
  refine g_Re_joined S hK I.1 d_Re_joins_17 ?_
  refine lv_iload_n S.1 S.2.1 d_Re_joins_20 rfl (lv_at hl 1 rfl) ?_
  refine lv_iload_n S.1 S.2.1 d_Re_joins_21 rfl (lv_at hl 2 rfl) ?_
  refine callS_roi S (c_Re_isIn_joined l D ad cA _ _ _ _ _ _ _ _ _ _ h) (mkS S.2.2.2.2 ml_Re_55 k_Re_isIn rfl rfl ⟨Nat.le_of_ble_eq_true rfl, Nat.le_of_ble_eq_true rfl⟩) hK I.1 hl.1 rfl rfl (Nat.le_of_ble_eq_true rfl) d_Re_joins_22 ⟨Nat.zero_le _, Nat.zero_le _⟩ (fun r22 h => ?_)
  obtain ⟨hz, h⟩ := h
  exact ret_rwz S hr hlk hK (isB_n hz) I h d_Re_joins_25
set_option maxHeartbeats 4000000 in
set_option maxRecDepth 100000 in
theorem c_Re_joins (l : Launch) (D : va_G) (ad : Nat → Nat) (cA : ClassId × ClassId × ClassId) (te : Te) (ru : Ru) (au : Au) (re : Re) (la : La) (sp : Sp) (le : Le) (x1 : Int32) (x2 : Int32) (Q : Int32 → Re → Prop) (h : p_Re_joins x1 x2 te re Q) : rwI l y_Re_joins (wsOf y_Re_joins b_Re_joins 3 (some .boolean)) rm_Re_joins D (tyA cA) (wC ad cA) [.ref (ad 18), .int x1, .int x2] (te, ru, au, re, la, sp, le) (fun u : Re => (te, ru, au, u, la, sp, le)) (fun (r : Int32) (u : Re) => Q r u) := by
  refine rwI_of (by decide) (Nat.le_of_ble_eq_true rfl) ?_
  intro p e s m below meth c S hr hlk hK A hA I ls hl
  have hl : lv_has ls 3 [(0, .ref (ad 18)), (1, .int x1), (2, .int x2)] := hl
  refine lv_aload_n S.1 S.2.1 d_Re_joins_0 rfl (lv_at hl 0 rfl) ?_
  refine g_Re_joinedKnown S hK I.1 d_Re_joins_1 ?_
  refine lv_if_ne (tgt := 16) S.1 S.2.1 d_Re_joins_4 (by decide) (fun hc => ?_) (fun hc => ?_)
  · have h := h.1 hc
    exact n_Re_joins_16 S hr hlk hK hA _ _ _ _ h (lv_sub hl [0, 1, 2] rfl) I
  · have h := h.2 hc
    refine lv_aload_n S.1 S.2.1 d_Re_joins_7 rfl (lv_at hl 0 rfl) ?_
    refine callV_rwv S (c_Re_findJoined l D ad cA _ _ _ _ _ _ _ _ h) (mkV S.2.2.2.2 ml_Re_59 k_Re_findJoined rfl rfl ⟨Nat.le_of_ble_eq_true rfl, Nat.le_of_ble_eq_true rfl⟩) (rv_Re hK I.1) hK hA I hl.1 rfl rfl (Nat.le_of_ble_eq_true rfl) d_Re_joins_8 ⟨Nat.zero_le _, Nat.zero_le _⟩ (fun re8 H locs h I => ?_)
    refine lv_aload_n S.1 S.2.1 d_Re_joins_11 rfl (lv_at hl 0 rfl) ?_
    refine lv_iconst (v := (1 : Int32)) S.1 S.2.1 d_Re_joins_12 rfl ?_
    refine q_Re_joinedKnown S hK I (by decide) (by decide) d_Re_joins_13 (fun H locs re13 ere13 I => ?_)
    have h := h re13 ere13
    exact n_Re_joins_16 S hr hlk hK hA _ _ _ _ h (lv_sub hl [0, 1, 2] rfl) I

set_option maxHeartbeats 4000000 in
set_option maxRecDepth 100000 in
theorem n_Re_sizeWithLeastParts_60 {p : Program} {l : Launch} {e : Env} {s : State} {m : MethodId} {args : Array Value} {below : List Frame} {meth : Method} {c : Code} {D : va_G} {ad : Nat → Nat} {cA : ClassId × ClassId × ClassId} {te : Te} {ru : Ru} {au : Au} {re : Re} {la : La} {sp : Sp} {le : Le} {x1 : Int32} {Q : Int32 → Prop} (S : CallFix p m c b_Re_sizeWithLeastParts 4 s args gtbl R_Re) (hr : meth.sig.returnType = (some .int)) (hlk : meth.locks = false) (hK : gK D (tyA cA) s) (hP : va_P D classes (wC ad cA (te, ru, au, re, la, sp, le)) s.heap) : ∀ (ls : Array Slot) (y0 : Int32) (y1 : Int32), p_Re_sizeWithLeastParts_60 x1 te re Q y0 y1 → lv_has ls 4 [] → W p l e rm_Re_sizeWithLeastParts s m args below meth c s.heap [] 0 0 (qRI Q below args s) (F0 m 60 ls [.int y0, .int y1]) := by
  intro ls y0 y1 h hl
  refine lv_iadd S.1 S.2.1 d_Re_sizeWithLeastParts_60 ?_
  refine lv_istore_n (lv' := [(3, .int (y1 + y0))]) S.1 S.2.1 d_Re_sizeWithLeastParts_61 rfl hl (by decide) rfl (fun ls hl => ?_)
  refine lv_ldc (v := (1000000000 : Int32)) S.1 S.2.1 S.2.2.2.1 (S.2.2.2.2 _ kn_Re_106) d_Re_sizeWithLeastParts_62 ?_
  refine lv_iconst (v := (1 : Int32)) S.1 S.2.1 d_Re_sizeWithLeastParts_64 rfl ?_
  refine lv_iload_n S.1 S.2.1 d_Re_sizeWithLeastParts_65 rfl (lv_at hl 0 rfl) ?_
  refine lv_iadd S.1 S.2.1 d_Re_sizeWithLeastParts_66 ?_
  refine va_mmin S.1 S.2.1 (S.2.2.1.trans hl.1.symm) S.2.2.2.1 (S.2.2.2.2 _ ml_Re_107) (S.2.2.2.2 _ st_min) (S.2.2.2.2 _ in_Ma) (S.2.2.2.2 _ co_min) (Nat.le_of_ble_eq_true rfl) (Nat.le_of_ble_eq_true rfl) (Nat.le_refl _) (Nat.le_refl _) d_Re_sizeWithLeastParts_67 ?_
  exact ret_roi S hr hlk h d_Re_sizeWithLeastParts_70
set_option maxHeartbeats 4000000 in
set_option maxRecDepth 100000 in
theorem n_Re_sizeWithLeastParts_38 {p : Program} {l : Launch} {e : Env} {s : State} {m : MethodId} {args : Array Value} {below : List Frame} {meth : Method} {c : Code} {D : va_G} {ad : Nat → Nat} {cA : ClassId × ClassId × ClassId} {te : Te} {ru : Ru} {au : Au} {re : Re} {la : La} {sp : Sp} {le : Le} {x1 : Int32} {Q : Int32 → Prop} (S : CallFix p m c b_Re_sizeWithLeastParts 4 s args gtbl R_Re) (hr : meth.sig.returnType = (some .int)) (hlk : meth.locks = false) (hK : gK D (tyA cA) s) (hP : va_P D classes (wC ad cA (te, ru, au, re, la, sp, le)) s.heap) : ∀ (ls : Array Slot) (x2 : Int32) (y0 : Int32), p_Re_sizeWithLeastParts_38 x1 te re Q x2 y0 → lv_has ls 4 [(0, .ref (ad 18)), (1, .int x1), (2, .int x2)] → W p l e rm_Re_sizeWithLeastParts s m args below meth c s.heap [] 0 0 (qRI Q below args s) (F0 m 38 ls [.int y0]) := by
  intro ls x2 y0 h hl
  refine lv_iload_n S.1 S.2.1 d_Re_sizeWithLeastParts_38 rfl (lv_at hl 2 rfl) ?_
  refine lv_iconst (v := (2 : Int32)) S.1 S.2.1 d_Re_sizeWithLeastParts_39 rfl ?_
  refine lv_icmp_ge (tgt := 47) S.1 S.2.1 d_Re_sizeWithLeastParts_40 (by decide) (fun hc => ?_) (fun hc => ?_)
  · have h := h.1 hc
    refine lv_aload_n S.1 S.2.1 d_Re_sizeWithLeastParts_47 rfl (lv_at hl 0 rfl) ?_
    refine g_Re_least S hK hP d_Re_sizeWithLeastParts_48 ?_
    refine lv_aload_n S.1 S.2.1 d_Re_sizeWithLeastParts_51 rfl (lv_at hl 0 rfl) ?_
    refine g_Re_terms S hK hP d_Re_sizeWithLeastParts_52 ?_
    refine lv_iload_n S.1 S.2.1 d_Re_sizeWithLeastParts_55 rfl (lv_at hl 1 rfl) ?_
    refine callV_roi S (c_Te_secondOf l D ad cA _ _ _ _ _ _ _ _ _ h) (mkV S.2.2.2.2 ml_Re_100 k_Te_secondOf rfl rfl ⟨Nat.le_of_ble_eq_true rfl, Nat.le_of_ble_eq_true rfl⟩) (rv_Te hK hP) hK hP hl.1 rfl rfl (Nat.le_of_ble_eq_true rfl) d_Re_sizeWithLeastParts_56 ⟨Nat.zero_le _, Nat.zero_le _⟩ (fun r56 h => ?_)
    obtain ⟨hin, h⟩ := h
    refine a_Re_least S hK hP hin d_Re_sizeWithLeastParts_59 ?_
    exact n_Re_sizeWithLeastParts_60 S hr hlk hK hP _ _ _ h (lv_sub hl [] rfl)
  · have h := h.2 hc
    refine lv_iconst (v := (0 : Int32)) S.1 S.2.1 d_Re_sizeWithLeastParts_43 rfl ?_
    refine lv_goto (tgt := 60) S.1 S.2.1 d_Re_sizeWithLeastParts_44 (by decide) ?_
    exact n_Re_sizeWithLeastParts_60 S hr hlk hK hP _ _ _ h (lv_sub hl [] rfl)
set_option maxHeartbeats 4000000 in
set_option maxRecDepth 100000 in
theorem c_Re_sizeWithLeastParts (l : Launch) (D : va_G) (ad : Nat → Nat) (cA : ClassId × ClassId × ClassId) (te : Te) (ru : Ru) (au : Au) (re : Re) (la : La) (sp : Sp) (le : Le) (x1 : Int32) (Q : Int32 → Prop) (h : p_Re_sizeWithLeastParts x1 te re Q) : roI l y_Re_sizeWithLeastParts (wsOf y_Re_sizeWithLeastParts b_Re_sizeWithLeastParts 4 (some .int)) rm_Re_sizeWithLeastParts D (tyA cA) (wC ad cA) [.ref (ad 18), .int x1] (te, ru, au, re, la, sp, le) Q := by
  refine roI_of (by decide) (Nat.le_of_ble_eq_true rfl) ?_
  intro p e s m below meth c S hr hlk hK hP ls hl
  have hl : lv_has ls 4 [(0, .ref (ad 18)), (1, .int x1)] := hl
  refine lv_aload_n S.1 S.2.1 d_Re_sizeWithLeastParts_0 rfl (lv_at hl 0 rfl) ?_
  refine g_Re_terms S hK hP d_Re_sizeWithLeastParts_1 ?_
  refine lv_aload_n S.1 S.2.1 d_Re_sizeWithLeastParts_4 rfl (lv_at hl 0 rfl) ?_
  refine g_Re_terms S hK hP d_Re_sizeWithLeastParts_5 ?_
  refine lv_iload_n S.1 S.2.1 d_Re_sizeWithLeastParts_8 rfl (lv_at hl 1 rfl) ?_
  refine callV_roi S (c_Te_symbolOf l D ad cA _ _ _ _ _ _ _ _ _ h) (mkV S.2.2.2.2 ml_Re_91 k_Te_symbolOf rfl rfl ⟨Nat.le_of_ble_eq_true rfl, Nat.le_of_ble_eq_true rfl⟩) (rv_Te hK hP) hK hP hl.1 rfl rfl (Nat.le_of_ble_eq_true rfl) d_Re_sizeWithLeastParts_9 ⟨Nat.zero_le _, Nat.zero_le _⟩ (fun r9 h => ?_)
  refine callV_roi S (c_Te_placesOf l D ad cA _ _ _ _ _ _ _ _ _ h) (mkV S.2.2.2.2 ml_Re_94 k_Te_placesOf rfl rfl ⟨Nat.le_of_ble_eq_true rfl, Nat.le_of_ble_eq_true rfl⟩) (rv_Te hK hP) hK hP hl.1 rfl rfl (Nat.le_of_ble_eq_true rfl) d_Re_sizeWithLeastParts_12 ⟨Nat.zero_le _, Nat.zero_le _⟩ (fun r12 h => ?_)
  refine lv_istore_n (lv' := [(2, .int r12), (0, .ref (ad 18)), (1, .int x1)]) S.1 S.2.1 d_Re_sizeWithLeastParts_15 rfl hl (by decide) rfl (fun ls hl => ?_)
  refine lv_iload_n S.1 S.2.1 d_Re_sizeWithLeastParts_16 rfl (lv_at hl 0 rfl) ?_
  refine lv_iconst (v := (1 : Int32)) S.1 S.2.1 d_Re_sizeWithLeastParts_17 rfl ?_
  refine lv_icmp_ge (tgt := 25) S.1 S.2.1 d_Re_sizeWithLeastParts_18 (by decide) (fun hc => ?_) (fun hc => ?_)
  · have h := h.1 hc
    refine lv_aload_n S.1 S.2.1 d_Re_sizeWithLeastParts_25 rfl (lv_at hl 1 rfl) ?_
    refine g_Re_least S hK hP d_Re_sizeWithLeastParts_26 ?_
    refine lv_aload_n S.1 S.2.1 d_Re_sizeWithLeastParts_29 rfl (lv_at hl 1 rfl) ?_
    refine g_Re_terms S hK hP d_Re_sizeWithLeastParts_30 ?_
    refine lv_iload_n S.1 S.2.1 d_Re_sizeWithLeastParts_33 rfl (lv_at hl 2 rfl) ?_
    refine callV_roi S (c_Te_firstOf l D ad cA _ _ _ _ _ _ _ _ _ h) (mkV S.2.2.2.2 ml_Re_97 k_Te_firstOf rfl rfl ⟨Nat.le_of_ble_eq_true rfl, Nat.le_of_ble_eq_true rfl⟩) (rv_Te hK hP) hK hP hl.1 rfl rfl (Nat.le_of_ble_eq_true rfl) d_Re_sizeWithLeastParts_34 ⟨Nat.zero_le _, Nat.zero_le _⟩ (fun r34 h => ?_)
    obtain ⟨hin, h⟩ := h
    refine a_Re_least S hK hP hin d_Re_sizeWithLeastParts_37 ?_
    exact n_Re_sizeWithLeastParts_38 S hr hlk hK hP _ _ _ h (lv_sub hl [1, 2, 0] rfl)
  · have h := h.2 hc
    refine lv_iconst (v := (0 : Int32)) S.1 S.2.1 d_Re_sizeWithLeastParts_21 rfl ?_
    refine lv_goto (tgt := 38) S.1 S.2.1 d_Re_sizeWithLeastParts_22 (by decide) ?_
    exact n_Re_sizeWithLeastParts_38 S hr hlk hK hP _ _ _ h (lv_sub hl [1, 2, 0] rfl)
