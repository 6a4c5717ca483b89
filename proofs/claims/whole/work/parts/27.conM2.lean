set_option maxHeartbeats 4000000 in
set_option maxRecDepth 100000 in
theorem n_Mo_ask_36 {p : Program} {l : Launch} {e : Env} {s : State} {m : MethodId} {args : Array Value} {below : List Frame} {meth : Method} {c : Code} {D : va_G} {A : Nat → Prop} {ad : Nat → Nat} {cA : ClassId × ClassId × ClassId}  {x1 : Int32} {x2 : Int32} {Q : Int32 → Mo → Prop} (S : CallFix p m c b_Mo_ask 3 s args gtbl R_Mo) (hr : meth.sig.returnType = (some .boolean)) (hlk : meth.locks = false) (hK : gK D (tyA cA) s) (hA : ∀ q : Nat, s.heap.size ≤ q → A q) : ∀ (ls : Array Slot) (H : Heap) (locs : List Loc) (mo : Mo), p_Mo_ask_36 x1 x2 Q mo → lv_has ls 3 [(0, .ref (ad 0))] → gIn D A s (wM ad cA) mo H locs → W p l e rm_Mo_ask s m args below meth c H locs 0 0 (qI D (tyA cA) A (wM ad cA) (fun u : Mo => u) (fun (r : Int32) (u : Mo) => Q r u) below args s) (F0 m 36 ls []) := by
  intro ls H locs mo h hl I
  refine lv_aload_n S.1 S.2.1 d_Mo_ask_36 rfl (lv_at hl 0 rfl) ?_
  refine g_Mo_thrown S hK I.1 d_Mo_ask_37 ?_
  refine lv_if_ne (tgt := 47) S.1 S.2.1 d_Mo_ask_40 (by decide) (fun hc => ?_) (fun hc => ?_)
  · have h := h.1 hc
    refine lv_iconst (v := (0 : Int32)) S.1 S.2.1 d_Mo_ask_47 rfl ?_
    exact ret_rwz S hr hlk hK (by decide) I h d_Mo_ask_48
  · have h := h.2 hc
    refine lv_iconst (v := (1 : Int32)) S.1 S.2.1 d_Mo_ask_43 rfl ?_
    refine lv_goto (tgt := 48) S.1 S.2.1 d_Mo_ask_44 (by decide) ?_
    exact ret_rwz S hr hlk hK (by decide) I h d_Mo_ask_48
set_option maxHeartbeats 4000000 in
set_option maxRecDepth 100000 in
theorem n_Mo_ask_22 {p : Program} {l : Launch} {e : Env} {s : State} {m : MethodId} {args : Array Value} {below : List Frame} {meth : Method} {c : Code} {D : va_G} {A : Nat → Prop} {ad : Nat → Nat} {cA : ClassId × ClassId × ClassId}  {x1 : Int32} {x2 : Int32} {Q : Int32 → Mo → Prop} (S : CallFix p m c b_Mo_ask 3 s args gtbl R_Mo) (hr : meth.sig.returnType = (some .boolean)) (hlk : meth.locks = false) (hK : gK D (tyA cA) s) (hA : ∀ q : Nat, s.heap.size ≤ q → A q) : ∀ (ls : Array Slot) (H : Heap) (locs : List Loc) (y0 : Int32) (mo : Mo), p_Mo_ask_22 x1 x2 Q y0 mo → lv_has ls 3 [(0, .ref (ad 0))] → gIn D A s (wM ad cA) mo H locs → W p l e rm_Mo_ask s m args below meth c H locs 0 0 (qI D (tyA cA) A (wM ad cA) (fun u : Mo => u) (fun (r : Int32) (u : Mo) => Q r u) below args s) (F0 m 22 ls [.int y0, .ref (ad 0)]) := by
  intro ls H locs y0 mo h hl I
  refine q_Mo_thrown S hK I d_Mo_ask_22 (fun H locs mo22 emo22 I => ?_)
  have h := h mo22 emo22
  refine lv_aload_n S.1 S.2.1 d_Mo_ask_25 rfl (lv_at hl 0 rfl) ?_
  refine g_Mo_thrown S hK I.1 d_Mo_ask_26 ?_
  refine lv_if_ne (tgt := 36) S.1 S.2.1 d_Mo_ask_29 (by decide) (fun hc => ?_) (fun hc => ?_)
  · have h := h.1 hc
    exact n_Mo_ask_36 S hr hlk hK hA _ _ _ _ h (lv_sub hl [0] rfl) I
  · have h := h.2 hc
    refine lv_aload_n S.1 S.2.1 d_Mo_ask_32 rfl (lv_at hl 0 rfl) ?_
    refine callV_rwv S (c_Mo_reachAll l D ad cA _ _ h) (mkV S.2.2.2.2 ml_Mo_122 k_Mo_reachAll rfl rfl ⟨Nat.le_of_ble_eq_true rfl, Nat.le_of_ble_eq_true rfl⟩) (rv_Mo hK I.1) hK hA I hl.1 rfl rfl (Nat.le_of_ble_eq_true rfl) d_Mo_ask_33 ⟨Nat.zero_le _, Nat.zero_le _⟩ (fun mo33 H locs h I => ?_)
    exact n_Mo_ask_36 S hr hlk hK hA _ _ _ _ h (lv_sub hl [0] rfl) I
set_option maxHeartbeats 4000000 in
set_option maxRecDepth 100000 in
theorem n_Mo_ask_21 {p : Program} {l : Launch} {e : Env} {s : State} {m : MethodId} {args : Array Value} {below : List Frame} {meth : Method} {c : Code} {D : va_G} {A : Nat → Prop} {ad : Nat → Nat} {cA : ClassId × ClassId × ClassId}  {x1 : Int32} {x2 : Int32} {Q : Int32 → Mo → Prop} (S : CallFix p m c b_Mo_ask 3 s args gtbl R_Mo) (hr : meth.sig.returnType = (some .boolean)) (hlk : meth.locks = false) (hK : gK D (tyA cA) s) (hA : ∀ q : Nat, s.heap.size ≤ q → A q) : ∀ (ls : Array Slot) (H : Heap) (locs : List Loc) (mo : Mo), p_Mo_ask_21 x1 x2 Q mo → lv_has ls 3 [(0, .ref (ad 0))] → gIn D A s (wM ad cA) mo H locs → W p l e rm_Mo_ask s m args below meth c H locs 0 0 (qI D (tyA cA) A (wM ad cA) (fun u : Mo => u) (fun (r : Int32) (u : Mo) => Q r u) below args s) (F0 m 21 ls [.ref (ad 0)]) := by
  intro ls H locs mo h hl I
  refine lv_iconst (v := (1 : Int32)) S.1 S.2.1 d_Mo_ask_21 rfl ?_
  exact n_Mo_ask_22 S hr hlk hK hA _ _ _ _ _ h (lv_sub hl [0] rfl) I
set_option maxHeartbeats 4000000 in
set_option maxRecDepth 100000 in
theorem c_Mo_ask (l : Launch) (D : va_G) (ad : Nat → Nat) (cA : ClassId × ClassId × ClassId) (mo : Mo) (x1 : Int32) (x2 : Int32) (Q : Int32 → Mo → Prop) (h : p_Mo_ask x1 x2 mo Q) : rwI l y_Mo_ask (wsOf y_Mo_ask b_Mo_ask 3 (some .boolean)) rm_Mo_ask D (tyA cA) (wM ad cA) [.ref (ad 0), .int x1, .int x2] mo (fun u : Mo => u) (fun (r : Int32) (u : Mo) => Q r u) := by
  refine rwI_of (by decide) (Nat.le_of_ble_eq_true rfl) ?_
  intro p e s m below meth c S hr hlk hK A hA I ls hl
  have hl : lv_has ls 3 [(0, .ref (ad 0)), (1, .int x1), (2, .int x2)] := hl
  refine lv_aload_n S.1 S.2.1 d_Mo_ask_0 rfl (lv_at hl 0 rfl) ?_
  refine lv_aload_n S.1 S.2.1 d_Mo_ask_1 rfl (lv_at hl 0 rfl) ?_
  refine lv_iload_n S.1 S.2.1 d_Mo_ask_2 rfl (lv_at hl 1 rfl) ?_
  refine callV_roi S (c_Mo_isTerm l D ad cA _ _ _ h) (mkV S.2.2.2.2 ml_Mo_79 k_Mo_isTerm rfl rfl ⟨Nat.le_of_ble_eq_true rfl, Nat.le_of_ble_eq_true rfl⟩) (rv_Mo hK I.1) hK I.1 hl.1 rfl rfl (Nat.le_of_ble_eq_true rfl) d_Mo_ask_3 ⟨Nat.zero_le _, Nat.zero_le _⟩ (fun r3 h => ?_)
  refine lv_if_eq (tgt := 21) S.1 S.2.1 d_Mo_ask_6 (by decide) (fun hc => ?_) (fun hc => ?_)
  · have h := h.1 hc
    exact n_Mo_ask_21 S hr hlk hK hA _ _ _ _ h (lv_sub hl [0] rfl) I
  · have h := h.2 hc
    refine lv_aload_n S.1 S.2.1 d_Mo_ask_9 rfl (lv_at hl 0 rfl) ?_
    refine lv_iload_n S.1 S.2.1 d_Mo_ask_10 rfl (lv_at hl 2 rfl) ?_
    refine callV_roi S (c_Mo_isTerm l D ad cA _ _ _ h) (mkV S.2.2.2.2 ml_Mo_79 k_Mo_isTerm rfl rfl ⟨Nat.le_of_ble_eq_true rfl, Nat.le_of_ble_eq_true rfl⟩) (rv_Mo hK I.1) hK I.1 hl.1 rfl rfl (Nat.le_of_ble_eq_true rfl) d_Mo_ask_11 ⟨Nat.zero_le _, Nat.zero_le _⟩ (fun r11 h => ?_)
    refine lv_if_eq (tgt := 21) S.1 S.2.1 d_Mo_ask_14 (by decide) (fun hc => ?_) (fun hc => ?_)
    · have h := h.1 hc
      exact n_Mo_ask_21 S hr hlk hK hA _ _ _ _ h (lv_sub hl [0] rfl) I
    · have h := h.2 hc
      refine lv_iconst (v := (0 : Int32)) S.1 S.2.1 d_Mo_ask_17 rfl ?_
      refine lv_goto (tgt := 22) S.1 S.2.1 d_Mo_ask_18 (by decide) ?_
      exact n_Mo_ask_22 S hr hlk hK hA _ _ _ _ _ h (lv_sub hl [0] rfl) I

set_option maxHeartbeats 4000000 in
set_option maxRecDepth 100000 in
theorem c_Mo_reaches (l : Launch) (D : va_G) (ad : Nat → Nat) (cA : ClassId × ClassId × ClassId) (mo : Mo) (x1 : Int32) (x2 : Int32) (Q : Int32 → Mo → Prop) (h : p_Mo_reaches x1 x2 mo Q) : rwI l y_Mo_reaches (wsOf y_Mo_reaches b_Mo_reaches 3 (some .boolean)) rm_Mo_reaches D (tyA cA) (wM ad cA) [.ref (ad 0), .int x1, .int x2] mo (fun u : Mo => u) (fun (r : Int32) (u : Mo) => Q r u) := by
  refine rwI_of (by decide) (Nat.le_of_ble_eq_true rfl) ?_
  intro p e s m below meth c S hr hlk hK A hA I ls hl
  have hl : lv_has ls 3 [(0, .ref (ad 0)), (1, .int x1), (2, .int x2)] := hl
  refine lv_aload_n S.1 S.2.1 d_Mo_reaches_0 rfl (lv_at hl 0 rfl) ?_
  refine lv_iload_n S.1 S.2.1 d_Mo_reaches_1 rfl (lv_at hl 1 rfl) ?_
  refine lv_iload_n S.1 S.2.1 d_Mo_reaches_2 rfl (lv_at hl 2 rfl) ?_
  refine callV_rwi S (c_Mo_ask l D ad cA _ _ _ _ h) (mkV S.2.2.2.2 ml_Mo_125 k_Mo_ask rfl rfl ⟨Nat.le_of_ble_eq_true rfl, Nat.le_of_ble_eq_true rfl⟩) (rv_Mo hK I.1) hK hA I hl.1 rfl rfl (Nat.le_of_ble_eq_true rfl) d_Mo_reaches_3 ⟨Nat.zero_le _, Nat.zero_le _⟩ (fun r3 mo3 H locs h I => ?_)
  refine lv_if_eq (tgt := 27) S.1 S.2.1 d_Mo_reaches_6 (by decide) (fun hc => ?_) (fun hc => ?_)
  · have h := h.1 hc
    refine lv_iconst (v := (0 : Int32)) S.1 S.2.1 d_Mo_reaches_27 rfl ?_
    exact ret_rwz S hr hlk hK (by decide) I h d_Mo_reaches_28
  · have h := h.2 hc
    refine lv_aload_n S.1 S.2.1 d_Mo_reaches_9 rfl (lv_at hl 0 rfl) ?_
    refine g_Mo_goes S hK I.1 d_Mo_reaches_10 ?_
    refine lv_bipush (v := (48 : Int32)) S.1 S.2.1 d_Mo_reaches_13 rfl ?_
    refine lv_iload_n S.1 S.2.1 d_Mo_reaches_15 rfl (lv_at hl 1 rfl) ?_
    refine lv_imul S.1 S.2.1 d_Mo_reaches_16 ?_
    refine lv_iload_n S.1 S.2.1 d_Mo_reaches_17 rfl (lv_at hl 2 rfl) ?_
    refine lv_iadd S.1 S.2.1 d_Mo_reaches_18 ?_
    obtain ⟨hin, h⟩ := h
    refine a_Mo_goes S hK I.1 hin d_Mo_reaches_19 ?_
    refine lv_if_eq (tgt := 27) S.1 S.2.1 d_Mo_reaches_20 (by decide) (fun hc => ?_) (fun hc => ?_)
    · have h := h.1 hc
      refine lv_iconst (v := (0 : Int32)) S.1 S.2.1 d_Mo_reaches_27 rfl ?_
      exact ret_rwz S hr hlk hK (by decide) I h d_Mo_reaches_28
    · have h := h.2 hc
      refine lv_iconst (v := (1 : Int32)) S.1 S.2.1 d_Mo_reaches_23 rfl ?_
      refine lv_goto (tgt := 28) S.1 S.2.1 d_Mo_reaches_24 (by decide) ?_
      exact ret_rwz S hr hlk hK (by decide) I h d_Mo_reaches_28

set_option maxHeartbeats 4000000 in
set_option maxRecDepth 100000 in
theorem n_Mo_parts_joins_77 {p : Program} {l : Launch} {e : Env} {s : State} {m : MethodId} {args : Array Value} {below : List Frame} {meth : Method} {c : Code} {D : va_G} {ad : Nat → Nat} {cA : ClassId × ClassId × ClassId} {mo : Mo} {x2 : Int32} {x3 : Int32} {Q : Int32 → Prop} (S : CallFix p m c b_Mo_parts 4 s args gtbl R_Mo) (hr : meth.sig.returnType = (some .boolean)) (hlk : meth.locks = false) (hK : gK D (tyA cA) s) (hP : va_P D classes (wM ad cA mo) s.heap) : ∀ (ls : Array Slot) , p_Mo_parts_joins_77 x2 x3 mo Q  → lv_has ls 4 [] → W p l e rm_Mo_parts_joins s m args below meth c s.heap [] 0 0 (qRI Q below args s) (F0 m 77 ls []) := by
  intro ls  h hl
  refine lv_iconst (v := (1 : Int32)) S.1 S.2.1 d_Mo_parts_77 rfl ?_
  refine lv_goto (tgt := 82) S.1 S.2.1 d_Mo_parts_78 (by decide) ?_
  exact ret_roz S hr hlk (by decide) h d_Mo_parts_82
set_option maxHeartbeats 4000000 in
set_option maxRecDepth 100000 in
theorem n_Mo_parts_joins_47 {p : Program} {l : Launch} {e : Env} {s : State} {m : MethodId} {args : Array Value} {below : List Frame} {meth : Method} {c : Code} {D : va_G} {ad : Nat → Nat} {cA : ClassId × ClassId × ClassId} {mo : Mo} {x2 : Int32} {x3 : Int32} {Q : Int32 → Prop} (S : CallFix p m c b_Mo_parts 4 s args gtbl R_Mo) (hr : meth.sig.returnType = (some .boolean)) (hlk : meth.locks = false) (hK : gK D (tyA cA) s) (hP : va_P D classes (wM ad cA mo) s.heap) : ∀ (ls : Array Slot) , p_Mo_parts_joins_47 x2 x3 mo Q  → lv_has ls 4 [(0, .ref (ad 0)), (1, .ref (ad 9)), (2, .int x2), (3, .int x3)] → W p l e rm_Mo_parts_joins s m args below meth c s.heap [] 0 0 (qRI Q below args s) (F0 m 47 ls []) := by
  intro ls  h hl
  refine lv_aload_n S.1 S.2.1 d_Mo_parts_47 rfl (lv_at hl 0 rfl) ?_
  refine g_Mo_two S hK hP d_Mo_parts_48 ?_
  refine lv_iload_n S.1 S.2.1 d_Mo_parts_51 rfl (lv_at hl 2 rfl) ?_
  obtain ⟨hin, h⟩ := h
  refine a_Mo_two S hK hP hin d_Mo_parts_52 ?_
  refine lv_if_lt (tgt := 77) S.1 S.2.1 d_Mo_parts_53 (by decide) (fun hc => ?_) (fun hc => ?_)
  · have h := h.1 hc
    exact n_Mo_parts_joins_77 S hr hlk hK hP _ h (lv_sub hl [] rfl)
  · have h := h.2 hc
    refine lv_aload_n S.1 S.2.1 d_Mo_parts_56 rfl (lv_at hl 1 rfl) ?_
    refine lv_bipush (v := (48 : Int32)) S.1 S.2.1 d_Mo_parts_57 rfl ?_
    refine lv_aload_n S.1 S.2.1 d_Mo_parts_59 rfl (lv_at hl 0 rfl) ?_
    refine g_Mo_two S hK hP d_Mo_parts_60 ?_
    refine lv_iload_n S.1 S.2.1 d_Mo_parts_63 rfl (lv_at hl 2 rfl) ?_
    obtain ⟨hin, h⟩ := h
    refine a_Mo_two S hK hP hin d_Mo_parts_64 ?_
    refine lv_imul S.1 S.2.1 d_Mo_parts_65 ?_
    refine lv_aload_n S.1 S.2.1 d_Mo_parts_66 rfl (lv_at hl 0 rfl) ?_
    refine g_Mo_two S hK hP d_Mo_parts_67 ?_
    refine lv_iload_n S.1 S.2.1 d_Mo_parts_70 rfl (lv_at hl 3 rfl) ?_
    obtain ⟨hin, h⟩ := h
    refine a_Mo_two S hK hP hin d_Mo_parts_71 ?_
    refine lv_iadd S.1 S.2.1 d_Mo_parts_72 ?_
    obtain ⟨hin, h⟩ := h
    refine a_Mo_joins S hK hP hin d_Mo_parts_73 ?_
    refine lv_if_eq (tgt := 81) S.1 S.2.1 d_Mo_parts_74 (by decide) (fun hc => ?_) (fun hc => ?_)
    · have h := h.1 hc
      refine lv_iconst (v := (0 : Int32)) S.1 S.2.1 d_Mo_parts_81 rfl ?_
      exact ret_roz S hr hlk (by decide) h d_Mo_parts_82
    · have h := h.2 hc
      exact n_Mo_parts_joins_77 S hr hlk hK hP _ h (lv_sub hl [] rfl)
set_option maxHeartbeats 4000000 in
set_option maxRecDepth 100000 in
theorem c_Mo_parts_joins (l : Launch) (D : va_G) (ad : Nat → Nat) (cA : ClassId × ClassId × ClassId) (mo : Mo) (x2 : Int32) (x3 : Int32) (Q : Int32 → Prop) (h : p_Mo_parts_joins x2 x3 mo Q) : roI l y_Mo_parts (wsOf y_Mo_parts b_Mo_parts 4 (some .boolean)) rm_Mo_parts_joins D (tyA cA) (wM ad cA) [.ref (ad 0), .ref (ad 9), .int x2, .int x3] mo Q := by
  refine roI_of (by decide) (Nat.le_of_ble_eq_true rfl) ?_
  intro p e s m below meth c S hr hlk hK hP ls hl
  have hl : lv_has ls 4 [(0, .ref (ad 0)), (1, .ref (ad 9)), (2, .int x2), (3, .int x3)] := hl
  refine lv_aload_n S.1 S.2.1 d_Mo_parts_0 rfl (lv_at hl 0 rfl) ?_
  refine g_Mo_symbol S hK hP d_Mo_parts_1 ?_
  refine lv_iload_n S.1 S.2.1 d_Mo_parts_4 rfl (lv_at hl 2 rfl) ?_
  obtain ⟨hin, h⟩ := h
  refine a_Mo_symbol S hK hP hin d_Mo_parts_5 ?_
  refine lv_aload_n S.1 S.2.1 d_Mo_parts_6 rfl (lv_at hl 0 rfl) ?_
  refine g_Mo_symbol S hK hP d_Mo_parts_7 ?_
  refine lv_iload_n S.1 S.2.1 d_Mo_parts_10 rfl (lv_at hl 3 rfl) ?_
  obtain ⟨hin, h⟩ := h
  refine a_Mo_symbol S hK hP hin d_Mo_parts_11 ?_
  refine lv_icmp_eq (tgt := 17) S.1 S.2.1 d_Mo_parts_12 (by decide) (fun hc => ?_) (fun hc => ?_)
  · have h := h.1 hc
    refine lv_aload_n S.1 S.2.1 d_Mo_parts_17 rfl (lv_at hl 0 rfl) ?_
    refine g_Mo_one S hK hP d_Mo_parts_18 ?_
    refine lv_iload_n S.1 S.2.1 d_Mo_parts_21 rfl (lv_at hl 2 rfl) ?_
    obtain ⟨hin, h⟩ := h
    refine a_Mo_one S hK hP hin d_Mo_parts_22 ?_
    refine lv_if_lt (tgt := 47) S.1 S.2.1 d_Mo_parts_23 (by decide) (fun hc => ?_) (fun hc => ?_)
    · have h := h.1 hc
      exact n_Mo_parts_joins_47 S hr hlk hK hP _ h (lv_sub hl [0, 1, 2, 3] rfl)
    · have h := h.2 hc
      refine lv_aload_n S.1 S.2.1 d_Mo_parts_26 rfl (lv_at hl 1 rfl) ?_
      refine lv_bipush (v := (48 : Int32)) S.1 S.2.1 d_Mo_parts_27 rfl ?_
      refine lv_aload_n S.1 S.2.1 d_Mo_parts_29 rfl (lv_at hl 0 rfl) ?_
      refine g_Mo_one S hK hP d_Mo_parts_30 ?_
      refine lv_iload_n S.1 S.2.1 d_Mo_parts_33 rfl (lv_at hl 2 rfl) ?_
      obtain ⟨hin, h⟩ := h
      refine a_Mo_one S hK hP hin d_Mo_parts_34 ?_
      refine lv_imul S.1 S.2.1 d_Mo_parts_35 ?_
      refine lv_aload_n S.1 S.2.1 d_Mo_parts_36 rfl (lv_at hl 0 rfl) ?_
      refine g_Mo_one S hK hP d_Mo_parts_37 ?_
      refine lv_iload_n S.1 S.2.1 d_Mo_parts_40 rfl (lv_at hl 3 rfl) ?_
      obtain ⟨hin, h⟩ := h
      refine a_Mo_one S hK hP hin d_Mo_parts_41 ?_
      refine lv_iadd S.1 S.2.1 d_Mo_parts_42 ?_
      obtain ⟨hin, h⟩ := h
      refine a_Mo_joins S hK hP hin d_Mo_parts_43 ?_
      refine lv_if_eq (tgt := 81) S.1 S.2.1 d_Mo_parts_44 (by decide) (fun hc => ?_) (fun hc => ?_)
      · have h := h.1 hc
        refine lv_iconst (v := (0 : Int32)) S.1 S.2.1 d_Mo_parts_81 rfl ?_
        exact ret_roz S hr hlk (by decide) h d_Mo_parts_82
      · have h := h.2 hc
        exact n_Mo_parts_joins_47 S hr hlk hK hP _ h (lv_sub hl [0, 1, 2, 3] rfl)
  · have h := h.2 hc
    refine lv_iconst (v := (0 : Int32)) S.1 S.2.1 d_Mo_parts_15 rfl ?_
    exact ret_roz S hr hlk (by decide) h d_Mo_parts_16

set_option maxHeartbeats 4000000 in
set_option maxRecDepth 100000 in
theorem n_Mo_byRule_joins_57 {p : Program} {l : Launch} {e : Env} {s : State} {m : MethodId} {args : Array Value} {below : List Frame} {meth : Method} {c : Code} {D : va_G} {ad : Nat → Nat} {cA : ClassId × ClassId × ClassId} {mo : Mo} {x2 : Int32} {x3 : Int32} {Q : Int32 → Prop} (S : CallFix p m c b_Mo_byRule 6 s args gtbl R_Mo) (hr : meth.sig.returnType = (some .boolean)) (hlk : meth.locks = false) (hK : gK D (tyA cA) s) (hP : va_P D classes (wM ad cA mo) s.heap) {k6 : Int32 → Int32 → Prop} (hk6 : ∀ (ls : Array Slot) (x4 : Int32) (x5 : Int32), k6 x4 x5 → lv_has ls 6 [(0, .ref (ad 0)), (1, .ref (ad 9)), (2, .int x2), (3, .int x3), (4, .int x4), (5, .int x5)] → W p l e rm_Mo_byRule_joins s m args below meth c s.heap [] 0 0 (qRI Q below args s) (F0 m 6 ls [])) : ∀ (ls : Array Slot) (x5 : Int32), p_Mo_byRule_joins_57 x2 x3 mo Q k6 x5 → lv_has ls 6 [(0, .ref (ad 0)), (1, .ref (ad 9)), (2, .int x2), (3, .int x3), (5, .int x5)] → W p l e rm_Mo_byRule_joins s m args below meth c s.heap [] 0 0 (qRI Q below args s) (F0 m 57 ls []) := by
  intro ls x5 h hl
  refine lv_iconst (v := (1 : Int32)) S.1 S.2.1 d_Mo_byRule_57 rfl ?_
  refine lv_goto (tgt := 62) S.1 S.2.1 d_Mo_byRule_58 (by decide) ?_
  refine lv_istore (lv' := [(4, .int (1 : Int32)), (0, .ref (ad 0)), (1, .ref (ad 9)), (2, .int x2), (3, .int x3), (5, .int x5)]) S.1 S.2.1 d_Mo_byRule_62 hl (by decide) rfl (fun ls hl => ?_)
  refine lv_iinc (k := 5) (v := x5 + (1 : Int32)) (lv' := [(5, .int (x5 + (1 : Int32))), (4, .int (1 : Int32)), (0, .ref (ad 0)), (1, .ref (ad 9)), (2, .int x2), (3, .int x3)]) S.1 S.2.1 d_Mo_byRule_64 hl rfl rfl (by decide) rfl (fun ls hl => ?_)
  refine lv_goto (tgt := 6) S.1 S.2.1 d_Mo_byRule_67 (by decide) ?_
  exact hk6 _ _ _ h (lv_sub hl [2, 3, 4, 5, 1, 0] rfl)
set_option maxHeartbeats 4000000 in
set_option maxRecDepth 100000 in
theorem n_Mo_byRule_joins_6 {p : Program} {l : Launch} {e : Env} {s : State} {m : MethodId} {args : Array Value} {below : List Frame} {meth : Method} {c : Code} {D : va_G} {ad : Nat → Nat} {cA : ClassId × ClassId × ClassId} {mo : Mo} {x2 : Int32} {x3 : Int32} {Q : Int32 → Prop} (S : CallFix p m c b_Mo_byRule 6 s args gtbl R_Mo) (hr : meth.sig.returnType = (some .boolean)) (hlk : meth.locks = false) (hK : gK D (tyA cA) s) (hP : va_P D classes (wM ad cA mo) s.heap) : ∀ n : Nat, ∀ (ls : Array Slot) (x4 : Int32) (x5 : Int32), p_Mo_byRule_joins_6 x2 x3 mo Q n x4 x5 → lv_has ls 6 [(0, .ref (ad 0)), (1, .ref (ad 9)), (2, .int x2), (3, .int x3), (4, .int x4), (5, .int x5)] → W p l e rm_Mo_byRule_joins s m args below meth c s.heap [] 0 0 (qRI Q below args s) (F0 m 6 ls []) := by
  intro n
  induction n with
  | zero =>
    intro ls x4 x5 h
    exact (show False from h).elim
  | succ n ih =>
    intro ls x4 x5 h hl
    refine lv_iload S.1 S.2.1 d_Mo_byRule_6 (lv_at hl 5 rfl) ?_
    refine lv_aload_n S.1 S.2.1 d_Mo_byRule_8 rfl (lv_at hl 0 rfl) ?_
    refine g_Mo_rules S hK hP d_Mo_byRule_9 ?_
    refine lv_icmp_ge (tgt := 70) S.1 S.2.1 d_Mo_byRule_12 (by decide) (fun hc => ?_) (fun hc => ?_)
    · have h := h.1 hc
      refine lv_iload S.1 S.2.1 d_Mo_byRule_70 (lv_at hl 4 rfl) ?_
      obtain ⟨hz, h⟩ := h
      exact ret_roz S hr hlk (isB_n hz) h d_Mo_byRule_72
    · have h := h.2 hc
      refine lv_iload S.1 S.2.1 d_Mo_byRule_15 (lv_at hl 4 rfl) ?_
      refine lv_if_ne (tgt := 57) S.1 S.2.1 d_Mo_byRule_17 (by decide) (fun hc => ?_) (fun hc => ?_)
      · have h := h.1 hc
        exact n_Mo_byRule_joins_57 S hr hlk hK hP ih _ _ h (lv_sub hl [0, 1, 2, 3, 5] rfl)
      · have h := h.2 hc
        refine lv_aload_n S.1 S.2.1 d_Mo_byRule_20 rfl (lv_at hl 0 rfl) ?_
        refine g_Mo_goes S hK hP d_Mo_byRule_21 ?_
        refine lv_bipush (v := (48 : Int32)) S.1 S.2.1 d_Mo_byRule_24 rfl ?_
        refine lv_iload_n S.1 S.2.1 d_Mo_byRule_26 rfl (lv_at hl 2 rfl) ?_
        refine lv_imul S.1 S.2.1 d_Mo_byRule_27 ?_
        refine lv_aload_n S.1 S.2.1 d_Mo_byRule_28 rfl (lv_at hl 0 rfl) ?_
        refine g_Mo_left S hK hP d_Mo_byRule_29 ?_
        refine lv_iload S.1 S.2.1 d_Mo_byRule_32 (lv_at hl 5 rfl) ?_
        obtain ⟨hin, h⟩ := h
        refine a_Mo_left S hK hP hin d_Mo_byRule_34 ?_
        refine lv_iadd S.1 S.2.1 d_Mo_byRule_35 ?_
        obtain ⟨hin, h⟩ := h
        refine a_Mo_goes S hK hP hin d_Mo_byRule_36 ?_
        refine lv_if_eq (tgt := 61) S.1 S.2.1 d_Mo_byRule_37 (by decide) (fun hc => ?_) (fun hc => ?_)
        · have h := h.1 hc
          refine lv_iconst (v := (0 : Int32)) S.1 S.2.1 d_Mo_byRule_61 rfl ?_
          refine lv_istore (lv' := [(4, .int (0 : Int32)), (0, .ref (ad 0)), (1, .ref (ad 9)), (2, .int x2), (3, .int x3), (5, .int x5)]) S.1 S.2.1 d_Mo_byRule_62 hl (by decide) rfl (fun ls hl => ?_)
          refine lv_iinc (k := 5) (v := x5 + (1 : Int32)) (lv' := [(5, .int (x5 + (1 : Int32))), (4, .int (0 : Int32)), (0, .ref (ad 0)), (1, .ref (ad 9)), (2, .int x2), (3, .int x3)]) S.1 S.2.1 d_Mo_byRule_64 hl rfl rfl (by decide) rfl (fun ls hl => ?_)
          refine lv_goto (tgt := 6) S.1 S.2.1 d_Mo_byRule_67 (by decide) ?_
          exact ih _ _ _ h (lv_sub hl [2, 3, 4, 5, 1, 0] rfl)
        · have h := h.2 hc
          refine lv_aload_n S.1 S.2.1 d_Mo_byRule_40 rfl (lv_at hl 1 rfl) ?_
          refine lv_bipush (v := (48 : Int32)) S.1 S.2.1 d_Mo_byRule_41 rfl ?_
          refine lv_aload_n S.1 S.2.1 d_Mo_byRule_43 rfl (lv_at hl 0 rfl) ?_
          refine g_Mo_right S hK hP d_Mo_byRule_44 ?_
          refine lv_iload S.1 S.2.1 d_Mo_byRule_47 (lv_at hl 5 rfl) ?_
          obtain ⟨hin, h⟩ := h
          refine a_Mo_right S hK hP hin d_Mo_byRule_49 ?_
          refine lv_imul S.1 S.2.1 d_Mo_byRule_50 ?_
          refine lv_iload_n S.1 S.2.1 d_Mo_byRule_51 rfl (lv_at hl 3 rfl) ?_
          refine lv_iadd S.1 S.2.1 d_Mo_byRule_52 ?_
          obtain ⟨hin, h⟩ := h
          refine a_Mo_joins S hK hP hin d_Mo_byRule_53 ?_
          refine lv_if_eq (tgt := 61) S.1 S.2.1 d_Mo_byRule_54 (by decide) (fun hc => ?_) (fun hc => ?_)
          · have h := h.1 hc
            refine lv_iconst (v := (0 : Int32)) S.1 S.2.1 d_Mo_byRule_61 rfl ?_
            refine lv_istore (lv' := [(4, .int (0 : Int32)), (0, .ref (ad 0)), (1, .ref (ad 9)), (2, .int x2), (3, .int x3), (5, .int x5)]) S.1 S.2.1 d_Mo_byRule_62 hl (by decide) rfl (fun ls hl => ?_)
            refine lv_iinc (k := 5) (v := x5 + (1 : Int32)) (lv' := [(5, .int (x5 + (1 : Int32))), (4, .int (0 : Int32)), (0, .ref (ad 0)), (1, .ref (ad 9)), (2, .int x2), (3, .int x3)]) S.1 S.2.1 d_Mo_byRule_64 hl rfl rfl (by decide) rfl (fun ls hl => ?_)
            refine lv_goto (tgt := 6) S.1 S.2.1 d_Mo_byRule_67 (by decide) ?_
            exact ih _ _ _ h (lv_sub hl [2, 3, 4, 5, 1, 0] rfl)
          · have h := h.2 hc
            exact n_Mo_byRule_joins_57 S hr hlk hK hP ih _ _ h (lv_sub hl [0, 1, 2, 3, 5] rfl)
set_option maxHeartbeats 4000000 in
set_option maxRecDepth 100000 in
theorem c_Mo_byRule_joins (l : Launch) (D : va_G) (ad : Nat → Nat) (cA : ClassId × ClassId × ClassId) (mo : Mo) (x2 : Int32) (x3 : Int32) (Q : Int32 → Prop) (h : p_Mo_byRule_joins x2 x3 mo Q) : roI l y_Mo_byRule (wsOf y_Mo_byRule b_Mo_byRule 6 (some .boolean)) rm_Mo_byRule_joins D (tyA cA) (wM ad cA) [.ref (ad 0), .ref (ad 9), .int x2, .int x3] mo Q := by
  refine roI_of (by decide) (Nat.le_of_ble_eq_true rfl) ?_
  intro p e s m below meth c S hr hlk hK hP ls hl
  have hl : lv_has ls 6 [(0, .ref (ad 0)), (1, .ref (ad 9)), (2, .int x2), (3, .int x3)] := hl
  refine lv_iconst (v := (0 : Int32)) S.1 S.2.1 d_Mo_byRule_0 rfl ?_
  refine lv_istore (lv' := [(4, .int (0 : Int32)), (0, .ref (ad 0)), (1, .ref (ad 9)), (2, .int x2), (3, .int x3)]) S.1 S.2.1 d_Mo_byRule_1 hl (by decide) rfl (fun ls hl => ?_)
  refine lv_iconst (v := (0 : Int32)) S.1 S.2.1 d_Mo_byRule_3 rfl ?_
  refine lv_istore (lv' := [(5, .int (0 : Int32)), (4, .int (0 : Int32)), (0, .ref (ad 0)), (1, .ref (ad 9)), (2, .int x2), (3, .int x3)]) S.1 S.2.1 d_Mo_byRule_4 hl (by decide) rfl (fun ls hl => ?_)
  obtain ⟨n', h⟩ := h
  exact n_Mo_byRule_joins_6 S hr hlk hK hP n' _ _ _ h (lv_sub hl [2, 3, 4, 5, 1, 0] rfl)

set_option maxHeartbeats 4000000 in
set_option maxRecDepth 100000 in
theorem n_Mo_meet_121 {p : Program} {l : Launch} {e : Env} {s : State} {m : MethodId} {args : Array Value} {below : List Frame} {meth : Method} {c : Code} {D : va_G} {A : Nat → Prop} {ad : Nat → Nat} {cA : ClassId × ClassId × ClassId}  {x1 : Int32} {x2 : Int32} {Q : Int32 → Mo → Prop} (S : CallFix p m c b_Mo_meet 7 s args gtbl R_Mo) (hr : meth.sig.returnType = (some .boolean)) (hlk : meth.locks = false) (hK : gK D (tyA cA) s) (hA : ∀ q : Nat, s.heap.size ≤ q → A q) {k40 : Int32 → Mo → Prop} (hk40 : ∀ (ls : Array Slot) (H : Heap) (locs : List Loc) (x3 : Int32) (mo : Mo), k40 x3 mo → lv_has ls 7 [(0, .ref (ad 0)), (1, .int x1), (2, .int x2), (3, .int x3)] → gIn D A s (wM ad cA) mo H locs → W p l e rm_Mo_meet s m args below meth c H locs 0 0 (qI D (tyA cA) A (wM ad cA) (fun u : Mo => u) (fun (r : Int32) (u : Mo) => Q r u) below args s) (F0 m 40 ls [])) {k49 : Int32 → Int32 → Mo → Prop} (hk49 : ∀ (ls : Array Slot) (H : Heap) (locs : List Loc) (x3 : Int32) (x4 : Int32) (mo : Mo), k49 x3 x4 mo → lv_has ls 7 [(0, .ref (ad 0)), (1, .int x1), (2, .int x2), (3, .int x3), (4, .int x4)] → gIn D A s (wM ad cA) mo H locs → W p l e rm_Mo_meet s m args below meth c H locs 0 0 (qI D (tyA cA) A (wM ad cA) (fun u : Mo => u) (fun (r : Int32) (u : Mo) => Q r u) below args s) (F0 m 49 ls [])) {k61 : Int32 → Int32 → Int32 → Mo → Prop} (hk61 : ∀ (ls : Array Slot) (H : Heap) (locs : List Loc) (x3 : Int32) (x4 : Int32) (x5 : Int32) (mo : Mo), k61 x3 x4 x5 mo → lv_has ls 7 [(0, .ref (ad 0)), (1, .int x1), (2, .int x2), (3, .int x3), (4, .int x4), (5, .int x5)] → gIn D A s (wM ad cA) mo H locs → W p l e rm_Mo_meet s m args below meth c H locs 0 0 (qI D (tyA cA) A (wM ad cA) (fun u : Mo => u) (fun (r : Int32) (u : Mo) => Q r u) below args s) (F0 m 61 ls [])) : ∀ (ls : Array Slot) (H : Heap) (locs : List Loc) (x3 : Int32) (x4 : Int32) (x5 : Int32) (y0 : Int32) (mo : Mo), p_Mo_meet_121 x1 x2 Q k40 k49 k61 x3 x4 x5 y0 mo → lv_has ls 7 [(0, .ref (ad 0)), (1, .int x1), (2, .int x2), (3, .int x3), (4, .int x4), (5, .int x5)] → gIn D A s (wM ad cA) mo H locs → W p l e rm_Mo_meet s m args below meth c H locs 0 0 (qI D (tyA cA) A (wM ad cA) (fun u : Mo => u) (fun (r : Int32) (u : Mo) => Q r u) below args s) (F0 m 121 ls [.int y0]) := by
  intro ls H locs x3 x4 x5 y0 mo h hl I
  refine lv_istore (lv' := [(6, .int y0), (0, .ref (ad 0)), (1, .int x1), (2, .int x2), (3, .int x3), (4, .int x4), (5, .int x5)]) S.1 S.2.1 d_Mo_meet_121 hl (by decide) rfl (fun ls hl => ?_)
  refine lv_aload_n S.1 S.2.1 d_Mo_meet_123 rfl (lv_at hl 1 rfl) ?_
  refine g_Mo_joins S hK I.1 d_Mo_meet_124 ?_
  refine lv_bipush (v := (48 : Int32)) S.1 S.2.1 d_Mo_meet_127 rfl ?_
  refine lv_iload S.1 S.2.1 d_Mo_meet_129 (lv_at hl 5 rfl) ?_
  refine lv_imul S.1 S.2.1 d_Mo_meet_131 ?_
  refine lv_iload S.1 S.2.1 d_Mo_meet_132 (lv_at hl 6 rfl) ?_
  refine lv_iadd S.1 S.2.1 d_Mo_meet_134 ?_
  obtain ⟨hin, h⟩ := h
  refine a_Mo_joins S hK I.1 hin d_Mo_meet_135 ?_
  refine lv_if_ne (tgt := 160) S.1 S.2.1 d_Mo_meet_136 (by decide) (fun hc => ?_) (fun hc => ?_)
  · have h := h.1 hc
    refine lv_iinc (k := 6) (v := x5 + (1 : Int32)) (lv' := [(5, .int (x5 + (1 : Int32))), (6, .int y0), (0, .ref (ad 0)), (1, .int x1), (2, .int x2), (3, .int x3), (4, .int x4)]) S.1 S.2.1 d_Mo_meet_160 hl rfl rfl (by decide) rfl (fun ls hl => ?_)
    refine lv_goto (tgt := 61) S.1 S.2.1 d_Mo_meet_163 (by decide) ?_
    exact hk61 _ _ _ _ _ _ _ h (lv_sub hl [2, 3, 4, 5, 6, 0] rfl) I
  · have h := h.2 hc
    refine lv_iload S.1 S.2.1 d_Mo_meet_139 (lv_at hl 0 rfl) ?_
    refine lv_if_eq (tgt := 160) S.1 S.2.1 d_Mo_meet_141 (by decide) (fun hc => ?_) (fun hc => ?_)
    · have h := h.1 hc
      refine lv_iinc (k := 6) (v := x5 + (1 : Int32)) (lv' := [(5, .int (x5 + (1 : Int32))), (6, .int y0), (0, .ref (ad 0)), (1, .int x1), (2, .int x2), (3, .int x3), (4, .int x4)]) S.1 S.2.1 d_Mo_meet_160 hl rfl rfl (by decide) rfl (fun ls hl => ?_)
      refine lv_goto (tgt := 61) S.1 S.2.1 d_Mo_meet_163 (by decide) ?_
      exact hk61 _ _ _ _ _ _ _ h (lv_sub hl [2, 3, 4, 5, 6, 0] rfl) I
    · have h := h.2 hc
      refine lv_aload_n S.1 S.2.1 d_Mo_meet_144 rfl (lv_at hl 1 rfl) ?_
      refine g_Mo_joins S hK I.1 d_Mo_meet_145 ?_
      refine lv_bipush (v := (48 : Int32)) S.1 S.2.1 d_Mo_meet_148 rfl ?_
      refine lv_iload S.1 S.2.1 d_Mo_meet_150 (lv_at hl 5 rfl) ?_
      refine lv_imul S.1 S.2.1 d_Mo_meet_152 ?_
      refine lv_iload S.1 S.2.1 d_Mo_meet_153 (lv_at hl 6 rfl) ?_
      refine lv_iadd S.1 S.2.1 d_Mo_meet_155 ?_
      refine lv_iconst (v := (1 : Int32)) S.1 S.2.1 d_Mo_meet_156 rfl ?_
      obtain ⟨hin, h⟩ := h
      refine s_Mo_joins S hK I hin d_Mo_meet_157 (fun H locs mo157 emo157 I => ?_)
      have h := h mo157 emo157
      refine lv_iconst (v := (1 : Int32)) S.1 S.2.1 d_Mo_meet_158 rfl ?_
      refine lv_istore_n (lv' := [(3, .int (1 : Int32)), (6, .int y0), (0, .ref (ad 0)), (1, .int x1), (2, .int x2), (4, .int x4), (5, .int x5)]) S.1 S.2.1 d_Mo_meet_159 rfl hl (by decide) rfl (fun ls hl => ?_)
      refine lv_iinc (k := 6) (v := x5 + (1 : Int32)) (lv' := [(5, .int (x5 + (1 : Int32))), (3, .int (1 : Int32)), (6, .int y0), (0, .ref (ad 0)), (1, .int x1), (2, .int x2), (4, .int x4)]) S.1 S.2.1 d_Mo_meet_160 hl rfl rfl (by decide) rfl (fun ls hl => ?_)
      refine lv_goto (tgt := 61) S.1 S.2.1 d_Mo_meet_163 (by decide) ?_
      exact hk61 _ _ _ _ _ _ _ h (lv_sub hl [3, 4, 5, 1, 6, 0] rfl) I
set_option maxHeartbeats 4000000 in
set_option maxRecDepth 100000 in
theorem n_Mo_meet_116 {p : Program} {l : Launch} {e : Env} {s : State} {m : MethodId} {args : Array Value} {below : List Frame} {meth : Method} {c : Code} {D : va_G} {A : Nat → Prop} {ad : Nat → Nat} {cA : ClassId × ClassId × ClassId}  {x1 : Int32} {x2 : Int32} {Q : Int32 → Mo → Prop} (S : CallFix p m c b_Mo_meet 7 s args gtbl R_Mo) (hr : meth.sig.returnType = (some .boolean)) (hlk : meth.locks = false) (hK : gK D (tyA cA) s) (hA : ∀ q : Nat, s.heap.size ≤ q → A q) {k40 : Int32 → Mo → Prop} (hk40 : ∀ (ls : Array Slot) (H : Heap) (locs : List Loc) (x3 : Int32) (mo : Mo), k40 x3 mo → lv_has ls 7 [(0, .ref (ad 0)), (1, .int x1), (2, .int x2), (3, .int x3)] → gIn D A s (wM ad cA) mo H locs → W p l e rm_Mo_meet s m args below meth c H locs 0 0 (qI D (tyA cA) A (wM ad cA) (fun u : Mo => u) (fun (r : Int32) (u : Mo) => Q r u) below args s) (F0 m 40 ls [])) {k49 : Int32 → Int32 → Mo → Prop} (hk49 : ∀ (ls : Array Slot) (H : Heap) (locs : List Loc) (x3 : Int32) (x4 : Int32) (mo : Mo), k49 x3 x4 mo → lv_has ls 7 [(0, .ref (ad 0)), (1, .int x1), (2, .int x2), (3, .int x3), (4, .int x4)] → gIn D A s (wM ad cA) mo H locs → W p l e rm_Mo_meet s m args below meth c H locs 0 0 (qI D (tyA cA) A (wM ad cA) (fun u : Mo => u) (fun (r : Int32) (u : Mo) => Q r u) below args s) (F0 m 49 ls [])) {k61 : Int32 → Int32 → Int32 → Mo → Prop} (hk61 : ∀ (ls : Array Slot) (H : Heap) (locs : List Loc) (x3 : Int32) (x4 : Int32) (x5 : Int32) (mo : Mo), k61 x3 x4 x5 mo → lv_has ls 7 [(0, .ref (ad 0)), (1, .int x1), (2, .int x2), (3, .int x3), (4, .int x4), (5, .int x5)] → gIn D A s (wM ad cA) mo H locs → W p l e rm_Mo_meet s m args below meth c H locs 0 0 (qI D (tyA cA) A (wM ad cA) (fun u : Mo => u) (fun (r : Int32) (u : Mo) => Q r u) below args s) (F0 m 61 ls [])) : ∀ (ls : Array Slot) (H : Heap) (locs : List Loc) (x3 : Int32) (x4 : Int32) (x5 : Int32) (mo : Mo), p_Mo_meet_116 x1 x2 Q k40 k49 k61 x3 x4 x5 mo → lv_has ls 7 [(0, .ref (ad 0)), (1, .int x1), (2, .int x2), (3, .int x3), (4, .int x4), (5, .int x5)] → gIn D A s (wM ad cA) mo H locs → W p l e rm_Mo_meet s m args below meth c H locs 0 0 (qI D (tyA cA) A (wM ad cA) (fun u : Mo => u) (fun (r : Int32) (u : Mo) => Q r u) below args s) (F0 m 116 ls []) := by
  intro ls H locs x3 x4 x5 mo h hl I
  refine lv_iconst (v := (1 : Int32)) S.1 S.2.1 d_Mo_meet_116 rfl ?_
  refine lv_goto (tgt := 121) S.1 S.2.1 d_Mo_meet_117 (by decide) ?_
  exact n_Mo_meet_121 S hr hlk hK hA hk40 hk49 hk61 _ _ _ _ _ _ _ _ h (lv_sub hl [0, 1, 2, 3, 4, 5] rfl) I
set_option maxHeartbeats 4000000 in
set_option maxRecDepth 100000 in
theorem n_Mo_meet_61 {p : Program} {l : Launch} {e : Env} {s : State} {m : MethodId} {args : Array Value} {below : List Frame} {meth : Method} {c : Code} {D : va_G} {A : Nat → Prop} {ad : Nat → Nat} {cA : ClassId × ClassId × ClassId}  {x1 : Int32} {x2 : Int32} {Q : Int32 → Mo → Prop} (S : CallFix p m c b_Mo_meet 7 s args gtbl R_Mo) (hr : meth.sig.returnType = (some .boolean)) (hlk : meth.locks = false) (hK : gK D (tyA cA) s) (hA : ∀ q : Nat, s.heap.size ≤ q → A q) {k40 : Int32 → Mo → Prop} (hk40 : ∀ (ls : Array Slot) (H : Heap) (locs : List Loc) (x3 : Int32) (mo : Mo), k40 x3 mo → lv_has ls 7 [(0, .ref (ad 0)), (1, .int x1), (2, .int x2), (3, .int x3)] → gIn D A s (wM ad cA) mo H locs → W p l e rm_Mo_meet s m args below meth c H locs 0 0 (qI D (tyA cA) A (wM ad cA) (fun u : Mo => u) (fun (r : Int32) (u : Mo) => Q r u) below args s) (F0 m 40 ls [])) {k49 : Int32 → Int32 → Mo → Prop} (hk49 : ∀ (ls : Array Slot) (H : Heap) (locs : List Loc) (x3 : Int32) (x4 : Int32) (mo : Mo), k49 x3 x4 mo → lv_has ls 7 [(0, .ref (ad 0)), (1, .int x1), (2, .int x2), (3, .int x3), (4, .int x4)] → gIn D A s (wM ad cA) mo H locs → W p l e rm_Mo_meet s m args below meth c H locs 0 0 (qI D (tyA cA) A (wM ad cA) (fun u : Mo => u) (fun (r : Int32) (u : Mo) => Q r u) below args s) (F0 m 49 ls [])) : ∀ n : Nat, ∀ (ls : Array Slot) (H : Heap) (locs : List Loc) (x3 : Int32) (x4 : Int32) (x5 : Int32) (mo : Mo), p_Mo_meet_61 x1 x2 Q k40 k49 n x3 x4 x5 mo → lv_has ls 7 [(0, .ref (ad 0)), (1, .int x1), (2, .int x2), (3, .int x3), (4, .int x4), (5, .int x5)] → gIn D A s (wM ad cA) mo H locs → W p l e rm_Mo_meet s m args below meth c H locs 0 0 (qI D (tyA cA) A (wM ad cA) (fun u : Mo => u) (fun (r : Int32) (u : Mo) => Q r u) below args s) (F0 m 61 ls []) := by
  intro n
  induction n with
  | zero =>
    intro ls H locs x3 x4 x5 mo h
    exact (show False from h).elim
  | succ n ih =>
    intro ls H locs x3 x4 x5 mo h hl I
    refine lv_iload S.1 S.2.1 d_Mo_meet_61 (lv_at hl 5 rfl) ?_
    refine lv_aload_n S.1 S.2.1 d_Mo_meet_63 rfl (lv_at hl 0 rfl) ?_
    refine g_Mo_count S hK I.1 d_Mo_meet_64 ?_
    refine lv_icmp_ge (tgt := 166) S.1 S.2.1 d_Mo_meet_67 (by decide) (fun hc => ?_) (fun hc => ?_)
    · have h := h.1 hc
      refine lv_iinc (k := 4) (v := x4 + (1 : Int32)) (lv' := [(4, .int (x4 + (1 : Int32))), (0, .ref (ad 0)), (1, .int x1), (2, .int x2), (3, .int x3), (5, .int x5)]) S.1 S.2.1 d_Mo_meet_166 hl rfl rfl (by decide) rfl (fun ls hl => ?_)
      refine lv_goto (tgt := 49) S.1 S.2.1 d_Mo_meet_169 (by decide) ?_
      exact hk49 _ _ _ _ _ _ h (lv_sub hl [1, 2, 3, 4, 0] rfl) I
    · have h := h.2 hc
      refine lv_aload_n S.1 S.2.1 d_Mo_meet_70 rfl (lv_at hl 0 rfl) ?_
      refine g_Mo_joins S hK I.1 d_Mo_meet_71 ?_
      refine lv_bipush (v := (48 : Int32)) S.1 S.2.1 d_Mo_meet_74 rfl ?_
      refine lv_iload S.1 S.2.1 d_Mo_meet_76 (lv_at hl 5 rfl) ?_
      refine lv_imul S.1 S.2.1 d_Mo_meet_78 ?_
      refine lv_iload S.1 S.2.1 d_Mo_meet_79 (lv_at hl 4 rfl) ?_
      refine lv_iadd S.1 S.2.1 d_Mo_meet_81 ?_
      obtain ⟨hin, h⟩ := h
      refine a_Mo_joins S hK I.1 hin d_Mo_meet_82 ?_
      refine lv_if_ne (tgt := 116) S.1 S.2.1 d_Mo_meet_83 (by decide) (fun hc => ?_) (fun hc => ?_)
      · have h := h.1 hc
        exact n_Mo_meet_116 S hr hlk hK hA hk40 hk49 ih _ _ _ _ _ _ _ h (lv_sub hl [0, 1, 2, 3, 4, 5] rfl) I
      · have h := h.2 hc
        refine lv_aload_n S.1 S.2.1 d_Mo_meet_86 rfl (lv_at hl 0 rfl) ?_
        refine lv_aload_n S.1 S.2.1 d_Mo_meet_87 rfl (lv_at hl 0 rfl) ?_
        refine g_Mo_joins S hK I.1 d_Mo_meet_88 ?_
        refine lv_iload S.1 S.2.1 d_Mo_meet_91 (lv_at hl 4 rfl) ?_
        refine lv_iload S.1 S.2.1 d_Mo_meet_93 (lv_at hl 5 rfl) ?_
        refine callV_roi S (c_Mo_parts_joins l D ad cA _ _ _ _ h) (mkV S.2.2.2.2 ml_Mo_115 k_Mo_parts rfl rfl ⟨Nat.le_of_ble_eq_true rfl, Nat.le_of_ble_eq_true rfl⟩) (rv_Mo hK I.1) hK I.1 hl.1 rfl rfl (Nat.le_of_ble_eq_true rfl) d_Mo_meet_95 ⟨Nat.zero_le _, Nat.zero_le _⟩ (fun r95 h => ?_)
        refine lv_if_ne (tgt := 116) S.1 S.2.1 d_Mo_meet_98 (by decide) (fun hc => ?_) (fun hc => ?_)
        · have h := h.1 hc
          exact n_Mo_meet_116 S hr hlk hK hA hk40 hk49 ih _ _ _ _ _ _ _ h (lv_sub hl [0, 1, 2, 3, 4, 5] rfl) I
        · have h := h.2 hc
          refine lv_aload_n S.1 S.2.1 d_Mo_meet_101 rfl (lv_at hl 0 rfl) ?_
          refine lv_aload_n S.1 S.2.1 d_Mo_meet_102 rfl (lv_at hl 0 rfl) ?_
          refine g_Mo_joins S hK I.1 d_Mo_meet_103 ?_
          refine lv_iload S.1 S.2.1 d_Mo_meet_106 (lv_at hl 4 rfl) ?_
          refine lv_iload S.1 S.2.1 d_Mo_meet_108 (lv_at hl 5 rfl) ?_
          refine callV_roi S (c_Mo_byRule_joins l D ad cA _ _ _ _ h) (mkV S.2.2.2.2 ml_Mo_119 k_Mo_byRule rfl rfl ⟨Nat.le_of_ble_eq_true rfl, Nat.le_of_ble_eq_true rfl⟩) (rv_Mo hK I.1) hK I.1 hl.1 rfl rfl (Nat.le_of_ble_eq_true rfl) d_Mo_meet_110 ⟨Nat.zero_le _, Nat.zero_le _⟩ (fun r110 h => ?_)
          refine lv_if_eq (tgt := 120) S.1 S.2.1 d_Mo_meet_113 (by decide) (fun hc => ?_) (fun hc => ?_)
          · have h := h.1 hc
            refine lv_iconst (v := (0 : Int32)) S.1 S.2.1 d_Mo_meet_120 rfl ?_
            exact n_Mo_meet_121 S hr hlk hK hA hk40 hk49 ih _ _ _ _ _ _ _ _ h (lv_sub hl [0, 1, 2, 3, 4, 5] rfl) I
          · have h := h.2 hc
            exact n_Mo_meet_116 S hr hlk hK hA hk40 hk49 ih _ _ _ _ _ _ _ h (lv_sub hl [0, 1, 2, 3, 4, 5] rfl) I
set_option maxHeartbeats 4000000 in
set_option maxRecDepth 100000 in
theorem n_Mo_meet_49 {p : Program} {l : Launch} {e : Env} {s : State} {m : MethodId} {args : Array Value} {below : List Frame} {meth : Method} {c : Code} {D : va_G} {A : Nat → Prop} {ad : Nat → Nat} {cA : ClassId × ClassId × ClassId}  {x1 : Int32} {x2 : Int32} {Q : Int32 → Mo → Prop} (S : CallFix p m c b_Mo_meet 7 s args gtbl R_Mo) (hr : meth.sig.returnType = (some .boolean)) (hlk : meth.locks = false) (hK : gK D (tyA cA) s) (hA : ∀ q : Nat, s.heap.size ≤ q → A q) {k40 : Int32 → Mo → Prop} (hk40 : ∀ (ls : Array Slot) (H : Heap) (locs : List Loc) (x3 : Int32) (mo : Mo), k40 x3 mo → lv_has ls 7 [(0, .ref (ad 0)), (1, .int x1), (2, .int x2), (3, .int x3)] → gIn D A s (wM ad cA) mo H locs → W p l e rm_Mo_meet s m args below meth c H locs 0 0 (qI D (tyA cA) A (wM ad cA) (fun u : Mo => u) (fun (r : Int32) (u : Mo) => Q r u) below args s) (F0 m 40 ls [])) : ∀ n : Nat, ∀ (ls : Array Slot) (H : Heap) (locs : List Loc) (x3 : Int32) (x4 : Int32) (mo : Mo), p_Mo_meet_49 x1 x2 Q k40 n x3 x4 mo → lv_has ls 7 [(0, .ref (ad 0)), (1, .int x1), (2, .int x2), (3, .int x3), (4, .int x4)] → gIn D A s (wM ad cA) mo H locs → W p l e rm_Mo_meet s m args below meth c H locs 0 0 (qI D (tyA cA) A (wM ad cA) (fun u : Mo => u) (fun (r : Int32) (u : Mo) => Q r u) below args s) (F0 m 49 ls []) := by
  intro n
  induction n with
  | zero =>
    intro ls H locs x3 x4 mo h
    exact (show False from h).elim
  | succ n ih =>
    intro ls H locs x3 x4 mo h hl I
    refine lv_iload S.1 S.2.1 d_Mo_meet_49 (lv_at hl 4 rfl) ?_
    refine lv_aload_n S.1 S.2.1 d_Mo_meet_51 rfl (lv_at hl 0 rfl) ?_
    refine g_Mo_count S hK I.1 d_Mo_meet_52 ?_
    refine lv_icmp_ge (tgt := 172) S.1 S.2.1 d_Mo_meet_55 (by decide) (fun hc => ?_) (fun hc => ?_)
    · have h := h.1 hc
      refine lv_goto (tgt := 40) S.1 S.2.1 d_Mo_meet_172 (by decide) ?_
      exact hk40 _ _ _ _ _ h (lv_sub hl [0, 1, 2, 3] rfl) I
    · have h := h.2 hc
      refine lv_iconst (v := (0 : Int32)) S.1 S.2.1 d_Mo_meet_58 rfl ?_
      refine lv_istore (lv' := [(5, .int (0 : Int32)), (0, .ref (ad 0)), (1, .int x1), (2, .int x2), (3, .int x3), (4, .int x4)]) S.1 S.2.1 d_Mo_meet_59 hl (by decide) rfl (fun ls hl => ?_)
      obtain ⟨n', h⟩ := h
      exact n_Mo_meet_61 S hr hlk hK hA hk40 ih n' _ _ _ _ _ _ _ h (lv_sub hl [1, 2, 3, 4, 5, 0] rfl) I
set_option maxHeartbeats 4000000 in
set_option maxRecDepth 100000 in
theorem n_Mo_meet_40 {p : Program} {l : Launch} {e : Env} {s : State} {m : MethodId} {args : Array Value} {below : List Frame} {meth : Method} {c : Code} {D : va_G} {A : Nat → Prop} {ad : Nat → Nat} {cA : ClassId × ClassId × ClassId}  {x1 : Int32} {x2 : Int32} {Q : Int32 → Mo → Prop} (S : CallFix p m c b_Mo_meet 7 s args gtbl R_Mo) (hr : meth.sig.returnType = (some .boolean)) (hlk : meth.locks = false) (hK : gK D (tyA cA) s) (hA : ∀ q : Nat, s.heap.size ≤ q → A q) : ∀ n : Nat, ∀ (ls : Array Slot) (H : Heap) (locs : List Loc) (x3 : Int32) (mo : Mo), p_Mo_meet_40 x1 x2 Q n x3 mo → lv_has ls 7 [(0, .ref (ad 0)), (1, .int x1), (2, .int x2), (3, .int x3)] → gIn D A s (wM ad cA) mo H locs → W p l e rm_Mo_meet s m args below meth c H locs 0 0 (qI D (tyA cA) A (wM ad cA) (fun u : Mo => u) (fun (r : Int32) (u : Mo) => Q r u) below args s) (F0 m 40 ls []) := by
  intro n
  induction n with
  | zero =>
    intro ls H locs x3 mo h
    exact (show False from h).elim
  | succ n ih =>
    intro ls H locs x3 mo h hl I
    refine lv_iload_n S.1 S.2.1 d_Mo_meet_40 rfl (lv_at hl 3 rfl) ?_
    refine lv_if_eq (tgt := 175) S.1 S.2.1 d_Mo_meet_41 (by decide) (fun hc => ?_) (fun hc => ?_)
    · have h := h.1 hc
      refine lv_aload_n S.1 S.2.1 d_Mo_meet_175 rfl (lv_at hl 0 rfl) ?_
      refine g_Mo_joins S hK I.1 d_Mo_meet_176 ?_
      refine lv_bipush (v := (48 : Int32)) S.1 S.2.1 d_Mo_meet_179 rfl ?_
      refine lv_iload_n S.1 S.2.1 d_Mo_meet_181 rfl (lv_at hl 1 rfl) ?_
      refine lv_imul S.1 S.2.1 d_Mo_meet_182 ?_
      refine lv_iload_n S.1 S.2.1 d_Mo_meet_183 rfl (lv_at hl 2 rfl) ?_
      refine lv_iadd S.1 S.2.1 d_Mo_meet_184 ?_
      obtain ⟨hin, h⟩ := h
      refine a_Mo_joins S hK I.1 hin d_Mo_meet_185 ?_
      obtain ⟨hz, h⟩ := h
      exact ret_rwz S hr hlk hK (isB_n hz) I h d_Mo_meet_186
    · have h := h.2 hc
      refine lv_iconst (v := (0 : Int32)) S.1 S.2.1 d_Mo_meet_44 rfl ?_
      refine lv_istore_n (lv' := [(3, .int (0 : Int32)), (0, .ref (ad 0)), (1, .int x1), (2, .int x2)]) S.1 S.2.1 d_Mo_meet_45 rfl hl (by decide) rfl (fun ls hl => ?_)
      refine lv_iconst (v := (0 : Int32)) S.1 S.2.1 d_Mo_meet_46 rfl ?_
      refine lv_istore (lv' := [(4, .int (0 : Int32)), (3, .int (0 : Int32)), (0, .ref (ad 0)), (1, .int x1), (2, .int x2)]) S.1 S.2.1 d_Mo_meet_47 hl (by decide) rfl (fun ls hl => ?_)
      obtain ⟨n', h⟩ := h
      exact n_Mo_meet_49 S hr hlk hK hA ih n' _ _ _ _ _ _ h (lv_sub hl [2, 3, 4, 1, 0] rfl) I
set_option maxHeartbeats 4000000 in
set_option maxRecDepth 100000 in
theorem n_Mo_meet_13 {p : Program} {l : Launch} {e : Env} {s : State} {m : MethodId} {args : Array Value} {below : List Frame} {meth : Method} {c : Code} {D : va_G} {A : Nat → Prop} {ad : Nat → Nat} {cA : ClassId × ClassId × ClassId}  {x1 : Int32} {x2 : Int32} {Q : Int32 → Mo → Prop} (S : CallFix p m c b_Mo_meet 7 s args gtbl R_Mo) (hr : meth.sig.returnType = (some .boolean)) (hlk : meth.locks = false) (hK : gK D (tyA cA) s) (hA : ∀ q : Nat, s.heap.size ≤ q → A q) : ∀ n : Nat, ∀ (ls : Array Slot) (H : Heap) (locs : List Loc) (x3 : Int32) (mo : Mo), p_Mo_meet_13 x1 x2 Q n x3 mo → lv_has ls 7 [(0, .ref (ad 0)), (1, .int x1), (2, .int x2), (3, .int x3)] → gIn D A s (wM ad cA) mo H locs → W p l e rm_Mo_meet s m args below meth c H locs 0 0 (qI D (tyA cA) A (wM ad cA) (fun u : Mo => u) (fun (r : Int32) (u : Mo) => Q r u) below args s) (F0 m 13 ls []) := by
  intro n
  induction n with
  | zero =>
    intro ls H locs x3 mo h
    exact (show False from h).elim
  | succ n ih =>
    intro ls H locs x3 mo h hl I
    refine lv_iload_n S.1 S.2.1 d_Mo_meet_13 rfl (lv_at hl 3 rfl) ?_
    refine lv_sipush (v := (2304 : Int32)) S.1 S.2.1 d_Mo_meet_14 rfl ?_
    refine lv_icmp_ge (tgt := 38) S.1 S.2.1 d_Mo_meet_17 (by decide) (fun hc => ?_) (fun hc => ?_)
    · have h := h.1 hc
      refine lv_iconst (v := (1 : Int32)) S.1 S.2.1 d_Mo_meet_38 rfl ?_
      refine lv_istore_n (lv' := [(3, .int (1 : Int32)), (0, .ref (ad 0)), (1, .int x1), (2, .int x2)]) S.1 S.2.1 d_Mo_meet_39 rfl hl (by decide) rfl (fun ls hl => ?_)
      obtain ⟨n', h⟩ := h
      exact n_Mo_meet_40 S hr hlk hK hA n' _ _ _ _ _ h (lv_sub hl [1, 2, 3, 0] rfl) I
    · have h := h.2 hc
      refine lv_aload_n S.1 S.2.1 d_Mo_meet_20 rfl (lv_at hl 0 rfl) ?_
      refine g_Mo_joins S hK I.1 d_Mo_meet_21 ?_
      refine lv_iload_n S.1 S.2.1 d_Mo_meet_24 rfl (lv_at hl 3 rfl) ?_
      refine lv_aload_n S.1 S.2.1 d_Mo_meet_25 rfl (lv_at hl 0 rfl) ?_
      refine g_Mo_goes S hK I.1 d_Mo_meet_26 ?_
      refine lv_iload_n S.1 S.2.1 d_Mo_meet_29 rfl (lv_at hl 3 rfl) ?_
      obtain ⟨hin, h⟩ := h
      refine a_Mo_goes S hK I.1 hin d_Mo_meet_30 ?_
      obtain ⟨hin, h⟩ := h
      refine s_Mo_joins S hK I hin d_Mo_meet_31 (fun H locs mo31 emo31 I => ?_)
      have h := h mo31 emo31
      refine lv_iinc (k := 3) (v := x3 + (1 : Int32)) (lv' := [(3, .int (x3 + (1 : Int32))), (0, .ref (ad 0)), (1, .int x1), (2, .int x2)]) S.1 S.2.1 d_Mo_meet_32 hl rfl rfl (by decide) rfl (fun ls hl => ?_)
      refine lv_goto (tgt := 13) S.1 S.2.1 d_Mo_meet_35 (by decide) ?_
      exact ih _ _ _ _ _ h (lv_sub hl [1, 2, 3, 0] rfl) I
set_option maxHeartbeats 4000000 in
set_option maxRecDepth 100000 in
theorem c_Mo_meet (l : Launch) (D : va_G) (ad : Nat → Nat) (cA : ClassId × ClassId × ClassId) (mo : Mo) (x1 : Int32) (x2 : Int32) (Q : Int32 → Mo → Prop) (h : p_Mo_meet x1 x2 mo Q) : rwI l y_Mo_meet (wsOf y_Mo_meet b_Mo_meet 7 (some .boolean)) rm_Mo_meet D (tyA cA) (wM ad cA) [.ref (ad 0), .int x1, .int x2] mo (fun u : Mo => u) (fun (r : Int32) (u : Mo) => Q r u) := by
  refine rwI_of (by decide) (Nat.le_of_ble_eq_true rfl) ?_
  intro p e s m below meth c S hr hlk hK A hA I ls hl
  have hl : lv_has ls 7 [(0, .ref (ad 0)), (1, .int x1), (2, .int x2)] := hl
  refine lv_aload_n S.1 S.2.1 d_Mo_meet_0 rfl (lv_at hl 0 rfl) ?_
  refine lv_iload_n S.1 S.2.1 d_Mo_meet_1 rfl (lv_at hl 1 rfl) ?_
  refine lv_iload_n S.1 S.2.1 d_Mo_meet_2 rfl (lv_at hl 2 rfl) ?_
  refine callV_rwi S (c_Mo_ask l D ad cA _ _ _ _ h) (mkV S.2.2.2.2 ml_Mo_125 k_Mo_ask rfl rfl ⟨Nat.le_of_ble_eq_true rfl, Nat.le_of_ble_eq_true rfl⟩) (rv_Mo hK I.1) hK hA I hl.1 rfl rfl (Nat.le_of_ble_eq_true rfl) d_Mo_meet_3 ⟨Nat.zero_le _, Nat.zero_le _⟩ (fun r3 mo3 H locs h I => ?_)
  refine lv_if_ne (tgt := 11) S.1 S.2.1 d_Mo_meet_6 (by decide) (fun hc => ?_) (fun hc => ?_)
  · have h := h.1 hc
    refine lv_iconst (v := (0 : Int32)) S.1 S.2.1 d_Mo_meet_11 rfl ?_
    refine lv_istore_n (lv' := [(3, .int (0 : Int32)), (0, .ref (ad 0)), (1, .int x1), (2, .int x2)]) S.1 S.2.1 d_Mo_meet_12 rfl hl (by decide) rfl (fun ls hl => ?_)
    obtain ⟨n', h⟩ := h
    exact n_Mo_meet_13 S hr hlk hK hA n' _ _ _ _ _ h (lv_sub hl [1, 2, 3, 0] rfl) I
  · have h := h.2 hc
    refine lv_iconst (v := (0 : Int32)) S.1 S.2.1 d_Mo_meet_9 rfl ?_
    exact ret_rwz S hr hlk hK (by decide) I h d_Mo_meet_10

set_option maxHeartbeats 4000000 in
set_option maxRecDepth 100000 in
theorem n_Mo_byEdge_93 {p : Program} {l : Launch} {e : Env} {s : State} {m : MethodId} {args : Array Value} {below : List Frame} {meth : Method} {c : Code} {D : va_G} {ad : Nat → Nat} {cA : ClassId × ClassId × ClassId} {mo : Mo} {x1 : Int32} {x2 : Int32} {Q : Int32 → Prop} (S : CallFix p m c b_Mo_byEdge 3 s args gtbl R_Mo) (hr : meth.sig.returnType = (some .boolean)) (hlk : meth.locks = false) (hK : gK D (tyA cA) s) (hP : va_P D classes (wM ad cA mo) s.heap) : ∀ (ls : Array Slot) , p_Mo_byEdge_93 x1 x2 mo Q  → lv_has ls 3 [] → W p l e rm_Mo_byEdge s m args below meth c s.heap [] 0 0 (qRI Q below args s) (F0 m 93 ls []) := by
  intro ls  h hl
  refine lv_iconst (v := (1 : Int32)) S.1 S.2.1 d_Mo_byEdge_93 rfl ?_
  refine lv_goto (tgt := 98) S.1 S.2.1 d_Mo_byEdge_94 (by decide) ?_
  exact ret_roz S hr hlk (by decide) h d_Mo_byEdge_98
set_option maxHeartbeats 4000000 in
set_option maxRecDepth 100000 in
theorem n_Mo_byEdge_56 {p : Program} {l : Launch} {e : Env} {s : State} {m : MethodId} {args : Array Value} {below : List Frame} {meth : Method} {c : Code} {D : va_G} {ad : Nat → Nat} {cA : ClassId × ClassId × ClassId} {mo : Mo} {x1 : Int32} {x2 : Int32} {Q : Int32 → Prop} (S : CallFix p m c b_Mo_byEdge 3 s args gtbl R_Mo) (hr : meth.sig.returnType = (some .boolean)) (hlk : meth.locks = false) (hK : gK D (tyA cA) s) (hP : va_P D classes (wM ad cA mo) s.heap) : ∀ (ls : Array Slot) , p_Mo_byEdge_56 x1 x2 mo Q  → lv_has ls 3 [(0, .ref (ad 0)), (1, .int x1), (2, .int x2)] → W p l e rm_Mo_byEdge s m args below meth c s.heap [] 0 0 (qRI Q below args s) (F0 m 56 ls []) := by
  intro ls  h hl
  refine lv_aload_n S.1 S.2.1 d_Mo_byEdge_56 rfl (lv_at hl 0 rfl) ?_
  refine g_Mo_two S hK hP d_Mo_byEdge_57 ?_
  refine lv_iload_n S.1 S.2.1 d_Mo_byEdge_60 rfl (lv_at hl 1 rfl) ?_
  obtain ⟨hin, h⟩ := h
  refine a_Mo_two S hK hP hin d_Mo_byEdge_61 ?_
  refine lv_if_lt (tgt := 93) S.1 S.2.1 d_Mo_byEdge_62 (by decide) (fun hc => ?_) (fun hc => ?_)
  · have h := h.1 hc
    exact n_Mo_byEdge_93 S hr hlk hK hP _ h (lv_sub hl [] rfl)
  · have h := h.2 hc
    refine lv_aload_n S.1 S.2.1 d_Mo_byEdge_65 rfl (lv_at hl 0 rfl) ?_
    refine g_Mo_states S hK hP d_Mo_byEdge_66 ?_
    refine lv_bipush (v := (6 : Int32)) S.1 S.2.1 d_Mo_byEdge_69 rfl ?_
    refine lv_aload_n S.1 S.2.1 d_Mo_byEdge_71 rfl (lv_at hl 0 rfl) ?_
    refine g_Mo_two S hK hP d_Mo_byEdge_72 ?_
    refine lv_iload_n S.1 S.2.1 d_Mo_byEdge_75 rfl (lv_at hl 1 rfl) ?_
    obtain ⟨hin, h⟩ := h
    refine a_Mo_two S hK hP hin d_Mo_byEdge_76 ?_
    refine lv_imul S.1 S.2.1 d_Mo_byEdge_77 ?_
    refine lv_aload_n S.1 S.2.1 d_Mo_byEdge_78 rfl (lv_at hl 0 rfl) ?_
    refine g_Mo_edge S hK hP d_Mo_byEdge_79 ?_
    refine lv_iconst (v := (4 : Int32)) S.1 S.2.1 d_Mo_byEdge_82 rfl ?_
    refine lv_iload_n S.1 S.2.1 d_Mo_byEdge_83 rfl (lv_at hl 2 rfl) ?_
    refine lv_imul S.1 S.2.1 d_Mo_byEdge_84 ?_
    refine lv_iconst (v := (2 : Int32)) S.1 S.2.1 d_Mo_byEdge_85 rfl ?_
    refine lv_iadd S.1 S.2.1 d_Mo_byEdge_86 ?_
    obtain ⟨hin, h⟩ := h
    refine a_Mo_edge S hK hP hin d_Mo_byEdge_87 ?_
    refine lv_iadd S.1 S.2.1 d_Mo_byEdge_88 ?_
    obtain ⟨hin, h⟩ := h
    refine a_Mo_states S hK hP hin d_Mo_byEdge_89 ?_
    refine lv_if_eq (tgt := 97) S.1 S.2.1 d_Mo_byEdge_90 (by decide) (fun hc => ?_) (fun hc => ?_)
    · have h := h.1 hc
      refine lv_iconst (v := (0 : Int32)) S.1 S.2.1 d_Mo_byEdge_97 rfl ?_
      exact ret_roz S hr hlk (by decide) h d_Mo_byEdge_98
    · have h := h.2 hc
      exact n_Mo_byEdge_93 S hr hlk hK hP _ h (lv_sub hl [] rfl)
set_option maxHeartbeats 4000000 in
set_option maxRecDepth 100000 in
theorem c_Mo_byEdge (l : Launch) (D : va_G) (ad : Nat → Nat) (cA : ClassId × ClassId × ClassId) (mo : Mo) (x1 : Int32) (x2 : Int32) (Q : Int32 → Prop) (h : p_Mo_byEdge x1 x2 mo Q) : roI l y_Mo_byEdge (wsOf y_Mo_byEdge b_Mo_byEdge 3 (some .boolean)) rm_Mo_byEdge D (tyA cA) (wM ad cA) [.ref (ad 0), .int x1, .int x2] mo Q := by
  refine roI_of (by decide) (Nat.le_of_ble_eq_true rfl) ?_
  intro p e s m below meth c S hr hlk hK hP ls hl
  have hl : lv_has ls 3 [(0, .ref (ad 0)), (1, .int x1), (2, .int x2)] := hl
  refine lv_aload_n S.1 S.2.1 d_Mo_byEdge_0 rfl (lv_at hl 0 rfl) ?_
  refine g_Mo_edge S hK hP d_Mo_byEdge_1 ?_
  refine lv_iconst (v := (4 : Int32)) S.1 S.2.1 d_Mo_byEdge_4 rfl ?_
  refine lv_iload_n S.1 S.2.1 d_Mo_byEdge_5 rfl (lv_at hl 2 rfl) ?_
  refine lv_imul S.1 S.2.1 d_Mo_byEdge_6 ?_
  obtain ⟨hin, h⟩ := h
  refine a_Mo_edge S hK hP hin d_Mo_byEdge_7 ?_
  refine lv_aload_n S.1 S.2.1 d_Mo_byEdge_8 rfl (lv_at hl 0 rfl) ?_
  refine g_Mo_symbol S hK hP d_Mo_byEdge_9 ?_
  refine lv_iload_n S.1 S.2.1 d_Mo_byEdge_12 rfl (lv_at hl 1 rfl) ?_
  obtain ⟨hin, h⟩ := h
  refine a_Mo_symbol S hK hP hin d_Mo_byEdge_13 ?_
  refine lv_icmp_eq (tgt := 19) S.1 S.2.1 d_Mo_byEdge_14 (by decide) (fun hc => ?_) (fun hc => ?_)
  · have h := h.1 hc
    refine lv_aload_n S.1 S.2.1 d_Mo_byEdge_19 rfl (lv_at hl 0 rfl) ?_
    refine g_Mo_one S hK hP d_Mo_byEdge_20 ?_
    refine lv_iload_n S.1 S.2.1 d_Mo_byEdge_23 rfl (lv_at hl 1 rfl) ?_
    obtain ⟨hin, h⟩ := h
    refine a_Mo_one S hK hP hin d_Mo_byEdge_24 ?_
    refine lv_if_lt (tgt := 56) S.1 S.2.1 d_Mo_byEdge_25 (by decide) (fun hc => ?_) (fun hc => ?_)
    · have h := h.1 hc
      exact n_Mo_byEdge_56 S hr hlk hK hP _ h (lv_sub hl [0, 1, 2] rfl)
    · have h := h.2 hc
      refine lv_aload_n S.1 S.2.1 d_Mo_byEdge_28 rfl (lv_at hl 0 rfl) ?_
      refine g_Mo_states S hK hP d_Mo_byEdge_29 ?_
      refine lv_bipush (v := (6 : Int32)) S.1 S.2.1 d_Mo_byEdge_32 rfl ?_
      refine lv_aload_n S.1 S.2.1 d_Mo_byEdge_34 rfl (lv_at hl 0 rfl) ?_
      refine g_Mo_one S hK hP d_Mo_byEdge_35 ?_
      refine lv_iload_n S.1 S.2.1 d_Mo_byEdge_38 rfl (lv_at hl 1 rfl) ?_
      obtain ⟨hin, h⟩ := h
      refine a_Mo_one S hK hP hin d_Mo_byEdge_39 ?_
      refine lv_imul S.1 S.2.1 d_Mo_byEdge_40 ?_
      refine lv_aload_n S.1 S.2.1 d_Mo_byEdge_41 rfl (lv_at hl 0 rfl) ?_
      refine g_Mo_edge S hK hP d_Mo_byEdge_42 ?_
      refine lv_iconst (v := (4 : Int32)) S.1 S.2.1 d_Mo_byEdge_45 rfl ?_
      refine lv_iload_n S.1 S.2.1 d_Mo_byEdge_46 rfl (lv_at hl 2 rfl) ?_
      refine lv_imul S.1 S.2.1 d_Mo_byEdge_47 ?_
      refine lv_iconst (v := (1 : Int32)) S.1 S.2.1 d_Mo_byEdge_48 rfl ?_
      refine lv_iadd S.1 S.2.1 d_Mo_byEdge_49 ?_
      obtain ⟨hin, h⟩ := h
      refine a_Mo_edge S hK hP hin d_Mo_byEdge_50 ?_
      refine lv_iadd S.1 S.2.1 d_Mo_byEdge_51 ?_
      obtain ⟨hin, h⟩ := h
      refine a_Mo_states S hK hP hin d_Mo_byEdge_52 ?_
      refine lv_if_eq (tgt := 97) S.1 S.2.1 d_Mo_byEdge_53 (by decide) (fun hc => ?_) (fun hc => ?_)
      · have h := h.1 hc
        refine lv_iconst (v := (0 : Int32)) S.1 S.2.1 d_Mo_byEdge_97 rfl ?_
        exact ret_roz S hr hlk (by decide) h d_Mo_byEdge_98
      · have h := h.2 hc
        exact n_Mo_byEdge_56 S hr hlk hK hP _ h (lv_sub hl [0, 1, 2] rfl)
  · have h := h.2 hc
    refine lv_iconst (v := (0 : Int32)) S.1 S.2.1 d_Mo_byEdge_17 rfl ?_
    exact ret_roz S hr hlk (by decide) h d_Mo_byEdge_18

set_option maxHeartbeats 4000000 in
set_option maxRecDepth 100000 in
theorem n_Mo_stands_177 {p : Program} {l : Launch} {e : Env} {s : State} {m : MethodId} {args : Array Value} {below : List Frame} {meth : Method} {c : Code} {D : va_G} {ad : Nat → Nat} {cA : ClassId × ClassId × ClassId} {mo : Mo} {x1 : Int32} {x2 : Int32} {x3 : Int32} {Q : Int32 → Prop} (S : CallFix p m c b_Mo_stands 6 s args gtbl R_Mo) (hr : meth.sig.returnType = (some .boolean)) (hlk : meth.locks = false) (hK : gK D (tyA cA) s) (hP : va_P D classes (wM ad cA mo) s.heap) {k61 : Int32 → Int32 → Prop} (hk61 : ∀ (ls : Array Slot) (x4 : Int32) (x5 : Int32), k61 x4 x5 → lv_has ls 6 [(0, .ref (ad 0)), (1, .int x1), (2, .int x2), (3, .int x3), (4, .int x4), (5, .int x5)] → W p l e rm_Mo_stands s m args below meth c s.heap [] 0 0 (qRI Q below args s) (F0 m 61 ls [])) : ∀ (ls : Array Slot) (x5 : Int32), p_Mo_stands_177 x1 x2 x3 mo Q k61 x5 → lv_has ls 6 [(0, .ref (ad 0)), (1, .int x1), (2, .int x2), (3, .int x3), (5, .int x5)] → W p l e rm_Mo_stands s m args below meth c s.heap [] 0 0 (qRI Q below args s) (F0 m 177 ls []) := by
  intro ls x5 h hl
  refine lv_iconst (v := (1 : Int32)) S.1 S.2.1 d_Mo_stands_177 rfl ?_
  refine lv_goto (tgt := 182) S.1 S.2.1 d_Mo_stands_178 (by decide) ?_
  refine lv_istore (lv' := [(4, .int (1 : Int32)), (0, .ref (ad 0)), (1, .int x1), (2, .int x2), (3, .int x3), (5, .int x5)]) S.1 S.2.1 d_Mo_stands_182 hl (by decide) rfl (fun ls hl => ?_)
  refine lv_iinc (k := 5) (v := x5 + (1 : Int32)) (lv' := [(5, .int (x5 + (1 : Int32))), (4, .int (1 : Int32)), (0, .ref (ad 0)), (1, .int x1), (2, .int x2), (3, .int x3)]) S.1 S.2.1 d_Mo_stands_184 hl rfl rfl (by decide) rfl (fun ls hl => ?_)
  refine lv_goto (tgt := 61) S.1 S.2.1 d_Mo_stands_187 (by decide) ?_
  exact hk61 _ _ _ h (lv_sub hl [2, 3, 4, 5, 1, 0] rfl)
set_option maxHeartbeats 4000000 in
set_option maxRecDepth 100000 in
theorem n_Mo_stands_125 {p : Program} {l : Launch} {e : Env} {s : State} {m : MethodId} {args : Array Value} {below : List Frame} {meth : Method} {c : Code} {D : va_G} {ad : Nat → Nat} {cA : ClassId × ClassId × ClassId} {mo : Mo} {x1 : Int32} {x2 : Int32} {x3 : Int32} {Q : Int32 → Prop} (S : CallFix p m c b_Mo_stands 6 s args gtbl R_Mo) (hr : meth.sig.returnType = (some .boolean)) (hlk : meth.locks = false) (hK : gK D (tyA cA) s) (hP : va_P D classes (wM ad cA mo) s.heap) {k61 : Int32 → Int32 → Prop} (hk61 : ∀ (ls : Array Slot) (x4 : Int32) (x5 : Int32), k61 x4 x5 → lv_has ls 6 [(0, .ref (ad 0)), (1, .int x1), (2, .int x2), (3, .int x3), (4, .int x4), (5, .int x5)] → W p l e rm_Mo_stands s m args below meth c s.heap [] 0 0 (qRI Q below args s) (F0 m 61 ls [])) : ∀ (ls : Array Slot) (x5 : Int32) (y0 : Int32), p_Mo_stands_125 x1 x2 x3 mo Q k61 x5 y0 → lv_has ls 6 [(0, .ref (ad 0)), (1, .int x1), (2, .int x2), (3, .int x3), (5, .int x5)] → W p l e rm_Mo_stands s m args below meth c s.heap [] 0 0 (qRI Q below args s) (F0 m 125 ls [.int y0]) := by
  intro ls x5 y0 h hl
  refine lv_istore (lv' := [(4, .int y0), (0, .ref (ad 0)), (1, .int x1), (2, .int x2), (3, .int x3), (5, .int x5)]) S.1 S.2.1 d_Mo_stands_125 hl (by decide) rfl (fun ls hl => ?_)
  refine lv_iload S.1 S.2.1 d_Mo_stands_127 (lv_at hl 0 rfl) ?_
  refine lv_if_ne (tgt := 177) S.1 S.2.1 d_Mo_stands_129 (by decide) (fun hc => ?_) (fun hc => ?_)
  · have h := h.1 hc
    exact n_Mo_stands_177 S hr hlk hK hP hk61 _ _ h (lv_sub hl [1, 2, 3, 4, 5] rfl)
  · have h := h.2 hc
    refine lv_iload_n S.1 S.2.1 d_Mo_stands_132 rfl (lv_at hl 4 rfl) ?_
    refine lv_iconst (v := (2 : Int32)) S.1 S.2.1 d_Mo_stands_133 rfl ?_
    refine lv_icmp_ne (tgt := 181) S.1 S.2.1 d_Mo_stands_134 (by decide) (fun hc => ?_) (fun hc => ?_)
    · have h := h.1 hc
      refine lv_iconst (v := (0 : Int32)) S.1 S.2.1 d_Mo_stands_181 rfl ?_
      refine lv_istore (lv' := [(4, .int (0 : Int32)), (0, .ref (ad 0)), (1, .int x1), (2, .int x2), (3, .int x3), (5, .int x5)]) S.1 S.2.1 d_Mo_stands_182 hl (by decide) rfl (fun ls hl => ?_)
      refine lv_iinc (k := 5) (v := x5 + (1 : Int32)) (lv' := [(5, .int (x5 + (1 : Int32))), (4, .int (0 : Int32)), (0, .ref (ad 0)), (1, .int x1), (2, .int x2), (3, .int x3)]) S.1 S.2.1 d_Mo_stands_184 hl rfl rfl (by decide) rfl (fun ls hl => ?_)
      refine lv_goto (tgt := 61) S.1 S.2.1 d_Mo_stands_187 (by decide) ?_
      exact hk61 _ _ _ h (lv_sub hl [2, 3, 4, 5, 1, 0] rfl)
    · have h := h.2 hc
      refine lv_aload_n S.1 S.2.1 d_Mo_stands_137 rfl (lv_at hl 1 rfl) ?_
      refine g_Mo_goes S hK hP d_Mo_stands_138 ?_
      refine lv_bipush (v := (48 : Int32)) S.1 S.2.1 d_Mo_stands_141 rfl ?_
      refine lv_iload_n S.1 S.2.1 d_Mo_stands_143 rfl (lv_at hl 2 rfl) ?_
      refine lv_imul S.1 S.2.1 d_Mo_stands_144 ?_
      refine lv_aload_n S.1 S.2.1 d_Mo_stands_145 rfl (lv_at hl 1 rfl) ?_
      refine g_Mo_left S hK hP d_Mo_stands_146 ?_
      refine lv_iload S.1 S.2.1 d_Mo_stands_149 (lv_at hl 5 rfl) ?_
      obtain ⟨hin, h⟩ := h
      refine a_Mo_left S hK hP hin d_Mo_stands_151 ?_
      refine lv_iadd S.1 S.2.1 d_Mo_stands_152 ?_
      obtain ⟨hin, h⟩ := h
      refine a_Mo_goes S hK hP hin d_Mo_stands_153 ?_
      refine lv_if_eq (tgt := 181) S.1 S.2.1 d_Mo_stands_154 (by decide) (fun hc => ?_) (fun hc => ?_)
      · have h := h.1 hc
        refine lv_iconst (v := (0 : Int32)) S.1 S.2.1 d_Mo_stands_181 rfl ?_
        refine lv_istore (lv' := [(4, .int (0 : Int32)), (0, .ref (ad 0)), (1, .int x1), (2, .int x2), (3, .int x3), (5, .int x5)]) S.1 S.2.1 d_Mo_stands_182 hl (by decide) rfl (fun ls hl => ?_)
        refine lv_iinc (k := 5) (v := x5 + (1 : Int32)) (lv' := [(5, .int (x5 + (1 : Int32))), (4, .int (0 : Int32)), (0, .ref (ad 0)), (1, .int x1), (2, .int x2), (3, .int x3)]) S.1 S.2.1 d_Mo_stands_184 hl rfl rfl (by decide) rfl (fun ls hl => ?_)
        refine lv_goto (tgt := 61) S.1 S.2.1 d_Mo_stands_187 (by decide) ?_
        exact hk61 _ _ _ h (lv_sub hl [2, 3, 4, 5, 1, 0] rfl)
      · have h := h.2 hc
        refine lv_aload_n S.1 S.2.1 d_Mo_stands_157 rfl (lv_at hl 1 rfl) ?_
        refine g_Mo_states S hK hP d_Mo_stands_158 ?_
        refine lv_bipush (v := (6 : Int32)) S.1 S.2.1 d_Mo_stands_161 rfl ?_
        refine lv_aload_n S.1 S.2.1 d_Mo_stands_163 rfl (lv_at hl 1 rfl) ?_
        refine g_Mo_right S hK hP d_Mo_stands_164 ?_
        refine lv_iload S.1 S.2.1 d_Mo_stands_167 (lv_at hl 5 rfl) ?_
        obtain ⟨hin, h⟩ := h
        refine a_Mo_right S hK hP hin d_Mo_stands_169 ?_
        refine lv_imul S.1 S.2.1 d_Mo_stands_170 ?_
        refine lv_iload_n S.1 S.2.1 d_Mo_stands_171 rfl (lv_at hl 3 rfl) ?_
        refine lv_iadd S.1 S.2.1 d_Mo_stands_172 ?_
        obtain ⟨hin, h⟩ := h
        refine a_Mo_states S hK hP hin d_Mo_stands_173 ?_
        refine lv_if_eq (tgt := 181) S.1 S.2.1 d_Mo_stands_174 (by decide) (fun hc => ?_) (fun hc => ?_)
        · have h := h.1 hc
          refine lv_iconst (v := (0 : Int32)) S.1 S.2.1 d_Mo_stands_181 rfl ?_
          refine lv_istore (lv' := [(4, .int (0 : Int32)), (0, .ref (ad 0)), (1, .int x1), (2, .int x2), (3, .int x3), (5, .int x5)]) S.1 S.2.1 d_Mo_stands_182 hl (by decide) rfl (fun ls hl => ?_)
          refine lv_iinc (k := 5) (v := x5 + (1 : Int32)) (lv' := [(5, .int (x5 + (1 : Int32))), (4, .int (0 : Int32)), (0, .ref (ad 0)), (1, .int x1), (2, .int x2), (3, .int x3)]) S.1 S.2.1 d_Mo_stands_184 hl rfl rfl (by decide) rfl (fun ls hl => ?_)
          refine lv_goto (tgt := 61) S.1 S.2.1 d_Mo_stands_187 (by decide) ?_
          exact hk61 _ _ _ h (lv_sub hl [2, 3, 4, 5, 1, 0] rfl)
        · have h := h.2 hc
          exact n_Mo_stands_177 S hr hlk hK hP hk61 _ _ h (lv_sub hl [1, 2, 3, 4, 5] rfl)
set_option maxHeartbeats 4000000 in
set_option maxRecDepth 100000 in
theorem n_Mo_stands_124 {p : Program} {l : Launch} {e : Env} {s : State} {m : MethodId} {args : Array Value} {below : List Frame} {meth : Method} {c : Code} {D : va_G} {ad : Nat → Nat} {cA : ClassId × ClassId × ClassId} {mo : Mo} {x1 : Int32} {x2 : Int32} {x3 : Int32} {Q : Int32 → Prop} (S : CallFix p m c b_Mo_stands 6 s args gtbl R_Mo) (hr : meth.sig.returnType = (some .boolean)) (hlk : meth.locks = false) (hK : gK D (tyA cA) s) (hP : va_P D classes (wM ad cA mo) s.heap) {k61 : Int32 → Int32 → Prop} (hk61 : ∀ (ls : Array Slot) (x4 : Int32) (x5 : Int32), k61 x4 x5 → lv_has ls 6 [(0, .ref (ad 0)), (1, .int x1), (2, .int x2), (3, .int x3), (4, .int x4), (5, .int x5)] → W p l e rm_Mo_stands s m args below meth c s.heap [] 0 0 (qRI Q below args s) (F0 m 61 ls [])) : ∀ (ls : Array Slot) (x5 : Int32), p_Mo_stands_124 x1 x2 x3 mo Q k61 x5 → lv_has ls 6 [(0, .ref (ad 0)), (1, .int x1), (2, .int x2), (3, .int x3), (5, .int x5)] → W p l e rm_Mo_stands s m args below meth c s.heap [] 0 0 (qRI Q below args s) (F0 m 124 ls []) := by
  intro ls x5 h hl
  refine lv_iconst (v := (0 : Int32)) S.1 S.2.1 d_Mo_stands_124 rfl ?_
  exact n_Mo_stands_125 S hr hlk hK hP hk61 _ _ _ h (lv_sub hl [0, 1, 2, 3, 4] rfl)
set_option maxHeartbeats 4000000 in
set_option maxRecDepth 100000 in
theorem n_Mo_stands_120 {p : Program} {l : Launch} {e : Env} {s : State} {m : MethodId} {args : Array Value} {below : List Frame} {meth : Method} {c : Code} {D : va_G} {ad : Nat → Nat} {cA : ClassId × ClassId × ClassId} {mo : Mo} {x1 : Int32} {x2 : Int32} {x3 : Int32} {Q : Int32 → Prop} (S : CallFix p m c b_Mo_stands 6 s args gtbl R_Mo) (hr : meth.sig.returnType = (some .boolean)) (hlk : meth.locks = false) (hK : gK D (tyA cA) s) (hP : va_P D classes (wM ad cA mo) s.heap) {k61 : Int32 → Int32 → Prop} (hk61 : ∀ (ls : Array Slot) (x4 : Int32) (x5 : Int32), k61 x4 x5 → lv_has ls 6 [(0, .ref (ad 0)), (1, .int x1), (2, .int x2), (3, .int x3), (4, .int x4), (5, .int x5)] → W p l e rm_Mo_stands s m args below meth c s.heap [] 0 0 (qRI Q below args s) (F0 m 61 ls [])) : ∀ (ls : Array Slot) (x5 : Int32), p_Mo_stands_120 x1 x2 x3 mo Q k61 x5 → lv_has ls 6 [(0, .ref (ad 0)), (1, .int x1), (2, .int x2), (3, .int x3), (5, .int x5)] → W p l e rm_Mo_stands s m args below meth c s.heap [] 0 0 (qRI Q below args s) (F0 m 120 ls []) := by
  intro ls x5 h hl
  refine lv_iconst (v := (1 : Int32)) S.1 S.2.1 d_Mo_stands_120 rfl ?_
  refine lv_goto (tgt := 125) S.1 S.2.1 d_Mo_stands_121 (by decide) ?_
  exact n_Mo_stands_125 S hr hlk hK hP hk61 _ _ _ h (lv_sub hl [0, 1, 2, 3, 4] rfl)
set_option maxHeartbeats 4000000 in
set_option maxRecDepth 100000 in
theorem n_Mo_stands_61 {p : Program} {l : Launch} {e : Env} {s : State} {m : MethodId} {args : Array Value} {below : List Frame} {meth : Method} {c : Code} {D : va_G} {ad : Nat → Nat} {cA : ClassId × ClassId × ClassId} {mo : Mo} {x1 : Int32} {x2 : Int32} {x3 : Int32} {Q : Int32 → Prop} (S : CallFix p m c b_Mo_stands 6 s args gtbl R_Mo) (hr : meth.sig.returnType = (some .boolean)) (hlk : meth.locks = false) (hK : gK D (tyA cA) s) (hP : va_P D classes (wM ad cA mo) s.heap) : ∀ n : Nat, ∀ (ls : Array Slot) (x4 : Int32) (x5 : Int32), p_Mo_stands_61 x1 x2 x3 mo Q n x4 x5 → lv_has ls 6 [(0, .ref (ad 0)), (1, .int x1), (2, .int x2), (3, .int x3), (4, .int x4), (5, .int x5)] → W p l e rm_Mo_stands s m args below meth c s.heap [] 0 0 (qRI Q below args s) (F0 m 61 ls []) := by
  intro n
  induction n with
  | zero =>
    intro ls x4 x5 h
    exact (show False from h).elim
  | succ n ih =>
    intro ls x4 x5 h hl
    refine lv_iload S.1 S.2.1 d_Mo_stands_61 (lv_at hl 5 rfl) ?_
    refine lv_aload_n S.1 S.2.1 d_Mo_stands_63 rfl (lv_at hl 0 rfl) ?_
    refine g_Mo_rules S hK hP d_Mo_stands_64 ?_
    refine lv_icmp_ge (tgt := 190) S.1 S.2.1 d_Mo_stands_67 (by decide) (fun hc => ?_) (fun hc => ?_)
    · have h := h.1 hc
      refine lv_iload S.1 S.2.1 d_Mo_stands_190 (lv_at hl 4 rfl) ?_
      obtain ⟨hz, h⟩ := h
      exact ret_roz S hr hlk (isB_n hz) h d_Mo_stands_192
    · have h := h.2 hc
      refine lv_iload S.1 S.2.1 d_Mo_stands_70 (lv_at hl 4 rfl) ?_
      refine lv_if_ne (tgt := 120) S.1 S.2.1 d_Mo_stands_72 (by decide) (fun hc => ?_) (fun hc => ?_)
      · have h := h.1 hc
        exact n_Mo_stands_120 S hr hlk hK hP ih _ _ h (lv_sub hl [0, 1, 2, 3, 5] rfl)
      · have h := h.2 hc
        refine lv_iload_n S.1 S.2.1 d_Mo_stands_75 rfl (lv_at hl 3 rfl) ?_
        refine lv_iconst (v := (1 : Int32)) S.1 S.2.1 d_Mo_stands_76 rfl ?_
        refine lv_icmp_ne (tgt := 124) S.1 S.2.1 d_Mo_stands_77 (by decide) (fun hc => ?_) (fun hc => ?_)
        · have h := h.1 hc
          exact n_Mo_stands_124 S hr hlk hK hP ih _ _ h (lv_sub hl [0, 1, 2, 3, 5] rfl)
        · have h := h.2 hc
          refine lv_aload_n S.1 S.2.1 d_Mo_stands_80 rfl (lv_at hl 0 rfl) ?_
          refine g_Mo_states S hK hP d_Mo_stands_81 ?_
          refine lv_bipush (v := (6 : Int32)) S.1 S.2.1 d_Mo_stands_84 rfl ?_
          refine lv_aload_n S.1 S.2.1 d_Mo_stands_86 rfl (lv_at hl 0 rfl) ?_
          refine g_Mo_left S hK hP d_Mo_stands_87 ?_
          refine lv_iload S.1 S.2.1 d_Mo_stands_90 (lv_at hl 5 rfl) ?_
          obtain ⟨hin, h⟩ := h
          refine a_Mo_left S hK hP hin d_Mo_stands_92 ?_
          refine lv_imul S.1 S.2.1 d_Mo_stands_93 ?_
          refine lv_iload_n S.1 S.2.1 d_Mo_stands_94 rfl (lv_at hl 2 rfl) ?_
          refine lv_iadd S.1 S.2.1 d_Mo_stands_95 ?_
          obtain ⟨hin, h⟩ := h
          refine a_Mo_states S hK hP hin d_Mo_stands_96 ?_
          refine lv_if_eq (tgt := 124) S.1 S.2.1 d_Mo_stands_97 (by decide) (fun hc => ?_) (fun hc => ?_)
          · have h := h.1 hc
            exact n_Mo_stands_124 S hr hlk hK hP ih _ _ h (lv_sub hl [0, 1, 2, 3, 5] rfl)
          · have h := h.2 hc
            refine lv_aload_n S.1 S.2.1 d_Mo_stands_100 rfl (lv_at hl 0 rfl) ?_
            refine g_Mo_goes S hK hP d_Mo_stands_101 ?_
            refine lv_bipush (v := (48 : Int32)) S.1 S.2.1 d_Mo_stands_104 rfl ?_
            refine lv_aload_n S.1 S.2.1 d_Mo_stands_106 rfl (lv_at hl 0 rfl) ?_
            refine g_Mo_right S hK hP d_Mo_stands_107 ?_
            refine lv_iload S.1 S.2.1 d_Mo_stands_110 (lv_at hl 5 rfl) ?_
            obtain ⟨hin, h⟩ := h
            refine a_Mo_right S hK hP hin d_Mo_stands_112 ?_
            refine lv_imul S.1 S.2.1 d_Mo_stands_113 ?_
            refine lv_iload_n S.1 S.2.1 d_Mo_stands_114 rfl (lv_at hl 1 rfl) ?_
            refine lv_iadd S.1 S.2.1 d_Mo_stands_115 ?_
            obtain ⟨hin, h⟩ := h
            refine a_Mo_goes S hK hP hin d_Mo_stands_116 ?_
            refine lv_if_eq (tgt := 124) S.1 S.2.1 d_Mo_stands_117 (by decide) (fun hc => ?_) (fun hc => ?_)
            · have h := h.1 hc
              exact n_Mo_stands_124 S hr hlk hK hP ih _ _ h (lv_sub hl [0, 1, 2, 3, 5] rfl)
            · have h := h.2 hc
              exact n_Mo_stands_120 S hr hlk hK hP ih _ _ h (lv_sub hl [0, 1, 2, 3, 5] rfl)
set_option maxHeartbeats 4000000 in
set_option maxRecDepth 100000 in
theorem n_Mo_stands_45 {p : Program} {l : Launch} {e : Env} {s : State} {m : MethodId} {args : Array Value} {below : List Frame} {meth : Method} {c : Code} {D : va_G} {ad : Nat → Nat} {cA : ClassId × ClassId × ClassId} {mo : Mo} {x1 : Int32} {x2 : Int32} {x3 : Int32} {Q : Int32 → Prop} (S : CallFix p m c b_Mo_stands 6 s args gtbl R_Mo) (hr : meth.sig.returnType = (some .boolean)) (hlk : meth.locks = false) (hK : gK D (tyA cA) s) (hP : va_P D classes (wM ad cA mo) s.heap) {k6 : Int32 → Int32 → Prop} (hk6 : ∀ (ls : Array Slot) (x4 : Int32) (x5 : Int32), k6 x4 x5 → lv_has ls 6 [(0, .ref (ad 0)), (1, .int x1), (2, .int x2), (3, .int x3), (4, .int x4), (5, .int x5)] → W p l e rm_Mo_stands s m args below meth c s.heap [] 0 0 (qRI Q below args s) (F0 m 6 ls [])) : ∀ (ls : Array Slot) (x5 : Int32), p_Mo_stands_45 x1 x2 x3 mo Q k6 x5 → lv_has ls 6 [(0, .ref (ad 0)), (1, .int x1), (2, .int x2), (3, .int x3), (5, .int x5)] → W p l e rm_Mo_stands s m args below meth c s.heap [] 0 0 (qRI Q below args s) (F0 m 45 ls []) := by
  intro ls x5 h hl
  refine lv_iconst (v := (1 : Int32)) S.1 S.2.1 d_Mo_stands_45 rfl ?_
  refine lv_goto (tgt := 50) S.1 S.2.1 d_Mo_stands_46 (by decide) ?_
  refine lv_istore (lv' := [(4, .int (1 : Int32)), (0, .ref (ad 0)), (1, .int x1), (2, .int x2), (3, .int x3), (5, .int x5)]) S.1 S.2.1 d_Mo_stands_50 hl (by decide) rfl (fun ls hl => ?_)
  refine lv_iinc (k := 5) (v := x5 + (1 : Int32)) (lv' := [(5, .int (x5 + (1 : Int32))), (4, .int (1 : Int32)), (0, .ref (ad 0)), (1, .int x1), (2, .int x2), (3, .int x3)]) S.1 S.2.1 d_Mo_stands_52 hl rfl rfl (by decide) rfl (fun ls hl => ?_)
  refine lv_goto (tgt := 6) S.1 S.2.1 d_Mo_stands_55 (by decide) ?_
  exact hk6 _ _ _ h (lv_sub hl [2, 3, 4, 5, 1, 0] rfl)
set_option maxHeartbeats 4000000 in
set_option maxRecDepth 100000 in
theorem n_Mo_stands_6 {p : Program} {l : Launch} {e : Env} {s : State} {m : MethodId} {args : Array Value} {below : List Frame} {meth : Method} {c : Code} {D : va_G} {ad : Nat → Nat} {cA : ClassId × ClassId × ClassId} {mo : Mo} {x1 : Int32} {x2 : Int32} {x3 : Int32} {Q : Int32 → Prop} (S : CallFix p m c b_Mo_stands 6 s args gtbl R_Mo) (hr : meth.sig.returnType = (some .boolean)) (hlk : meth.locks = false) (hK : gK D (tyA cA) s) (hP : va_P D classes (wM ad cA mo) s.heap) : ∀ n : Nat, ∀ (ls : Array Slot) (x4 : Int32) (x5 : Int32), p_Mo_stands_6 x1 x2 x3 mo Q n x4 x5 → lv_has ls 6 [(0, .ref (ad 0)), (1, .int x1), (2, .int x2), (3, .int x3), (4, .int x4), (5, .int x5)] → W p l e rm_Mo_stands s m args below meth c s.heap [] 0 0 (qRI Q below args s) (F0 m 6 ls []) := by
  intro n
  induction n with
  | zero =>
    intro ls x4 x5 h
    exact (show False from h).elim
  | succ n ih =>
    intro ls x4 x5 h hl
    refine lv_iload S.1 S.2.1 d_Mo_stands_6 (lv_at hl 5 rfl) ?_
    refine lv_aload_n S.1 S.2.1 d_Mo_stands_8 rfl (lv_at hl 0 rfl) ?_
    refine g_Mo_edges S hK hP d_Mo_stands_9 ?_
    refine lv_icmp_ge (tgt := 58) S.1 S.2.1 d_Mo_stands_12 (by decide) (fun hc => ?_) (fun hc => ?_)
    · have h := h.1 hc
      refine lv_iconst (v := (0 : Int32)) S.1 S.2.1 d_Mo_stands_58 rfl ?_
      refine lv_istore (lv' := [(5, .int (0 : Int32)), (0, .ref (ad 0)), (1, .int x1), (2, .int x2), (3, .int x3), (4, .int x4)]) S.1 S.2.1 d_Mo_stands_59 hl (by decide) rfl (fun ls hl => ?_)
      obtain ⟨n', h⟩ := h
      exact n_Mo_stands_61 S hr hlk hK hP n' _ _ _ h (lv_sub hl [1, 2, 3, 4, 5, 0] rfl)
    · have h := h.2 hc
      refine lv_iload S.1 S.2.1 d_Mo_stands_15 (lv_at hl 4 rfl) ?_
      refine lv_if_ne (tgt := 45) S.1 S.2.1 d_Mo_stands_17 (by decide) (fun hc => ?_) (fun hc => ?_)
      · have h := h.1 hc
        exact n_Mo_stands_45 S hr hlk hK hP ih _ _ h (lv_sub hl [0, 1, 2, 3, 5] rfl)
      · have h := h.2 hc
        refine lv_aload_n S.1 S.2.1 d_Mo_stands_20 rfl (lv_at hl 0 rfl) ?_
        refine g_Mo_edge S hK hP d_Mo_stands_21 ?_
        refine lv_iconst (v := (4 : Int32)) S.1 S.2.1 d_Mo_stands_24 rfl ?_
        refine lv_iload S.1 S.2.1 d_Mo_stands_25 (lv_at hl 5 rfl) ?_
        refine lv_imul S.1 S.2.1 d_Mo_stands_27 ?_
        refine lv_iconst (v := (3 : Int32)) S.1 S.2.1 d_Mo_stands_28 rfl ?_
        refine lv_iadd S.1 S.2.1 d_Mo_stands_29 ?_
        obtain ⟨hin, h⟩ := h
        refine a_Mo_edge S hK hP hin d_Mo_stands_30 ?_
        refine lv_iload_n S.1 S.2.1 d_Mo_stands_31 rfl (lv_at hl 2 rfl) ?_
        refine lv_icmp_ne (tgt := 49) S.1 S.2.1 d_Mo_stands_32 (by decide) (fun hc => ?_) (fun hc => ?_)
        · have h := h.1 hc
          refine lv_iconst (v := (0 : Int32)) S.1 S.2.1 d_Mo_stands_49 rfl ?_
          refine lv_istore (lv' := [(4, .int (0 : Int32)), (0, .ref (ad 0)), (1, .int x1), (2, .int x2), (3, .int x3), (5, .int x5)]) S.1 S.2.1 d_Mo_stands_50 hl (by decide) rfl (fun ls hl => ?_)
          refine lv_iinc (k := 5) (v := x5 + (1 : Int32)) (lv' := [(5, .int (x5 + (1 : Int32))), (4, .int (0 : Int32)), (0, .ref (ad 0)), (1, .int x1), (2, .int x2), (3, .int x3)]) S.1 S.2.1 d_Mo_stands_52 hl rfl rfl (by decide) rfl (fun ls hl => ?_)
          refine lv_goto (tgt := 6) S.1 S.2.1 d_Mo_stands_55 (by decide) ?_
          exact ih _ _ _ h (lv_sub hl [2, 3, 4, 5, 1, 0] rfl)
        · have h := h.2 hc
          refine lv_aload_n S.1 S.2.1 d_Mo_stands_35 rfl (lv_at hl 0 rfl) ?_
          refine lv_iload_n S.1 S.2.1 d_Mo_stands_36 rfl (lv_at hl 1 rfl) ?_
          refine lv_iload S.1 S.2.1 d_Mo_stands_37 (lv_at hl 5 rfl) ?_
          refine callV_roi S (c_Mo_byEdge l D ad cA _ _ _ _ h) (mkV S.2.2.2.2 ml_Mo_133 k_Mo_byEdge rfl rfl ⟨Nat.le_of_ble_eq_true rfl, Nat.le_of_ble_eq_true rfl⟩) (rv_Mo hK hP) hK hP hl.1 rfl rfl (Nat.le_of_ble_eq_true rfl) d_Mo_stands_39 ⟨Nat.zero_le _, Nat.zero_le _⟩ (fun r39 h => ?_)
          refine lv_if_eq (tgt := 49) S.1 S.2.1 d_Mo_stands_42 (by decide) (fun hc => ?_) (fun hc => ?_)
          · have h := h.1 hc
            refine lv_iconst (v := (0 : Int32)) S.1 S.2.1 d_Mo_stands_49 rfl ?_
            refine lv_istore (lv' := [(4, .int (0 : Int32)), (0, .ref (ad 0)), (1, .int x1), (2, .int x2), (3, .int x3), (5, .int x5)]) S.1 S.2.1 d_Mo_stands_50 hl (by decide) rfl (fun ls hl => ?_)
            refine lv_iinc (k := 5) (v := x5 + (1 : Int32)) (lv' := [(5, .int (x5 + (1 : Int32))), (4, .int (0 : Int32)), (0, .ref (ad 0)), (1, .int x1), (2, .int x2), (3, .int x3)]) S.1 S.2.1 d_Mo_stands_52 hl rfl rfl (by decide) rfl (fun ls hl => ?_)
            refine lv_goto (tgt := 6) S.1 S.2.1 d_Mo_stands_55 (by decide) ?_
            exact ih _ _ _ h (lv_sub hl [2, 3, 4, 5, 1, 0] rfl)
          · have h := h.2 hc
            exact n_Mo_stands_45 S hr hlk hK hP ih _ _ h (lv_sub hl [0, 1, 2, 3, 5] rfl)
set_option maxHeartbeats 4000000 in
set_option maxRecDepth 100000 in
theorem c_Mo_stands (l : Launch) (D : va_G) (ad : Nat → Nat) (cA : ClassId × ClassId × ClassId) (mo : Mo) (x1 : Int32) (x2 : Int32) (x3 : Int32) (Q : Int32 → Prop) (h : p_Mo_stands x1 x2 x3 mo Q) : roI l y_Mo_stands (wsOf y_Mo_stands b_Mo_stands 6 (some .boolean)) rm_Mo_stands D (tyA cA) (wM ad cA) [.ref (ad 0), .int x1, .int x2, .int x3] mo Q := by
  refine roI_of (by decide) (Nat.le_of_ble_eq_true rfl) ?_
  intro p e s m below meth c S hr hlk hK hP ls hl
  have hl : lv_has ls 6 [(0, .ref (ad 0)), (1, .int x1), (2, .int x2), (3, .int x3)] := hl
  refine lv_iconst (v := (0 : Int32)) S.1 S.2.1 d_Mo_stands_0 rfl ?_
  refine lv_istore (lv' := [(4, .int (0 : Int32)), (0, .ref (ad 0)), (1, .int x1), (2, .int x2), (3, .int x3)]) S.1 S.2.1 d_Mo_stands_1 hl (by decide) rfl (fun ls hl => ?_)
  refine lv_iconst (v := (0 : Int32)) S.1 S.2.1 d_Mo_stands_3 rfl ?_
  refine lv_istore (lv' := [(5, .int (0 : Int32)), (4, .int (0 : Int32)), (0, .ref (ad 0)), (1, .int x1), (2, .int x2), (3, .int x3)]) S.1 S.2.1 d_Mo_stands_4 hl (by decide) rfl (fun ls hl => ?_)
  obtain ⟨n', h⟩ := h
  exact n_Mo_stands_6 S hr hlk hK hP n' _ _ _ h (lv_sub hl [2, 3, 4, 5, 1, 0] rfl)
