set_option maxHeartbeats 4000000 in
set_option maxRecDepth 100000 in
theorem n_Mo_rule_40 {p : Program} {l : Launch} {e : Env} {s : State} {m : MethodId} {args : Array Value} {below : List Frame} {meth : Method} {c : Code} {D : va_G} {A : Nat → Prop} {ad : Nat → Nat} {cA : ClassId × ClassId × ClassId}  {x1 : Int32} {x2 : Int32} {Q : Int32 → Mo → Prop} (S : CallFix p m c b_Mo_rule 3 s args gtbl R_Mo) (hr : meth.sig.returnType = (some .int)) (hlk : meth.locks = false) (hK : gK D (tyA cA) s) (hA : ∀ q : Nat, s.heap.size ≤ q → A q) : ∀ (ls : Array Slot) (H : Heap) (locs : List Loc) (y0 : Int32) (mo : Mo), p_Mo_rule_40 x1 x2 Q y0 mo → lv_has ls 3 [(0, .ref (ad 0)), (1, .int x1), (2, .int x2)] → gIn D A s (wM ad cA) mo H locs → W p l e rm_Mo_rule s m args below meth c H locs 0 0 (qI D (tyA cA) A (wM ad cA) (fun u : Mo => u) (fun (r : Int32) (u : Mo) => Q r u) below args s) (F0 m 40 ls [.int y0, .ref (ad 0)]) := by
  intro ls H locs y0 mo h hl I
  refine q_Mo_thrown S hK I d_Mo_rule_40 (fun H locs mo40 emo40 I => ?_)
  have h := h mo40 emo40
  refine lv_aload_n S.1 S.2.1 d_Mo_rule_43 rfl (lv_at hl 0 rfl) ?_
  refine g_Mo_thrown S hK I.1 d_Mo_rule_44 ?_
  refine lv_if_le (tgt := 52) S.1 S.2.1 d_Mo_rule_47 (by decide) (fun hc => ?_) (fun hc => ?_)
  · have h := h.1 hc
    refine lv_aload_n S.1 S.2.1 d_Mo_rule_52 rfl (lv_at hl 0 rfl) ?_
    refine g_Mo_left S hK I.1 d_Mo_rule_53 ?_
    refine lv_aload_n S.1 S.2.1 d_Mo_rule_56 rfl (lv_at hl 0 rfl) ?_
    refine g_Mo_rules S hK I.1 d_Mo_rule_57 ?_
    refine lv_iload_n S.1 S.2.1 d_Mo_rule_60 rfl (lv_at hl 1 rfl) ?_
    obtain ⟨hin, h⟩ := h
    refine s_Mo_left S hK I hin d_Mo_rule_61 (fun H locs mo61 emo61 I => ?_)
    have h := h mo61 emo61
    refine lv_aload_n S.1 S.2.1 d_Mo_rule_62 rfl (lv_at hl 0 rfl) ?_
    refine g_Mo_right S hK I.1 d_Mo_rule_63 ?_
    refine lv_aload_n S.1 S.2.1 d_Mo_rule_66 rfl (lv_at hl 0 rfl) ?_
    refine g_Mo_rules S hK I.1 d_Mo_rule_67 ?_
    refine lv_iload_n S.1 S.2.1 d_Mo_rule_70 rfl (lv_at hl 2 rfl) ?_
    obtain ⟨hin, h⟩ := h
    refine s_Mo_right S hK I hin d_Mo_rule_71 (fun H locs mo71 emo71 I => ?_)
    have h := h mo71 emo71
    refine lv_aload_n S.1 S.2.1 d_Mo_rule_72 rfl (lv_at hl 0 rfl) ?_
    refine lv_dup S.1 S.2.1 d_Mo_rule_73 rfl ?_
    refine g_Mo_rules S hK I.1 d_Mo_rule_74 ?_
    refine lv_iconst (v := (1 : Int32)) S.1 S.2.1 d_Mo_rule_77 rfl ?_
    refine lv_iadd S.1 S.2.1 d_Mo_rule_78 ?_
    refine q_Mo_rules S hK I d_Mo_rule_79 (fun H locs mo79 emo79 I => ?_)
    have h := h mo79 emo79
    refine lv_aload_n S.1 S.2.1 d_Mo_rule_82 rfl (lv_at hl 0 rfl) ?_
    refine g_Mo_rules S hK I.1 d_Mo_rule_83 ?_
    refine lv_iconst (v := (1 : Int32)) S.1 S.2.1 d_Mo_rule_86 rfl ?_
    refine lv_isub S.1 S.2.1 d_Mo_rule_87 ?_
    exact ret_rwi S hr hlk hK I h d_Mo_rule_88
  · have h := h.2 hc
    refine lv_iconst (v := (0 : Int32)) S.1 S.2.1 d_Mo_rule_50 rfl ?_
    exact ret_rwi S hr hlk hK I h d_Mo_rule_51
set_option maxHeartbeats 4000000 in
set_option maxRecDepth 100000 in
theorem n_Mo_rule_22 {p : Program} {l : Launch} {e : Env} {s : State} {m : MethodId} {args : Array Value} {below : List Frame} {meth : Method} {c : Code} {D : va_G} {A : Nat → Prop} {ad : Nat → Nat} {cA : ClassId × ClassId × ClassId}  {x1 : Int32} {x2 : Int32} {Q : Int32 → Mo → Prop} (S : CallFix p m c b_Mo_rule 3 s args gtbl R_Mo) (hr : meth.sig.returnType = (some .int)) (hlk : meth.locks = false) (hK : gK D (tyA cA) s) (hA : ∀ q : Nat, s.heap.size ≤ q → A q) : ∀ (ls : Array Slot) (H : Heap) (locs : List Loc) (mo : Mo), p_Mo_rule_22 x1 x2 Q mo → lv_has ls 3 [(0, .ref (ad 0)), (1, .int x1), (2, .int x2)] → gIn D A s (wM ad cA) mo H locs → W p l e rm_Mo_rule s m args below meth c H locs 0 0 (qI D (tyA cA) A (wM ad cA) (fun u : Mo => u) (fun (r : Int32) (u : Mo) => Q r u) below args s) (F0 m 22 ls [.ref (ad 0)]) := by
  intro ls H locs mo h hl I
  refine lv_iconst (v := (1 : Int32)) S.1 S.2.1 d_Mo_rule_22 rfl ?_
  refine lv_goto (tgt := 40) S.1 S.2.1 d_Mo_rule_23 (by decide) ?_
  exact n_Mo_rule_40 S hr hlk hK hA _ _ _ _ _ h (lv_sub hl [0, 1, 2] rfl) I
set_option maxHeartbeats 4000000 in
set_option maxRecDepth 100000 in
theorem c_Mo_rule (l : Launch) (D : va_G) (ad : Nat → Nat) (cA : ClassId × ClassId × ClassId) (mo : Mo) (x1 : Int32) (x2 : Int32) (Q : Int32 → Mo → Prop) (h : p_Mo_rule x1 x2 mo Q) : rwI l y_Mo_rule (wsOf y_Mo_rule b_Mo_rule 3 (some .int)) rm_Mo_rule D (tyA cA) (wM ad cA) [.ref (ad 0), .int x1, .int x2] mo (fun u : Mo => u) (fun (r : Int32) (u : Mo) => Q r u) := by
  refine rwI_of (by decide) (Nat.le_of_ble_eq_true rfl) ?_
  intro p e s m below meth c S hr hlk hK A hA I ls hl
  have hl : lv_has ls 3 [(0, .ref (ad 0)), (1, .int x1), (2, .int x2)] := hl
  refine lv_aload_n S.1 S.2.1 d_Mo_rule_0 rfl (lv_at hl 0 rfl) ?_
  refine lv_aload_n S.1 S.2.1 d_Mo_rule_1 rfl (lv_at hl 0 rfl) ?_
  refine lv_iload_n S.1 S.2.1 d_Mo_rule_2 rfl (lv_at hl 1 rfl) ?_
  refine callV_roi S (c_Mo_isTerm l D ad cA _ _ _ h) (mkV S.2.2.2.2 ml_Mo_79 k_Mo_isTerm rfl rfl ⟨Nat.le_of_ble_eq_true rfl, Nat.le_of_ble_eq_true rfl⟩) (rv_Mo hK I.1) hK I.1 hl.1 rfl rfl (Nat.le_of_ble_eq_true rfl) d_Mo_rule_3 ⟨Nat.zero_le _, Nat.zero_le _⟩ (fun r3 h => ?_)
  refine lv_if_eq (tgt := 22) S.1 S.2.1 d_Mo_rule_6 (by decide) (fun hc => ?_) (fun hc => ?_)
  · have h := h.1 hc
    exact n_Mo_rule_22 S hr hlk hK hA _ _ _ _ h (lv_sub hl [0, 1, 2] rfl) I
  · have h := h.2 hc
    refine lv_aload_n S.1 S.2.1 d_Mo_rule_9 rfl (lv_at hl 0 rfl) ?_
    refine lv_iload_n S.1 S.2.1 d_Mo_rule_10 rfl (lv_at hl 2 rfl) ?_
    refine callV_roi S (c_Mo_isTerm l D ad cA _ _ _ h) (mkV S.2.2.2.2 ml_Mo_79 k_Mo_isTerm rfl rfl ⟨Nat.le_of_ble_eq_true rfl, Nat.le_of_ble_eq_true rfl⟩) (rv_Mo hK I.1) hK I.1 hl.1 rfl rfl (Nat.le_of_ble_eq_true rfl) d_Mo_rule_11 ⟨Nat.zero_le _, Nat.zero_le _⟩ (fun r11 h => ?_)
    refine lv_if_eq (tgt := 22) S.1 S.2.1 d_Mo_rule_14 (by decide) (fun hc => ?_) (fun hc => ?_)
    · have h := h.1 hc
      exact n_Mo_rule_22 S hr hlk hK hA _ _ _ _ h (lv_sub hl [0, 1, 2] rfl) I
    · have h := h.2 hc
      refine lv_iload_n S.1 S.2.1 d_Mo_rule_17 rfl (lv_at hl 1 rfl) ?_
      refine lv_iload_n S.1 S.2.1 d_Mo_rule_18 rfl (lv_at hl 2 rfl) ?_
      refine lv_icmp_ne (tgt := 26) S.1 S.2.1 d_Mo_rule_19 (by decide) (fun hc => ?_) (fun hc => ?_)
      · have h := h.1 hc
        refine lv_aload_n S.1 S.2.1 d_Mo_rule_26 rfl (lv_at hl 0 rfl) ?_
        refine g_Mo_rules S hK I.1 d_Mo_rule_27 ?_
        refine lv_bipush (v := (8 : Int32)) S.1 S.2.1 d_Mo_rule_30 rfl ?_
        refine lv_icmp_ne (tgt := 39) S.1 S.2.1 d_Mo_rule_32 (by decide) (fun hc => ?_) (fun hc => ?_)
        · have h := h.1 hc
          refine lv_iconst (v := (0 : Int32)) S.1 S.2.1 d_Mo_rule_39 rfl ?_
          exact n_Mo_rule_40 S hr hlk hK hA _ _ _ _ _ h (lv_sub hl [0, 1, 2] rfl) I
        · have h := h.2 hc
          refine lv_iconst (v := (2 : Int32)) S.1 S.2.1 d_Mo_rule_35 rfl ?_
          refine lv_goto (tgt := 40) S.1 S.2.1 d_Mo_rule_36 (by decide) ?_
          exact n_Mo_rule_40 S hr hlk hK hA _ _ _ _ _ h (lv_sub hl [0, 1, 2] rfl) I
      · have h := h.2 hc
        exact n_Mo_rule_22 S hr hlk hK hA _ _ _ _ h (lv_sub hl [0, 1, 2] rfl) I

set_option maxHeartbeats 4000000 in
set_option maxRecDepth 100000 in
theorem n_Mo_cut_32 {p : Program} {l : Launch} {e : Env} {s : State} {m : MethodId} {args : Array Value} {below : List Frame} {meth : Method} {c : Code} {D : va_G} {A : Nat → Prop} {ad : Nat → Nat} {cA : ClassId × ClassId × ClassId}  {Q : Int32 → Mo → Prop} (S : CallFix p m c b_Mo_cut 2 s args gtbl R_Mo) (hr : meth.sig.returnType = (some .boolean)) (hlk : meth.locks = false) (hK : gK D (tyA cA) s) (hA : ∀ q : Nat, s.heap.size ≤ q → A q) : ∀ (ls : Array Slot) (H : Heap) (locs : List Loc) (x1 : Int32) (y0 : Int32) (y1 : Int32) (mo : Mo), p_Mo_cut_32 Q x1 y0 y1 mo → lv_has ls 2 [(1, .int x1)] → gIn D A s (wM ad cA) mo H locs → W p l e rm_Mo_cut s m args below meth c H locs 0 0 (qI D (tyA cA) A (wM ad cA) (fun u : Mo => u) (fun (r : Int32) (u : Mo) => Q r u) below args s) (F0 m 32 ls [.int y0, .int y1, .ref (ad 0)]) := by
  intro ls H locs x1 y0 y1 mo h hl I
  refine lv_isub S.1 S.2.1 d_Mo_cut_32 ?_
  refine q_Mo_rules S hK I d_Mo_cut_33 (fun H locs mo33 emo33 I => ?_)
  have h := h mo33 emo33
  refine lv_iload_n S.1 S.2.1 d_Mo_cut_36 rfl (lv_at hl 0 rfl) ?_
  obtain ⟨hz, h⟩ := h
  exact ret_rwz S hr hlk hK (isB_n hz) I h d_Mo_cut_37
set_option maxHeartbeats 4000000 in
set_option maxRecDepth 100000 in
theorem n_Mo_cut_17 {p : Program} {l : Launch} {e : Env} {s : State} {m : MethodId} {args : Array Value} {below : List Frame} {meth : Method} {c : Code} {D : va_G} {A : Nat → Prop} {ad : Nat → Nat} {cA : ClassId × ClassId × ClassId}  {Q : Int32 → Mo → Prop} (S : CallFix p m c b_Mo_cut 2 s args gtbl R_Mo) (hr : meth.sig.returnType = (some .boolean)) (hlk : meth.locks = false) (hK : gK D (tyA cA) s) (hA : ∀ q : Nat, s.heap.size ≤ q → A q) : ∀ (ls : Array Slot) (H : Heap) (locs : List Loc) (y0 : Int32) (mo : Mo), p_Mo_cut_17 Q y0 mo → lv_has ls 2 [(0, .ref (ad 0))] → gIn D A s (wM ad cA) mo H locs → W p l e rm_Mo_cut s m args below meth c H locs 0 0 (qI D (tyA cA) A (wM ad cA) (fun u : Mo => u) (fun (r : Int32) (u : Mo) => Q r u) below args s) (F0 m 17 ls [.int y0]) := by
  intro ls H locs y0 mo h hl I
  refine lv_istore_n (lv' := [(1, .int y0), (0, .ref (ad 0))]) S.1 S.2.1 d_Mo_cut_17 rfl hl (by decide) rfl (fun ls hl => ?_)
  refine lv_aload_n S.1 S.2.1 d_Mo_cut_18 rfl (lv_at hl 1 rfl) ?_
  refine lv_dup S.1 S.2.1 d_Mo_cut_19 rfl ?_
  refine g_Mo_rules S hK I.1 d_Mo_cut_20 ?_
  refine lv_iload_n S.1 S.2.1 d_Mo_cut_23 rfl (lv_at hl 0 rfl) ?_
  refine lv_if_eq (tgt := 31) S.1 S.2.1 d_Mo_cut_24 (by decide) (fun hc => ?_) (fun hc => ?_)
  · have h := h.1 hc
    refine lv_iconst (v := (0 : Int32)) S.1 S.2.1 d_Mo_cut_31 rfl ?_
    exact n_Mo_cut_32 S hr hlk hK hA _ _ _ _ _ _ _ h (lv_sub hl [0] rfl) I
  · have h := h.2 hc
    refine lv_iconst (v := (1 : Int32)) S.1 S.2.1 d_Mo_cut_27 rfl ?_
    refine lv_goto (tgt := 32) S.1 S.2.1 d_Mo_cut_28 (by decide) ?_
    exact n_Mo_cut_32 S hr hlk hK hA _ _ _ _ _ _ _ h (lv_sub hl [0] rfl) I
set_option maxHeartbeats 4000000 in
set_option maxRecDepth 100000 in
theorem c_Mo_cut (l : Launch) (D : va_G) (ad : Nat → Nat) (cA : ClassId × ClassId × ClassId) (mo : Mo)  (Q : Int32 → Mo → Prop) (h : p_Mo_cut  mo Q) : rwI l y_Mo_cut (wsOf y_Mo_cut b_Mo_cut 2 (some .boolean)) rm_Mo_cut D (tyA cA) (wM ad cA) [.ref (ad 0)] mo (fun u : Mo => u) (fun (r : Int32) (u : Mo) => Q r u) := by
  refine rwI_of (by decide) (Nat.le_of_ble_eq_true rfl) ?_
  intro p e s m below meth c S hr hlk hK A hA I ls hl
  have hl : lv_has ls 2 [(0, .ref (ad 0))] := hl
  refine lv_aload_n S.1 S.2.1 d_Mo_cut_0 rfl (lv_at hl 0 rfl) ?_
  refine lv_iconst (v := (0 : Int32)) S.1 S.2.1 d_Mo_cut_1 rfl ?_
  refine q_Mo_thrown S hK I d_Mo_cut_2 (fun H locs mo2 emo2 I => ?_)
  have h := h mo2 emo2
  refine lv_aload_n S.1 S.2.1 d_Mo_cut_5 rfl (lv_at hl 0 rfl) ?_
  refine g_Mo_rules S hK I.1 d_Mo_cut_6 ?_
  refine lv_if_le (tgt := 16) S.1 S.2.1 d_Mo_cut_9 (by decide) (fun hc => ?_) (fun hc => ?_)
  · have h := h.1 hc
    refine lv_iconst (v := (0 : Int32)) S.1 S.2.1 d_Mo_cut_16 rfl ?_
    exact n_Mo_cut_17 S hr hlk hK hA _ _ _ _ _ h (lv_sub hl [0] rfl) I
  · have h := h.2 hc
    refine lv_iconst (v := (1 : Int32)) S.1 S.2.1 d_Mo_cut_12 rfl ?_
    refine lv_goto (tgt := 17) S.1 S.2.1 d_Mo_cut_13 (by decide) ?_
    exact n_Mo_cut_17 S hr hlk hK hA _ _ _ _ _ h (lv_sub hl [0] rfl) I

set_option maxHeartbeats 4000000 in
set_option maxRecDepth 100000 in
theorem n_Mo_edge_215 {p : Program} {l : Launch} {e : Env} {s : State} {m : MethodId} {args : Array Value} {below : List Frame} {meth : Method} {c : Code} {D : va_G} {A : Nat → Prop} {ad : Nat → Nat} {cA : ClassId × ClassId × ClassId}  {x1 : Int32} {x2 : Int32} {x3 : Int32} {x4 : Int32} {Q : Int32 → Mo → Prop} (S : CallFix p m c b_Mo_edge 8 s args gtbl R_Mo) (hr : meth.sig.returnType = (some .boolean)) (hlk : meth.locks = false) (hK : gK D (tyA cA) s) (hA : ∀ q : Nat, s.heap.size ≤ q → A q) : ∀ (ls : Array Slot) (H : Heap) (locs : List Loc) (x5 : Int32) (x6 : Int32) (y0 : Int32) (mo : Mo), p_Mo_edge_215 x1 x2 x3 x4 Q x5 x6 y0 mo → lv_has ls 8 [(0, .ref (ad 0)), (1, .int x1), (4, .int x4), (5, .int x5), (6, .int x6)] → gIn D A s (wM ad cA) mo H locs → W p l e rm_Mo_edge s m args below meth c H locs 0 0 (qI D (tyA cA) A (wM ad cA) (fun u : Mo => u) (fun (r : Int32) (u : Mo) => Q r u) below args s) (F0 m 215 ls [.int y0, .ref (ad 0)]) := by
  intro ls H locs x5 x6 y0 mo h hl I
  refine q_Mo_thrown S hK I d_Mo_edge_215 (fun H locs mo215 emo215 I => ?_)
  have h := h mo215 emo215
  refine lv_aload_n S.1 S.2.1 d_Mo_edge_218 rfl (lv_at hl 0 rfl) ?_
  refine g_Mo_thrown S hK I.1 d_Mo_edge_219 ?_
  refine lv_if_le (tgt := 227) S.1 S.2.1 d_Mo_edge_222 (by decide) (fun hc => ?_) (fun hc => ?_)
  · have h := h.1 hc
    refine lv_aload_n S.1 S.2.1 d_Mo_edge_227 rfl (lv_at hl 0 rfl) ?_
    refine g_Mo_edge S hK I.1 d_Mo_edge_228 ?_
    refine lv_iconst (v := (4 : Int32)) S.1 S.2.1 d_Mo_edge_231 rfl ?_
    refine lv_aload_n S.1 S.2.1 d_Mo_edge_232 rfl (lv_at hl 0 rfl) ?_
    refine g_Mo_edges S hK I.1 d_Mo_edge_233 ?_
    refine lv_imul S.1 S.2.1 d_Mo_edge_236 ?_
    refine lv_iload_n S.1 S.2.1 d_Mo_edge_237 rfl (lv_at hl 1 rfl) ?_
    obtain ⟨hin, h⟩ := h
    refine s_Mo_edge S hK I hin d_Mo_edge_238 (fun H locs mo238 emo238 I => ?_)
    have h := h mo238 emo238
    refine lv_aload_n S.1 S.2.1 d_Mo_edge_239 rfl (lv_at hl 0 rfl) ?_
    refine g_Mo_edge S hK I.1 d_Mo_edge_240 ?_
    refine lv_iconst (v := (4 : Int32)) S.1 S.2.1 d_Mo_edge_243 rfl ?_
    refine lv_aload_n S.1 S.2.1 d_Mo_edge_244 rfl (lv_at hl 0 rfl) ?_
    refine g_Mo_edges S hK I.1 d_Mo_edge_245 ?_
    refine lv_imul S.1 S.2.1 d_Mo_edge_248 ?_
    refine lv_iconst (v := (1 : Int32)) S.1 S.2.1 d_Mo_edge_249 rfl ?_
    refine lv_iadd S.1 S.2.1 d_Mo_edge_250 ?_
    refine lv_iload S.1 S.2.1 d_Mo_edge_251 (lv_at hl 3 rfl) ?_
    obtain ⟨hin, h⟩ := h
    refine s_Mo_edge S hK I hin d_Mo_edge_253 (fun H locs mo253 emo253 I => ?_)
    have h := h mo253 emo253
    refine lv_aload_n S.1 S.2.1 d_Mo_edge_254 rfl (lv_at hl 0 rfl) ?_
    refine g_Mo_edge S hK I.1 d_Mo_edge_255 ?_
    refine lv_iconst (v := (4 : Int32)) S.1 S.2.1 d_Mo_edge_258 rfl ?_
    refine lv_aload_n S.1 S.2.1 d_Mo_edge_259 rfl (lv_at hl 0 rfl) ?_
    refine g_Mo_edges S hK I.1 d_Mo_edge_260 ?_
    refine lv_imul S.1 S.2.1 d_Mo_edge_263 ?_
    refine lv_iconst (v := (2 : Int32)) S.1 S.2.1 d_Mo_edge_264 rfl ?_
    refine lv_iadd S.1 S.2.1 d_Mo_edge_265 ?_
    refine lv_iload S.1 S.2.1 d_Mo_edge_266 (lv_at hl 4 rfl) ?_
    obtain ⟨hin, h⟩ := h
    refine s_Mo_edge S hK I hin d_Mo_edge_268 (fun H locs mo268 emo268 I => ?_)
    have h := h mo268 emo268
    refine lv_aload_n S.1 S.2.1 d_Mo_edge_269 rfl (lv_at hl 0 rfl) ?_
    refine g_Mo_edge S hK I.1 d_Mo_edge_270 ?_
    refine lv_iconst (v := (4 : Int32)) S.1 S.2.1 d_Mo_edge_273 rfl ?_
    refine lv_aload_n S.1 S.2.1 d_Mo_edge_274 rfl (lv_at hl 0 rfl) ?_
    refine g_Mo_edges S hK I.1 d_Mo_edge_275 ?_
    refine lv_imul S.1 S.2.1 d_Mo_edge_278 ?_
    refine lv_iconst (v := (3 : Int32)) S.1 S.2.1 d_Mo_edge_279 rfl ?_
    refine lv_iadd S.1 S.2.1 d_Mo_edge_280 ?_
    refine lv_iload S.1 S.2.1 d_Mo_edge_281 (lv_at hl 2 rfl) ?_
    obtain ⟨hin, h⟩ := h
    refine s_Mo_edge S hK I hin d_Mo_edge_283 (fun H locs mo283 emo283 I => ?_)
    have h := h mo283 emo283
    refine lv_aload_n S.1 S.2.1 d_Mo_edge_284 rfl (lv_at hl 0 rfl) ?_
    refine lv_dup S.1 S.2.1 d_Mo_edge_285 rfl ?_
    refine g_Mo_edges S hK I.1 d_Mo_edge_286 ?_
    refine lv_iconst (v := (1 : Int32)) S.1 S.2.1 d_Mo_edge_289 rfl ?_
    refine lv_iadd S.1 S.2.1 d_Mo_edge_290 ?_
    refine q_Mo_edges S hK I d_Mo_edge_291 (fun H locs mo291 emo291 I => ?_)
    have h := h mo291 emo291
    refine lv_iconst (v := (1 : Int32)) S.1 S.2.1 d_Mo_edge_294 rfl ?_
    exact ret_rwz S hr hlk hK (by decide) I h d_Mo_edge_295
  · have h := h.2 hc
    refine lv_iconst (v := (0 : Int32)) S.1 S.2.1 d_Mo_edge_225 rfl ?_
    exact ret_rwz S hr hlk hK (by decide) I h d_Mo_edge_226
set_option maxHeartbeats 4000000 in
set_option maxRecDepth 100000 in
theorem n_Mo_edge_122 {p : Program} {l : Launch} {e : Env} {s : State} {m : MethodId} {args : Array Value} {below : List Frame} {meth : Method} {c : Code} {D : va_G} {A : Nat → Prop} {ad : Nat → Nat} {cA : ClassId × ClassId × ClassId}  {x1 : Int32} {x2 : Int32} {x3 : Int32} {x4 : Int32} {Q : Int32 → Mo → Prop} (S : CallFix p m c b_Mo_edge 8 s args gtbl R_Mo) (hr : meth.sig.returnType = (some .boolean)) (hlk : meth.locks = false) (hK : gK D (tyA cA) s) (hA : ∀ q : Nat, s.heap.size ≤ q → A q) : ∀ n : Nat, ∀ (ls : Array Slot) (H : Heap) (locs : List Loc) (x5 : Int32) (x6 : Int32) (x7 : Int32) (mo : Mo), p_Mo_edge_122 x1 x2 x3 x4 Q n x5 x6 x7 mo → lv_has ls 8 [(0, .ref (ad 0)), (1, .int x1), (4, .int x4), (5, .int x5), (6, .int x6), (7, .int x7)] → gIn D A s (wM ad cA) mo H locs → W p l e rm_Mo_edge s m args below meth c H locs 0 0 (qI D (tyA cA) A (wM ad cA) (fun u : Mo => u) (fun (r : Int32) (u : Mo) => Q r u) below args s) (F0 m 122 ls []) := by
  intro n
  induction n with
  | zero =>
    intro ls H locs x5 x6 x7 mo h
    exact (show False from h).elim
  | succ n ih =>
    intro ls H locs x5 x6 x7 mo h hl I
    refine lv_iload S.1 S.2.1 d_Mo_edge_122 (lv_at hl 5 rfl) ?_
    refine lv_aload_n S.1 S.2.1 d_Mo_edge_124 rfl (lv_at hl 0 rfl) ?_
    refine g_Mo_edges S hK I.1 d_Mo_edge_125 ?_
    refine lv_icmp_ge (tgt := 200) S.1 S.2.1 d_Mo_edge_128 (by decide) (fun hc => ?_) (fun hc => ?_)
    · have h := h.1 hc
      refine lv_aload_n S.1 S.2.1 d_Mo_edge_200 rfl (lv_at hl 0 rfl) ?_
      refine lv_aload_n S.1 S.2.1 d_Mo_edge_201 rfl (lv_at hl 0 rfl) ?_
      refine g_Mo_edges S hK I.1 d_Mo_edge_202 ?_
      refine lv_bipush (v := (20 : Int32)) S.1 S.2.1 d_Mo_edge_205 rfl ?_
      refine lv_icmp_ne (tgt := 214) S.1 S.2.1 d_Mo_edge_207 (by decide) (fun hc => ?_) (fun hc => ?_)
      · have h := h.1 hc
        refine lv_iconst (v := (0 : Int32)) S.1 S.2.1 d_Mo_edge_214 rfl ?_
        exact n_Mo_edge_215 S hr hlk hK hA _ _ _ _ _ _ _ h (lv_sub hl [0, 1, 2, 3, 4] rfl) I
      · have h := h.2 hc
        refine lv_iconst (v := (2 : Int32)) S.1 S.2.1 d_Mo_edge_210 rfl ?_
        refine lv_goto (tgt := 215) S.1 S.2.1 d_Mo_edge_211 (by decide) ?_
        exact n_Mo_edge_215 S hr hlk hK hA _ _ _ _ _ _ _ h (lv_sub hl [0, 1, 2, 3, 4] rfl) I
    · have h := h.2 hc
      refine lv_aload_n S.1 S.2.1 d_Mo_edge_131 rfl (lv_at hl 0 rfl) ?_
      refine g_Mo_edge S hK I.1 d_Mo_edge_132 ?_
      refine lv_iconst (v := (4 : Int32)) S.1 S.2.1 d_Mo_edge_135 rfl ?_
      refine lv_iload S.1 S.2.1 d_Mo_edge_136 (lv_at hl 5 rfl) ?_
      refine lv_imul S.1 S.2.1 d_Mo_edge_138 ?_
      obtain ⟨hin, h⟩ := h
      refine a_Mo_edge S hK I.1 hin d_Mo_edge_139 ?_
      refine lv_iload_n S.1 S.2.1 d_Mo_edge_140 rfl (lv_at hl 1 rfl) ?_
      refine lv_icmp_ne (tgt := 194) S.1 S.2.1 d_Mo_edge_141 (by decide) (fun hc => ?_) (fun hc => ?_)
      · have h := h.1 hc
        refine lv_iinc (k := 5) (v := x7 + (1 : Int32)) (lv' := [(7, .int (x7 + (1 : Int32))), (0, .ref (ad 0)), (1, .int x1), (4, .int x4), (5, .int x5), (6, .int x6)]) S.1 S.2.1 d_Mo_edge_194 hl rfl rfl (by decide) rfl (fun ls hl => ?_)
        refine lv_goto (tgt := 122) S.1 S.2.1 d_Mo_edge_197 (by decide) ?_
        exact ih _ _ _ _ _ _ _ h (lv_sub hl [1, 2, 3, 4, 5, 0] rfl) I
      · have h := h.2 hc
        refine lv_aload_n S.1 S.2.1 d_Mo_edge_144 rfl (lv_at hl 0 rfl) ?_
        refine g_Mo_edge S hK I.1 d_Mo_edge_145 ?_
        refine lv_iconst (v := (4 : Int32)) S.1 S.2.1 d_Mo_edge_148 rfl ?_
        refine lv_iload S.1 S.2.1 d_Mo_edge_149 (lv_at hl 5 rfl) ?_
        refine lv_imul S.1 S.2.1 d_Mo_edge_151 ?_
        refine lv_iconst (v := (1 : Int32)) S.1 S.2.1 d_Mo_edge_152 rfl ?_
        refine lv_iadd S.1 S.2.1 d_Mo_edge_153 ?_
        obtain ⟨hin, h⟩ := h
        refine a_Mo_edge S hK I.1 hin d_Mo_edge_154 ?_
        refine lv_iload S.1 S.2.1 d_Mo_edge_155 (lv_at hl 3 rfl) ?_
        refine lv_icmp_ne (tgt := 194) S.1 S.2.1 d_Mo_edge_157 (by decide) (fun hc => ?_) (fun hc => ?_)
        · have h := h.1 hc
          refine lv_iinc (k := 5) (v := x7 + (1 : Int32)) (lv' := [(7, .int (x7 + (1 : Int32))), (0, .ref (ad 0)), (1, .int x1), (4, .int x4), (5, .int x5), (6, .int x6)]) S.1 S.2.1 d_Mo_edge_194 hl rfl rfl (by decide) rfl (fun ls hl => ?_)
          refine lv_goto (tgt := 122) S.1 S.2.1 d_Mo_edge_197 (by decide) ?_
          exact ih _ _ _ _ _ _ _ h (lv_sub hl [1, 2, 3, 4, 5, 0] rfl) I
        · have h := h.2 hc
          refine lv_aload_n S.1 S.2.1 d_Mo_edge_160 rfl (lv_at hl 0 rfl) ?_
          refine g_Mo_edge S hK I.1 d_Mo_edge_161 ?_
          refine lv_iconst (v := (4 : Int32)) S.1 S.2.1 d_Mo_edge_164 rfl ?_
          refine lv_iload S.1 S.2.1 d_Mo_edge_165 (lv_at hl 5 rfl) ?_
          refine lv_imul S.1 S.2.1 d_Mo_edge_167 ?_
          refine lv_iconst (v := (2 : Int32)) S.1 S.2.1 d_Mo_edge_168 rfl ?_
          refine lv_iadd S.1 S.2.1 d_Mo_edge_169 ?_
          obtain ⟨hin, h⟩ := h
          refine a_Mo_edge S hK I.1 hin d_Mo_edge_170 ?_
          refine lv_iload S.1 S.2.1 d_Mo_edge_171 (lv_at hl 4 rfl) ?_
          refine lv_icmp_ne (tgt := 194) S.1 S.2.1 d_Mo_edge_173 (by decide) (fun hc => ?_) (fun hc => ?_)
          · have h := h.1 hc
            refine lv_iinc (k := 5) (v := x7 + (1 : Int32)) (lv' := [(7, .int (x7 + (1 : Int32))), (0, .ref (ad 0)), (1, .int x1), (4, .int x4), (5, .int x5), (6, .int x6)]) S.1 S.2.1 d_Mo_edge_194 hl rfl rfl (by decide) rfl (fun ls hl => ?_)
            refine lv_goto (tgt := 122) S.1 S.2.1 d_Mo_edge_197 (by decide) ?_
            exact ih _ _ _ _ _ _ _ h (lv_sub hl [1, 2, 3, 4, 5, 0] rfl) I
          · have h := h.2 hc
            refine lv_aload_n S.1 S.2.1 d_Mo_edge_176 rfl (lv_at hl 0 rfl) ?_
            refine g_Mo_edge S hK I.1 d_Mo_edge_177 ?_
            refine lv_iconst (v := (4 : Int32)) S.1 S.2.1 d_Mo_edge_180 rfl ?_
            refine lv_iload S.1 S.2.1 d_Mo_edge_181 (lv_at hl 5 rfl) ?_
            refine lv_imul S.1 S.2.1 d_Mo_edge_183 ?_
            refine lv_iconst (v := (3 : Int32)) S.1 S.2.1 d_Mo_edge_184 rfl ?_
            refine lv_iadd S.1 S.2.1 d_Mo_edge_185 ?_
            obtain ⟨hin, h⟩ := h
            refine a_Mo_edge S hK I.1 hin d_Mo_edge_186 ?_
            refine lv_iload S.1 S.2.1 d_Mo_edge_187 (lv_at hl 2 rfl) ?_
            refine lv_icmp_ne (tgt := 194) S.1 S.2.1 d_Mo_edge_189 (by decide) (fun hc => ?_) (fun hc => ?_)
            · have h := h.1 hc
              refine lv_iinc (k := 5) (v := x7 + (1 : Int32)) (lv' := [(7, .int (x7 + (1 : Int32))), (0, .ref (ad 0)), (1, .int x1), (4, .int x4), (5, .int x5), (6, .int x6)]) S.1 S.2.1 d_Mo_edge_194 hl rfl rfl (by decide) rfl (fun ls hl => ?_)
              refine lv_goto (tgt := 122) S.1 S.2.1 d_Mo_edge_197 (by decide) ?_
              exact ih _ _ _ _ _ _ _ h (lv_sub hl [1, 2, 3, 4, 5, 0] rfl) I
            · have h := h.2 hc
              refine lv_iconst (v := (0 : Int32)) S.1 S.2.1 d_Mo_edge_192 rfl ?_
              exact ret_rwz S hr hlk hK (by decide) I h d_Mo_edge_193
set_option maxHeartbeats 4000000 in
set_option maxRecDepth 100000 in
theorem n_Mo_edge_100 {p : Program} {l : Launch} {e : Env} {s : State} {m : MethodId} {args : Array Value} {below : List Frame} {meth : Method} {c : Code} {D : va_G} {A : Nat → Prop} {ad : Nat → Nat} {cA : ClassId × ClassId × ClassId}  {x1 : Int32} {x2 : Int32} {x3 : Int32} {x4 : Int32} {Q : Int32 → Mo → Prop} (S : CallFix p m c b_Mo_edge 8 s args gtbl R_Mo) (hr : meth.sig.returnType = (some .boolean)) (hlk : meth.locks = false) (hK : gK D (tyA cA) s) (hA : ∀ q : Nat, s.heap.size ≤ q → A q) : ∀ (ls : Array Slot) (H : Heap) (locs : List Loc) (y0 : Int32) (mo : Mo), p_Mo_edge_100 x1 x2 x3 x4 Q y0 mo → lv_has ls 8 [(0, .ref (ad 0)), (1, .int x1), (3, .int x3), (4, .int x4)] → gIn D A s (wM ad cA) mo H locs → W p l e rm_Mo_edge s m args below meth c H locs 0 0 (qI D (tyA cA) A (wM ad cA) (fun u : Mo => u) (fun (r : Int32) (u : Mo) => Q r u) below args s) (F0 m 100 ls [.int y0]) := by
  intro ls H locs y0 mo h hl I
  refine lv_istore (lv' := [(5, .int y0), (0, .ref (ad 0)), (1, .int x1), (3, .int x3), (4, .int x4)]) S.1 S.2.1 d_Mo_edge_100 hl (by decide) rfl (fun ls hl => ?_)
  refine lv_aload_n S.1 S.2.1 d_Mo_edge_102 rfl (lv_at hl 1 rfl) ?_
  refine g_Mo_places S hK I.1 d_Mo_edge_103 ?_
  refine lv_iload_n S.1 S.2.1 d_Mo_edge_106 rfl (lv_at hl 2 rfl) ?_
  obtain ⟨hin, h⟩ := h
  refine a_Mo_places S hK I.1 hin d_Mo_edge_107 ?_
  refine lv_iconst (v := (1 : Int32)) S.1 S.2.1 d_Mo_edge_108 rfl ?_
  refine lv_icmp_le (tgt := 116) S.1 S.2.1 d_Mo_edge_109 (by decide) (fun hc => ?_) (fun hc => ?_)
  · have h := h.1 hc
    refine lv_iconst (v := (-1 : Int32)) S.1 S.2.1 d_Mo_edge_116 rfl ?_
    refine lv_istore (lv' := [(6, .int (-1 : Int32)), (5, .int y0), (0, .ref (ad 0)), (1, .int x1), (3, .int x3), (4, .int x4)]) S.1 S.2.1 d_Mo_edge_117 hl (by decide) rfl (fun ls hl => ?_)
    refine lv_iconst (v := (0 : Int32)) S.1 S.2.1 d_Mo_edge_119 rfl ?_
    refine lv_istore (lv' := [(7, .int (0 : Int32)), (6, .int (-1 : Int32)), (5, .int y0), (0, .ref (ad 0)), (1, .int x1), (3, .int x3), (4, .int x4)]) S.1 S.2.1 d_Mo_edge_120 hl (by decide) rfl (fun ls hl => ?_)
    obtain ⟨n', h⟩ := h
    exact n_Mo_edge_122 S hr hlk hK hA n' _ _ _ _ _ _ _ h (lv_sub hl [3, 4, 6, 2, 1, 0] rfl) I
  · have h := h.2 hc
    refine lv_iload_n S.1 S.2.1 d_Mo_edge_112 rfl (lv_at hl 3 rfl) ?_
    refine lv_goto (tgt := 117) S.1 S.2.1 d_Mo_edge_113 (by decide) ?_
    refine lv_istore (lv' := [(6, .int x3), (5, .int y0), (0, .ref (ad 0)), (1, .int x1), (3, .int x3), (4, .int x4)]) S.1 S.2.1 d_Mo_edge_117 hl (by decide) rfl (fun ls hl => ?_)
    refine lv_iconst (v := (0 : Int32)) S.1 S.2.1 d_Mo_edge_119 rfl ?_
    refine lv_istore (lv' := [(7, .int (0 : Int32)), (6, .int x3), (5, .int y0), (0, .ref (ad 0)), (1, .int x1), (3, .int x3), (4, .int x4)]) S.1 S.2.1 d_Mo_edge_120 hl (by decide) rfl (fun ls hl => ?_)
    obtain ⟨n', h⟩ := h
    exact n_Mo_edge_122 S hr hlk hK hA n' _ _ _ _ _ _ _ h (lv_sub hl [3, 4, 6, 2, 1, 0] rfl) I
set_option maxHeartbeats 4000000 in
set_option maxRecDepth 100000 in
theorem n_Mo_edge_74 {p : Program} {l : Launch} {e : Env} {s : State} {m : MethodId} {args : Array Value} {below : List Frame} {meth : Method} {c : Code} {D : va_G} {A : Nat → Prop} {ad : Nat → Nat} {cA : ClassId × ClassId × ClassId}  {x1 : Int32} {x2 : Int32} {x3 : Int32} {x4 : Int32} {Q : Int32 → Mo → Prop} (S : CallFix p m c b_Mo_edge 8 s args gtbl R_Mo) (hr : meth.sig.returnType = (some .boolean)) (hlk : meth.locks = false) (hK : gK D (tyA cA) s) (hA : ∀ q : Nat, s.heap.size ≤ q → A q) : ∀ (ls : Array Slot) (H : Heap) (locs : List Loc) (y0 : Int32) (mo : Mo), p_Mo_edge_74 x1 x2 x3 x4 Q y0 mo → lv_has ls 8 [(0, .ref (ad 0)), (1, .int x1), (2, .int x2), (3, .int x3), (4, .int x4)] → gIn D A s (wM ad cA) mo H locs → W p l e rm_Mo_edge s m args below meth c H locs 0 0 (qI D (tyA cA) A (wM ad cA) (fun u : Mo => u) (fun (r : Int32) (u : Mo) => Q r u) below args s) (F0 m 74 ls [.int y0, .ref (ad 0)]) := by
  intro ls H locs y0 mo h hl I
  refine q_Mo_thrown S hK I d_Mo_edge_74 (fun H locs mo74 emo74 I => ?_)
  have h := h mo74 emo74
  refine lv_aload_n S.1 S.2.1 d_Mo_edge_77 rfl (lv_at hl 0 rfl) ?_
  refine g_Mo_thrown S hK I.1 d_Mo_edge_78 ?_
  refine lv_if_le (tgt := 86) S.1 S.2.1 d_Mo_edge_81 (by decide) (fun hc => ?_) (fun hc => ?_)
  · have h := h.1 hc
    refine lv_aload_n S.1 S.2.1 d_Mo_edge_86 rfl (lv_at hl 0 rfl) ?_
    refine g_Mo_places S hK I.1 d_Mo_edge_87 ?_
    refine lv_iload_n S.1 S.2.1 d_Mo_edge_90 rfl (lv_at hl 1 rfl) ?_
    obtain ⟨hin, h⟩ := h
    refine a_Mo_places S hK I.1 hin d_Mo_edge_91 ?_
    refine lv_if_le (tgt := 99) S.1 S.2.1 d_Mo_edge_92 (by decide) (fun hc => ?_) (fun hc => ?_)
    · have h := h.1 hc
      refine lv_iconst (v := (-1 : Int32)) S.1 S.2.1 d_Mo_edge_99 rfl ?_
      exact n_Mo_edge_100 S hr hlk hK hA _ _ _ _ _ h (lv_sub hl [0, 1, 3, 4] rfl) I
    · have h := h.2 hc
      refine lv_iload_n S.1 S.2.1 d_Mo_edge_95 rfl (lv_at hl 2 rfl) ?_
      refine lv_goto (tgt := 100) S.1 S.2.1 d_Mo_edge_96 (by decide) ?_
      exact n_Mo_edge_100 S hr hlk hK hA _ _ _ _ _ h (lv_sub hl [0, 1, 3, 4] rfl) I
  · have h := h.2 hc
    refine lv_iconst (v := (0 : Int32)) S.1 S.2.1 d_Mo_edge_84 rfl ?_
    exact ret_rwz S hr hlk hK (by decide) I h d_Mo_edge_85
set_option maxHeartbeats 4000000 in
set_option maxRecDepth 100000 in
theorem n_Mo_edge_73 {p : Program} {l : Launch} {e : Env} {s : State} {m : MethodId} {args : Array Value} {below : List Frame} {meth : Method} {c : Code} {D : va_G} {A : Nat → Prop} {ad : Nat → Nat} {cA : ClassId × ClassId × ClassId}  {x1 : Int32} {x2 : Int32} {x3 : Int32} {x4 : Int32} {Q : Int32 → Mo → Prop} (S : CallFix p m c b_Mo_edge 8 s args gtbl R_Mo) (hr : meth.sig.returnType = (some .boolean)) (hlk : meth.locks = false) (hK : gK D (tyA cA) s) (hA : ∀ q : Nat, s.heap.size ≤ q → A q) : ∀ (ls : Array Slot) (H : Heap) (locs : List Loc) (mo : Mo), p_Mo_edge_73 x1 x2 x3 x4 Q mo → lv_has ls 8 [(0, .ref (ad 0)), (1, .int x1), (2, .int x2), (3, .int x3), (4, .int x4)] → gIn D A s (wM ad cA) mo H locs → W p l e rm_Mo_edge s m args below meth c H locs 0 0 (qI D (tyA cA) A (wM ad cA) (fun u : Mo => u) (fun (r : Int32) (u : Mo) => Q r u) below args s) (F0 m 73 ls [.ref (ad 0)]) := by
  intro ls H locs mo h hl I
  refine lv_iconst (v := (0 : Int32)) S.1 S.2.1 d_Mo_edge_73 rfl ?_
  exact n_Mo_edge_74 S hr hlk hK hA _ _ _ _ _ h (lv_sub hl [0, 1, 2, 3, 4] rfl) I
set_option maxHeartbeats 4000000 in
set_option maxRecDepth 100000 in
theorem n_Mo_edge_69 {p : Program} {l : Launch} {e : Env} {s : State} {m : MethodId} {args : Array Value} {below : List Frame} {meth : Method} {c : Code} {D : va_G} {A : Nat → Prop} {ad : Nat → Nat} {cA : ClassId × ClassId × ClassId}  {x1 : Int32} {x2 : Int32} {x3 : Int32} {x4 : Int32} {Q : Int32 → Mo → Prop} (S : CallFix p m c b_Mo_edge 8 s args gtbl R_Mo) (hr : meth.sig.returnType = (some .boolean)) (hlk : meth.locks = false) (hK : gK D (tyA cA) s) (hA : ∀ q : Nat, s.heap.size ≤ q → A q) : ∀ (ls : Array Slot) (H : Heap) (locs : List Loc) (mo : Mo), p_Mo_edge_69 x1 x2 x3 x4 Q mo → lv_has ls 8 [(0, .ref (ad 0)), (1, .int x1), (2, .int x2), (3, .int x3), (4, .int x4)] → gIn D A s (wM ad cA) mo H locs → W p l e rm_Mo_edge s m args below meth c H locs 0 0 (qI D (tyA cA) A (wM ad cA) (fun u : Mo => u) (fun (r : Int32) (u : Mo) => Q r u) below args s) (F0 m 69 ls [.ref (ad 0)]) := by
  intro ls H locs mo h hl I
  refine lv_iconst (v := (1 : Int32)) S.1 S.2.1 d_Mo_edge_69 rfl ?_
  refine lv_goto (tgt := 74) S.1 S.2.1 d_Mo_edge_70 (by decide) ?_
  exact n_Mo_edge_74 S hr hlk hK hA _ _ _ _ _ h (lv_sub hl [0, 1, 2, 3, 4] rfl) I
set_option maxHeartbeats 4000000 in
set_option maxRecDepth 100000 in
theorem n_Mo_edge_52 {p : Program} {l : Launch} {e : Env} {s : State} {m : MethodId} {args : Array Value} {below : List Frame} {meth : Method} {c : Code} {D : va_G} {A : Nat → Prop} {ad : Nat → Nat} {cA : ClassId × ClassId × ClassId}  {x1 : Int32} {x2 : Int32} {x3 : Int32} {x4 : Int32} {Q : Int32 → Mo → Prop} (S : CallFix p m c b_Mo_edge 8 s args gtbl R_Mo) (hr : meth.sig.returnType = (some .boolean)) (hlk : meth.locks = false) (hK : gK D (tyA cA) s) (hA : ∀ q : Nat, s.heap.size ≤ q → A q) : ∀ (ls : Array Slot) (H : Heap) (locs : List Loc) (mo : Mo), p_Mo_edge_52 x1 x2 x3 x4 Q mo → lv_has ls 8 [(0, .ref (ad 0)), (1, .int x1), (2, .int x2), (3, .int x3), (4, .int x4)] → gIn D A s (wM ad cA) mo H locs → W p l e rm_Mo_edge s m args below meth c H locs 0 0 (qI D (tyA cA) A (wM ad cA) (fun u : Mo => u) (fun (r : Int32) (u : Mo) => Q r u) below args s) (F0 m 52 ls [.ref (ad 0)]) := by
  intro ls H locs mo h hl I
  refine lv_aload_n S.1 S.2.1 d_Mo_edge_52 rfl (lv_at hl 0 rfl) ?_
  refine g_Mo_places S hK I.1 d_Mo_edge_53 ?_
  refine lv_iload_n S.1 S.2.1 d_Mo_edge_56 rfl (lv_at hl 1 rfl) ?_
  obtain ⟨hin, h⟩ := h
  refine a_Mo_places S hK I.1 hin d_Mo_edge_57 ?_
  refine lv_iconst (v := (1 : Int32)) S.1 S.2.1 d_Mo_edge_58 rfl ?_
  refine lv_icmp_le (tgt := 73) S.1 S.2.1 d_Mo_edge_59 (by decide) (fun hc => ?_) (fun hc => ?_)
  · have h := h.1 hc
    exact n_Mo_edge_73 S hr hlk hK hA _ _ _ _ h (lv_sub hl [0, 1, 2, 3, 4] rfl) I
  · have h := h.2 hc
    refine lv_iload_n S.1 S.2.1 d_Mo_edge_62 rfl (lv_at hl 3 rfl) ?_
    refine callS_roi S (c_Mo_isState l D ad cA _ _ _ h) (mkS S.2.2.2.2 ml_Mo_106 k_Mo_isState rfl rfl ⟨Nat.le_of_ble_eq_true rfl, Nat.le_of_ble_eq_true rfl⟩) hK I.1 hl.1 rfl rfl (Nat.le_of_ble_eq_true rfl) d_Mo_edge_63 ⟨Nat.zero_le _, Nat.zero_le _⟩ (fun r63 h => ?_)
    refine lv_if_ne (tgt := 73) S.1 S.2.1 d_Mo_edge_66 (by decide) (fun hc => ?_) (fun hc => ?_)
    · have h := h.1 hc
      exact n_Mo_edge_73 S hr hlk hK hA _ _ _ _ h (lv_sub hl [0, 1, 2, 3, 4] rfl) I
    · have h := h.2 hc
      exact n_Mo_edge_69 S hr hlk hK hA _ _ _ _ h (lv_sub hl [0, 1, 2, 3, 4] rfl) I
set_option maxHeartbeats 4000000 in
set_option maxRecDepth 100000 in
theorem n_Mo_edge_23 {p : Program} {l : Launch} {e : Env} {s : State} {m : MethodId} {args : Array Value} {below : List Frame} {meth : Method} {c : Code} {D : va_G} {A : Nat → Prop} {ad : Nat → Nat} {cA : ClassId × ClassId × ClassId}  {x1 : Int32} {x2 : Int32} {x3 : Int32} {x4 : Int32} {Q : Int32 → Mo → Prop} (S : CallFix p m c b_Mo_edge 8 s args gtbl R_Mo) (hr : meth.sig.returnType = (some .boolean)) (hlk : meth.locks = false) (hK : gK D (tyA cA) s) (hA : ∀ q : Nat, s.heap.size ≤ q → A q) : ∀ (ls : Array Slot) (H : Heap) (locs : List Loc) (y0 : Int32) (mo : Mo), p_Mo_edge_23 x1 x2 x3 x4 Q y0 mo → lv_has ls 8 [(0, .ref (ad 0)), (1, .int x1), (2, .int x2), (3, .int x3), (4, .int x4)] → gIn D A s (wM ad cA) mo H locs → W p l e rm_Mo_edge s m args below meth c H locs 0 0 (qI D (tyA cA) A (wM ad cA) (fun u : Mo => u) (fun (r : Int32) (u : Mo) => Q r u) below args s) (F0 m 23 ls [.int y0, .ref (ad 0)]) := by
  intro ls H locs y0 mo h hl I
  refine q_Mo_thrown S hK I d_Mo_edge_23 (fun H locs mo23 emo23 I => ?_)
  have h := h mo23 emo23
  refine lv_aload_n S.1 S.2.1 d_Mo_edge_26 rfl (lv_at hl 0 rfl) ?_
  refine g_Mo_thrown S hK I.1 d_Mo_edge_27 ?_
  refine lv_if_le (tgt := 35) S.1 S.2.1 d_Mo_edge_30 (by decide) (fun hc => ?_) (fun hc => ?_)
  · have h := h.1 hc
    refine lv_aload_n S.1 S.2.1 d_Mo_edge_35 rfl (lv_at hl 0 rfl) ?_
    refine lv_aload_n S.1 S.2.1 d_Mo_edge_36 rfl (lv_at hl 0 rfl) ?_
    refine g_Mo_places S hK I.1 d_Mo_edge_37 ?_
    refine lv_iload_n S.1 S.2.1 d_Mo_edge_40 rfl (lv_at hl 1 rfl) ?_
    obtain ⟨hin, h⟩ := h
    refine a_Mo_places S hK I.1 hin d_Mo_edge_41 ?_
    refine lv_if_le (tgt := 52) S.1 S.2.1 d_Mo_edge_42 (by decide) (fun hc => ?_) (fun hc => ?_)
    · have h := h.1 hc
      exact n_Mo_edge_52 S hr hlk hK hA _ _ _ _ h (lv_sub hl [0, 1, 2, 3, 4] rfl) I
    · have h := h.2 hc
      refine lv_iload_n S.1 S.2.1 d_Mo_edge_45 rfl (lv_at hl 2 rfl) ?_
      refine callS_roi S (c_Mo_isState l D ad cA _ _ _ h) (mkS S.2.2.2.2 ml_Mo_106 k_Mo_isState rfl rfl ⟨Nat.le_of_ble_eq_true rfl, Nat.le_of_ble_eq_true rfl⟩) hK I.1 hl.1 rfl rfl (Nat.le_of_ble_eq_true rfl) d_Mo_edge_46 ⟨Nat.zero_le _, Nat.zero_le _⟩ (fun r46 h => ?_)
      refine lv_if_eq (tgt := 69) S.1 S.2.1 d_Mo_edge_49 (by decide) (fun hc => ?_) (fun hc => ?_)
      · have h := h.1 hc
        exact n_Mo_edge_69 S hr hlk hK hA _ _ _ _ h (lv_sub hl [0, 1, 2, 3, 4] rfl) I
      · have h := h.2 hc
        exact n_Mo_edge_52 S hr hlk hK hA _ _ _ _ h (lv_sub hl [0, 1, 2, 3, 4] rfl) I
  · have h := h.2 hc
    refine lv_iconst (v := (0 : Int32)) S.1 S.2.1 d_Mo_edge_33 rfl ?_
    exact ret_rwz S hr hlk hK (by decide) I h d_Mo_edge_34
set_option maxHeartbeats 4000000 in
set_option maxRecDepth 100000 in
theorem n_Mo_edge_18 {p : Program} {l : Launch} {e : Env} {s : State} {m : MethodId} {args : Array Value} {below : List Frame} {meth : Method} {c : Code} {D : va_G} {A : Nat → Prop} {ad : Nat → Nat} {cA : ClassId × ClassId × ClassId}  {x1 : Int32} {x2 : Int32} {x3 : Int32} {x4 : Int32} {Q : Int32 → Mo → Prop} (S : CallFix p m c b_Mo_edge 8 s args gtbl R_Mo) (hr : meth.sig.returnType = (some .boolean)) (hlk : meth.locks = false) (hK : gK D (tyA cA) s) (hA : ∀ q : Nat, s.heap.size ≤ q → A q) : ∀ (ls : Array Slot) (H : Heap) (locs : List Loc) (mo : Mo), p_Mo_edge_18 x1 x2 x3 x4 Q mo → lv_has ls 8 [(0, .ref (ad 0)), (1, .int x1), (2, .int x2), (3, .int x3), (4, .int x4)] → gIn D A s (wM ad cA) mo H locs → W p l e rm_Mo_edge s m args below meth c H locs 0 0 (qI D (tyA cA) A (wM ad cA) (fun u : Mo => u) (fun (r : Int32) (u : Mo) => Q r u) below args s) (F0 m 18 ls [.ref (ad 0)]) := by
  intro ls H locs mo h hl I
  refine lv_iconst (v := (1 : Int32)) S.1 S.2.1 d_Mo_edge_18 rfl ?_
  refine lv_goto (tgt := 23) S.1 S.2.1 d_Mo_edge_19 (by decide) ?_
  exact n_Mo_edge_23 S hr hlk hK hA _ _ _ _ _ h (lv_sub hl [0, 1, 2, 3, 4] rfl) I
set_option maxHeartbeats 4000000 in
set_option maxRecDepth 100000 in
theorem c_Mo_edge (l : Launch) (D : va_G) (ad : Nat → Nat) (cA : ClassId × ClassId × ClassId) (mo : Mo) (x1 : Int32) (x2 : Int32) (x3 : Int32) (x4 : Int32) (Q : Int32 → Mo → Prop) (h : p_Mo_edge x1 x2 x3 x4 mo Q) : rwI l y_Mo_edge (wsOf y_Mo_edge b_Mo_edge 8 (some .boolean)) rm_Mo_edge D (tyA cA) (wM ad cA) [.ref (ad 0), .int x1, .int x2, .int x3, .int x4] mo (fun u : Mo => u) (fun (r : Int32) (u : Mo) => Q r u) := by
  refine rwI_of (by decide) (Nat.le_of_ble_eq_true rfl) ?_
  intro p e s m below meth c S hr hlk hK A hA I ls hl
  have hl : lv_has ls 8 [(0, .ref (ad 0)), (1, .int x1), (2, .int x2), (3, .int x3), (4, .int x4)] := hl
  refine lv_aload_n S.1 S.2.1 d_Mo_edge_0 rfl (lv_at hl 0 rfl) ?_
  refine lv_iload_n S.1 S.2.1 d_Mo_edge_1 rfl (lv_at hl 1 rfl) ?_
  refine lv_if_lt (tgt := 18) S.1 S.2.1 d_Mo_edge_2 (by decide) (fun hc => ?_) (fun hc => ?_)
  · have h := h.1 hc
    exact n_Mo_edge_18 S hr hlk hK hA _ _ _ _ h (lv_sub hl [0, 1, 2, 3, 4] rfl) I
  · have h := h.2 hc
    refine lv_iload_n S.1 S.2.1 d_Mo_edge_5 rfl (lv_at hl 1 rfl) ?_
    refine lv_iconst (v := (5 : Int32)) S.1 S.2.1 d_Mo_edge_6 rfl ?_
    refine lv_icmp_gt (tgt := 18) S.1 S.2.1 d_Mo_edge_7 (by decide) (fun hc => ?_) (fun hc => ?_)
    · have h := h.1 hc
      exact n_Mo_edge_18 S hr hlk hK hA _ _ _ _ h (lv_sub hl [0, 1, 2, 3, 4] rfl) I
    · have h := h.2 hc
      refine lv_iload S.1 S.2.1 d_Mo_edge_10 (lv_at hl 4 rfl) ?_
      refine callS_roi S (c_Mo_isState l D ad cA _ _ _ h) (mkS S.2.2.2.2 ml_Mo_106 k_Mo_isState rfl rfl ⟨Nat.le_of_ble_eq_true rfl, Nat.le_of_ble_eq_true rfl⟩) hK I.1 hl.1 rfl rfl (Nat.le_of_ble_eq_true rfl) d_Mo_edge_12 ⟨Nat.zero_le _, Nat.zero_le _⟩ (fun r12 h => ?_)
      refine lv_if_ne (tgt := 22) S.1 S.2.1 d_Mo_edge_15 (by decide) (fun hc => ?_) (fun hc => ?_)
      · have h := h.1 hc
        refine lv_iconst (v := (0 : Int32)) S.1 S.2.1 d_Mo_edge_22 rfl ?_
        exact n_Mo_edge_23 S hr hlk hK hA _ _ _ _ _ h (lv_sub hl [0, 1, 2, 3, 4] rfl) I
      · have h := h.2 hc
        exact n_Mo_edge_18 S hr hlk hK hA _ _ _ _ h (lv_sub hl [0, 1, 2, 3, 4] rfl) I

set_option maxHeartbeats 4000000 in
set_option maxRecDepth 100000 in
theorem n_Mo_mark_58 {p : Program} {l : Launch} {e : Env} {s : State} {m : MethodId} {args : Array Value} {below : List Frame} {meth : Method} {c : Code} {D : va_G} {A : Nat → Prop} {ad : Nat → Nat} {cA : ClassId × ClassId × ClassId}  {x1 : Int32} {x2 : Int32} {Q : Int32 → Mo → Prop} (S : CallFix p m c b_Mo_mark 4 s args gtbl R_Mo) (hr : meth.sig.returnType = (some .boolean)) (hlk : meth.locks = false) (hK : gK D (tyA cA) s) (hA : ∀ q : Nat, s.heap.size ≤ q → A q) : ∀ (ls : Array Slot) (H : Heap) (locs : List Loc) (x3 : Int32) (y0 : Int32) (mo : Mo), p_Mo_mark_58 x1 x2 Q x3 y0 mo → lv_has ls 4 [(2, .int x2), (3, .int x3)] → gIn D A s (wM ad cA) mo H locs → W p l e rm_Mo_mark s m args below meth c H locs 0 0 (qI D (tyA cA) A (wM ad cA) (fun u : Mo => u) (fun (r : Int32) (u : Mo) => Q r u) below args s) (F0 m 58 ls [.int y0, .ref (ad 0)]) := by
  intro ls H locs x3 y0 mo h hl I
  refine q_Mo_finals S hK I d_Mo_mark_58 (fun H locs mo58 emo58 I => ?_)
  have h := h mo58 emo58
  refine lv_iload_n S.1 S.2.1 d_Mo_mark_61 rfl (lv_at hl 1 rfl) ?_
  refine lv_iload_n S.1 S.2.1 d_Mo_mark_62 rfl (lv_at hl 0 rfl) ?_
  refine lv_icmp_eq (tgt := 70) S.1 S.2.1 d_Mo_mark_63 (by decide) (fun hc => ?_) (fun hc => ?_)
  · have h := h.1 hc
    refine lv_iconst (v := (0 : Int32)) S.1 S.2.1 d_Mo_mark_70 rfl ?_
    exact ret_rwz S hr hlk hK (by decide) I h d_Mo_mark_71
  · have h := h.2 hc
    refine lv_iconst (v := (1 : Int32)) S.1 S.2.1 d_Mo_mark_66 rfl ?_
    refine lv_goto (tgt := 71) S.1 S.2.1 d_Mo_mark_67 (by decide) ?_
    exact ret_rwz S hr hlk hK (by decide) I h d_Mo_mark_71
set_option maxHeartbeats 4000000 in
set_option maxRecDepth 100000 in
theorem n_Mo_mark_31 {p : Program} {l : Launch} {e : Env} {s : State} {m : MethodId} {args : Array Value} {below : List Frame} {meth : Method} {c : Code} {D : va_G} {A : Nat → Prop} {ad : Nat → Nat} {cA : ClassId × ClassId × ClassId}  {x1 : Int32} {x2 : Int32} {Q : Int32 → Mo → Prop} (S : CallFix p m c b_Mo_mark 4 s args gtbl R_Mo) (hr : meth.sig.returnType = (some .boolean)) (hlk : meth.locks = false) (hK : gK D (tyA cA) s) (hA : ∀ q : Nat, s.heap.size ≤ q → A q) : ∀ (ls : Array Slot) (H : Heap) (locs : List Loc) (y0 : Int32) (mo : Mo), p_Mo_mark_31 x1 x2 Q y0 mo → lv_has ls 4 [(0, .ref (ad 0)), (1, .int x1), (2, .int x2)] → gIn D A s (wM ad cA) mo H locs → W p l e rm_Mo_mark s m args below meth c H locs 0 0 (qI D (tyA cA) A (wM ad cA) (fun u : Mo => u) (fun (r : Int32) (u : Mo) => Q r u) below args s) (F0 m 31 ls [.int y0]) := by
  intro ls H locs y0 mo h hl I
  refine lv_istore_n (lv' := [(3, .int y0), (0, .ref (ad 0)), (1, .int x1), (2, .int x2)]) S.1 S.2.1 d_Mo_mark_31 rfl hl (by decide) rfl (fun ls hl => ?_)
  refine lv_aload_n S.1 S.2.1 d_Mo_mark_32 rfl (lv_at hl 1 rfl) ?_
  refine lv_iload_n S.1 S.2.1 d_Mo_mark_33 rfl (lv_at hl 3 rfl) ?_
  refine lv_if_eq (tgt := 48) S.1 S.2.1 d_Mo_mark_34 (by decide) (fun hc => ?_) (fun hc => ?_)
  · have h := h.1 hc
    refine lv_aload_n S.1 S.2.1 d_Mo_mark_48 rfl (lv_at hl 1 rfl) ?_
    refine g_Mo_finals S hK I.1 d_Mo_mark_49 ?_
    refine lv_iconst (v := (1 : Int32)) S.1 S.2.1 d_Mo_mark_52 rfl ?_
    refine lv_iload_n S.1 S.2.1 d_Mo_mark_53 rfl (lv_at hl 2 rfl) ?_
    refine lv_ishl S.1 S.2.1 d_Mo_mark_54 ?_
    refine lv_iconst (v := (-1 : Int32)) S.1 S.2.1 d_Mo_mark_55 rfl ?_
    refine lv_ixor S.1 S.2.1 d_Mo_mark_56 ?_
    refine lv_iand S.1 S.2.1 d_Mo_mark_57 ?_
    exact n_Mo_mark_58 S hr hlk hK hA _ _ _ _ _ _ h (lv_sub hl [3, 0] rfl) I
  · have h := h.2 hc
    refine lv_aload_n S.1 S.2.1 d_Mo_mark_37 rfl (lv_at hl 1 rfl) ?_
    refine g_Mo_finals S hK I.1 d_Mo_mark_38 ?_
    refine lv_iconst (v := (1 : Int32)) S.1 S.2.1 d_Mo_mark_41 rfl ?_
    refine lv_iload_n S.1 S.2.1 d_Mo_mark_42 rfl (lv_at hl 2 rfl) ?_
    refine lv_ishl S.1 S.2.1 d_Mo_mark_43 ?_
    refine lv_ior S.1 S.2.1 d_Mo_mark_44 ?_
    refine lv_goto (tgt := 58) S.1 S.2.1 d_Mo_mark_45 (by decide) ?_
    exact n_Mo_mark_58 S hr hlk hK hA _ _ _ _ _ _ h (lv_sub hl [3, 0] rfl) I
set_option maxHeartbeats 4000000 in
set_option maxRecDepth 100000 in
theorem c_Mo_mark (l : Launch) (D : va_G) (ad : Nat → Nat) (cA : ClassId × ClassId × ClassId) (mo : Mo) (x1 : Int32) (x2 : Int32) (Q : Int32 → Mo → Prop) (h : p_Mo_mark x1 x2 mo Q) : rwI l y_Mo_mark (wsOf y_Mo_mark b_Mo_mark 4 (some .boolean)) rm_Mo_mark D (tyA cA) (wM ad cA) [.ref (ad 0), .int x1, .int x2] mo (fun u : Mo => u) (fun (r : Int32) (u : Mo) => Q r u) := by
  refine rwI_of (by decide) (Nat.le_of_ble_eq_true rfl) ?_
  intro p e s m below meth c S hr hlk hK A hA I ls hl
  have hl : lv_has ls 4 [(0, .ref (ad 0)), (1, .int x1), (2, .int x2)] := hl
  refine lv_aload_n S.1 S.2.1 d_Mo_mark_0 rfl (lv_at hl 0 rfl) ?_
  refine lv_iconst (v := (0 : Int32)) S.1 S.2.1 d_Mo_mark_1 rfl ?_
  refine q_Mo_thrown S hK I d_Mo_mark_2 (fun H locs mo2 emo2 I => ?_)
  have h := h mo2 emo2
  refine lv_iload_n S.1 S.2.1 d_Mo_mark_5 rfl (lv_at hl 1 rfl) ?_
  refine callS_roi S (c_Mo_isState l D ad cA _ _ _ h) (mkS S.2.2.2.2 ml_Mo_106 k_Mo_isState rfl rfl ⟨Nat.le_of_ble_eq_true rfl, Nat.le_of_ble_eq_true rfl⟩) hK I.1 hl.1 rfl rfl (Nat.le_of_ble_eq_true rfl) d_Mo_mark_6 ⟨Nat.zero_le _, Nat.zero_le _⟩ (fun r6 h => ?_)
  refine lv_if_ne (tgt := 14) S.1 S.2.1 d_Mo_mark_9 (by decide) (fun hc => ?_) (fun hc => ?_)
  · have h := h.1 hc
    refine lv_aload_n S.1 S.2.1 d_Mo_mark_14 rfl (lv_at hl 0 rfl) ?_
    refine g_Mo_finals S hK I.1 d_Mo_mark_15 ?_
    refine lv_iload_n S.1 S.2.1 d_Mo_mark_18 rfl (lv_at hl 1 rfl) ?_
    refine lv_ishr S.1 S.2.1 d_Mo_mark_19 ?_
    refine lv_iconst (v := (1 : Int32)) S.1 S.2.1 d_Mo_mark_20 rfl ?_
    refine lv_iand S.1 S.2.1 d_Mo_mark_21 ?_
    refine lv_iconst (v := (1 : Int32)) S.1 S.2.1 d_Mo_mark_22 rfl ?_
    refine lv_icmp_ne (tgt := 30) S.1 S.2.1 d_Mo_mark_23 (by decide) (fun hc => ?_) (fun hc => ?_)
    · have h := h.1 hc
      refine lv_iconst (v := (0 : Int32)) S.1 S.2.1 d_Mo_mark_30 rfl ?_
      exact n_Mo_mark_31 S hr hlk hK hA _ _ _ _ _ h (lv_sub hl [0, 1, 2] rfl) I
    · have h := h.2 hc
      refine lv_iconst (v := (1 : Int32)) S.1 S.2.1 d_Mo_mark_26 rfl ?_
      refine lv_goto (tgt := 31) S.1 S.2.1 d_Mo_mark_27 (by decide) ?_
      exact n_Mo_mark_31 S hr hlk hK hA _ _ _ _ _ h (lv_sub hl [0, 1, 2] rfl) I
  · have h := h.2 hc
    refine lv_iconst (v := (0 : Int32)) S.1 S.2.1 d_Mo_mark_12 rfl ?_
    exact ret_rwz S hr hlk hK (by decide) I h d_Mo_mark_13

set_option maxHeartbeats 4000000 in
set_option maxRecDepth 100000 in
theorem n_Mo_parts_goes_77 {p : Program} {l : Launch} {e : Env} {s : State} {m : MethodId} {args : Array Value} {below : List Frame} {meth : Method} {c : Code} {D : va_G} {ad : Nat → Nat} {cA : ClassId × ClassId × ClassId} {mo : Mo} {x2 : Int32} {x3 : Int32} {Q : Int32 → Prop} (S : CallFix p m c b_Mo_parts 4 s args gtbl R_Mo) (hr : meth.sig.returnType = (some .boolean)) (hlk : meth.locks = false) (hK : gK D (tyA cA) s) (hP : va_P D classes (wM ad cA mo) s.heap) : ∀ (ls : Array Slot) , p_Mo_parts_goes_77 x2 x3 mo Q  → lv_has ls 4 [] → W p l e rm_Mo_parts_goes s m args below meth c s.heap [] 0 0 (qRI Q below args s) (F0 m 77 ls []) := by
  intro ls  h hl
  refine lv_iconst (v := (1 : Int32)) S.1 S.2.1 d_Mo_parts_77 rfl ?_
  refine lv_goto (tgt := 82) S.1 S.2.1 d_Mo_parts_78 (by decide) ?_
  exact ret_roz S hr hlk (by decide) h d_Mo_parts_82
set_option maxHeartbeats 4000000 in
set_option maxRecDepth 100000 in
theorem n_Mo_parts_goes_47 {p : Program} {l : Launch} {e : Env} {s : State} {m : MethodId} {args : Array Value} {below : List Frame} {meth : Method} {c : Code} {D : va_G} {ad : Nat → Nat} {cA : ClassId × ClassId × ClassId} {mo : Mo} {x2 : Int32} {x3 : Int32} {Q : Int32 → Prop} (S : CallFix p m c b_Mo_parts 4 s args gtbl R_Mo) (hr : meth.sig.returnType = (some .boolean)) (hlk : meth.locks = false) (hK : gK D (tyA cA) s) (hP : va_P D classes (wM ad cA mo) s.heap) : ∀ (ls : Array Slot) , p_Mo_parts_goes_47 x2 x3 mo Q  → lv_has ls 4 [(0, .ref (ad 0)), (1, .ref (ad 8)), (2, .int x2), (3, .int x3)] → W p l e rm_Mo_parts_goes s m args below meth c s.heap [] 0 0 (qRI Q below args s) (F0 m 47 ls []) := by
  intro ls  h hl
  refine lv_aload_n S.1 S.2.1 d_Mo_parts_47 rfl (lv_at hl 0 rfl) ?_
  refine g_Mo_two S hK hP d_Mo_parts_48 ?_
  refine lv_iload_n S.1 S.2.1 d_Mo_parts_51 rfl (lv_at hl 2 rfl) ?_
  obtain ⟨hin, h⟩ := h
  refine a_Mo_two S hK hP hin d_Mo_parts_52 ?_
  refine lv_if_lt (tgt := 77) S.1 S.2.1 d_Mo_parts_53 (by decide) (fun hc => ?_) (fun hc => ?_)
  · have h := h.1 hc
    exact n_Mo_parts_goes_77 S hr hlk hK hP _ h (lv_sub hl [] rfl)
  · have h := h.2 hc
    refine lv_aload_n S.1 S.2.1 d_Mo_parts_56 rfl (lv_at hl 1 rfl) ?_
    refine lv_bipush (v := (48 : Int32)) S.1 S.2.1 d_Mo_parts_57 rfl ?_
    refine lv_aload_n S.1 S.2.1 d_Mo_parts_59 rfl (lv_at hl 0 rfl) ?_
    refine g_Mo_two S hK hP d_Mo_parts_60 ?_
    refine lv_iload_n S.1 S.2.1 d_Mo_parts_63 rfl (lv_at hl 2 rfl) ?_
    obtain ⟨hin, h⟩ := h
    refine a_Mo_two S hK hP hin d_Mo_parts_64 ?_
    refine lv_imul S.1 S.2.1 d_Mo_parts_65 ?_
    refine lv_aload_n S.1 S.2.1 d_Mo_parts_66 rfl (lv_at hl 0 rfl) ?_
    refine g_Mo_two S hK hP d_Mo_parts_67 ?_
    refine lv_iload_n S.1 S.2.1 d_Mo_parts_70 rfl (lv_at hl 3 rfl) ?_
    obtain ⟨hin, h⟩ := h
    refine a_Mo_two S hK hP hin d_Mo_parts_71 ?_
    refine lv_iadd S.1 S.2.1 d_Mo_parts_72 ?_
    obtain ⟨hin, h⟩ := h
    refine a_Mo_goes S hK hP hin d_Mo_parts_73 ?_
    refine lv_if_eq (tgt := 81) S.1 S.2.1 d_Mo_parts_74 (by decide) (fun hc => ?_) (fun hc => ?_)
    · have h := h.1 hc
      refine lv_iconst (v := (0 : Int32)) S.1 S.2.1 d_Mo_parts_81 rfl ?_
      exact ret_roz S hr hlk (by decide) h d_Mo_parts_82
    · have h := h.2 hc
      exact n_Mo_parts_goes_77 S hr hlk hK hP _ h (lv_sub hl [] rfl)
set_option maxHeartbeats 4000000 in
set_option maxRecDepth 100000 in
theorem c_Mo_parts_goes (l : Launch) (D : va_G) (ad : Nat → Nat) (cA : ClassId × ClassId × ClassId) (mo : Mo) (x2 : Int32) (x3 : Int32) (Q : Int32 → Prop) (h : p_Mo_parts_goes x2 x3 mo Q) : roI l y_Mo_parts (wsOf y_Mo_parts b_Mo_parts 4 (some .boolean)) rm_Mo_parts_goes D (tyA cA) (wM ad cA) [.ref (ad 0), .ref (ad 8), .int x2, .int x3] mo Q := by
  refine roI_of (by decide) (Nat.le_of_ble_eq_true rfl) ?_
  intro p e s m below meth c S hr hlk hK hP ls hl
  have hl : lv_has ls 4 [(0, .ref (ad 0)), (1, .ref (ad 8)), (2, .int x2), (3, .int x3)] := hl
  refine lv_aload_n S.1 S.2.1 d_Mo_parts_0 rfl (lv_at hl 0 rfl) ?_
  refine g_Mo_symbol S hK hP d_Mo_parts_1 ?_
  refine lv_iload_n S.1 S.2.1 d_Mo_parts_4 rfl (lv_at hl 2 rfl) ?_
  obtain ⟨hin, h⟩ := h
  refine a_Mo_symbol S hK hP hin d_Mo_parts_5 ?_
  refine lv_aload_n S.1 S.2.1 d_Mo_parts_6 rfl (lv_at hl 0 rfl) ?_
  refine g_Mo_symbol S hK hP d_Mo_parts_7 ?_
  refine lv_iload_n S.1 S.2.1 d_Mo_parts_10 rfl (lv_at hl 3 rfl) ?_
  obtain ⟨hin, h⟩ := h
  refine a_Mo_symbol S hK hP hin d_Mo_parts_11 ?_
  refine lv_icmp_eq (tgt := 17) S.1 S.2.1 d_Mo_parts_12 (by decide) (fun hc => ?_) (fun hc => ?_)
  · have h := h.1 hc
    refine lv_aload_n S.1 S.2.1 d_Mo_parts_17 rfl (lv_at hl 0 rfl) ?_
    refine g_Mo_one S hK hP d_Mo_parts_18 ?_
    refine lv_iload_n S.1 S.2.1 d_Mo_parts_21 rfl (lv_at hl 2 rfl) ?_
    obtain ⟨hin, h⟩ := h
    refine a_Mo_one S hK hP hin d_Mo_parts_22 ?_
    refine lv_if_lt (tgt := 47) S.1 S.2.1 d_Mo_parts_23 (by decide) (fun hc => ?_) (fun hc => ?_)
    · have h := h.1 hc
      exact n_Mo_parts_goes_47 S hr hlk hK hP _ h (lv_sub hl [0, 1, 2, 3] rfl)
    · have h := h.2 hc
      refine lv_aload_n S.1 S.2.1 d_Mo_parts_26 rfl (lv_at hl 1 rfl) ?_
      refine lv_bipush (v := (48 : Int32)) S.1 S.2.1 d_Mo_parts_27 rfl ?_
      refine lv_aload_n S.1 S.2.1 d_Mo_parts_29 rfl (lv_at hl 0 rfl) ?_
      refine g_Mo_one S hK hP d_Mo_parts_30 ?_
      refine lv_iload_n S.1 S.2.1 d_Mo_parts_33 rfl (lv_at hl 2 rfl) ?_
      obtain ⟨hin, h⟩ := h
      refine a_Mo_one S hK hP hin d_Mo_parts_34 ?_
      refine lv_imul S.1 S.2.1 d_Mo_parts_35 ?_
      refine lv_aload_n S.1 S.2.1 d_Mo_parts_36 rfl (lv_at hl 0 rfl) ?_
      refine g_Mo_one S hK hP d_Mo_parts_37 ?_
      refine lv_iload_n S.1 S.2.1 d_Mo_parts_40 rfl (lv_at hl 3 rfl) ?_
      obtain ⟨hin, h⟩ := h
      refine a_Mo_one S hK hP hin d_Mo_parts_41 ?_
      refine lv_iadd S.1 S.2.1 d_Mo_parts_42 ?_
      obtain ⟨hin, h⟩ := h
      refine a_Mo_goes S hK hP hin d_Mo_parts_43 ?_
      refine lv_if_eq (tgt := 81) S.1 S.2.1 d_Mo_parts_44 (by decide) (fun hc => ?_) (fun hc => ?_)
      · have h := h.1 hc
        refine lv_iconst (v := (0 : Int32)) S.1 S.2.1 d_Mo_parts_81 rfl ?_
        exact ret_roz S hr hlk (by decide) h d_Mo_parts_82
      · have h := h.2 hc
        exact n_Mo_parts_goes_47 S hr hlk hK hP _ h (lv_sub hl [0, 1, 2, 3] rfl)
  · have h := h.2 hc
    refine lv_iconst (v := (0 : Int32)) S.1 S.2.1 d_Mo_parts_15 rfl ?_
    exact ret_roz S hr hlk (by decide) h d_Mo_parts_16

set_option maxHeartbeats 4000000 in
set_option maxRecDepth 100000 in
theorem n_Mo_byRule_goes_57 {p : Program} {l : Launch} {e : Env} {s : State} {m : MethodId} {args : Array Value} {below : List Frame} {meth : Method} {c : Code} {D : va_G} {ad : Nat → Nat} {cA : ClassId × ClassId × ClassId} {mo : Mo} {x2 : Int32} {x3 : Int32} {Q : Int32 → Prop} (S : CallFix p m c b_Mo_byRule 6 s args gtbl R_Mo) (hr : meth.sig.returnType = (some .boolean)) (hlk : meth.locks = false) (hK : gK D (tyA cA) s) (hP : va_P D classes (wM ad cA mo) s.heap) {k6 : Int32 → Int32 → Prop} (hk6 : ∀ (ls : Array Slot) (x4 : Int32) (x5 : Int32), k6 x4 x5 → lv_has ls 6 [(0, .ref (ad 0)), (1, .ref (ad 8)), (2, .int x2), (3, .int x3), (4, .int x4), (5, .int x5)] → W p l e rm_Mo_byRule_goes s m args below meth c s.heap [] 0 0 (qRI Q below args s) (F0 m 6 ls [])) : ∀ (ls : Array Slot) (x5 : Int32), p_Mo_byRule_goes_57 x2 x3 mo Q k6 x5 → lv_has ls 6 [(0, .ref (ad 0)), (1, .ref (ad 8)), (2, .int x2), (3, .int x3), (5, .int x5)] → W p l e rm_Mo_byRule_goes s m args below meth c s.heap [] 0 0 (qRI Q below args s) (F0 m 57 ls []) := by
  intro ls x5 h hl
  refine lv_iconst (v := (1 : Int32)) S.1 S.2.1 d_Mo_byRule_57 rfl ?_
  refine lv_goto (tgt := 62) S.1 S.2.1 d_Mo_byRule_58 (by decide) ?_
  refine lv_istore (lv' := [(4, .int (1 : Int32)), (0, .ref (ad 0)), (1, .ref (ad 8)), (2, .int x2), (3, .int x3), (5, .int x5)]) S.1 S.2.1 d_Mo_byRule_62 hl (by decide) rfl (fun ls hl => ?_)
  refine lv_iinc (k := 5) (v := x5 + (1 : Int32)) (lv' := [(5, .int (x5 + (1 : Int32))), (4, .int (1 : Int32)), (0, .ref (ad 0)), (1, .ref (ad 8)), (2, .int x2), (3, .int x3)]) S.1 S.2.1 d_Mo_byRule_64 hl rfl rfl (by decide) rfl (fun ls hl => ?_)
  refine lv_goto (tgt := 6) S.1 S.2.1 d_Mo_byRule_67 (by decide) ?_
  exact hk6 _ _ _ h (lv_sub hl [2, 3, 4, 5, 1, 0] rfl)
set_option maxHeartbeats 4000000 in
set_option maxRecDepth 100000 in
theorem n_Mo_byRule_goes_6 {p : Program} {l : Launch} {e : Env} {s : State} {m : MethodId} {args : Array Value} {below : List Frame} {meth : Method} {c : Code} {D : va_G} {ad : Nat → Nat} {cA : ClassId × ClassId × ClassId} {mo : Mo} {x2 : Int32} {x3 : Int32} {Q : Int32 → Prop} (S : CallFix p m c b_Mo_byRule 6 s args gtbl R_Mo) (hr : meth.sig.returnType = (some .boolean)) (hlk : meth.locks = false) (hK : gK D (tyA cA) s) (hP : va_P D classes (wM ad cA mo) s.heap) : ∀ n : Nat, ∀ (ls : Array Slot) (x4 : Int32) (x5 : Int32), p_Mo_byRule_goes_6 x2 x3 mo Q n x4 x5 → lv_has ls 6 [(0, .ref (ad 0)), (1, .ref (ad 8)), (2, .int x2), (3, .int x3), (4, .int x4), (5, .int x5)] → W p l e rm_Mo_byRule_goes s m args below meth c s.heap [] 0 0 (qRI Q below args s) (F0 m 6 ls []) := by
  intro n
  induction n with
  | zero =>
    intro ls x4 x5 h
    exact (show False from h).elim
  | succ n ih =>
    intro ls x4 x5 h hl
    refine lv_iload S.1 S.2.1 d_Mo_byRule_6 (lv_at hl 5 rfl) ?_
    refine lv_aload_n S.1 S.2.1 d_Mo_byRule_8 rfl (lv_at hl 0 rfl) ?_
    refine g_Mo_rules S hK hP d_Mo_byRule_9 ?_
    refine lv_icmp_ge (tgt := 70) S.1 S.2.1 d_Mo_byRule_12 (by decide) (fun hc => ?_) (fun hc => ?_)
    · have h := h.1 hc
      refine lv_iload S.1 S.2.1 d_Mo_byRule_70 (lv_at hl 4 rfl) ?_
      obtain ⟨hz, h⟩ := h
      exact ret_roz S hr hlk (isB_n hz) h d_Mo_byRule_72
    · have h := h.2 hc
      refine lv_iload S.1 S.2.1 d_Mo_byRule_15 (lv_at hl 4 rfl) ?_
      refine lv_if_ne (tgt := 57) S.1 S.2.1 d_Mo_byRule_17 (by decide) (fun hc => ?_) (fun hc => ?_)
      · have h := h.1 hc
        exact n_Mo_byRule_goes_57 S hr hlk hK hP ih _ _ h (lv_sub hl [0, 1, 2, 3, 5] rfl)
      · have h := h.2 hc
        refine lv_aload_n S.1 S.2.1 d_Mo_byRule_20 rfl (lv_at hl 0 rfl) ?_
        refine g_Mo_goes S hK hP d_Mo_byRule_21 ?_
        refine lv_bipush (v := (48 : Int32)) S.1 S.2.1 d_Mo_byRule_24 rfl ?_
        refine lv_iload_n S.1 S.2.1 d_Mo_byRule_26 rfl (lv_at hl 2 rfl) ?_
        refine lv_imul S.1 S.2.1 d_Mo_byRule_27 ?_
        refine lv_aload_n S.1 S.2.1 d_Mo_byRule_28 rfl (lv_at hl 0 rfl) ?_
        refine g_Mo_left S hK hP d_Mo_byRule_29 ?_
        refine lv_iload S.1 S.2.1 d_Mo_byRule_32 (lv_at hl 5 rfl) ?_
        obtain ⟨hin, h⟩ := h
        refine a_Mo_left S hK hP hin d_Mo_byRule_34 ?_
        refine lv_iadd S.1 S.2.1 d_Mo_byRule_35 ?_
        obtain ⟨hin, h⟩ := h
        refine a_Mo_goes S hK hP hin d_Mo_byRule_36 ?_
        refine lv_if_eq (tgt := 61) S.1 S.2.1 d_Mo_byRule_37 (by decide) (fun hc => ?_) (fun hc => ?_)
        · have h := h.1 hc
          refine lv_iconst (v := (0 : Int32)) S.1 S.2.1 d_Mo_byRule_61 rfl ?_
          refine lv_istore (lv' := [(4, .int (0 : Int32)), (0, .ref (ad 0)), (1, .ref (ad 8)), (2, .int x2), (3, .int x3), (5, .int x5)]) S.1 S.2.1 d_Mo_byRule_62 hl (by decide) rfl (fun ls hl => ?_)
          refine lv_iinc (k := 5) (v := x5 + (1 : Int32)) (lv' := [(5, .int (x5 + (1 : Int32))), (4, .int (0 : Int32)), (0, .ref (ad 0)), (1, .ref (ad 8)), (2, .int x2), (3, .int x3)]) S.1 S.2.1 d_Mo_byRule_64 hl rfl rfl (by decide) rfl (fun ls hl => ?_)
          refine lv_goto (tgt := 6) S.1 S.2.1 d_Mo_byRule_67 (by decide) ?_
          exact ih _ _ _ h (lv_sub hl [2, 3, 4, 5, 1, 0] rfl)
        · have h := h.2 hc
          refine lv_aload_n S.1 S.2.1 d_Mo_byRule_40 rfl (lv_at hl 1 rfl) ?_
          refine lv_bipush (v := (48 : Int32)) S.1 S.2.1 d_Mo_byRule_41 rfl ?_
          refine lv_aload_n S.1 S.2.1 d_Mo_byRule_43 rfl (lv_at hl 0 rfl) ?_
          refine g_Mo_right S hK hP d_Mo_byRule_44 ?_
          refine lv_iload S.1 S.2.1 d_Mo_byRule_47 (lv_at hl 5 rfl) ?_
          obtain ⟨hin, h⟩ := h
          refine a_Mo_right S hK hP hin d_Mo_byRule_49 ?_
          refine lv_imul S.1 S.2.1 d_Mo_byRule_50 ?_
          refine lv_iload_n S.1 S.2.1 d_Mo_byRule_51 rfl (lv_at hl 3 rfl) ?_
          refine lv_iadd S.1 S.2.1 d_Mo_byRule_52 ?_
          obtain ⟨hin, h⟩ := h
          refine a_Mo_goes S hK hP hin d_Mo_byRule_53 ?_
          refine lv_if_eq (tgt := 61) S.1 S.2.1 d_Mo_byRule_54 (by decide) (fun hc => ?_) (fun hc => ?_)
          · have h := h.1 hc
            refine lv_iconst (v := (0 : Int32)) S.1 S.2.1 d_Mo_byRule_61 rfl ?_
            refine lv_istore (lv' := [(4, .int (0 : Int32)), (0, .ref (ad 0)), (1, .ref (ad 8)), (2, .int x2), (3, .int x3), (5, .int x5)]) S.1 S.2.1 d_Mo_byRule_62 hl (by decide) rfl (fun ls hl => ?_)
            refine lv_iinc (k := 5) (v := x5 + (1 : Int32)) (lv' := [(5, .int (x5 + (1 : Int32))), (4, .int (0 : Int32)), (0, .ref (ad 0)), (1, .ref (ad 8)), (2, .int x2), (3, .int x3)]) S.1 S.2.1 d_Mo_byRule_64 hl rfl rfl (by decide) rfl (fun ls hl => ?_)
            refine lv_goto (tgt := 6) S.1 S.2.1 d_Mo_byRule_67 (by decide) ?_
            exact ih _ _ _ h (lv_sub hl [2, 3, 4, 5, 1, 0] rfl)
          · have h := h.2 hc
            exact n_Mo_byRule_goes_57 S hr hlk hK hP ih _ _ h (lv_sub hl [0, 1, 2, 3, 5] rfl)
set_option maxHeartbeats 4000000 in
set_option maxRecDepth 100000 in
theorem c_Mo_byRule_goes (l : Launch) (D : va_G) (ad : Nat → Nat) (cA : ClassId × ClassId × ClassId) (mo : Mo) (x2 : Int32) (x3 : Int32) (Q : Int32 → Prop) (h : p_Mo_byRule_goes x2 x3 mo Q) : roI l y_Mo_byRule (wsOf y_Mo_byRule b_Mo_byRule 6 (some .boolean)) rm_Mo_byRule_goes D (tyA cA) (wM ad cA) [.ref (ad 0), .ref (ad 8), .int x2, .int x3] mo Q := by
  refine roI_of (by decide) (Nat.le_of_ble_eq_true rfl) ?_
  intro p e s m below meth c S hr hlk hK hP ls hl
  have hl : lv_has ls 6 [(0, .ref (ad 0)), (1, .ref (ad 8)), (2, .int x2), (3, .int x3)] := hl
  refine lv_iconst (v := (0 : Int32)) S.1 S.2.1 d_Mo_byRule_0 rfl ?_
  refine lv_istore (lv' := [(4, .int (0 : Int32)), (0, .ref (ad 0)), (1, .ref (ad 8)), (2, .int x2), (3, .int x3)]) S.1 S.2.1 d_Mo_byRule_1 hl (by decide) rfl (fun ls hl => ?_)
  refine lv_iconst (v := (0 : Int32)) S.1 S.2.1 d_Mo_byRule_3 rfl ?_
  refine lv_istore (lv' := [(5, .int (0 : Int32)), (4, .int (0 : Int32)), (0, .ref (ad 0)), (1, .ref (ad 8)), (2, .int x2), (3, .int x3)]) S.1 S.2.1 d_Mo_byRule_4 hl (by decide) rfl (fun ls hl => ?_)
  obtain ⟨n', h⟩ := h
  exact n_Mo_byRule_goes_6 S hr hlk hK hP n' _ _ _ h (lv_sub hl [2, 3, 4, 5, 1, 0] rfl)

set_option maxHeartbeats 4000000 in
set_option maxRecDepth 100000 in
theorem n_Mo_reachAll_105 {p : Program} {l : Launch} {e : Env} {s : State} {m : MethodId} {args : Array Value} {below : List Frame} {meth : Method} {c : Code} {D : va_G} {A : Nat → Prop} {ad : Nat → Nat} {cA : ClassId × ClassId × ClassId}  {Q : Mo → Prop} (S : CallFix p m c b_Mo_reachAll 4 s args gtbl R_Mo) (hr : meth.sig.returnType = none) (hlk : meth.locks = false) (hK : gK D (tyA cA) s) (hA : ∀ q : Nat, s.heap.size ≤ q → A q) {k39 : Int32 → Mo → Prop} (hk39 : ∀ (ls : Array Slot) (H : Heap) (locs : List Loc) (x1 : Int32) (mo : Mo), k39 x1 mo → lv_has ls 4 [(0, .ref (ad 0)), (1, .int x1)] → gIn D A s (wM ad cA) mo H locs → W p l e rm_Mo_reachAll s m args below meth c H locs 0 0 (qV D (tyA cA) A (wM ad cA) (fun u : Mo => u) (fun u : Mo => Q u) below args s) (F0 m 39 ls [])) {k47 : Int32 → Int32 → Mo → Prop} (hk47 : ∀ (ls : Array Slot) (H : Heap) (locs : List Loc) (x1 : Int32) (x2 : Int32) (mo : Mo), k47 x1 x2 mo → lv_has ls 4 [(0, .ref (ad 0)), (1, .int x1), (2, .int x2)] → gIn D A s (wM ad cA) mo H locs → W p l e rm_Mo_reachAll s m args below meth c H locs 0 0 (qV D (tyA cA) A (wM ad cA) (fun u : Mo => u) (fun u : Mo => Q u) below args s) (F0 m 47 ls [])) {k57 : Int32 → Int32 → Int32 → Mo → Prop} (hk57 : ∀ (ls : Array Slot) (H : Heap) (locs : List Loc) (x1 : Int32) (x2 : Int32) (x3 : Int32) (mo : Mo), k57 x1 x2 x3 mo → lv_has ls 4 [(0, .ref (ad 0)), (1, .int x1), (2, .int x2), (3, .int x3)] → gIn D A s (wM ad cA) mo H locs → W p l e rm_Mo_reachAll s m args below meth c H locs 0 0 (qV D (tyA cA) A (wM ad cA) (fun u : Mo => u) (fun u : Mo => Q u) below args s) (F0 m 57 ls [])) : ∀ (ls : Array Slot) (H : Heap) (locs : List Loc) (x2 : Int32) (x3 : Int32) (mo : Mo), p_Mo_reachAll_105 Q k39 k47 k57 x2 x3 mo → lv_has ls 4 [(0, .ref (ad 0)), (2, .int x2), (3, .int x3)] → gIn D A s (wM ad cA) mo H locs → W p l e rm_Mo_reachAll s m args below meth c H locs 0 0 (qV D (tyA cA) A (wM ad cA) (fun u : Mo => u) (fun u : Mo => Q u) below args s) (F0 m 105 ls []) := by
  intro ls H locs x2 x3 mo h hl I
  refine lv_aload_n S.1 S.2.1 d_Mo_reachAll_105 rfl (lv_at hl 0 rfl) ?_
  refine g_Mo_goes S hK I.1 d_Mo_reachAll_106 ?_
  refine lv_bipush (v := (48 : Int32)) S.1 S.2.1 d_Mo_reachAll_109 rfl ?_
  refine lv_iload_n S.1 S.2.1 d_Mo_reachAll_111 rfl (lv_at hl 1 rfl) ?_
  refine lv_imul S.1 S.2.1 d_Mo_reachAll_112 ?_
  refine lv_iload_n S.1 S.2.1 d_Mo_reachAll_113 rfl (lv_at hl 2 rfl) ?_
  refine lv_iadd S.1 S.2.1 d_Mo_reachAll_114 ?_
  refine lv_iconst (v := (1 : Int32)) S.1 S.2.1 d_Mo_reachAll_115 rfl ?_
  obtain ⟨hin, h⟩ := h
  refine s_Mo_goes S hK I hin d_Mo_reachAll_116 (fun H locs mo116 emo116 I => ?_)
  have h := h mo116 emo116
  refine lv_iconst (v := (1 : Int32)) S.1 S.2.1 d_Mo_reachAll_117 rfl ?_
  refine lv_istore_n (lv' := [(1, .int (1 : Int32)), (0, .ref (ad 0)), (2, .int x2), (3, .int x3)]) S.1 S.2.1 d_Mo_reachAll_118 rfl hl (by decide) rfl (fun ls hl => ?_)
  refine lv_iinc (k := 3) (v := x3 + (1 : Int32)) (lv' := [(3, .int (x3 + (1 : Int32))), (1, .int (1 : Int32)), (0, .ref (ad 0)), (2, .int x2)]) S.1 S.2.1 d_Mo_reachAll_119 hl rfl rfl (by decide) rfl (fun ls hl => ?_)
  refine lv_goto (tgt := 57) S.1 S.2.1 d_Mo_reachAll_122 (by decide) ?_
  exact hk57 _ _ _ _ _ _ _ h (lv_sub hl [2, 1, 3, 0] rfl) I
set_option maxHeartbeats 4000000 in
set_option maxRecDepth 100000 in
theorem n_Mo_reachAll_57 {p : Program} {l : Launch} {e : Env} {s : State} {m : MethodId} {args : Array Value} {below : List Frame} {meth : Method} {c : Code} {D : va_G} {A : Nat → Prop} {ad : Nat → Nat} {cA : ClassId × ClassId × ClassId}  {Q : Mo → Prop} (S : CallFix p m c b_Mo_reachAll 4 s args gtbl R_Mo) (hr : meth.sig.returnType = none) (hlk : meth.locks = false) (hK : gK D (tyA cA) s) (hA : ∀ q : Nat, s.heap.size ≤ q → A q) {k39 : Int32 → Mo → Prop} (hk39 : ∀ (ls : Array Slot) (H : Heap) (locs : List Loc) (x1 : Int32) (mo : Mo), k39 x1 mo → lv_has ls 4 [(0, .ref (ad 0)), (1, .int x1)] → gIn D A s (wM ad cA) mo H locs → W p l e rm_Mo_reachAll s m args below meth c H locs 0 0 (qV D (tyA cA) A (wM ad cA) (fun u : Mo => u) (fun u : Mo => Q u) below args s) (F0 m 39 ls [])) {k47 : Int32 → Int32 → Mo → Prop} (hk47 : ∀ (ls : Array Slot) (H : Heap) (locs : List Loc) (x1 : Int32) (x2 : Int32) (mo : Mo), k47 x1 x2 mo → lv_has ls 4 [(0, .ref (ad 0)), (1, .int x1), (2, .int x2)] → gIn D A s (wM ad cA) mo H locs → W p l e rm_Mo_reachAll s m args below meth c H locs 0 0 (qV D (tyA cA) A (wM ad cA) (fun u : Mo => u) (fun u : Mo => Q u) below args s) (F0 m 47 ls [])) : ∀ n : Nat, ∀ (ls : Array Slot) (H : Heap) (locs : List Loc) (x1 : Int32) (x2 : Int32) (x3 : Int32) (mo : Mo), p_Mo_reachAll_57 Q k39 k47 n x1 x2 x3 mo → lv_has ls 4 [(0, .ref (ad 0)), (1, .int x1), (2, .int x2), (3, .int x3)] → gIn D A s (wM ad cA) mo H locs → W p l e rm_Mo_reachAll s m args below meth c H locs 0 0 (qV D (tyA cA) A (wM ad cA) (fun u : Mo => u) (fun u : Mo => Q u) below args s) (F0 m 57 ls []) := by
  intro n
  induction n with
  | zero =>
    intro ls H locs x1 x2 x3 mo h
    exact (show False from h).elim
  | succ n ih =>
    intro ls H locs x1 x2 x3 mo h hl I
    refine lv_iload_n S.1 S.2.1 d_Mo_reachAll_57 rfl (lv_at hl 3 rfl) ?_
    refine lv_aload_n S.1 S.2.1 d_Mo_reachAll_58 rfl (lv_at hl 0 rfl) ?_
    refine g_Mo_count S hK I.1 d_Mo_reachAll_59 ?_
    refine lv_icmp_ge (tgt := 125) S.1 S.2.1 d_Mo_reachAll_62 (by decide) (fun hc => ?_) (fun hc => ?_)
    · have h := h.1 hc
      refine lv_iinc (k := 2) (v := x2 + (1 : Int32)) (lv' := [(2, .int (x2 + (1 : Int32))), (0, .ref (ad 0)), (1, .int x1), (3, .int x3)]) S.1 S.2.1 d_Mo_reachAll_125 hl rfl rfl (by decide) rfl (fun ls hl => ?_)
      refine lv_goto (tgt := 47) S.1 S.2.1 d_Mo_reachAll_128 (by decide) ?_
      exact hk47 _ _ _ _ _ _ h (lv_sub hl [1, 2, 0] rfl) I
    · have h := h.2 hc
      refine lv_aload_n S.1 S.2.1 d_Mo_reachAll_65 rfl (lv_at hl 0 rfl) ?_
      refine g_Mo_goes S hK I.1 d_Mo_reachAll_66 ?_
      refine lv_bipush (v := (48 : Int32)) S.1 S.2.1 d_Mo_reachAll_69 rfl ?_
      refine lv_iload_n S.1 S.2.1 d_Mo_reachAll_71 rfl (lv_at hl 2 rfl) ?_
      refine lv_imul S.1 S.2.1 d_Mo_reachAll_72 ?_
      refine lv_iload_n S.1 S.2.1 d_Mo_reachAll_73 rfl (lv_at hl 3 rfl) ?_
      refine lv_iadd S.1 S.2.1 d_Mo_reachAll_74 ?_
      obtain ⟨hin, h⟩ := h
      refine a_Mo_goes S hK I.1 hin d_Mo_reachAll_75 ?_
      refine lv_if_ne (tgt := 119) S.1 S.2.1 d_Mo_reachAll_76 (by decide) (fun hc => ?_) (fun hc => ?_)
      · have h := h.1 hc
        refine lv_iinc (k := 3) (v := x3 + (1 : Int32)) (lv' := [(3, .int (x3 + (1 : Int32))), (0, .ref (ad 0)), (1, .int x1), (2, .int x2)]) S.1 S.2.1 d_Mo_reachAll_119 hl rfl rfl (by decide) rfl (fun ls hl => ?_)
        refine lv_goto (tgt := 57) S.1 S.2.1 d_Mo_reachAll_122 (by decide) ?_
        exact ih _ _ _ _ _ _ _ h (lv_sub hl [1, 2, 3, 0] rfl) I
      · have h := h.2 hc
        refine lv_aload_n S.1 S.2.1 d_Mo_reachAll_79 rfl (lv_at hl 0 rfl) ?_
        refine lv_aload_n S.1 S.2.1 d_Mo_reachAll_80 rfl (lv_at hl 0 rfl) ?_
        refine g_Mo_goes S hK I.1 d_Mo_reachAll_81 ?_
        refine lv_iload_n S.1 S.2.1 d_Mo_reachAll_84 rfl (lv_at hl 2 rfl) ?_
        refine lv_iload_n S.1 S.2.1 d_Mo_reachAll_85 rfl (lv_at hl 3 rfl) ?_
        refine callV_roi S (c_Mo_parts_goes l D ad cA _ _ _ _ h) (mkV S.2.2.2.2 ml_Mo_115 k_Mo_parts rfl rfl ⟨Nat.le_of_ble_eq_true rfl, Nat.le_of_ble_eq_true rfl⟩) (rv_Mo hK I.1) hK I.1 hl.1 rfl rfl (Nat.le_of_ble_eq_true rfl) d_Mo_reachAll_86 ⟨Nat.zero_le _, Nat.zero_le _⟩ (fun r86 h => ?_)
        refine lv_if_ne (tgt := 105) S.1 S.2.1 d_Mo_reachAll_89 (by decide) (fun hc => ?_) (fun hc => ?_)
        · have h := h.1 hc
          exact n_Mo_reachAll_105 S hr hlk hK hA hk39 hk47 ih _ _ _ _ _ _ h (lv_sub hl [0, 2, 3] rfl) I
        · have h := h.2 hc
          refine lv_aload_n S.1 S.2.1 d_Mo_reachAll_92 rfl (lv_at hl 0 rfl) ?_
          refine lv_aload_n S.1 S.2.1 d_Mo_reachAll_93 rfl (lv_at hl 0 rfl) ?_
          refine g_Mo_goes S hK I.1 d_Mo_reachAll_94 ?_
          refine lv_iload_n S.1 S.2.1 d_Mo_reachAll_97 rfl (lv_at hl 2 rfl) ?_
          refine lv_iload_n S.1 S.2.1 d_Mo_reachAll_98 rfl (lv_at hl 3 rfl) ?_
          refine callV_roi S (c_Mo_byRule_goes l D ad cA _ _ _ _ h) (mkV S.2.2.2.2 ml_Mo_119 k_Mo_byRule rfl rfl ⟨Nat.le_of_ble_eq_true rfl, Nat.le_of_ble_eq_true rfl⟩) (rv_Mo hK I.1) hK I.1 hl.1 rfl rfl (Nat.le_of_ble_eq_true rfl) d_Mo_reachAll_99 ⟨Nat.zero_le _, Nat.zero_le _⟩ (fun r99 h => ?_)
          refine lv_if_eq (tgt := 119) S.1 S.2.1 d_Mo_reachAll_102 (by decide) (fun hc => ?_) (fun hc => ?_)
          · have h := h.1 hc
            refine lv_iinc (k := 3) (v := x3 + (1 : Int32)) (lv' := [(3, .int (x3 + (1 : Int32))), (0, .ref (ad 0)), (1, .int x1), (2, .int x2)]) S.1 S.2.1 d_Mo_reachAll_119 hl rfl rfl (by decide) rfl (fun ls hl => ?_)
            refine lv_goto (tgt := 57) S.1 S.2.1 d_Mo_reachAll_122 (by decide) ?_
            exact ih _ _ _ _ _ _ _ h (lv_sub hl [1, 2, 3, 0] rfl) I
          · have h := h.2 hc
            exact n_Mo_reachAll_105 S hr hlk hK hA hk39 hk47 ih _ _ _ _ _ _ h (lv_sub hl [0, 2, 3] rfl) I
set_option maxHeartbeats 4000000 in
set_option maxRecDepth 100000 in
theorem n_Mo_reachAll_47 {p : Program} {l : Launch} {e : Env} {s : State} {m : MethodId} {args : Array Value} {below : List Frame} {meth : Method} {c : Code} {D : va_G} {A : Nat → Prop} {ad : Nat → Nat} {cA : ClassId × ClassId × ClassId}  {Q : Mo → Prop} (S : CallFix p m c b_Mo_reachAll 4 s args gtbl R_Mo) (hr : meth.sig.returnType = none) (hlk : meth.locks = false) (hK : gK D (tyA cA) s) (hA : ∀ q : Nat, s.heap.size ≤ q → A q) {k39 : Int32 → Mo → Prop} (hk39 : ∀ (ls : Array Slot) (H : Heap) (locs : List Loc) (x1 : Int32) (mo : Mo), k39 x1 mo → lv_has ls 4 [(0, .ref (ad 0)), (1, .int x1)] → gIn D A s (wM ad cA) mo H locs → W p l e rm_Mo_reachAll s m args below meth c H locs 0 0 (qV D (tyA cA) A (wM ad cA) (fun u : Mo => u) (fun u : Mo => Q u) below args s) (F0 m 39 ls [])) : ∀ n : Nat, ∀ (ls : Array Slot) (H : Heap) (locs : List Loc) (x1 : Int32) (x2 : Int32) (mo : Mo), p_Mo_reachAll_47 Q k39 n x1 x2 mo → lv_has ls 4 [(0, .ref (ad 0)), (1, .int x1), (2, .int x2)] → gIn D A s (wM ad cA) mo H locs → W p l e rm_Mo_reachAll s m args below meth c H locs 0 0 (qV D (tyA cA) A (wM ad cA) (fun u : Mo => u) (fun u : Mo => Q u) below args s) (F0 m 47 ls []) := by
  intro n
  induction n with
  | zero =>
    intro ls H locs x1 x2 mo h
    exact (show False from h).elim
  | succ n ih =>
    intro ls H locs x1 x2 mo h hl I
    refine lv_iload_n S.1 S.2.1 d_Mo_reachAll_47 rfl (lv_at hl 2 rfl) ?_
    refine lv_aload_n S.1 S.2.1 d_Mo_reachAll_48 rfl (lv_at hl 0 rfl) ?_
    refine g_Mo_count S hK I.1 d_Mo_reachAll_49 ?_
    refine lv_icmp_ge (tgt := 131) S.1 S.2.1 d_Mo_reachAll_52 (by decide) (fun hc => ?_) (fun hc => ?_)
    · have h := h.1 hc
      refine lv_goto (tgt := 39) S.1 S.2.1 d_Mo_reachAll_131 (by decide) ?_
      exact hk39 _ _ _ _ _ h (lv_sub hl [0, 1] rfl) I
    · have h := h.2 hc
      refine lv_iconst (v := (0 : Int32)) S.1 S.2.1 d_Mo_reachAll_55 rfl ?_
      refine lv_istore_n (lv' := [(3, .int (0 : Int32)), (0, .ref (ad 0)), (1, .int x1), (2, .int x2)]) S.1 S.2.1 d_Mo_reachAll_56 rfl hl (by decide) rfl (fun ls hl => ?_)
      obtain ⟨n', h⟩ := h
      exact n_Mo_reachAll_57 S hr hlk hK hA hk39 ih n' _ _ _ _ _ _ _ h (lv_sub hl [1, 2, 3, 0] rfl) I
set_option maxHeartbeats 4000000 in
set_option maxRecDepth 100000 in
theorem n_Mo_reachAll_39 {p : Program} {l : Launch} {e : Env} {s : State} {m : MethodId} {args : Array Value} {below : List Frame} {meth : Method} {c : Code} {D : va_G} {A : Nat → Prop} {ad : Nat → Nat} {cA : ClassId × ClassId × ClassId}  {Q : Mo → Prop} (S : CallFix p m c b_Mo_reachAll 4 s args gtbl R_Mo) (hr : meth.sig.returnType = none) (hlk : meth.locks = false) (hK : gK D (tyA cA) s) (hA : ∀ q : Nat, s.heap.size ≤ q → A q) : ∀ n : Nat, ∀ (ls : Array Slot) (H : Heap) (locs : List Loc) (x1 : Int32) (mo : Mo), p_Mo_reachAll_39 Q n x1 mo → lv_has ls 4 [(0, .ref (ad 0)), (1, .int x1)] → gIn D A s (wM ad cA) mo H locs → W p l e rm_Mo_reachAll s m args below meth c H locs 0 0 (qV D (tyA cA) A (wM ad cA) (fun u : Mo => u) (fun u : Mo => Q u) below args s) (F0 m 39 ls []) := by
  intro n
  induction n with
  | zero =>
    intro ls H locs x1 mo h
    exact (show False from h).elim
  | succ n ih =>
    intro ls H locs x1 mo h hl I
    refine lv_iload_n S.1 S.2.1 d_Mo_reachAll_39 rfl (lv_at hl 1 rfl) ?_
    refine lv_if_eq (tgt := 134) S.1 S.2.1 d_Mo_reachAll_40 (by decide) (fun hc => ?_) (fun hc => ?_)
    · have h := h.1 hc
      exact ret_rwv S hr hlk hK I h d_Mo_reachAll_134
    · have h := h.2 hc
      refine lv_iconst (v := (0 : Int32)) S.1 S.2.1 d_Mo_reachAll_43 rfl ?_
      refine lv_istore_n (lv' := [(1, .int (0 : Int32)), (0, .ref (ad 0))]) S.1 S.2.1 d_Mo_reachAll_44 rfl hl (by decide) rfl (fun ls hl => ?_)
      refine lv_iconst (v := (0 : Int32)) S.1 S.2.1 d_Mo_reachAll_45 rfl ?_
      refine lv_istore_n (lv' := [(2, .int (0 : Int32)), (1, .int (0 : Int32)), (0, .ref (ad 0))]) S.1 S.2.1 d_Mo_reachAll_46 rfl hl (by decide) rfl (fun ls hl => ?_)
      obtain ⟨n', h⟩ := h
      exact n_Mo_reachAll_47 S hr hlk hK hA ih n' _ _ _ _ _ _ h (lv_sub hl [2, 1, 0] rfl) I
set_option maxHeartbeats 4000000 in
set_option maxRecDepth 100000 in
theorem n_Mo_reachAll_30 {p : Program} {l : Launch} {e : Env} {s : State} {m : MethodId} {args : Array Value} {below : List Frame} {meth : Method} {c : Code} {D : va_G} {A : Nat → Prop} {ad : Nat → Nat} {cA : ClassId × ClassId × ClassId}  {Q : Mo → Prop} (S : CallFix p m c b_Mo_reachAll 4 s args gtbl R_Mo) (hr : meth.sig.returnType = none) (hlk : meth.locks = false) (hK : gK D (tyA cA) s) (hA : ∀ q : Nat, s.heap.size ≤ q → A q) {k2 : Int32 → Mo → Prop} (hk2 : ∀ (ls : Array Slot) (H : Heap) (locs : List Loc) (x1 : Int32) (mo : Mo), k2 x1 mo → lv_has ls 4 [(0, .ref (ad 0)), (1, .int x1)] → gIn D A s (wM ad cA) mo H locs → W p l e rm_Mo_reachAll s m args below meth c H locs 0 0 (qV D (tyA cA) A (wM ad cA) (fun u : Mo => u) (fun u : Mo => Q u) below args s) (F0 m 2 ls [])) : ∀ (ls : Array Slot) (H : Heap) (locs : List Loc) (x1 : Int32) (y0 : Int32) (y1 : Int32) (mo : Mo), p_Mo_reachAll_30 Q k2 x1 y0 y1 mo → lv_has ls 4 [(0, .ref (ad 0)), (1, .int x1)] → gIn D A s (wM ad cA) mo H locs → W p l e rm_Mo_reachAll s m args below meth c H locs 0 0 (qV D (tyA cA) A (wM ad cA) (fun u : Mo => u) (fun u : Mo => Q u) below args s) (F0 m 30 ls [.int y0, .int y1, .ref (ad 8)]) := by
  intro ls H locs x1 y0 y1 mo h hl I
  obtain ⟨hin, h⟩ := h
  refine s_Mo_goes S hK I hin d_Mo_reachAll_30 (fun H locs mo30 emo30 I => ?_)
  have h := h mo30 emo30
  refine lv_iinc (k := 1) (v := x1 + (1 : Int32)) (lv' := [(1, .int (x1 + (1 : Int32))), (0, .ref (ad 0))]) S.1 S.2.1 d_Mo_reachAll_31 hl rfl rfl (by decide) rfl (fun ls hl => ?_)
  refine lv_goto (tgt := 2) S.1 S.2.1 d_Mo_reachAll_34 (by decide) ?_
  exact hk2 _ _ _ _ _ h (lv_sub hl [1, 0] rfl) I
set_option maxHeartbeats 4000000 in
set_option maxRecDepth 100000 in
theorem n_Mo_reachAll_2 {p : Program} {l : Launch} {e : Env} {s : State} {m : MethodId} {args : Array Value} {below : List Frame} {meth : Method} {c : Code} {D : va_G} {A : Nat → Prop} {ad : Nat → Nat} {cA : ClassId × ClassId × ClassId}  {Q : Mo → Prop} (S : CallFix p m c b_Mo_reachAll 4 s args gtbl R_Mo) (hr : meth.sig.returnType = none) (hlk : meth.locks = false) (hK : gK D (tyA cA) s) (hA : ∀ q : Nat, s.heap.size ≤ q → A q) : ∀ n : Nat, ∀ (ls : Array Slot) (H : Heap) (locs : List Loc) (x1 : Int32) (mo : Mo), p_Mo_reachAll_2 Q n x1 mo → lv_has ls 4 [(0, .ref (ad 0)), (1, .int x1)] → gIn D A s (wM ad cA) mo H locs → W p l e rm_Mo_reachAll s m args below meth c H locs 0 0 (qV D (tyA cA) A (wM ad cA) (fun u : Mo => u) (fun u : Mo => Q u) below args s) (F0 m 2 ls []) := by
  intro n
  induction n with
  | zero =>
    intro ls H locs x1 mo h
    exact (show False from h).elim
  | succ n ih =>
    intro ls H locs x1 mo h hl I
    refine lv_iload_n S.1 S.2.1 d_Mo_reachAll_2 rfl (lv_at hl 1 rfl) ?_
    refine lv_sipush (v := (2304 : Int32)) S.1 S.2.1 d_Mo_reachAll_3 rfl ?_
    refine lv_icmp_ge (tgt := 37) S.1 S.2.1 d_Mo_reachAll_6 (by decide) (fun hc => ?_) (fun hc => ?_)
    · have h := h.1 hc
      refine lv_iconst (v := (1 : Int32)) S.1 S.2.1 d_Mo_reachAll_37 rfl ?_
      refine lv_istore_n (lv' := [(1, .int (1 : Int32)), (0, .ref (ad 0))]) S.1 S.2.1 d_Mo_reachAll_38 rfl hl (by decide) rfl (fun ls hl => ?_)
      obtain ⟨n', h⟩ := h
      exact n_Mo_reachAll_39 S hr hlk hK hA n' _ _ _ _ _ h (lv_sub hl [1, 0] rfl) I
    · have h := h.2 hc
      refine lv_aload_n S.1 S.2.1 d_Mo_reachAll_9 rfl (lv_at hl 0 rfl) ?_
      refine g_Mo_goes S hK I.1 d_Mo_reachAll_10 ?_
      refine lv_iload_n S.1 S.2.1 d_Mo_reachAll_13 rfl (lv_at hl 1 rfl) ?_
      refine lv_iload_n S.1 S.2.1 d_Mo_reachAll_14 rfl (lv_at hl 1 rfl) ?_
      refine lv_bipush (v := (48 : Int32)) S.1 S.2.1 d_Mo_reachAll_15 rfl ?_
      refine lv_idiv S.1 S.2.1 d_Mo_reachAll_17 (by decide) ?_
      refine lv_iload_n S.1 S.2.1 d_Mo_reachAll_18 rfl (lv_at hl 1 rfl) ?_
      refine lv_bipush (v := (48 : Int32)) S.1 S.2.1 d_Mo_reachAll_19 rfl ?_
      refine lv_irem S.1 S.2.1 d_Mo_reachAll_21 (by decide) ?_
      refine lv_icmp_ne (tgt := 29) S.1 S.2.1 d_Mo_reachAll_22 (by decide) (fun hc => ?_) (fun hc => ?_)
      · have h := h.1 hc
        refine lv_iconst (v := (0 : Int32)) S.1 S.2.1 d_Mo_reachAll_29 rfl ?_
        exact n_Mo_reachAll_30 S hr hlk hK hA ih _ _ _ _ _ _ _ h (lv_sub hl [0, 1] rfl) I
      · have h := h.2 hc
        refine lv_iconst (v := (1 : Int32)) S.1 S.2.1 d_Mo_reachAll_25 rfl ?_
        refine lv_goto (tgt := 30) S.1 S.2.1 d_Mo_reachAll_26 (by decide) ?_
        exact n_Mo_reachAll_30 S hr hlk hK hA ih _ _ _ _ _ _ _ h (lv_sub hl [0, 1] rfl) I
set_option maxHeartbeats 4000000 in
set_option maxRecDepth 100000 in
theorem c_Mo_reachAll (l : Launch) (D : va_G) (ad : Nat → Nat) (cA : ClassId × ClassId × ClassId) (mo : Mo)  (Q : Mo → Prop) (h : p_Mo_reachAll  mo Q) : rwV l y_Mo_reachAll (wsOf y_Mo_reachAll b_Mo_reachAll 4 none) rm_Mo_reachAll D (tyA cA) (wM ad cA) [.ref (ad 0)] mo (fun u : Mo => u) (fun u : Mo => Q u) := by
  refine rwV_of (by decide) (Nat.le_of_ble_eq_true rfl) ?_
  intro p e s m below meth c S hr hlk hK A hA I ls hl
  have hl : lv_has ls 4 [(0, .ref (ad 0))] := hl
  refine lv_iconst (v := (0 : Int32)) S.1 S.2.1 d_Mo_reachAll_0 rfl ?_
  refine lv_istore_n (lv' := [(1, .int (0 : Int32)), (0, .ref (ad 0))]) S.1 S.2.1 d_Mo_reachAll_1 rfl hl (by decide) rfl (fun ls hl => ?_)
  obtain ⟨n', h⟩ := h
  exact n_Mo_reachAll_2 S hr hlk hK hA n' _ _ _ _ _ h (lv_sub hl [1, 0] rfl) I
