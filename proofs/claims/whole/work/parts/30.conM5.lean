set_option maxHeartbeats 4000000 in
set_option maxRecDepth 100000 in
theorem n_Mo_store_13 {p : Program} {l : Launch} {e : Env} {s : State} {m : MethodId} {args : Array Value} {below : List Frame} {meth : Method} {c : Code} {D : va_G} {A : Nat → Prop} {ad : Nat → Nat} {cA : ClassId × ClassId × ClassId}  {x1 : Int32} {x2 : Int32} {x3 : Int32} {Q : Int32 → Mo → Prop} (S : CallFix p m c b_Mo_store 6 s args gtbl R_Mo) (hr : meth.sig.returnType = (some .int)) (hlk : meth.locks = false) (hK : gK D (tyA cA) s) (hA : ∀ q : Nat, s.heap.size ≤ q → A q) : ∀ n : Nat, ∀ (ls : Array Slot) (H : Heap) (locs : List Loc) (x4 : Int32) (x5 : Int32) (mo : Mo), p_Mo_store_13 x1 x2 x3 Q n x4 x5 mo → lv_has ls 6 [(0, .ref (ad 0)), (1, .int x1), (2, .int x2), (3, .int x3), (4, .int x4), (5, .int x5)] → gIn D A s (wM ad cA) mo H locs → W p l e rm_Mo_store s m args below meth c H locs 0 0 (qI D (tyA cA) A (wM ad cA) (fun u : Mo => u) (fun (r : Int32) (u : Mo) => Q r u) below args s) (F0 m 13 ls []) := by
  intro n
  induction n with
  | zero =>
    intro ls H locs x4 x5 mo h
    exact (show False from h).elim
  | succ n ih =>
    intro ls H locs x4 x5 mo h hl I
    refine lv_iload S.1 S.2.1 d_Mo_store_13 (lv_at hl 5 rfl) ?_
    refine lv_aload_n S.1 S.2.1 d_Mo_store_15 rfl (lv_at hl 0 rfl) ?_
    refine g_Mo_stored S hK I.1 d_Mo_store_16 ?_
    refine lv_icmp_ge (tgt := 70) S.1 S.2.1 d_Mo_store_19 (by decide) (fun hc => ?_) (fun hc => ?_)
    · have h := h.1 hc
      refine lv_iload S.1 S.2.1 d_Mo_store_70 (lv_at hl 4 rfl) ?_
      refine lv_if_lt (tgt := 78) S.1 S.2.1 d_Mo_store_72 (by decide) (fun hc => ?_) (fun hc => ?_)
      · have h := h.1 hc
        refine lv_aload_n S.1 S.2.1 d_Mo_store_78 rfl (lv_at hl 0 rfl) ?_
        refine g_Mo_stored S hK I.1 d_Mo_store_79 ?_
        refine lv_sipush (v := (520 : Int32)) S.1 S.2.1 d_Mo_store_82 rfl ?_
        refine lv_icmp_ne (tgt := 90) S.1 S.2.1 d_Mo_store_85 (by decide) (fun hc => ?_) (fun hc => ?_)
        · have h := h.1 hc
          refine lv_aload_n S.1 S.2.1 d_Mo_store_90 rfl (lv_at hl 0 rfl) ?_
          refine g_Mo_symbol S hK I.1 d_Mo_store_91 ?_
          refine lv_aload_n S.1 S.2.1 d_Mo_store_94 rfl (lv_at hl 0 rfl) ?_
          refine g_Mo_stored S hK I.1 d_Mo_store_95 ?_
          refine lv_iload_n S.1 S.2.1 d_Mo_store_98 rfl (lv_at hl 1 rfl) ?_
          obtain ⟨hin, h⟩ := h
          refine s_Mo_symbol S hK I hin d_Mo_store_99 (fun H locs mo99 emo99 I => ?_)
          have h := h mo99 emo99
          refine lv_aload_n S.1 S.2.1 d_Mo_store_100 rfl (lv_at hl 0 rfl) ?_
          refine g_Mo_one S hK I.1 d_Mo_store_101 ?_
          refine lv_aload_n S.1 S.2.1 d_Mo_store_104 rfl (lv_at hl 0 rfl) ?_
          refine g_Mo_stored S hK I.1 d_Mo_store_105 ?_
          refine lv_iload_n S.1 S.2.1 d_Mo_store_108 rfl (lv_at hl 2 rfl) ?_
          obtain ⟨hin, h⟩ := h
          refine s_Mo_one S hK I hin d_Mo_store_109 (fun H locs mo109 emo109 I => ?_)
          have h := h mo109 emo109
          refine lv_aload_n S.1 S.2.1 d_Mo_store_110 rfl (lv_at hl 0 rfl) ?_
          refine g_Mo_two S hK I.1 d_Mo_store_111 ?_
          refine lv_aload_n S.1 S.2.1 d_Mo_store_114 rfl (lv_at hl 0 rfl) ?_
          refine g_Mo_stored S hK I.1 d_Mo_store_115 ?_
          refine lv_iload_n S.1 S.2.1 d_Mo_store_118 rfl (lv_at hl 3 rfl) ?_
          obtain ⟨hin, h⟩ := h
          refine s_Mo_two S hK I hin d_Mo_store_119 (fun H locs mo119 emo119 I => ?_)
          have h := h mo119 emo119
          refine lv_aload_n S.1 S.2.1 d_Mo_store_120 rfl (lv_at hl 0 rfl) ?_
          refine lv_aload_n S.1 S.2.1 d_Mo_store_121 rfl (lv_at hl 0 rfl) ?_
          refine g_Mo_stored S hK I.1 d_Mo_store_122 ?_
          refine callV_rwv S (c_Mo_tally l D ad cA _ _ _ h) (mkV S.2.2.2.2 ml_Mo_154 k_Mo_tally rfl rfl ⟨Nat.le_of_ble_eq_true rfl, Nat.le_of_ble_eq_true rfl⟩) (rv_Mo hK I.1) hK hA I hl.1 rfl rfl (Nat.le_of_ble_eq_true rfl) d_Mo_store_125 ⟨Nat.zero_le _, Nat.zero_le _⟩ (fun mo125 H locs h I => ?_)
          refine lv_aload_n S.1 S.2.1 d_Mo_store_128 rfl (lv_at hl 0 rfl) ?_
          refine g_Mo_came S hK I.1 d_Mo_store_129 ?_
          refine lv_aload_n S.1 S.2.1 d_Mo_store_132 rfl (lv_at hl 0 rfl) ?_
          refine g_Mo_stored S hK I.1 d_Mo_store_133 ?_
          refine lv_iconst (v := (0 : Int32)) S.1 S.2.1 d_Mo_store_136 rfl ?_
          obtain ⟨hin, h⟩ := h
          refine s_Mo_came S hK I hin d_Mo_store_137 (fun H locs mo137 emo137 I => ?_)
          have h := h mo137 emo137
          refine lv_aload_n S.1 S.2.1 d_Mo_store_138 rfl (lv_at hl 0 rfl) ?_
          refine g_Mo_marked S hK I.1 d_Mo_store_139 ?_
          refine lv_aload_n S.1 S.2.1 d_Mo_store_142 rfl (lv_at hl 0 rfl) ?_
          refine g_Mo_stored S hK I.1 d_Mo_store_143 ?_
          refine lv_iconst (v := (0 : Int32)) S.1 S.2.1 d_Mo_store_146 rfl ?_
          obtain ⟨hin, h⟩ := h
          refine s_Mo_marked S hK I hin d_Mo_store_147 (fun H locs mo147 emo147 I => ?_)
          have h := h mo147 emo147
          refine lv_aload_n S.1 S.2.1 d_Mo_store_148 rfl (lv_at hl 0 rfl) ?_
          refine lv_dup S.1 S.2.1 d_Mo_store_149 rfl ?_
          refine g_Mo_stored S hK I.1 d_Mo_store_150 ?_
          refine lv_iconst (v := (1 : Int32)) S.1 S.2.1 d_Mo_store_153 rfl ?_
          refine lv_iadd S.1 S.2.1 d_Mo_store_154 ?_
          refine q_Mo_stored S hK I d_Mo_store_155 (fun H locs mo155 emo155 I => ?_)
          have h := h mo155 emo155
          refine lv_aload_n S.1 S.2.1 d_Mo_store_158 rfl (lv_at hl 0 rfl) ?_
          refine g_Mo_stored S hK I.1 d_Mo_store_159 ?_
          refine lv_iconst (v := (1 : Int32)) S.1 S.2.1 d_Mo_store_162 rfl ?_
          refine lv_isub S.1 S.2.1 d_Mo_store_163 ?_
          exact ret_rwi S hr hlk hK I h d_Mo_store_164
        · have h := h.2 hc
          refine lv_iconst (v := (-1 : Int32)) S.1 S.2.1 d_Mo_store_88 rfl ?_
          exact ret_rwi S hr hlk hK I h d_Mo_store_89
      · have h := h.2 hc
        refine lv_iload S.1 S.2.1 d_Mo_store_75 (lv_at hl 4 rfl) ?_
        exact ret_rwi S hr hlk hK I h d_Mo_store_77
    · have h := h.2 hc
      refine lv_aload_n S.1 S.2.1 d_Mo_store_22 rfl (lv_at hl 0 rfl) ?_
      refine g_Mo_symbol S hK I.1 d_Mo_store_23 ?_
      refine lv_iload S.1 S.2.1 d_Mo_store_26 (lv_at hl 5 rfl) ?_
      obtain ⟨hin, h⟩ := h
      refine a_Mo_symbol S hK I.1 hin d_Mo_store_28 ?_
      refine lv_iload_n S.1 S.2.1 d_Mo_store_29 rfl (lv_at hl 1 rfl) ?_
      refine lv_icmp_ne (tgt := 60) S.1 S.2.1 d_Mo_store_30 (by decide) (fun hc => ?_) (fun hc => ?_)
      · have h := h.1 hc
        refine lv_iload S.1 S.2.1 d_Mo_store_60 (lv_at hl 4 rfl) ?_
        refine lv_istore (lv' := [(4, .int x4), (0, .ref (ad 0)), (1, .int x1), (2, .int x2), (3, .int x3), (5, .int x5)]) S.1 S.2.1 d_Mo_store_62 hl (by decide) rfl (fun ls hl => ?_)
        refine lv_iinc (k := 5) (v := x5 + (1 : Int32)) (lv' := [(5, .int (x5 + (1 : Int32))), (4, .int x4), (0, .ref (ad 0)), (1, .int x1), (2, .int x2), (3, .int x3)]) S.1 S.2.1 d_Mo_store_64 hl rfl rfl (by decide) rfl (fun ls hl => ?_)
        refine lv_goto (tgt := 13) S.1 S.2.1 d_Mo_store_67 (by decide) ?_
        exact ih _ _ _ _ _ _ h (lv_sub hl [2, 3, 4, 5, 1, 0] rfl) I
      · have h := h.2 hc
        refine lv_aload_n S.1 S.2.1 d_Mo_store_33 rfl (lv_at hl 0 rfl) ?_
        refine g_Mo_one S hK I.1 d_Mo_store_34 ?_
        refine lv_iload S.1 S.2.1 d_Mo_store_37 (lv_at hl 5 rfl) ?_
        obtain ⟨hin, h⟩ := h
        refine a_Mo_one S hK I.1 hin d_Mo_store_39 ?_
        refine lv_iload_n S.1 S.2.1 d_Mo_store_40 rfl (lv_at hl 2 rfl) ?_
        refine lv_icmp_ne (tgt := 60) S.1 S.2.1 d_Mo_store_41 (by decide) (fun hc => ?_) (fun hc => ?_)
        · have h := h.1 hc
          refine lv_iload S.1 S.2.1 d_Mo_store_60 (lv_at hl 4 rfl) ?_
          refine lv_istore (lv' := [(4, .int x4), (0, .ref (ad 0)), (1, .int x1), (2, .int x2), (3, .int x3), (5, .int x5)]) S.1 S.2.1 d_Mo_store_62 hl (by decide) rfl (fun ls hl => ?_)
          refine lv_iinc (k := 5) (v := x5 + (1 : Int32)) (lv' := [(5, .int (x5 + (1 : Int32))), (4, .int x4), (0, .ref (ad 0)), (1, .int x1), (2, .int x2), (3, .int x3)]) S.1 S.2.1 d_Mo_store_64 hl rfl rfl (by decide) rfl (fun ls hl => ?_)
          refine lv_goto (tgt := 13) S.1 S.2.1 d_Mo_store_67 (by decide) ?_
          exact ih _ _ _ _ _ _ h (lv_sub hl [2, 3, 4, 5, 1, 0] rfl) I
        · have h := h.2 hc
          refine lv_aload_n S.1 S.2.1 d_Mo_store_44 rfl (lv_at hl 0 rfl) ?_
          refine g_Mo_two S hK I.1 d_Mo_store_45 ?_
          refine lv_iload S.1 S.2.1 d_Mo_store_48 (lv_at hl 5 rfl) ?_
          obtain ⟨hin, h⟩ := h
          refine a_Mo_two S hK I.1 hin d_Mo_store_50 ?_
          refine lv_iload_n S.1 S.2.1 d_Mo_store_51 rfl (lv_at hl 3 rfl) ?_
          refine lv_icmp_ne (tgt := 60) S.1 S.2.1 d_Mo_store_52 (by decide) (fun hc => ?_) (fun hc => ?_)
          · have h := h.1 hc
            refine lv_iload S.1 S.2.1 d_Mo_store_60 (lv_at hl 4 rfl) ?_
            refine lv_istore (lv' := [(4, .int x4), (0, .ref (ad 0)), (1, .int x1), (2, .int x2), (3, .int x3), (5, .int x5)]) S.1 S.2.1 d_Mo_store_62 hl (by decide) rfl (fun ls hl => ?_)
            refine lv_iinc (k := 5) (v := x5 + (1 : Int32)) (lv' := [(5, .int (x5 + (1 : Int32))), (4, .int x4), (0, .ref (ad 0)), (1, .int x1), (2, .int x2), (3, .int x3)]) S.1 S.2.1 d_Mo_store_64 hl rfl rfl (by decide) rfl (fun ls hl => ?_)
            refine lv_goto (tgt := 13) S.1 S.2.1 d_Mo_store_67 (by decide) ?_
            exact ih _ _ _ _ _ _ h (lv_sub hl [2, 3, 4, 5, 1, 0] rfl) I
          · have h := h.2 hc
            refine lv_iload S.1 S.2.1 d_Mo_store_55 (lv_at hl 5 rfl) ?_
            refine lv_goto (tgt := 62) S.1 S.2.1 d_Mo_store_57 (by decide) ?_
            refine lv_istore (lv' := [(4, .int x5), (0, .ref (ad 0)), (1, .int x1), (2, .int x2), (3, .int x3), (5, .int x5)]) S.1 S.2.1 d_Mo_store_62 hl (by decide) rfl (fun ls hl => ?_)
            refine lv_iinc (k := 5) (v := x5 + (1 : Int32)) (lv' := [(5, .int (x5 + (1 : Int32))), (4, .int x5), (0, .ref (ad 0)), (1, .int x1), (2, .int x2), (3, .int x3)]) S.1 S.2.1 d_Mo_store_64 hl rfl rfl (by decide) rfl (fun ls hl => ?_)
            refine lv_goto (tgt := 13) S.1 S.2.1 d_Mo_store_67 (by decide) ?_
            exact ih _ _ _ _ _ _ h (lv_sub hl [2, 3, 4, 5, 1, 0] rfl) I
set_option maxHeartbeats 4000000 in
set_option maxRecDepth 100000 in
theorem c_Mo_store (l : Launch) (D : va_G) (ad : Nat → Nat) (cA : ClassId × ClassId × ClassId) (mo : Mo) (x1 : Int32) (x2 : Int32) (x3 : Int32) (Q : Int32 → Mo → Prop) (h : p_Mo_store x1 x2 x3 mo Q) : rwI l y_Mo_store (wsOf y_Mo_store b_Mo_store 6 (some .int)) rm_Mo_store D (tyA cA) (wM ad cA) [.ref (ad 0), .int x1, .int x2, .int x3] mo (fun u : Mo => u) (fun (r : Int32) (u : Mo) => Q r u) := by
  refine rwI_of (by decide) (Nat.le_of_ble_eq_true rfl) ?_
  intro p e s m below meth c S hr hlk hK A hA I ls hl
  have hl : lv_has ls 6 [(0, .ref (ad 0)), (1, .int x1), (2, .int x2), (3, .int x3)] := hl
  refine lv_aload_n S.1 S.2.1 d_Mo_store_0 rfl (lv_at hl 0 rfl) ?_
  refine lv_iload_n S.1 S.2.1 d_Mo_store_1 rfl (lv_at hl 1 rfl) ?_
  refine lv_iload_n S.1 S.2.1 d_Mo_store_2 rfl (lv_at hl 2 rfl) ?_
  refine lv_iload_n S.1 S.2.1 d_Mo_store_3 rfl (lv_at hl 3 rfl) ?_
  refine callV_roi S (c_Mo_known l D ad cA _ _ _ _ _ h) (mkV S.2.2.2.2 ml_Mo_75 k_Mo_known rfl rfl ⟨Nat.le_of_ble_eq_true rfl, Nat.le_of_ble_eq_true rfl⟩) (rv_Mo hK I.1) hK I.1 hl.1 rfl rfl (Nat.le_of_ble_eq_true rfl) d_Mo_store_4 ⟨Nat.zero_le _, Nat.zero_le _⟩ (fun r4 h => ?_)
  refine lv_istore (lv' := [(4, .int r4), (0, .ref (ad 0)), (1, .int x1), (2, .int x2), (3, .int x3)]) S.1 S.2.1 d_Mo_store_7 hl (by decide) rfl (fun ls hl => ?_)
  refine lv_bipush (v := (48 : Int32)) S.1 S.2.1 d_Mo_store_9 rfl ?_
  refine lv_istore (lv' := [(5, .int (48 : Int32)), (4, .int r4), (0, .ref (ad 0)), (1, .int x1), (2, .int x2), (3, .int x3)]) S.1 S.2.1 d_Mo_store_11 hl (by decide) rfl (fun ls hl => ?_)
  obtain ⟨n', h⟩ := h
  exact n_Mo_store_13 S hr hlk hK hA n' _ _ _ _ _ _ h (lv_sub hl [2, 3, 4, 5, 1, 0] rfl) I

set_option maxHeartbeats 4000000 in
set_option maxRecDepth 100000 in
theorem n_Mo_take_95 {p : Program} {l : Launch} {e : Env} {s : State} {m : MethodId} {args : Array Value} {below : List Frame} {meth : Method} {c : Code} {D : va_G} {A : Nat → Prop} {ad : Nat → Nat} {cA : ClassId × ClassId × ClassId}  {x1 : Int32} {x2 : Int32} {Q : Mo → Prop} (S : CallFix p m c b_Mo_take 5 s args gtbl R_Mo) (hr : meth.sig.returnType = none) (hlk : meth.locks = false) (hK : gK D (tyA cA) s) (hA : ∀ q : Nat, s.heap.size ≤ q → A q) {k26 : Int32 → Mo → Prop} (hk26 : ∀ (ls : Array Slot) (H : Heap) (locs : List Loc) (x3 : Int32) (mo : Mo), k26 x3 mo → lv_has ls 5 [(0, .ref (ad 0)), (3, .int x3)] → gIn D A s (wM ad cA) mo H locs → W p l e rm_Mo_take s m args below meth c H locs 0 0 (qV D (tyA cA) A (wM ad cA) (fun u : Mo => u) (fun u : Mo => Q u) below args s) (F0 m 26 ls [])) : ∀ (ls : Array Slot) (H : Heap) (locs : List Loc) (x3 : Int32) (x4 : Int32) (mo : Mo), p_Mo_take_95 x1 x2 Q k26 x3 x4 mo → lv_has ls 5 [(0, .ref (ad 0)), (3, .int x3), (4, .int x4)] → gIn D A s (wM ad cA) mo H locs → W p l e rm_Mo_take s m args below meth c H locs 0 0 (qV D (tyA cA) A (wM ad cA) (fun u : Mo => u) (fun u : Mo => Q u) below args s) (F0 m 95 ls []) := by
  intro ls H locs x3 x4 mo h hl I
  refine lv_aload_n S.1 S.2.1 d_Mo_take_95 rfl (lv_at hl 0 rfl) ?_
  refine g_Mo_two S hK I.1 d_Mo_take_96 ?_
  refine lv_iload S.1 S.2.1 d_Mo_take_99 (lv_at hl 2 rfl) ?_
  obtain ⟨hin, h⟩ := h
  refine a_Mo_two S hK I.1 hin d_Mo_take_101 ?_
  refine lv_if_lt (tgt := 121) S.1 S.2.1 d_Mo_take_102 (by decide) (fun hc => ?_) (fun hc => ?_)
  · have h := h.1 hc
    refine lv_goto (tgt := 26) S.1 S.2.1 d_Mo_take_121 (by decide) ?_
    exact hk26 _ _ _ _ _ h (lv_sub hl [0, 1] rfl) I
  · have h := h.2 hc
    refine lv_aload_n S.1 S.2.1 d_Mo_take_105 rfl (lv_at hl 0 rfl) ?_
    refine g_Mo_open S hK I.1 d_Mo_take_106 ?_
    refine lv_iload_n S.1 S.2.1 d_Mo_take_109 rfl (lv_at hl 1 rfl) ?_
    refine lv_aload_n S.1 S.2.1 d_Mo_take_110 rfl (lv_at hl 0 rfl) ?_
    refine g_Mo_two S hK I.1 d_Mo_take_111 ?_
    refine lv_iload S.1 S.2.1 d_Mo_take_114 (lv_at hl 2 rfl) ?_
    obtain ⟨hin, h⟩ := h
    refine a_Mo_two S hK I.1 hin d_Mo_take_116 ?_
    obtain ⟨hin, h⟩ := h
    refine s_Mo_open S hK I hin d_Mo_take_117 (fun H locs mo117 emo117 I => ?_)
    have h := h mo117 emo117
    refine lv_iinc (k := 1) (v := x3 + (1 : Int32)) (lv' := [(3, .int (x3 + (1 : Int32))), (0, .ref (ad 0)), (4, .int x4)]) S.1 S.2.1 d_Mo_take_118 hl rfl rfl (by decide) rfl (fun ls hl => ?_)
    refine lv_goto (tgt := 26) S.1 S.2.1 d_Mo_take_121 (by decide) ?_
    exact hk26 _ _ _ _ _ h (lv_sub hl [1, 0] rfl) I
set_option maxHeartbeats 4000000 in
set_option maxRecDepth 100000 in
theorem n_Mo_take_26 {p : Program} {l : Launch} {e : Env} {s : State} {m : MethodId} {args : Array Value} {below : List Frame} {meth : Method} {c : Code} {D : va_G} {A : Nat → Prop} {ad : Nat → Nat} {cA : ClassId × ClassId × ClassId}  {x1 : Int32} {x2 : Int32} {Q : Mo → Prop} (S : CallFix p m c b_Mo_take 5 s args gtbl R_Mo) (hr : meth.sig.returnType = none) (hlk : meth.locks = false) (hK : gK D (tyA cA) s) (hA : ∀ q : Nat, s.heap.size ≤ q → A q) : ∀ n : Nat, ∀ (ls : Array Slot) (H : Heap) (locs : List Loc) (x3 : Int32) (mo : Mo), p_Mo_take_26 x1 x2 Q n x3 mo → lv_has ls 5 [(0, .ref (ad 0)), (3, .int x3)] → gIn D A s (wM ad cA) mo H locs → W p l e rm_Mo_take s m args below meth c H locs 0 0 (qV D (tyA cA) A (wM ad cA) (fun u : Mo => u) (fun u : Mo => Q u) below args s) (F0 m 26 ls []) := by
  intro n
  induction n with
  | zero =>
    intro ls H locs x3 mo h
    exact (show False from h).elim
  | succ n ih =>
    intro ls H locs x3 mo h hl I
    refine lv_iload_n S.1 S.2.1 d_Mo_take_26 rfl (lv_at hl 1 rfl) ?_
    refine lv_if_le (tgt := 124) S.1 S.2.1 d_Mo_take_27 (by decide) (fun hc => ?_) (fun hc => ?_)
    · have h := h.1 hc
      exact ret_rwv S hr hlk hK I h d_Mo_take_124
    · have h := h.2 hc
      refine lv_iinc (k := 1) (v := x3 + (-1 : Int32)) (lv' := [(3, .int (x3 + (-1 : Int32))), (0, .ref (ad 0))]) S.1 S.2.1 d_Mo_take_30 hl rfl rfl (by decide) rfl (fun ls hl => ?_)
      refine lv_aload_n S.1 S.2.1 d_Mo_take_33 rfl (lv_at hl 1 rfl) ?_
      refine g_Mo_open S hK I.1 d_Mo_take_34 ?_
      refine lv_iload_n S.1 S.2.1 d_Mo_take_37 rfl (lv_at hl 0 rfl) ?_
      obtain ⟨hin, h⟩ := h
      refine a_Mo_open S hK I.1 hin d_Mo_take_38 ?_
      refine lv_istore (lv' := [(4, .int (Mo_open mo (x3 + (-1 : Int32)).toNatClampNeg)), (3, .int (x3 + (-1 : Int32))), (0, .ref (ad 0))]) S.1 S.2.1 d_Mo_take_39 hl (by decide) rfl (fun ls hl => ?_)
      refine lv_aload_n S.1 S.2.1 d_Mo_take_41 rfl (lv_at hl 2 rfl) ?_
      refine g_Mo_marked S hK I.1 d_Mo_take_42 ?_
      refine lv_iload S.1 S.2.1 d_Mo_take_45 (lv_at hl 0 rfl) ?_
      obtain ⟨hin, h⟩ := h
      refine a_Mo_marked S hK I.1 hin d_Mo_take_47 ?_
      refine lv_if_ne (tgt := 121) S.1 S.2.1 d_Mo_take_48 (by decide) (fun hc => ?_) (fun hc => ?_)
      · have h := h.1 hc
        refine lv_goto (tgt := 26) S.1 S.2.1 d_Mo_take_121 (by decide) ?_
        exact ih _ _ _ _ _ h (lv_sub hl [2, 1] rfl) I
      · have h := h.2 hc
        refine lv_aload_n S.1 S.2.1 d_Mo_take_51 rfl (lv_at hl 2 rfl) ?_
        refine g_Mo_marked S hK I.1 d_Mo_take_52 ?_
        refine lv_iload S.1 S.2.1 d_Mo_take_55 (lv_at hl 0 rfl) ?_
        refine lv_iconst (v := (1 : Int32)) S.1 S.2.1 d_Mo_take_57 rfl ?_
        obtain ⟨hin, h⟩ := h
        refine s_Mo_marked S hK I hin d_Mo_take_58 (fun H locs mo58 emo58 I => ?_)
        have h := h mo58 emo58
        refine lv_aload_n S.1 S.2.1 d_Mo_take_59 rfl (lv_at hl 2 rfl) ?_
        refine lv_dup S.1 S.2.1 d_Mo_take_60 rfl ?_
        refine g_Mo_different S hK I.1 d_Mo_take_61 ?_
        refine lv_iconst (v := (1 : Int32)) S.1 S.2.1 d_Mo_take_64 rfl ?_
        refine lv_iadd S.1 S.2.1 d_Mo_take_65 ?_
        refine q_Mo_different S hK I d_Mo_take_66 (fun H locs mo66 emo66 I => ?_)
        have h := h mo66 emo66
        refine lv_aload_n S.1 S.2.1 d_Mo_take_69 rfl (lv_at hl 2 rfl) ?_
        refine g_Mo_one S hK I.1 d_Mo_take_70 ?_
        refine lv_iload S.1 S.2.1 d_Mo_take_73 (lv_at hl 0 rfl) ?_
        obtain ⟨hin, h⟩ := h
        refine a_Mo_one S hK I.1 hin d_Mo_take_75 ?_
        refine lv_if_lt (tgt := 95) S.1 S.2.1 d_Mo_take_76 (by decide) (fun hc => ?_) (fun hc => ?_)
        · have h := h.1 hc
          exact n_Mo_take_95 S hr hlk hK hA ih _ _ _ _ _ _ h (lv_sub hl [2, 1, 0] rfl) I
        · have h := h.2 hc
          refine lv_aload_n S.1 S.2.1 d_Mo_take_79 rfl (lv_at hl 2 rfl) ?_
          refine g_Mo_open S hK I.1 d_Mo_take_80 ?_
          refine lv_iload_n S.1 S.2.1 d_Mo_take_83 rfl (lv_at hl 1 rfl) ?_
          refine lv_aload_n S.1 S.2.1 d_Mo_take_84 rfl (lv_at hl 2 rfl) ?_
          refine g_Mo_one S hK I.1 d_Mo_take_85 ?_
          refine lv_iload S.1 S.2.1 d_Mo_take_88 (lv_at hl 0 rfl) ?_
          obtain ⟨hin, h⟩ := h
          refine a_Mo_one S hK I.1 hin d_Mo_take_90 ?_
          obtain ⟨hin, h⟩ := h
          refine s_Mo_open S hK I hin d_Mo_take_91 (fun H locs mo91 emo91 I => ?_)
          have h := h mo91 emo91
          refine lv_iinc (k := 1) (v := (x3 + (-1 : Int32)) + (1 : Int32)) (lv' := [(3, .int ((x3 + (-1 : Int32)) + (1 : Int32))), (4, .int (Mo_open mo (x3 + (-1 : Int32)).toNatClampNeg)), (0, .ref (ad 0))]) S.1 S.2.1 d_Mo_take_92 hl rfl rfl (by decide) rfl (fun ls hl => ?_)
          exact n_Mo_take_95 S hr hlk hK hA ih _ _ _ _ _ _ h (lv_sub hl [2, 0, 1] rfl) I
set_option maxHeartbeats 4000000 in
set_option maxRecDepth 100000 in
theorem c_Mo_take (l : Launch) (D : va_G) (ad : Nat → Nat) (cA : ClassId × ClassId × ClassId) (mo : Mo) (x1 : Int32) (x2 : Int32) (Q : Mo → Prop) (h : p_Mo_take x1 x2 mo Q) : rwV l y_Mo_take (wsOf y_Mo_take b_Mo_take 5 none) rm_Mo_take D (tyA cA) (wM ad cA) [.ref (ad 0), .int x1, .int x2] mo (fun u : Mo => u) (fun u : Mo => Q u) := by
  refine rwV_of (by decide) (Nat.le_of_ble_eq_true rfl) ?_
  intro p e s m below meth c S hr hlk hK A hA I ls hl
  have hl : lv_has ls 5 [(0, .ref (ad 0)), (1, .int x1), (2, .int x2)] := hl
  refine lv_aload_n S.1 S.2.1 d_Mo_take_0 rfl (lv_at hl 0 rfl) ?_
  refine g_Mo_came S hK I.1 d_Mo_take_1 ?_
  refine lv_iload_n S.1 S.2.1 d_Mo_take_4 rfl (lv_at hl 1 rfl) ?_
  refine lv_iconst (v := (1 : Int32)) S.1 S.2.1 d_Mo_take_5 rfl ?_
  obtain ⟨hin, h⟩ := h
  refine s_Mo_came S hK I hin d_Mo_take_6 (fun H locs mo6 emo6 I => ?_)
  have h := h mo6 emo6
  refine lv_aload_n S.1 S.2.1 d_Mo_take_7 rfl (lv_at hl 0 rfl) ?_
  refine g_Mo_level S hK I.1 d_Mo_take_8 ?_
  refine lv_iload_n S.1 S.2.1 d_Mo_take_11 rfl (lv_at hl 1 rfl) ?_
  refine lv_iload_n S.1 S.2.1 d_Mo_take_12 rfl (lv_at hl 2 rfl) ?_
  obtain ⟨hin, h⟩ := h
  refine s_Mo_level S hK I hin d_Mo_take_13 (fun H locs mo13 emo13 I => ?_)
  have h := h mo13 emo13
  refine lv_iconst (v := (0 : Int32)) S.1 S.2.1 d_Mo_take_14 rfl ?_
  refine lv_istore_n (lv' := [(3, .int (0 : Int32)), (0, .ref (ad 0)), (1, .int x1), (2, .int x2)]) S.1 S.2.1 d_Mo_take_15 rfl hl (by decide) rfl (fun ls hl => ?_)
  refine lv_aload_n S.1 S.2.1 d_Mo_take_16 rfl (lv_at hl 1 rfl) ?_
  refine g_Mo_open S hK I.1 d_Mo_take_17 ?_
  refine lv_iconst (v := (0 : Int32)) S.1 S.2.1 d_Mo_take_20 rfl ?_
  refine lv_iload_n S.1 S.2.1 d_Mo_take_21 rfl (lv_at hl 2 rfl) ?_
  obtain ⟨hin, h⟩ := h
  refine s_Mo_open S hK I hin d_Mo_take_22 (fun H locs mo22 emo22 I => ?_)
  have h := h mo22 emo22
  refine lv_iinc (k := 0) (v := (0 : Int32) + (1 : Int32)) (lv' := [(3, .int ((0 : Int32) + (1 : Int32))), (0, .ref (ad 0)), (1, .int x1), (2, .int x2)]) S.1 S.2.1 d_Mo_take_23 hl rfl rfl (by decide) rfl (fun ls hl => ?_)
  obtain ⟨n', h⟩ := h
  exact n_Mo_take_26 S hr hlk hK hA n' _ _ _ _ _ h (lv_sub hl [1, 0] rfl) I

set_option maxHeartbeats 4000000 in
set_option maxRecDepth 100000 in
theorem n_Mo_result_90 {p : Program} {l : Launch} {e : Env} {s : State} {m : MethodId} {args : Array Value} {below : List Frame} {meth : Method} {c : Code} {D : va_G} {A : Nat → Prop} {ad : Nat → Nat} {cA : ClassId × ClassId × ClassId}  {x1 : Int32} {x2 : Int32} {Q : Int32 → Mo → Prop} (S : CallFix p m c b_Mo_result 6 s args gtbl R_Mo) (hr : meth.sig.returnType = (some .int)) (hlk : meth.locks = false) (hK : gK D (tyA cA) s) (hA : ∀ q : Nat, s.heap.size ≤ q → A q) {k20 : Int32 → Int32 → Mo → Prop} (hk20 : ∀ (ls : Array Slot) (H : Heap) (locs : List Loc) (x3 : Int32) (x4 : Int32) (mo : Mo), k20 x3 x4 mo → lv_has ls 6 [(0, .ref (ad 0)), (3, .int x3), (4, .int x4)] → gIn D A s (wM ad cA) mo H locs → W p l e rm_Mo_result s m args below meth c H locs 0 0 (qI D (tyA cA) A (wM ad cA) (fun u : Mo => u) (fun (r : Int32) (u : Mo) => Q r u) below args s) (F0 m 20 ls [])) : ∀ (ls : Array Slot) (H : Heap) (locs : List Loc) (x4 : Int32) (y0 : Int32) (y1 : Int32) (y2 : Int32) (mo : Mo), p_Mo_result_90 x1 x2 Q k20 x4 y0 y1 y2 mo → lv_has ls 6 [(0, .ref (ad 0)), (4, .int x4)] → gIn D A s (wM ad cA) mo H locs → W p l e rm_Mo_result s m args below meth c H locs 0 0 (qI D (tyA cA) A (wM ad cA) (fun u : Mo => u) (fun (r : Int32) (u : Mo) => Q r u) below args s) (F0 m 90 ls [.int y0, .int y1, .int y2, .ref (ad 0)]) := by
  intro ls H locs x4 y0 y1 y2 mo h hl I
  refine callV_rwi S (c_Mo_store l D ad cA _ _ _ _ _ h) (mkV S.2.2.2.2 ml_Mo_160 k_Mo_store rfl rfl ⟨Nat.le_of_ble_eq_true rfl, Nat.le_of_ble_eq_true rfl⟩) (rv_Mo hK I.1) hK hA I hl.1 rfl rfl (Nat.le_of_ble_eq_true rfl) d_Mo_result_90 ⟨Nat.zero_le _, Nat.zero_le _⟩ (fun r90 mo90 H locs h I => ?_)
  refine lv_istore_n (lv' := [(3, .int r90), (0, .ref (ad 0)), (4, .int x4)]) S.1 S.2.1 d_Mo_result_93 rfl hl (by decide) rfl (fun ls hl => ?_)
  refine lv_iinc (k := 2) (v := x4 + (-1 : Int32)) (lv' := [(4, .int (x4 + (-1 : Int32))), (3, .int r90), (0, .ref (ad 0))]) S.1 S.2.1 d_Mo_result_94 hl rfl rfl (by decide) rfl (fun ls hl => ?_)
  refine lv_goto (tgt := 20) S.1 S.2.1 d_Mo_result_97 (by decide) ?_
  exact hk20 _ _ _ _ _ _ h (lv_sub hl [2, 1, 0] rfl) I
set_option maxHeartbeats 4000000 in
set_option maxRecDepth 100000 in
theorem n_Mo_result_68 {p : Program} {l : Launch} {e : Env} {s : State} {m : MethodId} {args : Array Value} {below : List Frame} {meth : Method} {c : Code} {D : va_G} {A : Nat → Prop} {ad : Nat → Nat} {cA : ClassId × ClassId × ClassId}  {x1 : Int32} {x2 : Int32} {Q : Int32 → Mo → Prop} (S : CallFix p m c b_Mo_result 6 s args gtbl R_Mo) (hr : meth.sig.returnType = (some .int)) (hlk : meth.locks = false) (hK : gK D (tyA cA) s) (hA : ∀ q : Nat, s.heap.size ≤ q → A q) {k20 : Int32 → Int32 → Mo → Prop} (hk20 : ∀ (ls : Array Slot) (H : Heap) (locs : List Loc) (x3 : Int32) (x4 : Int32) (mo : Mo), k20 x3 x4 mo → lv_has ls 6 [(0, .ref (ad 0)), (3, .int x3), (4, .int x4)] → gIn D A s (wM ad cA) mo H locs → W p l e rm_Mo_result s m args below meth c H locs 0 0 (qI D (tyA cA) A (wM ad cA) (fun u : Mo => u) (fun (r : Int32) (u : Mo) => Q r u) below args s) (F0 m 20 ls [])) : ∀ (ls : Array Slot) (H : Heap) (locs : List Loc) (x3 : Int32) (x4 : Int32) (x5 : Int32) (y0 : Int32) (y1 : Int32) (mo : Mo), p_Mo_result_68 x1 x2 Q k20 x3 x4 x5 y0 y1 mo → lv_has ls 6 [(0, .ref (ad 0)), (3, .int x3), (4, .int x4), (5, .int x5)] → gIn D A s (wM ad cA) mo H locs → W p l e rm_Mo_result s m args below meth c H locs 0 0 (qI D (tyA cA) A (wM ad cA) (fun u : Mo => u) (fun (r : Int32) (u : Mo) => Q r u) below args s) (F0 m 68 ls [.int y0, .int y1, .ref (ad 0)]) := by
  intro ls H locs x3 x4 x5 y0 y1 mo h hl I
  refine lv_aload_n S.1 S.2.1 d_Mo_result_68 rfl (lv_at hl 0 rfl) ?_
  refine g_Mo_side S hK I.1 d_Mo_result_69 ?_
  refine lv_iload S.1 S.2.1 d_Mo_result_72 (lv_at hl 2 rfl) ?_
  obtain ⟨hin, h⟩ := h
  refine a_Mo_side S hK I.1 hin d_Mo_result_74 ?_
  refine lv_iconst (v := (2 : Int32)) S.1 S.2.1 d_Mo_result_75 rfl ?_
  refine lv_icmp_ne (tgt := 83) S.1 S.2.1 d_Mo_result_76 (by decide) (fun hc => ?_) (fun hc => ?_)
  · have h := h.1 hc
    refine lv_aload_n S.1 S.2.1 d_Mo_result_83 rfl (lv_at hl 0 rfl) ?_
    refine g_Mo_two S hK I.1 d_Mo_result_84 ?_
    refine lv_iload S.1 S.2.1 d_Mo_result_87 (lv_at hl 3 rfl) ?_
    obtain ⟨hin, h⟩ := h
    refine a_Mo_two S hK I.1 hin d_Mo_result_89 ?_
    exact n_Mo_result_90 S hr hlk hK hA hk20 _ _ _ _ _ _ _ _ h (lv_sub hl [0, 2] rfl) I
  · have h := h.2 hc
    refine lv_iload_n S.1 S.2.1 d_Mo_result_79 rfl (lv_at hl 1 rfl) ?_
    refine lv_goto (tgt := 90) S.1 S.2.1 d_Mo_result_80 (by decide) ?_
    exact n_Mo_result_90 S hr hlk hK hA hk20 _ _ _ _ _ _ _ _ h (lv_sub hl [0, 2] rfl) I
set_option maxHeartbeats 4000000 in
set_option maxRecDepth 100000 in
theorem n_Mo_result_20 {p : Program} {l : Launch} {e : Env} {s : State} {m : MethodId} {args : Array Value} {below : List Frame} {meth : Method} {c : Code} {D : va_G} {A : Nat → Prop} {ad : Nat → Nat} {cA : ClassId × ClassId × ClassId}  {x1 : Int32} {x2 : Int32} {Q : Int32 → Mo → Prop} (S : CallFix p m c b_Mo_result 6 s args gtbl R_Mo) (hr : meth.sig.returnType = (some .int)) (hlk : meth.locks = false) (hK : gK D (tyA cA) s) (hA : ∀ q : Nat, s.heap.size ≤ q → A q) : ∀ n : Nat, ∀ (ls : Array Slot) (H : Heap) (locs : List Loc) (x3 : Int32) (x4 : Int32) (mo : Mo), p_Mo_result_20 x1 x2 Q n x3 x4 mo → lv_has ls 6 [(0, .ref (ad 0)), (3, .int x3), (4, .int x4)] → gIn D A s (wM ad cA) mo H locs → W p l e rm_Mo_result s m args below meth c H locs 0 0 (qI D (tyA cA) A (wM ad cA) (fun u : Mo => u) (fun (r : Int32) (u : Mo) => Q r u) below args s) (F0 m 20 ls []) := by
  intro n
  induction n with
  | zero =>
    intro ls H locs x3 x4 mo h
    exact (show False from h).elim
  | succ n ih =>
    intro ls H locs x3 x4 mo h hl I
    refine lv_iload S.1 S.2.1 d_Mo_result_20 (lv_at hl 2 rfl) ?_
    refine lv_if_lt (tgt := 100) S.1 S.2.1 d_Mo_result_22 (by decide) (fun hc => ?_) (fun hc => ?_)
    · have h := h.1 hc
      refine lv_iload_n S.1 S.2.1 d_Mo_result_100 rfl (lv_at hl 1 rfl) ?_
      exact ret_rwi S hr hlk hK I h d_Mo_result_101
    · have h := h.2 hc
      refine lv_iload_n S.1 S.2.1 d_Mo_result_25 rfl (lv_at hl 1 rfl) ?_
      refine lv_if_lt (tgt := 100) S.1 S.2.1 d_Mo_result_26 (by decide) (fun hc => ?_) (fun hc => ?_)
      · have h := h.1 hc
        refine lv_iload_n S.1 S.2.1 d_Mo_result_100 rfl (lv_at hl 1 rfl) ?_
        exact ret_rwi S hr hlk hK I h d_Mo_result_101
      · have h := h.2 hc
        refine lv_aload_n S.1 S.2.1 d_Mo_result_29 rfl (lv_at hl 0 rfl) ?_
        refine g_Mo_path S hK I.1 d_Mo_result_30 ?_
        refine lv_iload S.1 S.2.1 d_Mo_result_33 (lv_at hl 2 rfl) ?_
        obtain ⟨hin, h⟩ := h
        refine a_Mo_path S hK I.1 hin d_Mo_result_35 ?_
        refine lv_istore (lv' := [(5, .int (Mo_path mo x4.toNatClampNeg)), (0, .ref (ad 0)), (3, .int x3), (4, .int x4)]) S.1 S.2.1 d_Mo_result_36 hl (by decide) rfl (fun ls hl => ?_)
        refine lv_aload_n S.1 S.2.1 d_Mo_result_38 rfl (lv_at hl 1 rfl) ?_
        refine lv_aload_n S.1 S.2.1 d_Mo_result_39 rfl (lv_at hl 1 rfl) ?_
        refine g_Mo_symbol S hK I.1 d_Mo_result_40 ?_
        refine lv_iload S.1 S.2.1 d_Mo_result_43 (lv_at hl 0 rfl) ?_
        obtain ⟨hin, h⟩ := h
        refine a_Mo_symbol S hK I.1 hin d_Mo_result_45 ?_
        refine lv_aload_n S.1 S.2.1 d_Mo_result_46 rfl (lv_at hl 1 rfl) ?_
        refine g_Mo_side S hK I.1 d_Mo_result_47 ?_
        refine lv_iload S.1 S.2.1 d_Mo_result_50 (lv_at hl 3 rfl) ?_
        obtain ⟨hin, h⟩ := h
        refine a_Mo_side S hK I.1 hin d_Mo_result_52 ?_
        refine lv_iconst (v := (1 : Int32)) S.1 S.2.1 d_Mo_result_53 rfl ?_
        refine lv_icmp_ne (tgt := 61) S.1 S.2.1 d_Mo_result_54 (by decide) (fun hc => ?_) (fun hc => ?_)
        · have h := h.1 hc
          refine lv_aload_n S.1 S.2.1 d_Mo_result_61 rfl (lv_at hl 1 rfl) ?_
          refine g_Mo_one S hK I.1 d_Mo_result_62 ?_
          refine lv_iload S.1 S.2.1 d_Mo_result_65 (lv_at hl 0 rfl) ?_
          obtain ⟨hin, h⟩ := h
          refine a_Mo_one S hK I.1 hin d_Mo_result_67 ?_
          exact n_Mo_result_68 S hr hlk hK hA ih _ _ _ _ _ _ _ _ _ h (lv_sub hl [1, 2, 3, 0] rfl) I
        · have h := h.2 hc
          refine lv_iload_n S.1 S.2.1 d_Mo_result_57 rfl (lv_at hl 2 rfl) ?_
          refine lv_goto (tgt := 68) S.1 S.2.1 d_Mo_result_58 (by decide) ?_
          exact n_Mo_result_68 S hr hlk hK hA ih _ _ _ _ _ _ _ _ _ h (lv_sub hl [1, 2, 3, 0] rfl) I
set_option maxHeartbeats 4000000 in
set_option maxRecDepth 100000 in
theorem c_Mo_result (l : Launch) (D : va_G) (ad : Nat → Nat) (cA : ClassId × ClassId × ClassId) (mo : Mo) (x1 : Int32) (x2 : Int32) (Q : Int32 → Mo → Prop) (h : p_Mo_result x1 x2 mo Q) : rwI l y_Mo_result (wsOf y_Mo_result b_Mo_result 6 (some .int)) rm_Mo_result D (tyA cA) (wM ad cA) [.ref (ad 0), .int x1, .int x2] mo (fun u : Mo => u) (fun (r : Int32) (u : Mo) => Q r u) := by
  refine rwI_of (by decide) (Nat.le_of_ble_eq_true rfl) ?_
  intro p e s m below meth c S hr hlk hK A hA I ls hl
  have hl : lv_has ls 6 [(0, .ref (ad 0)), (1, .int x1), (2, .int x2)] := hl
  refine lv_aload_n S.1 S.2.1 d_Mo_result_0 rfl (lv_at hl 0 rfl) ?_
  refine g_Mo_right S hK I.1 d_Mo_result_1 ?_
  refine lv_aload_n S.1 S.2.1 d_Mo_result_4 rfl (lv_at hl 0 rfl) ?_
  refine lv_iload_n S.1 S.2.1 d_Mo_result_5 rfl (lv_at hl 1 rfl) ?_
  refine lv_iload_n S.1 S.2.1 d_Mo_result_6 rfl (lv_at hl 2 rfl) ?_
  refine callV_rwi S (c_Mo_down l D ad cA _ _ _ _ h) (mkV S.2.2.2.2 ml_Mo_143 k_Mo_down rfl rfl ⟨Nat.le_of_ble_eq_true rfl, Nat.le_of_ble_eq_true rfl⟩) (rv_Mo hK I.1) hK hA I hl.1 rfl rfl (Nat.le_of_ble_eq_true rfl) d_Mo_result_7 ⟨Nat.zero_le _, Nat.zero_le _⟩ (fun r7 mo7 H locs h I => ?_)
  obtain ⟨hin, h⟩ := h
  refine a_Mo_right S hK I.1 hin d_Mo_result_10 ?_
  refine lv_istore_n (lv' := [(3, .int (Mo_right mo7 r7.toNatClampNeg)), (0, .ref (ad 0)), (1, .int x1), (2, .int x2)]) S.1 S.2.1 d_Mo_result_11 rfl hl (by decide) rfl (fun ls hl => ?_)
  refine lv_aload_n S.1 S.2.1 d_Mo_result_12 rfl (lv_at hl 1 rfl) ?_
  refine callV_roi S (c_Mo_depth l D ad cA _ _ h) (mkV S.2.2.2.2 ml_Mo_147 k_Mo_depth rfl rfl ⟨Nat.le_of_ble_eq_true rfl, Nat.le_of_ble_eq_true rfl⟩) (rv_Mo hK I.1) hK I.1 hl.1 rfl rfl (Nat.le_of_ble_eq_true rfl) d_Mo_result_13 ⟨Nat.zero_le _, Nat.zero_le _⟩ (fun r13 h => ?_)
  refine lv_iconst (v := (1 : Int32)) S.1 S.2.1 d_Mo_result_16 rfl ?_
  refine lv_isub S.1 S.2.1 d_Mo_result_17 ?_
  refine lv_istore (lv' := [(4, .int (r13 - (1 : Int32))), (3, .int (Mo_right mo7 r7.toNatClampNeg)), (0, .ref (ad 0)), (1, .int x1), (2, .int x2)]) S.1 S.2.1 d_Mo_result_18 hl (by decide) rfl (fun ls hl => ?_)
  obtain ⟨n', h⟩ := h
  exact n_Mo_result_20 S hr hlk hK hA n' _ _ _ _ _ _ h (lv_sub hl [2, 1, 0] rfl) I

set_option maxHeartbeats 4000000 in
set_option maxRecDepth 100000 in
theorem n_Mo_further_102 {p : Program} {l : Launch} {e : Env} {s : State} {m : MethodId} {args : Array Value} {below : List Frame} {meth : Method} {c : Code} {D : va_G} {A : Nat → Prop} {ad : Nat → Nat} {cA : ClassId × ClassId × ClassId}  {x1 : Int32} {Q : Int32 → Mo → Prop} (S : CallFix p m c b_Mo_further 6 s args gtbl R_Mo) (hr : meth.sig.returnType = (some .boolean)) (hlk : meth.locks = false) (hK : gK D (tyA cA) s) (hA : ∀ q : Nat, s.heap.size ≤ q → A q) {k2 : Int32 → Mo → Prop} (hk2 : ∀ (ls : Array Slot) (H : Heap) (locs : List Loc) (x2 : Int32) (mo : Mo), k2 x2 mo → lv_has ls 6 [(0, .ref (ad 0)), (1, .int x1), (2, .int x2)] → gIn D A s (wM ad cA) mo H locs → W p l e rm_Mo_further s m args below meth c H locs 0 0 (qI D (tyA cA) A (wM ad cA) (fun u : Mo => u) (fun (r : Int32) (u : Mo) => Q r u) below args s) (F0 m 2 ls [])) {k52 : Int32 → Int32 → Int32 → Mo → Prop} (hk52 : ∀ (ls : Array Slot) (H : Heap) (locs : List Loc) (x2 : Int32) (x3 : Int32) (x4 : Int32) (mo : Mo), k52 x2 x3 x4 mo → lv_has ls 6 [(0, .ref (ad 0)), (1, .int x1), (2, .int x2), (3, .int x3), (4, .int x4)] → gIn D A s (wM ad cA) mo H locs → W p l e rm_Mo_further s m args below meth c H locs 0 0 (qI D (tyA cA) A (wM ad cA) (fun u : Mo => u) (fun (r : Int32) (u : Mo) => Q r u) below args s) (F0 m 52 ls [])) : ∀ (ls : Array Slot) (H : Heap) (locs : List Loc) (x2 : Int32) (x3 : Int32) (x4 : Int32) (mo : Mo), p_Mo_further_102 x1 Q k2 k52 x2 x3 x4 mo → lv_has ls 6 [(0, .ref (ad 0)), (1, .int x1), (2, .int x2), (3, .int x3), (4, .int x4)] → gIn D A s (wM ad cA) mo H locs → W p l e rm_Mo_further s m args below meth c H locs 0 0 (qI D (tyA cA) A (wM ad cA) (fun u : Mo => u) (fun (r : Int32) (u : Mo) => Q r u) below args s) (F0 m 102 ls []) := by
  intro ls H locs x2 x3 x4 mo h hl I
  refine lv_aload_n S.1 S.2.1 d_Mo_further_102 rfl (lv_at hl 0 rfl) ?_
  refine g_Mo_different S hK I.1 d_Mo_further_103 ?_
  refine lv_sipush (v := (400 : Int32)) S.1 S.2.1 d_Mo_further_106 rfl ?_
  refine lv_icmp_le (tgt := 114) S.1 S.2.1 d_Mo_further_109 (by decide) (fun hc => ?_) (fun hc => ?_)
  · have h := h.1 hc
    refine lv_iinc (k := 4) (v := x4 + (1 : Int32)) (lv' := [(4, .int (x4 + (1 : Int32))), (0, .ref (ad 0)), (1, .int x1), (2, .int x2), (3, .int x3)]) S.1 S.2.1 d_Mo_further_114 hl rfl rfl (by decide) rfl (fun ls hl => ?_)
    refine lv_goto (tgt := 52) S.1 S.2.1 d_Mo_further_117 (by decide) ?_
    exact hk52 _ _ _ _ _ _ _ h (lv_sub hl [1, 2, 3, 4, 0] rfl) I
  · have h := h.2 hc
    refine lv_iconst (v := (0 : Int32)) S.1 S.2.1 d_Mo_further_112 rfl ?_
    exact ret_rwz S hr hlk hK (by decide) I h d_Mo_further_113
set_option maxHeartbeats 4000000 in
set_option maxRecDepth 100000 in
theorem n_Mo_further_52 {p : Program} {l : Launch} {e : Env} {s : State} {m : MethodId} {args : Array Value} {below : List Frame} {meth : Method} {c : Code} {D : va_G} {A : Nat → Prop} {ad : Nat → Nat} {cA : ClassId × ClassId × ClassId}  {x1 : Int32} {Q : Int32 → Mo → Prop} (S : CallFix p m c b_Mo_further 6 s args gtbl R_Mo) (hr : meth.sig.returnType = (some .boolean)) (hlk : meth.locks = false) (hK : gK D (tyA cA) s) (hA : ∀ q : Nat, s.heap.size ≤ q → A q) {k2 : Int32 → Mo → Prop} (hk2 : ∀ (ls : Array Slot) (H : Heap) (locs : List Loc) (x2 : Int32) (mo : Mo), k2 x2 mo → lv_has ls 6 [(0, .ref (ad 0)), (1, .int x1), (2, .int x2)] → gIn D A s (wM ad cA) mo H locs → W p l e rm_Mo_further s m args below meth c H locs 0 0 (qI D (tyA cA) A (wM ad cA) (fun u : Mo => u) (fun (r : Int32) (u : Mo) => Q r u) below args s) (F0 m 2 ls [])) : ∀ n : Nat, ∀ (ls : Array Slot) (H : Heap) (locs : List Loc) (x2 : Int32) (x3 : Int32) (x4 : Int32) (mo : Mo), p_Mo_further_52 x1 Q k2 n x2 x3 x4 mo → lv_has ls 6 [(0, .ref (ad 0)), (1, .int x1), (2, .int x2), (3, .int x3), (4, .int x4)] → gIn D A s (wM ad cA) mo H locs → W p l e rm_Mo_further s m args below meth c H locs 0 0 (qI D (tyA cA) A (wM ad cA) (fun u : Mo => u) (fun (r : Int32) (u : Mo) => Q r u) below args s) (F0 m 52 ls []) := by
  intro n
  induction n with
  | zero =>
    intro ls H locs x2 x3 x4 mo h
    exact (show False from h).elim
  | succ n ih =>
    intro ls H locs x2 x3 x4 mo h hl I
    refine lv_iload_n S.1 S.2.1 d_Mo_further_52 rfl (lv_at hl 3 rfl) ?_
    refine lv_if_eq (tgt := 120) S.1 S.2.1 d_Mo_further_53 (by decide) (fun hc => ?_) (fun hc => ?_)
    · have h := h.1 hc
      refine lv_iinc (k := 2) (v := x2 + (1 : Int32)) (lv' := [(2, .int (x2 + (1 : Int32))), (0, .ref (ad 0)), (1, .int x1), (3, .int x3), (4, .int x4)]) S.1 S.2.1 d_Mo_further_120 hl rfl rfl (by decide) rfl (fun ls hl => ?_)
      refine lv_goto (tgt := 2) S.1 S.2.1 d_Mo_further_123 (by decide) ?_
      exact hk2 _ _ _ _ _ h (lv_sub hl [1, 2, 0] rfl) I
    · have h := h.2 hc
      refine lv_iload S.1 S.2.1 d_Mo_further_56 (lv_at hl 4 rfl) ?_
      refine lv_aload_n S.1 S.2.1 d_Mo_further_58 rfl (lv_at hl 0 rfl) ?_
      refine g_Mo_many S hK I.1 d_Mo_further_59 ?_
      refine lv_iload_n S.1 S.2.1 d_Mo_further_62 rfl (lv_at hl 2 rfl) ?_
      obtain ⟨hin, h⟩ := h
      refine a_Mo_many S hK I.1 hin d_Mo_further_63 ?_
      refine lv_icmp_ge (tgt := 120) S.1 S.2.1 d_Mo_further_64 (by decide) (fun hc => ?_) (fun hc => ?_)
      · have h := h.1 hc
        refine lv_iinc (k := 2) (v := x2 + (1 : Int32)) (lv' := [(2, .int (x2 + (1 : Int32))), (0, .ref (ad 0)), (1, .int x1), (3, .int x3), (4, .int x4)]) S.1 S.2.1 d_Mo_further_120 hl rfl rfl (by decide) rfl (fun ls hl => ?_)
        refine lv_goto (tgt := 2) S.1 S.2.1 d_Mo_further_123 (by decide) ?_
        exact hk2 _ _ _ _ _ h (lv_sub hl [1, 2, 0] rfl) I
      · have h := h.2 hc
        refine lv_aload_n S.1 S.2.1 d_Mo_further_67 rfl (lv_at hl 0 rfl) ?_
        refine lv_iload_n S.1 S.2.1 d_Mo_further_68 rfl (lv_at hl 2 rfl) ?_
        refine lv_iload S.1 S.2.1 d_Mo_further_69 (lv_at hl 4 rfl) ?_
        refine callV_rwi S (c_Mo_result l D ad cA _ _ _ _ h) (mkV S.2.2.2.2 ml_Mo_163 k_Mo_result rfl rfl ⟨Nat.le_of_ble_eq_true rfl, Nat.le_of_ble_eq_true rfl⟩) (rv_Mo hK I.1) hK hA I hl.1 rfl rfl (Nat.le_of_ble_eq_true rfl) d_Mo_further_71 ⟨Nat.zero_le _, Nat.zero_le _⟩ (fun r71 mo71 H locs h I => ?_)
        refine lv_istore (lv' := [(5, .int r71), (0, .ref (ad 0)), (1, .int x1), (2, .int x2), (3, .int x3), (4, .int x4)]) S.1 S.2.1 d_Mo_further_74 hl (by decide) rfl (fun ls hl => ?_)
        refine lv_iload S.1 S.2.1 d_Mo_further_76 (lv_at hl 0 rfl) ?_
        refine lv_if_ge (tgt := 83) S.1 S.2.1 d_Mo_further_78 (by decide) (fun hc => ?_) (fun hc => ?_)
        · have h := h.1 hc
          refine lv_aload_n S.1 S.2.1 d_Mo_further_83 rfl (lv_at hl 1 rfl) ?_
          refine g_Mo_came S hK I.1 d_Mo_further_84 ?_
          refine lv_iload S.1 S.2.1 d_Mo_further_87 (lv_at hl 0 rfl) ?_
          obtain ⟨hin, h⟩ := h
          refine a_Mo_came S hK I.1 hin d_Mo_further_89 ?_
          refine lv_if_ne (tgt := 102) S.1 S.2.1 d_Mo_further_90 (by decide) (fun hc => ?_) (fun hc => ?_)
          · have h := h.1 hc
            exact n_Mo_further_102 S hr hlk hK hA hk2 ih _ _ _ _ _ _ _ h (lv_sub hl [1, 2, 3, 4, 5] rfl) I
          · have h := h.2 hc
            refine lv_aload_n S.1 S.2.1 d_Mo_further_93 rfl (lv_at hl 1 rfl) ?_
            refine lv_iload S.1 S.2.1 d_Mo_further_94 (lv_at hl 0 rfl) ?_
            refine lv_iload_n S.1 S.2.1 d_Mo_further_96 rfl (lv_at hl 2 rfl) ?_
            refine lv_iconst (v := (1 : Int32)) S.1 S.2.1 d_Mo_further_97 rfl ?_
            refine lv_iadd S.1 S.2.1 d_Mo_further_98 ?_
            refine callV_rwv S (c_Mo_take l D ad cA _ _ _ _ h) (mkV S.2.2.2.2 ml_Mo_166 k_Mo_take rfl rfl ⟨Nat.le_of_ble_eq_true rfl, Nat.le_of_ble_eq_true rfl⟩) (rv_Mo hK I.1) hK hA I hl.1 rfl rfl (Nat.le_of_ble_eq_true rfl) d_Mo_further_99 ⟨Nat.zero_le _, Nat.zero_le _⟩ (fun mo99 H locs h I => ?_)
            exact n_Mo_further_102 S hr hlk hK hA hk2 ih _ _ _ _ _ _ _ h (lv_sub hl [1, 2, 3, 4, 5] rfl) I
        · have h := h.2 hc
          refine lv_iconst (v := (0 : Int32)) S.1 S.2.1 d_Mo_further_81 rfl ?_
          exact ret_rwz S hr hlk hK (by decide) I h d_Mo_further_82
set_option maxHeartbeats 4000000 in
set_option maxRecDepth 100000 in
theorem n_Mo_further_24 {p : Program} {l : Launch} {e : Env} {s : State} {m : MethodId} {args : Array Value} {below : List Frame} {meth : Method} {c : Code} {D : va_G} {A : Nat → Prop} {ad : Nat → Nat} {cA : ClassId × ClassId × ClassId}  {x1 : Int32} {Q : Int32 → Mo → Prop} (S : CallFix p m c b_Mo_further 6 s args gtbl R_Mo) (hr : meth.sig.returnType = (some .boolean)) (hlk : meth.locks = false) (hK : gK D (tyA cA) s) (hA : ∀ q : Nat, s.heap.size ≤ q → A q) {k2 : Int32 → Mo → Prop} (hk2 : ∀ (ls : Array Slot) (H : Heap) (locs : List Loc) (x2 : Int32) (mo : Mo), k2 x2 mo → lv_has ls 6 [(0, .ref (ad 0)), (1, .int x1), (2, .int x2)] → gIn D A s (wM ad cA) mo H locs → W p l e rm_Mo_further s m args below meth c H locs 0 0 (qI D (tyA cA) A (wM ad cA) (fun u : Mo => u) (fun (r : Int32) (u : Mo) => Q r u) below args s) (F0 m 2 ls [])) : ∀ (ls : Array Slot) (H : Heap) (locs : List Loc) (x2 : Int32) (mo : Mo), p_Mo_further_24 x1 Q k2 x2 mo → lv_has ls 6 [(0, .ref (ad 0)), (1, .int x1), (2, .int x2)] → gIn D A s (wM ad cA) mo H locs → W p l e rm_Mo_further s m args below meth c H locs 0 0 (qI D (tyA cA) A (wM ad cA) (fun u : Mo => u) (fun (r : Int32) (u : Mo) => Q r u) below args s) (F0 m 24 ls []) := by
  intro ls H locs x2 mo h hl I
  refine lv_aload_n S.1 S.2.1 d_Mo_further_24 rfl (lv_at hl 0 rfl) ?_
  refine g_Mo_came S hK I.1 d_Mo_further_25 ?_
  refine lv_iload_n S.1 S.2.1 d_Mo_further_28 rfl (lv_at hl 2 rfl) ?_
  obtain ⟨hin, h⟩ := h
  refine a_Mo_came S hK I.1 hin d_Mo_further_29 ?_
  refine lv_if_eq (tgt := 47) S.1 S.2.1 d_Mo_further_30 (by decide) (fun hc => ?_) (fun hc => ?_)
  · have h := h.1 hc
    refine lv_iconst (v := (0 : Int32)) S.1 S.2.1 d_Mo_further_47 rfl ?_
    refine lv_istore_n (lv' := [(3, .int (0 : Int32)), (0, .ref (ad 0)), (1, .int x1), (2, .int x2)]) S.1 S.2.1 d_Mo_further_48 rfl hl (by decide) rfl (fun ls hl => ?_)
    refine lv_iconst (v := (0 : Int32)) S.1 S.2.1 d_Mo_further_49 rfl ?_
    refine lv_istore (lv' := [(4, .int (0 : Int32)), (3, .int (0 : Int32)), (0, .ref (ad 0)), (1, .int x1), (2, .int x2)]) S.1 S.2.1 d_Mo_further_50 hl (by decide) rfl (fun ls hl => ?_)
    obtain ⟨n', h⟩ := h
    exact n_Mo_further_52 S hr hlk hK hA hk2 n' _ _ _ _ _ _ _ h (lv_sub hl [2, 3, 4, 1, 0] rfl) I
  · have h := h.2 hc
    refine lv_aload_n S.1 S.2.1 d_Mo_further_33 rfl (lv_at hl 0 rfl) ?_
    refine g_Mo_level S hK I.1 d_Mo_further_34 ?_
    refine lv_iload_n S.1 S.2.1 d_Mo_further_37 rfl (lv_at hl 2 rfl) ?_
    obtain ⟨hin, h⟩ := h
    refine a_Mo_level S hK I.1 hin d_Mo_further_38 ?_
    refine lv_iload_n S.1 S.2.1 d_Mo_further_39 rfl (lv_at hl 1 rfl) ?_
    refine lv_icmp_ne (tgt := 47) S.1 S.2.1 d_Mo_further_40 (by decide) (fun hc => ?_) (fun hc => ?_)
    · have h := h.1 hc
      refine lv_iconst (v := (0 : Int32)) S.1 S.2.1 d_Mo_further_47 rfl ?_
      refine lv_istore_n (lv' := [(3, .int (0 : Int32)), (0, .ref (ad 0)), (1, .int x1), (2, .int x2)]) S.1 S.2.1 d_Mo_further_48 rfl hl (by decide) rfl (fun ls hl => ?_)
      refine lv_iconst (v := (0 : Int32)) S.1 S.2.1 d_Mo_further_49 rfl ?_
      refine lv_istore (lv' := [(4, .int (0 : Int32)), (3, .int (0 : Int32)), (0, .ref (ad 0)), (1, .int x1), (2, .int x2)]) S.1 S.2.1 d_Mo_further_50 hl (by decide) rfl (fun ls hl => ?_)
      obtain ⟨n', h⟩ := h
      exact n_Mo_further_52 S hr hlk hK hA hk2 n' _ _ _ _ _ _ _ h (lv_sub hl [2, 3, 4, 1, 0] rfl) I
    · have h := h.2 hc
      refine lv_iconst (v := (1 : Int32)) S.1 S.2.1 d_Mo_further_43 rfl ?_
      refine lv_goto (tgt := 48) S.1 S.2.1 d_Mo_further_44 (by decide) ?_
      refine lv_istore_n (lv' := [(3, .int (1 : Int32)), (0, .ref (ad 0)), (1, .int x1), (2, .int x2)]) S.1 S.2.1 d_Mo_further_48 rfl hl (by decide) rfl (fun ls hl => ?_)
      refine lv_iconst (v := (0 : Int32)) S.1 S.2.1 d_Mo_further_49 rfl ?_
      refine lv_istore (lv' := [(4, .int (0 : Int32)), (3, .int (1 : Int32)), (0, .ref (ad 0)), (1, .int x1), (2, .int x2)]) S.1 S.2.1 d_Mo_further_50 hl (by decide) rfl (fun ls hl => ?_)
      obtain ⟨n', h⟩ := h
      exact n_Mo_further_52 S hr hlk hK hA hk2 n' _ _ _ _ _ _ _ h (lv_sub hl [2, 3, 4, 1, 0] rfl) I
set_option maxHeartbeats 4000000 in
set_option maxRecDepth 100000 in
theorem n_Mo_further_2 {p : Program} {l : Launch} {e : Env} {s : State} {m : MethodId} {args : Array Value} {below : List Frame} {meth : Method} {c : Code} {D : va_G} {A : Nat → Prop} {ad : Nat → Nat} {cA : ClassId × ClassId × ClassId}  {x1 : Int32} {Q : Int32 → Mo → Prop} (S : CallFix p m c b_Mo_further 6 s args gtbl R_Mo) (hr : meth.sig.returnType = (some .boolean)) (hlk : meth.locks = false) (hK : gK D (tyA cA) s) (hA : ∀ q : Nat, s.heap.size ≤ q → A q) : ∀ n : Nat, ∀ (ls : Array Slot) (H : Heap) (locs : List Loc) (x2 : Int32) (mo : Mo), p_Mo_further_2 x1 Q n x2 mo → lv_has ls 6 [(0, .ref (ad 0)), (1, .int x1), (2, .int x2)] → gIn D A s (wM ad cA) mo H locs → W p l e rm_Mo_further s m args below meth c H locs 0 0 (qI D (tyA cA) A (wM ad cA) (fun u : Mo => u) (fun (r : Int32) (u : Mo) => Q r u) below args s) (F0 m 2 ls []) := by
  intro n
  induction n with
  | zero =>
    intro ls H locs x2 mo h
    exact (show False from h).elim
  | succ n ih =>
    intro ls H locs x2 mo h hl I
    refine lv_iload_n S.1 S.2.1 d_Mo_further_2 rfl (lv_at hl 2 rfl) ?_
    refine lv_aload_n S.1 S.2.1 d_Mo_further_3 rfl (lv_at hl 0 rfl) ?_
    refine g_Mo_stored S hK I.1 d_Mo_further_4 ?_
    refine lv_icmp_ge (tgt := 126) S.1 S.2.1 d_Mo_further_7 (by decide) (fun hc => ?_) (fun hc => ?_)
    · have h := h.1 hc
      refine lv_iconst (v := (1 : Int32)) S.1 S.2.1 d_Mo_further_126 rfl ?_
      exact ret_rwz S hr hlk hK (by decide) I h d_Mo_further_127
    · have h := h.2 hc
      refine lv_iload_n S.1 S.2.1 d_Mo_further_10 rfl (lv_at hl 2 rfl) ?_
      refine lv_aload_n S.1 S.2.1 d_Mo_further_11 rfl (lv_at hl 0 rfl) ?_
      refine g_Mo_count S hK I.1 d_Mo_further_12 ?_
      refine lv_icmp_lt (tgt := 24) S.1 S.2.1 d_Mo_further_15 (by decide) (fun hc => ?_) (fun hc => ?_)
      · have h := h.1 hc
        exact n_Mo_further_24 S hr hlk hK hA ih _ _ _ _ _ h (lv_sub hl [0, 1, 2] rfl) I
      · have h := h.2 hc
        refine lv_iload_n S.1 S.2.1 d_Mo_further_18 rfl (lv_at hl 2 rfl) ?_
        refine lv_bipush (v := (48 : Int32)) S.1 S.2.1 d_Mo_further_19 rfl ?_
        refine lv_icmp_lt (tgt := 47) S.1 S.2.1 d_Mo_further_21 (by decide) (fun hc => ?_) (fun hc => ?_)
        · have h := h.1 hc
          refine lv_iconst (v := (0 : Int32)) S.1 S.2.1 d_Mo_further_47 rfl ?_
          refine lv_istore_n (lv' := [(3, .int (0 : Int32)), (0, .ref (ad 0)), (1, .int x1), (2, .int x2)]) S.1 S.2.1 d_Mo_further_48 rfl hl (by decide) rfl (fun ls hl => ?_)
          refine lv_iconst (v := (0 : Int32)) S.1 S.2.1 d_Mo_further_49 rfl ?_
          refine lv_istore (lv' := [(4, .int (0 : Int32)), (3, .int (0 : Int32)), (0, .ref (ad 0)), (1, .int x1), (2, .int x2)]) S.1 S.2.1 d_Mo_further_50 hl (by decide) rfl (fun ls hl => ?_)
          obtain ⟨n', h⟩ := h
          exact n_Mo_further_52 S hr hlk hK hA ih n' _ _ _ _ _ _ _ h (lv_sub hl [2, 3, 4, 1, 0] rfl) I
        · have h := h.2 hc
          exact n_Mo_further_24 S hr hlk hK hA ih _ _ _ _ _ h (lv_sub hl [0, 1, 2] rfl) I
set_option maxHeartbeats 4000000 in
set_option maxRecDepth 100000 in
theorem c_Mo_further (l : Launch) (D : va_G) (ad : Nat → Nat) (cA : ClassId × ClassId × ClassId) (mo : Mo) (x1 : Int32) (Q : Int32 → Mo → Prop) (h : p_Mo_further x1 mo Q) : rwI l y_Mo_further (wsOf y_Mo_further b_Mo_further 6 (some .boolean)) rm_Mo_further D (tyA cA) (wM ad cA) [.ref (ad 0), .int x1] mo (fun u : Mo => u) (fun (r : Int32) (u : Mo) => Q r u) := by
  refine rwI_of (by decide) (Nat.le_of_ble_eq_true rfl) ?_
  intro p e s m below meth c S hr hlk hK A hA I ls hl
  have hl : lv_has ls 6 [(0, .ref (ad 0)), (1, .int x1)] := hl
  refine lv_iconst (v := (0 : Int32)) S.1 S.2.1 d_Mo_further_0 rfl ?_
  refine lv_istore_n (lv' := [(2, .int (0 : Int32)), (0, .ref (ad 0)), (1, .int x1)]) S.1 S.2.1 d_Mo_further_1 rfl hl (by decide) rfl (fun ls hl => ?_)
  obtain ⟨n', h⟩ := h
  exact n_Mo_further_2 S hr hlk hK hA n' _ _ _ _ _ h (lv_sub hl [1, 2, 0] rfl) I

set_option maxHeartbeats 4000000 in
set_option maxRecDepth 100000 in
theorem n_Mo_distance_91 {p : Program} {l : Launch} {e : Env} {s : State} {m : MethodId} {args : Array Value} {below : List Frame} {meth : Method} {c : Code} {D : va_G} {A : Nat → Prop} {ad : Nat → Nat} {cA : ClassId × ClassId × ClassId}  {x1 : Int32} {x2 : Int32} {Q : Int32 → Mo → Prop} (S : CallFix p m c b_Mo_distance 5 s args gtbl R_Mo) (hr : meth.sig.returnType = (some .int)) (hlk : meth.locks = false) (hK : gK D (tyA cA) s) (hA : ∀ q : Nat, s.heap.size ≤ q → A q) : ∀ n : Nat, ∀ (ls : Array Slot) (H : Heap) (locs : List Loc) (x4 : Int32) (mo : Mo), p_Mo_distance_91 x1 x2 Q n x4 mo → lv_has ls 5 [(0, .ref (ad 0)), (2, .int x2), (4, .int x4)] → gIn D A s (wM ad cA) mo H locs → W p l e rm_Mo_distance s m args below meth c H locs 0 0 (qI D (tyA cA) A (wM ad cA) (fun u : Mo => u) (fun (r : Int32) (u : Mo) => Q r u) below args s) (F0 m 91 ls []) := by
  intro n
  induction n with
  | zero =>
    intro ls H locs x4 mo h
    exact (show False from h).elim
  | succ n ih =>
    intro ls H locs x4 mo h hl I
    refine lv_aload_n S.1 S.2.1 d_Mo_distance_91 rfl (lv_at hl 0 rfl) ?_
    refine g_Mo_came S hK I.1 d_Mo_distance_92 ?_
    refine lv_iload_n S.1 S.2.1 d_Mo_distance_95 rfl (lv_at hl 1 rfl) ?_
    obtain ⟨hin, h⟩ := h
    refine a_Mo_came S hK I.1 hin d_Mo_distance_96 ?_
    refine lv_if_ne (tgt := 118) S.1 S.2.1 d_Mo_distance_97 (by decide) (fun hc => ?_) (fun hc => ?_)
    · have h := h.1 hc
      refine lv_aload_n S.1 S.2.1 d_Mo_distance_118 rfl (lv_at hl 0 rfl) ?_
      refine g_Mo_level S hK I.1 d_Mo_distance_119 ?_
      refine lv_iload_n S.1 S.2.1 d_Mo_distance_122 rfl (lv_at hl 1 rfl) ?_
      obtain ⟨hin, h⟩ := h
      refine a_Mo_level S hK I.1 hin d_Mo_distance_123 ?_
      exact ret_rwi S hr hlk hK I h d_Mo_distance_124
    · have h := h.2 hc
      refine lv_aload_n S.1 S.2.1 d_Mo_distance_100 rfl (lv_at hl 0 rfl) ?_
      refine lv_iload S.1 S.2.1 d_Mo_distance_101 (lv_at hl 2 rfl) ?_
      refine callV_rwi S (c_Mo_further l D ad cA _ _ _ h) (mkV S.2.2.2.2 ml_Mo_170 k_Mo_further rfl rfl ⟨Nat.le_of_ble_eq_true rfl, Nat.le_of_ble_eq_true rfl⟩) (rv_Mo hK I.1) hK hA I hl.1 rfl rfl (Nat.le_of_ble_eq_true rfl) d_Mo_distance_103 ⟨Nat.zero_le _, Nat.zero_le _⟩ (fun r103 mo103 H locs h I => ?_)
      refine lv_if_ne (tgt := 112) S.1 S.2.1 d_Mo_distance_106 (by decide) (fun hc => ?_) (fun hc => ?_)
      · have h := h.1 hc
        refine lv_iinc (k := 2) (v := x4 + (1 : Int32)) (lv' := [(4, .int (x4 + (1 : Int32))), (0, .ref (ad 0)), (2, .int x2)]) S.1 S.2.1 d_Mo_distance_112 hl rfl rfl (by decide) rfl (fun ls hl => ?_)
        refine lv_goto (tgt := 91) S.1 S.2.1 d_Mo_distance_115 (by decide) ?_
        exact ih _ _ _ _ _ h (lv_sub hl [1, 2, 0] rfl) I
      · have h := h.2 hc
        refine lv_bipush (v := (-2 : Int32)) S.1 S.2.1 d_Mo_distance_109 rfl ?_
        exact ret_rwi S hr hlk hK I h d_Mo_distance_111
set_option maxHeartbeats 4000000 in
set_option maxRecDepth 100000 in
theorem n_Mo_distance_52 {p : Program} {l : Launch} {e : Env} {s : State} {m : MethodId} {args : Array Value} {below : List Frame} {meth : Method} {c : Code} {D : va_G} {A : Nat → Prop} {ad : Nat → Nat} {cA : ClassId × ClassId × ClassId}  {x1 : Int32} {x2 : Int32} {Q : Int32 → Mo → Prop} (S : CallFix p m c b_Mo_distance 5 s args gtbl R_Mo) (hr : meth.sig.returnType = (some .int)) (hlk : meth.locks = false) (hK : gK D (tyA cA) s) (hA : ∀ q : Nat, s.heap.size ≤ q → A q) : ∀ n : Nat, ∀ (ls : Array Slot) (H : Heap) (locs : List Loc) (x4 : Int32) (mo : Mo), p_Mo_distance_52 x1 x2 Q n x4 mo → lv_has ls 5 [(0, .ref (ad 0)), (1, .int x1), (2, .int x2), (4, .int x4)] → gIn D A s (wM ad cA) mo H locs → W p l e rm_Mo_distance s m args below meth c H locs 0 0 (qI D (tyA cA) A (wM ad cA) (fun u : Mo => u) (fun (r : Int32) (u : Mo) => Q r u) below args s) (F0 m 52 ls []) := by
  intro n
  induction n with
  | zero =>
    intro ls H locs x4 mo h
    exact (show False from h).elim
  | succ n ih =>
    intro ls H locs x4 mo h hl I
    refine lv_iload S.1 S.2.1 d_Mo_distance_52 (lv_at hl 3 rfl) ?_
    refine lv_sipush (v := (520 : Int32)) S.1 S.2.1 d_Mo_distance_54 rfl ?_
    refine lv_icmp_ge (tgt := 82) S.1 S.2.1 d_Mo_distance_57 (by decide) (fun hc => ?_) (fun hc => ?_)
    · have h := h.1 hc
      refine lv_aload_n S.1 S.2.1 d_Mo_distance_82 rfl (lv_at hl 0 rfl) ?_
      refine lv_iload_n S.1 S.2.1 d_Mo_distance_83 rfl (lv_at hl 1 rfl) ?_
      refine lv_iconst (v := (0 : Int32)) S.1 S.2.1 d_Mo_distance_84 rfl ?_
      refine callV_rwv S (c_Mo_take l D ad cA _ _ _ _ h) (mkV S.2.2.2.2 ml_Mo_166 k_Mo_take rfl rfl ⟨Nat.le_of_ble_eq_true rfl, Nat.le_of_ble_eq_true rfl⟩) (rv_Mo hK I.1) hK hA I hl.1 rfl rfl (Nat.le_of_ble_eq_true rfl) d_Mo_distance_85 ⟨Nat.zero_le _, Nat.zero_le _⟩ (fun mo85 H locs h I => ?_)
      refine lv_iconst (v := (0 : Int32)) S.1 S.2.1 d_Mo_distance_88 rfl ?_
      refine lv_istore (lv' := [(4, .int (0 : Int32)), (0, .ref (ad 0)), (1, .int x1), (2, .int x2)]) S.1 S.2.1 d_Mo_distance_89 hl (by decide) rfl (fun ls hl => ?_)
      obtain ⟨n', h⟩ := h
      exact n_Mo_distance_91 S hr hlk hK hA n' _ _ _ _ _ h (lv_sub hl [1, 3, 0] rfl) I
    · have h := h.2 hc
      refine lv_aload_n S.1 S.2.1 d_Mo_distance_60 rfl (lv_at hl 0 rfl) ?_
      refine g_Mo_came S hK I.1 d_Mo_distance_61 ?_
      refine lv_iload S.1 S.2.1 d_Mo_distance_64 (lv_at hl 3 rfl) ?_
      refine lv_iconst (v := (0 : Int32)) S.1 S.2.1 d_Mo_distance_66 rfl ?_
      obtain ⟨hin, h⟩ := h
      refine s_Mo_came S hK I hin d_Mo_distance_67 (fun H locs mo67 emo67 I => ?_)
      have h := h mo67 emo67
      refine lv_aload_n S.1 S.2.1 d_Mo_distance_68 rfl (lv_at hl 0 rfl) ?_
      refine g_Mo_marked S hK I.1 d_Mo_distance_69 ?_
      refine lv_iload S.1 S.2.1 d_Mo_distance_72 (lv_at hl 3 rfl) ?_
      refine lv_iconst (v := (0 : Int32)) S.1 S.2.1 d_Mo_distance_74 rfl ?_
      obtain ⟨hin, h⟩ := h
      refine s_Mo_marked S hK I hin d_Mo_distance_75 (fun H locs mo75 emo75 I => ?_)
      have h := h mo75 emo75
      refine lv_iinc (k := 3) (v := x4 + (1 : Int32)) (lv' := [(4, .int (x4 + (1 : Int32))), (0, .ref (ad 0)), (1, .int x1), (2, .int x2)]) S.1 S.2.1 d_Mo_distance_76 hl rfl rfl (by decide) rfl (fun ls hl => ?_)
      refine lv_goto (tgt := 52) S.1 S.2.1 d_Mo_distance_79 (by decide) ?_
      exact ih _ _ _ _ _ h (lv_sub hl [1, 2, 3, 0] rfl) I
set_option maxHeartbeats 4000000 in
set_option maxRecDepth 100000 in
theorem c_Mo_distance (l : Launch) (D : va_G) (ad : Nat → Nat) (cA : ClassId × ClassId × ClassId) (mo : Mo) (x1 : Int32) (x2 : Int32) (Q : Int32 → Mo → Prop) (h : p_Mo_distance x1 x2 mo Q) : rwI l y_Mo_distance (wsOf y_Mo_distance b_Mo_distance 5 (some .int)) rm_Mo_distance D (tyA cA) (wM ad cA) [.ref (ad 0), .int x1, .int x2] mo (fun u : Mo => u) (fun (r : Int32) (u : Mo) => Q r u) := by
  refine rwI_of (by decide) (Nat.le_of_ble_eq_true rfl) ?_
  intro p e s m below meth c S hr hlk hK A hA I ls hl
  have hl : lv_has ls 5 [(0, .ref (ad 0)), (1, .int x1), (2, .int x2)] := hl
  refine lv_aload_n S.1 S.2.1 d_Mo_distance_0 rfl (lv_at hl 0 rfl) ?_
  refine lv_iload_n S.1 S.2.1 d_Mo_distance_1 rfl (lv_at hl 1 rfl) ?_
  refine lv_iload_n S.1 S.2.1 d_Mo_distance_2 rfl (lv_at hl 2 rfl) ?_
  refine callV_rwi S (c_Mo_ask l D ad cA _ _ _ _ h) (mkV S.2.2.2.2 ml_Mo_125 k_Mo_ask rfl rfl ⟨Nat.le_of_ble_eq_true rfl, Nat.le_of_ble_eq_true rfl⟩) (rv_Mo hK I.1) hK hA I hl.1 rfl rfl (Nat.le_of_ble_eq_true rfl) d_Mo_distance_3 ⟨Nat.zero_le _, Nat.zero_le _⟩ (fun r3 mo3 H locs h I => ?_)
  refine lv_if_ne (tgt := 11) S.1 S.2.1 d_Mo_distance_6 (by decide) (fun hc => ?_) (fun hc => ?_)
  · have h := h.1 hc
    refine lv_aload_n S.1 S.2.1 d_Mo_distance_11 rfl (lv_at hl 0 rfl) ?_
    refine g_Mo_goes S hK I.1 d_Mo_distance_12 ?_
    refine lv_bipush (v := (48 : Int32)) S.1 S.2.1 d_Mo_distance_15 rfl ?_
    refine lv_iload_n S.1 S.2.1 d_Mo_distance_17 rfl (lv_at hl 1 rfl) ?_
    refine lv_imul S.1 S.2.1 d_Mo_distance_18 ?_
    refine lv_iload_n S.1 S.2.1 d_Mo_distance_19 rfl (lv_at hl 2 rfl) ?_
    refine lv_iadd S.1 S.2.1 d_Mo_distance_20 ?_
    obtain ⟨hin, h⟩ := h
    refine a_Mo_goes S hK I.1 hin d_Mo_distance_21 ?_
    refine lv_if_ne (tgt := 27) S.1 S.2.1 d_Mo_distance_22 (by decide) (fun hc => ?_) (fun hc => ?_)
    · have h := h.1 hc
      refine lv_aload_n S.1 S.2.1 d_Mo_distance_27 rfl (lv_at hl 0 rfl) ?_
      refine lv_aload_n S.1 S.2.1 d_Mo_distance_28 rfl (lv_at hl 0 rfl) ?_
      refine g_Mo_count S hK I.1 d_Mo_distance_29 ?_
      refine lv_iconst (v := (1 : Int32)) S.1 S.2.1 d_Mo_distance_32 rfl ?_
      refine lv_isub S.1 S.2.1 d_Mo_distance_33 ?_
      refine callV_rwi S (c_Mo_steps l D ad cA _ _ _ h) (mkV S.2.2.2.2 ml_Mo_103 k_Mo_steps rfl rfl ⟨Nat.le_of_ble_eq_true rfl, Nat.le_of_ble_eq_true rfl⟩) (rv_Mo hK I.1) hK hA I hl.1 rfl rfl (Nat.le_of_ble_eq_true rfl) d_Mo_distance_34 ⟨Nat.zero_le _, Nat.zero_le _⟩ (fun r34 mo34 H locs h I => ?_)
      refine lv_istore_n (lv' := [(3, .int r34), (0, .ref (ad 0)), (1, .int x1), (2, .int x2)]) S.1 S.2.1 d_Mo_distance_37 rfl hl (by decide) rfl (fun ls hl => ?_)
      refine lv_aload_n S.1 S.2.1 d_Mo_distance_38 rfl (lv_at hl 1 rfl) ?_
      refine lv_bipush (v := (48 : Int32)) S.1 S.2.1 d_Mo_distance_39 rfl ?_
      refine q_Mo_stored S hK I d_Mo_distance_41 (fun H locs mo41 emo41 I => ?_)
      have h := h mo41 emo41
      refine lv_aload_n S.1 S.2.1 d_Mo_distance_44 rfl (lv_at hl 1 rfl) ?_
      refine lv_iconst (v := (0 : Int32)) S.1 S.2.1 d_Mo_distance_45 rfl ?_
      refine q_Mo_different S hK I d_Mo_distance_46 (fun H locs mo46 emo46 I => ?_)
      have h := h mo46 emo46
      refine lv_iconst (v := (0 : Int32)) S.1 S.2.1 d_Mo_distance_49 rfl ?_
      refine lv_istore (lv' := [(4, .int (0 : Int32)), (3, .int r34), (0, .ref (ad 0)), (1, .int x1), (2, .int x2)]) S.1 S.2.1 d_Mo_distance_50 hl (by decide) rfl (fun ls hl => ?_)
      obtain ⟨n', h⟩ := h
      exact n_Mo_distance_52 S hr hlk hK hA n' _ _ _ _ _ h (lv_sub hl [2, 3, 4, 0] rfl) I
    · have h := h.2 hc
      refine lv_iconst (v := (-1 : Int32)) S.1 S.2.1 d_Mo_distance_25 rfl ?_
      exact ret_rwi S hr hlk hK I h d_Mo_distance_26
  · have h := h.2 hc
    refine lv_iconst (v := (0 : Int32)) S.1 S.2.1 d_Mo_distance_9 rfl ?_
    exact ret_rwi S hr hlk hK I h d_Mo_distance_10

set_option maxHeartbeats 4000000 in
set_option maxRecDepth 100000 in
theorem c_Mo_look (l : Launch) (D : va_G) (ad : Nat → Nat) (cA : ClassId × ClassId × ClassId) (mo : Mo) (x1 : Int32) (Q : Int32 → Mo → Prop) (h : p_Mo_look x1 mo Q) : rwI l y_Mo_look (wsOf y_Mo_look b_Mo_look 2 (some .int)) rm_Mo_look D (tyA cA) (wM ad cA) [.ref (ad 0), .int x1] mo (fun u : Mo => u) (fun (r : Int32) (u : Mo) => Q r u) := by
  refine rwI_of (by decide) (Nat.le_of_ble_eq_true rfl) ?_
  intro p e s m below meth c S hr hlk hK A hA I ls hl
  have hl : lv_has ls 2 [(0, .ref (ad 0)), (1, .int x1)] := hl
  refine lv_aload_n S.1 S.2.1 d_Mo_look_0 rfl (lv_at hl 0 rfl) ?_
  refine lv_iconst (v := (0 : Int32)) S.1 S.2.1 d_Mo_look_1 rfl ?_
  refine q_Mo_thrown S hK I d_Mo_look_2 (fun H locs mo2 emo2 I => ?_)
  have h := h mo2 emo2
  refine lv_iload_n S.1 S.2.1 d_Mo_look_5 rfl (lv_at hl 1 rfl) ?_
  refine lv_if_ne (tgt := 16) S.1 S.2.1 d_Mo_look_6 (by decide) (fun hc => ?_) (fun hc => ?_)
  · have h := h.1 hc
    refine lv_iload_n S.1 S.2.1 d_Mo_look_16 rfl (lv_at hl 1 rfl) ?_
    refine lv_iconst (v := (1 : Int32)) S.1 S.2.1 d_Mo_look_17 rfl ?_
    refine lv_icmp_ne (tgt := 28) S.1 S.2.1 d_Mo_look_18 (by decide) (fun hc => ?_) (fun hc => ?_)
    · have h := h.1 hc
      refine lv_iload_n S.1 S.2.1 d_Mo_look_28 rfl (lv_at hl 1 rfl) ?_
      refine lv_iconst (v := (2 : Int32)) S.1 S.2.1 d_Mo_look_29 rfl ?_
      refine lv_icmp_ne (tgt := 40) S.1 S.2.1 d_Mo_look_30 (by decide) (fun hc => ?_) (fun hc => ?_)
      · have h := h.1 hc
        refine lv_iload_n S.1 S.2.1 d_Mo_look_40 rfl (lv_at hl 1 rfl) ?_
        refine lv_iconst (v := (3 : Int32)) S.1 S.2.1 d_Mo_look_41 rfl ?_
        refine lv_icmp_ne (tgt := 52) S.1 S.2.1 d_Mo_look_42 (by decide) (fun hc => ?_) (fun hc => ?_)
        · have h := h.1 hc
          refine lv_iload_n S.1 S.2.1 d_Mo_look_52 rfl (lv_at hl 1 rfl) ?_
          refine lv_iconst (v := (3 : Int32)) S.1 S.2.1 d_Mo_look_53 rfl ?_
          refine lv_icmp_le (tgt := 74) S.1 S.2.1 d_Mo_look_54 (by decide) (fun hc => ?_) (fun hc => ?_)
          · have h := h.1 hc
            refine lv_iconst (v := (-1 : Int32)) S.1 S.2.1 d_Mo_look_74 rfl ?_
            exact ret_rwi S hr hlk hK I h d_Mo_look_75
          · have h := h.2 hc
            refine lv_iload_n S.1 S.2.1 d_Mo_look_57 rfl (lv_at hl 1 rfl) ?_
            refine lv_bipush (v := (10 : Int32)) S.1 S.2.1 d_Mo_look_58 rfl ?_
            refine lv_icmp_ge (tgt := 74) S.1 S.2.1 d_Mo_look_60 (by decide) (fun hc => ?_) (fun hc => ?_)
            · have h := h.1 hc
              refine lv_iconst (v := (-1 : Int32)) S.1 S.2.1 d_Mo_look_74 rfl ?_
              exact ret_rwi S hr hlk hK I h d_Mo_look_75
            · have h := h.2 hc
              refine lv_aload_n S.1 S.2.1 d_Mo_look_63 rfl (lv_at hl 0 rfl) ?_
              refine g_Mo_places S hK I.1 d_Mo_look_64 ?_
              refine lv_iload_n S.1 S.2.1 d_Mo_look_67 rfl (lv_at hl 1 rfl) ?_
              refine lv_iconst (v := (4 : Int32)) S.1 S.2.1 d_Mo_look_68 rfl ?_
              refine lv_isub S.1 S.2.1 d_Mo_look_69 ?_
              obtain ⟨hin, h⟩ := h
              refine a_Mo_places S hK I.1 hin d_Mo_look_70 ?_
              refine lv_goto (tgt := 75) S.1 S.2.1 d_Mo_look_71 (by decide) ?_
              exact ret_rwi S hr hlk hK I h d_Mo_look_75
        · have h := h.2 hc
          refine lv_aload_n S.1 S.2.1 d_Mo_look_45 rfl (lv_at hl 0 rfl) ?_
          refine g_Mo_finals S hK I.1 d_Mo_look_46 ?_
          refine lv_goto (tgt := 75) S.1 S.2.1 d_Mo_look_49 (by decide) ?_
          exact ret_rwi S hr hlk hK I h d_Mo_look_75
      · have h := h.2 hc
        refine lv_aload_n S.1 S.2.1 d_Mo_look_33 rfl (lv_at hl 0 rfl) ?_
        refine g_Mo_edges S hK I.1 d_Mo_look_34 ?_
        refine lv_goto (tgt := 75) S.1 S.2.1 d_Mo_look_37 (by decide) ?_
        exact ret_rwi S hr hlk hK I h d_Mo_look_75
    · have h := h.2 hc
      refine lv_aload_n S.1 S.2.1 d_Mo_look_21 rfl (lv_at hl 0 rfl) ?_
      refine g_Mo_rules S hK I.1 d_Mo_look_22 ?_
      refine lv_goto (tgt := 75) S.1 S.2.1 d_Mo_look_25 (by decide) ?_
      exact ret_rwi S hr hlk hK I h d_Mo_look_75
  · have h := h.2 hc
    refine lv_aload_n S.1 S.2.1 d_Mo_look_9 rfl (lv_at hl 0 rfl) ?_
    refine g_Mo_count S hK I.1 d_Mo_look_10 ?_
    refine lv_goto (tgt := 75) S.1 S.2.1 d_Mo_look_13 (by decide) ?_
    exact ret_rwi S hr hlk hK I h d_Mo_look_75
