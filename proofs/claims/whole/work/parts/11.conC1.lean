set_option maxHeartbeats 4000000 in
set_option maxRecDepth 100000 in
theorem n_Te_joinedSize_40 {p : Program} {l : Launch} {e : Env} {s : State} {m : MethodId} {args : Array Value} {below : List Frame} {meth : Method} {c : Code} {D : va_G} {ad : Nat → Nat} {cA : ClassId × ClassId × ClassId} {te : Te} {ru : Ru} {au : Au} {re : Re} {la : La} {sp : Sp} {le : Le} {x1 : Int32} {x2 : Int32} {x3 : Int32} {Q : Int32 → Prop} (S : CallFix p m c b_Te_joinedSize 5 s args gtbl R_Te) (hr : meth.sig.returnType = (some .int)) (hlk : meth.locks = false) (hK : gK D (tyA cA) s) (hP : va_P D classes (wC ad cA (te, ru, au, re, la, sp, le)) s.heap) : ∀ (ls : Array Slot) (y0 : Int32) (y1 : Int32), p_Te_joinedSize_40 x1 x2 x3 te Q y0 y1 → lv_has ls 5 [] → W p l e rm_Te_joinedSize s m args below meth c s.heap [] 0 0 (qRI Q below args s) (F0 m 40 ls [.int y0, .int y1]) := by
  intro ls y0 y1 h hl
  refine lv_iadd S.1 S.2.1 d_Te_joinedSize_40 ?_
  refine lv_istore (lv' := [(4, .int (y1 + y0))]) S.1 S.2.1 d_Te_joinedSize_41 hl (by decide) rfl (fun ls hl => ?_)
  refine lv_ldc (v := (1000000000 : Int32)) S.1 S.2.1 S.2.2.2.1 (S.2.2.2.2 _ kn_Te_69) d_Te_joinedSize_43 ?_
  refine lv_iconst (v := (1 : Int32)) S.1 S.2.1 d_Te_joinedSize_45 rfl ?_
  refine lv_iload S.1 S.2.1 d_Te_joinedSize_46 (lv_at hl 0 rfl) ?_
  refine lv_iadd S.1 S.2.1 d_Te_joinedSize_48 ?_
  refine va_mmin S.1 S.2.1 (S.2.2.1.trans hl.1.symm) S.2.2.2.1 (S.2.2.2.2 _ ml_Te_33) (S.2.2.2.2 _ st_min) (S.2.2.2.2 _ in_Ma) (S.2.2.2.2 _ co_min) (Nat.le_of_ble_eq_true rfl) (Nat.le_of_ble_eq_true rfl) (Nat.le_refl _) (Nat.le_refl _) d_Te_joinedSize_49 ?_
  exact ret_roi S hr hlk h d_Te_joinedSize_52
set_option maxHeartbeats 4000000 in
set_option maxRecDepth 100000 in
theorem n_Te_joinedSize_20 {p : Program} {l : Launch} {e : Env} {s : State} {m : MethodId} {args : Array Value} {below : List Frame} {meth : Method} {c : Code} {D : va_G} {ad : Nat → Nat} {cA : ClassId × ClassId × ClassId} {te : Te} {ru : Ru} {au : Au} {re : Re} {la : La} {sp : Sp} {le : Le} {x1 : Int32} {x2 : Int32} {x3 : Int32} {Q : Int32 → Prop} (S : CallFix p m c b_Te_joinedSize 5 s args gtbl R_Te) (hr : meth.sig.returnType = (some .int)) (hlk : meth.locks = false) (hK : gK D (tyA cA) s) (hP : va_P D classes (wC ad cA (te, ru, au, re, la, sp, le)) s.heap) : ∀ (ls : Array Slot) (y0 : Int32), p_Te_joinedSize_20 x1 x2 x3 te Q y0 → lv_has ls 5 [(0, .ref (ad 1)), (1, .int x1), (3, .int x3)] → W p l e rm_Te_joinedSize s m args below meth c s.heap [] 0 0 (qRI Q below args s) (F0 m 20 ls [.int y0]) := by
  intro ls y0 h hl
  refine lv_aload_n S.1 S.2.1 d_Te_joinedSize_20 rfl (lv_at hl 0 rfl) ?_
  refine g_Te_places S hK hP d_Te_joinedSize_21 ?_
  refine lv_iload_n S.1 S.2.1 d_Te_joinedSize_24 rfl (lv_at hl 1 rfl) ?_
  obtain ⟨hin, h⟩ := h
  refine a_Te_places S hK hP hin d_Te_joinedSize_25 ?_
  refine lv_iconst (v := (2 : Int32)) S.1 S.2.1 d_Te_joinedSize_26 rfl ?_
  refine lv_icmp_ge (tgt := 34) S.1 S.2.1 d_Te_joinedSize_27 (by decide) (fun hc => ?_) (fun hc => ?_)
  · have h := h.1 hc
    refine lv_aload_n S.1 S.2.1 d_Te_joinedSize_34 rfl (lv_at hl 0 rfl) ?_
    refine g_Te_size S hK hP d_Te_joinedSize_35 ?_
    refine lv_iload_n S.1 S.2.1 d_Te_joinedSize_38 rfl (lv_at hl 2 rfl) ?_
    obtain ⟨hin, h⟩ := h
    refine a_Te_size S hK hP hin d_Te_joinedSize_39 ?_
    exact n_Te_joinedSize_40 S hr hlk hK hP _ _ _ h (lv_sub hl [] rfl)
  · have h := h.2 hc
    refine lv_iconst (v := (0 : Int32)) S.1 S.2.1 d_Te_joinedSize_30 rfl ?_
    refine lv_goto (tgt := 40) S.1 S.2.1 d_Te_joinedSize_31 (by decide) ?_
    exact n_Te_joinedSize_40 S hr hlk hK hP _ _ _ h (lv_sub hl [] rfl)
set_option maxHeartbeats 4000000 in
set_option maxRecDepth 100000 in
theorem c_Te_joinedSize (l : Launch) (D : va_G) (ad : Nat → Nat) (cA : ClassId × ClassId × ClassId) (te : Te) (ru : Ru) (au : Au) (re : Re) (la : La) (sp : Sp) (le : Le) (x1 : Int32) (x2 : Int32) (x3 : Int32) (Q : Int32 → Prop) (h : p_Te_joinedSize x1 x2 x3 te Q) : roI l y_Te_joinedSize (wsOf y_Te_joinedSize b_Te_joinedSize 5 (some .int)) rm_Te_joinedSize D (tyA cA) (wC ad cA) [.ref (ad 1), .int x1, .int x2, .int x3] (te, ru, au, re, la, sp, le) Q := by
  refine roI_of (by decide) (Nat.le_of_ble_eq_true rfl) ?_
  intro p e s m below meth c S hr hlk hK hP ls hl
  have hl : lv_has ls 5 [(0, .ref (ad 1)), (1, .int x1), (2, .int x2), (3, .int x3)] := hl
  refine lv_aload_n S.1 S.2.1 d_Te_joinedSize_0 rfl (lv_at hl 0 rfl) ?_
  refine g_Te_places S hK hP d_Te_joinedSize_1 ?_
  refine lv_iload_n S.1 S.2.1 d_Te_joinedSize_4 rfl (lv_at hl 1 rfl) ?_
  obtain ⟨hin, h⟩ := h
  refine a_Te_places S hK hP hin d_Te_joinedSize_5 ?_
  refine lv_iconst (v := (1 : Int32)) S.1 S.2.1 d_Te_joinedSize_6 rfl ?_
  refine lv_icmp_ge (tgt := 14) S.1 S.2.1 d_Te_joinedSize_7 (by decide) (fun hc => ?_) (fun hc => ?_)
  · have h := h.1 hc
    refine lv_aload_n S.1 S.2.1 d_Te_joinedSize_14 rfl (lv_at hl 0 rfl) ?_
    refine g_Te_size S hK hP d_Te_joinedSize_15 ?_
    refine lv_iload_n S.1 S.2.1 d_Te_joinedSize_18 rfl (lv_at hl 2 rfl) ?_
    obtain ⟨hin, h⟩ := h
    refine a_Te_size S hK hP hin d_Te_joinedSize_19 ?_
    exact n_Te_joinedSize_20 S hr hlk hK hP _ _ h (lv_sub hl [0, 1, 3] rfl)
  · have h := h.2 hc
    refine lv_iconst (v := (0 : Int32)) S.1 S.2.1 d_Te_joinedSize_10 rfl ?_
    refine lv_goto (tgt := 20) S.1 S.2.1 d_Te_joinedSize_11 (by decide) ?_
    exact n_Te_joinedSize_20 S hr hlk hK hP _ _ h (lv_sub hl [0, 1, 3] rfl)

set_option maxHeartbeats 4000000 in
set_option maxRecDepth 100000 in
theorem n_Te_append_76 {p : Program} {l : Launch} {e : Env} {s : State} {m : MethodId} {args : Array Value} {below : List Frame} {meth : Method} {c : Code} {D : va_G} {A : Nat → Prop} {ad : Nat → Nat} {cA : ClassId × ClassId × ClassId} {ru : Ru} {au : Au} {re : Re} {la : La} {sp : Sp} {le : Le} {x1 : Int32} {x2 : Int32} {x3 : Int32} {Q : Int32 → Te → Prop} (S : CallFix p m c b_Te_append 6 s args gtbl R_Te) (hr : meth.sig.returnType = (some .int)) (hlk : meth.locks = false) (hK : gK D (tyA cA) s) (hA : ∀ q : Nat, s.heap.size ≤ q → A q) : ∀ (ls : Array Slot) (H : Heap) (locs : List Loc) (x4 : Int32) (y0 : Int32) (y1 : Int32) (te : Te), p_Te_append_76 x1 x2 x3 Q x4 y0 y1 te → lv_has ls 6 [(0, .ref (ad 1)), (1, .int x1), (4, .int x4)] → gIn D A s (wC ad cA) (te, ru, au, re, la, sp, le) H locs → W p l e rm_Te_append s m args below meth c H locs 0 0 (qI D (tyA cA) A (wC ad cA) (fun u : Te => (u, ru, au, re, la, sp, le)) (fun (r : Int32) (u : Te) => Q r u) below args s) (F0 m 76 ls [.int y0, .int y1, .ref (ad 5)]) := by
  intro ls H locs x4 y0 y1 te h hl I
  obtain ⟨hin, h⟩ := h
  refine s_Te_second S hK I hin d_Te_append_76 (fun H locs te76 ete76 I => ?_)
  have h := h te76 ete76
  refine lv_aload_n S.1 S.2.1 d_Te_append_77 rfl (lv_at hl 0 rfl) ?_
  refine g_Te_size S hK I.1 d_Te_append_78 ?_
  refine lv_iload S.1 S.2.1 d_Te_append_81 (lv_at hl 2 rfl) ?_
  refine lv_aload_n S.1 S.2.1 d_Te_append_83 rfl (lv_at hl 0 rfl) ?_
  refine lv_iload_n S.1 S.2.1 d_Te_append_84 rfl (lv_at hl 1 rfl) ?_
  refine lv_aload_n S.1 S.2.1 d_Te_append_85 rfl (lv_at hl 0 rfl) ?_
  refine g_Te_first S hK I.1 d_Te_append_86 ?_
  refine lv_iload S.1 S.2.1 d_Te_append_89 (lv_at hl 2 rfl) ?_
  obtain ⟨hin, h⟩ := h
  refine a_Te_first S hK I.1 hin d_Te_append_91 ?_
  refine lv_aload_n S.1 S.2.1 d_Te_append_92 rfl (lv_at hl 0 rfl) ?_
  refine g_Te_second S hK I.1 d_Te_append_93 ?_
  refine lv_iload S.1 S.2.1 d_Te_append_96 (lv_at hl 2 rfl) ?_
  obtain ⟨hin, h⟩ := h
  refine a_Te_second S hK I.1 hin d_Te_append_98 ?_
  refine callV_roi S (c_Te_joinedSize l D ad cA _ _ _ _ _ _ _ _ _ _ _ h) (mkV S.2.2.2.2 ml_Te_66 k_Te_joinedSize rfl rfl ⟨Nat.le_of_ble_eq_true rfl, Nat.le_of_ble_eq_true rfl⟩) (rv_Te hK I.1) hK I.1 hl.1 rfl rfl (Nat.le_of_ble_eq_true rfl) d_Te_append_99 ⟨Nat.zero_le _, Nat.zero_le _⟩ (fun r99 h => ?_)
  obtain ⟨hin, h⟩ := h
  refine s_Te_size S hK I hin d_Te_append_102 (fun H locs te102 ete102 I => ?_)
  have h := h te102 ete102
  refine lv_iload_n S.1 S.2.1 d_Te_append_103 rfl (lv_at hl 1 rfl) ?_
  refine lv_aload_n S.1 S.2.1 d_Te_append_104 rfl (lv_at hl 0 rfl) ?_
  refine g_Te_first S hK I.1 d_Te_append_105 ?_
  refine lv_iload S.1 S.2.1 d_Te_append_108 (lv_at hl 2 rfl) ?_
  obtain ⟨hin, h⟩ := h
  refine a_Te_first S hK I.1 hin d_Te_append_110 ?_
  refine lv_aload_n S.1 S.2.1 d_Te_append_111 rfl (lv_at hl 0 rfl) ?_
  refine g_Te_second S hK I.1 d_Te_append_112 ?_
  refine lv_iload S.1 S.2.1 d_Te_append_115 (lv_at hl 2 rfl) ?_
  obtain ⟨hin, h⟩ := h
  refine a_Te_second S hK I.1 hin d_Te_append_117 ?_
  refine callS_roi S (c_Te_bucketOf l D ad cA _ _ _ _ _ _ _ _ _ _ _ h) (mkS S.2.2.2.2 ml_Te_63 k_Te_bucketOf rfl rfl ⟨Nat.le_of_ble_eq_true rfl, Nat.le_of_ble_eq_true rfl⟩) hK I.1 hl.1 rfl rfl (Nat.le_of_ble_eq_true rfl) d_Te_append_118 ⟨Nat.zero_le _, Nat.zero_le _⟩ (fun r118 h => ?_)
  refine lv_istore (lv' := [(5, .int r118), (0, .ref (ad 1)), (1, .int x1), (4, .int x4)]) S.1 S.2.1 d_Te_append_121 hl (by decide) rfl (fun ls hl => ?_)
  refine lv_aload_n S.1 S.2.1 d_Te_append_123 rfl (lv_at hl 1 rfl) ?_
  refine g_Te_olderInBucket S hK I.1 d_Te_append_124 ?_
  refine lv_iload S.1 S.2.1 d_Te_append_127 (lv_at hl 3 rfl) ?_
  refine lv_aload_n S.1 S.2.1 d_Te_append_129 rfl (lv_at hl 1 rfl) ?_
  refine g_Te_newestIn S hK I.1 d_Te_append_130 ?_
  refine lv_iload S.1 S.2.1 d_Te_append_133 (lv_at hl 0 rfl) ?_
  obtain ⟨hin, h⟩ := h
  refine a_Te_newestIn S hK I.1 hin d_Te_append_135 ?_
  obtain ⟨hin, h⟩ := h
  refine s_Te_olderInBucket S hK I hin d_Te_append_136 (fun H locs te136 ete136 I => ?_)
  have h := h te136 ete136
  refine lv_aload_n S.1 S.2.1 d_Te_append_137 rfl (lv_at hl 1 rfl) ?_
  refine g_Te_newestIn S hK I.1 d_Te_append_138 ?_
  refine lv_iload S.1 S.2.1 d_Te_append_141 (lv_at hl 0 rfl) ?_
  refine lv_iload S.1 S.2.1 d_Te_append_143 (lv_at hl 3 rfl) ?_
  obtain ⟨hin, h⟩ := h
  refine s_Te_newestIn S hK I hin d_Te_append_145 (fun H locs te145 ete145 I => ?_)
  have h := h te145 ete145
  refine lv_iload S.1 S.2.1 d_Te_append_146 (lv_at hl 3 rfl) ?_
  exact ret_rwi S hr hlk hK I h d_Te_append_148
set_option maxHeartbeats 4000000 in
set_option maxRecDepth 100000 in
theorem n_Te_append_54 {p : Program} {l : Launch} {e : Env} {s : State} {m : MethodId} {args : Array Value} {below : List Frame} {meth : Method} {c : Code} {D : va_G} {A : Nat → Prop} {ad : Nat → Nat} {cA : ClassId × ClassId × ClassId} {ru : Ru} {au : Au} {re : Re} {la : La} {sp : Sp} {le : Le} {x1 : Int32} {x2 : Int32} {x3 : Int32} {Q : Int32 → Te → Prop} (S : CallFix p m c b_Te_append 6 s args gtbl R_Te) (hr : meth.sig.returnType = (some .int)) (hlk : meth.locks = false) (hK : gK D (tyA cA) s) (hA : ∀ q : Nat, s.heap.size ≤ q → A q) : ∀ (ls : Array Slot) (H : Heap) (locs : List Loc) (x4 : Int32) (y0 : Int32) (y1 : Int32) (te : Te), p_Te_append_54 x1 x2 x3 Q x4 y0 y1 te → lv_has ls 6 [(0, .ref (ad 1)), (1, .int x1), (3, .int x3), (4, .int x4)] → gIn D A s (wC ad cA) (te, ru, au, re, la, sp, le) H locs → W p l e rm_Te_append s m args below meth c H locs 0 0 (qI D (tyA cA) A (wC ad cA) (fun u : Te => (u, ru, au, re, la, sp, le)) (fun (r : Int32) (u : Te) => Q r u) below args s) (F0 m 54 ls [.int y0, .int y1, .ref (ad 4)]) := by
  intro ls H locs x4 y0 y1 te h hl I
  obtain ⟨hin, h⟩ := h
  refine s_Te_first S hK I hin d_Te_append_54 (fun H locs te54 ete54 I => ?_)
  have h := h te54 ete54
  refine lv_aload_n S.1 S.2.1 d_Te_append_55 rfl (lv_at hl 0 rfl) ?_
  refine g_Te_second S hK I.1 d_Te_append_56 ?_
  refine lv_iload S.1 S.2.1 d_Te_append_59 (lv_at hl 3 rfl) ?_
  refine lv_aload_n S.1 S.2.1 d_Te_append_61 rfl (lv_at hl 0 rfl) ?_
  refine g_Te_places S hK I.1 d_Te_append_62 ?_
  refine lv_iload_n S.1 S.2.1 d_Te_append_65 rfl (lv_at hl 1 rfl) ?_
  obtain ⟨hin, h⟩ := h
  refine a_Te_places S hK I.1 hin d_Te_append_66 ?_
  refine lv_iconst (v := (2 : Int32)) S.1 S.2.1 d_Te_append_67 rfl ?_
  refine lv_icmp_ge (tgt := 75) S.1 S.2.1 d_Te_append_68 (by decide) (fun hc => ?_) (fun hc => ?_)
  · have h := h.1 hc
    refine lv_iload_n S.1 S.2.1 d_Te_append_75 rfl (lv_at hl 2 rfl) ?_
    exact n_Te_append_76 S hr hlk hK hA _ _ _ _ _ _ _ h (lv_sub hl [0, 1, 3] rfl) I
  · have h := h.2 hc
    refine lv_iconst (v := (-1 : Int32)) S.1 S.2.1 d_Te_append_71 rfl ?_
    refine lv_goto (tgt := 76) S.1 S.2.1 d_Te_append_72 (by decide) ?_
    exact n_Te_append_76 S hr hlk hK hA _ _ _ _ _ _ _ h (lv_sub hl [0, 1, 3] rfl) I
set_option maxHeartbeats 4000000 in
set_option maxRecDepth 100000 in
theorem c_Te_append (l : Launch) (D : va_G) (ad : Nat → Nat) (cA : ClassId × ClassId × ClassId) (te : Te) (ru : Ru) (au : Au) (re : Re) (la : La) (sp : Sp) (le : Le) (x1 : Int32) (x2 : Int32) (x3 : Int32) (Q : Int32 → Te → Prop) (h : p_Te_append x1 x2 x3 te Q) : rwI l y_Te_append (wsOf y_Te_append b_Te_append 6 (some .int)) rm_Te_append D (tyA cA) (wC ad cA) [.ref (ad 1), .int x1, .int x2, .int x3] (te, ru, au, re, la, sp, le) (fun u : Te => (u, ru, au, re, la, sp, le)) (fun (r : Int32) (u : Te) => Q r u) := by
  refine rwI_of (by decide) (Nat.le_of_ble_eq_true rfl) ?_
  intro p e s m below meth c S hr hlk hK A hA I ls hl
  have hl : lv_has ls 6 [(0, .ref (ad 1)), (1, .int x1), (2, .int x2), (3, .int x3)] := hl
  refine lv_aload_n S.1 S.2.1 d_Te_append_0 rfl (lv_at hl 0 rfl) ?_
  refine g_Te_count S hK I.1 d_Te_append_1 ?_
  refine lv_sipush (v := (448 : Int32)) S.1 S.2.1 d_Te_append_4 rfl ?_
  refine lv_icmp_lt (tgt := 12) S.1 S.2.1 d_Te_append_7 (by decide) (fun hc => ?_) (fun hc => ?_)
  · have h := h.1 hc
    refine lv_aload_n S.1 S.2.1 d_Te_append_12 rfl (lv_at hl 0 rfl) ?_
    refine lv_dup S.1 S.2.1 d_Te_append_13 rfl ?_
    refine g_Te_count S hK I.1 d_Te_append_14 ?_
    refine lv_dup_x1 S.1 S.2.1 d_Te_append_17 rfl rfl ?_
    refine lv_iconst (v := (1 : Int32)) S.1 S.2.1 d_Te_append_18 rfl ?_
    refine lv_iadd S.1 S.2.1 d_Te_append_19 ?_
    refine q_Te_count S hK I d_Te_append_20 (fun H locs te20 ete20 I => ?_)
    have h := h te20 ete20
    refine lv_istore (lv' := [(4, .int (Te_count te)), (0, .ref (ad 1)), (1, .int x1), (2, .int x2), (3, .int x3)]) S.1 S.2.1 d_Te_append_23 hl (by decide) rfl (fun ls hl => ?_)
    refine lv_aload_n S.1 S.2.1 d_Te_append_25 rfl (lv_at hl 1 rfl) ?_
    refine g_Te_symbol S hK I.1 d_Te_append_26 ?_
    refine lv_iload S.1 S.2.1 d_Te_append_29 (lv_at hl 0 rfl) ?_
    refine lv_iload_n S.1 S.2.1 d_Te_append_31 rfl (lv_at hl 2 rfl) ?_
    obtain ⟨hin, h⟩ := h
    refine s_Te_symbol S hK I hin d_Te_append_32 (fun H locs te32 ete32 I => ?_)
    have h := h te32 ete32
    refine lv_aload_n S.1 S.2.1 d_Te_append_33 rfl (lv_at hl 1 rfl) ?_
    refine g_Te_first S hK I.1 d_Te_append_34 ?_
    refine lv_iload S.1 S.2.1 d_Te_append_37 (lv_at hl 0 rfl) ?_
    refine lv_aload_n S.1 S.2.1 d_Te_append_39 rfl (lv_at hl 1 rfl) ?_
    refine g_Te_places S hK I.1 d_Te_append_40 ?_
    refine lv_iload_n S.1 S.2.1 d_Te_append_43 rfl (lv_at hl 2 rfl) ?_
    obtain ⟨hin, h⟩ := h
    refine a_Te_places S hK I.1 hin d_Te_append_44 ?_
    refine lv_iconst (v := (1 : Int32)) S.1 S.2.1 d_Te_append_45 rfl ?_
    refine lv_icmp_ge (tgt := 53) S.1 S.2.1 d_Te_append_46 (by decide) (fun hc => ?_) (fun hc => ?_)
    · have h := h.1 hc
      refine lv_iload_n S.1 S.2.1 d_Te_append_53 rfl (lv_at hl 3 rfl) ?_
      exact n_Te_append_54 S hr hlk hK hA _ _ _ _ _ _ _ h (lv_sub hl [1, 2, 4, 0] rfl) I
    · have h := h.2 hc
      refine lv_iconst (v := (-1 : Int32)) S.1 S.2.1 d_Te_append_49 rfl ?_
      refine lv_goto (tgt := 54) S.1 S.2.1 d_Te_append_50 (by decide) ?_
      exact n_Te_append_54 S hr hlk hK hA _ _ _ _ _ _ _ h (lv_sub hl [1, 2, 4, 0] rfl) I
  · have h := h.2 hc
    refine lv_iconst (v := (-1 : Int32)) S.1 S.2.1 d_Te_append_10 rfl ?_
    exact ret_rwi S hr hlk hK I h d_Te_append_11

set_option maxHeartbeats 4000000 in
set_option maxRecDepth 100000 in
theorem n_Te_findOrAppend_24 {p : Program} {l : Launch} {e : Env} {s : State} {m : MethodId} {args : Array Value} {below : List Frame} {meth : Method} {c : Code} {D : va_G} {A : Nat → Prop} {ad : Nat → Nat} {cA : ClassId × ClassId × ClassId} {ru : Ru} {au : Au} {re : Re} {la : La} {sp : Sp} {le : Le} {x1 : Int32} {x2 : Int32} {x3 : Int32} {Q : Int32 → Te → Prop} (S : CallFix p m c b_Te_findOrAppend 5 s args gtbl R_Te) (hr : meth.sig.returnType = (some .int)) (hlk : meth.locks = false) (hK : gK D (tyA cA) s) (hA : ∀ q : Nat, s.heap.size ≤ q → A q) : ∀ (ls : Array Slot) (H : Heap) (locs : List Loc) (x4 : Int32) (te : Te), p_Te_findOrAppend_24 x1 x2 x3 Q x4 te → lv_has ls 5 [(4, .int x4)] → gIn D A s (wC ad cA) (te, ru, au, re, la, sp, le) H locs → W p l e rm_Te_findOrAppend s m args below meth c H locs 0 0 (qI D (tyA cA) A (wC ad cA) (fun u : Te => (u, ru, au, re, la, sp, le)) (fun (r : Int32) (u : Te) => Q r u) below args s) (F0 m 24 ls []) := by
  intro ls H locs x4 te h hl I
  refine lv_iload S.1 S.2.1 d_Te_findOrAppend_24 (lv_at hl 0 rfl) ?_
  refine lv_goto (tgt := 36) S.1 S.2.1 d_Te_findOrAppend_26 (by decide) ?_
  exact ret_rwi S hr hlk hK I h d_Te_findOrAppend_36
set_option maxHeartbeats 4000000 in
set_option maxRecDepth 100000 in
theorem c_Te_findOrAppend (l : Launch) (D : va_G) (ad : Nat → Nat) (cA : ClassId × ClassId × ClassId) (te : Te) (ru : Ru) (au : Au) (re : Re) (la : La) (sp : Sp) (le : Le) (x1 : Int32) (x2 : Int32) (x3 : Int32) (Q : Int32 → Te → Prop) (h : p_Te_findOrAppend x1 x2 x3 te Q) : rwI l y_Te_findOrAppend (wsOf y_Te_findOrAppend b_Te_findOrAppend 5 (some .int)) rm_Te_findOrAppend D (tyA cA) (wC ad cA) [.ref (ad 1), .int x1, .int x2, .int x3] (te, ru, au, re, la, sp, le) (fun u : Te => (u, ru, au, re, la, sp, le)) (fun (r : Int32) (u : Te) => Q r u) := by
  refine rwI_of (by decide) (Nat.le_of_ble_eq_true rfl) ?_
  intro p e s m below meth c S hr hlk hK A hA I ls hl
  have hl : lv_has ls 5 [(0, .ref (ad 1)), (1, .int x1), (2, .int x2), (3, .int x3)] := hl
  refine lv_aload_n S.1 S.2.1 d_Te_findOrAppend_0 rfl (lv_at hl 0 rfl) ?_
  refine lv_iload_n S.1 S.2.1 d_Te_findOrAppend_1 rfl (lv_at hl 1 rfl) ?_
  refine lv_iload_n S.1 S.2.1 d_Te_findOrAppend_2 rfl (lv_at hl 2 rfl) ?_
  refine lv_iload_n S.1 S.2.1 d_Te_findOrAppend_3 rfl (lv_at hl 3 rfl) ?_
  refine callV_roi S (c_Te_find l D ad cA _ _ _ _ _ _ _ _ _ _ _ h) (mkV S.2.2.2.2 ml_Te_56 k_Te_find rfl rfl ⟨Nat.le_of_ble_eq_true rfl, Nat.le_of_ble_eq_true rfl⟩) (rv_Te hK I.1) hK I.1 hl.1 rfl rfl (Nat.le_of_ble_eq_true rfl) d_Te_findOrAppend_4 ⟨Nat.zero_le _, Nat.zero_le _⟩ (fun r4 h => ?_)
  refine lv_istore (lv' := [(4, .int r4), (0, .ref (ad 1)), (1, .int x1), (2, .int x2), (3, .int x3)]) S.1 S.2.1 d_Te_findOrAppend_7 hl (by decide) rfl (fun ls hl => ?_)
  refine lv_iload S.1 S.2.1 d_Te_findOrAppend_9 (lv_at hl 0 rfl) ?_
  refine lv_iconst (v := (-1 : Int32)) S.1 S.2.1 d_Te_findOrAppend_11 rfl ?_
  refine lv_icmp_ne (tgt := 24) S.1 S.2.1 d_Te_findOrAppend_12 (by decide) (fun hc => ?_) (fun hc => ?_)
  · have h := h.1 hc
    exact n_Te_findOrAppend_24 S hr hlk hK hA _ _ _ _ _ h (lv_sub hl [0] rfl) I
  · have h := h.2 hc
    refine lv_aload_n S.1 S.2.1 d_Te_findOrAppend_15 rfl (lv_at hl 1 rfl) ?_
    refine g_Te_count S hK I.1 d_Te_findOrAppend_16 ?_
    refine lv_bipush (v := (48 : Int32)) S.1 S.2.1 d_Te_findOrAppend_19 rfl ?_
    refine lv_icmp_lt (tgt := 29) S.1 S.2.1 d_Te_findOrAppend_21 (by decide) (fun hc => ?_) (fun hc => ?_)
    · have h := h.1 hc
      refine lv_aload_n S.1 S.2.1 d_Te_findOrAppend_29 rfl (lv_at hl 1 rfl) ?_
      refine lv_iload_n S.1 S.2.1 d_Te_findOrAppend_30 rfl (lv_at hl 2 rfl) ?_
      refine lv_iload_n S.1 S.2.1 d_Te_findOrAppend_31 rfl (lv_at hl 3 rfl) ?_
      refine lv_iload_n S.1 S.2.1 d_Te_findOrAppend_32 rfl (lv_at hl 4 rfl) ?_
      refine callV_rwi S (c_Te_append l D ad cA _ _ _ _ _ _ _ _ _ _ _ h) (mkV S.2.2.2.2 ml_Te_60 k_Te_append rfl rfl ⟨Nat.le_of_ble_eq_true rfl, Nat.le_of_ble_eq_true rfl⟩) (rv_Te hK I.1) hK hA I hl.1 rfl rfl (Nat.le_of_ble_eq_true rfl) d_Te_findOrAppend_33 ⟨Nat.zero_le _, Nat.zero_le _⟩ (fun r33 te33 H locs h I => ?_)
      exact ret_rwi S hr hlk hK I h d_Te_findOrAppend_36
    · have h := h.2 hc
      exact n_Te_findOrAppend_24 S hr hlk hK hA _ _ _ _ _ h (lv_sub hl [0] rfl) I

set_option maxHeartbeats 4000000 in
set_option maxRecDepth 100000 in
theorem n_Te_keepFirst_0 {p : Program} {l : Launch} {e : Env} {s : State} {m : MethodId} {args : Array Value} {below : List Frame} {meth : Method} {c : Code} {D : va_G} {A : Nat → Prop} {ad : Nat → Nat} {cA : ClassId × ClassId × ClassId} {ru : Ru} {au : Au} {re : Re} {la : La} {sp : Sp} {le : Le} {x1 : Int32} {Q : Te → Prop} (S : CallFix p m c b_Te_keepFirst 2 s args gtbl R_Te) (hr : meth.sig.returnType = none) (hlk : meth.locks = false) (hK : gK D (tyA cA) s) (hA : ∀ q : Nat, s.heap.size ≤ q → A q) : ∀ n : Nat, ∀ (ls : Array Slot) (H : Heap) (locs : List Loc) (te : Te), p_Te_keepFirst_0 x1 Q n te → lv_has ls 2 [(0, .ref (ad 1)), (1, .int x1)] → gIn D A s (wC ad cA) (te, ru, au, re, la, sp, le) H locs → W p l e rm_Te_keepFirst s m args below meth c H locs 0 0 (qV D (tyA cA) A (wC ad cA) (fun u : Te => (u, ru, au, re, la, sp, le)) (fun u : Te => Q u) below args s) (F0 m 0 ls []) := by
  intro n
  induction n with
  | zero =>
    intro ls H locs te h
    exact (show False from h).elim
  | succ n ih =>
    intro ls H locs te h hl I
    refine lv_aload_n S.1 S.2.1 d_Te_keepFirst_0 rfl (lv_at hl 0 rfl) ?_
    refine g_Te_count S hK I.1 d_Te_keepFirst_1 ?_
    refine lv_iload_n S.1 S.2.1 d_Te_keepFirst_4 rfl (lv_at hl 1 rfl) ?_
    refine lv_icmp_le (tgt := 65) S.1 S.2.1 d_Te_keepFirst_5 (by decide) (fun hc => ?_) (fun hc => ?_)
    · have h := h.1 hc
      exact ret_rwv S hr hlk hK I h d_Te_keepFirst_65
    · have h := h.2 hc
      refine lv_aload_n S.1 S.2.1 d_Te_keepFirst_8 rfl (lv_at hl 0 rfl) ?_
      refine lv_dup S.1 S.2.1 d_Te_keepFirst_9 rfl ?_
      refine g_Te_count S hK I.1 d_Te_keepFirst_10 ?_
      refine lv_iconst (v := (1 : Int32)) S.1 S.2.1 d_Te_keepFirst_13 rfl ?_
      refine lv_isub S.1 S.2.1 d_Te_keepFirst_14 ?_
      refine q_Te_count S hK I d_Te_keepFirst_15 (fun H locs te15 ete15 I => ?_)
      have h := h te15 ete15
      refine lv_aload_n S.1 S.2.1 d_Te_keepFirst_18 rfl (lv_at hl 0 rfl) ?_
      refine g_Te_newestIn S hK I.1 d_Te_keepFirst_19 ?_
      refine lv_aload_n S.1 S.2.1 d_Te_keepFirst_22 rfl (lv_at hl 0 rfl) ?_
      refine g_Te_symbol S hK I.1 d_Te_keepFirst_23 ?_
      refine lv_aload_n S.1 S.2.1 d_Te_keepFirst_26 rfl (lv_at hl 0 rfl) ?_
      refine g_Te_count S hK I.1 d_Te_keepFirst_27 ?_
      obtain ⟨hin, h⟩ := h
      refine a_Te_symbol S hK I.1 hin d_Te_keepFirst_30 ?_
      refine lv_aload_n S.1 S.2.1 d_Te_keepFirst_31 rfl (lv_at hl 0 rfl) ?_
      refine g_Te_first S hK I.1 d_Te_keepFirst_32 ?_
      refine lv_aload_n S.1 S.2.1 d_Te_keepFirst_35 rfl (lv_at hl 0 rfl) ?_
      refine g_Te_count S hK I.1 d_Te_keepFirst_36 ?_
      obtain ⟨hin, h⟩ := h
      refine a_Te_first S hK I.1 hin d_Te_keepFirst_39 ?_
      refine lv_aload_n S.1 S.2.1 d_Te_keepFirst_40 rfl (lv_at hl 0 rfl) ?_
      refine g_Te_second S hK I.1 d_Te_keepFirst_41 ?_
      refine lv_aload_n S.1 S.2.1 d_Te_keepFirst_44 rfl (lv_at hl 0 rfl) ?_
      refine g_Te_count S hK I.1 d_Te_keepFirst_45 ?_
      obtain ⟨hin, h⟩ := h
      refine a_Te_second S hK I.1 hin d_Te_keepFirst_48 ?_
      refine callS_roi S (c_Te_bucketOf l D ad cA _ _ _ _ _ _ _ _ _ _ _ h) (mkS S.2.2.2.2 ml_Te_63 k_Te_bucketOf rfl rfl ⟨Nat.le_of_ble_eq_true rfl, Nat.le_of_ble_eq_true rfl⟩) hK I.1 hl.1 rfl rfl (Nat.le_of_ble_eq_true rfl) d_Te_keepFirst_49 ⟨Nat.zero_le _, Nat.zero_le _⟩ (fun r49 h => ?_)
      refine lv_aload_n S.1 S.2.1 d_Te_keepFirst_52 rfl (lv_at hl 0 rfl) ?_
      refine g_Te_olderInBucket S hK I.1 d_Te_keepFirst_53 ?_
      refine lv_aload_n S.1 S.2.1 d_Te_keepFirst_56 rfl (lv_at hl 0 rfl) ?_
      refine g_Te_count S hK I.1 d_Te_keepFirst_57 ?_
      obtain ⟨hin, h⟩ := h
      refine a_Te_olderInBucket S hK I.1 hin d_Te_keepFirst_60 ?_
      obtain ⟨hin, h⟩ := h
      refine s_Te_newestIn S hK I hin d_Te_keepFirst_61 (fun H locs te61 ete61 I => ?_)
      have h := h te61 ete61
      refine lv_goto (tgt := 0) S.1 S.2.1 d_Te_keepFirst_62 (by decide) ?_
      exact ih _ _ _ _ h (lv_sub hl [0, 1] rfl) I
set_option maxHeartbeats 4000000 in
set_option maxRecDepth 100000 in
theorem c_Te_keepFirst (l : Launch) (D : va_G) (ad : Nat → Nat) (cA : ClassId × ClassId × ClassId) (te : Te) (ru : Ru) (au : Au) (re : Re) (la : La) (sp : Sp) (le : Le) (x1 : Int32) (Q : Te → Prop) (h : p_Te_keepFirst x1 te Q) : rwV l y_Te_keepFirst (wsOf y_Te_keepFirst b_Te_keepFirst 2 none) rm_Te_keepFirst D (tyA cA) (wC ad cA) [.ref (ad 1), .int x1] (te, ru, au, re, la, sp, le) (fun u : Te => (u, ru, au, re, la, sp, le)) (fun u : Te => Q u) := by
  refine rwV_of (by decide) (Nat.le_of_ble_eq_true rfl) ?_
  intro p e s m below meth c S hr hlk hK A hA I ls hl
  have hl : lv_has ls 2 [(0, .ref (ad 1)), (1, .int x1)] := hl
  obtain ⟨n', h⟩ := h
  exact n_Te_keepFirst_0 S hr hlk hK hA n' _ _ _ _ h (lv_sub hl [0, 1] rfl) I

set_option maxHeartbeats 4000000 in
set_option maxRecDepth 100000 in
theorem c_Ru_changes (l : Launch) (D : va_G) (ad : Nat → Nat) (cA : ClassId × ClassId × ClassId) (te : Te) (ru : Ru) (au : Au) (re : Re) (la : La) (sp : Sp) (le : Le)  (Q : Int32 → Prop) (h : p_Ru_changes  ru Q) : roI l y_Ru_changes (wsOf y_Ru_changes b_Ru_changes 1 (some .int)) rm_Ru_changes D (tyA cA) (wC ad cA) [.ref (ad 9)] (te, ru, au, re, la, sp, le) Q := by
  refine roI_of (by decide) (Nat.le_of_ble_eq_true rfl) ?_
  intro p e s m below meth c S hr hlk hK hP ls hl
  have hl : lv_has ls 1 [(0, .ref (ad 9))] := hl
  refine lv_aload_n S.1 S.2.1 d_Ru_changes_0 rfl (lv_at hl 0 rfl) ?_
  refine g_Ru_changes S hK hP d_Ru_changes_1 ?_
  exact ret_roi S hr hlk h d_Ru_changes_4

set_option maxHeartbeats 4000000 in
set_option maxRecDepth 100000 in
theorem c_Ru_leftOf (l : Launch) (D : va_G) (ad : Nat → Nat) (cA : ClassId × ClassId × ClassId) (te : Te) (ru : Ru) (au : Au) (re : Re) (la : La) (sp : Sp) (le : Le) (x1 : Int32) (Q : Int32 → Prop) (h : p_Ru_leftOf x1 ru Q) : roI l y_Ru_leftOf (wsOf y_Ru_leftOf b_Ru_leftOf 2 (some .int)) rm_Ru_leftOf D (tyA cA) (wC ad cA) [.ref (ad 9), .int x1] (te, ru, au, re, la, sp, le) Q := by
  refine roI_of (by decide) (Nat.le_of_ble_eq_true rfl) ?_
  intro p e s m below meth c S hr hlk hK hP ls hl
  have hl : lv_has ls 2 [(0, .ref (ad 9)), (1, .int x1)] := hl
  refine lv_aload_n S.1 S.2.1 d_Ru_leftOf_0 rfl (lv_at hl 0 rfl) ?_
  refine g_Ru_left S hK hP d_Ru_leftOf_1 ?_
  refine lv_iload_n S.1 S.2.1 d_Ru_leftOf_4 rfl (lv_at hl 1 rfl) ?_
  obtain ⟨hin, h⟩ := h
  refine a_Ru_left S hK hP hin d_Ru_leftOf_5 ?_
  exact ret_roi S hr hlk h d_Ru_leftOf_6

set_option maxHeartbeats 4000000 in
set_option maxRecDepth 100000 in
theorem c_Ru_rightOf (l : Launch) (D : va_G) (ad : Nat → Nat) (cA : ClassId × ClassId × ClassId) (te : Te) (ru : Ru) (au : Au) (re : Re) (la : La) (sp : Sp) (le : Le) (x1 : Int32) (Q : Int32 → Prop) (h : p_Ru_rightOf x1 ru Q) : roI l y_Ru_rightOf (wsOf y_Ru_rightOf b_Ru_rightOf 2 (some .int)) rm_Ru_rightOf D (tyA cA) (wC ad cA) [.ref (ad 9), .int x1] (te, ru, au, re, la, sp, le) Q := by
  refine roI_of (by decide) (Nat.le_of_ble_eq_true rfl) ?_
  intro p e s m below meth c S hr hlk hK hP ls hl
  have hl : lv_has ls 2 [(0, .ref (ad 9)), (1, .int x1)] := hl
  refine lv_aload_n S.1 S.2.1 d_Ru_rightOf_0 rfl (lv_at hl 0 rfl) ?_
  refine g_Ru_right S hK hP d_Ru_rightOf_1 ?_
  refine lv_iload_n S.1 S.2.1 d_Ru_rightOf_4 rfl (lv_at hl 1 rfl) ?_
  obtain ⟨hin, h⟩ := h
  refine a_Ru_right S hK hP hin d_Ru_rightOf_5 ?_
  exact ret_roi S hr hlk h d_Ru_rightOf_6

set_option maxHeartbeats 4000000 in
set_option maxRecDepth 100000 in
theorem c_Ru_append (l : Launch) (D : va_G) (ad : Nat → Nat) (cA : ClassId × ClassId × ClassId) (te : Te) (ru : Ru) (au : Au) (re : Re) (la : La) (sp : Sp) (le : Le) (x1 : Int32) (x2 : Int32) (Q : Int32 → Ru → Prop) (h : p_Ru_append x1 x2 ru Q) : rwI l y_Ru_append (wsOf y_Ru_append b_Ru_append 3 (some .int)) rm_Ru_append D (tyA cA) (wC ad cA) [.ref (ad 9), .int x1, .int x2] (te, ru, au, re, la, sp, le) (fun u : Ru => (te, u, au, re, la, sp, le)) (fun (r : Int32) (u : Ru) => Q r u) := by
  refine rwI_of (by decide) (Nat.le_of_ble_eq_true rfl) ?_
  intro p e s m below meth c S hr hlk hK A hA I ls hl
  have hl : lv_has ls 3 [(0, .ref (ad 9)), (1, .int x1), (2, .int x2)] := hl
  refine lv_aload_n S.1 S.2.1 d_Ru_append_0 rfl (lv_at hl 0 rfl) ?_
  refine g_Ru_count S hK I.1 d_Ru_append_1 ?_
  refine lv_bipush (v := (8 : Int32)) S.1 S.2.1 d_Ru_append_4 rfl ?_
  refine lv_icmp_lt (tgt := 11) S.1 S.2.1 d_Ru_append_6 (by decide) (fun hc => ?_) (fun hc => ?_)
  · have h := h.1 hc
    refine lv_aload_n S.1 S.2.1 d_Ru_append_11 rfl (lv_at hl 0 rfl) ?_
    refine g_Ru_left S hK I.1 d_Ru_append_12 ?_
    refine lv_aload_n S.1 S.2.1 d_Ru_append_15 rfl (lv_at hl 0 rfl) ?_
    refine g_Ru_count S hK I.1 d_Ru_append_16 ?_
    refine lv_iload_n S.1 S.2.1 d_Ru_append_19 rfl (lv_at hl 1 rfl) ?_
    obtain ⟨hin, h⟩ := h
    refine s_Ru_left S hK I hin d_Ru_append_20 (fun H locs ru20 eru20 I => ?_)
    have h := h ru20 eru20
    refine lv_aload_n S.1 S.2.1 d_Ru_append_21 rfl (lv_at hl 0 rfl) ?_
    refine g_Ru_right S hK I.1 d_Ru_append_22 ?_
    refine lv_aload_n S.1 S.2.1 d_Ru_append_25 rfl (lv_at hl 0 rfl) ?_
    refine g_Ru_count S hK I.1 d_Ru_append_26 ?_
    refine lv_iload_n S.1 S.2.1 d_Ru_append_29 rfl (lv_at hl 2 rfl) ?_
    obtain ⟨hin, h⟩ := h
    refine s_Ru_right S hK I hin d_Ru_append_30 (fun H locs ru30 eru30 I => ?_)
    have h := h ru30 eru30
    refine lv_aload_n S.1 S.2.1 d_Ru_append_31 rfl (lv_at hl 0 rfl) ?_
    refine lv_dup S.1 S.2.1 d_Ru_append_32 rfl ?_
    refine g_Ru_changes S hK I.1 d_Ru_append_33 ?_
    refine lv_iconst (v := (1 : Int32)) S.1 S.2.1 d_Ru_append_36 rfl ?_
    refine lv_iadd S.1 S.2.1 d_Ru_append_37 ?_
    refine q_Ru_changes S hK I d_Ru_append_38 (fun H locs ru38 eru38 I => ?_)
    have h := h ru38 eru38
    refine lv_aload_n S.1 S.2.1 d_Ru_append_41 rfl (lv_at hl 0 rfl) ?_
    refine lv_dup S.1 S.2.1 d_Ru_append_42 rfl ?_
    refine g_Ru_count S hK I.1 d_Ru_append_43 ?_
    refine lv_dup_x1 S.1 S.2.1 d_Ru_append_46 rfl rfl ?_
    refine lv_iconst (v := (1 : Int32)) S.1 S.2.1 d_Ru_append_47 rfl ?_
    refine lv_iadd S.1 S.2.1 d_Ru_append_48 ?_
    refine q_Ru_count S hK I d_Ru_append_49 (fun H locs ru49 eru49 I => ?_)
    have h := h ru49 eru49
    exact ret_rwi S hr hlk hK I h d_Ru_append_52
  · have h := h.2 hc
    refine lv_iconst (v := (-1 : Int32)) S.1 S.2.1 d_Ru_append_9 rfl ?_
    exact ret_rwi S hr hlk hK I h d_Ru_append_10

set_option maxHeartbeats 4000000 in
set_option maxRecDepth 100000 in
theorem n_Ru_rightAt_5 {p : Program} {l : Launch} {e : Env} {s : State} {m : MethodId} {args : Array Value} {below : List Frame} {meth : Method} {c : Code} {D : va_G} {ad : Nat → Nat} {cA : ClassId × ClassId × ClassId} {te : Te} {ru : Ru} {au : Au} {re : Re} {la : La} {sp : Sp} {le : Le} {x1 : Int32} {x2 : Int32} {Q : Int32 → Prop} (S : CallFix p m c b_Ru_rightAt 5 s args gtbl R_Ru) (hr : meth.sig.returnType = (some .int)) (hlk : meth.locks = false) (hK : gK D (tyA cA) s) (hP : va_P D classes (wC ad cA (te, ru, au, re, la, sp, le)) s.heap) : ∀ n : Nat, ∀ (ls : Array Slot) (x3 : Int32) (x4 : Int32), p_Ru_rightAt_5 x1 x2 ru Q n x3 x4 → lv_has ls 5 [(0, .ref (ad 9)), (1, .int x1), (2, .int x2), (3, .int x3), (4, .int x4)] → W p l e rm_Ru_rightAt s m args below meth c s.heap [] 0 0 (qRI Q below args s) (F0 m 5 ls []) := by
  intro n
  induction n with
  | zero =>
    intro ls x3 x4 h
    exact (show False from h).elim
  | succ n ih =>
    intro ls x3 x4 h hl
    refine lv_iload S.1 S.2.1 d_Ru_rightAt_5 (lv_at hl 4 rfl) ?_
    refine lv_aload_n S.1 S.2.1 d_Ru_rightAt_7 rfl (lv_at hl 0 rfl) ?_
    refine g_Ru_count S hK hP d_Ru_rightAt_8 ?_
    refine lv_icmp_ge (tgt := 50) S.1 S.2.1 d_Ru_rightAt_11 (by decide) (fun hc => ?_) (fun hc => ?_)
    · have h := h.1 hc
      refine lv_iconst (v := (-1 : Int32)) S.1 S.2.1 d_Ru_rightAt_50 rfl ?_
      exact ret_roi S hr hlk h d_Ru_rightAt_51
    · have h := h.2 hc
      refine lv_aload_n S.1 S.2.1 d_Ru_rightAt_14 rfl (lv_at hl 0 rfl) ?_
      refine g_Ru_left S hK hP d_Ru_rightAt_15 ?_
      refine lv_iload S.1 S.2.1 d_Ru_rightAt_18 (lv_at hl 4 rfl) ?_
      obtain ⟨hin, h⟩ := h
      refine a_Ru_left S hK hP hin d_Ru_rightAt_20 ?_
      refine lv_iload_n S.1 S.2.1 d_Ru_rightAt_21 rfl (lv_at hl 1 rfl) ?_
      refine lv_icmp_eq (tgt := 28) S.1 S.2.1 d_Ru_rightAt_22 (by decide) (fun hc => ?_) (fun hc => ?_)
      · have h := h.1 hc
        refine lv_iload_n S.1 S.2.1 d_Ru_rightAt_28 rfl (lv_at hl 3 rfl) ?_
        refine lv_iload_n S.1 S.2.1 d_Ru_rightAt_29 rfl (lv_at hl 2 rfl) ?_
        refine lv_icmp_ne (tgt := 41) S.1 S.2.1 d_Ru_rightAt_30 (by decide) (fun hc => ?_) (fun hc => ?_)
        · have h := h.1 hc
          refine lv_iinc (k := 3) (v := x3 + (1 : Int32)) (lv' := [(3, .int (x3 + (1 : Int32))), (0, .ref (ad 9)), (1, .int x1), (2, .int x2), (4, .int x4)]) S.1 S.2.1 d_Ru_rightAt_41 hl rfl rfl (by decide) rfl (fun ls hl => ?_)
          refine lv_iinc (k := 4) (v := x4 + (1 : Int32)) (lv' := [(4, .int (x4 + (1 : Int32))), (3, .int (x3 + (1 : Int32))), (0, .ref (ad 9)), (1, .int x1), (2, .int x2)]) S.1 S.2.1 d_Ru_rightAt_44 hl rfl rfl (by decide) rfl (fun ls hl => ?_)
          refine lv_goto (tgt := 5) S.1 S.2.1 d_Ru_rightAt_47 (by decide) ?_
          exact ih _ _ _ h (lv_sub hl [2, 3, 4, 1, 0] rfl)
        · have h := h.2 hc
          refine lv_aload_n S.1 S.2.1 d_Ru_rightAt_33 rfl (lv_at hl 0 rfl) ?_
          refine g_Ru_right S hK hP d_Ru_rightAt_34 ?_
          refine lv_iload S.1 S.2.1 d_Ru_rightAt_37 (lv_at hl 4 rfl) ?_
          obtain ⟨hin, h⟩ := h
          refine a_Ru_right S hK hP hin d_Ru_rightAt_39 ?_
          exact ret_roi S hr hlk h d_Ru_rightAt_40
      · have h := h.2 hc
        refine lv_goto (tgt := 44) S.1 S.2.1 d_Ru_rightAt_25 (by decide) ?_
        refine lv_iinc (k := 4) (v := x4 + (1 : Int32)) (lv' := [(4, .int (x4 + (1 : Int32))), (0, .ref (ad 9)), (1, .int x1), (2, .int x2), (3, .int x3)]) S.1 S.2.1 d_Ru_rightAt_44 hl rfl rfl (by decide) rfl (fun ls hl => ?_)
        refine lv_goto (tgt := 5) S.1 S.2.1 d_Ru_rightAt_47 (by decide) ?_
        exact ih _ _ _ h (lv_sub hl [1, 2, 3, 4, 0] rfl)
set_option maxHeartbeats 4000000 in
set_option maxRecDepth 100000 in
theorem c_Ru_rightAt (l : Launch) (D : va_G) (ad : Nat → Nat) (cA : ClassId × ClassId × ClassId) (te : Te) (ru : Ru) (au : Au) (re : Re) (la : La) (sp : Sp) (le : Le) (x1 : Int32) (x2 : Int32) (Q : Int32 → Prop) (h : p_Ru_rightAt x1 x2 ru Q) : roI l y_Ru_rightAt (wsOf y_Ru_rightAt b_Ru_rightAt 5 (some .int)) rm_Ru_rightAt D (tyA cA) (wC ad cA) [.ref (ad 9), .int x1, .int x2] (te, ru, au, re, la, sp, le) Q := by
  refine roI_of (by decide) (Nat.le_of_ble_eq_true rfl) ?_
  intro p e s m below meth c S hr hlk hK hP ls hl
  have hl : lv_has ls 5 [(0, .ref (ad 9)), (1, .int x1), (2, .int x2)] := hl
  refine lv_iconst (v := (0 : Int32)) S.1 S.2.1 d_Ru_rightAt_0 rfl ?_
  refine lv_istore_n (lv' := [(3, .int (0 : Int32)), (0, .ref (ad 9)), (1, .int x1), (2, .int x2)]) S.1 S.2.1 d_Ru_rightAt_1 rfl hl (by decide) rfl (fun ls hl => ?_)
  refine lv_iconst (v := (0 : Int32)) S.1 S.2.1 d_Ru_rightAt_2 rfl ?_
  refine lv_istore (lv' := [(4, .int (0 : Int32)), (3, .int (0 : Int32)), (0, .ref (ad 9)), (1, .int x1), (2, .int x2)]) S.1 S.2.1 d_Ru_rightAt_3 hl (by decide) rfl (fun ls hl => ?_)
  obtain ⟨n', h⟩ := h
  exact n_Ru_rightAt_5 S hr hlk hK hP n' _ _ _ h (lv_sub hl [2, 3, 4, 1, 0] rfl)

set_option maxHeartbeats 4000000 in
set_option maxRecDepth 100000 in
theorem c_Au_anyFinal (l : Launch) (D : va_G) (ad : Nat → Nat) (cA : ClassId × ClassId × ClassId) (te : Te) (ru : Ru) (au : Au) (re : Re) (la : La) (sp : Sp) (le : Le) (x1 : Int32) (Q : Int32 → Prop) (h : p_Au_anyFinal x1 au Q) : roI l y_Au_anyFinal (wsOf y_Au_anyFinal b_Au_anyFinal 2 (some .boolean)) rm_Au_anyFinal D (tyA cA) (wC ad cA) [.ref (ad 12), .int x1] (te, ru, au, re, la, sp, le) Q := by
  refine roI_of (by decide) (Nat.le_of_ble_eq_true rfl) ?_
  intro p e s m below meth c S hr hlk hK hP ls hl
  have hl : lv_has ls 2 [(0, .ref (ad 12)), (1, .int x1)] := hl
  refine lv_iload_n S.1 S.2.1 d_Au_anyFinal_0 rfl (lv_at hl 1 rfl) ?_
  refine lv_aload_n S.1 S.2.1 d_Au_anyFinal_1 rfl (lv_at hl 0 rfl) ?_
  refine g_Au_finals S hK hP d_Au_anyFinal_2 ?_
  refine lv_iand S.1 S.2.1 d_Au_anyFinal_5 ?_
  refine lv_if_eq (tgt := 13) S.1 S.2.1 d_Au_anyFinal_6 (by decide) (fun hc => ?_) (fun hc => ?_)
  · have h := h.1 hc
    refine lv_iconst (v := (0 : Int32)) S.1 S.2.1 d_Au_anyFinal_13 rfl ?_
    exact ret_roz S hr hlk (by decide) h d_Au_anyFinal_14
  · have h := h.2 hc
    refine lv_iconst (v := (1 : Int32)) S.1 S.2.1 d_Au_anyFinal_9 rfl ?_
    refine lv_goto (tgt := 14) S.1 S.2.1 d_Au_anyFinal_10 (by decide) ?_
    exact ret_roz S hr hlk (by decide) h d_Au_anyFinal_14

set_option maxHeartbeats 4000000 in
set_option maxRecDepth 100000 in
theorem n_Au_canStand_57 {p : Program} {l : Launch} {e : Env} {s : State} {m : MethodId} {args : Array Value} {below : List Frame} {meth : Method} {c : Code} {D : va_G} {ad : Nat → Nat} {cA : ClassId × ClassId × ClassId} {te : Te} {ru : Ru} {au : Au} {re : Re} {la : La} {sp : Sp} {le : Le} {x1 : Int32} {x2 : Int32} {x3 : Int32} {x4 : Int32} {Q : Int32 → Prop} (S : CallFix p m c b_Au_canStand 5 s args gtbl R_Au) (hr : meth.sig.returnType = (some .boolean)) (hlk : meth.locks = false) (hK : gK D (tyA cA) s) (hP : va_P D classes (wC ad cA (te, ru, au, re, la, sp, le)) s.heap) : ∀ (ls : Array Slot) , p_Au_canStand_57 x1 x2 x3 x4 te Q  → lv_has ls 5 [] → W p l e rm_Au_canStand s m args below meth c s.heap [] 0 0 (qRI Q below args s) (F0 m 57 ls []) := by
  intro ls  h hl
  refine lv_iconst (v := (1 : Int32)) S.1 S.2.1 d_Au_canStand_57 rfl ?_
  refine lv_goto (tgt := 62) S.1 S.2.1 d_Au_canStand_58 (by decide) ?_
  exact ret_roz S hr hlk (by decide) h d_Au_canStand_62
set_option maxHeartbeats 4000000 in
set_option maxRecDepth 100000 in
theorem n_Au_canStand_38 {p : Program} {l : Launch} {e : Env} {s : State} {m : MethodId} {args : Array Value} {below : List Frame} {meth : Method} {c : Code} {D : va_G} {ad : Nat → Nat} {cA : ClassId × ClassId × ClassId} {te : Te} {ru : Ru} {au : Au} {re : Re} {la : La} {sp : Sp} {le : Le} {x1 : Int32} {x2 : Int32} {x3 : Int32} {x4 : Int32} {Q : Int32 → Prop} (S : CallFix p m c b_Au_canStand 5 s args gtbl R_Au) (hr : meth.sig.returnType = (some .boolean)) (hlk : meth.locks = false) (hK : gK D (tyA cA) s) (hP : va_P D classes (wC ad cA (te, ru, au, re, la, sp, le)) s.heap) : ∀ (ls : Array Slot) , p_Au_canStand_38 x1 x2 x3 x4 te Q  → lv_has ls 5 [(0, .ref (ad 12)), (1, .int x1), (3, .int x3)] → W p l e rm_Au_canStand s m args below meth c s.heap [] 0 0 (qRI Q below args s) (F0 m 38 ls []) := by
  intro ls  h hl
  refine lv_aload_n S.1 S.2.1 d_Au_canStand_38 rfl (lv_at hl 0 rfl) ?_
  refine g_Au_terms S hK hP d_Au_canStand_39 ?_
  refine lv_iload_n S.1 S.2.1 d_Au_canStand_42 rfl (lv_at hl 1 rfl) ?_
  refine callV_roi S (c_Te_placesOf l D ad cA _ _ _ _ _ _ _ _ _ h) (mkV S.2.2.2.2 ml_Au_47 k_Te_placesOf rfl rfl ⟨Nat.le_of_ble_eq_true rfl, Nat.le_of_ble_eq_true rfl⟩) (rv_Te hK hP) hK hP hl.1 rfl rfl (Nat.le_of_ble_eq_true rfl) d_Au_canStand_43 ⟨Nat.zero_le _, Nat.zero_le _⟩ (fun r43 h => ?_)
  refine lv_iconst (v := (2 : Int32)) S.1 S.2.1 d_Au_canStand_46 rfl ?_
  refine lv_icmp_lt (tgt := 57) S.1 S.2.1 d_Au_canStand_47 (by decide) (fun hc => ?_) (fun hc => ?_)
  · have h := h.1 hc
    exact n_Au_canStand_57 S hr hlk hK hP _ h (lv_sub hl [] rfl)
  · have h := h.2 hc
    refine lv_iload_n S.1 S.2.1 d_Au_canStand_50 rfl (lv_at hl 2 rfl) ?_
    refine callSN_roi S (c_Gr_isState l D ad cA _ _ _ _ _ _ _ _ _ h) (mkSN S.2.2.2.2 hK.2 k_Gr_isState rfl rfl ⟨Nat.le_of_ble_eq_true rfl, Nat.le_of_ble_eq_true rfl⟩) hK hP hl.1 rfl rfl (Nat.le_of_ble_eq_true rfl) d_Au_canStand_51 ⟨Nat.zero_le _, Nat.zero_le _⟩ (fun r51 h => ?_)
    refine lv_if_eq (tgt := 61) S.1 S.2.1 d_Au_canStand_54 (by decide) (fun hc => ?_) (fun hc => ?_)
    · have h := h.1 hc
      refine lv_iconst (v := (0 : Int32)) S.1 S.2.1 d_Au_canStand_61 rfl ?_
      exact ret_roz S hr hlk (by decide) h d_Au_canStand_62
    · have h := h.2 hc
      exact n_Au_canStand_57 S hr hlk hK hP _ h (lv_sub hl [] rfl)
set_option maxHeartbeats 4000000 in
set_option maxRecDepth 100000 in
theorem c_Au_canStand (l : Launch) (D : va_G) (ad : Nat → Nat) (cA : ClassId × ClassId × ClassId) (te : Te) (ru : Ru) (au : Au) (re : Re) (la : La) (sp : Sp) (le : Le) (x1 : Int32) (x2 : Int32) (x3 : Int32) (x4 : Int32) (Q : Int32 → Prop) (h : p_Au_canStand x1 x2 x3 x4 te Q) : roI l y_Au_canStand (wsOf y_Au_canStand b_Au_canStand 5 (some .boolean)) rm_Au_canStand D (tyA cA) (wC ad cA) [.ref (ad 12), .int x1, .int x2, .int x3, .int x4] (te, ru, au, re, la, sp, le) Q := by
  refine roI_of (by decide) (Nat.le_of_ble_eq_true rfl) ?_
  intro p e s m below meth c S hr hlk hK hP ls hl
  have hl : lv_has ls 5 [(0, .ref (ad 12)), (1, .int x1), (2, .int x2), (3, .int x3), (4, .int x4)] := hl
  refine lv_aload_n S.1 S.2.1 d_Au_canStand_0 rfl (lv_at hl 0 rfl) ?_
  refine g_Au_terms S hK hP d_Au_canStand_1 ?_
  refine lv_iload_n S.1 S.2.1 d_Au_canStand_4 rfl (lv_at hl 1 rfl) ?_
  refine callV_roi S (c_Te_isSymbol l D ad cA _ _ _ _ _ _ _ _ _ h) (mkV S.2.2.2.2 ml_Au_38 k_Te_isSymbol rfl rfl ⟨Nat.le_of_ble_eq_true rfl, Nat.le_of_ble_eq_true rfl⟩) (rv_Te hK hP) hK hP hl.1 rfl rfl (Nat.le_of_ble_eq_true rfl) d_Au_canStand_5 ⟨Nat.zero_le _, Nat.zero_le _⟩ (fun r5 h => ?_)
  refine lv_if_eq (tgt := 61) S.1 S.2.1 d_Au_canStand_8 (by decide) (fun hc => ?_) (fun hc => ?_)
  · have h := h.1 hc
    refine lv_iconst (v := (0 : Int32)) S.1 S.2.1 d_Au_canStand_61 rfl ?_
    exact ret_roz S hr hlk (by decide) h d_Au_canStand_62
  · have h := h.2 hc
    refine lv_iload S.1 S.2.1 d_Au_canStand_11 (lv_at hl 4 rfl) ?_
    refine callSN_roi S (c_Gr_isState l D ad cA _ _ _ _ _ _ _ _ _ h) (mkSN S.2.2.2.2 hK.2 k_Gr_isState rfl rfl ⟨Nat.le_of_ble_eq_true rfl, Nat.le_of_ble_eq_true rfl⟩) hK hP hl.1 rfl rfl (Nat.le_of_ble_eq_true rfl) d_Au_canStand_13 ⟨Nat.zero_le _, Nat.zero_le _⟩ (fun r13 h => ?_)
    refine lv_if_eq (tgt := 61) S.1 S.2.1 d_Au_canStand_16 (by decide) (fun hc => ?_) (fun hc => ?_)
    · have h := h.1 hc
      refine lv_iconst (v := (0 : Int32)) S.1 S.2.1 d_Au_canStand_61 rfl ?_
      exact ret_roz S hr hlk (by decide) h d_Au_canStand_62
    · have h := h.2 hc
      refine lv_aload_n S.1 S.2.1 d_Au_canStand_19 rfl (lv_at hl 0 rfl) ?_
      refine g_Au_terms S hK hP d_Au_canStand_20 ?_
      refine lv_iload_n S.1 S.2.1 d_Au_canStand_23 rfl (lv_at hl 1 rfl) ?_
      refine callV_roi S (c_Te_placesOf l D ad cA _ _ _ _ _ _ _ _ _ h) (mkV S.2.2.2.2 ml_Au_47 k_Te_placesOf rfl rfl ⟨Nat.le_of_ble_eq_true rfl, Nat.le_of_ble_eq_true rfl⟩) (rv_Te hK hP) hK hP hl.1 rfl rfl (Nat.le_of_ble_eq_true rfl) d_Au_canStand_24 ⟨Nat.zero_le _, Nat.zero_le _⟩ (fun r24 h => ?_)
      refine lv_iconst (v := (1 : Int32)) S.1 S.2.1 d_Au_canStand_27 rfl ?_
      refine lv_icmp_lt (tgt := 38) S.1 S.2.1 d_Au_canStand_28 (by decide) (fun hc => ?_) (fun hc => ?_)
      · have h := h.1 hc
        exact n_Au_canStand_38 S hr hlk hK hP _ h (lv_sub hl [0, 1, 3] rfl)
      · have h := h.2 hc
        refine lv_iload_n S.1 S.2.1 d_Au_canStand_31 rfl (lv_at hl 2 rfl) ?_
        refine callSN_roi S (c_Gr_isState l D ad cA _ _ _ _ _ _ _ _ _ h) (mkSN S.2.2.2.2 hK.2 k_Gr_isState rfl rfl ⟨Nat.le_of_ble_eq_true rfl, Nat.le_of_ble_eq_true rfl⟩) hK hP hl.1 rfl rfl (Nat.le_of_ble_eq_true rfl) d_Au_canStand_32 ⟨Nat.zero_le _, Nat.zero_le _⟩ (fun r32 h => ?_)
        refine lv_if_eq (tgt := 61) S.1 S.2.1 d_Au_canStand_35 (by decide) (fun hc => ?_) (fun hc => ?_)
        · have h := h.1 hc
          refine lv_iconst (v := (0 : Int32)) S.1 S.2.1 d_Au_canStand_61 rfl ?_
          exact ret_roz S hr hlk (by decide) h d_Au_canStand_62
        · have h := h.2 hc
          exact n_Au_canStand_38 S hr hlk hK hP _ h (lv_sub hl [0, 1, 3] rfl)

set_option maxHeartbeats 4000000 in
set_option maxRecDepth 100000 in
theorem n_Au_holds_58 {p : Program} {l : Launch} {e : Env} {s : State} {m : MethodId} {args : Array Value} {below : List Frame} {meth : Method} {c : Code} {D : va_G} {ad : Nat → Nat} {cA : ClassId × ClassId × ClassId} {te : Te} {ru : Ru} {au : Au} {re : Re} {la : La} {sp : Sp} {le : Le} {x1 : Int32} {x2 : Int32} {x3 : Int32} {x4 : Int32} {Q : Int32 → Prop} (S : CallFix p m c b_Au_holds 6 s args gtbl R_Au) (hr : meth.sig.returnType = (some .boolean)) (hlk : meth.locks = false) (hK : gK D (tyA cA) s) (hP : va_P D classes (wC ad cA (te, ru, au, re, la, sp, le)) s.heap) {k3 : Int32 → Prop} (hk3 : ∀ (ls : Array Slot) (x5 : Int32), k3 x5 → lv_has ls 6 [(0, .ref (ad 12)), (1, .int x1), (2, .int x2), (3, .int x3), (4, .int x4), (5, .int x5)] → W p l e rm_Au_holds s m args below meth c s.heap [] 0 0 (qRI Q below args s) (F0 m 3 ls [])) : ∀ (ls : Array Slot) (x5 : Int32), p_Au_holds_58 x1 x2 x3 x4 te au Q k3 x5 → lv_has ls 6 [(0, .ref (ad 12)), (1, .int x1), (2, .int x2), (3, .int x3), (4, .int x4), (5, .int x5)] → W p l e rm_Au_holds s m args below meth c s.heap [] 0 0 (qRI Q below args s) (F0 m 58 ls []) := by
  intro ls x5 h hl
  refine lv_aload_n S.1 S.2.1 d_Au_holds_58 rfl (lv_at hl 0 rfl) ?_
  refine g_Au_terms S hK hP d_Au_holds_59 ?_
  refine lv_iload_n S.1 S.2.1 d_Au_holds_62 rfl (lv_at hl 1 rfl) ?_
  refine callV_roi S (c_Te_placesOf l D ad cA _ _ _ _ _ _ _ _ _ h) (mkV S.2.2.2.2 ml_Au_47 k_Te_placesOf rfl rfl ⟨Nat.le_of_ble_eq_true rfl, Nat.le_of_ble_eq_true rfl⟩) (rv_Te hK hP) hK hP hl.1 rfl rfl (Nat.le_of_ble_eq_true rfl) d_Au_holds_63 ⟨Nat.zero_le _, Nat.zero_le _⟩ (fun r63 h => ?_)
  refine lv_iconst (v := (2 : Int32)) S.1 S.2.1 d_Au_holds_66 rfl ?_
  refine lv_icmp_lt (tgt := 81) S.1 S.2.1 d_Au_holds_67 (by decide) (fun hc => ?_) (fun hc => ?_)
  · have h := h.1 hc
    refine lv_iconst (v := (1 : Int32)) S.1 S.2.1 d_Au_holds_81 rfl ?_
    exact ret_roz S hr hlk (by decide) h d_Au_holds_82
  · have h := h.2 hc
    refine lv_aload_n S.1 S.2.1 d_Au_holds_70 rfl (lv_at hl 0 rfl) ?_
    refine g_Au_second S hK hP d_Au_holds_71 ?_
    refine lv_iload S.1 S.2.1 d_Au_holds_74 (lv_at hl 5 rfl) ?_
    obtain ⟨hin, h⟩ := h
    refine a_Au_second S hK hP hin d_Au_holds_76 ?_
    refine lv_iload_n S.1 S.2.1 d_Au_holds_77 rfl (lv_at hl 3 rfl) ?_
    refine lv_icmp_ne (tgt := 83) S.1 S.2.1 d_Au_holds_78 (by decide) (fun hc => ?_) (fun hc => ?_)
    · have h := h.1 hc
      refine lv_iinc (k := 5) (v := x5 + (1 : Int32)) (lv' := [(5, .int (x5 + (1 : Int32))), (0, .ref (ad 12)), (1, .int x1), (2, .int x2), (3, .int x3), (4, .int x4)]) S.1 S.2.1 d_Au_holds_83 hl rfl rfl (by decide) rfl (fun ls hl => ?_)
      refine lv_goto (tgt := 3) S.1 S.2.1 d_Au_holds_86 (by decide) ?_
      exact hk3 _ _ h (lv_sub hl [1, 2, 3, 4, 5, 0] rfl)
    · have h := h.2 hc
      refine lv_iconst (v := (1 : Int32)) S.1 S.2.1 d_Au_holds_81 rfl ?_
      exact ret_roz S hr hlk (by decide) h d_Au_holds_82
set_option maxHeartbeats 4000000 in
set_option maxRecDepth 100000 in
theorem n_Au_holds_3 {p : Program} {l : Launch} {e : Env} {s : State} {m : MethodId} {args : Array Value} {below : List Frame} {meth : Method} {c : Code} {D : va_G} {ad : Nat → Nat} {cA : ClassId × ClassId × ClassId} {te : Te} {ru : Ru} {au : Au} {re : Re} {la : La} {sp : Sp} {le : Le} {x1 : Int32} {x2 : Int32} {x3 : Int32} {x4 : Int32} {Q : Int32 → Prop} (S : CallFix p m c b_Au_holds 6 s args gtbl R_Au) (hr : meth.sig.returnType = (some .boolean)) (hlk : meth.locks = false) (hK : gK D (tyA cA) s) (hP : va_P D classes (wC ad cA (te, ru, au, re, la, sp, le)) s.heap) : ∀ n : Nat, ∀ (ls : Array Slot) (x5 : Int32), p_Au_holds_3 x1 x2 x3 x4 te au Q n x5 → lv_has ls 6 [(0, .ref (ad 12)), (1, .int x1), (2, .int x2), (3, .int x3), (4, .int x4), (5, .int x5)] → W p l e rm_Au_holds s m args below meth c s.heap [] 0 0 (qRI Q below args s) (F0 m 3 ls []) := by
  intro n
  induction n with
  | zero =>
    intro ls x5 h
    exact (show False from h).elim
  | succ n ih =>
    intro ls x5 h hl
    refine lv_iload S.1 S.2.1 d_Au_holds_3 (lv_at hl 5 rfl) ?_
    refine lv_aload_n S.1 S.2.1 d_Au_holds_5 rfl (lv_at hl 0 rfl) ?_
    refine g_Au_count S hK hP d_Au_holds_6 ?_
    refine lv_icmp_ge (tgt := 89) S.1 S.2.1 d_Au_holds_9 (by decide) (fun hc => ?_) (fun hc => ?_)
    · have h := h.1 hc
      refine lv_iconst (v := (0 : Int32)) S.1 S.2.1 d_Au_holds_89 rfl ?_
      exact ret_roz S hr hlk (by decide) h d_Au_holds_90
    · have h := h.2 hc
      refine lv_aload_n S.1 S.2.1 d_Au_holds_12 rfl (lv_at hl 0 rfl) ?_
      refine g_Au_symbol S hK hP d_Au_holds_13 ?_
      refine lv_iload S.1 S.2.1 d_Au_holds_16 (lv_at hl 5 rfl) ?_
      obtain ⟨hin, h⟩ := h
      refine a_Au_symbol S hK hP hin d_Au_holds_18 ?_
      refine lv_iload_n S.1 S.2.1 d_Au_holds_19 rfl (lv_at hl 1 rfl) ?_
      refine lv_icmp_ne (tgt := 83) S.1 S.2.1 d_Au_holds_20 (by decide) (fun hc => ?_) (fun hc => ?_)
      · have h := h.1 hc
        refine lv_iinc (k := 5) (v := x5 + (1 : Int32)) (lv' := [(5, .int (x5 + (1 : Int32))), (0, .ref (ad 12)), (1, .int x1), (2, .int x2), (3, .int x3), (4, .int x4)]) S.1 S.2.1 d_Au_holds_83 hl rfl rfl (by decide) rfl (fun ls hl => ?_)
        refine lv_goto (tgt := 3) S.1 S.2.1 d_Au_holds_86 (by decide) ?_
        exact ih _ _ h (lv_sub hl [1, 2, 3, 4, 5, 0] rfl)
      · have h := h.2 hc
        refine lv_aload_n S.1 S.2.1 d_Au_holds_23 rfl (lv_at hl 0 rfl) ?_
        refine g_Au_target S hK hP d_Au_holds_24 ?_
        refine lv_iload S.1 S.2.1 d_Au_holds_27 (lv_at hl 5 rfl) ?_
        obtain ⟨hin, h⟩ := h
        refine a_Au_target S hK hP hin d_Au_holds_29 ?_
        refine lv_iload S.1 S.2.1 d_Au_holds_30 (lv_at hl 4 rfl) ?_
        refine lv_icmp_ne (tgt := 83) S.1 S.2.1 d_Au_holds_32 (by decide) (fun hc => ?_) (fun hc => ?_)
        · have h := h.1 hc
          refine lv_iinc (k := 5) (v := x5 + (1 : Int32)) (lv' := [(5, .int (x5 + (1 : Int32))), (0, .ref (ad 12)), (1, .int x1), (2, .int x2), (3, .int x3), (4, .int x4)]) S.1 S.2.1 d_Au_holds_83 hl rfl rfl (by decide) rfl (fun ls hl => ?_)
          refine lv_goto (tgt := 3) S.1 S.2.1 d_Au_holds_86 (by decide) ?_
          exact ih _ _ h (lv_sub hl [1, 2, 3, 4, 5, 0] rfl)
        · have h := h.2 hc
          refine lv_aload_n S.1 S.2.1 d_Au_holds_35 rfl (lv_at hl 0 rfl) ?_
          refine g_Au_terms S hK hP d_Au_holds_36 ?_
          refine lv_iload_n S.1 S.2.1 d_Au_holds_39 rfl (lv_at hl 1 rfl) ?_
          refine callV_roi S (c_Te_placesOf l D ad cA _ _ _ _ _ _ _ _ _ h) (mkV S.2.2.2.2 ml_Au_47 k_Te_placesOf rfl rfl ⟨Nat.le_of_ble_eq_true rfl, Nat.le_of_ble_eq_true rfl⟩) (rv_Te hK hP) hK hP hl.1 rfl rfl (Nat.le_of_ble_eq_true rfl) d_Au_holds_40 ⟨Nat.zero_le _, Nat.zero_le _⟩ (fun r40 h => ?_)
          refine lv_iconst (v := (1 : Int32)) S.1 S.2.1 d_Au_holds_43 rfl ?_
          refine lv_icmp_lt (tgt := 58) S.1 S.2.1 d_Au_holds_44 (by decide) (fun hc => ?_) (fun hc => ?_)
          · have h := h.1 hc
            exact n_Au_holds_58 S hr hlk hK hP ih _ _ h (lv_sub hl [0, 1, 2, 3, 4, 5] rfl)
          · have h := h.2 hc
            refine lv_aload_n S.1 S.2.1 d_Au_holds_47 rfl (lv_at hl 0 rfl) ?_
            refine g_Au_first S hK hP d_Au_holds_48 ?_
            refine lv_iload S.1 S.2.1 d_Au_holds_51 (lv_at hl 5 rfl) ?_
            obtain ⟨hin, h⟩ := h
            refine a_Au_first S hK hP hin d_Au_holds_53 ?_
            refine lv_iload_n S.1 S.2.1 d_Au_holds_54 rfl (lv_at hl 2 rfl) ?_
            refine lv_icmp_ne (tgt := 83) S.1 S.2.1 d_Au_holds_55 (by decide) (fun hc => ?_) (fun hc => ?_)
            · have h := h.1 hc
              refine lv_iinc (k := 5) (v := x5 + (1 : Int32)) (lv' := [(5, .int (x5 + (1 : Int32))), (0, .ref (ad 12)), (1, .int x1), (2, .int x2), (3, .int x3), (4, .int x4)]) S.1 S.2.1 d_Au_holds_83 hl rfl rfl (by decide) rfl (fun ls hl => ?_)
              refine lv_goto (tgt := 3) S.1 S.2.1 d_Au_holds_86 (by decide) ?_
              exact ih _ _ h (lv_sub hl [1, 2, 3, 4, 5, 0] rfl)
            · have h := h.2 hc
              exact n_Au_holds_58 S hr hlk hK hP ih _ _ h (lv_sub hl [0, 1, 2, 3, 4, 5] rfl)
set_option maxHeartbeats 4000000 in
set_option maxRecDepth 100000 in
theorem c_Au_holds (l : Launch) (D : va_G) (ad : Nat → Nat) (cA : ClassId × ClassId × ClassId) (te : Te) (ru : Ru) (au : Au) (re : Re) (la : La) (sp : Sp) (le : Le) (x1 : Int32) (x2 : Int32) (x3 : Int32) (x4 : Int32) (Q : Int32 → Prop) (h : p_Au_holds x1 x2 x3 x4 te au Q) : roI l y_Au_holds (wsOf y_Au_holds b_Au_holds 6 (some .boolean)) rm_Au_holds D (tyA cA) (wC ad cA) [.ref (ad 12), .int x1, .int x2, .int x3, .int x4] (te, ru, au, re, la, sp, le) Q := by
  refine roI_of (by decide) (Nat.le_of_ble_eq_true rfl) ?_
  intro p e s m below meth c S hr hlk hK hP ls hl
  have hl : lv_has ls 6 [(0, .ref (ad 12)), (1, .int x1), (2, .int x2), (3, .int x3), (4, .int x4)] := hl
  refine lv_iconst (v := (0 : Int32)) S.1 S.2.1 d_Au_holds_0 rfl ?_
  refine lv_istore (lv' := [(5, .int (0 : Int32)), (0, .ref (ad 12)), (1, .int x1), (2, .int x2), (3, .int x3), (4, .int x4)]) S.1 S.2.1 d_Au_holds_1 hl (by decide) rfl (fun ls hl => ?_)
  obtain ⟨n', h⟩ := h
  exact n_Au_holds_3 S hr hlk hK hP n' _ _ h (lv_sub hl [1, 2, 3, 4, 5, 0] rfl)

set_option maxHeartbeats 4000000 in
set_option maxRecDepth 100000 in
theorem n_Au_append_72 {p : Program} {l : Launch} {e : Env} {s : State} {m : MethodId} {args : Array Value} {below : List Frame} {meth : Method} {c : Code} {D : va_G} {A : Nat → Prop} {ad : Nat → Nat} {cA : ClassId × ClassId × ClassId} {te : Te} {ru : Ru} {re : Re} {la : La} {sp : Sp} {le : Le} {x1 : Int32} {x2 : Int32} {x3 : Int32} {x4 : Int32} {Q : Int32 → Au → Prop} (S : CallFix p m c b_Au_append 5 s args gtbl R_Au) (hr : meth.sig.returnType = (some .boolean)) (hlk : meth.locks = false) (hK : gK D (tyA cA) s) (hA : ∀ q : Nat, s.heap.size ≤ q → A q) : ∀ (ls : Array Slot) (H : Heap) (locs : List Loc) (y0 : Int32) (y1 : Int32) (au : Au), p_Au_append_72 x1 x2 x3 x4 te Q y0 y1 au → lv_has ls 5 [(0, .ref (ad 12)), (4, .int x4)] → gIn D A s (wC ad cA) (te, ru, au, re, la, sp, le) H locs → W p l e rm_Au_append s m args below meth c H locs 0 0 (qI D (tyA cA) A (wC ad cA) (fun u : Au => (te, ru, u, re, la, sp, le)) (fun (r : Int32) (u : Au) => Q r u) below args s) (F0 m 72 ls [.int y0, .int y1, .ref (ad 15)]) := by
  intro ls H locs y0 y1 au h hl I
  obtain ⟨hin, h⟩ := h
  refine s_Au_second S hK I hin d_Au_append_72 (fun H locs au72 eau72 I => ?_)
  have h := h au72 eau72
  refine lv_aload_n S.1 S.2.1 d_Au_append_73 rfl (lv_at hl 0 rfl) ?_
  refine g_Au_target S hK I.1 d_Au_append_74 ?_
  refine lv_aload_n S.1 S.2.1 d_Au_append_77 rfl (lv_at hl 0 rfl) ?_
  refine g_Au_count S hK I.1 d_Au_append_78 ?_
  refine lv_iload S.1 S.2.1 d_Au_append_81 (lv_at hl 1 rfl) ?_
  obtain ⟨hin, h⟩ := h
  refine s_Au_target S hK I hin d_Au_append_83 (fun H locs au83 eau83 I => ?_)
  have h := h au83 eau83
  refine lv_aload_n S.1 S.2.1 d_Au_append_84 rfl (lv_at hl 0 rfl) ?_
  refine lv_dup S.1 S.2.1 d_Au_append_85 rfl ?_
  refine g_Au_count S hK I.1 d_Au_append_86 ?_
  refine lv_iconst (v := (1 : Int32)) S.1 S.2.1 d_Au_append_89 rfl ?_
  refine lv_iadd S.1 S.2.1 d_Au_append_90 ?_
  refine q_Au_count S hK I d_Au_append_91 (fun H locs au91 eau91 I => ?_)
  have h := h au91 eau91
  refine lv_iconst (v := (1 : Int32)) S.1 S.2.1 d_Au_append_94 rfl ?_
  exact ret_rwz S hr hlk hK (by decide) I h d_Au_append_95
set_option maxHeartbeats 4000000 in
set_option maxRecDepth 100000 in
theorem n_Au_append_46 {p : Program} {l : Launch} {e : Env} {s : State} {m : MethodId} {args : Array Value} {below : List Frame} {meth : Method} {c : Code} {D : va_G} {A : Nat → Prop} {ad : Nat → Nat} {cA : ClassId × ClassId × ClassId} {te : Te} {ru : Ru} {re : Re} {la : La} {sp : Sp} {le : Le} {x1 : Int32} {x2 : Int32} {x3 : Int32} {x4 : Int32} {Q : Int32 → Au → Prop} (S : CallFix p m c b_Au_append 5 s args gtbl R_Au) (hr : meth.sig.returnType = (some .boolean)) (hlk : meth.locks = false) (hK : gK D (tyA cA) s) (hA : ∀ q : Nat, s.heap.size ≤ q → A q) : ∀ (ls : Array Slot) (H : Heap) (locs : List Loc) (y0 : Int32) (y1 : Int32) (au : Au), p_Au_append_46 x1 x2 x3 x4 te Q y0 y1 au → lv_has ls 5 [(0, .ref (ad 12)), (1, .int x1), (3, .int x3), (4, .int x4)] → gIn D A s (wC ad cA) (te, ru, au, re, la, sp, le) H locs → W p l e rm_Au_append s m args below meth c H locs 0 0 (qI D (tyA cA) A (wC ad cA) (fun u : Au => (te, ru, u, re, la, sp, le)) (fun (r : Int32) (u : Au) => Q r u) below args s) (F0 m 46 ls [.int y0, .int y1, .ref (ad 14)]) := by
  intro ls H locs y0 y1 au h hl I
  obtain ⟨hin, h⟩ := h
  refine s_Au_first S hK I hin d_Au_append_46 (fun H locs au46 eau46 I => ?_)
  have h := h au46 eau46
  refine lv_aload_n S.1 S.2.1 d_Au_append_47 rfl (lv_at hl 0 rfl) ?_
  refine g_Au_second S hK I.1 d_Au_append_48 ?_
  refine lv_aload_n S.1 S.2.1 d_Au_append_51 rfl (lv_at hl 0 rfl) ?_
  refine g_Au_count S hK I.1 d_Au_append_52 ?_
  refine lv_aload_n S.1 S.2.1 d_Au_append_55 rfl (lv_at hl 0 rfl) ?_
  refine g_Au_terms S hK I.1 d_Au_append_56 ?_
  refine lv_iload_n S.1 S.2.1 d_Au_append_59 rfl (lv_at hl 1 rfl) ?_
  refine callV_roi S (c_Te_placesOf l D ad cA _ _ _ _ _ _ _ _ _ h) (mkV S.2.2.2.2 ml_Au_47 k_Te_placesOf rfl rfl ⟨Nat.le_of_ble_eq_true rfl, Nat.le_of_ble_eq_true rfl⟩) (rv_Te hK I.1) hK I.1 hl.1 rfl rfl (Nat.le_of_ble_eq_true rfl) d_Au_append_60 ⟨Nat.zero_le _, Nat.zero_le _⟩ (fun r60 h => ?_)
  refine lv_iconst (v := (2 : Int32)) S.1 S.2.1 d_Au_append_63 rfl ?_
  refine lv_icmp_ge (tgt := 71) S.1 S.2.1 d_Au_append_64 (by decide) (fun hc => ?_) (fun hc => ?_)
  · have h := h.1 hc
    refine lv_iload_n S.1 S.2.1 d_Au_append_71 rfl (lv_at hl 2 rfl) ?_
    exact n_Au_append_72 S hr hlk hK hA _ _ _ _ _ _ h (lv_sub hl [0, 3] rfl) I
  · have h := h.2 hc
    refine lv_iconst (v := (0 : Int32)) S.1 S.2.1 d_Au_append_67 rfl ?_
    refine lv_goto (tgt := 72) S.1 S.2.1 d_Au_append_68 (by decide) ?_
    exact n_Au_append_72 S hr hlk hK hA _ _ _ _ _ _ h (lv_sub hl [0, 3] rfl) I
set_option maxHeartbeats 4000000 in
set_option maxRecDepth 100000 in
theorem c_Au_append (l : Launch) (D : va_G) (ad : Nat → Nat) (cA : ClassId × ClassId × ClassId) (te : Te) (ru : Ru) (au : Au) (re : Re) (la : La) (sp : Sp) (le : Le) (x1 : Int32) (x2 : Int32) (x3 : Int32) (x4 : Int32) (Q : Int32 → Au → Prop) (h : p_Au_append x1 x2 x3 x4 te au Q) : rwI l y_Au_append (wsOf y_Au_append b_Au_append 5 (some .boolean)) rm_Au_append D (tyA cA) (wC ad cA) [.ref (ad 12), .int x1, .int x2, .int x3, .int x4] (te, ru, au, re, la, sp, le) (fun u : Au => (te, ru, u, re, la, sp, le)) (fun (r : Int32) (u : Au) => Q r u) := by
  refine rwI_of (by decide) (Nat.le_of_ble_eq_true rfl) ?_
  intro p e s m below meth c S hr hlk hK A hA I ls hl
  have hl : lv_has ls 5 [(0, .ref (ad 12)), (1, .int x1), (2, .int x2), (3, .int x3), (4, .int x4)] := hl
  refine lv_aload_n S.1 S.2.1 d_Au_append_0 rfl (lv_at hl 0 rfl) ?_
  refine g_Au_count S hK I.1 d_Au_append_1 ?_
  refine lv_bipush (v := (20 : Int32)) S.1 S.2.1 d_Au_append_4 rfl ?_
  refine lv_icmp_lt (tgt := 11) S.1 S.2.1 d_Au_append_6 (by decide) (fun hc => ?_) (fun hc => ?_)
  · have h := h.1 hc
    refine lv_aload_n S.1 S.2.1 d_Au_append_11 rfl (lv_at hl 0 rfl) ?_
    refine g_Au_symbol S hK I.1 d_Au_append_12 ?_
    refine lv_aload_n S.1 S.2.1 d_Au_append_15 rfl (lv_at hl 0 rfl) ?_
    refine g_Au_count S hK I.1 d_Au_append_16 ?_
    refine lv_iload_n S.1 S.2.1 d_Au_append_19 rfl (lv_at hl 1 rfl) ?_
    obtain ⟨hin, h⟩ := h
    refine s_Au_symbol S hK I hin d_Au_append_20 (fun H locs au20 eau20 I => ?_)
    have h := h au20 eau20
    refine lv_aload_n S.1 S.2.1 d_Au_append_21 rfl (lv_at hl 0 rfl) ?_
    refine g_Au_first S hK I.1 d_Au_append_22 ?_
    refine lv_aload_n S.1 S.2.1 d_Au_append_25 rfl (lv_at hl 0 rfl) ?_
    refine g_Au_count S hK I.1 d_Au_append_26 ?_
    refine lv_aload_n S.1 S.2.1 d_Au_append_29 rfl (lv_at hl 0 rfl) ?_
    refine g_Au_terms S hK I.1 d_Au_append_30 ?_
    refine lv_iload_n S.1 S.2.1 d_Au_append_33 rfl (lv_at hl 1 rfl) ?_
    refine callV_roi S (c_Te_placesOf l D ad cA _ _ _ _ _ _ _ _ _ h) (mkV S.2.2.2.2 ml_Au_47 k_Te_placesOf rfl rfl ⟨Nat.le_of_ble_eq_true rfl, Nat.le_of_ble_eq_true rfl⟩) (rv_Te hK I.1) hK I.1 hl.1 rfl rfl (Nat.le_of_ble_eq_true rfl) d_Au_append_34 ⟨Nat.zero_le _, Nat.zero_le _⟩ (fun r34 h => ?_)
    refine lv_iconst (v := (1 : Int32)) S.1 S.2.1 d_Au_append_37 rfl ?_
    refine lv_icmp_ge (tgt := 45) S.1 S.2.1 d_Au_append_38 (by decide) (fun hc => ?_) (fun hc => ?_)
    · have h := h.1 hc
      refine lv_iload_n S.1 S.2.1 d_Au_append_45 rfl (lv_at hl 2 rfl) ?_
      exact n_Au_append_46 S hr hlk hK hA _ _ _ _ _ _ h (lv_sub hl [0, 1, 3, 4] rfl) I
    · have h := h.2 hc
      refine lv_iconst (v := (0 : Int32)) S.1 S.2.1 d_Au_append_41 rfl ?_
      refine lv_goto (tgt := 46) S.1 S.2.1 d_Au_append_42 (by decide) ?_
      exact n_Au_append_46 S hr hlk hK hA _ _ _ _ _ _ h (lv_sub hl [0, 1, 3, 4] rfl) I
  · have h := h.2 hc
    refine lv_iconst (v := (0 : Int32)) S.1 S.2.1 d_Au_append_9 rfl ?_
    exact ret_rwz S hr hlk hK (by decide) I h d_Au_append_10
