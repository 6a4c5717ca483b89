set_option maxHeartbeats 4000000 in
set_option maxRecDepth 100000 in
theorem n_Au_targetsOf_6 {p : Program} {l : Launch} {e : Env} {s : State} {m : MethodId} {args : Array Value} {below : List Frame} {meth : Method} {c : Code} {D : va_G} {ad : Nat → Nat} {cA : ClassId × ClassId × ClassId} {te : Te} {ru : Ru} {au : Au} {re : Re} {la : La} {sp : Sp} {le : Le} {x1 : Int32} {x2 : Int32} {x3 : Int32} {Q : Int32 → Prop} (S : CallFix p m c b_Au_targetsOf 6 s args gtbl R_Au) (hr : meth.sig.returnType = (some .int)) (hlk : meth.locks = false) (hK : gK D (tyA cA) s) (hP : va_P D classes (wC ad cA (te, ru, au, re, la, sp, le)) s.heap) : ∀ n : Nat, ∀ (ls : Array Slot) (x4 : Int32) (x5 : Int32), p_Au_targetsOf_6 x1 x2 x3 au Q n x4 x5 → lv_has ls 6 [(0, .ref (ad 12)), (1, .int x1), (2, .int x2), (3, .int x3), (4, .int x4), (5, .int x5)] → W p l e rm_Au_targetsOf s m args below meth c s.heap [] 0 0 (qRI Q below args s) (F0 m 6 ls []) := by
  intro n
  induction n with
  | zero =>
    intro ls x4 x5 h
    exact (show False from h).elim
  | succ n ih =>
    intro ls x4 x5 h hl
    refine lv_iload S.1 S.2.1 d_Au_targetsOf_6 (lv_at hl 5 rfl) ?_
    refine lv_aload_n S.1 S.2.1 d_Au_targetsOf_8 rfl (lv_at hl 0 rfl) ?_
    refine g_Au_count S hK hP d_Au_targetsOf_9 ?_
    refine lv_icmp_ge (tgt := 74) S.1 S.2.1 d_Au_targetsOf_12 (by decide) (fun hc => ?_) (fun hc => ?_)
    · have h := h.1 hc
      refine lv_iload S.1 S.2.1 d_Au_targetsOf_74 (lv_at hl 4 rfl) ?_
      exact ret_roi S hr hlk h d_Au_targetsOf_76
    · have h := h.2 hc
      refine lv_aload_n S.1 S.2.1 d_Au_targetsOf_15 rfl (lv_at hl 0 rfl) ?_
      refine g_Au_symbol S hK hP d_Au_targetsOf_16 ?_
      refine lv_iload S.1 S.2.1 d_Au_targetsOf_19 (lv_at hl 5 rfl) ?_
      obtain ⟨hin, h⟩ := h
      refine a_Au_symbol S hK hP hin d_Au_targetsOf_21 ?_
      refine lv_iload_n S.1 S.2.1 d_Au_targetsOf_22 rfl (lv_at hl 1 rfl) ?_
      refine lv_icmp_ne (tgt := 68) S.1 S.2.1 d_Au_targetsOf_23 (by decide) (fun hc => ?_) (fun hc => ?_)
      · have h := h.1 hc
        refine lv_iinc (k := 5) (v := x5 + (1 : Int32)) (lv' := [(5, .int (x5 + (1 : Int32))), (0, .ref (ad 12)), (1, .int x1), (2, .int x2), (3, .int x3), (4, .int x4)]) S.1 S.2.1 d_Au_targetsOf_68 hl rfl rfl (by decide) rfl (fun ls hl => ?_)
        refine lv_goto (tgt := 6) S.1 S.2.1 d_Au_targetsOf_71 (by decide) ?_
        exact ih _ _ _ h (lv_sub hl [1, 2, 3, 4, 5, 0] rfl)
      · have h := h.2 hc
        refine lv_iload_n S.1 S.2.1 d_Au_targetsOf_26 rfl (lv_at hl 2 rfl) ?_
        refine lv_aload_n S.1 S.2.1 d_Au_targetsOf_27 rfl (lv_at hl 0 rfl) ?_
        refine g_Au_first S hK hP d_Au_targetsOf_28 ?_
        refine lv_iload S.1 S.2.1 d_Au_targetsOf_31 (lv_at hl 5 rfl) ?_
        obtain ⟨hin, h⟩ := h
        refine a_Au_first S hK hP hin d_Au_targetsOf_33 ?_
        refine lv_ishr S.1 S.2.1 d_Au_targetsOf_34 ?_
        refine lv_iconst (v := (1 : Int32)) S.1 S.2.1 d_Au_targetsOf_35 rfl ?_
        refine lv_iand S.1 S.2.1 d_Au_targetsOf_36 ?_
        refine lv_if_eq (tgt := 68) S.1 S.2.1 d_Au_targetsOf_37 (by decide) (fun hc => ?_) (fun hc => ?_)
        · have h := h.1 hc
          refine lv_iinc (k := 5) (v := x5 + (1 : Int32)) (lv' := [(5, .int (x5 + (1 : Int32))), (0, .ref (ad 12)), (1, .int x1), (2, .int x2), (3, .int x3), (4, .int x4)]) S.1 S.2.1 d_Au_targetsOf_68 hl rfl rfl (by decide) rfl (fun ls hl => ?_)
          refine lv_goto (tgt := 6) S.1 S.2.1 d_Au_targetsOf_71 (by decide) ?_
          exact ih _ _ _ h (lv_sub hl [1, 2, 3, 4, 5, 0] rfl)
        · have h := h.2 hc
          refine lv_iload_n S.1 S.2.1 d_Au_targetsOf_40 rfl (lv_at hl 3 rfl) ?_
          refine lv_aload_n S.1 S.2.1 d_Au_targetsOf_41 rfl (lv_at hl 0 rfl) ?_
          refine g_Au_second S hK hP d_Au_targetsOf_42 ?_
          refine lv_iload S.1 S.2.1 d_Au_targetsOf_45 (lv_at hl 5 rfl) ?_
          obtain ⟨hin, h⟩ := h
          refine a_Au_second S hK hP hin d_Au_targetsOf_47 ?_
          refine lv_ishr S.1 S.2.1 d_Au_targetsOf_48 ?_
          refine lv_iconst (v := (1 : Int32)) S.1 S.2.1 d_Au_targetsOf_49 rfl ?_
          refine lv_iand S.1 S.2.1 d_Au_targetsOf_50 ?_
          refine lv_if_eq (tgt := 68) S.1 S.2.1 d_Au_targetsOf_51 (by decide) (fun hc => ?_) (fun hc => ?_)
          · have h := h.1 hc
            refine lv_iinc (k := 5) (v := x5 + (1 : Int32)) (lv' := [(5, .int (x5 + (1 : Int32))), (0, .ref (ad 12)), (1, .int x1), (2, .int x2), (3, .int x3), (4, .int x4)]) S.1 S.2.1 d_Au_targetsOf_68 hl rfl rfl (by decide) rfl (fun ls hl => ?_)
            refine lv_goto (tgt := 6) S.1 S.2.1 d_Au_targetsOf_71 (by decide) ?_
            exact ih _ _ _ h (lv_sub hl [1, 2, 3, 4, 5, 0] rfl)
          · have h := h.2 hc
            refine lv_iload S.1 S.2.1 d_Au_targetsOf_54 (lv_at hl 4 rfl) ?_
            refine lv_iconst (v := (1 : Int32)) S.1 S.2.1 d_Au_targetsOf_56 rfl ?_
            refine lv_aload_n S.1 S.2.1 d_Au_targetsOf_57 rfl (lv_at hl 0 rfl) ?_
            refine g_Au_target S hK hP d_Au_targetsOf_58 ?_
            refine lv_iload S.1 S.2.1 d_Au_targetsOf_61 (lv_at hl 5 rfl) ?_
            obtain ⟨hin, h⟩ := h
            refine a_Au_target S hK hP hin d_Au_targetsOf_63 ?_
            refine lv_ishl S.1 S.2.1 d_Au_targetsOf_64 ?_
            refine lv_ior S.1 S.2.1 d_Au_targetsOf_65 ?_
            refine lv_istore (lv' := [(4, .int (x4 ||| ((1 : Int32) <<< ((Au_target au x5.toNatClampNeg) &&& 31)))), (0, .ref (ad 12)), (1, .int x1), (2, .int x2), (3, .int x3), (5, .int x5)]) S.1 S.2.1 d_Au_targetsOf_66 hl (by decide) rfl (fun ls hl => ?_)
            refine lv_iinc (k := 5) (v := x5 + (1 : Int32)) (lv' := [(5, .int (x5 + (1 : Int32))), (4, .int (x4 ||| ((1 : Int32) <<< ((Au_target au x5.toNatClampNeg) &&& 31)))), (0, .ref (ad 12)), (1, .int x1), (2, .int x2), (3, .int x3)]) S.1 S.2.1 d_Au_targetsOf_68 hl rfl rfl (by decide) rfl (fun ls hl => ?_)
            refine lv_goto (tgt := 6) S.1 S.2.1 d_Au_targetsOf_71 (by decide) ?_
            exact ih _ _ _ h (lv_sub hl [2, 3, 4, 5, 1, 0] rfl)
set_option maxHeartbeats 4000000 in
set_option maxRecDepth 100000 in
theorem c_Au_targetsOf (l : Launch) (D : va_G) (ad : Nat → Nat) (cA : ClassId × ClassId × ClassId) (te : Te) (ru : Ru) (au : Au) (re : Re) (la : La) (sp : Sp) (le : Le) (x1 : Int32) (x2 : Int32) (x3 : Int32) (Q : Int32 → Prop) (h : p_Au_targetsOf x1 x2 x3 au Q) : roI l y_Au_targetsOf (wsOf y_Au_targetsOf b_Au_targetsOf 6 (some .int)) rm_Au_targetsOf D (tyA cA) (wC ad cA) [.ref (ad 12), .int x1, .int x2, .int x3] (te, ru, au, re, la, sp, le) Q := by
  refine roI_of (by decide) (Nat.le_of_ble_eq_true rfl) ?_
  intro p e s m below meth c S hr hlk hK hP ls hl
  have hl : lv_has ls 6 [(0, .ref (ad 12)), (1, .int x1), (2, .int x2), (3, .int x3)] := hl
  refine lv_iconst (v := (0 : Int32)) S.1 S.2.1 d_Au_targetsOf_0 rfl ?_
  refine lv_istore (lv' := [(4, .int (0 : Int32)), (0, .ref (ad 12)), (1, .int x1), (2, .int x2), (3, .int x3)]) S.1 S.2.1 d_Au_targetsOf_1 hl (by decide) rfl (fun ls hl => ?_)
  refine lv_iconst (v := (0 : Int32)) S.1 S.2.1 d_Au_targetsOf_3 rfl ?_
  refine lv_istore (lv' := [(5, .int (0 : Int32)), (4, .int (0 : Int32)), (0, .ref (ad 12)), (1, .int x1), (2, .int x2), (3, .int x3)]) S.1 S.2.1 d_Au_targetsOf_4 hl (by decide) rfl (fun ls hl => ?_)
  obtain ⟨n', h⟩ := h
  exact n_Au_targetsOf_6 S hr hlk hK hP n' _ _ _ h (lv_sub hl [2, 3, 4, 5, 1, 0] rfl)

set_option maxHeartbeats 4000000 in
set_option maxRecDepth 100000 in
theorem n_Ar_fillI_weight_5 {p : Program} {l : Launch} {e : Env} {s : State} {m : MethodId} {args : Array Value} {below : List Frame} {meth : Method} {c : Code} {D : va_G} {A : Nat → Prop} {ad : Nat → Nat} {cA : ClassId × ClassId × ClassId} {te : Te} {ru : Ru} {re : Re} {la : La} {sp : Sp} {le : Le} {x1 : Int32} {Q : Au → Prop} (S : CallFix p m c b_Ar_fillI 4 s args gtbl R_Ar) (hr : meth.sig.returnType = none) (hlk : meth.locks = false) (hK : gK D (tyA cA) s) (hA : ∀ q : Nat, s.heap.size ≤ q → A q) : ∀ n : Nat, ∀ (ls : Array Slot) (H : Heap) (locs : List Loc) (x2 : Int32) (x3 : Int32) (au : Au), p_Ar_fillI_weight_5 x1 Q n x2 x3 au → lv_has ls 4 [(0, .ref (ad 17)), (1, .int x1), (2, .int x2), (3, .int x3)] → gIn D A s (wC ad cA) (te, ru, au, re, la, sp, le) H locs → W p l e rm_Ar_fillI_weight s m args below meth c H locs 0 0 (qV D (tyA cA) A (wC ad cA) (fun u : Au => (te, ru, u, re, la, sp, le)) (fun u : Au => Q u) below args s) (F0 m 5 ls []) := by
  intro n
  induction n with
  | zero =>
    intro ls H locs x2 x3 au h
    exact (show False from h).elim
  | succ n ih =>
    intro ls H locs x2 x3 au h hl I
    refine lv_iload_n S.1 S.2.1 d_Ar_fillI_5 rfl (lv_at hl 2 rfl) ?_
    refine lv_iload_n S.1 S.2.1 d_Ar_fillI_6 rfl (lv_at hl 3 rfl) ?_
    refine lv_icmp_ge (tgt := 20) S.1 S.2.1 d_Ar_fillI_7 (by decide) (fun hc => ?_) (fun hc => ?_)
    · have h := h.1 hc
      exact ret_rwv S hr hlk hK I h d_Ar_fillI_20
    · have h := h.2 hc
      refine lv_aload_n S.1 S.2.1 d_Ar_fillI_10 rfl (lv_at hl 0 rfl) ?_
      refine lv_iload_n S.1 S.2.1 d_Ar_fillI_11 rfl (lv_at hl 2 rfl) ?_
      refine lv_iload_n S.1 S.2.1 d_Ar_fillI_12 rfl (lv_at hl 1 rfl) ?_
      obtain ⟨hin, h⟩ := h
      refine s_Au_weight S hK I hin d_Ar_fillI_13 (fun H locs au13 eau13 I => ?_)
      have h := h au13 eau13
      refine lv_iinc (k := 2) (v := x2 + (1 : Int32)) (lv' := [(2, .int (x2 + (1 : Int32))), (0, .ref (ad 17)), (1, .int x1), (3, .int x3)]) S.1 S.2.1 d_Ar_fillI_14 hl rfl rfl (by decide) rfl (fun ls hl => ?_)
      refine lv_goto (tgt := 5) S.1 S.2.1 d_Ar_fillI_17 (by decide) ?_
      exact ih _ _ _ _ _ _ h (lv_sub hl [1, 2, 0, 3] rfl) I
set_option maxHeartbeats 4000000 in
set_option maxRecDepth 100000 in
theorem c_Ar_fillI_weight (l : Launch) (D : va_G) (ad : Nat → Nat) (cA : ClassId × ClassId × ClassId) (te : Te) (ru : Ru) (au : Au) (re : Re) (la : La) (sp : Sp) (le : Le) (x1 : Int32) (Q : Au → Prop) (h : p_Ar_fillI_weight x1 au Q) : rwV l y_Ar_fillI (wsOf y_Ar_fillI b_Ar_fillI 4 none) rm_Ar_fillI_weight D (tyA cA) (wC ad cA) [.ref (ad 17), .int x1] (te, ru, au, re, la, sp, le) (fun u : Au => (te, ru, u, re, la, sp, le)) (fun u : Au => Q u) := by
  refine rwV_of (by decide) (Nat.le_of_ble_eq_true rfl) ?_
  intro p e s m below meth c S hr hlk hK A hA I ls hl
  have hl : lv_has ls 4 [(0, .ref (ad 17)), (1, .int x1)] := hl
  refine lv_iconst (v := (0 : Int32)) S.1 S.2.1 d_Ar_fillI_0 rfl ?_
  refine lv_istore_n (lv' := [(2, .int (0 : Int32)), (0, .ref (ad 17)), (1, .int x1)]) S.1 S.2.1 d_Ar_fillI_1 rfl hl (by decide) rfl (fun ls hl => ?_)
  refine lv_aload_n S.1 S.2.1 d_Ar_fillI_2 rfl (lv_at hl 1 rfl) ?_
  refine n_Au_weight S hK I.1 d_Ar_fillI_3 ?_
  refine lv_istore_n (lv' := [(3, .int (6 : Int32)), (2, .int (0 : Int32)), (0, .ref (ad 17)), (1, .int x1)]) S.1 S.2.1 d_Ar_fillI_4 rfl hl (by decide) rfl (fun ls hl => ?_)
  obtain ⟨n', h⟩ := h
  exact n_Ar_fillI_weight_5 S hr hlk hK hA n' _ _ _ _ _ _ h (lv_sub hl [2, 3, 1, 0] rfl) I

set_option maxHeartbeats 4000000 in
set_option maxRecDepth 100000 in
theorem n_Au_lighten_106 {p : Program} {l : Launch} {e : Env} {s : State} {m : MethodId} {args : Array Value} {below : List Frame} {meth : Method} {c : Code} {D : va_G} {A : Nat → Prop} {ad : Nat → Nat} {cA : ClassId × ClassId × ClassId} {te : Te} {ru : Ru} {re : Re} {la : La} {sp : Sp} {le : Le} {x1 : Int32} {Q : Au → Prop} (S : CallFix p m c b_Au_lighten 5 s args gtbl R_Au) (hr : meth.sig.returnType = none) (hlk : meth.locks = false) (hK : gK D (tyA cA) s) (hA : ∀ q : Nat, s.heap.size ≤ q → A q) : ∀ (ls : Array Slot) (H : Heap) (locs : List Loc) (x2 : Int32) (x3 : Int32) (au : Au), p_Au_lighten_106 x1 te Q x2 x3 au → lv_has ls 5 [(0, .ref (ad 12)), (1, .int x1), (2, .int x2), (3, .int x3)] → gIn D A s (wC ad cA) (te, ru, au, re, la, sp, le) H locs → W p l e rm_Au_lighten s m args below meth c H locs 0 0 (qV D (tyA cA) A (wC ad cA) (fun u : Au => (te, ru, u, re, la, sp, le)) (fun u : Au => Q u) below args s) (F0 m 106 ls []) := by
  intro ls H locs x2 x3 au h hl I
  refine lv_aload_n S.1 S.2.1 d_Au_lighten_106 rfl (lv_at hl 0 rfl) ?_
  refine g_Au_weight S hK I.1 d_Au_lighten_107 ?_
  refine lv_aload_n S.1 S.2.1 d_Au_lighten_110 rfl (lv_at hl 0 rfl) ?_
  refine g_Au_target S hK I.1 d_Au_lighten_111 ?_
  refine lv_iload_n S.1 S.2.1 d_Au_lighten_114 rfl (lv_at hl 1 rfl) ?_
  obtain ⟨hin, h⟩ := h
  refine a_Au_target S hK I.1 hin d_Au_lighten_115 ?_
  refine lv_iconst (v := (1 : Int32)) S.1 S.2.1 d_Au_lighten_116 rfl ?_
  refine lv_iload_n S.1 S.2.1 d_Au_lighten_117 rfl (lv_at hl 2 rfl) ?_
  refine lv_iadd S.1 S.2.1 d_Au_lighten_118 ?_
  refine lv_iload_n S.1 S.2.1 d_Au_lighten_119 rfl (lv_at hl 3 rfl) ?_
  refine lv_iadd S.1 S.2.1 d_Au_lighten_120 ?_
  obtain ⟨hin, h⟩ := h
  refine s_Au_weight S hK I hin d_Au_lighten_121 (fun H locs au121 eau121 I => ?_)
  have h := h au121 eau121
  exact ret_rwv S hr hlk hK I h d_Au_lighten_122
set_option maxHeartbeats 4000000 in
set_option maxRecDepth 100000 in
theorem n_Au_lighten_65 {p : Program} {l : Launch} {e : Env} {s : State} {m : MethodId} {args : Array Value} {below : List Frame} {meth : Method} {c : Code} {D : va_G} {A : Nat → Prop} {ad : Nat → Nat} {cA : ClassId × ClassId × ClassId} {te : Te} {ru : Ru} {re : Re} {la : La} {sp : Sp} {le : Le} {x1 : Int32} {Q : Au → Prop} (S : CallFix p m c b_Au_lighten 5 s args gtbl R_Au) (hr : meth.sig.returnType = none) (hlk : meth.locks = false) (hK : gK D (tyA cA) s) (hA : ∀ q : Nat, s.heap.size ≤ q → A q) : ∀ (ls : Array Slot) (H : Heap) (locs : List Loc) (x2 : Int32) (y0 : Int32) (au : Au), p_Au_lighten_65 x1 te Q x2 y0 au → lv_has ls 5 [(0, .ref (ad 12)), (1, .int x1), (2, .int x2)] → gIn D A s (wC ad cA) (te, ru, au, re, la, sp, le) H locs → W p l e rm_Au_lighten s m args below meth c H locs 0 0 (qV D (tyA cA) A (wC ad cA) (fun u : Au => (te, ru, u, re, la, sp, le)) (fun u : Au => Q u) below args s) (F0 m 65 ls [.int y0]) := by
  intro ls H locs x2 y0 au h hl I
  refine lv_istore_n (lv' := [(3, .int y0), (0, .ref (ad 12)), (1, .int x1), (2, .int x2)]) S.1 S.2.1 d_Au_lighten_65 rfl hl (by decide) rfl (fun ls hl => ?_)
  refine lv_iload_n S.1 S.2.1 d_Au_lighten_66 rfl (lv_at hl 3 rfl) ?_
  refine lv_iconst (v := (-1 : Int32)) S.1 S.2.1 d_Au_lighten_67 rfl ?_
  refine lv_icmp_eq (tgt := 76) S.1 S.2.1 d_Au_lighten_68 (by decide) (fun hc => ?_) (fun hc => ?_)
  · have h := h.1 hc
    exact ret_rwv S hr hlk hK I h d_Au_lighten_76
  · have h := h.2 hc
    refine lv_iload_n S.1 S.2.1 d_Au_lighten_71 rfl (lv_at hl 0 rfl) ?_
    refine lv_iconst (v := (-1 : Int32)) S.1 S.2.1 d_Au_lighten_72 rfl ?_
    refine lv_icmp_ne (tgt := 77) S.1 S.2.1 d_Au_lighten_73 (by decide) (fun hc => ?_) (fun hc => ?_)
    · have h := h.1 hc
      refine lv_aload_n S.1 S.2.1 d_Au_lighten_77 rfl (lv_at hl 1 rfl) ?_
      refine g_Au_weight S hK I.1 d_Au_lighten_78 ?_
      refine lv_aload_n S.1 S.2.1 d_Au_lighten_81 rfl (lv_at hl 1 rfl) ?_
      refine g_Au_target S hK I.1 d_Au_lighten_82 ?_
      refine lv_iload_n S.1 S.2.1 d_Au_lighten_85 rfl (lv_at hl 2 rfl) ?_
      obtain ⟨hin, h⟩ := h
      refine a_Au_target S hK I.1 hin d_Au_lighten_86 ?_
      obtain ⟨hin, h⟩ := h
      refine a_Au_weight S hK I.1 hin d_Au_lighten_87 ?_
      refine lv_istore (lv' := [(4, .int (Au_weight au (Au_target au x1.toNatClampNeg).toNatClampNeg)), (3, .int y0), (0, .ref (ad 12)), (1, .int x1), (2, .int x2)]) S.1 S.2.1 d_Au_lighten_88 hl (by decide) rfl (fun ls hl => ?_)
      refine lv_iload S.1 S.2.1 d_Au_lighten_90 (lv_at hl 0 rfl) ?_
      refine lv_iconst (v := (-1 : Int32)) S.1 S.2.1 d_Au_lighten_92 rfl ?_
      refine lv_icmp_eq (tgt := 106) S.1 S.2.1 d_Au_lighten_93 (by decide) (fun hc => ?_) (fun hc => ?_)
      · have h := h.1 hc
        exact n_Au_lighten_106 S hr hlk hK hA _ _ _ _ _ _ h (lv_sub hl [2, 3, 4, 1] rfl) I
      · have h := h.2 hc
        refine lv_iconst (v := (1 : Int32)) S.1 S.2.1 d_Au_lighten_96 rfl ?_
        refine lv_iload_n S.1 S.2.1 d_Au_lighten_97 rfl (lv_at hl 4 rfl) ?_
        refine lv_iadd S.1 S.2.1 d_Au_lighten_98 ?_
        refine lv_iload_n S.1 S.2.1 d_Au_lighten_99 rfl (lv_at hl 1 rfl) ?_
        refine lv_iadd S.1 S.2.1 d_Au_lighten_100 ?_
        refine lv_iload S.1 S.2.1 d_Au_lighten_101 (lv_at hl 0 rfl) ?_
        refine lv_icmp_ge (tgt := 122) S.1 S.2.1 d_Au_lighten_103 (by decide) (fun hc => ?_) (fun hc => ?_)
        · have h := h.1 hc
          exact ret_rwv S hr hlk hK I h d_Au_lighten_122
        · have h := h.2 hc
          exact n_Au_lighten_106 S hr hlk hK hA _ _ _ _ _ _ h (lv_sub hl [2, 3, 4, 1] rfl) I
    · have h := h.2 hc
      exact ret_rwv S hr hlk hK I h d_Au_lighten_76
set_option maxHeartbeats 4000000 in
set_option maxRecDepth 100000 in
theorem n_Au_lighten_32 {p : Program} {l : Launch} {e : Env} {s : State} {m : MethodId} {args : Array Value} {below : List Frame} {meth : Method} {c : Code} {D : va_G} {A : Nat → Prop} {ad : Nat → Nat} {cA : ClassId × ClassId × ClassId} {te : Te} {ru : Ru} {re : Re} {la : La} {sp : Sp} {le : Le} {x1 : Int32} {Q : Au → Prop} (S : CallFix p m c b_Au_lighten 5 s args gtbl R_Au) (hr : meth.sig.returnType = none) (hlk : meth.locks = false) (hK : gK D (tyA cA) s) (hA : ∀ q : Nat, s.heap.size ≤ q → A q) : ∀ (ls : Array Slot) (H : Heap) (locs : List Loc) (y0 : Int32) (au : Au), p_Au_lighten_32 x1 te Q y0 au → lv_has ls 5 [(0, .ref (ad 12)), (1, .int x1)] → gIn D A s (wC ad cA) (te, ru, au, re, la, sp, le) H locs → W p l e rm_Au_lighten s m args below meth c H locs 0 0 (qV D (tyA cA) A (wC ad cA) (fun u : Au => (te, ru, u, re, la, sp, le)) (fun u : Au => Q u) below args s) (F0 m 32 ls [.int y0]) := by
  intro ls H locs y0 au h hl I
  refine lv_istore_n (lv' := [(2, .int y0), (0, .ref (ad 12)), (1, .int x1)]) S.1 S.2.1 d_Au_lighten_32 rfl hl (by decide) rfl (fun ls hl => ?_)
  refine lv_aload_n S.1 S.2.1 d_Au_lighten_33 rfl (lv_at hl 1 rfl) ?_
  refine g_Au_terms S hK I.1 d_Au_lighten_34 ?_
  refine lv_aload_n S.1 S.2.1 d_Au_lighten_37 rfl (lv_at hl 1 rfl) ?_
  refine g_Au_symbol S hK I.1 d_Au_lighten_38 ?_
  refine lv_iload_n S.1 S.2.1 d_Au_lighten_41 rfl (lv_at hl 2 rfl) ?_
  obtain ⟨hin, h⟩ := h
  refine a_Au_symbol S hK I.1 hin d_Au_lighten_42 ?_
  refine callV_roi S (c_Te_placesOf l D ad cA _ _ _ _ _ _ _ _ _ h) (mkV S.2.2.2.2 ml_Au_47 k_Te_placesOf rfl rfl ⟨Nat.le_of_ble_eq_true rfl, Nat.le_of_ble_eq_true rfl⟩) (rv_Te hK I.1) hK I.1 hl.1 rfl rfl (Nat.le_of_ble_eq_true rfl) d_Au_lighten_43 ⟨Nat.zero_le _, Nat.zero_le _⟩ (fun r43 h => ?_)
  refine lv_iconst (v := (2 : Int32)) S.1 S.2.1 d_Au_lighten_46 rfl ?_
  refine lv_icmp_ge (tgt := 54) S.1 S.2.1 d_Au_lighten_47 (by decide) (fun hc => ?_) (fun hc => ?_)
  · have h := h.1 hc
    refine lv_aload_n S.1 S.2.1 d_Au_lighten_54 rfl (lv_at hl 1 rfl) ?_
    refine g_Au_weight S hK I.1 d_Au_lighten_55 ?_
    refine lv_aload_n S.1 S.2.1 d_Au_lighten_58 rfl (lv_at hl 1 rfl) ?_
    refine g_Au_second S hK I.1 d_Au_lighten_59 ?_
    refine lv_iload_n S.1 S.2.1 d_Au_lighten_62 rfl (lv_at hl 2 rfl) ?_
    obtain ⟨hin, h⟩ := h
    refine a_Au_second S hK I.1 hin d_Au_lighten_63 ?_
    obtain ⟨hin, h⟩ := h
    refine a_Au_weight S hK I.1 hin d_Au_lighten_64 ?_
    exact n_Au_lighten_65 S hr hlk hK hA _ _ _ _ _ _ h (lv_sub hl [1, 2, 0] rfl) I
  · have h := h.2 hc
    refine lv_iconst (v := (0 : Int32)) S.1 S.2.1 d_Au_lighten_50 rfl ?_
    refine lv_goto (tgt := 65) S.1 S.2.1 d_Au_lighten_51 (by decide) ?_
    exact n_Au_lighten_65 S hr hlk hK hA _ _ _ _ _ _ h (lv_sub hl [1, 2, 0] rfl) I
set_option maxHeartbeats 4000000 in
set_option maxRecDepth 100000 in
theorem c_Au_lighten (l : Launch) (D : va_G) (ad : Nat → Nat) (cA : ClassId × ClassId × ClassId) (te : Te) (ru : Ru) (au : Au) (re : Re) (la : La) (sp : Sp) (le : Le) (x1 : Int32) (Q : Au → Prop) (h : p_Au_lighten x1 te au Q) : rwV l y_Au_lighten (wsOf y_Au_lighten b_Au_lighten 5 none) rm_Au_lighten D (tyA cA) (wC ad cA) [.ref (ad 12), .int x1] (te, ru, au, re, la, sp, le) (fun u : Au => (te, ru, u, re, la, sp, le)) (fun u : Au => Q u) := by
  refine rwV_of (by decide) (Nat.le_of_ble_eq_true rfl) ?_
  intro p e s m below meth c S hr hlk hK A hA I ls hl
  have hl : lv_has ls 5 [(0, .ref (ad 12)), (1, .int x1)] := hl
  refine lv_aload_n S.1 S.2.1 d_Au_lighten_0 rfl (lv_at hl 0 rfl) ?_
  refine g_Au_terms S hK I.1 d_Au_lighten_1 ?_
  refine lv_aload_n S.1 S.2.1 d_Au_lighten_4 rfl (lv_at hl 0 rfl) ?_
  refine g_Au_symbol S hK I.1 d_Au_lighten_5 ?_
  refine lv_iload_n S.1 S.2.1 d_Au_lighten_8 rfl (lv_at hl 1 rfl) ?_
  obtain ⟨hin, h⟩ := h
  refine a_Au_symbol S hK I.1 hin d_Au_lighten_9 ?_
  refine callV_roi S (c_Te_placesOf l D ad cA _ _ _ _ _ _ _ _ _ h) (mkV S.2.2.2.2 ml_Au_47 k_Te_placesOf rfl rfl ⟨Nat.le_of_ble_eq_true rfl, Nat.le_of_ble_eq_true rfl⟩) (rv_Te hK I.1) hK I.1 hl.1 rfl rfl (Nat.le_of_ble_eq_true rfl) d_Au_lighten_10 ⟨Nat.zero_le _, Nat.zero_le _⟩ (fun r10 h => ?_)
  refine lv_iconst (v := (1 : Int32)) S.1 S.2.1 d_Au_lighten_13 rfl ?_
  refine lv_icmp_ge (tgt := 21) S.1 S.2.1 d_Au_lighten_14 (by decide) (fun hc => ?_) (fun hc => ?_)
  · have h := h.1 hc
    refine lv_aload_n S.1 S.2.1 d_Au_lighten_21 rfl (lv_at hl 0 rfl) ?_
    refine g_Au_weight S hK I.1 d_Au_lighten_22 ?_
    refine lv_aload_n S.1 S.2.1 d_Au_lighten_25 rfl (lv_at hl 0 rfl) ?_
    refine g_Au_first S hK I.1 d_Au_lighten_26 ?_
    refine lv_iload_n S.1 S.2.1 d_Au_lighten_29 rfl (lv_at hl 1 rfl) ?_
    obtain ⟨hin, h⟩ := h
    refine a_Au_first S hK I.1 hin d_Au_lighten_30 ?_
    obtain ⟨hin, h⟩ := h
    refine a_Au_weight S hK I.1 hin d_Au_lighten_31 ?_
    exact n_Au_lighten_32 S hr hlk hK hA _ _ _ _ _ h (lv_sub hl [0, 1] rfl) I
  · have h := h.2 hc
    refine lv_iconst (v := (0 : Int32)) S.1 S.2.1 d_Au_lighten_17 rfl ?_
    refine lv_goto (tgt := 32) S.1 S.2.1 d_Au_lighten_18 (by decide) ?_
    exact n_Au_lighten_32 S hr hlk hK hA _ _ _ _ _ h (lv_sub hl [0, 1] rfl) I

set_option maxHeartbeats 4000000 in
set_option maxRecDepth 100000 in
theorem n_Au_leastSize_18 {p : Program} {l : Launch} {e : Env} {s : State} {m : MethodId} {args : Array Value} {below : List Frame} {meth : Method} {c : Code} {D : va_G} {A : Nat → Prop} {ad : Nat → Nat} {cA : ClassId × ClassId × ClassId} {te : Te} {ru : Ru} {re : Re} {la : La} {sp : Sp} {le : Le} {x1 : Int32} {Q : Int32 → Au → Prop} (S : CallFix p m c b_Au_leastSize 4 s args gtbl R_Au) (hr : meth.sig.returnType = (some .int)) (hlk : meth.locks = false) (hK : gK D (tyA cA) s) (hA : ∀ q : Nat, s.heap.size ≤ q → A q) {k10 : Int32 → Au → Prop} (hk10 : ∀ (ls : Array Slot) (H : Heap) (locs : List Loc) (x2 : Int32) (au : Au), k10 x2 au → lv_has ls 4 [(0, .ref (ad 12)), (1, .int x1), (2, .int x2)] → gIn D A s (wC ad cA) (te, ru, au, re, la, sp, le) H locs → W p l e rm_Au_leastSize s m args below meth c H locs 0 0 (qI D (tyA cA) A (wC ad cA) (fun u : Au => (te, ru, u, re, la, sp, le)) (fun (r : Int32) (u : Au) => Q r u) below args s) (F0 m 10 ls [])) : ∀ n : Nat, ∀ (ls : Array Slot) (H : Heap) (locs : List Loc) (x2 : Int32) (x3 : Int32) (au : Au), p_Au_leastSize_18 x1 te Q k10 n x2 x3 au → lv_has ls 4 [(0, .ref (ad 12)), (1, .int x1), (2, .int x2), (3, .int x3)] → gIn D A s (wC ad cA) (te, ru, au, re, la, sp, le) H locs → W p l e rm_Au_leastSize s m args below meth c H locs 0 0 (qI D (tyA cA) A (wC ad cA) (fun u : Au => (te, ru, u, re, la, sp, le)) (fun (r : Int32) (u : Au) => Q r u) below args s) (F0 m 18 ls []) := by
  intro n
  induction n with
  | zero =>
    intro ls H locs x2 x3 au h
    exact (show False from h).elim
  | succ n ih =>
    intro ls H locs x2 x3 au h hl I
    refine lv_iload_n S.1 S.2.1 d_Au_leastSize_18 rfl (lv_at hl 3 rfl) ?_
    refine lv_aload_n S.1 S.2.1 d_Au_leastSize_19 rfl (lv_at hl 0 rfl) ?_
    refine g_Au_count S hK I.1 d_Au_leastSize_20 ?_
    refine lv_icmp_ge (tgt := 37) S.1 S.2.1 d_Au_leastSize_23 (by decide) (fun hc => ?_) (fun hc => ?_)
    · have h := h.1 hc
      refine lv_iinc (k := 2) (v := x2 + (1 : Int32)) (lv' := [(2, .int (x2 + (1 : Int32))), (0, .ref (ad 12)), (1, .int x1), (3, .int x3)]) S.1 S.2.1 d_Au_leastSize_37 hl rfl rfl (by decide) rfl (fun ls hl => ?_)
      refine lv_goto (tgt := 10) S.1 S.2.1 d_Au_leastSize_40 (by decide) ?_
      exact hk10 _ _ _ _ _ h (lv_sub hl [1, 2, 0] rfl) I
    · have h := h.2 hc
      refine lv_aload_n S.1 S.2.1 d_Au_leastSize_26 rfl (lv_at hl 0 rfl) ?_
      refine lv_iload_n S.1 S.2.1 d_Au_leastSize_27 rfl (lv_at hl 3 rfl) ?_
      refine callV_rwv S (c_Au_lighten l D ad cA _ _ _ _ _ _ _ _ _ h) (mkV S.2.2.2.2 ml_Au_57 k_Au_lighten rfl rfl ⟨Nat.le_of_ble_eq_true rfl, Nat.le_of_ble_eq_true rfl⟩) (rv_Au hK I.1) hK hA I hl.1 rfl rfl (Nat.le_of_ble_eq_true rfl) d_Au_leastSize_28 ⟨Nat.zero_le _, Nat.zero_le _⟩ (fun au28 H locs h I => ?_)
      refine lv_iinc (k := 3) (v := x3 + (1 : Int32)) (lv' := [(3, .int (x3 + (1 : Int32))), (0, .ref (ad 12)), (1, .int x1), (2, .int x2)]) S.1 S.2.1 d_Au_leastSize_31 hl rfl rfl (by decide) rfl (fun ls hl => ?_)
      refine lv_goto (tgt := 18) S.1 S.2.1 d_Au_leastSize_34 (by decide) ?_
      exact ih _ _ _ _ _ _ h (lv_sub hl [1, 2, 3, 0] rfl) I
set_option maxHeartbeats 4000000 in
set_option maxRecDepth 100000 in
theorem n_Au_leastSize_10 {p : Program} {l : Launch} {e : Env} {s : State} {m : MethodId} {args : Array Value} {below : List Frame} {meth : Method} {c : Code} {D : va_G} {A : Nat → Prop} {ad : Nat → Nat} {cA : ClassId × ClassId × ClassId} {te : Te} {ru : Ru} {re : Re} {la : La} {sp : Sp} {le : Le} {x1 : Int32} {Q : Int32 → Au → Prop} (S : CallFix p m c b_Au_leastSize 4 s args gtbl R_Au) (hr : meth.sig.returnType = (some .int)) (hlk : meth.locks = false) (hK : gK D (tyA cA) s) (hA : ∀ q : Nat, s.heap.size ≤ q → A q) : ∀ n : Nat, ∀ (ls : Array Slot) (H : Heap) (locs : List Loc) (x2 : Int32) (au : Au), p_Au_leastSize_10 x1 te Q n x2 au → lv_has ls 4 [(0, .ref (ad 12)), (1, .int x1), (2, .int x2)] → gIn D A s (wC ad cA) (te, ru, au, re, la, sp, le) H locs → W p l e rm_Au_leastSize s m args below meth c H locs 0 0 (qI D (tyA cA) A (wC ad cA) (fun u : Au => (te, ru, u, re, la, sp, le)) (fun (r : Int32) (u : Au) => Q r u) below args s) (F0 m 10 ls []) := by
  intro n
  induction n with
  | zero =>
    intro ls H locs x2 au h
    exact (show False from h).elim
  | succ n ih =>
    intro ls H locs x2 au h hl I
    refine lv_iload_n S.1 S.2.1 d_Au_leastSize_10 rfl (lv_at hl 2 rfl) ?_
    refine lv_bipush (v := (6 : Int32)) S.1 S.2.1 d_Au_leastSize_11 rfl ?_
    refine lv_icmp_ge (tgt := 43) S.1 S.2.1 d_Au_leastSize_13 (by decide) (fun hc => ?_) (fun hc => ?_)
    · have h := h.1 hc
      refine lv_aload_n S.1 S.2.1 d_Au_leastSize_43 rfl (lv_at hl 0 rfl) ?_
      refine g_Au_weight S hK I.1 d_Au_leastSize_44 ?_
      refine lv_iload_n S.1 S.2.1 d_Au_leastSize_47 rfl (lv_at hl 1 rfl) ?_
      obtain ⟨hin, h⟩ := h
      refine a_Au_weight S hK I.1 hin d_Au_leastSize_48 ?_
      exact ret_rwi S hr hlk hK I h d_Au_leastSize_49
    · have h := h.2 hc
      refine lv_iconst (v := (0 : Int32)) S.1 S.2.1 d_Au_leastSize_16 rfl ?_
      refine lv_istore_n (lv' := [(3, .int (0 : Int32)), (0, .ref (ad 12)), (1, .int x1), (2, .int x2)]) S.1 S.2.1 d_Au_leastSize_17 rfl hl (by decide) rfl (fun ls hl => ?_)
      obtain ⟨n', h⟩ := h
      exact n_Au_leastSize_18 S hr hlk hK hA ih n' _ _ _ _ _ _ h (lv_sub hl [1, 2, 3, 0] rfl) I
set_option maxHeartbeats 4000000 in
set_option maxRecDepth 100000 in
theorem c_Au_leastSize (l : Launch) (D : va_G) (ad : Nat → Nat) (cA : ClassId × ClassId × ClassId) (te : Te) (ru : Ru) (au : Au) (re : Re) (la : La) (sp : Sp) (le : Le) (x1 : Int32) (Q : Int32 → Au → Prop) (h : p_Au_leastSize x1 te au Q) : rwI l y_Au_leastSize (wsOf y_Au_leastSize b_Au_leastSize 4 (some .int)) rm_Au_leastSize D (tyA cA) (wC ad cA) [.ref (ad 12), .int x1] (te, ru, au, re, la, sp, le) (fun u : Au => (te, ru, u, re, la, sp, le)) (fun (r : Int32) (u : Au) => Q r u) := by
  refine rwI_of (by decide) (Nat.le_of_ble_eq_true rfl) ?_
  intro p e s m below meth c S hr hlk hK A hA I ls hl
  have hl : lv_has ls 4 [(0, .ref (ad 12)), (1, .int x1)] := hl
  refine lv_aload_n S.1 S.2.1 d_Au_leastSize_0 rfl (lv_at hl 0 rfl) ?_
  refine g_Au_weight S hK I.1 d_Au_leastSize_1 ?_
  refine lv_iconst (v := (-1 : Int32)) S.1 S.2.1 d_Au_leastSize_4 rfl ?_
  refine callS_rwv S (c_Ar_fillI_weight l D ad cA _ _ _ _ _ _ _ _ _ h) (mkS S.2.2.2.2 ml_Au_51 k_Ar_fillI rfl rfl ⟨Nat.le_of_ble_eq_true rfl, Nat.le_of_ble_eq_true rfl⟩) hK hA I hl.1 rfl rfl (Nat.le_of_ble_eq_true rfl) d_Au_leastSize_5 ⟨Nat.zero_le _, Nat.zero_le _⟩ (fun au5 H locs h I => ?_)
  refine lv_iconst (v := (0 : Int32)) S.1 S.2.1 d_Au_leastSize_8 rfl ?_
  refine lv_istore_n (lv' := [(2, .int (0 : Int32)), (0, .ref (ad 12)), (1, .int x1)]) S.1 S.2.1 d_Au_leastSize_9 rfl hl (by decide) rfl (fun ls hl => ?_)
  obtain ⟨n', h⟩ := h
  exact n_Au_leastSize_10 S hr hlk hK hA n' _ _ _ _ _ h (lv_sub hl [1, 2, 0] rfl) I

set_option maxHeartbeats 4000000 in
set_option maxRecDepth 100000 in
theorem c_Re_isIn_reached (l : Launch) (D : va_G) (ad : Nat → Nat) (cA : ClassId × ClassId × ClassId) (te : Te) (ru : Ru) (au : Au) (re : Re) (la : La) (sp : Sp) (le : Le) (x1 : Int32) (x2 : Int32) (Q : Int32 → Prop) (h : p_Re_isIn_reached x1 x2 re Q) : roI l y_Re_isIn (wsOf y_Re_isIn b_Re_isIn 3 (some .boolean)) rm_Re_isIn_reached D (tyA cA) (wC ad cA) [.ref (ad 19), .int x1, .int x2] (te, ru, au, re, la, sp, le) Q := by
  refine roI_of (by decide) (Nat.le_of_ble_eq_true rfl) ?_
  intro p e s m below meth c S hr hlk hK hP ls hl
  have hl : lv_has ls 3 [(0, .ref (ad 19)), (1, .int x1), (2, .int x2)] := hl
  refine lv_aload_n S.1 S.2.1 d_Re_isIn_0 rfl (lv_at hl 0 rfl) ?_
  refine lv_iload_n S.1 S.2.1 d_Re_isIn_1 rfl (lv_at hl 1 rfl) ?_
  obtain ⟨hin, h⟩ := h
  refine a_Re_reached S hK hP hin d_Re_isIn_2 ?_
  refine lv_iload_n S.1 S.2.1 d_Re_isIn_3 rfl (lv_at hl 2 rfl) ?_
  refine lv_lshr S.1 S.2.1 d_Re_isIn_4 rfl ?_
  refine lv_lconst (v := (1 : Int64)) S.1 S.2.1 d_Re_isIn_5 rfl ?_
  refine lv_land S.1 S.2.1 d_Re_isIn_6 ?_
  refine lv_lconst (v := (0 : Int64)) S.1 S.2.1 d_Re_isIn_7 rfl ?_
  refine W.lcmp S.1 S.2.1 d_Re_isIn_8 ?_
  refine lv_if_eq (tgt := 16) S.1 S.2.1 d_Re_isIn_9 (by decide) (fun hc => ?_) (fun hc => ?_)
  · have h := h.1 hc
    refine lv_iconst (v := (0 : Int32)) S.1 S.2.1 d_Re_isIn_16 rfl ?_
    exact ret_roz S hr hlk (by decide) h d_Re_isIn_17
  · have h := h.2 hc
    refine lv_iconst (v := (1 : Int32)) S.1 S.2.1 d_Re_isIn_12 rfl ?_
    refine lv_goto (tgt := 17) S.1 S.2.1 d_Re_isIn_13 (by decide) ?_
    exact ret_roz S hr hlk (by decide) h d_Re_isIn_17

set_option maxHeartbeats 4000000 in
set_option maxRecDepth 100000 in
theorem n_Re_chain_9 {p : Program} {l : Launch} {e : Env} {s : State} {m : MethodId} {args : Array Value} {below : List Frame} {meth : Method} {c : Code} {D : va_G} {A : Nat → Prop} {ad : Nat → Nat} {cA : ClassId × ClassId × ClassId} {te : Te} {ru : Ru} {au : Au} {la : La} {sp : Sp} {le : Le} {x1 : Int32} {Q : Re → Prop} (S : CallFix p m c b_Re_chain 4 s args gtbl R_Re) (hr : meth.sig.returnType = none) (hlk : meth.locks = false) (hK : gK D (tyA cA) s) (hA : ∀ q : Nat, s.heap.size ≤ q → A q) {k2 : Int32 → Re → Prop} (hk2 : ∀ (ls : Array Slot) (H : Heap) (locs : List Loc) (x2 : Int32) (re : Re), k2 x2 re → lv_has ls 4 [(0, .ref (ad 18)), (1, .int x1), (2, .int x2)] → gIn D A s (wC ad cA) (te, ru, au, re, la, sp, le) H locs → W p l e rm_Re_chain s m args below meth c H locs 0 0 (qV D (tyA cA) A (wC ad cA) (fun u : Re => (te, ru, au, u, la, sp, le)) (fun u : Re => Q u) below args s) (F0 m 2 ls [])) : ∀ n : Nat, ∀ (ls : Array Slot) (H : Heap) (locs : List Loc) (x2 : Int32) (x3 : Int32) (re : Re), p_Re_chain_9 x1 Q k2 n x2 x3 re → lv_has ls 4 [(0, .ref (ad 18)), (1, .int x1), (2, .int x2), (3, .int x3)] → gIn D A s (wC ad cA) (te, ru, au, re, la, sp, le) H locs → W p l e rm_Re_chain s m args below meth c H locs 0 0 (qV D (tyA cA) A (wC ad cA) (fun u : Re => (te, ru, au, u, la, sp, le)) (fun u : Re => Q u) below args s) (F0 m 9 ls []) := by
  intro n
  induction n with
  | zero =>
    intro ls H locs x2 x3 re h
    exact (show False from h).elim
  | succ n ih =>
    intro ls H locs x2 x3 re h hl I
    refine lv_iload_n S.1 S.2.1 d_Re_chain_9 rfl (lv_at hl 3 rfl) ?_
    refine lv_iload_n S.1 S.2.1 d_Re_chain_10 rfl (lv_at hl 1 rfl) ?_
    refine lv_icmp_ge (tgt := 47) S.1 S.2.1 d_Re_chain_11 (by decide) (fun hc => ?_) (fun hc => ?_)
    · have h := h.1 hc
      refine lv_iinc (k := 2) (v := x2 + (1 : Int32)) (lv' := [(2, .int (x2 + (1 : Int32))), (0, .ref (ad 18)), (1, .int x1), (3, .int x3)]) S.1 S.2.1 d_Re_chain_47 hl rfl rfl (by decide) rfl (fun ls hl => ?_)
      refine lv_goto (tgt := 2) S.1 S.2.1 d_Re_chain_50 (by decide) ?_
      exact hk2 _ _ _ _ _ h (lv_sub hl [1, 2, 0] rfl) I
    · have h := h.2 hc
      refine lv_aload_n S.1 S.2.1 d_Re_chain_14 rfl (lv_at hl 0 rfl) ?_
      refine g_Re_reached S hK I.1 d_Re_chain_15 ?_
      refine lv_iload_n S.1 S.2.1 d_Re_chain_18 rfl (lv_at hl 3 rfl) ?_
      refine lv_iload_n S.1 S.2.1 d_Re_chain_19 rfl (lv_at hl 2 rfl) ?_
      refine callS_roi S (c_Re_isIn_reached l D ad cA _ _ _ _ _ _ _ _ _ _ h) (mkS S.2.2.2.2 ml_Re_55 k_Re_isIn rfl rfl ⟨Nat.le_of_ble_eq_true rfl, Nat.le_of_ble_eq_true rfl⟩) hK I.1 hl.1 rfl rfl (Nat.le_of_ble_eq_true rfl) d_Re_chain_20 ⟨Nat.zero_le _, Nat.zero_le _⟩ (fun r20 h => ?_)
      refine lv_if_eq (tgt := 41) S.1 S.2.1 d_Re_chain_23 (by decide) (fun hc => ?_) (fun hc => ?_)
      · have h := h.1 hc
        refine lv_iinc (k := 3) (v := x3 + (1 : Int32)) (lv' := [(3, .int (x3 + (1 : Int32))), (0, .ref (ad 18)), (1, .int x1), (2, .int x2)]) S.1 S.2.1 d_Re_chain_41 hl rfl rfl (by decide) rfl (fun ls hl => ?_)
        refine lv_goto (tgt := 9) S.1 S.2.1 d_Re_chain_44 (by decide) ?_
        exact ih _ _ _ _ _ _ h (lv_sub hl [1, 2, 3, 0] rfl) I
      · have h := h.2 hc
        refine lv_aload_n S.1 S.2.1 d_Re_chain_26 rfl (lv_at hl 0 rfl) ?_
        refine g_Re_reached S hK I.1 d_Re_chain_27 ?_
        refine lv_iload_n S.1 S.2.1 d_Re_chain_30 rfl (lv_at hl 3 rfl) ?_
        refine lv_dup2_11 S.1 S.2.1 d_Re_chain_31 rfl rfl ?_
        obtain ⟨hin, h⟩ := h
        refine a_Re_reached S hK I.1 hin d_Re_chain_32 ?_
        refine lv_aload_n S.1 S.2.1 d_Re_chain_33 rfl (lv_at hl 0 rfl) ?_
        refine g_Re_reached S hK I.1 d_Re_chain_34 ?_
        refine lv_iload_n S.1 S.2.1 d_Re_chain_37 rfl (lv_at hl 2 rfl) ?_
        obtain ⟨hin, h⟩ := h
        refine a_Re_reached S hK I.1 hin d_Re_chain_38 ?_
        refine lv_lor S.1 S.2.1 d_Re_chain_39 ?_
        obtain ⟨hin, h⟩ := h
        refine s_Re_reached S hK I hin d_Re_chain_40 (fun H locs re40 ere40 I => ?_)
        have h := h re40 ere40
        refine lv_iinc (k := 3) (v := x3 + (1 : Int32)) (lv' := [(3, .int (x3 + (1 : Int32))), (0, .ref (ad 18)), (1, .int x1), (2, .int x2)]) S.1 S.2.1 d_Re_chain_41 hl rfl rfl (by decide) rfl (fun ls hl => ?_)
        refine lv_goto (tgt := 9) S.1 S.2.1 d_Re_chain_44 (by decide) ?_
        exact ih _ _ _ _ _ _ h (lv_sub hl [1, 2, 3, 0] rfl) I
set_option maxHeartbeats 4000000 in
set_option maxRecDepth 100000 in
theorem n_Re_chain_2 {p : Program} {l : Launch} {e : Env} {s : State} {m : MethodId} {args : Array Value} {below : List Frame} {meth : Method} {c : Code} {D : va_G} {A : Nat → Prop} {ad : Nat → Nat} {cA : ClassId × ClassId × ClassId} {te : Te} {ru : Ru} {au : Au} {la : La} {sp : Sp} {le : Le} {x1 : Int32} {Q : Re → Prop} (S : CallFix p m c b_Re_chain 4 s args gtbl R_Re) (hr : meth.sig.returnType = none) (hlk : meth.locks = false) (hK : gK D (tyA cA) s) (hA : ∀ q : Nat, s.heap.size ≤ q → A q) : ∀ n : Nat, ∀ (ls : Array Slot) (H : Heap) (locs : List Loc) (x2 : Int32) (re : Re), p_Re_chain_2 x1 Q n x2 re → lv_has ls 4 [(0, .ref (ad 18)), (1, .int x1), (2, .int x2)] → gIn D A s (wC ad cA) (te, ru, au, re, la, sp, le) H locs → W p l e rm_Re_chain s m args below meth c H locs 0 0 (qV D (tyA cA) A (wC ad cA) (fun u : Re => (te, ru, au, u, la, sp, le)) (fun u : Re => Q u) below args s) (F0 m 2 ls []) := by
  intro n
  induction n with
  | zero =>
    intro ls H locs x2 re h
    exact (show False from h).elim
  | succ n ih =>
    intro ls H locs x2 re h hl I
    refine lv_iload_n S.1 S.2.1 d_Re_chain_2 rfl (lv_at hl 2 rfl) ?_
    refine lv_iload_n S.1 S.2.1 d_Re_chain_3 rfl (lv_at hl 1 rfl) ?_
    refine lv_icmp_ge (tgt := 53) S.1 S.2.1 d_Re_chain_4 (by decide) (fun hc => ?_) (fun hc => ?_)
    · have h := h.1 hc
      exact ret_rwv S hr hlk hK I h d_Re_chain_53
    · have h := h.2 hc
      refine lv_iconst (v := (0 : Int32)) S.1 S.2.1 d_Re_chain_7 rfl ?_
      refine lv_istore_n (lv' := [(3, .int (0 : Int32)), (0, .ref (ad 18)), (1, .int x1), (2, .int x2)]) S.1 S.2.1 d_Re_chain_8 rfl hl (by decide) rfl (fun ls hl => ?_)
      obtain ⟨n', h⟩ := h
      exact n_Re_chain_9 S hr hlk hK hA ih n' _ _ _ _ _ _ h (lv_sub hl [1, 2, 3, 0] rfl) I
set_option maxHeartbeats 4000000 in
set_option maxRecDepth 100000 in
theorem c_Re_chain (l : Launch) (D : va_G) (ad : Nat → Nat) (cA : ClassId × ClassId × ClassId) (te : Te) (ru : Ru) (au : Au) (re : Re) (la : La) (sp : Sp) (le : Le) (x1 : Int32) (Q : Re → Prop) (h : p_Re_chain x1 re Q) : rwV l y_Re_chain (wsOf y_Re_chain b_Re_chain 4 none) rm_Re_chain D (tyA cA) (wC ad cA) [.ref (ad 18), .int x1] (te, ru, au, re, la, sp, le) (fun u : Re => (te, ru, au, u, la, sp, le)) (fun u : Re => Q u) := by
  refine rwV_of (by decide) (Nat.le_of_ble_eq_true rfl) ?_
  intro p e s m below meth c S hr hlk hK A hA I ls hl
  have hl : lv_has ls 4 [(0, .ref (ad 18)), (1, .int x1)] := hl
  refine lv_iconst (v := (0 : Int32)) S.1 S.2.1 d_Re_chain_0 rfl ?_
  refine lv_istore_n (lv' := [(2, .int (0 : Int32)), (0, .ref (ad 18)), (1, .int x1)]) S.1 S.2.1 d_Re_chain_1 rfl hl (by decide) rfl (fun ls hl => ?_)
  obtain ⟨n', h⟩ := h
  exact n_Re_chain_2 S hr hlk hK hA n' _ _ _ _ _ h (lv_sub hl [1, 2, 0] rfl) I

set_option maxHeartbeats 4000000 in
set_option maxRecDepth 100000 in
theorem n_Re_partsRelated_reached_96 {p : Program} {l : Launch} {e : Env} {s : State} {m : MethodId} {args : Array Value} {below : List Frame} {meth : Method} {c : Code} {D : va_G} {ad : Nat → Nat} {cA : ClassId × ClassId × ClassId} {te : Te} {ru : Ru} {au : Au} {re : Re} {la : La} {sp : Sp} {le : Le} {x2 : Int32} {x3 : Int32} {Q : Int32 → Prop} (S : CallFix p m c b_Re_partsRelated 5 s args gtbl R_Re) (hr : meth.sig.returnType = (some .boolean)) (hlk : meth.locks = false) (hK : gK D (tyA cA) s) (hP : va_P D classes (wC ad cA (te, ru, au, re, la, sp, le)) s.heap) : ∀ (ls : Array Slot) , p_Re_partsRelated_reached_96 x2 x3 te re Q  → lv_has ls 5 [] → W p l e rm_Re_partsRelated_reached s m args below meth c s.heap [] 0 0 (qRI Q below args s) (F0 m 96 ls []) := by
  intro ls  h hl
  refine lv_iconst (v := (1 : Int32)) S.1 S.2.1 d_Re_partsRelated_96 rfl ?_
  refine lv_goto (tgt := 101) S.1 S.2.1 d_Re_partsRelated_97 (by decide) ?_
  exact ret_roz S hr hlk (by decide) h d_Re_partsRelated_101
set_option maxHeartbeats 4000000 in
set_option maxRecDepth 100000 in
theorem n_Re_partsRelated_reached_67 {p : Program} {l : Launch} {e : Env} {s : State} {m : MethodId} {args : Array Value} {below : List Frame} {meth : Method} {c : Code} {D : va_G} {ad : Nat → Nat} {cA : ClassId × ClassId × ClassId} {te : Te} {ru : Ru} {au : Au} {re : Re} {la : La} {sp : Sp} {le : Le} {x2 : Int32} {x3 : Int32} {Q : Int32 → Prop} (S : CallFix p m c b_Re_partsRelated 5 s args gtbl R_Re) (hr : meth.sig.returnType = (some .boolean)) (hlk : meth.locks = false) (hK : gK D (tyA cA) s) (hP : va_P D classes (wC ad cA (te, ru, au, re, la, sp, le)) s.heap) : ∀ (ls : Array Slot) (x4 : Int32), p_Re_partsRelated_reached_67 x2 x3 te re Q x4 → lv_has ls 5 [(0, .ref (ad 18)), (1, .ref (ad 19)), (2, .int x2), (3, .int x3), (4, .int x4)] → W p l e rm_Re_partsRelated_reached s m args below meth c s.heap [] 0 0 (qRI Q below args s) (F0 m 67 ls []) := by
  intro ls x4 h hl
  refine lv_iload S.1 S.2.1 d_Re_partsRelated_67 (lv_at hl 4 rfl) ?_
  refine lv_iconst (v := (2 : Int32)) S.1 S.2.1 d_Re_partsRelated_69 rfl ?_
  refine lv_icmp_lt (tgt := 96) S.1 S.2.1 d_Re_partsRelated_70 (by decide) (fun hc => ?_) (fun hc => ?_)
  · have h := h.1 hc
    exact n_Re_partsRelated_reached_96 S hr hlk hK hP _ h (lv_sub hl [] rfl)
  · have h := h.2 hc
    refine lv_aload_n S.1 S.2.1 d_Re_partsRelated_73 rfl (lv_at hl 1 rfl) ?_
    refine lv_aload_n S.1 S.2.1 d_Re_partsRelated_74 rfl (lv_at hl 0 rfl) ?_
    refine g_Re_terms S hK hP d_Re_partsRelated_75 ?_
    refine lv_iload_n S.1 S.2.1 d_Re_partsRelated_78 rfl (lv_at hl 2 rfl) ?_
    refine callV_roi S (c_Te_secondOf l D ad cA _ _ _ _ _ _ _ _ _ h) (mkV S.2.2.2.2 ml_Re_100 k_Te_secondOf rfl rfl ⟨Nat.le_of_ble_eq_true rfl, Nat.le_of_ble_eq_true rfl⟩) (rv_Te hK hP) hK hP hl.1 rfl rfl (Nat.le_of_ble_eq_true rfl) d_Re_partsRelated_79 ⟨Nat.zero_le _, Nat.zero_le _⟩ (fun r79 h => ?_)
    refine lv_aload_n S.1 S.2.1 d_Re_partsRelated_82 rfl (lv_at hl 0 rfl) ?_
    refine g_Re_terms S hK hP d_Re_partsRelated_83 ?_
    refine lv_iload_n S.1 S.2.1 d_Re_partsRelated_86 rfl (lv_at hl 3 rfl) ?_
    refine callV_roi S (c_Te_secondOf l D ad cA _ _ _ _ _ _ _ _ _ h) (mkV S.2.2.2.2 ml_Re_100 k_Te_secondOf rfl rfl ⟨Nat.le_of_ble_eq_true rfl, Nat.le_of_ble_eq_true rfl⟩) (rv_Te hK hP) hK hP hl.1 rfl rfl (Nat.le_of_ble_eq_true rfl) d_Re_partsRelated_87 ⟨Nat.zero_le _, Nat.zero_le _⟩ (fun r87 h => ?_)
    refine callS_roi S (c_Re_isIn_reached l D ad cA _ _ _ _ _ _ _ _ _ _ h) (mkS S.2.2.2.2 ml_Re_55 k_Re_isIn rfl rfl ⟨Nat.le_of_ble_eq_true rfl, Nat.le_of_ble_eq_true rfl⟩) hK hP hl.1 rfl rfl (Nat.le_of_ble_eq_true rfl) d_Re_partsRelated_90 ⟨Nat.zero_le _, Nat.zero_le _⟩ (fun r90 h => ?_)
    refine lv_if_eq (tgt := 100) S.1 S.2.1 d_Re_partsRelated_93 (by decide) (fun hc => ?_) (fun hc => ?_)
    · have h := h.1 hc
      refine lv_iconst (v := (0 : Int32)) S.1 S.2.1 d_Re_partsRelated_100 rfl ?_
      exact ret_roz S hr hlk (by decide) h d_Re_partsRelated_101
    · have h := h.2 hc
      exact n_Re_partsRelated_reached_96 S hr hlk hK hP _ h (lv_sub hl [] rfl)
set_option maxHeartbeats 4000000 in
set_option maxRecDepth 100000 in
theorem c_Re_partsRelated_reached (l : Launch) (D : va_G) (ad : Nat → Nat) (cA : ClassId × ClassId × ClassId) (te : Te) (ru : Ru) (au : Au) (re : Re) (la : La) (sp : Sp) (le : Le) (x2 : Int32) (x3 : Int32) (Q : Int32 → Prop) (h : p_Re_partsRelated_reached x2 x3 te re Q) : roI l y_Re_partsRelated (wsOf y_Re_partsRelated b_Re_partsRelated 5 (some .boolean)) rm_Re_partsRelated_reached D (tyA cA) (wC ad cA) [.ref (ad 18), .ref (ad 19), .int x2, .int x3] (te, ru, au, re, la, sp, le) Q := by
  refine roI_of (by decide) (Nat.le_of_ble_eq_true rfl) ?_
  intro p e s m below meth c S hr hlk hK hP ls hl
  have hl : lv_has ls 5 [(0, .ref (ad 18)), (1, .ref (ad 19)), (2, .int x2), (3, .int x3)] := hl
  refine lv_aload_n S.1 S.2.1 d_Re_partsRelated_0 rfl (lv_at hl 0 rfl) ?_
  refine g_Re_terms S hK hP d_Re_partsRelated_1 ?_
  refine lv_iload_n S.1 S.2.1 d_Re_partsRelated_4 rfl (lv_at hl 2 rfl) ?_
  refine callV_roi S (c_Te_symbolOf l D ad cA _ _ _ _ _ _ _ _ _ h) (mkV S.2.2.2.2 ml_Re_91 k_Te_symbolOf rfl rfl ⟨Nat.le_of_ble_eq_true rfl, Nat.le_of_ble_eq_true rfl⟩) (rv_Te hK hP) hK hP hl.1 rfl rfl (Nat.le_of_ble_eq_true rfl) d_Re_partsRelated_5 ⟨Nat.zero_le _, Nat.zero_le _⟩ (fun r5 h => ?_)
  refine lv_aload_n S.1 S.2.1 d_Re_partsRelated_8 rfl (lv_at hl 0 rfl) ?_
  refine g_Re_terms S hK hP d_Re_partsRelated_9 ?_
  refine lv_iload_n S.1 S.2.1 d_Re_partsRelated_12 rfl (lv_at hl 3 rfl) ?_
  refine callV_roi S (c_Te_symbolOf l D ad cA _ _ _ _ _ _ _ _ _ h) (mkV S.2.2.2.2 ml_Re_91 k_Te_symbolOf rfl rfl ⟨Nat.le_of_ble_eq_true rfl, Nat.le_of_ble_eq_true rfl⟩) (rv_Te hK hP) hK hP hl.1 rfl rfl (Nat.le_of_ble_eq_true rfl) d_Re_partsRelated_13 ⟨Nat.zero_le _, Nat.zero_le _⟩ (fun r13 h => ?_)
  refine lv_icmp_eq (tgt := 21) S.1 S.2.1 d_Re_partsRelated_16 (by decide) (fun hc => ?_) (fun hc => ?_)
  · have h := h.1 hc
    refine lv_aload_n S.1 S.2.1 d_Re_partsRelated_21 rfl (lv_at hl 0 rfl) ?_
    refine g_Re_terms S hK hP d_Re_partsRelated_22 ?_
    refine lv_aload_n S.1 S.2.1 d_Re_partsRelated_25 rfl (lv_at hl 0 rfl) ?_
    refine g_Re_terms S hK hP d_Re_partsRelated_26 ?_
    refine lv_iload_n S.1 S.2.1 d_Re_partsRelated_29 rfl (lv_at hl 2 rfl) ?_
    refine callV_roi S (c_Te_symbolOf l D ad cA _ _ _ _ _ _ _ _ _ h) (mkV S.2.2.2.2 ml_Re_91 k_Te_symbolOf rfl rfl ⟨Nat.le_of_ble_eq_true rfl, Nat.le_of_ble_eq_true rfl⟩) (rv_Te hK hP) hK hP hl.1 rfl rfl (Nat.le_of_ble_eq_true rfl) d_Re_partsRelated_30 ⟨Nat.zero_le _, Nat.zero_le _⟩ (fun r30 h => ?_)
    refine callV_roi S (c_Te_placesOf l D ad cA _ _ _ _ _ _ _ _ _ h) (mkV S.2.2.2.2 ml_Re_94 k_Te_placesOf rfl rfl ⟨Nat.le_of_ble_eq_true rfl, Nat.le_of_ble_eq_true rfl⟩) (rv_Te hK hP) hK hP hl.1 rfl rfl (Nat.le_of_ble_eq_true rfl) d_Re_partsRelated_33 ⟨Nat.zero_le _, Nat.zero_le _⟩ (fun r33 h => ?_)
    refine lv_istore (lv' := [(4, .int r33), (0, .ref (ad 18)), (1, .ref (ad 19)), (2, .int x2), (3, .int x3)]) S.1 S.2.1 d_Re_partsRelated_36 hl (by decide) rfl (fun ls hl => ?_)
    refine lv_iload S.1 S.2.1 d_Re_partsRelated_38 (lv_at hl 0 rfl) ?_
    refine lv_iconst (v := (1 : Int32)) S.1 S.2.1 d_Re_partsRelated_40 rfl ?_
    refine lv_icmp_lt (tgt := 67) S.1 S.2.1 d_Re_partsRelated_41 (by decide) (fun hc => ?_) (fun hc => ?_)
    · have h := h.1 hc
      exact n_Re_partsRelated_reached_67 S hr hlk hK hP _ _ h (lv_sub hl [1, 2, 3, 4, 0] rfl)
    · have h := h.2 hc
      refine lv_aload_n S.1 S.2.1 d_Re_partsRelated_44 rfl (lv_at hl 2 rfl) ?_
      refine lv_aload_n S.1 S.2.1 d_Re_partsRelated_45 rfl (lv_at hl 1 rfl) ?_
      refine g_Re_terms S hK hP d_Re_partsRelated_46 ?_
      refine lv_iload_n S.1 S.2.1 d_Re_partsRelated_49 rfl (lv_at hl 3 rfl) ?_
      refine callV_roi S (c_Te_firstOf l D ad cA _ _ _ _ _ _ _ _ _ h) (mkV S.2.2.2.2 ml_Re_97 k_Te_firstOf rfl rfl ⟨Nat.le_of_ble_eq_true rfl, Nat.le_of_ble_eq_true rfl⟩) (rv_Te hK hP) hK hP hl.1 rfl rfl (Nat.le_of_ble_eq_true rfl) d_Re_partsRelated_50 ⟨Nat.zero_le _, Nat.zero_le _⟩ (fun r50 h => ?_)
      refine lv_aload_n S.1 S.2.1 d_Re_partsRelated_53 rfl (lv_at hl 1 rfl) ?_
      refine g_Re_terms S hK hP d_Re_partsRelated_54 ?_
      refine lv_iload_n S.1 S.2.1 d_Re_partsRelated_57 rfl (lv_at hl 4 rfl) ?_
      refine callV_roi S (c_Te_firstOf l D ad cA _ _ _ _ _ _ _ _ _ h) (mkV S.2.2.2.2 ml_Re_97 k_Te_firstOf rfl rfl ⟨Nat.le_of_ble_eq_true rfl, Nat.le_of_ble_eq_true rfl⟩) (rv_Te hK hP) hK hP hl.1 rfl rfl (Nat.le_of_ble_eq_true rfl) d_Re_partsRelated_58 ⟨Nat.zero_le _, Nat.zero_le _⟩ (fun r58 h => ?_)
      refine callS_roi S (c_Re_isIn_reached l D ad cA _ _ _ _ _ _ _ _ _ _ h) (mkS S.2.2.2.2 ml_Re_55 k_Re_isIn rfl rfl ⟨Nat.le_of_ble_eq_true rfl, Nat.le_of_ble_eq_true rfl⟩) hK hP hl.1 rfl rfl (Nat.le_of_ble_eq_true rfl) d_Re_partsRelated_61 ⟨Nat.zero_le _, Nat.zero_le _⟩ (fun r61 h => ?_)
      refine lv_if_eq (tgt := 100) S.1 S.2.1 d_Re_partsRelated_64 (by decide) (fun hc => ?_) (fun hc => ?_)
      · have h := h.1 hc
        refine lv_iconst (v := (0 : Int32)) S.1 S.2.1 d_Re_partsRelated_100 rfl ?_
        exact ret_roz S hr hlk (by decide) h d_Re_partsRelated_101
      · have h := h.2 hc
        exact n_Re_partsRelated_reached_67 S hr hlk hK hP _ _ h (lv_sub hl [1, 2, 3, 4, 0] rfl)
  · have h := h.2 hc
    refine lv_iconst (v := (0 : Int32)) S.1 S.2.1 d_Re_partsRelated_19 rfl ?_
    exact ret_roz S hr hlk (by decide) h d_Re_partsRelated_20

set_option maxHeartbeats 4000000 in
set_option maxRecDepth 100000 in
theorem n_Re_liftFromParts_reached_14 {p : Program} {l : Launch} {e : Env} {s : State} {m : MethodId} {args : Array Value} {below : List Frame} {meth : Method} {c : Code} {D : va_G} {A : Nat → Prop} {ad : Nat → Nat} {cA : ClassId × ClassId × ClassId} {te : Te} {ru : Ru} {au : Au} {la : La} {sp : Sp} {le : Le} {x2 : Int32} {Q : Int32 → Re → Prop} (S : CallFix p m c b_Re_liftFromParts 6 s args gtbl R_Re) (hr : meth.sig.returnType = (some .boolean)) (hlk : meth.locks = false) (hK : gK D (tyA cA) s) (hA : ∀ q : Nat, s.heap.size ≤ q → A q) {k5 : Int32 → Int32 → Re → Prop} (hk5 : ∀ (ls : Array Slot) (H : Heap) (locs : List Loc) (x3 : Int32) (x4 : Int32) (re : Re), k5 x3 x4 re → lv_has ls 6 [(0, .ref (ad 18)), (1, .ref (ad 19)), (2, .int x2), (3, .int x3), (4, .int x4)] → gIn D A s (wC ad cA) (te, ru, au, re, la, sp, le) H locs → W p l e rm_Re_liftFromParts_reached s m args below meth c H locs 0 0 (qI D (tyA cA) A (wC ad cA) (fun u : Re => (te, ru, au, u, la, sp, le)) (fun (r : Int32) (u : Re) => Q r u) below args s) (F0 m 5 ls [])) : ∀ n : Nat, ∀ (ls : Array Slot) (H : Heap) (locs : List Loc) (x3 : Int32) (x4 : Int32) (x5 : Int32) (re : Re), p_Re_liftFromParts_reached_14 x2 te Q k5 n x3 x4 x5 re → lv_has ls 6 [(0, .ref (ad 18)), (1, .ref (ad 19)), (2, .int x2), (3, .int x3), (4, .int x4), (5, .int x5)] → gIn D A s (wC ad cA) (te, ru, au, re, la, sp, le) H locs → W p l e rm_Re_liftFromParts_reached s m args below meth c H locs 0 0 (qI D (tyA cA) A (wC ad cA) (fun u : Re => (te, ru, au, u, la, sp, le)) (fun (r : Int32) (u : Re) => Q r u) below args s) (F0 m 14 ls []) := by
  intro n
  induction n with
  | zero =>
    intro ls H locs x3 x4 x5 re h
    exact (show False from h).elim
  | succ n ih =>
    intro ls H locs x3 x4 x5 re h hl I
    refine lv_iload S.1 S.2.1 d_Re_liftFromParts_14 (lv_at hl 5 rfl) ?_
    refine lv_iload_n S.1 S.2.1 d_Re_liftFromParts_16 rfl (lv_at hl 2 rfl) ?_
    refine lv_icmp_ge (tgt := 62) S.1 S.2.1 d_Re_liftFromParts_17 (by decide) (fun hc => ?_) (fun hc => ?_)
    · have h := h.1 hc
      refine lv_iinc (k := 4) (v := x4 + (1 : Int32)) (lv' := [(4, .int (x4 + (1 : Int32))), (0, .ref (ad 18)), (1, .ref (ad 19)), (2, .int x2), (3, .int x3), (5, .int x5)]) S.1 S.2.1 d_Re_liftFromParts_62 hl rfl rfl (by decide) rfl (fun ls hl => ?_)
      refine lv_goto (tgt := 5) S.1 S.2.1 d_Re_liftFromParts_65 (by decide) ?_
      exact hk5 _ _ _ _ _ _ h (lv_sub hl [1, 2, 3, 4, 0] rfl) I
    · have h := h.2 hc
      refine lv_aload_n S.1 S.2.1 d_Re_liftFromParts_20 rfl (lv_at hl 1 rfl) ?_
      refine lv_iload S.1 S.2.1 d_Re_liftFromParts_21 (lv_at hl 4 rfl) ?_
      refine lv_iload S.1 S.2.1 d_Re_liftFromParts_23 (lv_at hl 5 rfl) ?_
      refine callS_roi S (c_Re_isIn_reached l D ad cA _ _ _ _ _ _ _ _ _ _ h) (mkS S.2.2.2.2 ml_Re_55 k_Re_isIn rfl rfl ⟨Nat.le_of_ble_eq_true rfl, Nat.le_of_ble_eq_true rfl⟩) hK I.1 hl.1 rfl rfl (Nat.le_of_ble_eq_true rfl) d_Re_liftFromParts_25 ⟨Nat.zero_le _, Nat.zero_le _⟩ (fun r25 h => ?_)
      refine lv_if_ne (tgt := 56) S.1 S.2.1 d_Re_liftFromParts_28 (by decide) (fun hc => ?_) (fun hc => ?_)
      · have h := h.1 hc
        refine lv_iinc (k := 5) (v := x5 + (1 : Int32)) (lv' := [(5, .int (x5 + (1 : Int32))), (0, .ref (ad 18)), (1, .ref (ad 19)), (2, .int x2), (3, .int x3), (4, .int x4)]) S.1 S.2.1 d_Re_liftFromParts_56 hl rfl rfl (by decide) rfl (fun ls hl => ?_)
        refine lv_goto (tgt := 14) S.1 S.2.1 d_Re_liftFromParts_59 (by decide) ?_
        exact ih _ _ _ _ _ _ _ h (lv_sub hl [1, 2, 3, 4, 5, 0] rfl) I
      · have h := h.2 hc
        refine lv_aload_n S.1 S.2.1 d_Re_liftFromParts_31 rfl (lv_at hl 0 rfl) ?_
        refine lv_aload_n S.1 S.2.1 d_Re_liftFromParts_32 rfl (lv_at hl 1 rfl) ?_
        refine lv_iload S.1 S.2.1 d_Re_liftFromParts_33 (lv_at hl 4 rfl) ?_
        refine lv_iload S.1 S.2.1 d_Re_liftFromParts_35 (lv_at hl 5 rfl) ?_
        refine callV_roi S (c_Re_partsRelated_reached l D ad cA _ _ _ _ _ _ _ _ _ _ h) (mkV S.2.2.2.2 ml_Re_88 k_Re_partsRelated rfl rfl ⟨Nat.le_of_ble_eq_true rfl, Nat.le_of_ble_eq_true rfl⟩) (rv_Re hK I.1) hK I.1 hl.1 rfl rfl (Nat.le_of_ble_eq_true rfl) d_Re_liftFromParts_37 ⟨Nat.zero_le _, Nat.zero_le _⟩ (fun r37 h => ?_)
        refine lv_if_eq (tgt := 56) S.1 S.2.1 d_Re_liftFromParts_40 (by decide) (fun hc => ?_) (fun hc => ?_)
        · have h := h.1 hc
          refine lv_iinc (k := 5) (v := x5 + (1 : Int32)) (lv' := [(5, .int (x5 + (1 : Int32))), (0, .ref (ad 18)), (1, .ref (ad 19)), (2, .int x2), (3, .int x3), (4, .int x4)]) S.1 S.2.1 d_Re_liftFromParts_56 hl rfl rfl (by decide) rfl (fun ls hl => ?_)
          refine lv_goto (tgt := 14) S.1 S.2.1 d_Re_liftFromParts_59 (by decide) ?_
          exact ih _ _ _ _ _ _ _ h (lv_sub hl [1, 2, 3, 4, 5, 0] rfl) I
        · have h := h.2 hc
          refine lv_aload_n S.1 S.2.1 d_Re_liftFromParts_43 rfl (lv_at hl 1 rfl) ?_
          refine lv_iload S.1 S.2.1 d_Re_liftFromParts_44 (lv_at hl 4 rfl) ?_
          refine lv_dup2_11 S.1 S.2.1 d_Re_liftFromParts_46 rfl rfl ?_
          obtain ⟨hin, h⟩ := h
          refine a_Re_reached S hK I.1 hin d_Re_liftFromParts_47 ?_
          refine lv_lconst (v := (1 : Int64)) S.1 S.2.1 d_Re_liftFromParts_48 rfl ?_
          refine lv_iload S.1 S.2.1 d_Re_liftFromParts_49 (lv_at hl 5 rfl) ?_
          refine lv_lshl S.1 S.2.1 d_Re_liftFromParts_51 rfl ?_
          refine lv_lor S.1 S.2.1 d_Re_liftFromParts_52 ?_
          obtain ⟨hin, h⟩ := h
          refine s_Re_reached S hK I hin d_Re_liftFromParts_53 (fun H locs re53 ere53 I => ?_)
          have h := h re53 ere53
          refine lv_iconst (v := (1 : Int32)) S.1 S.2.1 d_Re_liftFromParts_54 rfl ?_
          refine lv_istore_n (lv' := [(3, .int (1 : Int32)), (0, .ref (ad 18)), (1, .ref (ad 19)), (2, .int x2), (4, .int x4), (5, .int x5)]) S.1 S.2.1 d_Re_liftFromParts_55 rfl hl (by decide) rfl (fun ls hl => ?_)
          refine lv_iinc (k := 5) (v := x5 + (1 : Int32)) (lv' := [(5, .int (x5 + (1 : Int32))), (3, .int (1 : Int32)), (0, .ref (ad 18)), (1, .ref (ad 19)), (2, .int x2), (4, .int x4)]) S.1 S.2.1 d_Re_liftFromParts_56 hl rfl rfl (by decide) rfl (fun ls hl => ?_)
          refine lv_goto (tgt := 14) S.1 S.2.1 d_Re_liftFromParts_59 (by decide) ?_
          exact ih _ _ _ _ _ _ _ h (lv_sub hl [2, 3, 4, 1, 5, 0] rfl) I
set_option maxHeartbeats 4000000 in
set_option maxRecDepth 100000 in
theorem n_Re_liftFromParts_reached_5 {p : Program} {l : Launch} {e : Env} {s : State} {m : MethodId} {args : Array Value} {below : List Frame} {meth : Method} {c : Code} {D : va_G} {A : Nat → Prop} {ad : Nat → Nat} {cA : ClassId × ClassId × ClassId} {te : Te} {ru : Ru} {au : Au} {la : La} {sp : Sp} {le : Le} {x2 : Int32} {Q : Int32 → Re → Prop} (S : CallFix p m c b_Re_liftFromParts 6 s args gtbl R_Re) (hr : meth.sig.returnType = (some .boolean)) (hlk : meth.locks = false) (hK : gK D (tyA cA) s) (hA : ∀ q : Nat, s.heap.size ≤ q → A q) : ∀ n : Nat, ∀ (ls : Array Slot) (H : Heap) (locs : List Loc) (x3 : Int32) (x4 : Int32) (re : Re), p_Re_liftFromParts_reached_5 x2 te Q n x3 x4 re → lv_has ls 6 [(0, .ref (ad 18)), (1, .ref (ad 19)), (2, .int x2), (3, .int x3), (4, .int x4)] → gIn D A s (wC ad cA) (te, ru, au, re, la, sp, le) H locs → W p l e rm_Re_liftFromParts_reached s m args below meth c H locs 0 0 (qI D (tyA cA) A (wC ad cA) (fun u : Re => (te, ru, au, u, la, sp, le)) (fun (r : Int32) (u : Re) => Q r u) below args s) (F0 m 5 ls []) := by
  intro n
  induction n with
  | zero =>
    intro ls H locs x3 x4 re h
    exact (show False from h).elim
  | succ n ih =>
    intro ls H locs x3 x4 re h hl I
    refine lv_iload S.1 S.2.1 d_Re_liftFromParts_5 (lv_at hl 4 rfl) ?_
    refine lv_iload_n S.1 S.2.1 d_Re_liftFromParts_7 rfl (lv_at hl 2 rfl) ?_
    refine lv_icmp_ge (tgt := 68) S.1 S.2.1 d_Re_liftFromParts_8 (by decide) (fun hc => ?_) (fun hc => ?_)
    · have h := h.1 hc
      refine lv_iload_n S.1 S.2.1 d_Re_liftFromParts_68 rfl (lv_at hl 3 rfl) ?_
      obtain ⟨hz, h⟩ := h
      exact ret_rwz S hr hlk hK (isB_n hz) I h d_Re_liftFromParts_69
    · have h := h.2 hc
      refine lv_iconst (v := (0 : Int32)) S.1 S.2.1 d_Re_liftFromParts_11 rfl ?_
      refine lv_istore (lv' := [(5, .int (0 : Int32)), (0, .ref (ad 18)), (1, .ref (ad 19)), (2, .int x2), (3, .int x3), (4, .int x4)]) S.1 S.2.1 d_Re_liftFromParts_12 hl (by decide) rfl (fun ls hl => ?_)
      obtain ⟨n', h⟩ := h
      exact n_Re_liftFromParts_reached_14 S hr hlk hK hA ih n' _ _ _ _ _ _ _ h (lv_sub hl [1, 2, 3, 4, 5, 0] rfl) I
set_option maxHeartbeats 4000000 in
set_option maxRecDepth 100000 in
theorem c_Re_liftFromParts_reached (l : Launch) (D : va_G) (ad : Nat → Nat) (cA : ClassId × ClassId × ClassId) (te : Te) (ru : Ru) (au : Au) (re : Re) (la : La) (sp : Sp) (le : Le) (x2 : Int32) (Q : Int32 → Re → Prop) (h : p_Re_liftFromParts_reached x2 te re Q) : rwI l y_Re_liftFromParts (wsOf y_Re_liftFromParts b_Re_liftFromParts 6 (some .boolean)) rm_Re_liftFromParts_reached D (tyA cA) (wC ad cA) [.ref (ad 18), .ref (ad 19), .int x2] (te, ru, au, re, la, sp, le) (fun u : Re => (te, ru, au, u, la, sp, le)) (fun (r : Int32) (u : Re) => Q r u) := by
  refine rwI_of (by decide) (Nat.le_of_ble_eq_true rfl) ?_
  intro p e s m below meth c S hr hlk hK A hA I ls hl
  have hl : lv_has ls 6 [(0, .ref (ad 18)), (1, .ref (ad 19)), (2, .int x2)] := hl
  refine lv_iconst (v := (0 : Int32)) S.1 S.2.1 d_Re_liftFromParts_0 rfl ?_
  refine lv_istore_n (lv' := [(3, .int (0 : Int32)), (0, .ref (ad 18)), (1, .ref (ad 19)), (2, .int x2)]) S.1 S.2.1 d_Re_liftFromParts_1 rfl hl (by decide) rfl (fun ls hl => ?_)
  refine lv_iconst (v := (0 : Int32)) S.1 S.2.1 d_Re_liftFromParts_2 rfl ?_
  refine lv_istore (lv' := [(4, .int (0 : Int32)), (3, .int (0 : Int32)), (0, .ref (ad 18)), (1, .ref (ad 19)), (2, .int x2)]) S.1 S.2.1 d_Re_liftFromParts_3 hl (by decide) rfl (fun ls hl => ?_)
  obtain ⟨n', h⟩ := h
  exact n_Re_liftFromParts_reached_5 S hr hlk hK hA n' _ _ _ _ _ _ h (lv_sub hl [2, 3, 4, 1, 0] rfl) I

set_option maxHeartbeats 4000000 in
set_option maxRecDepth 100000 in
theorem n_Re_findReached_79 {p : Program} {l : Launch} {e : Env} {s : State} {m : MethodId} {args : Array Value} {below : List Frame} {meth : Method} {c : Code} {D : va_G} {A : Nat → Prop} {ad : Nat → Nat} {cA : ClassId × ClassId × ClassId} {te : Te} {ru : Ru} {au : Au} {la : La} {sp : Sp} {le : Le} {Q : Re → Prop} (S : CallFix p m c b_Re_findReached 4 s args gtbl R_Re) (hr : meth.sig.returnType = none) (hlk : meth.locks = false) (hK : gK D (tyA cA) s) (hA : ∀ q : Nat, s.heap.size ≤ q → A q) : ∀ n : Nat, ∀ (ls : Array Slot) (H : Heap) (locs : List Loc) (x1 : Int32) (x2 : Int32) (x3 : Int32) (re : Re), p_Re_findReached_79 te ru Q n x1 x2 x3 re → lv_has ls 4 [(0, .ref (ad 18)), (1, .int x1), (2, .int x2), (3, .int x3)] → gIn D A s (wC ad cA) (te, ru, au, re, la, sp, le) H locs → W p l e rm_Re_findReached s m args below meth c H locs 0 0 (qV D (tyA cA) A (wC ad cA) (fun u : Re => (te, ru, au, u, la, sp, le)) (fun u : Re => Q u) below args s) (F0 m 79 ls []) := by
  intro n
  induction n with
  | zero =>
    intro ls H locs x1 x2 x3 re h
    exact (show False from h).elim
  | succ n ih =>
    intro ls H locs x1 x2 x3 re h hl I
    refine lv_iload_n S.1 S.2.1 d_Re_findReached_79 rfl (lv_at hl 3 rfl) ?_
    refine lv_sipush (v := (2305 : Int32)) S.1 S.2.1 d_Re_findReached_80 rfl ?_
    refine lv_icmp_ge (tgt := 111) S.1 S.2.1 d_Re_findReached_83 (by decide) (fun hc => ?_) (fun hc => ?_)
    · have h := h.1 hc
      exact ret_rwv S hr hlk hK I h d_Re_findReached_111
    · have h := h.2 hc
      refine lv_iload_n S.1 S.2.1 d_Re_findReached_86 rfl (lv_at hl 2 rfl) ?_
      refine lv_if_eq (tgt := 111) S.1 S.2.1 d_Re_findReached_87 (by decide) (fun hc => ?_) (fun hc => ?_)
      · have h := h.1 hc
        exact ret_rwv S hr hlk hK I h d_Re_findReached_111
      · have h := h.2 hc
        refine lv_aload_n S.1 S.2.1 d_Re_findReached_90 rfl (lv_at hl 0 rfl) ?_
        refine lv_iload_n S.1 S.2.1 d_Re_findReached_91 rfl (lv_at hl 1 rfl) ?_
        refine callV_rwv S (c_Re_chain l D ad cA _ _ _ _ _ _ _ _ _ h) (mkV S.2.2.2.2 ml_Re_77 k_Re_chain rfl rfl ⟨Nat.le_of_ble_eq_true rfl, Nat.le_of_ble_eq_true rfl⟩) (rv_Re hK I.1) hK hA I hl.1 rfl rfl (Nat.le_of_ble_eq_true rfl) d_Re_findReached_92 ⟨Nat.zero_le _, Nat.zero_le _⟩ (fun re92 H locs h I => ?_)
        refine lv_aload_n S.1 S.2.1 d_Re_findReached_95 rfl (lv_at hl 0 rfl) ?_
        refine lv_aload_n S.1 S.2.1 d_Re_findReached_96 rfl (lv_at hl 0 rfl) ?_
        refine g_Re_reached S hK I.1 d_Re_findReached_97 ?_
        refine lv_iload_n S.1 S.2.1 d_Re_findReached_100 rfl (lv_at hl 1 rfl) ?_
        refine callV_rwi S (c_Re_liftFromParts_reached l D ad cA _ _ _ _ _ _ _ _ _ h) (mkV S.2.2.2.2 ml_Re_81 k_Re_liftFromParts rfl rfl ⟨Nat.le_of_ble_eq_true rfl, Nat.le_of_ble_eq_true rfl⟩) (rv_Re hK I.1) hK hA I hl.1 rfl rfl (Nat.le_of_ble_eq_true rfl) d_Re_findReached_101 ⟨Nat.zero_le _, Nat.zero_le _⟩ (fun r101 re101 H locs h I => ?_)
        refine lv_istore_n (lv' := [(2, .int r101), (0, .ref (ad 18)), (1, .int x1), (3, .int x3)]) S.1 S.2.1 d_Re_findReached_104 rfl hl (by decide) rfl (fun ls hl => ?_)
        refine lv_iinc (k := 3) (v := x3 + (1 : Int32)) (lv' := [(3, .int (x3 + (1 : Int32))), (2, .int r101), (0, .ref (ad 18)), (1, .int x1)]) S.1 S.2.1 d_Re_findReached_105 hl rfl rfl (by decide) rfl (fun ls hl => ?_)
        refine lv_goto (tgt := 79) S.1 S.2.1 d_Re_findReached_108 (by decide) ?_
        exact ih _ _ _ _ _ _ _ h (lv_sub hl [2, 3, 1, 0] rfl) I
set_option maxHeartbeats 4000000 in
set_option maxRecDepth 100000 in
theorem n_Re_findReached_32 {p : Program} {l : Launch} {e : Env} {s : State} {m : MethodId} {args : Array Value} {below : List Frame} {meth : Method} {c : Code} {D : va_G} {A : Nat → Prop} {ad : Nat → Nat} {cA : ClassId × ClassId × ClassId} {te : Te} {ru : Ru} {au : Au} {la : La} {sp : Sp} {le : Le} {Q : Re → Prop} (S : CallFix p m c b_Re_findReached 4 s args gtbl R_Re) (hr : meth.sig.returnType = none) (hlk : meth.locks = false) (hK : gK D (tyA cA) s) (hA : ∀ q : Nat, s.heap.size ≤ q → A q) : ∀ n : Nat, ∀ (ls : Array Slot) (H : Heap) (locs : List Loc) (x1 : Int32) (x2 : Int32) (re : Re), p_Re_findReached_32 te ru Q n x1 x2 re → lv_has ls 4 [(0, .ref (ad 18)), (1, .int x1), (2, .int x2)] → gIn D A s (wC ad cA) (te, ru, au, re, la, sp, le) H locs → W p l e rm_Re_findReached s m args below meth c H locs 0 0 (qV D (tyA cA) A (wC ad cA) (fun u : Re => (te, ru, au, u, la, sp, le)) (fun u : Re => Q u) below args s) (F0 m 32 ls []) := by
  intro n
  induction n with
  | zero =>
    intro ls H locs x1 x2 re h
    exact (show False from h).elim
  | succ n ih =>
    intro ls H locs x1 x2 re h hl I
    refine lv_iload_n S.1 S.2.1 d_Re_findReached_32 rfl (lv_at hl 2 rfl) ?_
    refine lv_aload_n S.1 S.2.1 d_Re_findReached_33 rfl (lv_at hl 0 rfl) ?_
    refine g_Re_rules S hK I.1 d_Re_findReached_34 ?_
    refine callV_roi S (c_Ru_count l D ad cA _ _ _ _ _ _ _ _ h) (mkV S.2.2.2.2 ml_Re_70 k_Ru_count rfl rfl ⟨Nat.le_of_ble_eq_true rfl, Nat.le_of_ble_eq_true rfl⟩) (rv_Ru hK I.1) hK I.1 hl.1 rfl rfl (Nat.le_of_ble_eq_true rfl) d_Re_findReached_37 ⟨Nat.zero_le _, Nat.zero_le _⟩ (fun r37 h => ?_)
    refine lv_icmp_ge (tgt := 75) S.1 S.2.1 d_Re_findReached_40 (by decide) (fun hc => ?_) (fun hc => ?_)
    · have h := h.1 hc
      refine lv_iconst (v := (1 : Int32)) S.1 S.2.1 d_Re_findReached_75 rfl ?_
      refine lv_istore_n (lv' := [(2, .int (1 : Int32)), (0, .ref (ad 18)), (1, .int x1)]) S.1 S.2.1 d_Re_findReached_76 rfl hl (by decide) rfl (fun ls hl => ?_)
      refine lv_iconst (v := (0 : Int32)) S.1 S.2.1 d_Re_findReached_77 rfl ?_
      refine lv_istore_n (lv' := [(3, .int (0 : Int32)), (2, .int (1 : Int32)), (0, .ref (ad 18)), (1, .int x1)]) S.1 S.2.1 d_Re_findReached_78 rfl hl (by decide) rfl (fun ls hl => ?_)
      obtain ⟨n', h⟩ := h
      exact n_Re_findReached_79 S hr hlk hK hA n' _ _ _ _ _ _ _ h (lv_sub hl [2, 3, 1, 0] rfl) I
    · have h := h.2 hc
      refine lv_aload_n S.1 S.2.1 d_Re_findReached_43 rfl (lv_at hl 0 rfl) ?_
      refine g_Re_reached S hK I.1 d_Re_findReached_44 ?_
      refine lv_aload_n S.1 S.2.1 d_Re_findReached_47 rfl (lv_at hl 0 rfl) ?_
      refine g_Re_rules S hK I.1 d_Re_findReached_48 ?_
      refine lv_iload_n S.1 S.2.1 d_Re_findReached_51 rfl (lv_at hl 2 rfl) ?_
      refine callV_roi S (c_Ru_leftOf l D ad cA _ _ _ _ _ _ _ _ _ h) (mkV S.2.2.2.2 ml_Re_71 k_Ru_leftOf rfl rfl ⟨Nat.le_of_ble_eq_true rfl, Nat.le_of_ble_eq_true rfl⟩) (rv_Ru hK I.1) hK I.1 hl.1 rfl rfl (Nat.le_of_ble_eq_true rfl) d_Re_findReached_52 ⟨Nat.zero_le _, Nat.zero_le _⟩ (fun r52 h => ?_)
      refine lv_dup2_11 S.1 S.2.1 d_Re_findReached_55 rfl rfl ?_
      obtain ⟨hin, h⟩ := h
      refine a_Re_reached S hK I.1 hin d_Re_findReached_56 ?_
      refine lv_lconst (v := (1 : Int64)) S.1 S.2.1 d_Re_findReached_57 rfl ?_
      refine lv_aload_n S.1 S.2.1 d_Re_findReached_58 rfl (lv_at hl 0 rfl) ?_
      refine g_Re_rules S hK I.1 d_Re_findReached_59 ?_
      refine lv_iload_n S.1 S.2.1 d_Re_findReached_62 rfl (lv_at hl 2 rfl) ?_
      refine callV_roi S (c_Ru_rightOf l D ad cA _ _ _ _ _ _ _ _ _ h) (mkV S.2.2.2.2 ml_Re_74 k_Ru_rightOf rfl rfl ⟨Nat.le_of_ble_eq_true rfl, Nat.le_of_ble_eq_true rfl⟩) (rv_Ru hK I.1) hK I.1 hl.1 rfl rfl (Nat.le_of_ble_eq_true rfl) d_Re_findReached_63 ⟨Nat.zero_le _, Nat.zero_le _⟩ (fun r63 h => ?_)
      refine lv_lshl S.1 S.2.1 d_Re_findReached_66 rfl ?_
      refine lv_lor S.1 S.2.1 d_Re_findReached_67 ?_
      obtain ⟨hin, h⟩ := h
      refine s_Re_reached S hK I hin d_Re_findReached_68 (fun H locs re68 ere68 I => ?_)
      have h := h re68 ere68
      refine lv_iinc (k := 2) (v := x2 + (1 : Int32)) (lv' := [(2, .int (x2 + (1 : Int32))), (0, .ref (ad 18)), (1, .int x1)]) S.1 S.2.1 d_Re_findReached_69 hl rfl rfl (by decide) rfl (fun ls hl => ?_)
      refine lv_goto (tgt := 32) S.1 S.2.1 d_Re_findReached_72 (by decide) ?_
      exact ih _ _ _ _ _ _ h (lv_sub hl [1, 2, 0] rfl) I
set_option maxHeartbeats 4000000 in
set_option maxRecDepth 100000 in
theorem n_Re_findReached_10 {p : Program} {l : Launch} {e : Env} {s : State} {m : MethodId} {args : Array Value} {below : List Frame} {meth : Method} {c : Code} {D : va_G} {A : Nat → Prop} {ad : Nat → Nat} {cA : ClassId × ClassId × ClassId} {te : Te} {ru : Ru} {au : Au} {la : La} {sp : Sp} {le : Le} {Q : Re → Prop} (S : CallFix p m c b_Re_findReached 4 s args gtbl R_Re) (hr : meth.sig.returnType = none) (hlk : meth.locks = false) (hK : gK D (tyA cA) s) (hA : ∀ q : Nat, s.heap.size ≤ q → A q) : ∀ n : Nat, ∀ (ls : Array Slot) (H : Heap) (locs : List Loc) (x1 : Int32) (x2 : Int32) (re : Re), p_Re_findReached_10 te ru Q n x1 x2 re → lv_has ls 4 [(0, .ref (ad 18)), (1, .int x1), (2, .int x2)] → gIn D A s (wC ad cA) (te, ru, au, re, la, sp, le) H locs → W p l e rm_Re_findReached s m args below meth c H locs 0 0 (qV D (tyA cA) A (wC ad cA) (fun u : Re => (te, ru, au, u, la, sp, le)) (fun u : Re => Q u) below args s) (F0 m 10 ls []) := by
  intro n
  induction n with
  | zero =>
    intro ls H locs x1 x2 re h
    exact (show False from h).elim
  | succ n ih =>
    intro ls H locs x1 x2 re h hl I
    refine lv_iload_n S.1 S.2.1 d_Re_findReached_10 rfl (lv_at hl 2 rfl) ?_
    refine lv_iload_n S.1 S.2.1 d_Re_findReached_11 rfl (lv_at hl 1 rfl) ?_
    refine lv_icmp_ge (tgt := 30) S.1 S.2.1 d_Re_findReached_12 (by decide) (fun hc => ?_) (fun hc => ?_)
    · have h := h.1 hc
      refine lv_iconst (v := (0 : Int32)) S.1 S.2.1 d_Re_findReached_30 rfl ?_
      refine lv_istore_n (lv' := [(2, .int (0 : Int32)), (0, .ref (ad 18)), (1, .int x1)]) S.1 S.2.1 d_Re_findReached_31 rfl hl (by decide) rfl (fun ls hl => ?_)
      obtain ⟨n', h⟩ := h
      exact n_Re_findReached_32 S hr hlk hK hA n' _ _ _ _ _ _ h (lv_sub hl [1, 2, 0] rfl) I
    · have h := h.2 hc
      refine lv_aload_n S.1 S.2.1 d_Re_findReached_15 rfl (lv_at hl 0 rfl) ?_
      refine g_Re_reached S hK I.1 d_Re_findReached_16 ?_
      refine lv_iload_n S.1 S.2.1 d_Re_findReached_19 rfl (lv_at hl 2 rfl) ?_
      refine lv_lconst (v := (1 : Int64)) S.1 S.2.1 d_Re_findReached_20 rfl ?_
      refine lv_iload_n S.1 S.2.1 d_Re_findReached_21 rfl (lv_at hl 2 rfl) ?_
      refine lv_lshl S.1 S.2.1 d_Re_findReached_22 rfl ?_
      obtain ⟨hin, h⟩ := h
      refine s_Re_reached S hK I hin d_Re_findReached_23 (fun H locs re23 ere23 I => ?_)
      have h := h re23 ere23
      refine lv_iinc (k := 2) (v := x2 + (1 : Int32)) (lv' := [(2, .int (x2 + (1 : Int32))), (0, .ref (ad 18)), (1, .int x1)]) S.1 S.2.1 d_Re_findReached_24 hl rfl rfl (by decide) rfl (fun ls hl => ?_)
      refine lv_goto (tgt := 10) S.1 S.2.1 d_Re_findReached_27 (by decide) ?_
      exact ih _ _ _ _ _ _ h (lv_sub hl [1, 2, 0] rfl) I
set_option maxHeartbeats 4000000 in
set_option maxRecDepth 100000 in
theorem c_Re_findReached (l : Launch) (D : va_G) (ad : Nat → Nat) (cA : ClassId × ClassId × ClassId) (te : Te) (ru : Ru) (au : Au) (re : Re) (la : La) (sp : Sp) (le : Le)  (Q : Re → Prop) (h : p_Re_findReached  te ru re Q) : rwV l y_Re_findReached (wsOf y_Re_findReached b_Re_findReached 4 none) rm_Re_findReached D (tyA cA) (wC ad cA) [.ref (ad 18)] (te, ru, au, re, la, sp, le) (fun u : Re => (te, ru, au, u, la, sp, le)) (fun u : Re => Q u) := by
  refine rwV_of (by decide) (Nat.le_of_ble_eq_true rfl) ?_
  intro p e s m below meth c S hr hlk hK A hA I ls hl
  have hl : lv_has ls 4 [(0, .ref (ad 18))] := hl
  refine lv_aload_n S.1 S.2.1 d_Re_findReached_0 rfl (lv_at hl 0 rfl) ?_
  refine g_Re_terms S hK I.1 d_Re_findReached_1 ?_
  refine callV_roi S (c_Te_count l D ad cA _ _ _ _ _ _ _ _ h) (mkV S.2.2.2.2 ml_Re_37 k_Te_count rfl rfl ⟨Nat.le_of_ble_eq_true rfl, Nat.le_of_ble_eq_true rfl⟩) (rv_Te hK I.1) hK I.1 hl.1 rfl rfl (Nat.le_of_ble_eq_true rfl) d_Re_findReached_4 ⟨Nat.zero_le _, Nat.zero_le _⟩ (fun r4 h => ?_)
  refine lv_istore_n (lv' := [(1, .int r4), (0, .ref (ad 18))]) S.1 S.2.1 d_Re_findReached_7 rfl hl (by decide) rfl (fun ls hl => ?_)
  refine lv_iconst (v := (0 : Int32)) S.1 S.2.1 d_Re_findReached_8 rfl ?_
  refine lv_istore_n (lv' := [(2, .int (0 : Int32)), (1, .int r4), (0, .ref (ad 18))]) S.1 S.2.1 d_Re_findReached_9 rfl hl (by decide) rfl (fun ls hl => ?_)
  obtain ⟨n', h⟩ := h
  exact n_Re_findReached_10 S hr hlk hK hA n' _ _ _ _ _ _ h (lv_sub hl [2, 1, 0] rfl) I
