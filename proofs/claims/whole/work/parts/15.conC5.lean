set_option maxHeartbeats 4000000 in
set_option maxRecDepth 100000 in
theorem n_Sp_rebuild_116 {p : Program} {l : Launch} {e : Env} {s : State} {m : MethodId} {args : Array Value} {below : List Frame} {meth : Method} {c : Code} {D : va_G} {A : Nat → Prop} {ad : Nat → Nat} {cA : ClassId × ClassId × ClassId} {ru : Ru} {au : Au} {re : Re} {la : La} {sp : Sp} {le : Le} {x1 : Int32} {x2 : Int32} {Q : Int32 → Te → Prop} (S : CallFix p m c b_Sp_rebuild 9 s args gtbl R_Sp) (hr : meth.sig.returnType = (some .int)) (hlk : meth.locks = false) (hK : gK D (tyA cA) s) (hA : ∀ q : Nat, s.heap.size ≤ q → A q) : ∀ (ls : Array Slot) (H : Heap) (locs : List Loc) (x3 : Int32) (x4 : Int32) (te : Te), p_Sp_rebuild_116 x1 x2 sp Q x3 x4 te → lv_has ls 9 [(0, .ref (ad 24)), (3, .int x3), (4, .int x4)] → gIn D A s (wC ad cA) (te, ru, au, re, la, sp, le) H locs → W p l e rm_Sp_rebuild s m args below meth c H locs 0 0 (qI D (tyA cA) A (wC ad cA) (fun u : Te => (u, ru, au, re, la, sp, le)) (fun (r : Int32) (u : Te) => Q r u) below args s) (F0 m 116 ls []) := by
  intro ls H locs x3 x4 te h hl I
  refine lv_iload S.1 S.2.1 d_Sp_rebuild_116 (lv_at hl 2 rfl) ?_
  refine lv_iconst (v := (-1 : Int32)) S.1 S.2.1 d_Sp_rebuild_118 rfl ?_
  refine lv_icmp_ne (tgt := 130) S.1 S.2.1 d_Sp_rebuild_119 (by decide) (fun hc => ?_) (fun hc => ?_)
  · have h := h.1 hc
    refine lv_iload S.1 S.2.1 d_Sp_rebuild_130 (lv_at hl 2 rfl) ?_
    exact ret_rwi S hr hlk hK I h d_Sp_rebuild_132
  · have h := h.2 hc
    refine lv_aload_n S.1 S.2.1 d_Sp_rebuild_122 rfl (lv_at hl 0 rfl) ?_
    refine g_Sp_terms S hK I.1 d_Sp_rebuild_123 ?_
    refine lv_iload_n S.1 S.2.1 d_Sp_rebuild_126 rfl (lv_at hl 1 rfl) ?_
    refine callV_rwv S (c_Te_keepFirst l D ad cA _ _ _ _ _ _ _ _ _ h) (mkV S.2.2.2.2 ml_Sp_78 k_Te_keepFirst rfl rfl ⟨Nat.le_of_ble_eq_true rfl, Nat.le_of_ble_eq_true rfl⟩) (rv_Te hK I.1) hK hA I hl.1 rfl rfl (Nat.le_of_ble_eq_true rfl) d_Sp_rebuild_127 ⟨Nat.zero_le _, Nat.zero_le _⟩ (fun te127 H locs h I => ?_)
    refine lv_iload S.1 S.2.1 d_Sp_rebuild_130 (lv_at hl 2 rfl) ?_
    exact ret_rwi S hr hlk hK I h d_Sp_rebuild_132
set_option maxHeartbeats 4000000 in
set_option maxRecDepth 100000 in
theorem n_Sp_rebuild_86 {p : Program} {l : Launch} {e : Env} {s : State} {m : MethodId} {args : Array Value} {below : List Frame} {meth : Method} {c : Code} {D : va_G} {A : Nat → Prop} {ad : Nat → Nat} {cA : ClassId × ClassId × ClassId} {ru : Ru} {au : Au} {re : Re} {la : La} {sp : Sp} {le : Le} {x1 : Int32} {x2 : Int32} {Q : Int32 → Te → Prop} (S : CallFix p m c b_Sp_rebuild 9 s args gtbl R_Sp) (hr : meth.sig.returnType = (some .int)) (hlk : meth.locks = false) (hK : gK D (tyA cA) s) (hA : ∀ q : Nat, s.heap.size ≤ q → A q) {k16 : Int32 → Int32 → Int32 → Te → Prop} (hk16 : ∀ (ls : Array Slot) (H : Heap) (locs : List Loc) (x3 : Int32) (x4 : Int32) (x5 : Int32) (te : Te), k16 x3 x4 x5 te → lv_has ls 9 [(0, .ref (ad 24)), (3, .int x3), (4, .int x4), (5, .int x5)] → gIn D A s (wC ad cA) (te, ru, au, re, la, sp, le) H locs → W p l e rm_Sp_rebuild s m args below meth c H locs 0 0 (qI D (tyA cA) A (wC ad cA) (fun u : Te => (u, ru, au, re, la, sp, le)) (fun (r : Int32) (u : Te) => Q r u) below args s) (F0 m 16 ls [])) : ∀ (ls : Array Slot) (H : Heap) (locs : List Loc) (x3 : Int32) (x5 : Int32) (x6 : Int32) (x7 : Int32) (y0 : Int32) (te : Te), p_Sp_rebuild_86 x1 x2 sp Q k16 x3 x5 x6 x7 y0 te → lv_has ls 9 [(0, .ref (ad 24)), (3, .int x3), (5, .int x5), (6, .int x6), (7, .int x7)] → gIn D A s (wC ad cA) (te, ru, au, re, la, sp, le) H locs → W p l e rm_Sp_rebuild s m args below meth c H locs 0 0 (qI D (tyA cA) A (wC ad cA) (fun u : Te => (u, ru, au, re, la, sp, le)) (fun (r : Int32) (u : Te) => Q r u) below args s) (F0 m 86 ls [.int y0]) := by
  intro ls H locs x3 x5 x6 x7 y0 te h hl I
  refine lv_istore (lv' := [(8, .int y0), (0, .ref (ad 24)), (3, .int x3), (5, .int x5), (6, .int x6), (7, .int x7)]) S.1 S.2.1 d_Sp_rebuild_86 hl (by decide) rfl (fun ls hl => ?_)
  refine lv_aload_n S.1 S.2.1 d_Sp_rebuild_88 rfl (lv_at hl 1 rfl) ?_
  refine g_Sp_terms S hK I.1 d_Sp_rebuild_89 ?_
  refine lv_aload_n S.1 S.2.1 d_Sp_rebuild_92 rfl (lv_at hl 1 rfl) ?_
  refine g_Sp_terms S hK I.1 d_Sp_rebuild_93 ?_
  refine lv_iload S.1 S.2.1 d_Sp_rebuild_96 (lv_at hl 4 rfl) ?_
  refine callV_roi S (c_Te_symbolOf l D ad cA _ _ _ _ _ _ _ _ _ h) (mkV S.2.2.2.2 ml_Sp_71 k_Te_symbolOf rfl rfl ⟨Nat.le_of_ble_eq_true rfl, Nat.le_of_ble_eq_true rfl⟩) (rv_Te hK I.1) hK I.1 hl.1 rfl rfl (Nat.le_of_ble_eq_true rfl) d_Sp_rebuild_98 ⟨Nat.zero_le _, Nat.zero_le _⟩ (fun r98 h => ?_)
  refine lv_iload S.1 S.2.1 d_Sp_rebuild_101 (lv_at hl 5 rfl) ?_
  refine lv_iload S.1 S.2.1 d_Sp_rebuild_103 (lv_at hl 0 rfl) ?_
  refine callV_rwi S (c_Te_findOrAppend l D ad cA _ _ _ _ _ _ _ _ _ _ _ h) (mkV S.2.2.2.2 ml_Sp_74 k_Te_findOrAppend rfl rfl ⟨Nat.le_of_ble_eq_true rfl, Nat.le_of_ble_eq_true rfl⟩) (rv_Te hK I.1) hK hA I hl.1 rfl rfl (Nat.le_of_ble_eq_true rfl) d_Sp_rebuild_105 ⟨Nat.zero_le _, Nat.zero_le _⟩ (fun r105 te105 H locs h I => ?_)
  refine lv_istore (lv' := [(4, .int r105), (8, .int y0), (0, .ref (ad 24)), (3, .int x3), (5, .int x5), (6, .int x6), (7, .int x7)]) S.1 S.2.1 d_Sp_rebuild_108 hl (by decide) rfl (fun ls hl => ?_)
  refine lv_iinc (k := 4) (v := x5 + (-1 : Int32)) (lv' := [(5, .int (x5 + (-1 : Int32))), (4, .int r105), (8, .int y0), (0, .ref (ad 24)), (3, .int x3), (6, .int x6), (7, .int x7)]) S.1 S.2.1 d_Sp_rebuild_110 hl rfl rfl (by decide) rfl (fun ls hl => ?_)
  refine lv_goto (tgt := 16) S.1 S.2.1 d_Sp_rebuild_113 (by decide) ?_
  exact hk16 _ _ _ _ _ _ _ h (lv_sub hl [3, 4, 1, 0] rfl) I
set_option maxHeartbeats 4000000 in
set_option maxRecDepth 100000 in
theorem n_Sp_rebuild_60 {p : Program} {l : Launch} {e : Env} {s : State} {m : MethodId} {args : Array Value} {below : List Frame} {meth : Method} {c : Code} {D : va_G} {A : Nat → Prop} {ad : Nat → Nat} {cA : ClassId × ClassId × ClassId} {ru : Ru} {au : Au} {re : Re} {la : La} {sp : Sp} {le : Le} {x1 : Int32} {x2 : Int32} {Q : Int32 → Te → Prop} (S : CallFix p m c b_Sp_rebuild 9 s args gtbl R_Sp) (hr : meth.sig.returnType = (some .int)) (hlk : meth.locks = false) (hK : gK D (tyA cA) s) (hA : ∀ q : Nat, s.heap.size ≤ q → A q) {k16 : Int32 → Int32 → Int32 → Te → Prop} (hk16 : ∀ (ls : Array Slot) (H : Heap) (locs : List Loc) (x3 : Int32) (x4 : Int32) (x5 : Int32) (te : Te), k16 x3 x4 x5 te → lv_has ls 9 [(0, .ref (ad 24)), (3, .int x3), (4, .int x4), (5, .int x5)] → gIn D A s (wC ad cA) (te, ru, au, re, la, sp, le) H locs → W p l e rm_Sp_rebuild s m args below meth c H locs 0 0 (qI D (tyA cA) A (wC ad cA) (fun u : Te => (u, ru, au, re, la, sp, le)) (fun (r : Int32) (u : Te) => Q r u) below args s) (F0 m 16 ls [])) : ∀ (ls : Array Slot) (H : Heap) (locs : List Loc) (x3 : Int32) (x4 : Int32) (x5 : Int32) (x6 : Int32) (y0 : Int32) (te : Te), p_Sp_rebuild_60 x1 x2 sp Q k16 x3 x4 x5 x6 y0 te → lv_has ls 9 [(0, .ref (ad 24)), (3, .int x3), (4, .int x4), (5, .int x5), (6, .int x6)] → gIn D A s (wC ad cA) (te, ru, au, re, la, sp, le) H locs → W p l e rm_Sp_rebuild s m args below meth c H locs 0 0 (qI D (tyA cA) A (wC ad cA) (fun u : Te => (u, ru, au, re, la, sp, le)) (fun (r : Int32) (u : Te) => Q r u) below args s) (F0 m 60 ls [.int y0]) := by
  intro ls H locs x3 x4 x5 x6 y0 te h hl I
  refine lv_istore (lv' := [(7, .int y0), (0, .ref (ad 24)), (3, .int x3), (4, .int x4), (5, .int x5), (6, .int x6)]) S.1 S.2.1 d_Sp_rebuild_60 hl (by decide) rfl (fun ls hl => ?_)
  refine lv_aload_n S.1 S.2.1 d_Sp_rebuild_62 rfl (lv_at hl 1 rfl) ?_
  refine g_Sp_wentFirst S hK I.1 d_Sp_rebuild_63 ?_
  refine lv_iload S.1 S.2.1 d_Sp_rebuild_66 (lv_at hl 4 rfl) ?_
  obtain ⟨hin, h⟩ := h
  refine a_Sp_wentFirst S hK I.1 hin d_Sp_rebuild_68 ?_
  refine lv_if_eq (tgt := 84) S.1 S.2.1 d_Sp_rebuild_69 (by decide) (fun hc => ?_) (fun hc => ?_)
  · have h := h.1 hc
    refine lv_iload S.1 S.2.1 d_Sp_rebuild_84 (lv_at hl 3 rfl) ?_
    exact n_Sp_rebuild_86 S hr hlk hK hA hk16 _ _ _ _ _ _ _ _ _ h (lv_sub hl [1, 2, 4, 5, 0] rfl) I
  · have h := h.2 hc
    refine lv_aload_n S.1 S.2.1 d_Sp_rebuild_72 rfl (lv_at hl 1 rfl) ?_
    refine g_Sp_terms S hK I.1 d_Sp_rebuild_73 ?_
    refine lv_iload S.1 S.2.1 d_Sp_rebuild_76 (lv_at hl 5 rfl) ?_
    refine callV_roi S (c_Te_secondOf l D ad cA _ _ _ _ _ _ _ _ _ h) (mkV S.2.2.2.2 ml_Sp_57 k_Te_secondOf rfl rfl ⟨Nat.le_of_ble_eq_true rfl, Nat.le_of_ble_eq_true rfl⟩) (rv_Te hK I.1) hK I.1 hl.1 rfl rfl (Nat.le_of_ble_eq_true rfl) d_Sp_rebuild_78 ⟨Nat.zero_le _, Nat.zero_le _⟩ (fun r78 h => ?_)
    refine lv_goto (tgt := 86) S.1 S.2.1 d_Sp_rebuild_81 (by decide) ?_
    exact n_Sp_rebuild_86 S hr hlk hK hA hk16 _ _ _ _ _ _ _ _ _ h (lv_sub hl [1, 2, 4, 5, 0] rfl) I
set_option maxHeartbeats 4000000 in
set_option maxRecDepth 100000 in
theorem n_Sp_rebuild_16 {p : Program} {l : Launch} {e : Env} {s : State} {m : MethodId} {args : Array Value} {below : List Frame} {meth : Method} {c : Code} {D : va_G} {A : Nat → Prop} {ad : Nat → Nat} {cA : ClassId × ClassId × ClassId} {ru : Ru} {au : Au} {re : Re} {la : La} {sp : Sp} {le : Le} {x1 : Int32} {x2 : Int32} {Q : Int32 → Te → Prop} (S : CallFix p m c b_Sp_rebuild 9 s args gtbl R_Sp) (hr : meth.sig.returnType = (some .int)) (hlk : meth.locks = false) (hK : gK D (tyA cA) s) (hA : ∀ q : Nat, s.heap.size ≤ q → A q) : ∀ n : Nat, ∀ (ls : Array Slot) (H : Heap) (locs : List Loc) (x3 : Int32) (x4 : Int32) (x5 : Int32) (te : Te), p_Sp_rebuild_16 x1 x2 sp Q n x3 x4 x5 te → lv_has ls 9 [(0, .ref (ad 24)), (3, .int x3), (4, .int x4), (5, .int x5)] → gIn D A s (wC ad cA) (te, ru, au, re, la, sp, le) H locs → W p l e rm_Sp_rebuild s m args below meth c H locs 0 0 (qI D (tyA cA) A (wC ad cA) (fun u : Te => (u, ru, au, re, la, sp, le)) (fun (r : Int32) (u : Te) => Q r u) below args s) (F0 m 16 ls []) := by
  intro n
  induction n with
  | zero =>
    intro ls H locs x3 x4 x5 te h
    exact (show False from h).elim
  | succ n ih =>
    intro ls H locs x3 x4 x5 te h hl I
    refine lv_iload S.1 S.2.1 d_Sp_rebuild_16 (lv_at hl 3 rfl) ?_
    refine lv_if_lt (tgt := 116) S.1 S.2.1 d_Sp_rebuild_18 (by decide) (fun hc => ?_) (fun hc => ?_)
    · have h := h.1 hc
      exact n_Sp_rebuild_116 S hr hlk hK hA _ _ _ _ _ _ h (lv_sub hl [0, 1, 2] rfl) I
    · have h := h.2 hc
      refine lv_iload S.1 S.2.1 d_Sp_rebuild_21 (lv_at hl 2 rfl) ?_
      refine lv_iconst (v := (-1 : Int32)) S.1 S.2.1 d_Sp_rebuild_23 rfl ?_
      refine lv_icmp_eq (tgt := 116) S.1 S.2.1 d_Sp_rebuild_24 (by decide) (fun hc => ?_) (fun hc => ?_)
      · have h := h.1 hc
        exact n_Sp_rebuild_116 S hr hlk hK hA _ _ _ _ _ _ h (lv_sub hl [0, 1, 2] rfl) I
      · have h := h.2 hc
        refine lv_aload_n S.1 S.2.1 d_Sp_rebuild_27 rfl (lv_at hl 0 rfl) ?_
        refine g_Sp_path S hK I.1 d_Sp_rebuild_28 ?_
        refine lv_iload S.1 S.2.1 d_Sp_rebuild_31 (lv_at hl 3 rfl) ?_
        obtain ⟨hin, h⟩ := h
        refine a_Sp_path S hK I.1 hin d_Sp_rebuild_33 ?_
        refine lv_istore (lv' := [(6, .int (Sp_path sp x5.toNatClampNeg)), (0, .ref (ad 24)), (3, .int x3), (4, .int x4), (5, .int x5)]) S.1 S.2.1 d_Sp_rebuild_34 hl (by decide) rfl (fun ls hl => ?_)
        refine lv_aload_n S.1 S.2.1 d_Sp_rebuild_36 rfl (lv_at hl 1 rfl) ?_
        refine g_Sp_wentFirst S hK I.1 d_Sp_rebuild_37 ?_
        refine lv_iload S.1 S.2.1 d_Sp_rebuild_40 (lv_at hl 4 rfl) ?_
        obtain ⟨hin, h⟩ := h
        refine a_Sp_wentFirst S hK I.1 hin d_Sp_rebuild_42 ?_
        refine lv_if_eq (tgt := 51) S.1 S.2.1 d_Sp_rebuild_43 (by decide) (fun hc => ?_) (fun hc => ?_)
        · have h := h.1 hc
          refine lv_aload_n S.1 S.2.1 d_Sp_rebuild_51 rfl (lv_at hl 1 rfl) ?_
          refine g_Sp_terms S hK I.1 d_Sp_rebuild_52 ?_
          refine lv_iload S.1 S.2.1 d_Sp_rebuild_55 (lv_at hl 0 rfl) ?_
          refine callV_roi S (c_Te_firstOf l D ad cA _ _ _ _ _ _ _ _ _ h) (mkV S.2.2.2.2 ml_Sp_48 k_Te_firstOf rfl rfl ⟨Nat.le_of_ble_eq_true rfl, Nat.le_of_ble_eq_true rfl⟩) (rv_Te hK I.1) hK I.1 hl.1 rfl rfl (Nat.le_of_ble_eq_true rfl) d_Sp_rebuild_57 ⟨Nat.zero_le _, Nat.zero_le _⟩ (fun r57 h => ?_)
          exact n_Sp_rebuild_60 S hr hlk hK hA ih _ _ _ _ _ _ _ _ _ h (lv_sub hl [1, 2, 3, 4, 0] rfl) I
        · have h := h.2 hc
          refine lv_iload S.1 S.2.1 d_Sp_rebuild_46 (lv_at hl 3 rfl) ?_
          refine lv_goto (tgt := 60) S.1 S.2.1 d_Sp_rebuild_48 (by decide) ?_
          exact n_Sp_rebuild_60 S hr hlk hK hA ih _ _ _ _ _ _ _ _ _ h (lv_sub hl [1, 2, 3, 4, 0] rfl) I
set_option maxHeartbeats 4000000 in
set_option maxRecDepth 100000 in
theorem c_Sp_rebuild (l : Launch) (D : va_G) (ad : Nat → Nat) (cA : ClassId × ClassId × ClassId) (te : Te) (ru : Ru) (au : Au) (re : Re) (la : La) (sp : Sp) (le : Le) (x1 : Int32) (x2 : Int32) (Q : Int32 → Te → Prop) (h : p_Sp_rebuild x1 x2 te sp Q) : rwI l y_Sp_rebuild (wsOf y_Sp_rebuild b_Sp_rebuild 9 (some .int)) rm_Sp_rebuild D (tyA cA) (wC ad cA) [.ref (ad 24), .int x1, .int x2] (te, ru, au, re, la, sp, le) (fun u : Te => (u, ru, au, re, la, sp, le)) (fun (r : Int32) (u : Te) => Q r u) := by
  refine rwI_of (by decide) (Nat.le_of_ble_eq_true rfl) ?_
  intro p e s m below meth c S hr hlk hK A hA I ls hl
  have hl : lv_has ls 9 [(0, .ref (ad 24)), (1, .int x1), (2, .int x2)] := hl
  refine lv_aload_n S.1 S.2.1 d_Sp_rebuild_0 rfl (lv_at hl 0 rfl) ?_
  refine g_Sp_terms S hK I.1 d_Sp_rebuild_1 ?_
  refine callV_roi S (c_Te_count l D ad cA _ _ _ _ _ _ _ _ h) (mkV S.2.2.2.2 ml_Sp_67 k_Te_count rfl rfl ⟨Nat.le_of_ble_eq_true rfl, Nat.le_of_ble_eq_true rfl⟩) (rv_Te hK I.1) hK I.1 hl.1 rfl rfl (Nat.le_of_ble_eq_true rfl) d_Sp_rebuild_4 ⟨Nat.zero_le _, Nat.zero_le _⟩ (fun r4 h => ?_)
  refine lv_istore_n (lv' := [(3, .int r4), (0, .ref (ad 24)), (1, .int x1), (2, .int x2)]) S.1 S.2.1 d_Sp_rebuild_7 rfl hl (by decide) rfl (fun ls hl => ?_)
  refine lv_iload_n S.1 S.2.1 d_Sp_rebuild_8 rfl (lv_at hl 3 rfl) ?_
  refine lv_istore (lv' := [(4, .int x2), (3, .int r4), (0, .ref (ad 24)), (1, .int x1), (2, .int x2)]) S.1 S.2.1 d_Sp_rebuild_9 hl (by decide) rfl (fun ls hl => ?_)
  refine lv_iload_n S.1 S.2.1 d_Sp_rebuild_11 rfl (lv_at hl 3 rfl) ?_
  refine lv_iconst (v := (1 : Int32)) S.1 S.2.1 d_Sp_rebuild_12 rfl ?_
  refine lv_isub S.1 S.2.1 d_Sp_rebuild_13 ?_
  refine lv_istore (lv' := [(5, .int (x1 - (1 : Int32))), (4, .int x2), (3, .int r4), (0, .ref (ad 24)), (1, .int x1), (2, .int x2)]) S.1 S.2.1 d_Sp_rebuild_14 hl (by decide) rfl (fun ls hl => ?_)
  obtain ⟨n', h⟩ := h
  exact n_Sp_rebuild_16 S hr hlk hK hA n' _ _ _ _ _ _ _ h (lv_sub hl [3, 2, 1, 0] rfl) I

set_option maxHeartbeats 4000000 in
set_option maxRecDepth 100000 in
theorem n_Sp_targetOf_151 {p : Program} {l : Launch} {e : Env} {s : State} {m : MethodId} {args : Array Value} {below : List Frame} {meth : Method} {c : Code} {D : va_G} {A : Nat → Prop} {ad : Nat → Nat} {cA : ClassId × ClassId × ClassId} {ru : Ru} {au : Au} {re : Re} {la : La} {le : Le} {x1 : Int32} {x2 : Int32} {Q : Int32 → Te → Sp → Prop} (S : CallFix p m c b_Sp_targetOf 8 s args gtbl R_Sp) (hr : meth.sig.returnType = (some .int)) (hlk : meth.locks = false) (hK : gK D (tyA cA) s) (hA : ∀ q : Nat, s.heap.size ≤ q → A q) : ∀ (ls : Array Slot) (H : Heap) (locs : List Loc) (x3 : Int32) (x4 : Int32) (x5 : Int64) (te : Te) (sp : Sp), p_Sp_targetOf_151 x1 x2 ru Q x3 x4 x5 te sp → lv_has ls 8 [(0, .ref (ad 24)), (3, .int x3), (4, .int x4), (5, .long x5)] → gIn D A s (wC ad cA) (te, ru, au, re, la, sp, le) H locs → W p l e rm_Sp_targetOf s m args below meth c H locs 0 0 (qI D (tyA cA) A (wC ad cA) (fun u : Te × Sp => (u.1, ru, au, re, la, u.2, le)) (fun (r : Int32) (u : Te × Sp) => Q r u.1 u.2) below args s) (F0 m 151 ls []) := by
  intro ls H locs x3 x4 x5 te sp h hl I
  refine lv_aload_n S.1 S.2.1 d_Sp_targetOf_151 rfl (lv_at hl 0 rfl) ?_
  refine lv_iload S.1 S.2.1 d_Sp_targetOf_152 (lv_at hl 2 rfl) ?_
  refine lv_aload_n S.1 S.2.1 d_Sp_targetOf_154 rfl (lv_at hl 0 rfl) ?_
  refine g_Sp_rules S hK I.1 d_Sp_targetOf_155 ?_
  refine lv_iload_n S.1 S.2.1 d_Sp_targetOf_158 rfl (lv_at hl 1 rfl) ?_
  refine lv_lload S.1 S.2.1 d_Sp_targetOf_159 (lv_at hl 3 rfl) ?_
  refine lv_l2i S.1 S.2.1 d_Sp_targetOf_161 rfl ?_
  refine callV_roi S (c_Ru_rightAt l D ad cA _ _ _ _ _ _ _ _ _ _ h) (mkV S.2.2.2.2 ml_Sp_60 k_Ru_rightAt rfl rfl ⟨Nat.le_of_ble_eq_true rfl, Nat.le_of_ble_eq_true rfl⟩) (rv_Ru hK I.1) hK I.1 hl.1 rfl rfl (Nat.le_of_ble_eq_true rfl) d_Sp_targetOf_162 ⟨Nat.zero_le _, Nat.zero_le _⟩ (fun r162 h => ?_)
  refine callV_rwi S (c_Sp_rebuild l D ad cA _ _ _ _ _ _ _ _ _ _ h) (mkV S.2.2.2.2 ml_Sp_64 k_Sp_rebuild rfl rfl ⟨Nat.le_of_ble_eq_true rfl, Nat.le_of_ble_eq_true rfl⟩) (rv_Sp hK I.1) hK hA I hl.1 rfl rfl (Nat.le_of_ble_eq_true rfl) d_Sp_targetOf_165 ⟨Nat.zero_le _, Nat.zero_le _⟩ (fun r165 te165 H locs h I => ?_)
  exact ret_rwi (u := (_, _)) S hr hlk hK I h d_Sp_targetOf_168
set_option maxHeartbeats 4000000 in
set_option maxRecDepth 100000 in
theorem n_Sp_targetOf_118 {p : Program} {l : Launch} {e : Env} {s : State} {m : MethodId} {args : Array Value} {below : List Frame} {meth : Method} {c : Code} {D : va_G} {A : Nat → Prop} {ad : Nat → Nat} {cA : ClassId × ClassId × ClassId} {ru : Ru} {au : Au} {re : Re} {la : La} {le : Le} {x1 : Int32} {x2 : Int32} {Q : Int32 → Te → Sp → Prop} (S : CallFix p m c b_Sp_targetOf 8 s args gtbl R_Sp) (hr : meth.sig.returnType = (some .int)) (hlk : meth.locks = false) (hK : gK D (tyA cA) s) (hA : ∀ q : Nat, s.heap.size ≤ q → A q) {k13 : Int32 → Int32 → Int64 → Te → Sp → Prop} (hk13 : ∀ (ls : Array Slot) (H : Heap) (locs : List Loc) (x3 : Int32) (x4 : Int32) (x5 : Int64) (te : Te) (sp : Sp), k13 x3 x4 x5 te sp → lv_has ls 8 [(0, .ref (ad 24)), (3, .int x3), (4, .int x4), (5, .long x5)] → gIn D A s (wC ad cA) (te, ru, au, re, la, sp, le) H locs → W p l e rm_Sp_targetOf s m args below meth c H locs 0 0 (qI D (tyA cA) A (wC ad cA) (fun u : Te × Sp => (u.1, ru, au, re, la, u.2, le)) (fun (r : Int32) (u : Te × Sp) => Q r u.1 u.2) below args s) (F0 m 13 ls [])) : ∀ (ls : Array Slot) (H : Heap) (locs : List Loc) (x3 : Int32) (x4 : Int32) (x7 : Int32) (y0 : Int64) (y1 : Int64) (te : Te) (sp : Sp), p_Sp_targetOf_118 x1 x2 ru Q k13 x3 x4 x7 y0 y1 te sp → lv_has ls 8 [(0, .ref (ad 24)), (3, .int x3), (4, .int x4), (7, .int x7)] → gIn D A s (wC ad cA) (te, ru, au, re, la, sp, le) H locs → W p l e rm_Sp_targetOf s m args below meth c H locs 0 0 (qI D (tyA cA) A (wC ad cA) (fun u : Te × Sp => (u.1, ru, au, re, la, u.2, le)) (fun (r : Int32) (u : Te × Sp) => Q r u.1 u.2) below args s) (F0 m 118 ls [.long y0, .long y1]) := by
  intro ls H locs x3 x4 x7 y0 y1 te sp h hl I
  refine lv_lsub S.1 S.2.1 d_Sp_targetOf_118 ?_
  refine lv_lstore (lv' := [(5, .long (y1 - y0)), (0, .ref (ad 24)), (3, .int x3), (4, .int x4), (7, .int x7)]) S.1 S.2.1 d_Sp_targetOf_119 hl (by decide) rfl (fun ls hl => ?_)
  refine lv_aload_n S.1 S.2.1 d_Sp_targetOf_121 rfl (lv_at hl 1 rfl) ?_
  refine g_Sp_wentFirst S hK I.1 d_Sp_targetOf_122 ?_
  refine lv_iload S.1 S.2.1 d_Sp_targetOf_125 (lv_at hl 3 rfl) ?_
  obtain ⟨hin, h⟩ := h
  refine a_Sp_wentFirst S hK I.1 hin d_Sp_targetOf_127 ?_
  refine lv_if_eq (tgt := 136) S.1 S.2.1 d_Sp_targetOf_128 (by decide) (fun hc => ?_) (fun hc => ?_)
  · have h := h.1 hc
    refine lv_aload_n S.1 S.2.1 d_Sp_targetOf_136 rfl (lv_at hl 1 rfl) ?_
    refine g_Sp_terms S hK I.1 d_Sp_targetOf_137 ?_
    refine lv_iload_n S.1 S.2.1 d_Sp_targetOf_140 rfl (lv_at hl 2 rfl) ?_
    refine callV_roi S (c_Te_secondOf l D ad cA _ _ _ _ _ _ _ _ _ h) (mkV S.2.2.2.2 ml_Sp_57 k_Te_secondOf rfl rfl ⟨Nat.le_of_ble_eq_true rfl, Nat.le_of_ble_eq_true rfl⟩) (rv_Te hK I.1) hK I.1 hl.1 rfl rfl (Nat.le_of_ble_eq_true rfl) d_Sp_targetOf_141 ⟨Nat.zero_le _, Nat.zero_le _⟩ (fun r141 h => ?_)
    refine lv_istore_n (lv' := [(3, .int r141), (5, .long (y1 - y0)), (0, .ref (ad 24)), (4, .int x4), (7, .int x7)]) S.1 S.2.1 d_Sp_targetOf_144 rfl hl (by decide) rfl (fun ls hl => ?_)
    refine lv_iinc (k := 3) (v := x4 + (1 : Int32)) (lv' := [(4, .int (x4 + (1 : Int32))), (3, .int r141), (5, .long (y1 - y0)), (0, .ref (ad 24)), (7, .int x7)]) S.1 S.2.1 d_Sp_targetOf_145 hl rfl rfl (by decide) rfl (fun ls hl => ?_)
    refine lv_goto (tgt := 13) S.1 S.2.1 d_Sp_targetOf_148 (by decide) ?_
    exact hk13 _ _ _ _ _ _ _ _ h (lv_sub hl [3, 1, 0, 2] rfl) I
  · have h := h.2 hc
    refine lv_iload S.1 S.2.1 d_Sp_targetOf_131 (lv_at hl 4 rfl) ?_
    refine lv_goto (tgt := 144) S.1 S.2.1 d_Sp_targetOf_133 (by decide) ?_
    refine lv_istore_n (lv' := [(3, .int x7), (5, .long (y1 - y0)), (0, .ref (ad 24)), (4, .int x4), (7, .int x7)]) S.1 S.2.1 d_Sp_targetOf_144 rfl hl (by decide) rfl (fun ls hl => ?_)
    refine lv_iinc (k := 3) (v := x4 + (1 : Int32)) (lv' := [(4, .int (x4 + (1 : Int32))), (3, .int x7), (5, .long (y1 - y0)), (0, .ref (ad 24)), (7, .int x7)]) S.1 S.2.1 d_Sp_targetOf_145 hl rfl rfl (by decide) rfl (fun ls hl => ?_)
    refine lv_goto (tgt := 13) S.1 S.2.1 d_Sp_targetOf_148 (by decide) ?_
    exact hk13 _ _ _ _ _ _ _ _ h (lv_sub hl [3, 1, 0, 2] rfl) I
set_option maxHeartbeats 4000000 in
set_option maxRecDepth 100000 in
theorem n_Sp_targetOf_95 {p : Program} {l : Launch} {e : Env} {s : State} {m : MethodId} {args : Array Value} {below : List Frame} {meth : Method} {c : Code} {D : va_G} {A : Nat → Prop} {ad : Nat → Nat} {cA : ClassId × ClassId × ClassId} {ru : Ru} {au : Au} {re : Re} {la : La} {le : Le} {x1 : Int32} {x2 : Int32} {Q : Int32 → Te → Sp → Prop} (S : CallFix p m c b_Sp_targetOf 8 s args gtbl R_Sp) (hr : meth.sig.returnType = (some .int)) (hlk : meth.locks = false) (hK : gK D (tyA cA) s) (hA : ∀ q : Nat, s.heap.size ≤ q → A q) {k13 : Int32 → Int32 → Int64 → Te → Sp → Prop} (hk13 : ∀ (ls : Array Slot) (H : Heap) (locs : List Loc) (x3 : Int32) (x4 : Int32) (x5 : Int64) (te : Te) (sp : Sp), k13 x3 x4 x5 te sp → lv_has ls 8 [(0, .ref (ad 24)), (3, .int x3), (4, .int x4), (5, .long x5)] → gIn D A s (wC ad cA) (te, ru, au, re, la, sp, le) H locs → W p l e rm_Sp_targetOf s m args below meth c H locs 0 0 (qI D (tyA cA) A (wC ad cA) (fun u : Te × Sp => (u.1, ru, au, re, la, u.2, le)) (fun (r : Int32) (u : Te × Sp) => Q r u.1 u.2) below args s) (F0 m 13 ls [])) : ∀ (ls : Array Slot) (H : Heap) (locs : List Loc) (x3 : Int32) (x4 : Int32) (x5 : Int64) (x7 : Int32) (y0 : Int32) (y1 : Int32) (te : Te) (sp : Sp), p_Sp_targetOf_95 x1 x2 ru Q k13 x3 x4 x5 x7 y0 y1 te sp → lv_has ls 8 [(0, .ref (ad 24)), (3, .int x3), (4, .int x4), (5, .long x5), (7, .int x7)] → gIn D A s (wC ad cA) (te, ru, au, re, la, sp, le) H locs → W p l e rm_Sp_targetOf s m args below meth c H locs 0 0 (qI D (tyA cA) A (wC ad cA) (fun u : Te × Sp => (u.1, ru, au, re, la, u.2, le)) (fun (r : Int32) (u : Te × Sp) => Q r u.1 u.2) below args s) (F0 m 95 ls [.int y0, .int y1, .ref (ad 27)]) := by
  intro ls H locs x3 x4 x5 x7 y0 y1 te sp h hl I
  obtain ⟨hin, h⟩ := h
  refine s_Sp_wentFirst S hK I hin d_Sp_targetOf_95 (fun H locs sp95 esp95 I => ?_)
  have h := h sp95 esp95
  refine lv_lload S.1 S.2.1 d_Sp_targetOf_96 (lv_at hl 3 rfl) ?_
  refine lv_aload_n S.1 S.2.1 d_Sp_targetOf_98 rfl (lv_at hl 0 rfl) ?_
  refine g_Sp_wentFirst S hK I.1 d_Sp_targetOf_99 ?_
  refine lv_iload S.1 S.2.1 d_Sp_targetOf_102 (lv_at hl 2 rfl) ?_
  obtain ⟨hin, h⟩ := h
  refine a_Sp_wentFirst S hK I.1 hin d_Sp_targetOf_104 ?_
  refine lv_if_eq (tgt := 112) S.1 S.2.1 d_Sp_targetOf_105 (by decide) (fun hc => ?_) (fun hc => ?_)
  · have h := h.1 hc
    refine lv_aload_n S.1 S.2.1 d_Sp_targetOf_112 rfl (lv_at hl 0 rfl) ?_
    refine lv_iload S.1 S.2.1 d_Sp_targetOf_113 (lv_at hl 4 rfl) ?_
    refine callV_rol S (c_Sp_countIn l D ad cA _ _ _ _ _ _ _ _ _ h) (mkV S.2.2.2.2 ml_Sp_53 k_Sp_countIn rfl rfl ⟨Nat.le_of_ble_eq_true rfl, Nat.le_of_ble_eq_true rfl⟩) (rv_Sp hK I.1) hK I.1 hl.1 rfl rfl (Nat.le_of_ble_eq_true rfl) d_Sp_targetOf_115 ⟨Nat.zero_le _, Nat.zero_le _⟩ (fun r115 h => ?_)
    exact n_Sp_targetOf_118 S hr hlk hK hA hk13 _ _ _ _ _ _ _ _ _ _ h (lv_sub hl [0, 1, 2, 4] rfl) I
  · have h := h.2 hc
    refine lv_lconst (v := (0 : Int64)) S.1 S.2.1 d_Sp_targetOf_108 rfl ?_
    refine lv_goto (tgt := 118) S.1 S.2.1 d_Sp_targetOf_109 (by decide) ?_
    exact n_Sp_targetOf_118 S hr hlk hK hA hk13 _ _ _ _ _ _ _ _ _ _ h (lv_sub hl [0, 1, 2, 4] rfl) I
set_option maxHeartbeats 4000000 in
set_option maxRecDepth 100000 in
theorem n_Sp_targetOf_13 {p : Program} {l : Launch} {e : Env} {s : State} {m : MethodId} {args : Array Value} {below : List Frame} {meth : Method} {c : Code} {D : va_G} {A : Nat → Prop} {ad : Nat → Nat} {cA : ClassId × ClassId × ClassId} {ru : Ru} {au : Au} {re : Re} {la : La} {le : Le} {x1 : Int32} {x2 : Int32} {Q : Int32 → Te → Sp → Prop} (S : CallFix p m c b_Sp_targetOf 8 s args gtbl R_Sp) (hr : meth.sig.returnType = (some .int)) (hlk : meth.locks = false) (hK : gK D (tyA cA) s) (hA : ∀ q : Nat, s.heap.size ≤ q → A q) : ∀ n : Nat, ∀ (ls : Array Slot) (H : Heap) (locs : List Loc) (x3 : Int32) (x4 : Int32) (x5 : Int64) (te : Te) (sp : Sp), p_Sp_targetOf_13 x1 x2 ru Q n x3 x4 x5 te sp → lv_has ls 8 [(0, .ref (ad 24)), (3, .int x3), (4, .int x4), (5, .long x5)] → gIn D A s (wC ad cA) (te, ru, au, re, la, sp, le) H locs → W p l e rm_Sp_targetOf s m args below meth c H locs 0 0 (qI D (tyA cA) A (wC ad cA) (fun u : Te × Sp => (u.1, ru, au, re, la, u.2, le)) (fun (r : Int32) (u : Te × Sp) => Q r u.1 u.2) below args s) (F0 m 13 ls []) := by
  intro n
  induction n with
  | zero =>
    intro ls H locs x3 x4 x5 te sp h
    exact (show False from h).elim
  | succ n ih =>
    intro ls H locs x3 x4 x5 te sp h hl I
    refine lv_iload S.1 S.2.1 d_Sp_targetOf_13 (lv_at hl 2 rfl) ?_
    refine lv_bipush (v := (48 : Int32)) S.1 S.2.1 d_Sp_targetOf_15 rfl ?_
    refine lv_icmp_ge (tgt := 151) S.1 S.2.1 d_Sp_targetOf_17 (by decide) (fun hc => ?_) (fun hc => ?_)
    · have h := h.1 hc
      exact n_Sp_targetOf_151 S hr hlk hK hA _ _ _ _ _ _ _ _ h (lv_sub hl [0, 1, 2, 3] rfl) I
    · have h := h.2 hc
      refine lv_iload_n S.1 S.2.1 d_Sp_targetOf_20 rfl (lv_at hl 1 rfl) ?_
      refine lv_iconst (v := (-1 : Int32)) S.1 S.2.1 d_Sp_targetOf_21 rfl ?_
      refine lv_icmp_eq (tgt := 151) S.1 S.2.1 d_Sp_targetOf_22 (by decide) (fun hc => ?_) (fun hc => ?_)
      · have h := h.1 hc
        exact n_Sp_targetOf_151 S hr hlk hK hA _ _ _ _ _ _ _ _ h (lv_sub hl [0, 1, 2, 3] rfl) I
      · have h := h.2 hc
        refine lv_lload S.1 S.2.1 d_Sp_targetOf_25 (lv_at hl 3 rfl) ?_
        refine lv_aload_n S.1 S.2.1 d_Sp_targetOf_27 rfl (lv_at hl 0 rfl) ?_
        refine g_Sp_rules S hK I.1 d_Sp_targetOf_28 ?_
        refine lv_iload_n S.1 S.2.1 d_Sp_targetOf_31 rfl (lv_at hl 1 rfl) ?_
        refine callV_roi S (c_Ru_countAt l D ad cA _ _ _ _ _ _ _ _ _ h) (mkV S.2.2.2.2 ml_Sp_42 k_Ru_countAt rfl rfl ⟨Nat.le_of_ble_eq_true rfl, Nat.le_of_ble_eq_true rfl⟩) (rv_Ru hK I.1) hK I.1 hl.1 rfl rfl (Nat.le_of_ble_eq_true rfl) d_Sp_targetOf_32 ⟨Nat.zero_le _, Nat.zero_le _⟩ (fun r32 h => ?_)
        refine lv_i2l S.1 S.2.1 d_Sp_targetOf_35 rfl ?_
        refine W.lcmp S.1 S.2.1 d_Sp_targetOf_36 ?_
        refine lv_if_lt (tgt := 151) S.1 S.2.1 d_Sp_targetOf_37 (by decide) (fun hc => ?_) (fun hc => ?_)
        · have h := h.1 hc
          exact n_Sp_targetOf_151 S hr hlk hK hA _ _ _ _ _ _ _ _ h (lv_sub hl [0, 1, 2, 3] rfl) I
        · have h := h.2 hc
          refine lv_lload S.1 S.2.1 d_Sp_targetOf_40 (lv_at hl 3 rfl) ?_
          refine lv_aload_n S.1 S.2.1 d_Sp_targetOf_42 rfl (lv_at hl 0 rfl) ?_
          refine g_Sp_rules S hK I.1 d_Sp_targetOf_43 ?_
          refine lv_iload_n S.1 S.2.1 d_Sp_targetOf_46 rfl (lv_at hl 1 rfl) ?_
          refine callV_roi S (c_Ru_countAt l D ad cA _ _ _ _ _ _ _ _ _ h) (mkV S.2.2.2.2 ml_Sp_42 k_Ru_countAt rfl rfl ⟨Nat.le_of_ble_eq_true rfl, Nat.le_of_ble_eq_true rfl⟩) (rv_Ru hK I.1) hK I.1 hl.1 rfl rfl (Nat.le_of_ble_eq_true rfl) d_Sp_targetOf_47 ⟨Nat.zero_le _, Nat.zero_le _⟩ (fun r47 h => ?_)
          refine lv_i2l S.1 S.2.1 d_Sp_targetOf_50 rfl ?_
          refine lv_lsub S.1 S.2.1 d_Sp_targetOf_51 ?_
          refine lv_lstore (lv' := [(5, .long (x5 - r47.toInt64)), (0, .ref (ad 24)), (3, .int x3), (4, .int x4)]) S.1 S.2.1 d_Sp_targetOf_52 hl (by decide) rfl (fun ls hl => ?_)
          refine lv_aload_n S.1 S.2.1 d_Sp_targetOf_54 rfl (lv_at hl 1 rfl) ?_
          refine g_Sp_terms S hK I.1 d_Sp_targetOf_55 ?_
          refine lv_iload_n S.1 S.2.1 d_Sp_targetOf_58 rfl (lv_at hl 2 rfl) ?_
          refine callV_roi S (c_Te_firstOf l D ad cA _ _ _ _ _ _ _ _ _ h) (mkV S.2.2.2.2 ml_Sp_48 k_Te_firstOf rfl rfl ⟨Nat.le_of_ble_eq_true rfl, Nat.le_of_ble_eq_true rfl⟩) (rv_Te hK I.1) hK I.1 hl.1 rfl rfl (Nat.le_of_ble_eq_true rfl) d_Sp_targetOf_59 ⟨Nat.zero_le _, Nat.zero_le _⟩ (fun r59 h => ?_)
          refine lv_istore (lv' := [(7, .int r59), (5, .long (x5 - r47.toInt64)), (0, .ref (ad 24)), (3, .int x3), (4, .int x4)]) S.1 S.2.1 d_Sp_targetOf_62 hl (by decide) rfl (fun ls hl => ?_)
          refine lv_aload_n S.1 S.2.1 d_Sp_targetOf_64 rfl (lv_at hl 2 rfl) ?_
          refine g_Sp_path S hK I.1 d_Sp_targetOf_65 ?_
          refine lv_iload S.1 S.2.1 d_Sp_targetOf_68 (lv_at hl 4 rfl) ?_
          refine lv_iload_n S.1 S.2.1 d_Sp_targetOf_70 rfl (lv_at hl 3 rfl) ?_
          obtain ⟨hin, h⟩ := h
          refine s_Sp_path S hK I hin d_Sp_targetOf_71 (fun H locs sp71 esp71 I => ?_)
          have h := h sp71 esp71
          refine lv_aload_n S.1 S.2.1 d_Sp_targetOf_72 rfl (lv_at hl 2 rfl) ?_
          refine g_Sp_wentFirst S hK I.1 d_Sp_targetOf_73 ?_
          refine lv_iload S.1 S.2.1 d_Sp_targetOf_76 (lv_at hl 4 rfl) ?_
          refine lv_lload S.1 S.2.1 d_Sp_targetOf_78 (lv_at hl 1 rfl) ?_
          refine lv_aload_n S.1 S.2.1 d_Sp_targetOf_80 rfl (lv_at hl 2 rfl) ?_
          refine lv_iload S.1 S.2.1 d_Sp_targetOf_81 (lv_at hl 0 rfl) ?_
          refine callV_rol S (c_Sp_countIn l D ad cA _ _ _ _ _ _ _ _ _ h) (mkV S.2.2.2.2 ml_Sp_53 k_Sp_countIn rfl rfl ⟨Nat.le_of_ble_eq_true rfl, Nat.le_of_ble_eq_true rfl⟩) (rv_Sp hK I.1) hK I.1 hl.1 rfl rfl (Nat.le_of_ble_eq_true rfl) d_Sp_targetOf_83 ⟨Nat.zero_le _, Nat.zero_le _⟩ (fun r83 h => ?_)
          refine W.lcmp S.1 S.2.1 d_Sp_targetOf_86 ?_
          refine lv_if_ge (tgt := 94) S.1 S.2.1 d_Sp_targetOf_87 (by decide) (fun hc => ?_) (fun hc => ?_)
          · have h := h.1 hc
            refine lv_iconst (v := (0 : Int32)) S.1 S.2.1 d_Sp_targetOf_94 rfl ?_
            exact n_Sp_targetOf_95 S hr hlk hK hA ih _ _ _ _ _ _ _ _ _ _ _ h (lv_sub hl [2, 3, 4, 1, 0] rfl) I
          · have h := h.2 hc
            refine lv_iconst (v := (1 : Int32)) S.1 S.2.1 d_Sp_targetOf_90 rfl ?_
            refine lv_goto (tgt := 95) S.1 S.2.1 d_Sp_targetOf_91 (by decide) ?_
            exact n_Sp_targetOf_95 S hr hlk hK hA ih _ _ _ _ _ _ _ _ _ _ _ h (lv_sub hl [2, 3, 4, 1, 0] rfl) I
set_option maxHeartbeats 4000000 in
set_option maxRecDepth 100000 in
theorem c_Sp_targetOf (l : Launch) (D : va_G) (ad : Nat → Nat) (cA : ClassId × ClassId × ClassId) (te : Te) (ru : Ru) (au : Au) (re : Re) (la : La) (sp : Sp) (le : Le) (x1 : Int32) (x2 : Int32) (Q : Int32 → Te → Sp → Prop) (h : p_Sp_targetOf x1 x2 te ru sp Q) : rwI l y_Sp_targetOf (wsOf y_Sp_targetOf b_Sp_targetOf 8 (some .int)) rm_Sp_targetOf D (tyA cA) (wC ad cA) [.ref (ad 24), .int x1, .int x2] (te, ru, au, re, la, sp, le) (fun u : Te × Sp => (u.1, ru, au, re, la, u.2, le)) (fun (r : Int32) (u : Te × Sp) => Q r u.1 u.2) := by
  refine rwI_of (by decide) (Nat.le_of_ble_eq_true rfl) ?_
  intro p e s m below meth c S hr hlk hK A hA I ls hl
  have hl : lv_has ls 8 [(0, .ref (ad 24)), (1, .int x1), (2, .int x2)] := hl
  refine lv_aload_n S.1 S.2.1 d_Sp_targetOf_0 rfl (lv_at hl 0 rfl) ?_
  refine callV_rwv S (c_Sp_countAll l D ad cA _ _ _ _ _ _ _ _ h) (mkV S.2.2.2.2 ml_Sp_31 k_Sp_countAll rfl rfl ⟨Nat.le_of_ble_eq_true rfl, Nat.le_of_ble_eq_true rfl⟩) (rv_Sp hK I.1) hK hA I hl.1 rfl rfl (Nat.le_of_ble_eq_true rfl) d_Sp_targetOf_1 ⟨Nat.zero_le _, Nat.zero_le _⟩ (fun sp1 H locs h I => ?_)
  refine lv_iload_n S.1 S.2.1 d_Sp_targetOf_4 rfl (lv_at hl 1 rfl) ?_
  refine lv_istore_n (lv' := [(3, .int x1), (0, .ref (ad 24)), (1, .int x1), (2, .int x2)]) S.1 S.2.1 d_Sp_targetOf_5 rfl hl (by decide) rfl (fun ls hl => ?_)
  refine lv_iconst (v := (0 : Int32)) S.1 S.2.1 d_Sp_targetOf_6 rfl ?_
  refine lv_istore (lv' := [(4, .int (0 : Int32)), (3, .int x1), (0, .ref (ad 24)), (1, .int x1), (2, .int x2)]) S.1 S.2.1 d_Sp_targetOf_7 hl (by decide) rfl (fun ls hl => ?_)
  refine lv_iload_n S.1 S.2.1 d_Sp_targetOf_9 rfl (lv_at hl 4 rfl) ?_
  refine lv_i2l S.1 S.2.1 d_Sp_targetOf_10 rfl ?_
  refine lv_lstore (lv' := [(5, .long x2.toInt64), (4, .int (0 : Int32)), (3, .int x1), (0, .ref (ad 24)), (1, .int x1), (2, .int x2)]) S.1 S.2.1 d_Sp_targetOf_11 hl (by decide) rfl (fun ls hl => ?_)
  obtain ⟨n', h⟩ := h
  exact n_Sp_targetOf_13 S hr hlk hK hA n' _ _ _ _ _ _ _ _ h (lv_sub hl [3, 2, 1, 0] rfl) I

set_option maxHeartbeats 4000000 in
set_option maxRecDepth 100000 in
theorem n_Ar_fillJ_after_6 {p : Program} {l : Launch} {e : Env} {s : State} {m : MethodId} {args : Array Value} {below : List Frame} {meth : Method} {c : Code} {D : va_G} {A : Nat → Prop} {ad : Nat → Nat} {cA : ClassId × ClassId × ClassId} {te : Te} {ru : Ru} {au : Au} {re : Re} {la : La} {sp : Sp} {x1 : Int64} {Q : Le → Prop} (S : CallFix p m c b_Ar_fillJ 5 s args gtbl R_Ar) (hr : meth.sig.returnType = none) (hlk : meth.locks = false) (hK : gK D (tyA cA) s) (hA : ∀ q : Nat, s.heap.size ≤ q → A q) : ∀ n : Nat, ∀ (ls : Array Slot) (H : Heap) (locs : List Loc) (x3 : Int32) (x4 : Int32) (le : Le), p_Ar_fillJ_after_6 x1 Q n x3 x4 le → lv_has ls 5 [(0, .ref (ad 29)), (1, .long x1), (3, .int x3), (4, .int x4)] → gIn D A s (wC ad cA) (te, ru, au, re, la, sp, le) H locs → W p l e rm_Ar_fillJ_after s m args below meth c H locs 0 0 (qV D (tyA cA) A (wC ad cA) (fun u : Le => (te, ru, au, re, la, sp, u)) (fun u : Le => Q u) below args s) (F0 m 6 ls []) := by
  intro n
  induction n with
  | zero =>
    intro ls H locs x3 x4 le h
    exact (show False from h).elim
  | succ n ih =>
    intro ls H locs x3 x4 le h hl I
    refine lv_iload_n S.1 S.2.1 d_Ar_fillJ_6 rfl (lv_at hl 2 rfl) ?_
    refine lv_iload S.1 S.2.1 d_Ar_fillJ_7 (lv_at hl 3 rfl) ?_
    refine lv_icmp_ge (tgt := 22) S.1 S.2.1 d_Ar_fillJ_9 (by decide) (fun hc => ?_) (fun hc => ?_)
    · have h := h.1 hc
      exact ret_rwv S hr hlk hK I h d_Ar_fillJ_22
    · have h := h.2 hc
      refine lv_aload_n S.1 S.2.1 d_Ar_fillJ_12 rfl (lv_at hl 0 rfl) ?_
      refine lv_iload_n S.1 S.2.1 d_Ar_fillJ_13 rfl (lv_at hl 2 rfl) ?_
      refine lv_lload_n S.1 S.2.1 d_Ar_fillJ_14 rfl (lv_at hl 1 rfl) ?_
      obtain ⟨hin, h⟩ := h
      refine s_Le_after S hK I hin d_Ar_fillJ_15 (fun H locs le15 ele15 I => ?_)
      have h := h le15 ele15
      refine lv_iinc (k := 2) (v := x3 + (1 : Int32)) (lv' := [(3, .int (x3 + (1 : Int32))), (0, .ref (ad 29)), (1, .long x1), (4, .int x4)]) S.1 S.2.1 d_Ar_fillJ_16 hl rfl rfl (by decide) rfl (fun ls hl => ?_)
      refine lv_goto (tgt := 6) S.1 S.2.1 d_Ar_fillJ_19 (by decide) ?_
      exact ih _ _ _ _ _ _ h (lv_sub hl [1, 2, 0, 3] rfl) I
set_option maxHeartbeats 4000000 in
set_option maxRecDepth 100000 in
theorem c_Ar_fillJ_after (l : Launch) (D : va_G) (ad : Nat → Nat) (cA : ClassId × ClassId × ClassId) (te : Te) (ru : Ru) (au : Au) (re : Re) (la : La) (sp : Sp) (le : Le) (x1 : Int64) (Q : Le → Prop) (h : p_Ar_fillJ_after x1 le Q) : rwV l y_Ar_fillJ (wsOf y_Ar_fillJ b_Ar_fillJ 5 none) rm_Ar_fillJ_after D (tyA cA) (wC ad cA) [.ref (ad 29), .long x1] (te, ru, au, re, la, sp, le) (fun u : Le => (te, ru, au, re, la, sp, u)) (fun u : Le => Q u) := by
  refine rwV_of (by decide) (Nat.le_of_ble_eq_true rfl) ?_
  intro p e s m below meth c S hr hlk hK A hA I ls hl
  have hl : lv_has ls 5 [(0, .ref (ad 29)), (1, .long x1)] := hl
  refine lv_iconst (v := (0 : Int32)) S.1 S.2.1 d_Ar_fillJ_0 rfl ?_
  refine lv_istore_n (lv' := [(3, .int (0 : Int32)), (0, .ref (ad 29)), (1, .long x1)]) S.1 S.2.1 d_Ar_fillJ_1 rfl hl (by decide) rfl (fun ls hl => ?_)
  refine lv_aload_n S.1 S.2.1 d_Ar_fillJ_2 rfl (lv_at hl 1 rfl) ?_
  refine n_Le_after S hK I.1 d_Ar_fillJ_3 ?_
  refine lv_istore (lv' := [(4, .int (3136 : Int32)), (3, .int (0 : Int32)), (0, .ref (ad 29)), (1, .long x1)]) S.1 S.2.1 d_Ar_fillJ_4 hl (by decide) rfl (fun ls hl => ?_)
  obtain ⟨n', h⟩ := h
  exact n_Ar_fillJ_after_6 S hr hlk hK hA n' _ _ _ _ _ _ h (lv_sub hl [2, 3, 1, 0] rfl) I

set_option maxHeartbeats 4000000 in
set_option maxRecDepth 100000 in
theorem n_Ar_fillJ_inLevels_6 {p : Program} {l : Launch} {e : Env} {s : State} {m : MethodId} {args : Array Value} {below : List Frame} {meth : Method} {c : Code} {D : va_G} {A : Nat → Prop} {ad : Nat → Nat} {cA : ClassId × ClassId × ClassId} {te : Te} {ru : Ru} {au : Au} {re : Re} {la : La} {sp : Sp} {x1 : Int64} {Q : Le → Prop} (S : CallFix p m c b_Ar_fillJ 5 s args gtbl R_Ar) (hr : meth.sig.returnType = none) (hlk : meth.locks = false) (hK : gK D (tyA cA) s) (hA : ∀ q : Nat, s.heap.size ≤ q → A q) : ∀ n : Nat, ∀ (ls : Array Slot) (H : Heap) (locs : List Loc) (x3 : Int32) (x4 : Int32) (le : Le), p_Ar_fillJ_inLevels_6 x1 Q n x3 x4 le → lv_has ls 5 [(0, .ref (ad 32)), (1, .long x1), (3, .int x3), (4, .int x4)] → gIn D A s (wC ad cA) (te, ru, au, re, la, sp, le) H locs → W p l e rm_Ar_fillJ_inLevels s m args below meth c H locs 0 0 (qV D (tyA cA) A (wC ad cA) (fun u : Le => (te, ru, au, re, la, sp, u)) (fun u : Le => Q u) below args s) (F0 m 6 ls []) := by
  intro n
  induction n with
  | zero =>
    intro ls H locs x3 x4 le h
    exact (show False from h).elim
  | succ n ih =>
    intro ls H locs x3 x4 le h hl I
    refine lv_iload_n S.1 S.2.1 d_Ar_fillJ_6 rfl (lv_at hl 2 rfl) ?_
    refine lv_iload S.1 S.2.1 d_Ar_fillJ_7 (lv_at hl 3 rfl) ?_
    refine lv_icmp_ge (tgt := 22) S.1 S.2.1 d_Ar_fillJ_9 (by decide) (fun hc => ?_) (fun hc => ?_)
    · have h := h.1 hc
      exact ret_rwv S hr hlk hK I h d_Ar_fillJ_22
    · have h := h.2 hc
      refine lv_aload_n S.1 S.2.1 d_Ar_fillJ_12 rfl (lv_at hl 0 rfl) ?_
      refine lv_iload_n S.1 S.2.1 d_Ar_fillJ_13 rfl (lv_at hl 2 rfl) ?_
      refine lv_lload_n S.1 S.2.1 d_Ar_fillJ_14 rfl (lv_at hl 1 rfl) ?_
      obtain ⟨hin, h⟩ := h
      refine s_Le_inLevels S hK I hin d_Ar_fillJ_15 (fun H locs le15 ele15 I => ?_)
      have h := h le15 ele15
      refine lv_iinc (k := 2) (v := x3 + (1 : Int32)) (lv' := [(3, .int (x3 + (1 : Int32))), (0, .ref (ad 32)), (1, .long x1), (4, .int x4)]) S.1 S.2.1 d_Ar_fillJ_16 hl rfl rfl (by decide) rfl (fun ls hl => ?_)
      refine lv_goto (tgt := 6) S.1 S.2.1 d_Ar_fillJ_19 (by decide) ?_
      exact ih _ _ _ _ _ _ h (lv_sub hl [1, 2, 0, 3] rfl) I
set_option maxHeartbeats 4000000 in
set_option maxRecDepth 100000 in
theorem c_Ar_fillJ_inLevels (l : Launch) (D : va_G) (ad : Nat → Nat) (cA : ClassId × ClassId × ClassId) (te : Te) (ru : Ru) (au : Au) (re : Re) (la : La) (sp : Sp) (le : Le) (x1 : Int64) (Q : Le → Prop) (h : p_Ar_fillJ_inLevels x1 le Q) : rwV l y_Ar_fillJ (wsOf y_Ar_fillJ b_Ar_fillJ 5 none) rm_Ar_fillJ_inLevels D (tyA cA) (wC ad cA) [.ref (ad 32), .long x1] (te, ru, au, re, la, sp, le) (fun u : Le => (te, ru, au, re, la, sp, u)) (fun u : Le => Q u) := by
  refine rwV_of (by decide) (Nat.le_of_ble_eq_true rfl) ?_
  intro p e s m below meth c S hr hlk hK A hA I ls hl
  have hl : lv_has ls 5 [(0, .ref (ad 32)), (1, .long x1)] := hl
  refine lv_iconst (v := (0 : Int32)) S.1 S.2.1 d_Ar_fillJ_0 rfl ?_
  refine lv_istore_n (lv' := [(3, .int (0 : Int32)), (0, .ref (ad 32)), (1, .long x1)]) S.1 S.2.1 d_Ar_fillJ_1 rfl hl (by decide) rfl (fun ls hl => ?_)
  refine lv_aload_n S.1 S.2.1 d_Ar_fillJ_2 rfl (lv_at hl 1 rfl) ?_
  refine n_Le_inLevels S hK I.1 d_Ar_fillJ_3 ?_
  refine lv_istore (lv' := [(4, .int (7 : Int32)), (3, .int (0 : Int32)), (0, .ref (ad 32)), (1, .long x1)]) S.1 S.2.1 d_Ar_fillJ_4 hl (by decide) rfl (fun ls hl => ?_)
  obtain ⟨n', h⟩ := h
  exact n_Ar_fillJ_inLevels_6 S hr hlk hK hA n' _ _ _ _ _ _ h (lv_sub hl [2, 3, 1, 0] rfl) I

set_option maxHeartbeats 4000000 in
set_option maxRecDepth 100000 in
theorem n_Ar_fillJ_newest_6 {p : Program} {l : Launch} {e : Env} {s : State} {m : MethodId} {args : Array Value} {below : List Frame} {meth : Method} {c : Code} {D : va_G} {A : Nat → Prop} {ad : Nat → Nat} {cA : ClassId × ClassId × ClassId} {te : Te} {ru : Ru} {au : Au} {re : Re} {la : La} {sp : Sp} {x1 : Int64} {Q : Le → Prop} (S : CallFix p m c b_Ar_fillJ 5 s args gtbl R_Ar) (hr : meth.sig.returnType = none) (hlk : meth.locks = false) (hK : gK D (tyA cA) s) (hA : ∀ q : Nat, s.heap.size ≤ q → A q) : ∀ n : Nat, ∀ (ls : Array Slot) (H : Heap) (locs : List Loc) (x3 : Int32) (x4 : Int32) (le : Le), p_Ar_fillJ_newest_6 x1 Q n x3 x4 le → lv_has ls 5 [(0, .ref (ad 33)), (1, .long x1), (3, .int x3), (4, .int x4)] → gIn D A s (wC ad cA) (te, ru, au, re, la, sp, le) H locs → W p l e rm_Ar_fillJ_newest s m args below meth c H locs 0 0 (qV D (tyA cA) A (wC ad cA) (fun u : Le => (te, ru, au, re, la, sp, u)) (fun u : Le => Q u) below args s) (F0 m 6 ls []) := by
  intro n
  induction n with
  | zero =>
    intro ls H locs x3 x4 le h
    exact (show False from h).elim
  | succ n ih =>
    intro ls H locs x3 x4 le h hl I
    refine lv_iload_n S.1 S.2.1 d_Ar_fillJ_6 rfl (lv_at hl 2 rfl) ?_
    refine lv_iload S.1 S.2.1 d_Ar_fillJ_7 (lv_at hl 3 rfl) ?_
    refine lv_icmp_ge (tgt := 22) S.1 S.2.1 d_Ar_fillJ_9 (by decide) (fun hc => ?_) (fun hc => ?_)
    · have h := h.1 hc
      exact ret_rwv S hr hlk hK I h d_Ar_fillJ_22
    · have h := h.2 hc
      refine lv_aload_n S.1 S.2.1 d_Ar_fillJ_12 rfl (lv_at hl 0 rfl) ?_
      refine lv_iload_n S.1 S.2.1 d_Ar_fillJ_13 rfl (lv_at hl 2 rfl) ?_
      refine lv_lload_n S.1 S.2.1 d_Ar_fillJ_14 rfl (lv_at hl 1 rfl) ?_
      obtain ⟨hin, h⟩ := h
      refine s_Le_newest S hK I hin d_Ar_fillJ_15 (fun H locs le15 ele15 I => ?_)
      have h := h le15 ele15
      refine lv_iinc (k := 2) (v := x3 + (1 : Int32)) (lv' := [(3, .int (x3 + (1 : Int32))), (0, .ref (ad 33)), (1, .long x1), (4, .int x4)]) S.1 S.2.1 d_Ar_fillJ_16 hl rfl rfl (by decide) rfl (fun ls hl => ?_)
      refine lv_goto (tgt := 6) S.1 S.2.1 d_Ar_fillJ_19 (by decide) ?_
      exact ih _ _ _ _ _ _ h (lv_sub hl [1, 2, 0, 3] rfl) I
set_option maxHeartbeats 4000000 in
set_option maxRecDepth 100000 in
theorem c_Ar_fillJ_newest (l : Launch) (D : va_G) (ad : Nat → Nat) (cA : ClassId × ClassId × ClassId) (te : Te) (ru : Ru) (au : Au) (re : Re) (la : La) (sp : Sp) (le : Le) (x1 : Int64) (Q : Le → Prop) (h : p_Ar_fillJ_newest x1 le Q) : rwV l y_Ar_fillJ (wsOf y_Ar_fillJ b_Ar_fillJ 5 none) rm_Ar_fillJ_newest D (tyA cA) (wC ad cA) [.ref (ad 33), .long x1] (te, ru, au, re, la, sp, le) (fun u : Le => (te, ru, au, re, la, sp, u)) (fun u : Le => Q u) := by
  refine rwV_of (by decide) (Nat.le_of_ble_eq_true rfl) ?_
  intro p e s m below meth c S hr hlk hK A hA I ls hl
  have hl : lv_has ls 5 [(0, .ref (ad 33)), (1, .long x1)] := hl
  refine lv_iconst (v := (0 : Int32)) S.1 S.2.1 d_Ar_fillJ_0 rfl ?_
  refine lv_istore_n (lv' := [(3, .int (0 : Int32)), (0, .ref (ad 33)), (1, .long x1)]) S.1 S.2.1 d_Ar_fillJ_1 rfl hl (by decide) rfl (fun ls hl => ?_)
  refine lv_aload_n S.1 S.2.1 d_Ar_fillJ_2 rfl (lv_at hl 1 rfl) ?_
  refine n_Le_newest S hK I.1 d_Ar_fillJ_3 ?_
  refine lv_istore (lv' := [(4, .int (7 : Int32)), (3, .int (0 : Int32)), (0, .ref (ad 33)), (1, .long x1)]) S.1 S.2.1 d_Ar_fillJ_4 hl (by decide) rfl (fun ls hl => ?_)
  obtain ⟨n', h⟩ := h
  exact n_Ar_fillJ_newest_6 S hr hlk hK hA n' _ _ _ _ _ _ h (lv_sub hl [2, 3, 1, 0] rfl) I

set_option maxHeartbeats 4000000 in
set_option maxRecDepth 100000 in
theorem n_Le_countWithParts_104 {p : Program} {l : Launch} {e : Env} {s : State} {m : MethodId} {args : Array Value} {below : List Frame} {meth : Method} {c : Code} {D : va_G} {A : Nat → Prop} {ad : Nat → Nat} {cA : ClassId × ClassId × ClassId} {te : Te} {ru : Ru} {au : Au} {re : Re} {la : La} {sp : Sp} {x1 : Int32} {Q : Le → Prop} (S : CallFix p m c b_Le_countWithParts 6 s args gtbl R_Le) (hr : meth.sig.returnType = none) (hlk : meth.locks = false) (hK : gK D (tyA cA) s) (hA : ∀ q : Nat, s.heap.size ≤ q → A q) {k17 : Int64 → Int32 → Le → Prop} (hk17 : ∀ (ls : Array Slot) (H : Heap) (locs : List Loc) (x2 : Int64) (x4 : Int32) (le : Le), k17 x2 x4 le → lv_has ls 6 [(0, .ref (ad 28)), (2, .long x2), (4, .int x4)] → gIn D A s (wC ad cA) (te, ru, au, re, la, sp, le) H locs → W p l e rm_Le_countWithParts s m args below meth c H locs 0 0 (qV D (tyA cA) A (wC ad cA) (fun u : Le => (te, ru, au, re, la, sp, u)) (fun u : Le => Q u) below args s) (F0 m 17 ls [])) : ∀ (ls : Array Slot) (H : Heap) (locs : List Loc) (x4 : Int32) (x5 : Int32) (y0 : Int64) (y1 : Int64) (le : Le), p_Le_countWithParts_104 x1 te Q k17 x4 x5 y0 y1 le → lv_has ls 6 [(0, .ref (ad 28)), (4, .int x4), (5, .int x5)] → gIn D A s (wC ad cA) (te, ru, au, re, la, sp, le) H locs → W p l e rm_Le_countWithParts s m args below meth c H locs 0 0 (qV D (tyA cA) A (wC ad cA) (fun u : Le => (te, ru, au, re, la, sp, u)) (fun u : Le => Q u) below args s) (F0 m 104 ls [.long y0, .long y1]) := by
  intro ls H locs x4 x5 y0 y1 le h hl I
  refine lv_lor S.1 S.2.1 d_Le_countWithParts_104 ?_
  refine lv_lstore_n (lv' := [(2, .long (y1 ||| y0)), (0, .ref (ad 28)), (4, .int x4), (5, .int x5)]) S.1 S.2.1 d_Le_countWithParts_105 rfl hl (by decide) rfl (fun ls hl => ?_)
  refine lv_lload_n S.1 S.2.1 d_Le_countWithParts_106 rfl (lv_at hl 0 rfl) ?_
  refine lv_iload S.1 S.2.1 d_Le_countWithParts_107 (lv_at hl 3 rfl) ?_
  refine lv_iconst (v := (2 : Int32)) S.1 S.2.1 d_Le_countWithParts_109 rfl ?_
  refine lv_icmp_ge (tgt := 117) S.1 S.2.1 d_Le_countWithParts_110 (by decide) (fun hc => ?_) (fun hc => ?_)
  · have h := h.1 hc
    refine lv_lconst (v := (1 : Int64)) S.1 S.2.1 d_Le_countWithParts_117 rfl ?_
    refine lv_aload_n S.1 S.2.1 d_Le_countWithParts_118 rfl (lv_at hl 1 rfl) ?_
    refine g_Le_terms S hK I.1 d_Le_countWithParts_119 ?_
    refine lv_iload S.1 S.2.1 d_Le_countWithParts_122 (lv_at hl 2 rfl) ?_
    refine callV_roi S (c_Te_secondOf l D ad cA _ _ _ _ _ _ _ _ _ h) (mkV S.2.2.2.2 ml_Le_109 k_Te_secondOf rfl rfl ⟨Nat.le_of_ble_eq_true rfl, Nat.le_of_ble_eq_true rfl⟩) (rv_Te hK I.1) hK I.1 hl.1 rfl rfl (Nat.le_of_ble_eq_true rfl) d_Le_countWithParts_124 ⟨Nat.zero_le _, Nat.zero_le _⟩ (fun r124 h => ?_)
    refine lv_lshl S.1 S.2.1 d_Le_countWithParts_127 rfl ?_
    refine lv_lor S.1 S.2.1 d_Le_countWithParts_128 ?_
    refine lv_lstore_n (lv' := [(2, .long ((y1 ||| y0) ||| ((1 : Int64) <<< (r124.toInt64 &&& 63)))), (0, .ref (ad 28)), (4, .int x4), (5, .int x5)]) S.1 S.2.1 d_Le_countWithParts_129 rfl hl (by decide) rfl (fun ls hl => ?_)
    refine lv_iinc (k := 2) (v := x4 + (-1 : Int32)) (lv' := [(4, .int (x4 + (-1 : Int32))), (2, .long ((y1 ||| y0) ||| ((1 : Int64) <<< (r124.toInt64 &&& 63)))), (0, .ref (ad 28)), (5, .int x5)]) S.1 S.2.1 d_Le_countWithParts_130 hl rfl rfl (by decide) rfl (fun ls hl => ?_)
    refine lv_goto (tgt := 17) S.1 S.2.1 d_Le_countWithParts_133 (by decide) ?_
    exact hk17 _ _ _ _ _ _ h (lv_sub hl [2, 1, 0] rfl) I
  · have h := h.2 hc
    refine lv_lconst (v := (0 : Int64)) S.1 S.2.1 d_Le_countWithParts_113 rfl ?_
    refine lv_goto (tgt := 128) S.1 S.2.1 d_Le_countWithParts_114 (by decide) ?_
    refine lv_lor S.1 S.2.1 d_Le_countWithParts_128 ?_
    refine lv_lstore_n (lv' := [(2, .long ((y1 ||| y0) ||| (0 : Int64))), (0, .ref (ad 28)), (4, .int x4), (5, .int x5)]) S.1 S.2.1 d_Le_countWithParts_129 rfl hl (by decide) rfl (fun ls hl => ?_)
    refine lv_iinc (k := 2) (v := x4 + (-1 : Int32)) (lv' := [(4, .int (x4 + (-1 : Int32))), (2, .long ((y1 ||| y0) ||| (0 : Int64))), (0, .ref (ad 28)), (5, .int x5)]) S.1 S.2.1 d_Le_countWithParts_130 hl rfl rfl (by decide) rfl (fun ls hl => ?_)
    refine lv_goto (tgt := 17) S.1 S.2.1 d_Le_countWithParts_133 (by decide) ?_
    exact hk17 _ _ _ _ _ _ h (lv_sub hl [2, 1, 0] rfl) I
set_option maxHeartbeats 4000000 in
set_option maxRecDepth 100000 in
theorem n_Le_countWithParts_17 {p : Program} {l : Launch} {e : Env} {s : State} {m : MethodId} {args : Array Value} {below : List Frame} {meth : Method} {c : Code} {D : va_G} {A : Nat → Prop} {ad : Nat → Nat} {cA : ClassId × ClassId × ClassId} {te : Te} {ru : Ru} {au : Au} {re : Re} {la : La} {sp : Sp} {x1 : Int32} {Q : Le → Prop} (S : CallFix p m c b_Le_countWithParts 6 s args gtbl R_Le) (hr : meth.sig.returnType = none) (hlk : meth.locks = false) (hK : gK D (tyA cA) s) (hA : ∀ q : Nat, s.heap.size ≤ q → A q) : ∀ n : Nat, ∀ (ls : Array Slot) (H : Heap) (locs : List Loc) (x2 : Int64) (x4 : Int32) (le : Le), p_Le_countWithParts_17 x1 te Q n x2 x4 le → lv_has ls 6 [(0, .ref (ad 28)), (2, .long x2), (4, .int x4)] → gIn D A s (wC ad cA) (te, ru, au, re, la, sp, le) H locs → W p l e rm_Le_countWithParts s m args below meth c H locs 0 0 (qV D (tyA cA) A (wC ad cA) (fun u : Le => (te, ru, au, re, la, sp, u)) (fun u : Le => Q u) below args s) (F0 m 17 ls []) := by
  intro n
  induction n with
  | zero =>
    intro ls H locs x2 x4 le h
    exact (show False from h).elim
  | succ n ih =>
    intro ls H locs x2 x4 le h hl I
    refine lv_iload S.1 S.2.1 d_Le_countWithParts_17 (lv_at hl 2 rfl) ?_
    refine lv_if_lt (tgt := 136) S.1 S.2.1 d_Le_countWithParts_19 (by decide) (fun hc => ?_) (fun hc => ?_)
    · have h := h.1 hc
      exact ret_rwv S hr hlk hK I h d_Le_countWithParts_136
    · have h := h.2 hc
      refine lv_lload_n S.1 S.2.1 d_Le_countWithParts_22 rfl (lv_at hl 1 rfl) ?_
      refine lv_iload S.1 S.2.1 d_Le_countWithParts_23 (lv_at hl 2 rfl) ?_
      refine lv_lshr S.1 S.2.1 d_Le_countWithParts_25 rfl ?_
      refine lv_lconst (v := (1 : Int64)) S.1 S.2.1 d_Le_countWithParts_26 rfl ?_
      refine lv_land S.1 S.2.1 d_Le_countWithParts_27 ?_
      refine lv_lconst (v := (0 : Int64)) S.1 S.2.1 d_Le_countWithParts_28 rfl ?_
      refine W.lcmp S.1 S.2.1 d_Le_countWithParts_29 ?_
      refine lv_if_eq (tgt := 130) S.1 S.2.1 d_Le_countWithParts_30 (by decide) (fun hc => ?_) (fun hc => ?_)
      · have h := h.1 hc
        refine lv_iinc (k := 2) (v := x4 + (-1 : Int32)) (lv' := [(4, .int (x4 + (-1 : Int32))), (0, .ref (ad 28)), (2, .long x2)]) S.1 S.2.1 d_Le_countWithParts_130 hl rfl rfl (by decide) rfl (fun ls hl => ?_)
        refine lv_goto (tgt := 17) S.1 S.2.1 d_Le_countWithParts_133 (by decide) ?_
        exact ih _ _ _ _ _ _ h (lv_sub hl [1, 2, 0] rfl) I
      · have h := h.2 hc
        refine lv_aload_n S.1 S.2.1 d_Le_countWithParts_33 rfl (lv_at hl 0 rfl) ?_
        refine g_Le_counted S hK I.1 d_Le_countWithParts_34 ?_
        refine lv_iload S.1 S.2.1 d_Le_countWithParts_37 (lv_at hl 2 rfl) ?_
        obtain ⟨hin, h⟩ := h
        refine a_Le_counted S hK I.1 hin d_Le_countWithParts_39 ?_
        refine lv_if_eq (tgt := 46) S.1 S.2.1 d_Le_countWithParts_40 (by decide) (fun hc => ?_) (fun hc => ?_)
        · have h := h.1 hc
          refine lv_aload_n S.1 S.2.1 d_Le_countWithParts_46 rfl (lv_at hl 0 rfl) ?_
          refine g_Le_counted S hK I.1 d_Le_countWithParts_47 ?_
          refine lv_iload S.1 S.2.1 d_Le_countWithParts_50 (lv_at hl 2 rfl) ?_
          refine lv_iconst (v := (1 : Int32)) S.1 S.2.1 d_Le_countWithParts_52 rfl ?_
          obtain ⟨hin, h⟩ := h
          refine s_Le_counted S hK I hin d_Le_countWithParts_53 (fun H locs le53 ele53 I => ?_)
          have h := h le53 ele53
          refine lv_aload_n S.1 S.2.1 d_Le_countWithParts_54 rfl (lv_at hl 0 rfl) ?_
          refine lv_dup S.1 S.2.1 d_Le_countWithParts_55 rfl ?_
          refine g_Le_countedTerms S hK I.1 d_Le_countWithParts_56 ?_
          refine lv_iconst (v := (1 : Int32)) S.1 S.2.1 d_Le_countWithParts_59 rfl ?_
          refine lv_iadd S.1 S.2.1 d_Le_countWithParts_60 ?_
          refine q_Le_countedTerms S hK I d_Le_countWithParts_61 (fun H locs le61 ele61 I => ?_)
          have h := h le61 ele61
          refine lv_aload_n S.1 S.2.1 d_Le_countWithParts_64 rfl (lv_at hl 0 rfl) ?_
          refine g_Le_terms S hK I.1 d_Le_countWithParts_65 ?_
          refine lv_aload_n S.1 S.2.1 d_Le_countWithParts_68 rfl (lv_at hl 0 rfl) ?_
          refine g_Le_terms S hK I.1 d_Le_countWithParts_69 ?_
          refine lv_iload S.1 S.2.1 d_Le_countWithParts_72 (lv_at hl 2 rfl) ?_
          refine callV_roi S (c_Te_symbolOf l D ad cA _ _ _ _ _ _ _ _ _ h) (mkV S.2.2.2.2 ml_Le_96 k_Te_symbolOf rfl rfl ⟨Nat.le_of_ble_eq_true rfl, Nat.le_of_ble_eq_true rfl⟩) (rv_Te hK I.1) hK I.1 hl.1 rfl rfl (Nat.le_of_ble_eq_true rfl) d_Le_countWithParts_74 ⟨Nat.zero_le _, Nat.zero_le _⟩ (fun r74 h => ?_)
          refine callV_roi S (c_Te_placesOf l D ad cA _ _ _ _ _ _ _ _ _ h) (mkV S.2.2.2.2 ml_Le_99 k_Te_placesOf rfl rfl ⟨Nat.le_of_ble_eq_true rfl, Nat.le_of_ble_eq_true rfl⟩) (rv_Te hK I.1) hK I.1 hl.1 rfl rfl (Nat.le_of_ble_eq_true rfl) d_Le_countWithParts_77 ⟨Nat.zero_le _, Nat.zero_le _⟩ (fun r77 h => ?_)
          refine lv_istore (lv' := [(5, .int r77), (0, .ref (ad 28)), (2, .long x2), (4, .int x4)]) S.1 S.2.1 d_Le_countWithParts_80 hl (by decide) rfl (fun ls hl => ?_)
          refine lv_lload_n S.1 S.2.1 d_Le_countWithParts_82 rfl (lv_at hl 2 rfl) ?_
          refine lv_iload S.1 S.2.1 d_Le_countWithParts_83 (lv_at hl 0 rfl) ?_
          refine lv_iconst (v := (1 : Int32)) S.1 S.2.1 d_Le_countWithParts_85 rfl ?_
          refine lv_icmp_ge (tgt := 93) S.1 S.2.1 d_Le_countWithParts_86 (by decide) (fun hc => ?_) (fun hc => ?_)
          · have h := h.1 hc
            refine lv_lconst (v := (1 : Int64)) S.1 S.2.1 d_Le_countWithParts_93 rfl ?_
            refine lv_aload_n S.1 S.2.1 d_Le_countWithParts_94 rfl (lv_at hl 1 rfl) ?_
            refine g_Le_terms S hK I.1 d_Le_countWithParts_95 ?_
            refine lv_iload S.1 S.2.1 d_Le_countWithParts_98 (lv_at hl 3 rfl) ?_
            refine callV_roi S (c_Te_firstOf l D ad cA _ _ _ _ _ _ _ _ _ h) (mkV S.2.2.2.2 ml_Le_102 k_Te_firstOf rfl rfl ⟨Nat.le_of_ble_eq_true rfl, Nat.le_of_ble_eq_true rfl⟩) (rv_Te hK I.1) hK I.1 hl.1 rfl rfl (Nat.le_of_ble_eq_true rfl) d_Le_countWithParts_100 ⟨Nat.zero_le _, Nat.zero_le _⟩ (fun r100 h => ?_)
            refine lv_lshl S.1 S.2.1 d_Le_countWithParts_103 rfl ?_
            exact n_Le_countWithParts_104 S hr hlk hK hA ih _ _ _ _ _ _ _ _ h (lv_sub hl [1, 3, 0] rfl) I
          · have h := h.2 hc
            refine lv_lconst (v := (0 : Int64)) S.1 S.2.1 d_Le_countWithParts_89 rfl ?_
            refine lv_goto (tgt := 104) S.1 S.2.1 d_Le_countWithParts_90 (by decide) ?_
            exact n_Le_countWithParts_104 S hr hlk hK hA ih _ _ _ _ _ _ _ _ h (lv_sub hl [1, 3, 0] rfl) I
        · have h := h.2 hc
          refine lv_goto (tgt := 130) S.1 S.2.1 d_Le_countWithParts_43 (by decide) ?_
          refine lv_iinc (k := 2) (v := x4 + (-1 : Int32)) (lv' := [(4, .int (x4 + (-1 : Int32))), (0, .ref (ad 28)), (2, .long x2)]) S.1 S.2.1 d_Le_countWithParts_130 hl rfl rfl (by decide) rfl (fun ls hl => ?_)
          refine lv_goto (tgt := 17) S.1 S.2.1 d_Le_countWithParts_133 (by decide) ?_
          exact ih _ _ _ _ _ _ h (lv_sub hl [1, 2, 0] rfl) I
set_option maxHeartbeats 4000000 in
set_option maxRecDepth 100000 in
theorem c_Le_countWithParts (l : Launch) (D : va_G) (ad : Nat → Nat) (cA : ClassId × ClassId × ClassId) (te : Te) (ru : Ru) (au : Au) (re : Re) (la : La) (sp : Sp) (le : Le) (x1 : Int32) (Q : Le → Prop) (h : p_Le_countWithParts x1 te le Q) : rwV l y_Le_countWithParts (wsOf y_Le_countWithParts b_Le_countWithParts 6 none) rm_Le_countWithParts D (tyA cA) (wC ad cA) [.ref (ad 28), .int x1] (te, ru, au, re, la, sp, le) (fun u : Le => (te, ru, au, re, la, sp, u)) (fun u : Le => Q u) := by
  refine rwV_of (by decide) (Nat.le_of_ble_eq_true rfl) ?_
  intro p e s m below meth c S hr hlk hK A hA I ls hl
  have hl : lv_has ls 6 [(0, .ref (ad 28)), (1, .int x1)] := hl
  refine lv_aload_n S.1 S.2.1 d_Le_countWithParts_0 rfl (lv_at hl 0 rfl) ?_
  refine g_Le_counted S hK I.1 d_Le_countWithParts_1 ?_
  refine lv_iload_n S.1 S.2.1 d_Le_countWithParts_4 rfl (lv_at hl 1 rfl) ?_
  obtain ⟨hin, h⟩ := h
  refine a_Le_counted S hK I.1 hin d_Le_countWithParts_5 ?_
  refine lv_if_eq (tgt := 10) S.1 S.2.1 d_Le_countWithParts_6 (by decide) (fun hc => ?_) (fun hc => ?_)
  · have h := h.1 hc
    refine lv_lconst (v := (1 : Int64)) S.1 S.2.1 d_Le_countWithParts_10 rfl ?_
    refine lv_iload_n S.1 S.2.1 d_Le_countWithParts_11 rfl (lv_at hl 1 rfl) ?_
    refine lv_lshl S.1 S.2.1 d_Le_countWithParts_12 rfl ?_
    refine lv_lstore_n (lv' := [(2, .long ((1 : Int64) <<< (x1.toInt64 &&& 63))), (0, .ref (ad 28)), (1, .int x1)]) S.1 S.2.1 d_Le_countWithParts_13 rfl hl (by decide) rfl (fun ls hl => ?_)
    refine lv_iload_n S.1 S.2.1 d_Le_countWithParts_14 rfl (lv_at hl 2 rfl) ?_
    refine lv_istore (lv' := [(4, .int x1), (2, .long ((1 : Int64) <<< (x1.toInt64 &&& 63))), (0, .ref (ad 28)), (1, .int x1)]) S.1 S.2.1 d_Le_countWithParts_15 hl (by decide) rfl (fun ls hl => ?_)
    obtain ⟨n', h⟩ := h
    exact n_Le_countWithParts_17 S hr hlk hK hA n' _ _ _ _ _ _ h (lv_sub hl [2, 1, 0] rfl) I
  · have h := h.2 hc
    exact ret_rwv S hr hlk hK I h d_Le_countWithParts_9

set_option maxHeartbeats 4000000 in
set_option maxRecDepth 100000 in
theorem c_Le_include_inLevels (l : Launch) (D : va_G) (ad : Nat → Nat) (cA : ClassId × ClassId × ClassId) (te : Te) (ru : Ru) (au : Au) (re : Re) (la : La) (sp : Sp) (le : Le) (x1 : Int32) (x2 : Int32) (Q : Le → Prop) (h : p_Le_include_inLevels x1 x2 le Q) : rwV l y_Le_include (wsOf y_Le_include b_Le_include 3 none) rm_Le_include_inLevels D (tyA cA) (wC ad cA) [.ref (ad 32), .int x1, .int x2] (te, ru, au, re, la, sp, le) (fun u : Le => (te, ru, au, re, la, sp, u)) (fun u : Le => Q u) := by
  refine rwV_of (by decide) (Nat.le_of_ble_eq_true rfl) ?_
  intro p e s m below meth c S hr hlk hK A hA I ls hl
  have hl : lv_has ls 3 [(0, .ref (ad 32)), (1, .int x1), (2, .int x2)] := hl
  refine lv_iload_n S.1 S.2.1 d_Le_include_0 rfl (lv_at hl 2 rfl) ?_
  refine lv_iconst (v := (-1 : Int32)) S.1 S.2.1 d_Le_include_1 rfl ?_
  refine lv_icmp_eq (tgt := 22) S.1 S.2.1 d_Le_include_2 (by decide) (fun hc => ?_) (fun hc => ?_)
  · have h := h.1 hc
    exact ret_rwv S hr hlk hK I h d_Le_include_22
  · have h := h.2 hc
    refine lv_aload_n S.1 S.2.1 d_Le_include_5 rfl (lv_at hl 0 rfl) ?_
    refine lv_iload_n S.1 S.2.1 d_Le_include_6 rfl (lv_at hl 1 rfl) ?_
    refine lv_iload_n S.1 S.2.1 d_Le_include_7 rfl (lv_at hl 2 rfl) ?_
    refine lv_bipush (v := (64 : Int32)) S.1 S.2.1 d_Le_include_8 rfl ?_
    refine lv_idiv S.1 S.2.1 d_Le_include_10 (by decide) ?_
    refine lv_iadd S.1 S.2.1 d_Le_include_11 ?_
    refine lv_dup2_11 S.1 S.2.1 d_Le_include_12 rfl rfl ?_
    obtain ⟨hin, h⟩ := h
    refine a_Le_inLevels S hK I.1 hin d_Le_include_13 ?_
    refine lv_lconst (v := (1 : Int64)) S.1 S.2.1 d_Le_include_14 rfl ?_
    refine lv_iload_n S.1 S.2.1 d_Le_include_15 rfl (lv_at hl 2 rfl) ?_
    refine lv_bipush (v := (64 : Int32)) S.1 S.2.1 d_Le_include_16 rfl ?_
    refine lv_irem S.1 S.2.1 d_Le_include_18 (by decide) ?_
    refine lv_lshl S.1 S.2.1 d_Le_include_19 rfl ?_
    refine lv_lor S.1 S.2.1 d_Le_include_20 ?_
    obtain ⟨hin, h⟩ := h
    refine s_Le_inLevels S hK I hin d_Le_include_21 (fun H locs le21 ele21 I => ?_)
    have h := h le21 ele21
    exact ret_rwv S hr hlk hK I h d_Le_include_22

set_option maxHeartbeats 4000000 in
set_option maxRecDepth 100000 in
theorem c_Le_include_newest (l : Launch) (D : va_G) (ad : Nat → Nat) (cA : ClassId × ClassId × ClassId) (te : Te) (ru : Ru) (au : Au) (re : Re) (la : La) (sp : Sp) (le : Le) (x1 : Int32) (x2 : Int32) (Q : Le → Prop) (h : p_Le_include_newest x1 x2 le Q) : rwV l y_Le_include (wsOf y_Le_include b_Le_include 3 none) rm_Le_include_newest D (tyA cA) (wC ad cA) [.ref (ad 33), .int x1, .int x2] (te, ru, au, re, la, sp, le) (fun u : Le => (te, ru, au, re, la, sp, u)) (fun u : Le => Q u) := by
  refine rwV_of (by decide) (Nat.le_of_ble_eq_true rfl) ?_
  intro p e s m below meth c S hr hlk hK A hA I ls hl
  have hl : lv_has ls 3 [(0, .ref (ad 33)), (1, .int x1), (2, .int x2)] := hl
  refine lv_iload_n S.1 S.2.1 d_Le_include_0 rfl (lv_at hl 2 rfl) ?_
  refine lv_iconst (v := (-1 : Int32)) S.1 S.2.1 d_Le_include_1 rfl ?_
  refine lv_icmp_eq (tgt := 22) S.1 S.2.1 d_Le_include_2 (by decide) (fun hc => ?_) (fun hc => ?_)
  · have h := h.1 hc
    exact ret_rwv S hr hlk hK I h d_Le_include_22
  · have h := h.2 hc
    refine lv_aload_n S.1 S.2.1 d_Le_include_5 rfl (lv_at hl 0 rfl) ?_
    refine lv_iload_n S.1 S.2.1 d_Le_include_6 rfl (lv_at hl 1 rfl) ?_
    refine lv_iload_n S.1 S.2.1 d_Le_include_7 rfl (lv_at hl 2 rfl) ?_
    refine lv_bipush (v := (64 : Int32)) S.1 S.2.1 d_Le_include_8 rfl ?_
    refine lv_idiv S.1 S.2.1 d_Le_include_10 (by decide) ?_
    refine lv_iadd S.1 S.2.1 d_Le_include_11 ?_
    refine lv_dup2_11 S.1 S.2.1 d_Le_include_12 rfl rfl ?_
    obtain ⟨hin, h⟩ := h
    refine a_Le_newest S hK I.1 hin d_Le_include_13 ?_
    refine lv_lconst (v := (1 : Int64)) S.1 S.2.1 d_Le_include_14 rfl ?_
    refine lv_iload_n S.1 S.2.1 d_Le_include_15 rfl (lv_at hl 2 rfl) ?_
    refine lv_bipush (v := (64 : Int32)) S.1 S.2.1 d_Le_include_16 rfl ?_
    refine lv_irem S.1 S.2.1 d_Le_include_18 (by decide) ?_
    refine lv_lshl S.1 S.2.1 d_Le_include_19 rfl ?_
    refine lv_lor S.1 S.2.1 d_Le_include_20 ?_
    obtain ⟨hin, h⟩ := h
    refine s_Le_newest S hK I hin d_Le_include_21 (fun H locs le21 ele21 I => ?_)
    have h := h le21 ele21
    exact ret_rwv S hr hlk hK I h d_Le_include_22
