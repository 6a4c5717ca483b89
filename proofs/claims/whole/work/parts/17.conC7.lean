set_option maxHeartbeats 4000000 in
set_option maxRecDepth 100000 in
theorem n_Le_levelOf_111 {p : Program} {l : Launch} {e : Env} {s : State} {m : MethodId} {args : Array Value} {below : List Frame} {meth : Method} {c : Code} {D : va_G} {A : Nat → Prop} {ad : Nat → Nat} {cA : ClassId × ClassId × ClassId} {ru : Ru} {au : Au} {re : Re} {la : La} {sp : Sp} {x1 : Int32} {x2 : Int32} {Q : Int32 → Te → Le → Prop} (S : CallFix p m c b_Le_levelOf 7 s args gtbl R_Le) (hr : meth.sig.returnType = (some .int)) (hlk : meth.locks = false) (hK : gK D (tyA cA) s) (hA : ∀ q : Nat, s.heap.size ≤ q → A q) : ∀ (ls : Array Slot) (H : Heap) (locs : List Loc) (x3 : Int32) (x4 : Int32) (te : Te) (le : Le), p_Le_levelOf_111 x1 x2 ru Q x3 x4 te le → lv_has ls 7 [(0, .ref (ad 28)), (2, .int x2), (3, .int x3), (4, .int x4)] → gIn D A s (wC ad cA) (te, ru, au, re, la, sp, le) H locs → W p l e rm_Le_levelOf s m args below meth c H locs 0 0 (qI D (tyA cA) A (wC ad cA) (fun u : Te × Le => (u.1, ru, au, re, la, sp, u.2)) (fun (r : Int32) (u : Te × Le) => Q r u.1 u.2) below args s) (F0 m 111 ls []) := by
  intro ls H locs x3 x4 te le h hl I
  refine lv_aload_n S.1 S.2.1 d_Le_levelOf_111 rfl (lv_at hl 0 rfl) ?_
  refine g_Le_terms S hK I.1 d_Le_levelOf_112 ?_
  refine lv_iload_n S.1 S.2.1 d_Le_levelOf_115 rfl (lv_at hl 2 rfl) ?_
  refine callV_rwv S (c_Te_keepFirst l D ad cA _ _ _ _ _ _ _ _ _ h) (mkV S.2.2.2.2 ml_Le_70 k_Te_keepFirst rfl rfl ⟨Nat.le_of_ble_eq_true rfl, Nat.le_of_ble_eq_true rfl⟩) (rv_Te hK I.1) hK hA I hl.1 rfl rfl (Nat.le_of_ble_eq_true rfl) d_Le_levelOf_116 ⟨Nat.zero_le _, Nat.zero_le _⟩ (fun te116 H locs h I => ?_)
  refine lv_aload_n S.1 S.2.1 d_Le_levelOf_119 rfl (lv_at hl 0 rfl) ?_
  refine g_Le_countedTerms S hK I.1 d_Le_levelOf_120 ?_
  refine lv_sipush (v := (400 : Int32)) S.1 S.2.1 d_Le_levelOf_123 rfl ?_
  refine lv_icmp_gt (tgt := 145) S.1 S.2.1 d_Le_levelOf_126 (by decide) (fun hc => ?_) (fun hc => ?_)
  · have h := h.1 hc
    refine lv_bipush (v := (-2 : Int32)) S.1 S.2.1 d_Le_levelOf_145 rfl ?_
    exact ret_rwi (u := (_, _)) S hr hlk hK I h d_Le_levelOf_147
  · have h := h.2 hc
    refine lv_aload_n S.1 S.2.1 d_Le_levelOf_129 rfl (lv_at hl 0 rfl) ?_
    refine g_Le_inLevels S hK I.1 d_Le_levelOf_130 ?_
    refine lv_iload_n S.1 S.2.1 d_Le_levelOf_133 rfl (lv_at hl 1 rfl) ?_
    refine callS_roi S (c_Le_isIn_inLevels l D ad cA _ _ _ _ _ _ _ _ _ h) (mkS S.2.2.2.2 ml_Le_57 k_Le_isIn rfl rfl ⟨Nat.le_of_ble_eq_true rfl, Nat.le_of_ble_eq_true rfl⟩) hK I.1 hl.1 rfl rfl (Nat.le_of_ble_eq_true rfl) d_Le_levelOf_134 ⟨Nat.zero_le _, Nat.zero_le _⟩ (fun r134 h => ?_)
    refine lv_if_eq (tgt := 145) S.1 S.2.1 d_Le_levelOf_137 (by decide) (fun hc => ?_) (fun hc => ?_)
    · have h := h.1 hc
      refine lv_bipush (v := (-2 : Int32)) S.1 S.2.1 d_Le_levelOf_145 rfl ?_
      exact ret_rwi (u := (_, _)) S hr hlk hK I h d_Le_levelOf_147
    · have h := h.2 hc
      refine lv_iload S.1 S.2.1 d_Le_levelOf_140 (lv_at hl 3 rfl) ?_
      refine lv_goto (tgt := 147) S.1 S.2.1 d_Le_levelOf_142 (by decide) ?_
      exact ret_rwi (u := (_, _)) S hr hlk hK I h d_Le_levelOf_147
set_option maxHeartbeats 4000000 in
set_option maxRecDepth 100000 in
theorem n_Le_levelOf_101 {p : Program} {l : Launch} {e : Env} {s : State} {m : MethodId} {args : Array Value} {below : List Frame} {meth : Method} {c : Code} {D : va_G} {A : Nat → Prop} {ad : Nat → Nat} {cA : ClassId × ClassId × ClassId} {ru : Ru} {au : Au} {re : Re} {la : La} {sp : Sp} {x1 : Int32} {x2 : Int32} {Q : Int32 → Te → Le → Prop} (S : CallFix p m c b_Le_levelOf 7 s args gtbl R_Le) (hr : meth.sig.returnType = (some .int)) (hlk : meth.locks = false) (hK : gK D (tyA cA) s) (hA : ∀ q : Nat, s.heap.size ≤ q → A q) {k16 : Int32 → Int32 → Te → Le → Prop} (hk16 : ∀ (ls : Array Slot) (H : Heap) (locs : List Loc) (x3 : Int32) (x4 : Int32) (te : Te) (le : Le), k16 x3 x4 te le → lv_has ls 7 [(0, .ref (ad 28)), (2, .int x2), (3, .int x3), (4, .int x4)] → gIn D A s (wC ad cA) (te, ru, au, re, la, sp, le) H locs → W p l e rm_Le_levelOf s m args below meth c H locs 0 0 (qI D (tyA cA) A (wC ad cA) (fun u : Te × Le => (u.1, ru, au, re, la, sp, u.2)) (fun (r : Int32) (u : Te × Le) => Q r u.1 u.2) below args s) (F0 m 16 ls [])) : ∀ (ls : Array Slot) (H : Heap) (locs : List Loc) (x3 : Int32) (x4 : Int32) (te : Te) (le : Le), p_Le_levelOf_101 x1 x2 ru Q k16 x3 x4 te le → lv_has ls 7 [(0, .ref (ad 28)), (2, .int x2), (3, .int x3), (4, .int x4)] → gIn D A s (wC ad cA) (te, ru, au, re, la, sp, le) H locs → W p l e rm_Le_levelOf s m args below meth c H locs 0 0 (qI D (tyA cA) A (wC ad cA) (fun u : Te × Le => (u.1, ru, au, re, la, sp, u.2)) (fun (r : Int32) (u : Te × Le) => Q r u.1 u.2) below args s) (F0 m 101 ls []) := by
  intro ls H locs x3 x4 te le h hl I
  refine lv_aload_n S.1 S.2.1 d_Le_levelOf_101 rfl (lv_at hl 0 rfl) ?_
  refine callV_rwv S (c_Le_goOn l D ad cA _ _ _ _ _ _ _ _ h) (mkV S.2.2.2.2 ml_Le_67 k_Le_goOn rfl rfl ⟨Nat.le_of_ble_eq_true rfl, Nat.le_of_ble_eq_true rfl⟩) (rv_Le hK I.1) hK hA I hl.1 rfl rfl (Nat.le_of_ble_eq_true rfl) d_Le_levelOf_102 ⟨Nat.zero_le _, Nat.zero_le _⟩ (fun le102 H locs h I => ?_)
  refine lv_iinc (k := 3) (v := x4 + (1 : Int32)) (lv' := [(4, .int (x4 + (1 : Int32))), (0, .ref (ad 28)), (2, .int x2), (3, .int x3)]) S.1 S.2.1 d_Le_levelOf_105 hl rfl rfl (by decide) rfl (fun ls hl => ?_)
  refine lv_goto (tgt := 16) S.1 S.2.1 d_Le_levelOf_108 (by decide) ?_
  exact hk16 _ _ _ _ _ _ _ h (lv_sub hl [1, 2, 3, 0] rfl) I
set_option maxHeartbeats 4000000 in
set_option maxRecDepth 100000 in
theorem n_Le_levelOf_54 {p : Program} {l : Launch} {e : Env} {s : State} {m : MethodId} {args : Array Value} {below : List Frame} {meth : Method} {c : Code} {D : va_G} {A : Nat → Prop} {ad : Nat → Nat} {cA : ClassId × ClassId × ClassId} {ru : Ru} {au : Au} {re : Re} {la : La} {sp : Sp} {x1 : Int32} {x2 : Int32} {Q : Int32 → Te → Le → Prop} (S : CallFix p m c b_Le_levelOf 7 s args gtbl R_Le) (hr : meth.sig.returnType = (some .int)) (hlk : meth.locks = false) (hK : gK D (tyA cA) s) (hA : ∀ q : Nat, s.heap.size ≤ q → A q) {k16 : Int32 → Int32 → Te → Le → Prop} (hk16 : ∀ (ls : Array Slot) (H : Heap) (locs : List Loc) (x3 : Int32) (x4 : Int32) (te : Te) (le : Le), k16 x3 x4 te le → lv_has ls 7 [(0, .ref (ad 28)), (2, .int x2), (3, .int x3), (4, .int x4)] → gIn D A s (wC ad cA) (te, ru, au, re, la, sp, le) H locs → W p l e rm_Le_levelOf s m args below meth c H locs 0 0 (qI D (tyA cA) A (wC ad cA) (fun u : Te × Le => (u.1, ru, au, re, la, sp, u.2)) (fun (r : Int32) (u : Te × Le) => Q r u.1 u.2) below args s) (F0 m 16 ls [])) : ∀ n : Nat, ∀ (ls : Array Slot) (H : Heap) (locs : List Loc) (x3 : Int32) (x4 : Int32) (x5 : Int32) (x6 : Int32) (te : Te) (le : Le), p_Le_levelOf_54 x1 x2 ru Q k16 n x3 x4 x5 x6 te le → lv_has ls 7 [(0, .ref (ad 28)), (2, .int x2), (3, .int x3), (4, .int x4), (5, .int x5), (6, .int x6)] → gIn D A s (wC ad cA) (te, ru, au, re, la, sp, le) H locs → W p l e rm_Le_levelOf s m args below meth c H locs 0 0 (qI D (tyA cA) A (wC ad cA) (fun u : Te × Le => (u.1, ru, au, re, la, sp, u.2)) (fun (r : Int32) (u : Te × Le) => Q r u.1 u.2) below args s) (F0 m 54 ls []) := by
  intro n
  induction n with
  | zero =>
    intro ls H locs x3 x4 x5 x6 te le h
    exact (show False from h).elim
  | succ n ih =>
    intro ls H locs x3 x4 x5 x6 te le h hl I
    refine lv_iload S.1 S.2.1 d_Le_levelOf_54 (lv_at hl 5 rfl) ?_
    refine lv_iload S.1 S.2.1 d_Le_levelOf_56 (lv_at hl 4 rfl) ?_
    refine lv_icmp_ge (tgt := 101) S.1 S.2.1 d_Le_levelOf_58 (by decide) (fun hc => ?_) (fun hc => ?_)
    · have h := h.1 hc
      exact n_Le_levelOf_101 S hr hlk hK hA hk16 _ _ _ _ _ _ _ h (lv_sub hl [0, 1, 2, 3] rfl) I
    · have h := h.2 hc
      refine lv_aload_n S.1 S.2.1 d_Le_levelOf_61 rfl (lv_at hl 0 rfl) ?_
      refine g_Le_countedTerms S hK I.1 d_Le_levelOf_62 ?_
      refine lv_sipush (v := (400 : Int32)) S.1 S.2.1 d_Le_levelOf_65 rfl ?_
      refine lv_icmp_gt (tgt := 101) S.1 S.2.1 d_Le_levelOf_68 (by decide) (fun hc => ?_) (fun hc => ?_)
      · have h := h.1 hc
        exact n_Le_levelOf_101 S hr hlk hK hA hk16 _ _ _ _ _ _ _ h (lv_sub hl [0, 1, 2, 3] rfl) I
      · have h := h.2 hc
        refine lv_aload_n S.1 S.2.1 d_Le_levelOf_71 rfl (lv_at hl 0 rfl) ?_
        refine lv_aload_n S.1 S.2.1 d_Le_levelOf_72 rfl (lv_at hl 0 rfl) ?_
        refine g_Le_waiting S hK I.1 d_Le_levelOf_73 ?_
        refine lv_iload S.1 S.2.1 d_Le_levelOf_76 (lv_at hl 5 rfl) ?_
        obtain ⟨hin, h⟩ := h
        refine a_Le_waiting S hK I.1 hin d_Le_levelOf_78 ?_
        refine callV_rwv S (c_Le_expand l D ad cA _ _ _ _ _ _ _ _ _ h) (mkV S.2.2.2.2 ml_Le_64 k_Le_expand rfl rfl ⟨Nat.le_of_ble_eq_true rfl, Nat.le_of_ble_eq_true rfl⟩) (rv_Le hK I.1) hK hA I hl.1 rfl rfl (Nat.le_of_ble_eq_true rfl) d_Le_levelOf_79 ⟨Nat.zero_le _, Nat.zero_le _⟩ (fun u79 H locs h I => ?_)
        obtain ⟨te79, le79⟩ := u79
        refine lv_aload_n S.1 S.2.1 d_Le_levelOf_82 rfl (lv_at hl 0 rfl) ?_
        refine g_Le_expanded S hK I.1 d_Le_levelOf_83 ?_
        refine lv_aload_n S.1 S.2.1 d_Le_levelOf_86 rfl (lv_at hl 0 rfl) ?_
        refine g_Le_waiting S hK I.1 d_Le_levelOf_87 ?_
        refine lv_iload S.1 S.2.1 d_Le_levelOf_90 (lv_at hl 5 rfl) ?_
        obtain ⟨hin, h⟩ := h
        refine a_Le_waiting S hK I.1 hin d_Le_levelOf_92 ?_
        refine lv_iconst (v := (1 : Int32)) S.1 S.2.1 d_Le_levelOf_93 rfl ?_
        obtain ⟨hin, h⟩ := h
        refine s_Le_expanded S hK I hin d_Le_levelOf_94 (fun H locs le94 ele94 I => ?_)
        have h := h le94 ele94
        refine lv_iinc (k := 5) (v := x6 + (1 : Int32)) (lv' := [(6, .int (x6 + (1 : Int32))), (0, .ref (ad 28)), (2, .int x2), (3, .int x3), (4, .int x4), (5, .int x5)]) S.1 S.2.1 d_Le_levelOf_95 hl rfl rfl (by decide) rfl (fun ls hl => ?_)
        refine lv_goto (tgt := 54) S.1 S.2.1 d_Le_levelOf_98 (by decide) ?_
        exact ih _ _ _ _ _ _ _ _ _ h (lv_sub hl [1, 2, 3, 4, 5, 0] rfl) I
set_option maxHeartbeats 4000000 in
set_option maxRecDepth 100000 in
theorem n_Le_levelOf_16 {p : Program} {l : Launch} {e : Env} {s : State} {m : MethodId} {args : Array Value} {below : List Frame} {meth : Method} {c : Code} {D : va_G} {A : Nat → Prop} {ad : Nat → Nat} {cA : ClassId × ClassId × ClassId} {ru : Ru} {au : Au} {re : Re} {la : La} {sp : Sp} {x1 : Int32} {x2 : Int32} {Q : Int32 → Te → Le → Prop} (S : CallFix p m c b_Le_levelOf 7 s args gtbl R_Le) (hr : meth.sig.returnType = (some .int)) (hlk : meth.locks = false) (hK : gK D (tyA cA) s) (hA : ∀ q : Nat, s.heap.size ≤ q → A q) : ∀ n : Nat, ∀ (ls : Array Slot) (H : Heap) (locs : List Loc) (x3 : Int32) (x4 : Int32) (te : Te) (le : Le), p_Le_levelOf_16 x1 x2 ru Q n x3 x4 te le → lv_has ls 7 [(0, .ref (ad 28)), (2, .int x2), (3, .int x3), (4, .int x4)] → gIn D A s (wC ad cA) (te, ru, au, re, la, sp, le) H locs → W p l e rm_Le_levelOf s m args below meth c H locs 0 0 (qI D (tyA cA) A (wC ad cA) (fun u : Te × Le => (u.1, ru, au, re, la, sp, u.2)) (fun (r : Int32) (u : Te × Le) => Q r u.1 u.2) below args s) (F0 m 16 ls []) := by
  intro n
  induction n with
  | zero =>
    intro ls H locs x3 x4 te le h
    exact (show False from h).elim
  | succ n ih =>
    intro ls H locs x3 x4 te le h hl I
    refine lv_iload S.1 S.2.1 d_Le_levelOf_16 (lv_at hl 3 rfl) ?_
    refine lv_sipush (v := (400 : Int32)) S.1 S.2.1 d_Le_levelOf_18 rfl ?_
    refine lv_icmp_ge (tgt := 111) S.1 S.2.1 d_Le_levelOf_21 (by decide) (fun hc => ?_) (fun hc => ?_)
    · have h := h.1 hc
      exact n_Le_levelOf_111 S hr hlk hK hA _ _ _ _ _ _ _ h (lv_sub hl [0, 1, 2, 3] rfl) I
    · have h := h.2 hc
      refine lv_aload_n S.1 S.2.1 d_Le_levelOf_24 rfl (lv_at hl 0 rfl) ?_
      refine g_Le_countedTerms S hK I.1 d_Le_levelOf_25 ?_
      refine lv_sipush (v := (400 : Int32)) S.1 S.2.1 d_Le_levelOf_28 rfl ?_
      refine lv_icmp_gt (tgt := 111) S.1 S.2.1 d_Le_levelOf_31 (by decide) (fun hc => ?_) (fun hc => ?_)
      · have h := h.1 hc
        exact n_Le_levelOf_111 S hr hlk hK hA _ _ _ _ _ _ _ h (lv_sub hl [0, 1, 2, 3] rfl) I
      · have h := h.2 hc
        refine lv_aload_n S.1 S.2.1 d_Le_levelOf_34 rfl (lv_at hl 0 rfl) ?_
        refine g_Le_inLevels S hK I.1 d_Le_levelOf_35 ?_
        refine lv_iload_n S.1 S.2.1 d_Le_levelOf_38 rfl (lv_at hl 1 rfl) ?_
        refine callS_roi S (c_Le_isIn_inLevels l D ad cA _ _ _ _ _ _ _ _ _ h) (mkS S.2.2.2.2 ml_Le_57 k_Le_isIn rfl rfl ⟨Nat.le_of_ble_eq_true rfl, Nat.le_of_ble_eq_true rfl⟩) hK I.1 hl.1 rfl rfl (Nat.le_of_ble_eq_true rfl) d_Le_levelOf_39 ⟨Nat.zero_le _, Nat.zero_le _⟩ (fun r39 h => ?_)
        refine lv_if_ne (tgt := 111) S.1 S.2.1 d_Le_levelOf_42 (by decide) (fun hc => ?_) (fun hc => ?_)
        · have h := h.1 hc
          exact n_Le_levelOf_111 S hr hlk hK hA _ _ _ _ _ _ _ h (lv_sub hl [0, 1, 2, 3] rfl) I
        · have h := h.2 hc
          refine lv_aload_n S.1 S.2.1 d_Le_levelOf_45 rfl (lv_at hl 0 rfl) ?_
          refine callV_rwi S (c_Le_findWaiting l D ad cA _ _ _ _ _ _ _ _ h) (mkV S.2.2.2.2 ml_Le_61 k_Le_findWaiting rfl rfl ⟨Nat.le_of_ble_eq_true rfl, Nat.le_of_ble_eq_true rfl⟩) (rv_Le hK I.1) hK hA I hl.1 rfl rfl (Nat.le_of_ble_eq_true rfl) d_Le_levelOf_46 ⟨Nat.zero_le _, Nat.zero_le _⟩ (fun r46 le46 H locs h I => ?_)
          refine lv_istore (lv' := [(5, .int r46), (0, .ref (ad 28)), (2, .int x2), (3, .int x3), (4, .int x4)]) S.1 S.2.1 d_Le_levelOf_49 hl (by decide) rfl (fun ls hl => ?_)
          refine lv_iconst (v := (0 : Int32)) S.1 S.2.1 d_Le_levelOf_51 rfl ?_
          refine lv_istore (lv' := [(6, .int (0 : Int32)), (5, .int r46), (0, .ref (ad 28)), (2, .int x2), (3, .int x3), (4, .int x4)]) S.1 S.2.1 d_Le_levelOf_52 hl (by decide) rfl (fun ls hl => ?_)
          obtain ⟨n', h⟩ := h
          exact n_Le_levelOf_54 S hr hlk hK hA ih n' _ _ _ _ _ _ _ _ _ h (lv_sub hl [2, 3, 4, 5, 1, 0] rfl) I
set_option maxHeartbeats 4000000 in
set_option maxRecDepth 100000 in
theorem c_Le_levelOf (l : Launch) (D : va_G) (ad : Nat → Nat) (cA : ClassId × ClassId × ClassId) (te : Te) (ru : Ru) (au : Au) (re : Re) (la : La) (sp : Sp) (le : Le) (x1 : Int32) (x2 : Int32) (Q : Int32 → Te → Le → Prop) (h : p_Le_levelOf x1 x2 te ru le Q) : rwI l y_Le_levelOf (wsOf y_Le_levelOf b_Le_levelOf 7 (some .int)) rm_Le_levelOf D (tyA cA) (wC ad cA) [.ref (ad 28), .int x1, .int x2] (te, ru, au, re, la, sp, le) (fun u : Te × Le => (u.1, ru, au, re, la, sp, u.2)) (fun (r : Int32) (u : Te × Le) => Q r u.1 u.2) := by
  refine rwI_of (by decide) (Nat.le_of_ble_eq_true rfl) ?_
  intro p e s m below meth c S hr hlk hK A hA I ls hl
  have hl : lv_has ls 7 [(0, .ref (ad 28)), (1, .int x1), (2, .int x2)] := hl
  refine lv_aload_n S.1 S.2.1 d_Le_levelOf_0 rfl (lv_at hl 0 rfl) ?_
  refine g_Le_terms S hK I.1 d_Le_levelOf_1 ?_
  refine callV_roi S (c_Te_count l D ad cA _ _ _ _ _ _ _ _ h) (mkV S.2.2.2.2 ml_Le_43 k_Te_count rfl rfl ⟨Nat.le_of_ble_eq_true rfl, Nat.le_of_ble_eq_true rfl⟩) (rv_Te hK I.1) hK I.1 hl.1 rfl rfl (Nat.le_of_ble_eq_true rfl) d_Le_levelOf_4 ⟨Nat.zero_le _, Nat.zero_le _⟩ (fun r4 h => ?_)
  refine lv_istore_n (lv' := [(3, .int r4), (0, .ref (ad 28)), (1, .int x1), (2, .int x2)]) S.1 S.2.1 d_Le_levelOf_7 rfl hl (by decide) rfl (fun ls hl => ?_)
  refine lv_aload_n S.1 S.2.1 d_Le_levelOf_8 rfl (lv_at hl 1 rfl) ?_
  refine lv_iload_n S.1 S.2.1 d_Le_levelOf_9 rfl (lv_at hl 2 rfl) ?_
  refine callV_rwv S (c_Le_start l D ad cA _ _ _ _ _ _ _ _ _ h) (mkV S.2.2.2.2 ml_Le_49 k_Le_start rfl rfl ⟨Nat.le_of_ble_eq_true rfl, Nat.le_of_ble_eq_true rfl⟩) (rv_Le hK I.1) hK hA I hl.1 rfl rfl (Nat.le_of_ble_eq_true rfl) d_Le_levelOf_10 ⟨Nat.zero_le _, Nat.zero_le _⟩ (fun le10 H locs h I => ?_)
  refine lv_iconst (v := (0 : Int32)) S.1 S.2.1 d_Le_levelOf_13 rfl ?_
  refine lv_istore (lv' := [(4, .int (0 : Int32)), (3, .int r4), (0, .ref (ad 28)), (1, .int x1), (2, .int x2)]) S.1 S.2.1 d_Le_levelOf_14 hl (by decide) rfl (fun ls hl => ?_)
  obtain ⟨n', h⟩ := h
  exact n_Le_levelOf_16 S hr hlk hK hA n' _ _ _ _ _ _ _ h (lv_sub hl [2, 4, 1, 0] rfl) I
