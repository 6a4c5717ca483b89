set_option maxHeartbeats 4000000 in
set_option maxRecDepth 100000 in
theorem n_Re_shrink_19 {p : Program} {l : Launch} {e : Env} {s : State} {m : MethodId} {args : Array Value} {below : List Frame} {meth : Method} {c : Code} {D : va_G} {A : Nat → Prop} {ad : Nat → Nat} {cA : ClassId × ClassId × ClassId} {te : Te} {ru : Ru} {au : Au} {la : La} {sp : Sp} {le : Le} {x1 : Int32} {Q : Int32 → Re → Prop} (S : CallFix p m c b_Re_shrink 6 s args gtbl R_Re) (hr : meth.sig.returnType = (some .boolean)) (hlk : meth.locks = false) (hK : gK D (tyA cA) s) (hA : ∀ q : Nat, s.heap.size ≤ q → A q) {k4 : Int32 → Int32 → Re → Prop} (hk4 : ∀ (ls : Array Slot) (H : Heap) (locs : List Loc) (x2 : Int32) (x3 : Int32) (re : Re), k4 x2 x3 re → lv_has ls 6 [(0, .ref (ad 18)), (1, .int x1), (2, .int x2), (3, .int x3)] → gIn D A s (wC ad cA) (te, ru, au, re, la, sp, le) H locs → W p l e rm_Re_shrink s m args below meth c H locs 0 0 (qI D (tyA cA) A (wC ad cA) (fun u : Re => (te, ru, au, u, la, sp, le)) (fun (r : Int32) (u : Re) => Q r u) below args s) (F0 m 4 ls [])) : ∀ n : Nat, ∀ (ls : Array Slot) (H : Heap) (locs : List Loc) (x2 : Int32) (x3 : Int32) (x4 : Int32) (x5 : Int32) (re : Re), p_Re_shrink_19 x1 te Q k4 n x2 x3 x4 x5 re → lv_has ls 6 [(0, .ref (ad 18)), (1, .int x1), (2, .int x2), (3, .int x3), (4, .int x4), (5, .int x5)] → gIn D A s (wC ad cA) (te, ru, au, re, la, sp, le) H locs → W p l e rm_Re_shrink s m args below meth c H locs 0 0 (qI D (tyA cA) A (wC ad cA) (fun u : Re => (te, ru, au, u, la, sp, le)) (fun (r : Int32) (u : Re) => Q r u) below args s) (F0 m 19 ls []) := by
  intro n
  induction n with
  | zero =>
    intro ls H locs x2 x3 x4 x5 re h
    exact (show False from h).elim
  | succ n ih =>
    intro ls H locs x2 x3 x4 x5 re h hl I
    refine lv_iload S.1 S.2.1 d_Re_shrink_19 (lv_at hl 5 rfl) ?_
    refine lv_iload_n S.1 S.2.1 d_Re_shrink_21 rfl (lv_at hl 1 rfl) ?_
    refine lv_icmp_ge (tgt := 67) S.1 S.2.1 d_Re_shrink_22 (by decide) (fun hc => ?_) (fun hc => ?_)
    · have h := h.1 hc
      refine lv_iinc (k := 3) (v := x3 + (1 : Int32)) (lv' := [(3, .int (x3 + (1 : Int32))), (0, .ref (ad 18)), (1, .int x1), (2, .int x2), (4, .int x4), (5, .int x5)]) S.1 S.2.1 d_Re_shrink_67 hl rfl rfl (by decide) rfl (fun ls hl => ?_)
      refine lv_goto (tgt := 4) S.1 S.2.1 d_Re_shrink_70 (by decide) ?_
      exact hk4 _ _ _ _ _ _ h (lv_sub hl [1, 2, 3, 0] rfl) I
    · have h := h.2 hc
      refine lv_aload_n S.1 S.2.1 d_Re_shrink_25 rfl (lv_at hl 0 rfl) ?_
      refine g_Re_reached S hK I.1 d_Re_shrink_26 ?_
      refine lv_iload S.1 S.2.1 d_Re_shrink_29 (lv_at hl 5 rfl) ?_
      refine lv_iload_n S.1 S.2.1 d_Re_shrink_31 rfl (lv_at hl 3 rfl) ?_
      refine callS_roi S (c_Re_isIn_reached l D ad cA _ _ _ _ _ _ _ _ _ _ h) (mkS S.2.2.2.2 ml_Re_55 k_Re_isIn rfl rfl ⟨Nat.le_of_ble_eq_true rfl, Nat.le_of_ble_eq_true rfl⟩) hK I.1 hl.1 rfl rfl (Nat.le_of_ble_eq_true rfl) d_Re_shrink_32 ⟨Nat.zero_le _, Nat.zero_le _⟩ (fun r32 h => ?_)
      refine lv_if_eq (tgt := 61) S.1 S.2.1 d_Re_shrink_35 (by decide) (fun hc => ?_) (fun hc => ?_)
      · have h := h.1 hc
        refine lv_iinc (k := 5) (v := x5 + (1 : Int32)) (lv' := [(5, .int (x5 + (1 : Int32))), (0, .ref (ad 18)), (1, .int x1), (2, .int x2), (3, .int x3), (4, .int x4)]) S.1 S.2.1 d_Re_shrink_61 hl rfl rfl (by decide) rfl (fun ls hl => ?_)
        refine lv_goto (tgt := 19) S.1 S.2.1 d_Re_shrink_64 (by decide) ?_
        exact ih _ _ _ _ _ _ _ _ h (lv_sub hl [1, 2, 3, 4, 5, 0] rfl) I
      · have h := h.2 hc
        refine lv_iload S.1 S.2.1 d_Re_shrink_38 (lv_at hl 4 rfl) ?_
        refine lv_aload_n S.1 S.2.1 d_Re_shrink_40 rfl (lv_at hl 0 rfl) ?_
        refine g_Re_least S hK I.1 d_Re_shrink_41 ?_
        refine lv_iload S.1 S.2.1 d_Re_shrink_44 (lv_at hl 5 rfl) ?_
        obtain ⟨hin, h⟩ := h
        refine a_Re_least S hK I.1 hin d_Re_shrink_46 ?_
        refine lv_icmp_ge (tgt := 61) S.1 S.2.1 d_Re_shrink_47 (by decide) (fun hc => ?_) (fun hc => ?_)
        · have h := h.1 hc
          refine lv_iinc (k := 5) (v := x5 + (1 : Int32)) (lv' := [(5, .int (x5 + (1 : Int32))), (0, .ref (ad 18)), (1, .int x1), (2, .int x2), (3, .int x3), (4, .int x4)]) S.1 S.2.1 d_Re_shrink_61 hl rfl rfl (by decide) rfl (fun ls hl => ?_)
          refine lv_goto (tgt := 19) S.1 S.2.1 d_Re_shrink_64 (by decide) ?_
          exact ih _ _ _ _ _ _ _ _ h (lv_sub hl [1, 2, 3, 4, 5, 0] rfl) I
        · have h := h.2 hc
          refine lv_aload_n S.1 S.2.1 d_Re_shrink_50 rfl (lv_at hl 0 rfl) ?_
          refine g_Re_least S hK I.1 d_Re_shrink_51 ?_
          refine lv_iload S.1 S.2.1 d_Re_shrink_54 (lv_at hl 5 rfl) ?_
          refine lv_iload S.1 S.2.1 d_Re_shrink_56 (lv_at hl 4 rfl) ?_
          obtain ⟨hin, h⟩ := h
          refine s_Re_least S hK I hin d_Re_shrink_58 (fun H locs re58 ere58 I => ?_)
          have h := h re58 ere58
          refine lv_iconst (v := (1 : Int32)) S.1 S.2.1 d_Re_shrink_59 rfl ?_
          refine lv_istore_n (lv' := [(2, .int (1 : Int32)), (0, .ref (ad 18)), (1, .int x1), (3, .int x3), (4, .int x4), (5, .int x5)]) S.1 S.2.1 d_Re_shrink_60 rfl hl (by decide) rfl (fun ls hl => ?_)
          refine lv_iinc (k := 5) (v := x5 + (1 : Int32)) (lv' := [(5, .int (x5 + (1 : Int32))), (2, .int (1 : Int32)), (0, .ref (ad 18)), (1, .int x1), (3, .int x3), (4, .int x4)]) S.1 S.2.1 d_Re_shrink_61 hl rfl rfl (by decide) rfl (fun ls hl => ?_)
          refine lv_goto (tgt := 19) S.1 S.2.1 d_Re_shrink_64 (by decide) ?_
          exact ih _ _ _ _ _ _ _ _ h (lv_sub hl [2, 3, 1, 4, 5, 0] rfl) I
set_option maxHeartbeats 4000000 in
set_option maxRecDepth 100000 in
theorem n_Re_shrink_4 {p : Program} {l : Launch} {e : Env} {s : State} {m : MethodId} {args : Array Value} {below : List Frame} {meth : Method} {c : Code} {D : va_G} {A : Nat → Prop} {ad : Nat → Nat} {cA : ClassId × ClassId × ClassId} {te : Te} {ru : Ru} {au : Au} {la : La} {sp : Sp} {le : Le} {x1 : Int32} {Q : Int32 → Re → Prop} (S : CallFix p m c b_Re_shrink 6 s args gtbl R_Re) (hr : meth.sig.returnType = (some .boolean)) (hlk : meth.locks = false) (hK : gK D (tyA cA) s) (hA : ∀ q : Nat, s.heap.size ≤ q → A q) : ∀ n : Nat, ∀ (ls : Array Slot) (H : Heap) (locs : List Loc) (x2 : Int32) (x3 : Int32) (re : Re), p_Re_shrink_4 x1 te Q n x2 x3 re → lv_has ls 6 [(0, .ref (ad 18)), (1, .int x1), (2, .int x2), (3, .int x3)] → gIn D A s (wC ad cA) (te, ru, au, re, la, sp, le) H locs → W p l e rm_Re_shrink s m args below meth c H locs 0 0 (qI D (tyA cA) A (wC ad cA) (fun u : Re => (te, ru, au, u, la, sp, le)) (fun (r : Int32) (u : Re) => Q r u) below args s) (F0 m 4 ls []) := by
  intro n
  induction n with
  | zero =>
    intro ls H locs x2 x3 re h
    exact (show False from h).elim
  | succ n ih =>
    intro ls H locs x2 x3 re h hl I
    refine lv_iload_n S.1 S.2.1 d_Re_shrink_4 rfl (lv_at hl 3 rfl) ?_
    refine lv_iload_n S.1 S.2.1 d_Re_shrink_5 rfl (lv_at hl 1 rfl) ?_
    refine lv_icmp_ge (tgt := 73) S.1 S.2.1 d_Re_shrink_6 (by decide) (fun hc => ?_) (fun hc => ?_)
    · have h := h.1 hc
      refine lv_iload_n S.1 S.2.1 d_Re_shrink_73 rfl (lv_at hl 2 rfl) ?_
      obtain ⟨hz, h⟩ := h
      exact ret_rwz S hr hlk hK (isB_n hz) I h d_Re_shrink_74
    · have h := h.2 hc
      refine lv_aload_n S.1 S.2.1 d_Re_shrink_9 rfl (lv_at hl 0 rfl) ?_
      refine lv_iload_n S.1 S.2.1 d_Re_shrink_10 rfl (lv_at hl 3 rfl) ?_
      refine callV_roi S (c_Re_sizeWithLeastParts l D ad cA _ _ _ _ _ _ _ _ _ h) (mkV S.2.2.2.2 ml_Re_103 k_Re_sizeWithLeastParts rfl rfl ⟨Nat.le_of_ble_eq_true rfl, Nat.le_of_ble_eq_true rfl⟩) (rv_Re hK I.1) hK I.1 hl.1 rfl rfl (Nat.le_of_ble_eq_true rfl) d_Re_shrink_11 ⟨Nat.zero_le _, Nat.zero_le _⟩ (fun r11 h => ?_)
      refine lv_istore (lv' := [(4, .int r11), (0, .ref (ad 18)), (1, .int x1), (2, .int x2), (3, .int x3)]) S.1 S.2.1 d_Re_shrink_14 hl (by decide) rfl (fun ls hl => ?_)
      refine lv_iconst (v := (0 : Int32)) S.1 S.2.1 d_Re_shrink_16 rfl ?_
      refine lv_istore (lv' := [(5, .int (0 : Int32)), (4, .int r11), (0, .ref (ad 18)), (1, .int x1), (2, .int x2), (3, .int x3)]) S.1 S.2.1 d_Re_shrink_17 hl (by decide) rfl (fun ls hl => ?_)
      obtain ⟨n', h⟩ := h
      exact n_Re_shrink_19 S hr hlk hK hA ih n' _ _ _ _ _ _ _ _ h (lv_sub hl [2, 3, 4, 5, 1, 0] rfl) I
set_option maxHeartbeats 4000000 in
set_option maxRecDepth 100000 in
theorem c_Re_shrink (l : Launch) (D : va_G) (ad : Nat → Nat) (cA : ClassId × ClassId × ClassId) (te : Te) (ru : Ru) (au : Au) (re : Re) (la : La) (sp : Sp) (le : Le) (x1 : Int32) (Q : Int32 → Re → Prop) (h : p_Re_shrink x1 te re Q) : rwI l y_Re_shrink (wsOf y_Re_shrink b_Re_shrink 6 (some .boolean)) rm_Re_shrink D (tyA cA) (wC ad cA) [.ref (ad 18), .int x1] (te, ru, au, re, la, sp, le) (fun u : Re => (te, ru, au, u, la, sp, le)) (fun (r : Int32) (u : Re) => Q r u) := by
  refine rwI_of (by decide) (Nat.le_of_ble_eq_true rfl) ?_
  intro p e s m below meth c S hr hlk hK A hA I ls hl
  have hl : lv_has ls 6 [(0, .ref (ad 18)), (1, .int x1)] := hl
  refine lv_iconst (v := (0 : Int32)) S.1 S.2.1 d_Re_shrink_0 rfl ?_
  refine lv_istore_n (lv' := [(2, .int (0 : Int32)), (0, .ref (ad 18)), (1, .int x1)]) S.1 S.2.1 d_Re_shrink_1 rfl hl (by decide) rfl (fun ls hl => ?_)
  refine lv_iconst (v := (0 : Int32)) S.1 S.2.1 d_Re_shrink_2 rfl ?_
  refine lv_istore_n (lv' := [(3, .int (0 : Int32)), (2, .int (0 : Int32)), (0, .ref (ad 18)), (1, .int x1)]) S.1 S.2.1 d_Re_shrink_3 rfl hl (by decide) rfl (fun ls hl => ?_)
  obtain ⟨n', h⟩ := h
  exact n_Re_shrink_4 S hr hlk hK hA n' _ _ _ _ _ _ h (lv_sub hl [2, 3, 1, 0] rfl) I

set_option maxHeartbeats 4000000 in
set_option maxRecDepth 100000 in
theorem n_Re_leastSize_63 {p : Program} {l : Launch} {e : Env} {s : State} {m : MethodId} {args : Array Value} {below : List Frame} {meth : Method} {c : Code} {D : va_G} {A : Nat → Prop} {ad : Nat → Nat} {cA : ClassId × ClassId × ClassId} {te : Te} {ru : Ru} {au : Au} {la : La} {sp : Sp} {le : Le} {x1 : Int32} {Q : Int32 → Re → Prop} (S : CallFix p m c b_Re_leastSize 5 s args gtbl R_Re) (hr : meth.sig.returnType = (some .int)) (hlk : meth.locks = false) (hK : gK D (tyA cA) s) (hA : ∀ q : Nat, s.heap.size ≤ q → A q) : ∀ (ls : Array Slot) (H : Heap) (locs : List Loc) (re : Re), p_Re_leastSize_63 x1 te Q re → lv_has ls 5 [(0, .ref (ad 18)), (1, .int x1)] → gIn D A s (wC ad cA) (te, ru, au, re, la, sp, le) H locs → W p l e rm_Re_leastSize s m args below meth c H locs 0 0 (qI D (tyA cA) A (wC ad cA) (fun u : Re => (te, ru, au, u, la, sp, le)) (fun (r : Int32) (u : Re) => Q r u) below args s) (F0 m 63 ls []) := by
  intro ls H locs re h hl I
  refine lv_aload_n S.1 S.2.1 d_Re_leastSize_63 rfl (lv_at hl 0 rfl) ?_
  refine g_Re_least S hK I.1 d_Re_leastSize_64 ?_
  refine lv_iload_n S.1 S.2.1 d_Re_leastSize_67 rfl (lv_at hl 1 rfl) ?_
  obtain ⟨hin, h⟩ := h
  refine a_Re_least S hK I.1 hin d_Re_leastSize_68 ?_
  exact ret_rwi S hr hlk hK I h d_Re_leastSize_69
set_option maxHeartbeats 4000000 in
set_option maxRecDepth 100000 in
theorem n_Re_leastSize_40 {p : Program} {l : Launch} {e : Env} {s : State} {m : MethodId} {args : Array Value} {below : List Frame} {meth : Method} {c : Code} {D : va_G} {A : Nat → Prop} {ad : Nat → Nat} {cA : ClassId × ClassId × ClassId} {te : Te} {ru : Ru} {au : Au} {la : La} {sp : Sp} {le : Le} {x1 : Int32} {Q : Int32 → Re → Prop} (S : CallFix p m c b_Re_leastSize 5 s args gtbl R_Re) (hr : meth.sig.returnType = (some .int)) (hlk : meth.locks = false) (hK : gK D (tyA cA) s) (hA : ∀ q : Nat, s.heap.size ≤ q → A q) : ∀ n : Nat, ∀ (ls : Array Slot) (H : Heap) (locs : List Loc) (x2 : Int32) (x3 : Int32) (x4 : Int32) (re : Re), p_Re_leastSize_40 x1 te Q n x2 x3 x4 re → lv_has ls 5 [(0, .ref (ad 18)), (1, .int x1), (2, .int x2), (3, .int x3), (4, .int x4)] → gIn D A s (wC ad cA) (te, ru, au, re, la, sp, le) H locs → W p l e rm_Re_leastSize s m args below meth c H locs 0 0 (qI D (tyA cA) A (wC ad cA) (fun u : Re => (te, ru, au, u, la, sp, le)) (fun (r : Int32) (u : Re) => Q r u) below args s) (F0 m 40 ls []) := by
  intro n
  induction n with
  | zero =>
    intro ls H locs x2 x3 x4 re h
    exact (show False from h).elim
  | succ n ih =>
    intro ls H locs x2 x3 x4 re h hl I
    refine lv_iload S.1 S.2.1 d_Re_leastSize_40 (lv_at hl 4 rfl) ?_
    refine lv_bipush (v := (48 : Int32)) S.1 S.2.1 d_Re_leastSize_42 rfl ?_
    refine lv_icmp_gt (tgt := 63) S.1 S.2.1 d_Re_leastSize_44 (by decide) (fun hc => ?_) (fun hc => ?_)
    · have h := h.1 hc
      exact n_Re_leastSize_63 S hr hlk hK hA _ _ _ _ h (lv_sub hl [0, 1] rfl) I
    · have h := h.2 hc
      refine lv_iload_n S.1 S.2.1 d_Re_leastSize_47 rfl (lv_at hl 3 rfl) ?_
      refine lv_if_eq (tgt := 63) S.1 S.2.1 d_Re_leastSize_48 (by decide) (fun hc => ?_) (fun hc => ?_)
      · have h := h.1 hc
        exact n_Re_leastSize_63 S hr hlk hK hA _ _ _ _ h (lv_sub hl [0, 1] rfl) I
      · have h := h.2 hc
        refine lv_aload_n S.1 S.2.1 d_Re_leastSize_51 rfl (lv_at hl 0 rfl) ?_
        refine lv_iload_n S.1 S.2.1 d_Re_leastSize_52 rfl (lv_at hl 2 rfl) ?_
        refine callV_rwi S (c_Re_shrink l D ad cA _ _ _ _ _ _ _ _ _ h) (mkV S.2.2.2.2 ml_Re_66 k_Re_shrink rfl rfl ⟨Nat.le_of_ble_eq_true rfl, Nat.le_of_ble_eq_true rfl⟩) (rv_Re hK I.1) hK hA I hl.1 rfl rfl (Nat.le_of_ble_eq_true rfl) d_Re_leastSize_53 ⟨Nat.zero_le _, Nat.zero_le _⟩ (fun r53 re53 H locs h I => ?_)
        refine lv_istore_n (lv' := [(3, .int r53), (0, .ref (ad 18)), (1, .int x1), (2, .int x2), (4, .int x4)]) S.1 S.2.1 d_Re_leastSize_56 rfl hl (by decide) rfl (fun ls hl => ?_)
        refine lv_iinc (k := 4) (v := x4 + (1 : Int32)) (lv' := [(4, .int (x4 + (1 : Int32))), (3, .int r53), (0, .ref (ad 18)), (1, .int x1), (2, .int x2)]) S.1 S.2.1 d_Re_leastSize_57 hl rfl rfl (by decide) rfl (fun ls hl => ?_)
        refine lv_goto (tgt := 40) S.1 S.2.1 d_Re_leastSize_60 (by decide) ?_
        exact ih _ _ _ _ _ _ _ h (lv_sub hl [2, 3, 4, 1, 0] rfl) I
set_option maxHeartbeats 4000000 in
set_option maxRecDepth 100000 in
theorem n_Re_leastSize_10 {p : Program} {l : Launch} {e : Env} {s : State} {m : MethodId} {args : Array Value} {below : List Frame} {meth : Method} {c : Code} {D : va_G} {A : Nat → Prop} {ad : Nat → Nat} {cA : ClassId × ClassId × ClassId} {te : Te} {ru : Ru} {au : Au} {la : La} {sp : Sp} {le : Le} {x1 : Int32} {Q : Int32 → Re → Prop} (S : CallFix p m c b_Re_leastSize 5 s args gtbl R_Re) (hr : meth.sig.returnType = (some .int)) (hlk : meth.locks = false) (hK : gK D (tyA cA) s) (hA : ∀ q : Nat, s.heap.size ≤ q → A q) : ∀ n : Nat, ∀ (ls : Array Slot) (H : Heap) (locs : List Loc) (x2 : Int32) (x3 : Int32) (re : Re), p_Re_leastSize_10 x1 te Q n x2 x3 re → lv_has ls 5 [(0, .ref (ad 18)), (1, .int x1), (2, .int x2), (3, .int x3)] → gIn D A s (wC ad cA) (te, ru, au, re, la, sp, le) H locs → W p l e rm_Re_leastSize s m args below meth c H locs 0 0 (qI D (tyA cA) A (wC ad cA) (fun u : Re => (te, ru, au, u, la, sp, le)) (fun (r : Int32) (u : Re) => Q r u) below args s) (F0 m 10 ls []) := by
  intro n
  induction n with
  | zero =>
    intro ls H locs x2 x3 re h
    exact (show False from h).elim
  | succ n ih =>
    intro ls H locs x2 x3 re h hl I
    refine lv_iload_n S.1 S.2.1 d_Re_leastSize_10 rfl (lv_at hl 3 rfl) ?_
    refine lv_iload_n S.1 S.2.1 d_Re_leastSize_11 rfl (lv_at hl 2 rfl) ?_
    refine lv_icmp_ge (tgt := 35) S.1 S.2.1 d_Re_leastSize_12 (by decide) (fun hc => ?_) (fun hc => ?_)
    · have h := h.1 hc
      refine lv_iconst (v := (1 : Int32)) S.1 S.2.1 d_Re_leastSize_35 rfl ?_
      refine lv_istore_n (lv' := [(3, .int (1 : Int32)), (0, .ref (ad 18)), (1, .int x1), (2, .int x2)]) S.1 S.2.1 d_Re_leastSize_36 rfl hl (by decide) rfl (fun ls hl => ?_)
      refine lv_iconst (v := (0 : Int32)) S.1 S.2.1 d_Re_leastSize_37 rfl ?_
      refine lv_istore (lv' := [(4, .int (0 : Int32)), (3, .int (1 : Int32)), (0, .ref (ad 18)), (1, .int x1), (2, .int x2)]) S.1 S.2.1 d_Re_leastSize_38 hl (by decide) rfl (fun ls hl => ?_)
      obtain ⟨n', h⟩ := h
      exact n_Re_leastSize_40 S hr hlk hK hA n' _ _ _ _ _ _ _ h (lv_sub hl [2, 3, 4, 1, 0] rfl) I
    · have h := h.2 hc
      refine lv_aload_n S.1 S.2.1 d_Re_leastSize_15 rfl (lv_at hl 0 rfl) ?_
      refine g_Re_least S hK I.1 d_Re_leastSize_16 ?_
      refine lv_iload_n S.1 S.2.1 d_Re_leastSize_19 rfl (lv_at hl 3 rfl) ?_
      refine lv_aload_n S.1 S.2.1 d_Re_leastSize_20 rfl (lv_at hl 0 rfl) ?_
      refine g_Re_terms S hK I.1 d_Re_leastSize_21 ?_
      refine lv_iload_n S.1 S.2.1 d_Re_leastSize_24 rfl (lv_at hl 3 rfl) ?_
      refine callV_roi S (c_Te_sizeOf l D ad cA _ _ _ _ _ _ _ _ _ h) (mkV S.2.2.2.2 ml_Re_62 k_Te_sizeOf rfl rfl ⟨Nat.le_of_ble_eq_true rfl, Nat.le_of_ble_eq_true rfl⟩) (rv_Te hK I.1) hK I.1 hl.1 rfl rfl (Nat.le_of_ble_eq_true rfl) d_Re_leastSize_25 ⟨Nat.zero_le _, Nat.zero_le _⟩ (fun r25 h => ?_)
      obtain ⟨hin, h⟩ := h
      refine s_Re_least S hK I hin d_Re_leastSize_28 (fun H locs re28 ere28 I => ?_)
      have h := h re28 ere28
      refine lv_iinc (k := 3) (v := x3 + (1 : Int32)) (lv' := [(3, .int (x3 + (1 : Int32))), (0, .ref (ad 18)), (1, .int x1), (2, .int x2)]) S.1 S.2.1 d_Re_leastSize_29 hl rfl rfl (by decide) rfl (fun ls hl => ?_)
      refine lv_goto (tgt := 10) S.1 S.2.1 d_Re_leastSize_32 (by decide) ?_
      exact ih _ _ _ _ _ _ h (lv_sub hl [1, 2, 3, 0] rfl) I
set_option maxHeartbeats 4000000 in
set_option maxRecDepth 100000 in
theorem c_Re_leastSize (l : Launch) (D : va_G) (ad : Nat → Nat) (cA : ClassId × ClassId × ClassId) (te : Te) (ru : Ru) (au : Au) (re : Re) (la : La) (sp : Sp) (le : Le) (x1 : Int32) (Q : Int32 → Re → Prop) (h : p_Re_leastSize x1 te re Q) : rwI l y_Re_leastSize (wsOf y_Re_leastSize b_Re_leastSize 5 (some .int)) rm_Re_leastSize D (tyA cA) (wC ad cA) [.ref (ad 18), .int x1] (te, ru, au, re, la, sp, le) (fun u : Re => (te, ru, au, u, la, sp, le)) (fun (r : Int32) (u : Re) => Q r u) := by
  refine rwI_of (by decide) (Nat.le_of_ble_eq_true rfl) ?_
  intro p e s m below meth c S hr hlk hK A hA I ls hl
  have hl : lv_has ls 5 [(0, .ref (ad 18)), (1, .int x1)] := hl
  refine lv_aload_n S.1 S.2.1 d_Re_leastSize_0 rfl (lv_at hl 0 rfl) ?_
  refine g_Re_terms S hK I.1 d_Re_leastSize_1 ?_
  refine callV_roi S (c_Te_count l D ad cA _ _ _ _ _ _ _ _ h) (mkV S.2.2.2.2 ml_Re_37 k_Te_count rfl rfl ⟨Nat.le_of_ble_eq_true rfl, Nat.le_of_ble_eq_true rfl⟩) (rv_Te hK I.1) hK I.1 hl.1 rfl rfl (Nat.le_of_ble_eq_true rfl) d_Re_leastSize_4 ⟨Nat.zero_le _, Nat.zero_le _⟩ (fun r4 h => ?_)
  refine lv_istore_n (lv' := [(2, .int r4), (0, .ref (ad 18)), (1, .int x1)]) S.1 S.2.1 d_Re_leastSize_7 rfl hl (by decide) rfl (fun ls hl => ?_)
  refine lv_iconst (v := (0 : Int32)) S.1 S.2.1 d_Re_leastSize_8 rfl ?_
  refine lv_istore_n (lv' := [(3, .int (0 : Int32)), (2, .int r4), (0, .ref (ad 18)), (1, .int x1)]) S.1 S.2.1 d_Re_leastSize_9 rfl hl (by decide) rfl (fun ls hl => ?_)
  obtain ⟨n', h⟩ := h
  exact n_Re_leastSize_10 S hr hlk hK hA n' _ _ _ _ _ _ h (lv_sub hl [2, 3, 1, 0] rfl) I

set_option maxHeartbeats 4000000 in
set_option maxRecDepth 100000 in
theorem n_Ar_fillI_states_5 {p : Program} {l : Launch} {e : Env} {s : State} {m : MethodId} {args : Array Value} {below : List Frame} {meth : Method} {c : Code} {D : va_G} {A : Nat → Prop} {ad : Nat → Nat} {cA : ClassId × ClassId × ClassId} {te : Te} {ru : Ru} {au : Au} {re : Re} {sp : Sp} {le : Le} {x1 : Int32} {Q : La → Prop} (S : CallFix p m c b_Ar_fillI 4 s args gtbl R_Ar) (hr : meth.sig.returnType = none) (hlk : meth.locks = false) (hK : gK D (tyA cA) s) (hA : ∀ q : Nat, s.heap.size ≤ q → A q) : ∀ n : Nat, ∀ (ls : Array Slot) (H : Heap) (locs : List Loc) (x2 : Int32) (x3 : Int32) (la : La), p_Ar_fillI_states_5 x1 Q n x2 x3 la → lv_has ls 4 [(0, .ref (ad 23)), (1, .int x1), (2, .int x2), (3, .int x3)] → gIn D A s (wC ad cA) (te, ru, au, re, la, sp, le) H locs → W p l e rm_Ar_fillI_states s m args below meth c H locs 0 0 (qV D (tyA cA) A (wC ad cA) (fun u : La => (te, ru, au, re, u, sp, le)) (fun u : La => Q u) below args s) (F0 m 5 ls []) := by
  intro n
  induction n with
  | zero =>
    intro ls H locs x2 x3 la h
    exact (show False from h).elim
  | succ n ih =>
    intro ls H locs x2 x3 la h hl I
    refine lv_iload_n S.1 S.2.1 d_Ar_fillI_5 rfl (lv_at hl 2 rfl) ?_
    refine lv_iload_n S.1 S.2.1 d_Ar_fillI_6 rfl (lv_at hl 3 rfl) ?_
    refine lv_icmp_ge (tgt := 20) S.1 S.2.1 d_Ar_fillI_7 (by decide) (fun hc => ?_) (fun hc => ?_)
    · have h := h.1 hc
      exact ret_rwv S hr hlk hK I h d_Ar_fillI_20
    · have h := h.2 hc
      refine lv_aload_n S.1 S.2.1 d_Ar_fillI_10 rfl (lv_at hl 0 rfl) ?_
      refine lv_iload_n S.1 S.2.1 d_Ar_fillI_11 rfl (lv_at hl 2 rfl) ?_
      refine lv_iload_n S.1 S.2.1 d_Ar_fillI_12 rfl (lv_at hl 1 rfl) ?_
      obtain ⟨hin, h⟩ := h
      refine s_La_states S hK I hin d_Ar_fillI_13 (fun H locs la13 ela13 I => ?_)
      have h := h la13 ela13
      refine lv_iinc (k := 2) (v := x2 + (1 : Int32)) (lv' := [(2, .int (x2 + (1 : Int32))), (0, .ref (ad 23)), (1, .int x1), (3, .int x3)]) S.1 S.2.1 d_Ar_fillI_14 hl rfl rfl (by decide) rfl (fun ls hl => ?_)
      refine lv_goto (tgt := 5) S.1 S.2.1 d_Ar_fillI_17 (by decide) ?_
      exact ih _ _ _ _ _ _ h (lv_sub hl [1, 2, 0, 3] rfl) I
set_option maxHeartbeats 4000000 in
set_option maxRecDepth 100000 in
theorem c_Ar_fillI_states (l : Launch) (D : va_G) (ad : Nat → Nat) (cA : ClassId × ClassId × ClassId) (te : Te) (ru : Ru) (au : Au) (re : Re) (la : La) (sp : Sp) (le : Le) (x1 : Int32) (Q : La → Prop) (h : p_Ar_fillI_states x1 la Q) : rwV l y_Ar_fillI (wsOf y_Ar_fillI b_Ar_fillI 4 none) rm_Ar_fillI_states D (tyA cA) (wC ad cA) [.ref (ad 23), .int x1] (te, ru, au, re, la, sp, le) (fun u : La => (te, ru, au, re, u, sp, le)) (fun u : La => Q u) := by
  refine rwV_of (by decide) (Nat.le_of_ble_eq_true rfl) ?_
  intro p e s m below meth c S hr hlk hK A hA I ls hl
  have hl : lv_has ls 4 [(0, .ref (ad 23)), (1, .int x1)] := hl
  refine lv_iconst (v := (0 : Int32)) S.1 S.2.1 d_Ar_fillI_0 rfl ?_
  refine lv_istore_n (lv' := [(2, .int (0 : Int32)), (0, .ref (ad 23)), (1, .int x1)]) S.1 S.2.1 d_Ar_fillI_1 rfl hl (by decide) rfl (fun ls hl => ?_)
  refine lv_aload_n S.1 S.2.1 d_Ar_fillI_2 rfl (lv_at hl 1 rfl) ?_
  refine n_La_states S hK I.1 d_Ar_fillI_3 ?_
  refine lv_istore_n (lv' := [(3, .int (48 : Int32)), (2, .int (0 : Int32)), (0, .ref (ad 23)), (1, .int x1)]) S.1 S.2.1 d_Ar_fillI_4 rfl hl (by decide) rfl (fun ls hl => ?_)
  obtain ⟨n', h⟩ := h
  exact n_Ar_fillI_states_5 S hr hlk hK hA n' _ _ _ _ _ _ h (lv_sub hl [2, 3, 1, 0] rfl) I

set_option maxHeartbeats 4000000 in
set_option maxRecDepth 100000 in
theorem n_La_addStates_24 {p : Program} {l : Launch} {e : Env} {s : State} {m : MethodId} {args : Array Value} {below : List Frame} {meth : Method} {c : Code} {D : va_G} {A : Nat → Prop} {ad : Nat → Nat} {cA : ClassId × ClassId × ClassId} {te : Te} {ru : Ru} {au : Au} {re : Re} {sp : Sp} {le : Le} {x1 : Int32} {x2 : Int32} {Q : Int32 → La → Prop} (S : CallFix p m c b_La_addStates 5 s args gtbl R_La) (hr : meth.sig.returnType = (some .boolean)) (hlk : meth.locks = false) (hK : gK D (tyA cA) s) (hA : ∀ q : Nat, s.heap.size ≤ q → A q) : ∀ (ls : Array Slot) (H : Heap) (locs : List Loc) (x3 : Int32) (y0 : Int32) (la : La), p_La_addStates_24 x1 x2 Q x3 y0 la → lv_has ls 5 [(0, .ref (ad 22)), (1, .int x1), (3, .int x3)] → gIn D A s (wC ad cA) (te, ru, au, re, la, sp, le) H locs → W p l e rm_La_addStates s m args below meth c H locs 0 0 (qI D (tyA cA) A (wC ad cA) (fun u : La => (te, ru, au, re, u, sp, le)) (fun (r : Int32) (u : La) => Q r u) below args s) (F0 m 24 ls [.int y0]) := by
  intro ls H locs x3 y0 la h hl I
  refine lv_istore (lv' := [(4, .int y0), (0, .ref (ad 22)), (1, .int x1), (3, .int x3)]) S.1 S.2.1 d_La_addStates_24 hl (by decide) rfl (fun ls hl => ?_)
  refine lv_aload_n S.1 S.2.1 d_La_addStates_26 rfl (lv_at hl 1 rfl) ?_
  refine g_La_states S hK I.1 d_La_addStates_27 ?_
  refine lv_iload_n S.1 S.2.1 d_La_addStates_30 rfl (lv_at hl 2 rfl) ?_
  refine lv_iload_n S.1 S.2.1 d_La_addStates_31 rfl (lv_at hl 3 rfl) ?_
  obtain ⟨hin, h⟩ := h
  refine s_La_states S hK I hin d_La_addStates_32 (fun H locs la32 ela32 I => ?_)
  have h := h la32 ela32
  refine lv_iload S.1 S.2.1 d_La_addStates_33 (lv_at hl 0 rfl) ?_
  obtain ⟨hz, h⟩ := h
  exact ret_rwz S hr hlk hK (isB_n hz) I h d_La_addStates_35
set_option maxHeartbeats 4000000 in
set_option maxRecDepth 100000 in
theorem c_La_addStates (l : Launch) (D : va_G) (ad : Nat → Nat) (cA : ClassId × ClassId × ClassId) (te : Te) (ru : Ru) (au : Au) (re : Re) (la : La) (sp : Sp) (le : Le) (x1 : Int32) (x2 : Int32) (Q : Int32 → La → Prop) (h : p_La_addStates x1 x2 la Q) : rwI l y_La_addStates (wsOf y_La_addStates b_La_addStates 5 (some .boolean)) rm_La_addStates D (tyA cA) (wC ad cA) [.ref (ad 22), .int x1, .int x2] (te, ru, au, re, la, sp, le) (fun u : La => (te, ru, au, re, u, sp, le)) (fun (r : Int32) (u : La) => Q r u) := by
  refine rwI_of (by decide) (Nat.le_of_ble_eq_true rfl) ?_
  intro p e s m below meth c S hr hlk hK A hA I ls hl
  have hl : lv_has ls 5 [(0, .ref (ad 22)), (1, .int x1), (2, .int x2)] := hl
  refine lv_aload_n S.1 S.2.1 d_La_addStates_0 rfl (lv_at hl 0 rfl) ?_
  refine g_La_states S hK I.1 d_La_addStates_1 ?_
  refine lv_iload_n S.1 S.2.1 d_La_addStates_4 rfl (lv_at hl 1 rfl) ?_
  obtain ⟨hin, h⟩ := h
  refine a_La_states S hK I.1 hin d_La_addStates_5 ?_
  refine lv_iload_n S.1 S.2.1 d_La_addStates_6 rfl (lv_at hl 2 rfl) ?_
  refine lv_ior S.1 S.2.1 d_La_addStates_7 ?_
  refine lv_istore_n (lv' := [(3, .int ((La_states la x1.toNatClampNeg) ||| x2)), (0, .ref (ad 22)), (1, .int x1), (2, .int x2)]) S.1 S.2.1 d_La_addStates_8 rfl hl (by decide) rfl (fun ls hl => ?_)
  refine lv_iload_n S.1 S.2.1 d_La_addStates_9 rfl (lv_at hl 0 rfl) ?_
  refine lv_aload_n S.1 S.2.1 d_La_addStates_10 rfl (lv_at hl 1 rfl) ?_
  refine g_La_states S hK I.1 d_La_addStates_11 ?_
  refine lv_iload_n S.1 S.2.1 d_La_addStates_14 rfl (lv_at hl 2 rfl) ?_
  obtain ⟨hin, h⟩ := h
  refine a_La_states S hK I.1 hin d_La_addStates_15 ?_
  refine lv_icmp_eq (tgt := 23) S.1 S.2.1 d_La_addStates_16 (by decide) (fun hc => ?_) (fun hc => ?_)
  · have h := h.1 hc
    refine lv_iconst (v := (0 : Int32)) S.1 S.2.1 d_La_addStates_23 rfl ?_
    exact n_La_addStates_24 S hr hlk hK hA _ _ _ _ _ _ h (lv_sub hl [1, 2, 0] rfl) I
  · have h := h.2 hc
    refine lv_iconst (v := (1 : Int32)) S.1 S.2.1 d_La_addStates_19 rfl ?_
    refine lv_goto (tgt := 24) S.1 S.2.1 d_La_addStates_20 (by decide) ?_
    exact n_La_addStates_24 S hr hlk hK hA _ _ _ _ _ _ h (lv_sub hl [1, 2, 0] rfl) I

set_option maxHeartbeats 4000000 in
set_option maxRecDepth 100000 in
theorem n_La_runFromParts_84 {p : Program} {l : Launch} {e : Env} {s : State} {m : MethodId} {args : Array Value} {below : List Frame} {meth : Method} {c : Code} {D : va_G} {A : Nat → Prop} {ad : Nat → Nat} {cA : ClassId × ClassId × ClassId} {te : Te} {ru : Ru} {au : Au} {re : Re} {sp : Sp} {le : Le} {Q : Int32 → La → Prop} (S : CallFix p m c b_La_runFromParts 7 s args gtbl R_La) (hr : meth.sig.returnType = (some .boolean)) (hlk : meth.locks = false) (hK : gK D (tyA cA) s) (hA : ∀ q : Nat, s.heap.size ≤ q → A q) {k4 : Int32 → Int32 → La → Prop} (hk4 : ∀ (ls : Array Slot) (H : Heap) (locs : List Loc) (x1 : Int32) (x2 : Int32) (la : La), k4 x1 x2 la → lv_has ls 7 [(0, .ref (ad 22)), (1, .int x1), (2, .int x2)] → gIn D A s (wC ad cA) (te, ru, au, re, la, sp, le) H locs → W p l e rm_La_runFromParts s m args below meth c H locs 0 0 (qI D (tyA cA) A (wC ad cA) (fun u : La => (te, ru, au, re, u, sp, le)) (fun (r : Int32) (u : La) => Q r u) below args s) (F0 m 4 ls [])) : ∀ (ls : Array Slot) (H : Heap) (locs : List Loc) (x1 : Int32) (x2 : Int32) (x3 : Int32) (x5 : Int32) (y0 : Int32) (la : La), p_La_runFromParts_84 te au Q k4 x1 x2 x3 x5 y0 la → lv_has ls 7 [(0, .ref (ad 22)), (1, .int x1), (2, .int x2), (3, .int x3), (5, .int x5)] → gIn D A s (wC ad cA) (te, ru, au, re, la, sp, le) H locs → W p l e rm_La_runFromParts s m args below meth c H locs 0 0 (qI D (tyA cA) A (wC ad cA) (fun u : La => (te, ru, au, re, u, sp, le)) (fun (r : Int32) (u : La) => Q r u) below args s) (F0 m 84 ls [.int y0]) := by
  intro ls H locs x1 x2 x3 x5 y0 la h hl I
  refine lv_istore (lv' := [(6, .int y0), (0, .ref (ad 22)), (1, .int x1), (2, .int x2), (3, .int x3), (5, .int x5)]) S.1 S.2.1 d_La_runFromParts_84 hl (by decide) rfl (fun ls hl => ?_)
  refine lv_iload_n S.1 S.2.1 d_La_runFromParts_86 rfl (lv_at hl 2 rfl) ?_
  refine lv_aload_n S.1 S.2.1 d_La_runFromParts_87 rfl (lv_at hl 1 rfl) ?_
  refine lv_iload_n S.1 S.2.1 d_La_runFromParts_88 rfl (lv_at hl 3 rfl) ?_
  refine lv_aload_n S.1 S.2.1 d_La_runFromParts_89 rfl (lv_at hl 1 rfl) ?_
  refine g_La_automaton S hK I.1 d_La_runFromParts_90 ?_
  refine lv_iload_n S.1 S.2.1 d_La_runFromParts_93 rfl (lv_at hl 4 rfl) ?_
  refine lv_iload S.1 S.2.1 d_La_runFromParts_94 (lv_at hl 5 rfl) ?_
  refine lv_iload S.1 S.2.1 d_La_runFromParts_96 (lv_at hl 0 rfl) ?_
  refine callV_roi S (c_Au_targetsOf l D ad cA _ _ _ _ _ _ _ _ _ _ _ h) (mkV S.2.2.2.2 ml_La_64 k_Au_targetsOf rfl rfl ⟨Nat.le_of_ble_eq_true rfl, Nat.le_of_ble_eq_true rfl⟩) (rv_Au hK I.1) hK I.1 hl.1 rfl rfl (Nat.le_of_ble_eq_true rfl) d_La_runFromParts_98 ⟨Nat.zero_le _, Nat.zero_le _⟩ (fun r98 h => ?_)
  refine callV_rwi S (c_La_addStates l D ad cA _ _ _ _ _ _ _ _ _ _ h) (mkV S.2.2.2.2 ml_La_70 k_La_addStates rfl rfl ⟨Nat.le_of_ble_eq_true rfl, Nat.le_of_ble_eq_true rfl⟩) (rv_La hK I.1) hK hA I hl.1 rfl rfl (Nat.le_of_ble_eq_true rfl) d_La_runFromParts_101 ⟨Nat.zero_le _, Nat.zero_le _⟩ (fun r101 la101 H locs h I => ?_)
  refine lv_ior S.1 S.2.1 d_La_runFromParts_104 ?_
  refine lv_istore_n (lv' := [(1, .int (x1 ||| r101)), (6, .int y0), (0, .ref (ad 22)), (2, .int x2), (3, .int x3), (5, .int x5)]) S.1 S.2.1 d_La_runFromParts_105 rfl hl (by decide) rfl (fun ls hl => ?_)
  refine lv_iinc (k := 3) (v := x2 + (1 : Int32)) (lv' := [(2, .int (x2 + (1 : Int32))), (1, .int (x1 ||| r101)), (6, .int y0), (0, .ref (ad 22)), (3, .int x3), (5, .int x5)]) S.1 S.2.1 d_La_runFromParts_106 hl rfl rfl (by decide) rfl (fun ls hl => ?_)
  refine lv_goto (tgt := 4) S.1 S.2.1 d_La_runFromParts_109 (by decide) ?_
  exact hk4 _ _ _ _ _ _ h (lv_sub hl [3, 1, 0] rfl) I
set_option maxHeartbeats 4000000 in
set_option maxRecDepth 100000 in
theorem n_La_runFromParts_58 {p : Program} {l : Launch} {e : Env} {s : State} {m : MethodId} {args : Array Value} {below : List Frame} {meth : Method} {c : Code} {D : va_G} {A : Nat → Prop} {ad : Nat → Nat} {cA : ClassId × ClassId × ClassId} {te : Te} {ru : Ru} {au : Au} {re : Re} {sp : Sp} {le : Le} {Q : Int32 → La → Prop} (S : CallFix p m c b_La_runFromParts 7 s args gtbl R_La) (hr : meth.sig.returnType = (some .boolean)) (hlk : meth.locks = false) (hK : gK D (tyA cA) s) (hA : ∀ q : Nat, s.heap.size ≤ q → A q) {k4 : Int32 → Int32 → La → Prop} (hk4 : ∀ (ls : Array Slot) (H : Heap) (locs : List Loc) (x1 : Int32) (x2 : Int32) (la : La), k4 x1 x2 la → lv_has ls 7 [(0, .ref (ad 22)), (1, .int x1), (2, .int x2)] → gIn D A s (wC ad cA) (te, ru, au, re, la, sp, le) H locs → W p l e rm_La_runFromParts s m args below meth c H locs 0 0 (qI D (tyA cA) A (wC ad cA) (fun u : La => (te, ru, au, re, u, sp, le)) (fun (r : Int32) (u : La) => Q r u) below args s) (F0 m 4 ls [])) : ∀ (ls : Array Slot) (H : Heap) (locs : List Loc) (x1 : Int32) (x2 : Int32) (x3 : Int32) (x4 : Int32) (y0 : Int32) (la : La), p_La_runFromParts_58 te au Q k4 x1 x2 x3 x4 y0 la → lv_has ls 7 [(0, .ref (ad 22)), (1, .int x1), (2, .int x2), (3, .int x3), (4, .int x4)] → gIn D A s (wC ad cA) (te, ru, au, re, la, sp, le) H locs → W p l e rm_La_runFromParts s m args below meth c H locs 0 0 (qI D (tyA cA) A (wC ad cA) (fun u : La => (te, ru, au, re, u, sp, le)) (fun (r : Int32) (u : La) => Q r u) below args s) (F0 m 58 ls [.int y0]) := by
  intro ls H locs x1 x2 x3 x4 y0 la h hl I
  refine lv_istore (lv' := [(5, .int y0), (0, .ref (ad 22)), (1, .int x1), (2, .int x2), (3, .int x3), (4, .int x4)]) S.1 S.2.1 d_La_runFromParts_58 hl (by decide) rfl (fun ls hl => ?_)
  refine lv_iload S.1 S.2.1 d_La_runFromParts_60 (lv_at hl 5 rfl) ?_
  refine lv_iconst (v := (2 : Int32)) S.1 S.2.1 d_La_runFromParts_62 rfl ?_
  refine lv_icmp_ge (tgt := 71) S.1 S.2.1 d_La_runFromParts_63 (by decide) (fun hc => ?_) (fun hc => ?_)
  · have h := h.1 hc
    refine lv_aload_n S.1 S.2.1 d_La_runFromParts_71 rfl (lv_at hl 1 rfl) ?_
    refine g_La_states S hK I.1 d_La_runFromParts_72 ?_
    refine lv_aload_n S.1 S.2.1 d_La_runFromParts_75 rfl (lv_at hl 1 rfl) ?_
    refine g_La_terms S hK I.1 d_La_runFromParts_76 ?_
    refine lv_iload_n S.1 S.2.1 d_La_runFromParts_79 rfl (lv_at hl 3 rfl) ?_
    refine callV_roi S (c_Te_secondOf l D ad cA _ _ _ _ _ _ _ _ _ h) (mkV S.2.2.2.2 ml_La_61 k_Te_secondOf rfl rfl ⟨Nat.le_of_ble_eq_true rfl, Nat.le_of_ble_eq_true rfl⟩) (rv_Te hK I.1) hK I.1 hl.1 rfl rfl (Nat.le_of_ble_eq_true rfl) d_La_runFromParts_80 ⟨Nat.zero_le _, Nat.zero_le _⟩ (fun r80 h => ?_)
    obtain ⟨hin, h⟩ := h
    refine a_La_states S hK I.1 hin d_La_runFromParts_83 ?_
    exact n_La_runFromParts_84 S hr hlk hK hA hk4 _ _ _ _ _ _ _ _ _ h (lv_sub hl [1, 2, 3, 4, 0] rfl) I
  · have h := h.2 hc
    refine lv_bipush (v := (63 : Int32)) S.1 S.2.1 d_La_runFromParts_66 rfl ?_
    refine lv_goto (tgt := 84) S.1 S.2.1 d_La_runFromParts_68 (by decide) ?_
    exact n_La_runFromParts_84 S hr hlk hK hA hk4 _ _ _ _ _ _ _ _ _ h (lv_sub hl [1, 2, 3, 4, 0] rfl) I
set_option maxHeartbeats 4000000 in
set_option maxRecDepth 100000 in
theorem n_La_runFromParts_4 {p : Program} {l : Launch} {e : Env} {s : State} {m : MethodId} {args : Array Value} {below : List Frame} {meth : Method} {c : Code} {D : va_G} {A : Nat → Prop} {ad : Nat → Nat} {cA : ClassId × ClassId × ClassId} {te : Te} {ru : Ru} {au : Au} {re : Re} {sp : Sp} {le : Le} {Q : Int32 → La → Prop} (S : CallFix p m c b_La_runFromParts 7 s args gtbl R_La) (hr : meth.sig.returnType = (some .boolean)) (hlk : meth.locks = false) (hK : gK D (tyA cA) s) (hA : ∀ q : Nat, s.heap.size ≤ q → A q) : ∀ n : Nat, ∀ (ls : Array Slot) (H : Heap) (locs : List Loc) (x1 : Int32) (x2 : Int32) (la : La), p_La_runFromParts_4 te au Q n x1 x2 la → lv_has ls 7 [(0, .ref (ad 22)), (1, .int x1), (2, .int x2)] → gIn D A s (wC ad cA) (te, ru, au, re, la, sp, le) H locs → W p l e rm_La_runFromParts s m args below meth c H locs 0 0 (qI D (tyA cA) A (wC ad cA) (fun u : La => (te, ru, au, re, u, sp, le)) (fun (r : Int32) (u : La) => Q r u) below args s) (F0 m 4 ls []) := by
  intro n
  induction n with
  | zero =>
    intro ls H locs x1 x2 la h
    exact (show False from h).elim
  | succ n ih =>
    intro ls H locs x1 x2 la h hl I
    refine lv_iload_n S.1 S.2.1 d_La_runFromParts_4 rfl (lv_at hl 2 rfl) ?_
    refine lv_aload_n S.1 S.2.1 d_La_runFromParts_5 rfl (lv_at hl 0 rfl) ?_
    refine g_La_terms S hK I.1 d_La_runFromParts_6 ?_
    refine callV_roi S (c_Te_count l D ad cA _ _ _ _ _ _ _ _ h) (mkV S.2.2.2.2 ml_La_45 k_Te_count rfl rfl ⟨Nat.le_of_ble_eq_true rfl, Nat.le_of_ble_eq_true rfl⟩) (rv_Te hK I.1) hK I.1 hl.1 rfl rfl (Nat.le_of_ble_eq_true rfl) d_La_runFromParts_9 ⟨Nat.zero_le _, Nat.zero_le _⟩ (fun r9 h => ?_)
    refine lv_icmp_ge (tgt := 112) S.1 S.2.1 d_La_runFromParts_12 (by decide) (fun hc => ?_) (fun hc => ?_)
    · have h := h.1 hc
      refine lv_iload_n S.1 S.2.1 d_La_runFromParts_112 rfl (lv_at hl 1 rfl) ?_
      obtain ⟨hz, h⟩ := h
      exact ret_rwz S hr hlk hK (isB_n hz) I h d_La_runFromParts_113
    · have h := h.2 hc
      refine lv_aload_n S.1 S.2.1 d_La_runFromParts_15 rfl (lv_at hl 0 rfl) ?_
      refine g_La_terms S hK I.1 d_La_runFromParts_16 ?_
      refine lv_iload_n S.1 S.2.1 d_La_runFromParts_19 rfl (lv_at hl 2 rfl) ?_
      refine callV_roi S (c_Te_symbolOf l D ad cA _ _ _ _ _ _ _ _ _ h) (mkV S.2.2.2.2 ml_La_51 k_Te_symbolOf rfl rfl ⟨Nat.le_of_ble_eq_true rfl, Nat.le_of_ble_eq_true rfl⟩) (rv_Te hK I.1) hK I.1 hl.1 rfl rfl (Nat.le_of_ble_eq_true rfl) d_La_runFromParts_20 ⟨Nat.zero_le _, Nat.zero_le _⟩ (fun r20 h => ?_)
      refine lv_istore_n (lv' := [(3, .int r20), (0, .ref (ad 22)), (1, .int x1), (2, .int x2)]) S.1 S.2.1 d_La_runFromParts_23 rfl hl (by decide) rfl (fun ls hl => ?_)
      refine lv_aload_n S.1 S.2.1 d_La_runFromParts_24 rfl (lv_at hl 1 rfl) ?_
      refine g_La_terms S hK I.1 d_La_runFromParts_25 ?_
      refine lv_iload_n S.1 S.2.1 d_La_runFromParts_28 rfl (lv_at hl 0 rfl) ?_
      refine callV_roi S (c_Te_placesOf l D ad cA _ _ _ _ _ _ _ _ _ h) (mkV S.2.2.2.2 ml_La_55 k_Te_placesOf rfl rfl ⟨Nat.le_of_ble_eq_true rfl, Nat.le_of_ble_eq_true rfl⟩) (rv_Te hK I.1) hK I.1 hl.1 rfl rfl (Nat.le_of_ble_eq_true rfl) d_La_runFromParts_29 ⟨Nat.zero_le _, Nat.zero_le _⟩ (fun r29 h => ?_)
      refine lv_istore (lv' := [(4, .int r29), (3, .int r20), (0, .ref (ad 22)), (1, .int x1), (2, .int x2)]) S.1 S.2.1 d_La_runFromParts_32 hl (by decide) rfl (fun ls hl => ?_)
      refine lv_iload S.1 S.2.1 d_La_runFromParts_34 (lv_at hl 0 rfl) ?_
      refine lv_iconst (v := (1 : Int32)) S.1 S.2.1 d_La_runFromParts_36 rfl ?_
      refine lv_icmp_ge (tgt := 45) S.1 S.2.1 d_La_runFromParts_37 (by decide) (fun hc => ?_) (fun hc => ?_)
      · have h := h.1 hc
        refine lv_aload_n S.1 S.2.1 d_La_runFromParts_45 rfl (lv_at hl 2 rfl) ?_
        refine g_La_states S hK I.1 d_La_runFromParts_46 ?_
        refine lv_aload_n S.1 S.2.1 d_La_runFromParts_49 rfl (lv_at hl 2 rfl) ?_
        refine g_La_terms S hK I.1 d_La_runFromParts_50 ?_
        refine lv_iload_n S.1 S.2.1 d_La_runFromParts_53 rfl (lv_at hl 4 rfl) ?_
        refine callV_roi S (c_Te_firstOf l D ad cA _ _ _ _ _ _ _ _ _ h) (mkV S.2.2.2.2 ml_La_58 k_Te_firstOf rfl rfl ⟨Nat.le_of_ble_eq_true rfl, Nat.le_of_ble_eq_true rfl⟩) (rv_Te hK I.1) hK I.1 hl.1 rfl rfl (Nat.le_of_ble_eq_true rfl) d_La_runFromParts_54 ⟨Nat.zero_le _, Nat.zero_le _⟩ (fun r54 h => ?_)
        obtain ⟨hin, h⟩ := h
        refine a_La_states S hK I.1 hin d_La_runFromParts_57 ?_
        exact n_La_runFromParts_58 S hr hlk hK hA ih _ _ _ _ _ _ _ _ _ h (lv_sub hl [2, 3, 4, 1, 0] rfl) I
      · have h := h.2 hc
        refine lv_bipush (v := (63 : Int32)) S.1 S.2.1 d_La_runFromParts_40 rfl ?_
        refine lv_goto (tgt := 58) S.1 S.2.1 d_La_runFromParts_42 (by decide) ?_
        exact n_La_runFromParts_58 S hr hlk hK hA ih _ _ _ _ _ _ _ _ _ h (lv_sub hl [2, 3, 4, 1, 0] rfl) I
set_option maxHeartbeats 4000000 in
set_option maxRecDepth 100000 in
theorem c_La_runFromParts (l : Launch) (D : va_G) (ad : Nat → Nat) (cA : ClassId × ClassId × ClassId) (te : Te) (ru : Ru) (au : Au) (re : Re) (la : La) (sp : Sp) (le : Le)  (Q : Int32 → La → Prop) (h : p_La_runFromParts  te au la Q) : rwI l y_La_runFromParts (wsOf y_La_runFromParts b_La_runFromParts 7 (some .boolean)) rm_La_runFromParts D (tyA cA) (wC ad cA) [.ref (ad 22)] (te, ru, au, re, la, sp, le) (fun u : La => (te, ru, au, re, u, sp, le)) (fun (r : Int32) (u : La) => Q r u) := by
  refine rwI_of (by decide) (Nat.le_of_ble_eq_true rfl) ?_
  intro p e s m below meth c S hr hlk hK A hA I ls hl
  have hl : lv_has ls 7 [(0, .ref (ad 22))] := hl
  refine lv_iconst (v := (0 : Int32)) S.1 S.2.1 d_La_runFromParts_0 rfl ?_
  refine lv_istore_n (lv' := [(1, .int (0 : Int32)), (0, .ref (ad 22))]) S.1 S.2.1 d_La_runFromParts_1 rfl hl (by decide) rfl (fun ls hl => ?_)
  refine lv_iconst (v := (0 : Int32)) S.1 S.2.1 d_La_runFromParts_2 rfl ?_
  refine lv_istore_n (lv' := [(2, .int (0 : Int32)), (1, .int (0 : Int32)), (0, .ref (ad 22))]) S.1 S.2.1 d_La_runFromParts_3 rfl hl (by decide) rfl (fun ls hl => ?_)
  obtain ⟨n', h⟩ := h
  exact n_La_runFromParts_4 S hr hlk hK hA n' _ _ _ _ _ _ h (lv_sub hl [2, 1, 0] rfl) I

set_option maxHeartbeats 4000000 in
set_option maxRecDepth 100000 in
theorem c_La_statesAt (l : Launch) (D : va_G) (ad : Nat → Nat) (cA : ClassId × ClassId × ClassId) (te : Te) (ru : Ru) (au : Au) (re : Re) (la : La) (sp : Sp) (le : Le) (x1 : Int32) (Q : Int32 → La → Prop) (h : p_La_statesAt x1 te au la Q) : rwI l y_La_statesAt (wsOf y_La_statesAt b_La_statesAt 2 (some .int)) rm_La_statesAt D (tyA cA) (wC ad cA) [.ref (ad 22), .int x1] (te, ru, au, re, la, sp, le) (fun u : La => (te, ru, au, re, u, sp, le)) (fun (r : Int32) (u : La) => Q r u) := by
  refine rwI_of (by decide) (Nat.le_of_ble_eq_true rfl) ?_
  intro p e s m below meth c S hr hlk hK A hA I ls hl
  have hl : lv_has ls 2 [(0, .ref (ad 22)), (1, .int x1)] := hl
  refine lv_aload_n S.1 S.2.1 d_La_statesAt_0 rfl (lv_at hl 0 rfl) ?_
  refine g_La_states S hK I.1 d_La_statesAt_1 ?_
  refine lv_iconst (v := (0 : Int32)) S.1 S.2.1 d_La_statesAt_4 rfl ?_
  refine callS_rwv S (c_Ar_fillI_states l D ad cA _ _ _ _ _ _ _ _ _ h) (mkS S.2.2.2.2 ml_La_27 k_Ar_fillI rfl rfl ⟨Nat.le_of_ble_eq_true rfl, Nat.le_of_ble_eq_true rfl⟩) hK hA I hl.1 rfl rfl (Nat.le_of_ble_eq_true rfl) d_La_statesAt_5 ⟨Nat.zero_le _, Nat.zero_le _⟩ (fun la5 H locs h I => ?_)
  refine lv_aload_n S.1 S.2.1 d_La_statesAt_8 rfl (lv_at hl 0 rfl) ?_
  refine callV_rwi S (c_La_runFromParts l D ad cA _ _ _ _ _ _ _ _ h) (mkV S.2.2.2.2 ml_La_33 k_La_runFromParts rfl rfl ⟨Nat.le_of_ble_eq_true rfl, Nat.le_of_ble_eq_true rfl⟩) (rv_La hK I.1) hK hA I hl.1 rfl rfl (Nat.le_of_ble_eq_true rfl) d_La_statesAt_9 ⟨Nat.zero_le _, Nat.zero_le _⟩ (fun r9 la9 H locs h I => ?_)
  refine lv_pop S.1 S.2.1 d_La_statesAt_12 rfl ?_
  refine lv_aload_n S.1 S.2.1 d_La_statesAt_13 rfl (lv_at hl 0 rfl) ?_
  refine g_La_states S hK I.1 d_La_statesAt_14 ?_
  refine lv_iload_n S.1 S.2.1 d_La_statesAt_17 rfl (lv_at hl 1 rfl) ?_
  obtain ⟨hin, h⟩ := h
  refine a_La_states S hK I.1 hin d_La_statesAt_18 ?_
  exact ret_rwi S hr hlk hK I h d_La_statesAt_19

set_option maxHeartbeats 4000000 in
set_option maxRecDepth 100000 in
theorem n_La_passOn_22 {p : Program} {l : Launch} {e : Env} {s : State} {m : MethodId} {args : Array Value} {below : List Frame} {meth : Method} {c : Code} {D : va_G} {A : Nat → Prop} {ad : Nat → Nat} {cA : ClassId × ClassId × ClassId} {te : Te} {ru : Ru} {au : Au} {re : Re} {sp : Sp} {le : Le} {x1 : Int32} {Q : Int32 → La → Prop} (S : CallFix p m c b_La_passOn 6 s args gtbl R_La) (hr : meth.sig.returnType = (some .boolean)) (hlk : meth.locks = false) (hK : gK D (tyA cA) s) (hA : ∀ q : Nat, s.heap.size ≤ q → A q) {k13 : Int32 → Int32 → Int32 → La → Prop} (hk13 : ∀ (ls : Array Slot) (H : Heap) (locs : List Loc) (x2 : Int32) (x3 : Int32) (x4 : Int32) (la : La), k13 x2 x3 x4 la → lv_has ls 6 [(0, .ref (ad 22)), (1, .int x1), (2, .int x2), (3, .int x3), (4, .int x4)] → gIn D A s (wC ad cA) (te, ru, au, re, la, sp, le) H locs → W p l e rm_La_passOn s m args below meth c H locs 0 0 (qI D (tyA cA) A (wC ad cA) (fun u : La => (te, ru, au, re, u, sp, le)) (fun (r : Int32) (u : La) => Q r u) below args s) (F0 m 13 ls [])) : ∀ n : Nat, ∀ (ls : Array Slot) (H : Heap) (locs : List Loc) (x2 : Int32) (x3 : Int32) (x4 : Int32) (x5 : Int32) (la : La), p_La_passOn_22 x1 te re Q k13 n x2 x3 x4 x5 la → lv_has ls 6 [(0, .ref (ad 22)), (1, .int x1), (2, .int x2), (3, .int x3), (4, .int x4), (5, .int x5)] → gIn D A s (wC ad cA) (te, ru, au, re, la, sp, le) H locs → W p l e rm_La_passOn s m args below meth c H locs 0 0 (qI D (tyA cA) A (wC ad cA) (fun u : La => (te, ru, au, re, u, sp, le)) (fun (r : Int32) (u : La) => Q r u) below args s) (F0 m 22 ls []) := by
  intro n
  induction n with
  | zero =>
    intro ls H locs x2 x3 x4 x5 la h
    exact (show False from h).elim
  | succ n ih =>
    intro ls H locs x2 x3 x4 x5 la h hl I
    refine lv_iload S.1 S.2.1 d_La_passOn_22 (lv_at hl 5 rfl) ?_
    refine lv_iload_n S.1 S.2.1 d_La_passOn_24 rfl (lv_at hl 3 rfl) ?_
    refine lv_icmp_ge (tgt := 84) S.1 S.2.1 d_La_passOn_25 (by decide) (fun hc => ?_) (fun hc => ?_)
    · have h := h.1 hc
      refine lv_iinc (k := 4) (v := x4 + (1 : Int32)) (lv' := [(4, .int (x4 + (1 : Int32))), (0, .ref (ad 22)), (1, .int x1), (2, .int x2), (3, .int x3), (5, .int x5)]) S.1 S.2.1 d_La_passOn_84 hl rfl rfl (by decide) rfl (fun ls hl => ?_)
      refine lv_goto (tgt := 13) S.1 S.2.1 d_La_passOn_87 (by decide) ?_
      exact hk13 _ _ _ _ _ _ _ h (lv_sub hl [1, 2, 3, 4, 0] rfl) I
    · have h := h.2 hc
      refine lv_aload_n S.1 S.2.1 d_La_passOn_28 rfl (lv_at hl 0 rfl) ?_
      refine g_La_relations S hK I.1 d_La_passOn_29 ?_
      refine lv_iload S.1 S.2.1 d_La_passOn_32 (lv_at hl 4 rfl) ?_
      refine lv_iload S.1 S.2.1 d_La_passOn_34 (lv_at hl 5 rfl) ?_
      refine callV_roi S (c_Re_leads l D ad cA _ _ _ _ _ _ _ _ _ _ h) (mkV S.2.2.2.2 ml_La_74 k_Re_leads rfl rfl ⟨Nat.le_of_ble_eq_true rfl, Nat.le_of_ble_eq_true rfl⟩) (rv_Re hK I.1) hK I.1 hl.1 rfl rfl (Nat.le_of_ble_eq_true rfl) d_La_passOn_36 ⟨Nat.zero_le _, Nat.zero_le _⟩ (fun r36 h => ?_)
      refine lv_if_eq (tgt := 78) S.1 S.2.1 d_La_passOn_39 (by decide) (fun hc => ?_) (fun hc => ?_)
      · have h := h.1 hc
        refine lv_iinc (k := 5) (v := x5 + (1 : Int32)) (lv' := [(5, .int (x5 + (1 : Int32))), (0, .ref (ad 22)), (1, .int x1), (2, .int x2), (3, .int x3), (4, .int x4)]) S.1 S.2.1 d_La_passOn_78 hl rfl rfl (by decide) rfl (fun ls hl => ?_)
        refine lv_goto (tgt := 22) S.1 S.2.1 d_La_passOn_81 (by decide) ?_
        exact ih _ _ _ _ _ _ _ _ h (lv_sub hl [1, 2, 3, 4, 5, 0] rfl) I
      · have h := h.2 hc
        refine lv_iload_n S.1 S.2.1 d_La_passOn_42 rfl (lv_at hl 2 rfl) ?_
        refine lv_iload_n S.1 S.2.1 d_La_passOn_43 rfl (lv_at hl 1 rfl) ?_
        refine lv_if_eq (tgt := 63) S.1 S.2.1 d_La_passOn_44 (by decide) (fun hc => ?_) (fun hc => ?_)
        · have h := h.1 hc
          refine lv_aload_n S.1 S.2.1 d_La_passOn_63 rfl (lv_at hl 0 rfl) ?_
          refine lv_iload S.1 S.2.1 d_La_passOn_64 (lv_at hl 4 rfl) ?_
          refine lv_aload_n S.1 S.2.1 d_La_passOn_66 rfl (lv_at hl 0 rfl) ?_
          refine g_La_states S hK I.1 d_La_passOn_67 ?_
          refine lv_iload S.1 S.2.1 d_La_passOn_70 (lv_at hl 5 rfl) ?_
          obtain ⟨hin, h⟩ := h
          refine a_La_states S hK I.1 hin d_La_passOn_72 ?_
          refine callV_rwi S (c_La_addStates l D ad cA _ _ _ _ _ _ _ _ _ _ h) (mkV S.2.2.2.2 ml_La_70 k_La_addStates rfl rfl ⟨Nat.le_of_ble_eq_true rfl, Nat.le_of_ble_eq_true rfl⟩) (rv_La hK I.1) hK hA I hl.1 rfl rfl (Nat.le_of_ble_eq_true rfl) d_La_passOn_73 ⟨Nat.zero_le _, Nat.zero_le _⟩ (fun r73 la73 H locs h I => ?_)
          refine lv_ior S.1 S.2.1 d_La_passOn_76 ?_
          refine lv_istore_n (lv' := [(2, .int (x2 ||| r73)), (0, .ref (ad 22)), (1, .int x1), (3, .int x3), (4, .int x4), (5, .int x5)]) S.1 S.2.1 d_La_passOn_77 rfl hl (by decide) rfl (fun ls hl => ?_)
          refine lv_iinc (k := 5) (v := x5 + (1 : Int32)) (lv' := [(5, .int (x5 + (1 : Int32))), (2, .int (x2 ||| r73)), (0, .ref (ad 22)), (1, .int x1), (3, .int x3), (4, .int x4)]) S.1 S.2.1 d_La_passOn_78 hl rfl rfl (by decide) rfl (fun ls hl => ?_)
          refine lv_goto (tgt := 22) S.1 S.2.1 d_La_passOn_81 (by decide) ?_
          exact ih _ _ _ _ _ _ _ _ h (lv_sub hl [2, 3, 1, 4, 5, 0] rfl) I
        · have h := h.2 hc
          refine lv_aload_n S.1 S.2.1 d_La_passOn_47 rfl (lv_at hl 0 rfl) ?_
          refine lv_iload S.1 S.2.1 d_La_passOn_48 (lv_at hl 5 rfl) ?_
          refine lv_aload_n S.1 S.2.1 d_La_passOn_50 rfl (lv_at hl 0 rfl) ?_
          refine g_La_states S hK I.1 d_La_passOn_51 ?_
          refine lv_iload S.1 S.2.1 d_La_passOn_54 (lv_at hl 4 rfl) ?_
          obtain ⟨hin, h⟩ := h
          refine a_La_states S hK I.1 hin d_La_passOn_56 ?_
          refine callV_rwi S (c_La_addStates l D ad cA _ _ _ _ _ _ _ _ _ _ h) (mkV S.2.2.2.2 ml_La_70 k_La_addStates rfl rfl ⟨Nat.le_of_ble_eq_true rfl, Nat.le_of_ble_eq_true rfl⟩) (rv_La hK I.1) hK hA I hl.1 rfl rfl (Nat.le_of_ble_eq_true rfl) d_La_passOn_57 ⟨Nat.zero_le _, Nat.zero_le _⟩ (fun r57 la57 H locs h I => ?_)
          refine lv_goto (tgt := 76) S.1 S.2.1 d_La_passOn_60 (by decide) ?_
          refine lv_ior S.1 S.2.1 d_La_passOn_76 ?_
          refine lv_istore_n (lv' := [(2, .int (x2 ||| r57)), (0, .ref (ad 22)), (1, .int x1), (3, .int x3), (4, .int x4), (5, .int x5)]) S.1 S.2.1 d_La_passOn_77 rfl hl (by decide) rfl (fun ls hl => ?_)
          refine lv_iinc (k := 5) (v := x5 + (1 : Int32)) (lv' := [(5, .int (x5 + (1 : Int32))), (2, .int (x2 ||| r57)), (0, .ref (ad 22)), (1, .int x1), (3, .int x3), (4, .int x4)]) S.1 S.2.1 d_La_passOn_78 hl rfl rfl (by decide) rfl (fun ls hl => ?_)
          refine lv_goto (tgt := 22) S.1 S.2.1 d_La_passOn_81 (by decide) ?_
          exact ih _ _ _ _ _ _ _ _ h (lv_sub hl [2, 3, 1, 4, 5, 0] rfl) I
set_option maxHeartbeats 4000000 in
set_option maxRecDepth 100000 in
theorem n_La_passOn_13 {p : Program} {l : Launch} {e : Env} {s : State} {m : MethodId} {args : Array Value} {below : List Frame} {meth : Method} {c : Code} {D : va_G} {A : Nat → Prop} {ad : Nat → Nat} {cA : ClassId × ClassId × ClassId} {te : Te} {ru : Ru} {au : Au} {re : Re} {sp : Sp} {le : Le} {x1 : Int32} {Q : Int32 → La → Prop} (S : CallFix p m c b_La_passOn 6 s args gtbl R_La) (hr : meth.sig.returnType = (some .boolean)) (hlk : meth.locks = false) (hK : gK D (tyA cA) s) (hA : ∀ q : Nat, s.heap.size ≤ q → A q) : ∀ n : Nat, ∀ (ls : Array Slot) (H : Heap) (locs : List Loc) (x2 : Int32) (x3 : Int32) (x4 : Int32) (la : La), p_La_passOn_13 x1 te re Q n x2 x3 x4 la → lv_has ls 6 [(0, .ref (ad 22)), (1, .int x1), (2, .int x2), (3, .int x3), (4, .int x4)] → gIn D A s (wC ad cA) (te, ru, au, re, la, sp, le) H locs → W p l e rm_La_passOn s m args below meth c H locs 0 0 (qI D (tyA cA) A (wC ad cA) (fun u : La => (te, ru, au, re, u, sp, le)) (fun (r : Int32) (u : La) => Q r u) below args s) (F0 m 13 ls []) := by
  intro n
  induction n with
  | zero =>
    intro ls H locs x2 x3 x4 la h
    exact (show False from h).elim
  | succ n ih =>
    intro ls H locs x2 x3 x4 la h hl I
    refine lv_iload S.1 S.2.1 d_La_passOn_13 (lv_at hl 4 rfl) ?_
    refine lv_iload_n S.1 S.2.1 d_La_passOn_15 rfl (lv_at hl 3 rfl) ?_
    refine lv_icmp_ge (tgt := 90) S.1 S.2.1 d_La_passOn_16 (by decide) (fun hc => ?_) (fun hc => ?_)
    · have h := h.1 hc
      refine lv_iload_n S.1 S.2.1 d_La_passOn_90 rfl (lv_at hl 2 rfl) ?_
      obtain ⟨hz, h⟩ := h
      exact ret_rwz S hr hlk hK (isB_n hz) I h d_La_passOn_91
    · have h := h.2 hc
      refine lv_iconst (v := (0 : Int32)) S.1 S.2.1 d_La_passOn_19 rfl ?_
      refine lv_istore (lv' := [(5, .int (0 : Int32)), (0, .ref (ad 22)), (1, .int x1), (2, .int x2), (3, .int x3), (4, .int x4)]) S.1 S.2.1 d_La_passOn_20 hl (by decide) rfl (fun ls hl => ?_)
      obtain ⟨n', h⟩ := h
      exact n_La_passOn_22 S hr hlk hK hA ih n' _ _ _ _ _ _ _ _ h (lv_sub hl [1, 2, 3, 4, 5, 0] rfl) I
set_option maxHeartbeats 4000000 in
set_option maxRecDepth 100000 in
theorem c_La_passOn (l : Launch) (D : va_G) (ad : Nat → Nat) (cA : ClassId × ClassId × ClassId) (te : Te) (ru : Ru) (au : Au) (re : Re) (la : La) (sp : Sp) (le : Le) (x1 : Int32) (Q : Int32 → La → Prop) (h : p_La_passOn x1 te re la Q) : rwI l y_La_passOn (wsOf y_La_passOn b_La_passOn 6 (some .boolean)) rm_La_passOn D (tyA cA) (wC ad cA) [.ref (ad 22), .int x1] (te, ru, au, re, la, sp, le) (fun u : La => (te, ru, au, re, u, sp, le)) (fun (r : Int32) (u : La) => Q r u) := by
  refine rwI_of (by decide) (Nat.le_of_ble_eq_true rfl) ?_
  intro p e s m below meth c S hr hlk hK A hA I ls hl
  have hl : lv_has ls 6 [(0, .ref (ad 22)), (1, .int x1)] := hl
  refine lv_iconst (v := (0 : Int32)) S.1 S.2.1 d_La_passOn_0 rfl ?_
  refine lv_istore_n (lv' := [(2, .int (0 : Int32)), (0, .ref (ad 22)), (1, .int x1)]) S.1 S.2.1 d_La_passOn_1 rfl hl (by decide) rfl (fun ls hl => ?_)
  refine lv_aload_n S.1 S.2.1 d_La_passOn_2 rfl (lv_at hl 1 rfl) ?_
  refine g_La_terms S hK I.1 d_La_passOn_3 ?_
  refine callV_roi S (c_Te_count l D ad cA _ _ _ _ _ _ _ _ h) (mkV S.2.2.2.2 ml_La_45 k_Te_count rfl rfl ⟨Nat.le_of_ble_eq_true rfl, Nat.le_of_ble_eq_true rfl⟩) (rv_Te hK I.1) hK I.1 hl.1 rfl rfl (Nat.le_of_ble_eq_true rfl) d_La_passOn_6 ⟨Nat.zero_le _, Nat.zero_le _⟩ (fun r6 h => ?_)
  refine lv_istore_n (lv' := [(3, .int r6), (2, .int (0 : Int32)), (0, .ref (ad 22)), (1, .int x1)]) S.1 S.2.1 d_La_passOn_9 rfl hl (by decide) rfl (fun ls hl => ?_)
  refine lv_iconst (v := (0 : Int32)) S.1 S.2.1 d_La_passOn_10 rfl ?_
  refine lv_istore (lv' := [(4, .int (0 : Int32)), (3, .int r6), (2, .int (0 : Int32)), (0, .ref (ad 22)), (1, .int x1)]) S.1 S.2.1 d_La_passOn_11 hl (by decide) rfl (fun ls hl => ?_)
  obtain ⟨n', h⟩ := h
  exact n_La_passOn_13 S hr hlk hK hA n' _ _ _ _ _ _ _ h (lv_sub hl [3, 4, 2, 1, 0] rfl) I

set_option maxHeartbeats 4000000 in
set_option maxRecDepth 100000 in
theorem n_La_spread_12 {p : Program} {l : Launch} {e : Env} {s : State} {m : MethodId} {args : Array Value} {below : List Frame} {meth : Method} {c : Code} {D : va_G} {A : Nat → Prop} {ad : Nat → Nat} {cA : ClassId × ClassId × ClassId} {te : Te} {ru : Ru} {au : Au} {re : Re} {sp : Sp} {le : Le} {x1 : Int32} {Q : La → Prop} (S : CallFix p m c b_La_spread 4 s args gtbl R_La) (hr : meth.sig.returnType = none) (hlk : meth.locks = false) (hK : gK D (tyA cA) s) (hA : ∀ q : Nat, s.heap.size ≤ q → A q) : ∀ n : Nat, ∀ (ls : Array Slot) (H : Heap) (locs : List Loc) (x2 : Int32) (x3 : Int32) (la : La), p_La_spread_12 x1 te au re Q n x2 x3 la → lv_has ls 4 [(0, .ref (ad 22)), (1, .int x1), (2, .int x2), (3, .int x3)] → gIn D A s (wC ad cA) (te, ru, au, re, la, sp, le) H locs → W p l e rm_La_spread s m args below meth c H locs 0 0 (qV D (tyA cA) A (wC ad cA) (fun u : La => (te, ru, au, re, u, sp, le)) (fun u : La => Q u) below args s) (F0 m 12 ls []) := by
  intro n
  induction n with
  | zero =>
    intro ls H locs x2 x3 la h
    exact (show False from h).elim
  | succ n ih =>
    intro ls H locs x2 x3 la h hl I
    refine lv_iload_n S.1 S.2.1 d_La_spread_12 rfl (lv_at hl 3 rfl) ?_
    refine lv_sipush (v := (289 : Int32)) S.1 S.2.1 d_La_spread_13 rfl ?_
    refine lv_icmp_ge (tgt := 44) S.1 S.2.1 d_La_spread_16 (by decide) (fun hc => ?_) (fun hc => ?_)
    · have h := h.1 hc
      exact ret_rwv S hr hlk hK I h d_La_spread_44
    · have h := h.2 hc
      refine lv_iload_n S.1 S.2.1 d_La_spread_19 rfl (lv_at hl 2 rfl) ?_
      refine lv_if_eq (tgt := 44) S.1 S.2.1 d_La_spread_20 (by decide) (fun hc => ?_) (fun hc => ?_)
      · have h := h.1 hc
        exact ret_rwv S hr hlk hK I h d_La_spread_44
      · have h := h.2 hc
        refine lv_aload_n S.1 S.2.1 d_La_spread_23 rfl (lv_at hl 0 rfl) ?_
        refine callV_rwi S (c_La_runFromParts l D ad cA _ _ _ _ _ _ _ _ h) (mkV S.2.2.2.2 ml_La_33 k_La_runFromParts rfl rfl ⟨Nat.le_of_ble_eq_true rfl, Nat.le_of_ble_eq_true rfl⟩) (rv_La hK I.1) hK hA I hl.1 rfl rfl (Nat.le_of_ble_eq_true rfl) d_La_spread_24 ⟨Nat.zero_le _, Nat.zero_le _⟩ (fun r24 la24 H locs h I => ?_)
        refine lv_istore_n (lv' := [(2, .int r24), (0, .ref (ad 22)), (1, .int x1), (3, .int x3)]) S.1 S.2.1 d_La_spread_27 rfl hl (by decide) rfl (fun ls hl => ?_)
        refine lv_aload_n S.1 S.2.1 d_La_spread_28 rfl (lv_at hl 1 rfl) ?_
        refine lv_iload_n S.1 S.2.1 d_La_spread_29 rfl (lv_at hl 2 rfl) ?_
        refine callV_rwi S (c_La_passOn l D ad cA _ _ _ _ _ _ _ _ _ h) (mkV S.2.2.2.2 ml_La_41 k_La_passOn rfl rfl ⟨Nat.le_of_ble_eq_true rfl, Nat.le_of_ble_eq_true rfl⟩) (rv_La hK I.1) hK hA I hl.1 rfl rfl (Nat.le_of_ble_eq_true rfl) d_La_spread_30 ⟨Nat.zero_le _, Nat.zero_le _⟩ (fun r30 la30 H locs h I => ?_)
        refine lv_if_eq (tgt := 38) S.1 S.2.1 d_La_spread_33 (by decide) (fun hc => ?_) (fun hc => ?_)
        · have h := h.1 hc
          refine lv_iinc (k := 3) (v := x3 + (1 : Int32)) (lv' := [(3, .int (x3 + (1 : Int32))), (2, .int r24), (0, .ref (ad 22)), (1, .int x1)]) S.1 S.2.1 d_La_spread_38 hl rfl rfl (by decide) rfl (fun ls hl => ?_)
          refine lv_goto (tgt := 12) S.1 S.2.1 d_La_spread_41 (by decide) ?_
          exact ih _ _ _ _ _ _ h (lv_sub hl [2, 3, 1, 0] rfl) I
        · have h := h.2 hc
          refine lv_iconst (v := (1 : Int32)) S.1 S.2.1 d_La_spread_36 rfl ?_
          refine lv_istore_n (lv' := [(2, .int (1 : Int32)), (0, .ref (ad 22)), (1, .int x1), (3, .int x3)]) S.1 S.2.1 d_La_spread_37 rfl hl (by decide) rfl (fun ls hl => ?_)
          refine lv_iinc (k := 3) (v := x3 + (1 : Int32)) (lv' := [(3, .int (x3 + (1 : Int32))), (2, .int (1 : Int32)), (0, .ref (ad 22)), (1, .int x1)]) S.1 S.2.1 d_La_spread_38 hl rfl rfl (by decide) rfl (fun ls hl => ?_)
          refine lv_goto (tgt := 12) S.1 S.2.1 d_La_spread_41 (by decide) ?_
          exact ih _ _ _ _ _ _ h (lv_sub hl [2, 3, 1, 0] rfl) I
set_option maxHeartbeats 4000000 in
set_option maxRecDepth 100000 in
theorem c_La_spread (l : Launch) (D : va_G) (ad : Nat → Nat) (cA : ClassId × ClassId × ClassId) (te : Te) (ru : Ru) (au : Au) (re : Re) (la : La) (sp : Sp) (le : Le) (x1 : Int32) (Q : La → Prop) (h : p_La_spread x1 te au re la Q) : rwV l y_La_spread (wsOf y_La_spread b_La_spread 4 none) rm_La_spread D (tyA cA) (wC ad cA) [.ref (ad 22), .int x1] (te, ru, au, re, la, sp, le) (fun u : La => (te, ru, au, re, u, sp, le)) (fun u : La => Q u) := by
  refine rwV_of (by decide) (Nat.le_of_ble_eq_true rfl) ?_
  intro p e s m below meth c S hr hlk hK A hA I ls hl
  have hl : lv_has ls 4 [(0, .ref (ad 22)), (1, .int x1)] := hl
  refine lv_aload_n S.1 S.2.1 d_La_spread_0 rfl (lv_at hl 0 rfl) ?_
  refine g_La_states S hK I.1 d_La_spread_1 ?_
  refine lv_iconst (v := (0 : Int32)) S.1 S.2.1 d_La_spread_4 rfl ?_
  refine callS_rwv S (c_Ar_fillI_states l D ad cA _ _ _ _ _ _ _ _ _ h) (mkS S.2.2.2.2 ml_La_27 k_Ar_fillI rfl rfl ⟨Nat.le_of_ble_eq_true rfl, Nat.le_of_ble_eq_true rfl⟩) hK hA I hl.1 rfl rfl (Nat.le_of_ble_eq_true rfl) d_La_spread_5 ⟨Nat.zero_le _, Nat.zero_le _⟩ (fun la5 H locs h I => ?_)
  refine lv_iconst (v := (1 : Int32)) S.1 S.2.1 d_La_spread_8 rfl ?_
  refine lv_istore_n (lv' := [(2, .int (1 : Int32)), (0, .ref (ad 22)), (1, .int x1)]) S.1 S.2.1 d_La_spread_9 rfl hl (by decide) rfl (fun ls hl => ?_)
  refine lv_iconst (v := (0 : Int32)) S.1 S.2.1 d_La_spread_10 rfl ?_
  refine lv_istore_n (lv' := [(3, .int (0 : Int32)), (2, .int (1 : Int32)), (0, .ref (ad 22)), (1, .int x1)]) S.1 S.2.1 d_La_spread_11 rfl hl (by decide) rfl (fun ls hl => ?_)
  obtain ⟨n', h⟩ := h
  exact n_La_spread_12 S hr hlk hK hA n' _ _ _ _ _ _ h (lv_sub hl [2, 3, 1, 0] rfl) I

set_option maxHeartbeats 4000000 in
set_option maxRecDepth 100000 in
theorem c_La_statesBefore (l : Launch) (D : va_G) (ad : Nat → Nat) (cA : ClassId × ClassId × ClassId) (te : Te) (ru : Ru) (au : Au) (re : Re) (la : La) (sp : Sp) (le : Le) (x1 : Int32) (Q : Int32 → La → Prop) (h : p_La_statesBefore x1 te au re la Q) : rwI l y_La_statesBefore (wsOf y_La_statesBefore b_La_statesBefore 2 (some .int)) rm_La_statesBefore D (tyA cA) (wC ad cA) [.ref (ad 22), .int x1] (te, ru, au, re, la, sp, le) (fun u : La => (te, ru, au, re, u, sp, le)) (fun (r : Int32) (u : La) => Q r u) := by
  refine rwI_of (by decide) (Nat.le_of_ble_eq_true rfl) ?_
  intro p e s m below meth c S hr hlk hK A hA I ls hl
  have hl : lv_has ls 2 [(0, .ref (ad 22)), (1, .int x1)] := hl
  refine lv_aload_n S.1 S.2.1 d_La_statesBefore_0 rfl (lv_at hl 0 rfl) ?_
  refine lv_iconst (v := (1 : Int32)) S.1 S.2.1 d_La_statesBefore_1 rfl ?_
  refine callV_rwv S (c_La_spread l D ad cA _ _ _ _ _ _ _ _ _ h) (mkV S.2.2.2.2 ml_La_37 k_La_spread rfl rfl ⟨Nat.le_of_ble_eq_true rfl, Nat.le_of_ble_eq_true rfl⟩) (rv_La hK I.1) hK hA I hl.1 rfl rfl (Nat.le_of_ble_eq_true rfl) d_La_statesBefore_2 ⟨Nat.zero_le _, Nat.zero_le _⟩ (fun la2 H locs h I => ?_)
  refine lv_aload_n S.1 S.2.1 d_La_statesBefore_5 rfl (lv_at hl 0 rfl) ?_
  refine g_La_states S hK I.1 d_La_statesBefore_6 ?_
  refine lv_iload_n S.1 S.2.1 d_La_statesBefore_9 rfl (lv_at hl 1 rfl) ?_
  obtain ⟨hin, h⟩ := h
  refine a_La_states S hK I.1 hin d_La_statesBefore_10 ?_
  exact ret_rwi S hr hlk hK I h d_La_statesBefore_11

set_option maxHeartbeats 4000000 in
set_option maxRecDepth 100000 in
theorem c_La_statesBehind (l : Launch) (D : va_G) (ad : Nat → Nat) (cA : ClassId × ClassId × ClassId) (te : Te) (ru : Ru) (au : Au) (re : Re) (la : La) (sp : Sp) (le : Le) (x1 : Int32) (Q : Int32 → La → Prop) (h : p_La_statesBehind x1 te au re la Q) : rwI l y_La_statesBehind (wsOf y_La_statesBehind b_La_statesBehind 2 (some .int)) rm_La_statesBehind D (tyA cA) (wC ad cA) [.ref (ad 22), .int x1] (te, ru, au, re, la, sp, le) (fun u : La => (te, ru, au, re, u, sp, le)) (fun (r : Int32) (u : La) => Q r u) := by
  refine rwI_of (by decide) (Nat.le_of_ble_eq_true rfl) ?_
  intro p e s m below meth c S hr hlk hK A hA I ls hl
  have hl : lv_has ls 2 [(0, .ref (ad 22)), (1, .int x1)] := hl
  refine lv_aload_n S.1 S.2.1 d_La_statesBehind_0 rfl (lv_at hl 0 rfl) ?_
  refine lv_iconst (v := (0 : Int32)) S.1 S.2.1 d_La_statesBehind_1 rfl ?_
  refine callV_rwv S (c_La_spread l D ad cA _ _ _ _ _ _ _ _ _ h) (mkV S.2.2.2.2 ml_La_37 k_La_spread rfl rfl ⟨Nat.le_of_ble_eq_true rfl, Nat.le_of_ble_eq_true rfl⟩) (rv_La hK I.1) hK hA I hl.1 rfl rfl (Nat.le_of_ble_eq_true rfl) d_La_statesBehind_2 ⟨Nat.zero_le _, Nat.zero_le _⟩ (fun la2 H locs h I => ?_)
  refine lv_aload_n S.1 S.2.1 d_La_statesBehind_5 rfl (lv_at hl 0 rfl) ?_
  refine g_La_states S hK I.1 d_La_statesBehind_6 ?_
  refine lv_iload_n S.1 S.2.1 d_La_statesBehind_9 rfl (lv_at hl 1 rfl) ?_
  obtain ⟨hin, h⟩ := h
  refine a_La_states S hK I.1 hin d_La_statesBehind_10 ?_
  exact ret_rwi S hr hlk hK I h d_La_statesBehind_11
