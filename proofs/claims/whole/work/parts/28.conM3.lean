set_option maxHeartbeats 4000000 in
set_option maxRecDepth 100000 in
theorem n_Mo_stand_43 {p : Program} {l : Launch} {e : Env} {s : State} {m : MethodId} {args : Array Value} {below : List Frame} {meth : Method} {c : Code} {D : va_G} {A : Nat → Prop} {ad : Nat → Nat} {cA : ClassId × ClassId × ClassId}  {x1 : Int32} {Q : Mo → Prop} (S : CallFix p m c b_Mo_stand 5 s args gtbl R_Mo) (hr : meth.sig.returnType = none) (hlk : meth.locks = false) (hK : gK D (tyA cA) s) (hA : ∀ q : Nat, s.heap.size ≤ q → A q) {k24 : Int32 → Mo → Prop} (hk24 : ∀ (ls : Array Slot) (H : Heap) (locs : List Loc) (x2 : Int32) (mo : Mo), k24 x2 mo → lv_has ls 5 [(0, .ref (ad 0)), (1, .int x1), (2, .int x2)] → gIn D A s (wM ad cA) mo H locs → W p l e rm_Mo_stand s m args below meth c H locs 0 0 (qV D (tyA cA) A (wM ad cA) (fun u : Mo => u) (fun u : Mo => Q u) below args s) (F0 m 24 ls [])) {k32 : Int32 → Int32 → Mo → Prop} (hk32 : ∀ (ls : Array Slot) (H : Heap) (locs : List Loc) (x2 : Int32) (x3 : Int32) (mo : Mo), k32 x2 x3 mo → lv_has ls 5 [(0, .ref (ad 0)), (1, .int x1), (2, .int x2), (3, .int x3)] → gIn D A s (wM ad cA) mo H locs → W p l e rm_Mo_stand s m args below meth c H locs 0 0 (qV D (tyA cA) A (wM ad cA) (fun u : Mo => u) (fun u : Mo => Q u) below args s) (F0 m 32 ls [])) : ∀ n : Nat, ∀ (ls : Array Slot) (H : Heap) (locs : List Loc) (x2 : Int32) (x3 : Int32) (x4 : Int32) (mo : Mo), p_Mo_stand_43 x1 Q k24 k32 n x2 x3 x4 mo → lv_has ls 5 [(0, .ref (ad 0)), (1, .int x1), (2, .int x2), (3, .int x3), (4, .int x4)] → gIn D A s (wM ad cA) mo H locs → W p l e rm_Mo_stand s m args below meth c H locs 0 0 (qV D (tyA cA) A (wM ad cA) (fun u : Mo => u) (fun u : Mo => Q u) below args s) (F0 m 43 ls []) := by
  intro n
  induction n with
  | zero =>
    intro ls H locs x2 x3 x4 mo h
    exact (show False from h).elim
  | succ n ih =>
    intro ls H locs x2 x3 x4 mo h hl I
    refine lv_iload S.1 S.2.1 d_Mo_stand_43 (lv_at hl 4 rfl) ?_
    refine lv_bipush (v := (6 : Int32)) S.1 S.2.1 d_Mo_stand_45 rfl ?_
    refine lv_icmp_ge (tgt := 97) S.1 S.2.1 d_Mo_stand_47 (by decide) (fun hc => ?_) (fun hc => ?_)
    · have h := h.1 hc
      refine lv_iinc (k := 3) (v := x3 + (1 : Int32)) (lv' := [(3, .int (x3 + (1 : Int32))), (0, .ref (ad 0)), (1, .int x1), (2, .int x2), (4, .int x4)]) S.1 S.2.1 d_Mo_stand_97 hl rfl rfl (by decide) rfl (fun ls hl => ?_)
      refine lv_goto (tgt := 32) S.1 S.2.1 d_Mo_stand_100 (by decide) ?_
      exact hk32 _ _ _ _ _ _ h (lv_sub hl [1, 2, 3, 0] rfl) I
    · have h := h.2 hc
      refine lv_aload_n S.1 S.2.1 d_Mo_stand_50 rfl (lv_at hl 0 rfl) ?_
      refine g_Mo_states S hK I.1 d_Mo_stand_51 ?_
      refine lv_bipush (v := (6 : Int32)) S.1 S.2.1 d_Mo_stand_54 rfl ?_
      refine lv_iload_n S.1 S.2.1 d_Mo_stand_56 rfl (lv_at hl 3 rfl) ?_
      refine lv_imul S.1 S.2.1 d_Mo_stand_57 ?_
      refine lv_iload S.1 S.2.1 d_Mo_stand_58 (lv_at hl 4 rfl) ?_
      refine lv_iadd S.1 S.2.1 d_Mo_stand_60 ?_
      obtain ⟨hin, h⟩ := h
      refine a_Mo_states S hK I.1 hin d_Mo_stand_61 ?_
      refine lv_if_ne (tgt := 91) S.1 S.2.1 d_Mo_stand_62 (by decide) (fun hc => ?_) (fun hc => ?_)
      · have h := h.1 hc
        refine lv_iinc (k := 4) (v := x4 + (1 : Int32)) (lv' := [(4, .int (x4 + (1 : Int32))), (0, .ref (ad 0)), (1, .int x1), (2, .int x2), (3, .int x3)]) S.1 S.2.1 d_Mo_stand_91 hl rfl rfl (by decide) rfl (fun ls hl => ?_)
        refine lv_goto (tgt := 43) S.1 S.2.1 d_Mo_stand_94 (by decide) ?_
        exact ih _ _ _ _ _ _ _ h (lv_sub hl [1, 2, 3, 4, 0] rfl) I
      · have h := h.2 hc
        refine lv_aload_n S.1 S.2.1 d_Mo_stand_65 rfl (lv_at hl 0 rfl) ?_
        refine lv_iload_n S.1 S.2.1 d_Mo_stand_66 rfl (lv_at hl 3 rfl) ?_
        refine lv_iload S.1 S.2.1 d_Mo_stand_67 (lv_at hl 4 rfl) ?_
        refine lv_iload_n S.1 S.2.1 d_Mo_stand_69 rfl (lv_at hl 1 rfl) ?_
        refine callV_roi S (c_Mo_stands l D ad cA _ _ _ _ _ h) (mkV S.2.2.2.2 ml_Mo_129 k_Mo_stands rfl rfl ⟨Nat.le_of_ble_eq_true rfl, Nat.le_of_ble_eq_true rfl⟩) (rv_Mo hK I.1) hK I.1 hl.1 rfl rfl (Nat.le_of_ble_eq_true rfl) d_Mo_stand_70 ⟨Nat.zero_le _, Nat.zero_le _⟩ (fun r70 h => ?_)
        refine lv_if_eq (tgt := 91) S.1 S.2.1 d_Mo_stand_73 (by decide) (fun hc => ?_) (fun hc => ?_)
        · have h := h.1 hc
          refine lv_iinc (k := 4) (v := x4 + (1 : Int32)) (lv' := [(4, .int (x4 + (1 : Int32))), (0, .ref (ad 0)), (1, .int x1), (2, .int x2), (3, .int x3)]) S.1 S.2.1 d_Mo_stand_91 hl rfl rfl (by decide) rfl (fun ls hl => ?_)
          refine lv_goto (tgt := 43) S.1 S.2.1 d_Mo_stand_94 (by decide) ?_
          exact ih _ _ _ _ _ _ _ h (lv_sub hl [1, 2, 3, 4, 0] rfl) I
        · have h := h.2 hc
          refine lv_aload_n S.1 S.2.1 d_Mo_stand_76 rfl (lv_at hl 0 rfl) ?_
          refine g_Mo_states S hK I.1 d_Mo_stand_77 ?_
          refine lv_bipush (v := (6 : Int32)) S.1 S.2.1 d_Mo_stand_80 rfl ?_
          refine lv_iload_n S.1 S.2.1 d_Mo_stand_82 rfl (lv_at hl 3 rfl) ?_
          refine lv_imul S.1 S.2.1 d_Mo_stand_83 ?_
          refine lv_iload S.1 S.2.1 d_Mo_stand_84 (lv_at hl 4 rfl) ?_
          refine lv_iadd S.1 S.2.1 d_Mo_stand_86 ?_
          refine lv_iconst (v := (1 : Int32)) S.1 S.2.1 d_Mo_stand_87 rfl ?_
          obtain ⟨hin, h⟩ := h
          refine s_Mo_states S hK I hin d_Mo_stand_88 (fun H locs mo88 emo88 I => ?_)
          have h := h mo88 emo88
          refine lv_iconst (v := (1 : Int32)) S.1 S.2.1 d_Mo_stand_89 rfl ?_
          refine lv_istore_n (lv' := [(2, .int (1 : Int32)), (0, .ref (ad 0)), (1, .int x1), (3, .int x3), (4, .int x4)]) S.1 S.2.1 d_Mo_stand_90 rfl hl (by decide) rfl (fun ls hl => ?_)
          refine lv_iinc (k := 4) (v := x4 + (1 : Int32)) (lv' := [(4, .int (x4 + (1 : Int32))), (2, .int (1 : Int32)), (0, .ref (ad 0)), (1, .int x1), (3, .int x3)]) S.1 S.2.1 d_Mo_stand_91 hl rfl rfl (by decide) rfl (fun ls hl => ?_)
          refine lv_goto (tgt := 43) S.1 S.2.1 d_Mo_stand_94 (by decide) ?_
          exact ih _ _ _ _ _ _ _ h (lv_sub hl [2, 3, 1, 4, 0] rfl) I
set_option maxHeartbeats 4000000 in
set_option maxRecDepth 100000 in
theorem n_Mo_stand_32 {p : Program} {l : Launch} {e : Env} {s : State} {m : MethodId} {args : Array Value} {below : List Frame} {meth : Method} {c : Code} {D : va_G} {A : Nat → Prop} {ad : Nat → Nat} {cA : ClassId × ClassId × ClassId}  {x1 : Int32} {Q : Mo → Prop} (S : CallFix p m c b_Mo_stand 5 s args gtbl R_Mo) (hr : meth.sig.returnType = none) (hlk : meth.locks = false) (hK : gK D (tyA cA) s) (hA : ∀ q : Nat, s.heap.size ≤ q → A q) {k24 : Int32 → Mo → Prop} (hk24 : ∀ (ls : Array Slot) (H : Heap) (locs : List Loc) (x2 : Int32) (mo : Mo), k24 x2 mo → lv_has ls 5 [(0, .ref (ad 0)), (1, .int x1), (2, .int x2)] → gIn D A s (wM ad cA) mo H locs → W p l e rm_Mo_stand s m args below meth c H locs 0 0 (qV D (tyA cA) A (wM ad cA) (fun u : Mo => u) (fun u : Mo => Q u) below args s) (F0 m 24 ls [])) : ∀ n : Nat, ∀ (ls : Array Slot) (H : Heap) (locs : List Loc) (x2 : Int32) (x3 : Int32) (mo : Mo), p_Mo_stand_32 x1 Q k24 n x2 x3 mo → lv_has ls 5 [(0, .ref (ad 0)), (1, .int x1), (2, .int x2), (3, .int x3)] → gIn D A s (wM ad cA) mo H locs → W p l e rm_Mo_stand s m args below meth c H locs 0 0 (qV D (tyA cA) A (wM ad cA) (fun u : Mo => u) (fun u : Mo => Q u) below args s) (F0 m 32 ls []) := by
  intro n
  induction n with
  | zero =>
    intro ls H locs x2 x3 mo h
    exact (show False from h).elim
  | succ n ih =>
    intro ls H locs x2 x3 mo h hl I
    refine lv_iload_n S.1 S.2.1 d_Mo_stand_32 rfl (lv_at hl 3 rfl) ?_
    refine lv_aload_n S.1 S.2.1 d_Mo_stand_33 rfl (lv_at hl 0 rfl) ?_
    refine g_Mo_count S hK I.1 d_Mo_stand_34 ?_
    refine lv_icmp_ge (tgt := 103) S.1 S.2.1 d_Mo_stand_37 (by decide) (fun hc => ?_) (fun hc => ?_)
    · have h := h.1 hc
      refine lv_goto (tgt := 24) S.1 S.2.1 d_Mo_stand_103 (by decide) ?_
      exact hk24 _ _ _ _ _ h (lv_sub hl [0, 1, 2] rfl) I
    · have h := h.2 hc
      refine lv_iconst (v := (0 : Int32)) S.1 S.2.1 d_Mo_stand_40 rfl ?_
      refine lv_istore (lv' := [(4, .int (0 : Int32)), (0, .ref (ad 0)), (1, .int x1), (2, .int x2), (3, .int x3)]) S.1 S.2.1 d_Mo_stand_41 hl (by decide) rfl (fun ls hl => ?_)
      obtain ⟨n', h⟩ := h
      exact n_Mo_stand_43 S hr hlk hK hA hk24 ih n' _ _ _ _ _ _ _ h (lv_sub hl [1, 2, 3, 4, 0] rfl) I
set_option maxHeartbeats 4000000 in
set_option maxRecDepth 100000 in
theorem n_Mo_stand_24 {p : Program} {l : Launch} {e : Env} {s : State} {m : MethodId} {args : Array Value} {below : List Frame} {meth : Method} {c : Code} {D : va_G} {A : Nat → Prop} {ad : Nat → Nat} {cA : ClassId × ClassId × ClassId}  {x1 : Int32} {Q : Mo → Prop} (S : CallFix p m c b_Mo_stand 5 s args gtbl R_Mo) (hr : meth.sig.returnType = none) (hlk : meth.locks = false) (hK : gK D (tyA cA) s) (hA : ∀ q : Nat, s.heap.size ≤ q → A q) : ∀ n : Nat, ∀ (ls : Array Slot) (H : Heap) (locs : List Loc) (x2 : Int32) (mo : Mo), p_Mo_stand_24 x1 Q n x2 mo → lv_has ls 5 [(0, .ref (ad 0)), (1, .int x1), (2, .int x2)] → gIn D A s (wM ad cA) mo H locs → W p l e rm_Mo_stand s m args below meth c H locs 0 0 (qV D (tyA cA) A (wM ad cA) (fun u : Mo => u) (fun u : Mo => Q u) below args s) (F0 m 24 ls []) := by
  intro n
  induction n with
  | zero =>
    intro ls H locs x2 mo h
    exact (show False from h).elim
  | succ n ih =>
    intro ls H locs x2 mo h hl I
    refine lv_iload_n S.1 S.2.1 d_Mo_stand_24 rfl (lv_at hl 2 rfl) ?_
    refine lv_if_eq (tgt := 106) S.1 S.2.1 d_Mo_stand_25 (by decide) (fun hc => ?_) (fun hc => ?_)
    · have h := h.1 hc
      exact ret_rwv S hr hlk hK I h d_Mo_stand_106
    · have h := h.2 hc
      refine lv_iconst (v := (0 : Int32)) S.1 S.2.1 d_Mo_stand_28 rfl ?_
      refine lv_istore_n (lv' := [(2, .int (0 : Int32)), (0, .ref (ad 0)), (1, .int x1)]) S.1 S.2.1 d_Mo_stand_29 rfl hl (by decide) rfl (fun ls hl => ?_)
      refine lv_iconst (v := (0 : Int32)) S.1 S.2.1 d_Mo_stand_30 rfl ?_
      refine lv_istore_n (lv' := [(3, .int (0 : Int32)), (2, .int (0 : Int32)), (0, .ref (ad 0)), (1, .int x1)]) S.1 S.2.1 d_Mo_stand_31 rfl hl (by decide) rfl (fun ls hl => ?_)
      obtain ⟨n', h⟩ := h
      exact n_Mo_stand_32 S hr hlk hK hA ih n' _ _ _ _ _ _ h (lv_sub hl [2, 3, 1, 0] rfl) I
set_option maxHeartbeats 4000000 in
set_option maxRecDepth 100000 in
theorem n_Mo_stand_2 {p : Program} {l : Launch} {e : Env} {s : State} {m : MethodId} {args : Array Value} {below : List Frame} {meth : Method} {c : Code} {D : va_G} {A : Nat → Prop} {ad : Nat → Nat} {cA : ClassId × ClassId × ClassId}  {x1 : Int32} {Q : Mo → Prop} (S : CallFix p m c b_Mo_stand 5 s args gtbl R_Mo) (hr : meth.sig.returnType = none) (hlk : meth.locks = false) (hK : gK D (tyA cA) s) (hA : ∀ q : Nat, s.heap.size ≤ q → A q) : ∀ n : Nat, ∀ (ls : Array Slot) (H : Heap) (locs : List Loc) (x2 : Int32) (mo : Mo), p_Mo_stand_2 x1 Q n x2 mo → lv_has ls 5 [(0, .ref (ad 0)), (1, .int x1), (2, .int x2)] → gIn D A s (wM ad cA) mo H locs → W p l e rm_Mo_stand s m args below meth c H locs 0 0 (qV D (tyA cA) A (wM ad cA) (fun u : Mo => u) (fun u : Mo => Q u) below args s) (F0 m 2 ls []) := by
  intro n
  induction n with
  | zero =>
    intro ls H locs x2 mo h
    exact (show False from h).elim
  | succ n ih =>
    intro ls H locs x2 mo h hl I
    refine lv_iload_n S.1 S.2.1 d_Mo_stand_2 rfl (lv_at hl 2 rfl) ?_
    refine lv_sipush (v := (288 : Int32)) S.1 S.2.1 d_Mo_stand_3 rfl ?_
    refine lv_icmp_ge (tgt := 22) S.1 S.2.1 d_Mo_stand_6 (by decide) (fun hc => ?_) (fun hc => ?_)
    · have h := h.1 hc
      refine lv_iconst (v := (1 : Int32)) S.1 S.2.1 d_Mo_stand_22 rfl ?_
      refine lv_istore_n (lv' := [(2, .int (1 : Int32)), (0, .ref (ad 0)), (1, .int x1)]) S.1 S.2.1 d_Mo_stand_23 rfl hl (by decide) rfl (fun ls hl => ?_)
      obtain ⟨n', h⟩ := h
      exact n_Mo_stand_24 S hr hlk hK hA n' _ _ _ _ _ h (lv_sub hl [1, 2, 0] rfl) I
    · have h := h.2 hc
      refine lv_aload_n S.1 S.2.1 d_Mo_stand_9 rfl (lv_at hl 0 rfl) ?_
      refine g_Mo_states S hK I.1 d_Mo_stand_10 ?_
      refine lv_iload_n S.1 S.2.1 d_Mo_stand_13 rfl (lv_at hl 2 rfl) ?_
      refine lv_iconst (v := (0 : Int32)) S.1 S.2.1 d_Mo_stand_14 rfl ?_
      obtain ⟨hin, h⟩ := h
      refine s_Mo_states S hK I hin d_Mo_stand_15 (fun H locs mo15 emo15 I => ?_)
      have h := h mo15 emo15
      refine lv_iinc (k := 2) (v := x2 + (1 : Int32)) (lv' := [(2, .int (x2 + (1 : Int32))), (0, .ref (ad 0)), (1, .int x1)]) S.1 S.2.1 d_Mo_stand_16 hl rfl rfl (by decide) rfl (fun ls hl => ?_)
      refine lv_goto (tgt := 2) S.1 S.2.1 d_Mo_stand_19 (by decide) ?_
      exact ih _ _ _ _ _ h (lv_sub hl [1, 2, 0] rfl) I
set_option maxHeartbeats 4000000 in
set_option maxRecDepth 100000 in
theorem c_Mo_stand (l : Launch) (D : va_G) (ad : Nat → Nat) (cA : ClassId × ClassId × ClassId) (mo : Mo) (x1 : Int32) (Q : Mo → Prop) (h : p_Mo_stand x1 mo Q) : rwV l y_Mo_stand (wsOf y_Mo_stand b_Mo_stand 5 none) rm_Mo_stand D (tyA cA) (wM ad cA) [.ref (ad 0), .int x1] mo (fun u : Mo => u) (fun u : Mo => Q u) := by
  refine rwV_of (by decide) (Nat.le_of_ble_eq_true rfl) ?_
  intro p e s m below meth c S hr hlk hK A hA I ls hl
  have hl : lv_has ls 5 [(0, .ref (ad 0)), (1, .int x1)] := hl
  refine lv_iconst (v := (0 : Int32)) S.1 S.2.1 d_Mo_stand_0 rfl ?_
  refine lv_istore_n (lv' := [(2, .int (0 : Int32)), (0, .ref (ad 0)), (1, .int x1)]) S.1 S.2.1 d_Mo_stand_1 rfl hl (by decide) rfl (fun ls hl => ?_)
  obtain ⟨n', h⟩ := h
  exact n_Mo_stand_2 S hr hlk hK hA n' _ _ _ _ _ h (lv_sub hl [1, 2, 0] rfl) I

set_option maxHeartbeats 4000000 in
set_option maxRecDepth 100000 in
theorem n_Mo_isFinal_60 {p : Program} {l : Launch} {e : Env} {s : State} {m : MethodId} {args : Array Value} {below : List Frame} {meth : Method} {c : Code} {D : va_G} {A : Nat → Prop} {ad : Nat → Nat} {cA : ClassId × ClassId × ClassId}  {x1 : Int32} {x2 : Int32} {Q : Int32 → Mo → Prop} (S : CallFix p m c b_Mo_isFinal 5 s args gtbl R_Mo) (hr : meth.sig.returnType = (some .boolean)) (hlk : meth.locks = false) (hK : gK D (tyA cA) s) (hA : ∀ q : Nat, s.heap.size ≤ q → A q) {k21 : Int32 → Int32 → Mo → Prop} (hk21 : ∀ (ls : Array Slot) (H : Heap) (locs : List Loc) (x3 : Int32) (x4 : Int32) (mo : Mo), k21 x3 x4 mo → lv_has ls 5 [(0, .ref (ad 0)), (1, .int x1), (3, .int x3), (4, .int x4)] → gIn D A s (wM ad cA) mo H locs → W p l e rm_Mo_isFinal s m args below meth c H locs 0 0 (qI D (tyA cA) A (wM ad cA) (fun u : Mo => u) (fun (r : Int32) (u : Mo) => Q r u) below args s) (F0 m 21 ls [])) : ∀ (ls : Array Slot) (H : Heap) (locs : List Loc) (x4 : Int32) (mo : Mo), p_Mo_isFinal_60 x1 x2 Q k21 x4 mo → lv_has ls 5 [(0, .ref (ad 0)), (1, .int x1), (4, .int x4)] → gIn D A s (wM ad cA) mo H locs → W p l e rm_Mo_isFinal s m args below meth c H locs 0 0 (qI D (tyA cA) A (wM ad cA) (fun u : Mo => u) (fun (r : Int32) (u : Mo) => Q r u) below args s) (F0 m 60 ls []) := by
  intro ls H locs x4 mo h hl I
  refine lv_iconst (v := (1 : Int32)) S.1 S.2.1 d_Mo_isFinal_60 rfl ?_
  refine lv_goto (tgt := 65) S.1 S.2.1 d_Mo_isFinal_61 (by decide) ?_
  refine lv_istore_n (lv' := [(3, .int (1 : Int32)), (0, .ref (ad 0)), (1, .int x1), (4, .int x4)]) S.1 S.2.1 d_Mo_isFinal_65 rfl hl (by decide) rfl (fun ls hl => ?_)
  refine lv_iinc (k := 3) (v := x4 + (1 : Int32)) (lv' := [(4, .int (x4 + (1 : Int32))), (3, .int (1 : Int32)), (0, .ref (ad 0)), (1, .int x1)]) S.1 S.2.1 d_Mo_isFinal_66 hl rfl rfl (by decide) rfl (fun ls hl => ?_)
  refine lv_goto (tgt := 21) S.1 S.2.1 d_Mo_isFinal_69 (by decide) ?_
  exact hk21 _ _ _ _ _ _ h (lv_sub hl [2, 3, 1, 0] rfl) I
set_option maxHeartbeats 4000000 in
set_option maxRecDepth 100000 in
theorem n_Mo_isFinal_21 {p : Program} {l : Launch} {e : Env} {s : State} {m : MethodId} {args : Array Value} {below : List Frame} {meth : Method} {c : Code} {D : va_G} {A : Nat → Prop} {ad : Nat → Nat} {cA : ClassId × ClassId × ClassId}  {x1 : Int32} {x2 : Int32} {Q : Int32 → Mo → Prop} (S : CallFix p m c b_Mo_isFinal 5 s args gtbl R_Mo) (hr : meth.sig.returnType = (some .boolean)) (hlk : meth.locks = false) (hK : gK D (tyA cA) s) (hA : ∀ q : Nat, s.heap.size ≤ q → A q) : ∀ n : Nat, ∀ (ls : Array Slot) (H : Heap) (locs : List Loc) (x3 : Int32) (x4 : Int32) (mo : Mo), p_Mo_isFinal_21 x1 x2 Q n x3 x4 mo → lv_has ls 5 [(0, .ref (ad 0)), (1, .int x1), (3, .int x3), (4, .int x4)] → gIn D A s (wM ad cA) mo H locs → W p l e rm_Mo_isFinal s m args below meth c H locs 0 0 (qI D (tyA cA) A (wM ad cA) (fun u : Mo => u) (fun (r : Int32) (u : Mo) => Q r u) below args s) (F0 m 21 ls []) := by
  intro n
  induction n with
  | zero =>
    intro ls H locs x3 x4 mo h
    exact (show False from h).elim
  | succ n ih =>
    intro ls H locs x3 x4 mo h hl I
    refine lv_iload S.1 S.2.1 d_Mo_isFinal_21 (lv_at hl 3 rfl) ?_
    refine lv_bipush (v := (6 : Int32)) S.1 S.2.1 d_Mo_isFinal_23 rfl ?_
    refine lv_icmp_ge (tgt := 72) S.1 S.2.1 d_Mo_isFinal_25 (by decide) (fun hc => ?_) (fun hc => ?_)
    · have h := h.1 hc
      refine lv_iload_n S.1 S.2.1 d_Mo_isFinal_72 rfl (lv_at hl 2 rfl) ?_
      obtain ⟨hz, h⟩ := h
      exact ret_rwz S hr hlk hK (isB_n hz) I h d_Mo_isFinal_73
    · have h := h.2 hc
      refine lv_iload_n S.1 S.2.1 d_Mo_isFinal_28 rfl (lv_at hl 2 rfl) ?_
      refine lv_if_ne (tgt := 60) S.1 S.2.1 d_Mo_isFinal_29 (by decide) (fun hc => ?_) (fun hc => ?_)
      · have h := h.1 hc
        exact n_Mo_isFinal_60 S hr hlk hK hA ih _ _ _ _ _ h (lv_sub hl [0, 1, 3] rfl) I
      · have h := h.2 hc
        refine lv_aload_n S.1 S.2.1 d_Mo_isFinal_32 rfl (lv_at hl 0 rfl) ?_
        refine g_Mo_finals S hK I.1 d_Mo_isFinal_33 ?_
        refine lv_iload S.1 S.2.1 d_Mo_isFinal_36 (lv_at hl 3 rfl) ?_
        refine lv_ishr S.1 S.2.1 d_Mo_isFinal_38 ?_
        refine lv_iconst (v := (1 : Int32)) S.1 S.2.1 d_Mo_isFinal_39 rfl ?_
        refine lv_iand S.1 S.2.1 d_Mo_isFinal_40 ?_
        refine lv_iconst (v := (1 : Int32)) S.1 S.2.1 d_Mo_isFinal_41 rfl ?_
        refine lv_icmp_ne (tgt := 64) S.1 S.2.1 d_Mo_isFinal_42 (by decide) (fun hc => ?_) (fun hc => ?_)
        · have h := h.1 hc
          refine lv_iconst (v := (0 : Int32)) S.1 S.2.1 d_Mo_isFinal_64 rfl ?_
          refine lv_istore_n (lv' := [(3, .int (0 : Int32)), (0, .ref (ad 0)), (1, .int x1), (4, .int x4)]) S.1 S.2.1 d_Mo_isFinal_65 rfl hl (by decide) rfl (fun ls hl => ?_)
          refine lv_iinc (k := 3) (v := x4 + (1 : Int32)) (lv' := [(4, .int (x4 + (1 : Int32))), (3, .int (0 : Int32)), (0, .ref (ad 0)), (1, .int x1)]) S.1 S.2.1 d_Mo_isFinal_66 hl rfl rfl (by decide) rfl (fun ls hl => ?_)
          refine lv_goto (tgt := 21) S.1 S.2.1 d_Mo_isFinal_69 (by decide) ?_
          exact ih _ _ _ _ _ _ h (lv_sub hl [2, 3, 1, 0] rfl) I
        · have h := h.2 hc
          refine lv_aload_n S.1 S.2.1 d_Mo_isFinal_45 rfl (lv_at hl 0 rfl) ?_
          refine g_Mo_states S hK I.1 d_Mo_isFinal_46 ?_
          refine lv_bipush (v := (6 : Int32)) S.1 S.2.1 d_Mo_isFinal_49 rfl ?_
          refine lv_iload_n S.1 S.2.1 d_Mo_isFinal_51 rfl (lv_at hl 1 rfl) ?_
          refine lv_imul S.1 S.2.1 d_Mo_isFinal_52 ?_
          refine lv_iload S.1 S.2.1 d_Mo_isFinal_53 (lv_at hl 3 rfl) ?_
          refine lv_iadd S.1 S.2.1 d_Mo_isFinal_55 ?_
          obtain ⟨hin, h⟩ := h
          refine a_Mo_states S hK I.1 hin d_Mo_isFinal_56 ?_
          refine lv_if_eq (tgt := 64) S.1 S.2.1 d_Mo_isFinal_57 (by decide) (fun hc => ?_) (fun hc => ?_)
          · have h := h.1 hc
            refine lv_iconst (v := (0 : Int32)) S.1 S.2.1 d_Mo_isFinal_64 rfl ?_
            refine lv_istore_n (lv' := [(3, .int (0 : Int32)), (0, .ref (ad 0)), (1, .int x1), (4, .int x4)]) S.1 S.2.1 d_Mo_isFinal_65 rfl hl (by decide) rfl (fun ls hl => ?_)
            refine lv_iinc (k := 3) (v := x4 + (1 : Int32)) (lv' := [(4, .int (x4 + (1 : Int32))), (3, .int (0 : Int32)), (0, .ref (ad 0)), (1, .int x1)]) S.1 S.2.1 d_Mo_isFinal_66 hl rfl rfl (by decide) rfl (fun ls hl => ?_)
            refine lv_goto (tgt := 21) S.1 S.2.1 d_Mo_isFinal_69 (by decide) ?_
            exact ih _ _ _ _ _ _ h (lv_sub hl [2, 3, 1, 0] rfl) I
          · have h := h.2 hc
            exact n_Mo_isFinal_60 S hr hlk hK hA ih _ _ _ _ _ h (lv_sub hl [0, 1, 3] rfl) I
set_option maxHeartbeats 4000000 in
set_option maxRecDepth 100000 in
theorem c_Mo_isFinal (l : Launch) (D : va_G) (ad : Nat → Nat) (cA : ClassId × ClassId × ClassId) (mo : Mo) (x1 : Int32) (x2 : Int32) (Q : Int32 → Mo → Prop) (h : p_Mo_isFinal x1 x2 mo Q) : rwI l y_Mo_isFinal (wsOf y_Mo_isFinal b_Mo_isFinal 5 (some .boolean)) rm_Mo_isFinal D (tyA cA) (wM ad cA) [.ref (ad 0), .int x1, .int x2] mo (fun u : Mo => u) (fun (r : Int32) (u : Mo) => Q r u) := by
  refine rwI_of (by decide) (Nat.le_of_ble_eq_true rfl) ?_
  intro p e s m below meth c S hr hlk hK A hA I ls hl
  have hl : lv_has ls 5 [(0, .ref (ad 0)), (1, .int x1), (2, .int x2)] := hl
  refine lv_aload_n S.1 S.2.1 d_Mo_isFinal_0 rfl (lv_at hl 0 rfl) ?_
  refine lv_iload_n S.1 S.2.1 d_Mo_isFinal_1 rfl (lv_at hl 1 rfl) ?_
  refine lv_iload_n S.1 S.2.1 d_Mo_isFinal_2 rfl (lv_at hl 1 rfl) ?_
  refine callV_rwi S (c_Mo_ask l D ad cA _ _ _ _ h) (mkV S.2.2.2.2 ml_Mo_125 k_Mo_ask rfl rfl ⟨Nat.le_of_ble_eq_true rfl, Nat.le_of_ble_eq_true rfl⟩) (rv_Mo hK I.1) hK hA I hl.1 rfl rfl (Nat.le_of_ble_eq_true rfl) d_Mo_isFinal_3 ⟨Nat.zero_le _, Nat.zero_le _⟩ (fun r3 mo3 H locs h I => ?_)
  refine lv_if_ne (tgt := 11) S.1 S.2.1 d_Mo_isFinal_6 (by decide) (fun hc => ?_) (fun hc => ?_)
  · have h := h.1 hc
    refine lv_aload_n S.1 S.2.1 d_Mo_isFinal_11 rfl (lv_at hl 0 rfl) ?_
    refine lv_iload_n S.1 S.2.1 d_Mo_isFinal_12 rfl (lv_at hl 2 rfl) ?_
    refine callV_rwv S (c_Mo_stand l D ad cA _ _ _ h) (mkV S.2.2.2.2 ml_Mo_136 k_Mo_stand rfl rfl ⟨Nat.le_of_ble_eq_true rfl, Nat.le_of_ble_eq_true rfl⟩) (rv_Mo hK I.1) hK hA I hl.1 rfl rfl (Nat.le_of_ble_eq_true rfl) d_Mo_isFinal_13 ⟨Nat.zero_le _, Nat.zero_le _⟩ (fun mo13 H locs h I => ?_)
    refine lv_iconst (v := (0 : Int32)) S.1 S.2.1 d_Mo_isFinal_16 rfl ?_
    refine lv_istore_n (lv' := [(3, .int (0 : Int32)), (0, .ref (ad 0)), (1, .int x1), (2, .int x2)]) S.1 S.2.1 d_Mo_isFinal_17 rfl hl (by decide) rfl (fun ls hl => ?_)
    refine lv_iconst (v := (0 : Int32)) S.1 S.2.1 d_Mo_isFinal_18 rfl ?_
    refine lv_istore (lv' := [(4, .int (0 : Int32)), (3, .int (0 : Int32)), (0, .ref (ad 0)), (1, .int x1), (2, .int x2)]) S.1 S.2.1 d_Mo_isFinal_19 hl (by decide) rfl (fun ls hl => ?_)
    obtain ⟨n', h⟩ := h
    exact n_Mo_isFinal_21 S hr hlk hK hA n' _ _ _ _ _ _ h (lv_sub hl [2, 3, 1, 0] rfl) I
  · have h := h.2 hc
    refine lv_iconst (v := (0 : Int32)) S.1 S.2.1 d_Mo_isFinal_9 rfl ?_
    exact ret_rwz S hr hlk hK (by decide) I h d_Mo_isFinal_10

set_option maxHeartbeats 4000000 in
set_option maxRecDepth 100000 in
theorem c_Mo_has (l : Launch) (D : va_G) (ad : Nat → Nat) (cA : ClassId × ClassId × ClassId) (mo : Mo) (x1 : Int32) (Q : Int32 → Mo → Prop) (h : p_Mo_has x1 mo Q) : rwI l y_Mo_has (wsOf y_Mo_has b_Mo_has 2 (some .boolean)) rm_Mo_has D (tyA cA) (wM ad cA) [.ref (ad 0), .int x1] mo (fun u : Mo => u) (fun (r : Int32) (u : Mo) => Q r u) := by
  refine rwI_of (by decide) (Nat.le_of_ble_eq_true rfl) ?_
  intro p e s m below meth c S hr hlk hK A hA I ls hl
  have hl : lv_has ls 2 [(0, .ref (ad 0)), (1, .int x1)] := hl
  refine lv_aload_n S.1 S.2.1 d_Mo_has_0 rfl (lv_at hl 0 rfl) ?_
  refine lv_iload_n S.1 S.2.1 d_Mo_has_1 rfl (lv_at hl 1 rfl) ?_
  refine lv_iconst (v := (0 : Int32)) S.1 S.2.1 d_Mo_has_2 rfl ?_
  refine callV_rwi S (c_Mo_isFinal l D ad cA _ _ _ _ h) (mkV S.2.2.2.2 ml_Mo_140 k_Mo_isFinal rfl rfl ⟨Nat.le_of_ble_eq_true rfl, Nat.le_of_ble_eq_true rfl⟩) (rv_Mo hK I.1) hK hA I hl.1 rfl rfl (Nat.le_of_ble_eq_true rfl) d_Mo_has_3 ⟨Nat.zero_le _, Nat.zero_le _⟩ (fun r3 mo3 H locs h I => ?_)
  obtain ⟨hz, h⟩ := h
  exact ret_rwz S hr hlk hK (isB_n hz) I h d_Mo_has_6

set_option maxHeartbeats 4000000 in
set_option maxRecDepth 100000 in
theorem c_Mo_from (l : Launch) (D : va_G) (ad : Nat → Nat) (cA : ClassId × ClassId × ClassId) (mo : Mo) (x1 : Int32) (Q : Int32 → Mo → Prop) (h : p_Mo_from x1 mo Q) : rwI l y_Mo_from (wsOf y_Mo_from b_Mo_from 2 (some .boolean)) rm_Mo_from D (tyA cA) (wM ad cA) [.ref (ad 0), .int x1] mo (fun u : Mo => u) (fun (r : Int32) (u : Mo) => Q r u) := by
  refine rwI_of (by decide) (Nat.le_of_ble_eq_true rfl) ?_
  intro p e s m below meth c S hr hlk hK A hA I ls hl
  have hl : lv_has ls 2 [(0, .ref (ad 0)), (1, .int x1)] := hl
  refine lv_aload_n S.1 S.2.1 d_Mo_from_0 rfl (lv_at hl 0 rfl) ?_
  refine lv_iload_n S.1 S.2.1 d_Mo_from_1 rfl (lv_at hl 1 rfl) ?_
  refine lv_iconst (v := (1 : Int32)) S.1 S.2.1 d_Mo_from_2 rfl ?_
  refine callV_rwi S (c_Mo_isFinal l D ad cA _ _ _ _ h) (mkV S.2.2.2.2 ml_Mo_140 k_Mo_isFinal rfl rfl ⟨Nat.le_of_ble_eq_true rfl, Nat.le_of_ble_eq_true rfl⟩) (rv_Mo hK I.1) hK hA I hl.1 rfl rfl (Nat.le_of_ble_eq_true rfl) d_Mo_from_3 ⟨Nat.zero_le _, Nat.zero_le _⟩ (fun r3 mo3 H locs h I => ?_)
  obtain ⟨hz, h⟩ := h
  exact ret_rwz S hr hlk hK (isB_n hz) I h d_Mo_from_6

set_option maxHeartbeats 4000000 in
set_option maxRecDepth 100000 in
theorem c_Mo_into (l : Launch) (D : va_G) (ad : Nat → Nat) (cA : ClassId × ClassId × ClassId) (mo : Mo) (x1 : Int32) (Q : Int32 → Mo → Prop) (h : p_Mo_into x1 mo Q) : rwI l y_Mo_into (wsOf y_Mo_into b_Mo_into 2 (some .boolean)) rm_Mo_into D (tyA cA) (wM ad cA) [.ref (ad 0), .int x1] mo (fun u : Mo => u) (fun (r : Int32) (u : Mo) => Q r u) := by
  refine rwI_of (by decide) (Nat.le_of_ble_eq_true rfl) ?_
  intro p e s m below meth c S hr hlk hK A hA I ls hl
  have hl : lv_has ls 2 [(0, .ref (ad 0)), (1, .int x1)] := hl
  refine lv_aload_n S.1 S.2.1 d_Mo_into_0 rfl (lv_at hl 0 rfl) ?_
  refine lv_iload_n S.1 S.2.1 d_Mo_into_1 rfl (lv_at hl 1 rfl) ?_
  refine lv_iconst (v := (2 : Int32)) S.1 S.2.1 d_Mo_into_2 rfl ?_
  refine callV_rwi S (c_Mo_isFinal l D ad cA _ _ _ _ h) (mkV S.2.2.2.2 ml_Mo_140 k_Mo_isFinal rfl rfl ⟨Nat.le_of_ble_eq_true rfl, Nat.le_of_ble_eq_true rfl⟩) (rv_Mo hK I.1) hK hA I hl.1 rfl rfl (Nat.le_of_ble_eq_true rfl) d_Mo_into_3 ⟨Nat.zero_le _, Nat.zero_le _⟩ (fun r3 mo3 H locs h I => ?_)
  obtain ⟨hz, h⟩ := h
  exact ret_rwz S hr hlk hK (isB_n hz) I h d_Mo_into_6

set_option maxHeartbeats 4000000 in
set_option maxRecDepth 100000 in
theorem n_Mo_least_117 {p : Program} {l : Launch} {e : Env} {s : State} {m : MethodId} {args : Array Value} {below : List Frame} {meth : Method} {c : Code} {D : va_G} {A : Nat → Prop} {ad : Nat → Nat} {cA : ClassId × ClassId × ClassId}  {x1 : Int32} {Q : Int32 → Mo → Prop} (S : CallFix p m c b_Mo_least 6 s args gtbl R_Mo) (hr : meth.sig.returnType = (some .int)) (hlk : meth.locks = false) (hK : gK D (tyA cA) s) (hA : ∀ q : Nat, s.heap.size ≤ q → A q) {k40 : Int32 → Mo → Prop} (hk40 : ∀ (ls : Array Slot) (H : Heap) (locs : List Loc) (x2 : Int32) (mo : Mo), k40 x2 mo → lv_has ls 6 [(0, .ref (ad 0)), (1, .int x1), (2, .int x2)] → gIn D A s (wM ad cA) mo H locs → W p l e rm_Mo_least s m args below meth c H locs 0 0 (qI D (tyA cA) A (wM ad cA) (fun u : Mo => u) (fun (r : Int32) (u : Mo) => Q r u) below args s) (F0 m 40 ls [])) {k48 : Int32 → Int32 → Mo → Prop} (hk48 : ∀ (ls : Array Slot) (H : Heap) (locs : List Loc) (x2 : Int32) (x3 : Int32) (mo : Mo), k48 x2 x3 mo → lv_has ls 6 [(0, .ref (ad 0)), (1, .int x1), (2, .int x2), (3, .int x3)] → gIn D A s (wM ad cA) mo H locs → W p l e rm_Mo_least s m args below meth c H locs 0 0 (qI D (tyA cA) A (wM ad cA) (fun u : Mo => u) (fun (r : Int32) (u : Mo) => Q r u) below args s) (F0 m 48 ls [])) : ∀ n : Nat, ∀ (ls : Array Slot) (H : Heap) (locs : List Loc) (x2 : Int32) (x3 : Int32) (x4 : Int32) (x5 : Int32) (mo : Mo), p_Mo_least_117 x1 Q k40 k48 n x2 x3 x4 x5 mo → lv_has ls 6 [(0, .ref (ad 0)), (1, .int x1), (2, .int x2), (3, .int x3), (4, .int x4), (5, .int x5)] → gIn D A s (wM ad cA) mo H locs → W p l e rm_Mo_least s m args below meth c H locs 0 0 (qI D (tyA cA) A (wM ad cA) (fun u : Mo => u) (fun (r : Int32) (u : Mo) => Q r u) below args s) (F0 m 117 ls []) := by
  intro n
  induction n with
  | zero =>
    intro ls H locs x2 x3 x4 x5 mo h
    exact (show False from h).elim
  | succ n ih =>
    intro ls H locs x2 x3 x4 x5 mo h hl I
    refine lv_iload S.1 S.2.1 d_Mo_least_117 (lv_at hl 5 rfl) ?_
    refine lv_aload_n S.1 S.2.1 d_Mo_least_119 rfl (lv_at hl 0 rfl) ?_
    refine g_Mo_rules S hK I.1 d_Mo_least_120 ?_
    refine lv_icmp_ge (tgt := 188) S.1 S.2.1 d_Mo_least_123 (by decide) (fun hc => ?_) (fun hc => ?_)
    · have h := h.1 hc
      refine lv_iload S.1 S.2.1 d_Mo_least_188 (lv_at hl 4 rfl) ?_
      refine lv_aload_n S.1 S.2.1 d_Mo_least_190 rfl (lv_at hl 0 rfl) ?_
      refine g_Mo_light S hK I.1 d_Mo_least_191 ?_
      refine lv_iload_n S.1 S.2.1 d_Mo_least_194 rfl (lv_at hl 3 rfl) ?_
      obtain ⟨hin, h⟩ := h
      refine a_Mo_light S hK I.1 hin d_Mo_least_195 ?_
      refine lv_icmp_ge (tgt := 209) S.1 S.2.1 d_Mo_least_196 (by decide) (fun hc => ?_) (fun hc => ?_)
      · have h := h.1 hc
        refine lv_iinc (k := 3) (v := x3 + (1 : Int32)) (lv' := [(3, .int (x3 + (1 : Int32))), (0, .ref (ad 0)), (1, .int x1), (2, .int x2), (4, .int x4), (5, .int x5)]) S.1 S.2.1 d_Mo_least_209 hl rfl rfl (by decide) rfl (fun ls hl => ?_)
        refine lv_goto (tgt := 48) S.1 S.2.1 d_Mo_least_212 (by decide) ?_
        exact hk48 _ _ _ _ _ _ h (lv_sub hl [1, 2, 3, 0] rfl) I
      · have h := h.2 hc
        refine lv_aload_n S.1 S.2.1 d_Mo_least_199 rfl (lv_at hl 0 rfl) ?_
        refine g_Mo_light S hK I.1 d_Mo_least_200 ?_
        refine lv_iload_n S.1 S.2.1 d_Mo_least_203 rfl (lv_at hl 3 rfl) ?_
        refine lv_iload S.1 S.2.1 d_Mo_least_204 (lv_at hl 4 rfl) ?_
        obtain ⟨hin, h⟩ := h
        refine s_Mo_light S hK I hin d_Mo_least_206 (fun H locs mo206 emo206 I => ?_)
        have h := h mo206 emo206
        refine lv_iconst (v := (1 : Int32)) S.1 S.2.1 d_Mo_least_207 rfl ?_
        refine lv_istore_n (lv' := [(2, .int (1 : Int32)), (0, .ref (ad 0)), (1, .int x1), (3, .int x3), (4, .int x4), (5, .int x5)]) S.1 S.2.1 d_Mo_least_208 rfl hl (by decide) rfl (fun ls hl => ?_)
        refine lv_iinc (k := 3) (v := x3 + (1 : Int32)) (lv' := [(3, .int (x3 + (1 : Int32))), (2, .int (1 : Int32)), (0, .ref (ad 0)), (1, .int x1), (4, .int x4), (5, .int x5)]) S.1 S.2.1 d_Mo_least_209 hl rfl rfl (by decide) rfl (fun ls hl => ?_)
        refine lv_goto (tgt := 48) S.1 S.2.1 d_Mo_least_212 (by decide) ?_
        exact hk48 _ _ _ _ _ _ h (lv_sub hl [2, 3, 1, 0] rfl) I
    · have h := h.2 hc
      refine lv_aload_n S.1 S.2.1 d_Mo_least_126 rfl (lv_at hl 0 rfl) ?_
      refine g_Mo_goes S hK I.1 d_Mo_least_127 ?_
      refine lv_bipush (v := (48 : Int32)) S.1 S.2.1 d_Mo_least_130 rfl ?_
      refine lv_iload_n S.1 S.2.1 d_Mo_least_132 rfl (lv_at hl 3 rfl) ?_
      refine lv_imul S.1 S.2.1 d_Mo_least_133 ?_
      refine lv_aload_n S.1 S.2.1 d_Mo_least_134 rfl (lv_at hl 0 rfl) ?_
      refine g_Mo_left S hK I.1 d_Mo_least_135 ?_
      refine lv_iload S.1 S.2.1 d_Mo_least_138 (lv_at hl 5 rfl) ?_
      obtain ⟨hin, h⟩ := h
      refine a_Mo_left S hK I.1 hin d_Mo_least_140 ?_
      refine lv_iadd S.1 S.2.1 d_Mo_least_141 ?_
      obtain ⟨hin, h⟩ := h
      refine a_Mo_goes S hK I.1 hin d_Mo_least_142 ?_
      refine lv_if_eq (tgt := 178) S.1 S.2.1 d_Mo_least_143 (by decide) (fun hc => ?_) (fun hc => ?_)
      · have h := h.1 hc
        refine lv_iload S.1 S.2.1 d_Mo_least_178 (lv_at hl 4 rfl) ?_
        refine lv_istore (lv' := [(4, .int x4), (0, .ref (ad 0)), (1, .int x1), (2, .int x2), (3, .int x3), (5, .int x5)]) S.1 S.2.1 d_Mo_least_180 hl (by decide) rfl (fun ls hl => ?_)
        refine lv_iinc (k := 5) (v := x5 + (1 : Int32)) (lv' := [(5, .int (x5 + (1 : Int32))), (4, .int x4), (0, .ref (ad 0)), (1, .int x1), (2, .int x2), (3, .int x3)]) S.1 S.2.1 d_Mo_least_182 hl rfl rfl (by decide) rfl (fun ls hl => ?_)
        refine lv_goto (tgt := 117) S.1 S.2.1 d_Mo_least_185 (by decide) ?_
        exact ih _ _ _ _ _ _ _ _ h (lv_sub hl [2, 3, 4, 5, 1, 0] rfl) I
      · have h := h.2 hc
        refine lv_aload_n S.1 S.2.1 d_Mo_least_146 rfl (lv_at hl 0 rfl) ?_
        refine g_Mo_light S hK I.1 d_Mo_least_147 ?_
        refine lv_aload_n S.1 S.2.1 d_Mo_least_150 rfl (lv_at hl 0 rfl) ?_
        refine g_Mo_right S hK I.1 d_Mo_least_151 ?_
        refine lv_iload S.1 S.2.1 d_Mo_least_154 (lv_at hl 5 rfl) ?_
        obtain ⟨hin, h⟩ := h
        refine a_Mo_right S hK I.1 hin d_Mo_least_156 ?_
        obtain ⟨hin, h⟩ := h
        refine a_Mo_light S hK I.1 hin d_Mo_least_157 ?_
        refine lv_iload S.1 S.2.1 d_Mo_least_158 (lv_at hl 4 rfl) ?_
        refine lv_icmp_ge (tgt := 178) S.1 S.2.1 d_Mo_least_160 (by decide) (fun hc => ?_) (fun hc => ?_)
        · have h := h.1 hc
          refine lv_iload S.1 S.2.1 d_Mo_least_178 (lv_at hl 4 rfl) ?_
          refine lv_istore (lv' := [(4, .int x4), (0, .ref (ad 0)), (1, .int x1), (2, .int x2), (3, .int x3), (5, .int x5)]) S.1 S.2.1 d_Mo_least_180 hl (by decide) rfl (fun ls hl => ?_)
          refine lv_iinc (k := 5) (v := x5 + (1 : Int32)) (lv' := [(5, .int (x5 + (1 : Int32))), (4, .int x4), (0, .ref (ad 0)), (1, .int x1), (2, .int x2), (3, .int x3)]) S.1 S.2.1 d_Mo_least_182 hl rfl rfl (by decide) rfl (fun ls hl => ?_)
          refine lv_goto (tgt := 117) S.1 S.2.1 d_Mo_least_185 (by decide) ?_
          exact ih _ _ _ _ _ _ _ _ h (lv_sub hl [2, 3, 4, 5, 1, 0] rfl) I
        · have h := h.2 hc
          refine lv_aload_n S.1 S.2.1 d_Mo_least_163 rfl (lv_at hl 0 rfl) ?_
          refine g_Mo_light S hK I.1 d_Mo_least_164 ?_
          refine lv_aload_n S.1 S.2.1 d_Mo_least_167 rfl (lv_at hl 0 rfl) ?_
          refine g_Mo_right S hK I.1 d_Mo_least_168 ?_
          refine lv_iload S.1 S.2.1 d_Mo_least_171 (lv_at hl 5 rfl) ?_
          obtain ⟨hin, h⟩ := h
          refine a_Mo_right S hK I.1 hin d_Mo_least_173 ?_
          obtain ⟨hin, h⟩ := h
          refine a_Mo_light S hK I.1 hin d_Mo_least_174 ?_
          refine lv_goto (tgt := 180) S.1 S.2.1 d_Mo_least_175 (by decide) ?_
          refine lv_istore (lv' := [(4, .int (Mo_light mo (Mo_right mo x5.toNatClampNeg).toNatClampNeg)), (0, .ref (ad 0)), (1, .int x1), (2, .int x2), (3, .int x3), (5, .int x5)]) S.1 S.2.1 d_Mo_least_180 hl (by decide) rfl (fun ls hl => ?_)
          refine lv_iinc (k := 5) (v := x5 + (1 : Int32)) (lv' := [(5, .int (x5 + (1 : Int32))), (4, .int (Mo_light mo (Mo_right mo x5.toNatClampNeg).toNatClampNeg)), (0, .ref (ad 0)), (1, .int x1), (2, .int x2), (3, .int x3)]) S.1 S.2.1 d_Mo_least_182 hl rfl rfl (by decide) rfl (fun ls hl => ?_)
          refine lv_goto (tgt := 117) S.1 S.2.1 d_Mo_least_185 (by decide) ?_
          exact ih _ _ _ _ _ _ _ _ h (lv_sub hl [2, 3, 4, 5, 1, 0] rfl) I
set_option maxHeartbeats 4000000 in
set_option maxRecDepth 100000 in
theorem n_Mo_least_107 {p : Program} {l : Launch} {e : Env} {s : State} {m : MethodId} {args : Array Value} {below : List Frame} {meth : Method} {c : Code} {D : va_G} {A : Nat → Prop} {ad : Nat → Nat} {cA : ClassId × ClassId × ClassId}  {x1 : Int32} {Q : Int32 → Mo → Prop} (S : CallFix p m c b_Mo_least 6 s args gtbl R_Mo) (hr : meth.sig.returnType = (some .int)) (hlk : meth.locks = false) (hK : gK D (tyA cA) s) (hA : ∀ q : Nat, s.heap.size ≤ q → A q) {k40 : Int32 → Mo → Prop} (hk40 : ∀ (ls : Array Slot) (H : Heap) (locs : List Loc) (x2 : Int32) (mo : Mo), k40 x2 mo → lv_has ls 6 [(0, .ref (ad 0)), (1, .int x1), (2, .int x2)] → gIn D A s (wM ad cA) mo H locs → W p l e rm_Mo_least s m args below meth c H locs 0 0 (qI D (tyA cA) A (wM ad cA) (fun u : Mo => u) (fun (r : Int32) (u : Mo) => Q r u) below args s) (F0 m 40 ls [])) {k48 : Int32 → Int32 → Mo → Prop} (hk48 : ∀ (ls : Array Slot) (H : Heap) (locs : List Loc) (x2 : Int32) (x3 : Int32) (mo : Mo), k48 x2 x3 mo → lv_has ls 6 [(0, .ref (ad 0)), (1, .int x1), (2, .int x2), (3, .int x3)] → gIn D A s (wM ad cA) mo H locs → W p l e rm_Mo_least s m args below meth c H locs 0 0 (qI D (tyA cA) A (wM ad cA) (fun u : Mo => u) (fun (r : Int32) (u : Mo) => Q r u) below args s) (F0 m 48 ls [])) : ∀ (ls : Array Slot) (H : Heap) (locs : List Loc) (x2 : Int32) (x3 : Int32) (y0 : Int32) (y1 : Int64) (mo : Mo), p_Mo_least_107 x1 Q k40 k48 x2 x3 y0 y1 mo → lv_has ls 6 [(0, .ref (ad 0)), (1, .int x1), (2, .int x2), (3, .int x3)] → gIn D A s (wM ad cA) mo H locs → W p l e rm_Mo_least s m args below meth c H locs 0 0 (qI D (tyA cA) A (wM ad cA) (fun u : Mo => u) (fun (r : Int32) (u : Mo) => Q r u) below args s) (F0 m 107 ls [.int y0, .long y1]) := by
  intro ls H locs x2 x3 y0 y1 mo h hl I
  refine lv_i2l S.1 S.2.1 d_Mo_least_107 rfl ?_
  refine lv_ladd S.1 S.2.1 d_Mo_least_108 ?_
  refine callS_roi S (c_Mo_capped l D ad cA _ _ _ h) (mkS S.2.2.2.2 ml_Mo_89 k_Mo_capped rfl rfl ⟨Nat.le_of_ble_eq_true rfl, Nat.le_of_ble_eq_true rfl⟩) hK I.1 hl.1 rfl rfl (Nat.le_of_ble_eq_true rfl) d_Mo_least_109 ⟨Nat.zero_le _, Nat.zero_le _⟩ (fun r109 h => ?_)
  refine lv_istore (lv' := [(4, .int r109), (0, .ref (ad 0)), (1, .int x1), (2, .int x2), (3, .int x3)]) S.1 S.2.1 d_Mo_least_112 hl (by decide) rfl (fun ls hl => ?_)
  refine lv_iconst (v := (0 : Int32)) S.1 S.2.1 d_Mo_least_114 rfl ?_
  refine lv_istore (lv' := [(5, .int (0 : Int32)), (4, .int r109), (0, .ref (ad 0)), (1, .int x1), (2, .int x2), (3, .int x3)]) S.1 S.2.1 d_Mo_least_115 hl (by decide) rfl (fun ls hl => ?_)
  obtain ⟨n', h⟩ := h
  exact n_Mo_least_117 S hr hlk hK hA hk40 hk48 n' _ _ _ _ _ _ _ _ h (lv_sub hl [2, 3, 4, 5, 1, 0] rfl) I
set_option maxHeartbeats 4000000 in
set_option maxRecDepth 100000 in
theorem n_Mo_least_81 {p : Program} {l : Launch} {e : Env} {s : State} {m : MethodId} {args : Array Value} {below : List Frame} {meth : Method} {c : Code} {D : va_G} {A : Nat → Prop} {ad : Nat → Nat} {cA : ClassId × ClassId × ClassId}  {x1 : Int32} {Q : Int32 → Mo → Prop} (S : CallFix p m c b_Mo_least 6 s args gtbl R_Mo) (hr : meth.sig.returnType = (some .int)) (hlk : meth.locks = false) (hK : gK D (tyA cA) s) (hA : ∀ q : Nat, s.heap.size ≤ q → A q) {k40 : Int32 → Mo → Prop} (hk40 : ∀ (ls : Array Slot) (H : Heap) (locs : List Loc) (x2 : Int32) (mo : Mo), k40 x2 mo → lv_has ls 6 [(0, .ref (ad 0)), (1, .int x1), (2, .int x2)] → gIn D A s (wM ad cA) mo H locs → W p l e rm_Mo_least s m args below meth c H locs 0 0 (qI D (tyA cA) A (wM ad cA) (fun u : Mo => u) (fun (r : Int32) (u : Mo) => Q r u) below args s) (F0 m 40 ls [])) {k48 : Int32 → Int32 → Mo → Prop} (hk48 : ∀ (ls : Array Slot) (H : Heap) (locs : List Loc) (x2 : Int32) (x3 : Int32) (mo : Mo), k48 x2 x3 mo → lv_has ls 6 [(0, .ref (ad 0)), (1, .int x1), (2, .int x2), (3, .int x3)] → gIn D A s (wM ad cA) mo H locs → W p l e rm_Mo_least s m args below meth c H locs 0 0 (qI D (tyA cA) A (wM ad cA) (fun u : Mo => u) (fun (r : Int32) (u : Mo) => Q r u) below args s) (F0 m 48 ls [])) : ∀ (ls : Array Slot) (H : Heap) (locs : List Loc) (x2 : Int32) (x3 : Int32) (y0 : Int32) (y1 : Int64) (mo : Mo), p_Mo_least_81 x1 Q k40 k48 x2 x3 y0 y1 mo → lv_has ls 6 [(0, .ref (ad 0)), (1, .int x1), (2, .int x2), (3, .int x3)] → gIn D A s (wM ad cA) mo H locs → W p l e rm_Mo_least s m args below meth c H locs 0 0 (qI D (tyA cA) A (wM ad cA) (fun u : Mo => u) (fun (r : Int32) (u : Mo) => Q r u) below args s) (F0 m 81 ls [.int y0, .long y1]) := by
  intro ls H locs x2 x3 y0 y1 mo h hl I
  refine lv_i2l S.1 S.2.1 d_Mo_least_81 rfl ?_
  refine lv_ladd S.1 S.2.1 d_Mo_least_82 ?_
  refine lv_aload_n S.1 S.2.1 d_Mo_least_83 rfl (lv_at hl 0 rfl) ?_
  refine g_Mo_two S hK I.1 d_Mo_least_84 ?_
  refine lv_iload_n S.1 S.2.1 d_Mo_least_87 rfl (lv_at hl 3 rfl) ?_
  obtain ⟨hin, h⟩ := h
  refine a_Mo_two S hK I.1 hin d_Mo_least_88 ?_
  refine lv_if_ge (tgt := 96) S.1 S.2.1 d_Mo_least_89 (by decide) (fun hc => ?_) (fun hc => ?_)
  · have h := h.1 hc
    refine lv_aload_n S.1 S.2.1 d_Mo_least_96 rfl (lv_at hl 0 rfl) ?_
    refine g_Mo_light S hK I.1 d_Mo_least_97 ?_
    refine lv_aload_n S.1 S.2.1 d_Mo_least_100 rfl (lv_at hl 0 rfl) ?_
    refine g_Mo_two S hK I.1 d_Mo_least_101 ?_
    refine lv_iload_n S.1 S.2.1 d_Mo_least_104 rfl (lv_at hl 3 rfl) ?_
    obtain ⟨hin, h⟩ := h
    refine a_Mo_two S hK I.1 hin d_Mo_least_105 ?_
    obtain ⟨hin, h⟩ := h
    refine a_Mo_light S hK I.1 hin d_Mo_least_106 ?_
    exact n_Mo_least_107 S hr hlk hK hA hk40 hk48 _ _ _ _ _ _ _ _ h (lv_sub hl [0, 1, 2, 3] rfl) I
  · have h := h.2 hc
    refine lv_iconst (v := (0 : Int32)) S.1 S.2.1 d_Mo_least_92 rfl ?_
    refine lv_goto (tgt := 107) S.1 S.2.1 d_Mo_least_93 (by decide) ?_
    exact n_Mo_least_107 S hr hlk hK hA hk40 hk48 _ _ _ _ _ _ _ _ h (lv_sub hl [0, 1, 2, 3] rfl) I
set_option maxHeartbeats 4000000 in
set_option maxRecDepth 100000 in
theorem n_Mo_least_48 {p : Program} {l : Launch} {e : Env} {s : State} {m : MethodId} {args : Array Value} {below : List Frame} {meth : Method} {c : Code} {D : va_G} {A : Nat → Prop} {ad : Nat → Nat} {cA : ClassId × ClassId × ClassId}  {x1 : Int32} {Q : Int32 → Mo → Prop} (S : CallFix p m c b_Mo_least 6 s args gtbl R_Mo) (hr : meth.sig.returnType = (some .int)) (hlk : meth.locks = false) (hK : gK D (tyA cA) s) (hA : ∀ q : Nat, s.heap.size ≤ q → A q) {k40 : Int32 → Mo → Prop} (hk40 : ∀ (ls : Array Slot) (H : Heap) (locs : List Loc) (x2 : Int32) (mo : Mo), k40 x2 mo → lv_has ls 6 [(0, .ref (ad 0)), (1, .int x1), (2, .int x2)] → gIn D A s (wM ad cA) mo H locs → W p l e rm_Mo_least s m args below meth c H locs 0 0 (qI D (tyA cA) A (wM ad cA) (fun u : Mo => u) (fun (r : Int32) (u : Mo) => Q r u) below args s) (F0 m 40 ls [])) : ∀ n : Nat, ∀ (ls : Array Slot) (H : Heap) (locs : List Loc) (x2 : Int32) (x3 : Int32) (mo : Mo), p_Mo_least_48 x1 Q k40 n x2 x3 mo → lv_has ls 6 [(0, .ref (ad 0)), (1, .int x1), (2, .int x2), (3, .int x3)] → gIn D A s (wM ad cA) mo H locs → W p l e rm_Mo_least s m args below meth c H locs 0 0 (qI D (tyA cA) A (wM ad cA) (fun u : Mo => u) (fun (r : Int32) (u : Mo) => Q r u) below args s) (F0 m 48 ls []) := by
  intro n
  induction n with
  | zero =>
    intro ls H locs x2 x3 mo h
    exact (show False from h).elim
  | succ n ih =>
    intro ls H locs x2 x3 mo h hl I
    refine lv_iload_n S.1 S.2.1 d_Mo_least_48 rfl (lv_at hl 3 rfl) ?_
    refine lv_aload_n S.1 S.2.1 d_Mo_least_49 rfl (lv_at hl 0 rfl) ?_
    refine g_Mo_count S hK I.1 d_Mo_least_50 ?_
    refine lv_icmp_ge (tgt := 215) S.1 S.2.1 d_Mo_least_53 (by decide) (fun hc => ?_) (fun hc => ?_)
    · have h := h.1 hc
      refine lv_goto (tgt := 40) S.1 S.2.1 d_Mo_least_215 (by decide) ?_
      exact hk40 _ _ _ _ _ h (lv_sub hl [0, 1, 2] rfl) I
    · have h := h.2 hc
      refine lv_lconst (v := (1 : Int64)) S.1 S.2.1 d_Mo_least_56 rfl ?_
      refine lv_aload_n S.1 S.2.1 d_Mo_least_57 rfl (lv_at hl 0 rfl) ?_
      refine g_Mo_one S hK I.1 d_Mo_least_58 ?_
      refine lv_iload_n S.1 S.2.1 d_Mo_least_61 rfl (lv_at hl 3 rfl) ?_
      obtain ⟨hin, h⟩ := h
      refine a_Mo_one S hK I.1 hin d_Mo_least_62 ?_
      refine lv_if_ge (tgt := 70) S.1 S.2.1 d_Mo_least_63 (by decide) (fun hc => ?_) (fun hc => ?_)
      · have h := h.1 hc
        refine lv_aload_n S.1 S.2.1 d_Mo_least_70 rfl (lv_at hl 0 rfl) ?_
        refine g_Mo_light S hK I.1 d_Mo_least_71 ?_
        refine lv_aload_n S.1 S.2.1 d_Mo_least_74 rfl (lv_at hl 0 rfl) ?_
        refine g_Mo_one S hK I.1 d_Mo_least_75 ?_
        refine lv_iload_n S.1 S.2.1 d_Mo_least_78 rfl (lv_at hl 3 rfl) ?_
        obtain ⟨hin, h⟩ := h
        refine a_Mo_one S hK I.1 hin d_Mo_least_79 ?_
        obtain ⟨hin, h⟩ := h
        refine a_Mo_light S hK I.1 hin d_Mo_least_80 ?_
        exact n_Mo_least_81 S hr hlk hK hA hk40 ih _ _ _ _ _ _ _ _ h (lv_sub hl [0, 1, 2, 3] rfl) I
      · have h := h.2 hc
        refine lv_iconst (v := (0 : Int32)) S.1 S.2.1 d_Mo_least_66 rfl ?_
        refine lv_goto (tgt := 81) S.1 S.2.1 d_Mo_least_67 (by decide) ?_
        exact n_Mo_least_81 S hr hlk hK hA hk40 ih _ _ _ _ _ _ _ _ h (lv_sub hl [0, 1, 2, 3] rfl) I
set_option maxHeartbeats 4000000 in
set_option maxRecDepth 100000 in
theorem n_Mo_least_40 {p : Program} {l : Launch} {e : Env} {s : State} {m : MethodId} {args : Array Value} {below : List Frame} {meth : Method} {c : Code} {D : va_G} {A : Nat → Prop} {ad : Nat → Nat} {cA : ClassId × ClassId × ClassId}  {x1 : Int32} {Q : Int32 → Mo → Prop} (S : CallFix p m c b_Mo_least 6 s args gtbl R_Mo) (hr : meth.sig.returnType = (some .int)) (hlk : meth.locks = false) (hK : gK D (tyA cA) s) (hA : ∀ q : Nat, s.heap.size ≤ q → A q) : ∀ n : Nat, ∀ (ls : Array Slot) (H : Heap) (locs : List Loc) (x2 : Int32) (mo : Mo), p_Mo_least_40 x1 Q n x2 mo → lv_has ls 6 [(0, .ref (ad 0)), (1, .int x1), (2, .int x2)] → gIn D A s (wM ad cA) mo H locs → W p l e rm_Mo_least s m args below meth c H locs 0 0 (qI D (tyA cA) A (wM ad cA) (fun u : Mo => u) (fun (r : Int32) (u : Mo) => Q r u) below args s) (F0 m 40 ls []) := by
  intro n
  induction n with
  | zero =>
    intro ls H locs x2 mo h
    exact (show False from h).elim
  | succ n ih =>
    intro ls H locs x2 mo h hl I
    refine lv_iload_n S.1 S.2.1 d_Mo_least_40 rfl (lv_at hl 2 rfl) ?_
    refine lv_if_eq (tgt := 218) S.1 S.2.1 d_Mo_least_41 (by decide) (fun hc => ?_) (fun hc => ?_)
    · have h := h.1 hc
      refine lv_aload_n S.1 S.2.1 d_Mo_least_218 rfl (lv_at hl 0 rfl) ?_
      refine g_Mo_light S hK I.1 d_Mo_least_219 ?_
      refine lv_iload_n S.1 S.2.1 d_Mo_least_222 rfl (lv_at hl 1 rfl) ?_
      obtain ⟨hin, h⟩ := h
      refine a_Mo_light S hK I.1 hin d_Mo_least_223 ?_
      exact ret_rwi S hr hlk hK I h d_Mo_least_224
    · have h := h.2 hc
      refine lv_iconst (v := (0 : Int32)) S.1 S.2.1 d_Mo_least_44 rfl ?_
      refine lv_istore_n (lv' := [(2, .int (0 : Int32)), (0, .ref (ad 0)), (1, .int x1)]) S.1 S.2.1 d_Mo_least_45 rfl hl (by decide) rfl (fun ls hl => ?_)
      refine lv_iconst (v := (0 : Int32)) S.1 S.2.1 d_Mo_least_46 rfl ?_
      refine lv_istore_n (lv' := [(3, .int (0 : Int32)), (2, .int (0 : Int32)), (0, .ref (ad 0)), (1, .int x1)]) S.1 S.2.1 d_Mo_least_47 rfl hl (by decide) rfl (fun ls hl => ?_)
      obtain ⟨n', h⟩ := h
      exact n_Mo_least_48 S hr hlk hK hA ih n' _ _ _ _ _ _ h (lv_sub hl [2, 3, 1, 0] rfl) I
set_option maxHeartbeats 4000000 in
set_option maxRecDepth 100000 in
theorem n_Mo_least_13 {p : Program} {l : Launch} {e : Env} {s : State} {m : MethodId} {args : Array Value} {below : List Frame} {meth : Method} {c : Code} {D : va_G} {A : Nat → Prop} {ad : Nat → Nat} {cA : ClassId × ClassId × ClassId}  {x1 : Int32} {Q : Int32 → Mo → Prop} (S : CallFix p m c b_Mo_least 6 s args gtbl R_Mo) (hr : meth.sig.returnType = (some .int)) (hlk : meth.locks = false) (hK : gK D (tyA cA) s) (hA : ∀ q : Nat, s.heap.size ≤ q → A q) : ∀ n : Nat, ∀ (ls : Array Slot) (H : Heap) (locs : List Loc) (x2 : Int32) (mo : Mo), p_Mo_least_13 x1 Q n x2 mo → lv_has ls 6 [(0, .ref (ad 0)), (1, .int x1), (2, .int x2)] → gIn D A s (wM ad cA) mo H locs → W p l e rm_Mo_least s m args below meth c H locs 0 0 (qI D (tyA cA) A (wM ad cA) (fun u : Mo => u) (fun (r : Int32) (u : Mo) => Q r u) below args s) (F0 m 13 ls []) := by
  intro n
  induction n with
  | zero =>
    intro ls H locs x2 mo h
    exact (show False from h).elim
  | succ n ih =>
    intro ls H locs x2 mo h hl I
    refine lv_iload_n S.1 S.2.1 d_Mo_least_13 rfl (lv_at hl 2 rfl) ?_
    refine lv_aload_n S.1 S.2.1 d_Mo_least_14 rfl (lv_at hl 0 rfl) ?_
    refine g_Mo_count S hK I.1 d_Mo_least_15 ?_
    refine lv_icmp_ge (tgt := 38) S.1 S.2.1 d_Mo_least_18 (by decide) (fun hc => ?_) (fun hc => ?_)
    · have h := h.1 hc
      refine lv_iconst (v := (1 : Int32)) S.1 S.2.1 d_Mo_least_38 rfl ?_
      refine lv_istore_n (lv' := [(2, .int (1 : Int32)), (0, .ref (ad 0)), (1, .int x1)]) S.1 S.2.1 d_Mo_least_39 rfl hl (by decide) rfl (fun ls hl => ?_)
      obtain ⟨n', h⟩ := h
      exact n_Mo_least_40 S hr hlk hK hA n' _ _ _ _ _ h (lv_sub hl [1, 2, 0] rfl) I
    · have h := h.2 hc
      refine lv_aload_n S.1 S.2.1 d_Mo_least_21 rfl (lv_at hl 0 rfl) ?_
      refine g_Mo_light S hK I.1 d_Mo_least_22 ?_
      refine lv_iload_n S.1 S.2.1 d_Mo_least_25 rfl (lv_at hl 2 rfl) ?_
      refine lv_aload_n S.1 S.2.1 d_Mo_least_26 rfl (lv_at hl 0 rfl) ?_
      refine lv_iload_n S.1 S.2.1 d_Mo_least_27 rfl (lv_at hl 2 rfl) ?_
      refine callV_rwi S (c_Mo_size l D ad cA _ _ _ h) (mkV S.2.2.2.2 ml_Mo_100 k_Mo_size rfl rfl ⟨Nat.le_of_ble_eq_true rfl, Nat.le_of_ble_eq_true rfl⟩) (rv_Mo hK I.1) hK hA I hl.1 rfl rfl (Nat.le_of_ble_eq_true rfl) d_Mo_least_28 ⟨Nat.zero_le _, Nat.zero_le _⟩ (fun r28 mo28 H locs h I => ?_)
      obtain ⟨hin, h⟩ := h
      refine s_Mo_light S hK I hin d_Mo_least_31 (fun H locs mo31 emo31 I => ?_)
      have h := h mo31 emo31
      refine lv_iinc (k := 2) (v := x2 + (1 : Int32)) (lv' := [(2, .int (x2 + (1 : Int32))), (0, .ref (ad 0)), (1, .int x1)]) S.1 S.2.1 d_Mo_least_32 hl rfl rfl (by decide) rfl (fun ls hl => ?_)
      refine lv_goto (tgt := 13) S.1 S.2.1 d_Mo_least_35 (by decide) ?_
      exact ih _ _ _ _ _ h (lv_sub hl [1, 2, 0] rfl) I
set_option maxHeartbeats 4000000 in
set_option maxRecDepth 100000 in
theorem c_Mo_least (l : Launch) (D : va_G) (ad : Nat → Nat) (cA : ClassId × ClassId × ClassId) (mo : Mo) (x1 : Int32) (Q : Int32 → Mo → Prop) (h : p_Mo_least x1 mo Q) : rwI l y_Mo_least (wsOf y_Mo_least b_Mo_least 6 (some .int)) rm_Mo_least D (tyA cA) (wM ad cA) [.ref (ad 0), .int x1] mo (fun u : Mo => u) (fun (r : Int32) (u : Mo) => Q r u) := by
  refine rwI_of (by decide) (Nat.le_of_ble_eq_true rfl) ?_
  intro p e s m below meth c S hr hlk hK A hA I ls hl
  have hl : lv_has ls 6 [(0, .ref (ad 0)), (1, .int x1)] := hl
  refine lv_aload_n S.1 S.2.1 d_Mo_least_0 rfl (lv_at hl 0 rfl) ?_
  refine lv_iload_n S.1 S.2.1 d_Mo_least_1 rfl (lv_at hl 1 rfl) ?_
  refine lv_iload_n S.1 S.2.1 d_Mo_least_2 rfl (lv_at hl 1 rfl) ?_
  refine callV_rwi S (c_Mo_ask l D ad cA _ _ _ _ h) (mkV S.2.2.2.2 ml_Mo_125 k_Mo_ask rfl rfl ⟨Nat.le_of_ble_eq_true rfl, Nat.le_of_ble_eq_true rfl⟩) (rv_Mo hK I.1) hK hA I hl.1 rfl rfl (Nat.le_of_ble_eq_true rfl) d_Mo_least_3 ⟨Nat.zero_le _, Nat.zero_le _⟩ (fun r3 mo3 H locs h I => ?_)
  refine lv_if_ne (tgt := 11) S.1 S.2.1 d_Mo_least_6 (by decide) (fun hc => ?_) (fun hc => ?_)
  · have h := h.1 hc
    refine lv_iconst (v := (0 : Int32)) S.1 S.2.1 d_Mo_least_11 rfl ?_
    refine lv_istore_n (lv' := [(2, .int (0 : Int32)), (0, .ref (ad 0)), (1, .int x1)]) S.1 S.2.1 d_Mo_least_12 rfl hl (by decide) rfl (fun ls hl => ?_)
    obtain ⟨n', h⟩ := h
    exact n_Mo_least_13 S hr hlk hK hA n' _ _ _ _ _ h (lv_sub hl [1, 2, 0] rfl) I
  · have h := h.2 hc
    refine lv_iconst (v := (0 : Int32)) S.1 S.2.1 d_Mo_least_9 rfl ?_
    exact ret_rwi S hr hlk hK I h d_Mo_least_10

set_option maxHeartbeats 4000000 in
set_option maxRecDepth 100000 in
theorem n_Mo_lightest_199 {p : Program} {l : Launch} {e : Env} {s : State} {m : MethodId} {args : Array Value} {below : List Frame} {meth : Method} {c : Code} {D : va_G} {A : Nat → Prop} {ad : Nat → Nat} {cA : ClassId × ClassId × ClassId}  {x1 : Int32} {Q : Int32 → Mo → Prop} (S : CallFix p m c b_Mo_lightest 8 s args gtbl R_Mo) (hr : meth.sig.returnType = (some .int)) (hlk : meth.locks = false) (hK : gK D (tyA cA) s) (hA : ∀ q : Nat, s.heap.size ≤ q → A q) {k48 : Int32 → Mo → Prop} (hk48 : ∀ (ls : Array Slot) (H : Heap) (locs : List Loc) (x2 : Int32) (mo : Mo), k48 x2 mo → lv_has ls 8 [(0, .ref (ad 0)), (1, .int x1), (2, .int x2)] → gIn D A s (wM ad cA) mo H locs → W p l e rm_Mo_lightest s m args below meth c H locs 0 0 (qI D (tyA cA) A (wM ad cA) (fun u : Mo => u) (fun (r : Int32) (u : Mo) => Q r u) below args s) (F0 m 48 ls [])) {k56 : Int32 → Int32 → Mo → Prop} (hk56 : ∀ (ls : Array Slot) (H : Heap) (locs : List Loc) (x2 : Int32) (x3 : Int32) (mo : Mo), k56 x2 x3 mo → lv_has ls 8 [(0, .ref (ad 0)), (1, .int x1), (2, .int x2), (3, .int x3)] → gIn D A s (wM ad cA) mo H locs → W p l e rm_Mo_lightest s m args below meth c H locs 0 0 (qI D (tyA cA) A (wM ad cA) (fun u : Mo => u) (fun (r : Int32) (u : Mo) => Q r u) below args s) (F0 m 56 ls [])) : ∀ (ls : Array Slot) (H : Heap) (locs : List Loc) (x3 : Int32) (x6 : Int32) (x7 : Int32) (mo : Mo), p_Mo_lightest_199 x1 Q k48 k56 x3 x6 x7 mo → lv_has ls 8 [(0, .ref (ad 0)), (1, .int x1), (3, .int x3), (6, .int x6), (7, .int x7)] → gIn D A s (wM ad cA) mo H locs → W p l e rm_Mo_lightest s m args below meth c H locs 0 0 (qI D (tyA cA) A (wM ad cA) (fun u : Mo => u) (fun (r : Int32) (u : Mo) => Q r u) below args s) (F0 m 199 ls []) := by
  intro ls H locs x3 x6 x7 mo h hl I
  refine lv_aload_n S.1 S.2.1 d_Mo_lightest_199 rfl (lv_at hl 0 rfl) ?_
  refine g_Mo_stateLight S hK I.1 d_Mo_lightest_200 ?_
  refine lv_iload S.1 S.2.1 d_Mo_lightest_203 (lv_at hl 3 rfl) ?_
  refine lv_iload S.1 S.2.1 d_Mo_lightest_205 (lv_at hl 4 rfl) ?_
  obtain ⟨hin, h⟩ := h
  refine s_Mo_stateLight S hK I hin d_Mo_lightest_207 (fun H locs mo207 emo207 I => ?_)
  have h := h mo207 emo207
  refine lv_iconst (v := (1 : Int32)) S.1 S.2.1 d_Mo_lightest_208 rfl ?_
  refine lv_istore_n (lv' := [(2, .int (1 : Int32)), (0, .ref (ad 0)), (1, .int x1), (3, .int x3), (6, .int x6), (7, .int x7)]) S.1 S.2.1 d_Mo_lightest_209 rfl hl (by decide) rfl (fun ls hl => ?_)
  refine lv_iinc (k := 3) (v := x3 + (1 : Int32)) (lv' := [(3, .int (x3 + (1 : Int32))), (2, .int (1 : Int32)), (0, .ref (ad 0)), (1, .int x1), (6, .int x6), (7, .int x7)]) S.1 S.2.1 d_Mo_lightest_210 hl rfl rfl (by decide) rfl (fun ls hl => ?_)
  refine lv_goto (tgt := 56) S.1 S.2.1 d_Mo_lightest_213 (by decide) ?_
  exact hk56 _ _ _ _ _ _ h (lv_sub hl [2, 3, 1, 0] rfl) I
set_option maxHeartbeats 4000000 in
set_option maxRecDepth 100000 in
theorem n_Mo_lightest_170 {p : Program} {l : Launch} {e : Env} {s : State} {m : MethodId} {args : Array Value} {below : List Frame} {meth : Method} {c : Code} {D : va_G} {A : Nat → Prop} {ad : Nat → Nat} {cA : ClassId × ClassId × ClassId}  {x1 : Int32} {Q : Int32 → Mo → Prop} (S : CallFix p m c b_Mo_lightest 8 s args gtbl R_Mo) (hr : meth.sig.returnType = (some .int)) (hlk : meth.locks = false) (hK : gK D (tyA cA) s) (hA : ∀ q : Nat, s.heap.size ≤ q → A q) {k48 : Int32 → Mo → Prop} (hk48 : ∀ (ls : Array Slot) (H : Heap) (locs : List Loc) (x2 : Int32) (mo : Mo), k48 x2 mo → lv_has ls 8 [(0, .ref (ad 0)), (1, .int x1), (2, .int x2)] → gIn D A s (wM ad cA) mo H locs → W p l e rm_Mo_lightest s m args below meth c H locs 0 0 (qI D (tyA cA) A (wM ad cA) (fun u : Mo => u) (fun (r : Int32) (u : Mo) => Q r u) below args s) (F0 m 48 ls [])) {k56 : Int32 → Int32 → Mo → Prop} (hk56 : ∀ (ls : Array Slot) (H : Heap) (locs : List Loc) (x2 : Int32) (x3 : Int32) (mo : Mo), k56 x2 x3 mo → lv_has ls 8 [(0, .ref (ad 0)), (1, .int x1), (2, .int x2), (3, .int x3)] → gIn D A s (wM ad cA) mo H locs → W p l e rm_Mo_lightest s m args below meth c H locs 0 0 (qI D (tyA cA) A (wM ad cA) (fun u : Mo => u) (fun (r : Int32) (u : Mo) => Q r u) below args s) (F0 m 56 ls [])) : ∀ (ls : Array Slot) (H : Heap) (locs : List Loc) (x2 : Int32) (x3 : Int32) (x6 : Int32) (y0 : Int32) (mo : Mo), p_Mo_lightest_170 x1 Q k48 k56 x2 x3 x6 y0 mo → lv_has ls 8 [(0, .ref (ad 0)), (1, .int x1), (2, .int x2), (3, .int x3), (6, .int x6)] → gIn D A s (wM ad cA) mo H locs → W p l e rm_Mo_lightest s m args below meth c H locs 0 0 (qI D (tyA cA) A (wM ad cA) (fun u : Mo => u) (fun (r : Int32) (u : Mo) => Q r u) below args s) (F0 m 170 ls [.int y0]) := by
  intro ls H locs x2 x3 x6 y0 mo h hl I
  refine lv_istore (lv' := [(7, .int y0), (0, .ref (ad 0)), (1, .int x1), (2, .int x2), (3, .int x3), (6, .int x6)]) S.1 S.2.1 d_Mo_lightest_170 hl (by decide) rfl (fun ls hl => ?_)
  refine lv_iload S.1 S.2.1 d_Mo_lightest_172 (lv_at hl 0 rfl) ?_
  refine lv_if_lt (tgt := 210) S.1 S.2.1 d_Mo_lightest_174 (by decide) (fun hc => ?_) (fun hc => ?_)
  · have h := h.1 hc
    refine lv_iinc (k := 4) (v := x3 + (1 : Int32)) (lv' := [(3, .int (x3 + (1 : Int32))), (7, .int y0), (0, .ref (ad 0)), (1, .int x1), (2, .int x2), (6, .int x6)]) S.1 S.2.1 d_Mo_lightest_210 hl rfl rfl (by decide) rfl (fun ls hl => ?_)
    refine lv_goto (tgt := 56) S.1 S.2.1 d_Mo_lightest_213 (by decide) ?_
    exact hk56 _ _ _ _ _ _ h (lv_sub hl [2, 3, 4, 0] rfl) I
  · have h := h.2 hc
    refine lv_aload_n S.1 S.2.1 d_Mo_lightest_177 rfl (lv_at hl 1 rfl) ?_
    refine g_Mo_stateLight S hK I.1 d_Mo_lightest_178 ?_
    refine lv_iload S.1 S.2.1 d_Mo_lightest_181 (lv_at hl 5 rfl) ?_
    obtain ⟨hin, h⟩ := h
    refine a_Mo_stateLight S hK I.1 hin d_Mo_lightest_183 ?_
    refine lv_if_lt (tgt := 199) S.1 S.2.1 d_Mo_lightest_184 (by decide) (fun hc => ?_) (fun hc => ?_)
    · have h := h.1 hc
      exact n_Mo_lightest_199 S hr hlk hK hA hk48 hk56 _ _ _ _ _ _ _ h (lv_sub hl [1, 2, 4, 5, 0] rfl) I
    · have h := h.2 hc
      refine lv_iload S.1 S.2.1 d_Mo_lightest_187 (lv_at hl 0 rfl) ?_
      refine lv_aload_n S.1 S.2.1 d_Mo_lightest_189 rfl (lv_at hl 1 rfl) ?_
      refine g_Mo_stateLight S hK I.1 d_Mo_lightest_190 ?_
      refine lv_iload S.1 S.2.1 d_Mo_lightest_193 (lv_at hl 5 rfl) ?_
      obtain ⟨hin, h⟩ := h
      refine a_Mo_stateLight S hK I.1 hin d_Mo_lightest_195 ?_
      refine lv_icmp_ge (tgt := 210) S.1 S.2.1 d_Mo_lightest_196 (by decide) (fun hc => ?_) (fun hc => ?_)
      · have h := h.1 hc
        refine lv_iinc (k := 4) (v := x3 + (1 : Int32)) (lv' := [(3, .int (x3 + (1 : Int32))), (7, .int y0), (0, .ref (ad 0)), (1, .int x1), (2, .int x2), (6, .int x6)]) S.1 S.2.1 d_Mo_lightest_210 hl rfl rfl (by decide) rfl (fun ls hl => ?_)
        refine lv_goto (tgt := 56) S.1 S.2.1 d_Mo_lightest_213 (by decide) ?_
        exact hk56 _ _ _ _ _ _ h (lv_sub hl [2, 3, 4, 0] rfl) I
      · have h := h.2 hc
        exact n_Mo_lightest_199 S hr hlk hK hA hk48 hk56 _ _ _ _ _ _ _ h (lv_sub hl [1, 2, 4, 5, 0] rfl) I
set_option maxHeartbeats 4000000 in
set_option maxRecDepth 100000 in
theorem n_Mo_lightest_154 {p : Program} {l : Launch} {e : Env} {s : State} {m : MethodId} {args : Array Value} {below : List Frame} {meth : Method} {c : Code} {D : va_G} {A : Nat → Prop} {ad : Nat → Nat} {cA : ClassId × ClassId × ClassId}  {x1 : Int32} {Q : Int32 → Mo → Prop} (S : CallFix p m c b_Mo_lightest 8 s args gtbl R_Mo) (hr : meth.sig.returnType = (some .int)) (hlk : meth.locks = false) (hK : gK D (tyA cA) s) (hA : ∀ q : Nat, s.heap.size ≤ q → A q) {k48 : Int32 → Mo → Prop} (hk48 : ∀ (ls : Array Slot) (H : Heap) (locs : List Loc) (x2 : Int32) (mo : Mo), k48 x2 mo → lv_has ls 8 [(0, .ref (ad 0)), (1, .int x1), (2, .int x2)] → gIn D A s (wM ad cA) mo H locs → W p l e rm_Mo_lightest s m args below meth c H locs 0 0 (qI D (tyA cA) A (wM ad cA) (fun u : Mo => u) (fun (r : Int32) (u : Mo) => Q r u) below args s) (F0 m 48 ls [])) {k56 : Int32 → Int32 → Mo → Prop} (hk56 : ∀ (ls : Array Slot) (H : Heap) (locs : List Loc) (x2 : Int32) (x3 : Int32) (mo : Mo), k56 x2 x3 mo → lv_has ls 8 [(0, .ref (ad 0)), (1, .int x1), (2, .int x2), (3, .int x3)] → gIn D A s (wM ad cA) mo H locs → W p l e rm_Mo_lightest s m args below meth c H locs 0 0 (qI D (tyA cA) A (wM ad cA) (fun u : Mo => u) (fun (r : Int32) (u : Mo) => Q r u) below args s) (F0 m 56 ls [])) : ∀ (ls : Array Slot) (H : Heap) (locs : List Loc) (x2 : Int32) (x3 : Int32) (x6 : Int32) (mo : Mo), p_Mo_lightest_154 x1 Q k48 k56 x2 x3 x6 mo → lv_has ls 8 [(0, .ref (ad 0)), (1, .int x1), (2, .int x2), (3, .int x3), (6, .int x6)] → gIn D A s (wM ad cA) mo H locs → W p l e rm_Mo_lightest s m args below meth c H locs 0 0 (qI D (tyA cA) A (wM ad cA) (fun u : Mo => u) (fun (r : Int32) (u : Mo) => Q r u) below args s) (F0 m 154 ls []) := by
  intro ls H locs x2 x3 x6 mo h hl I
  refine lv_iconst (v := (-1 : Int32)) S.1 S.2.1 d_Mo_lightest_154 rfl ?_
  refine lv_goto (tgt := 170) S.1 S.2.1 d_Mo_lightest_155 (by decide) ?_
  exact n_Mo_lightest_170 S hr hlk hK hA hk48 hk56 _ _ _ _ _ _ _ _ h (lv_sub hl [0, 1, 2, 3, 4] rfl) I
set_option maxHeartbeats 4000000 in
set_option maxRecDepth 100000 in
theorem n_Mo_lightest_130 {p : Program} {l : Launch} {e : Env} {s : State} {m : MethodId} {args : Array Value} {below : List Frame} {meth : Method} {c : Code} {D : va_G} {A : Nat → Prop} {ad : Nat → Nat} {cA : ClassId × ClassId × ClassId}  {x1 : Int32} {Q : Int32 → Mo → Prop} (S : CallFix p m c b_Mo_lightest 8 s args gtbl R_Mo) (hr : meth.sig.returnType = (some .int)) (hlk : meth.locks = false) (hK : gK D (tyA cA) s) (hA : ∀ q : Nat, s.heap.size ≤ q → A q) {k48 : Int32 → Mo → Prop} (hk48 : ∀ (ls : Array Slot) (H : Heap) (locs : List Loc) (x2 : Int32) (mo : Mo), k48 x2 mo → lv_has ls 8 [(0, .ref (ad 0)), (1, .int x1), (2, .int x2)] → gIn D A s (wM ad cA) mo H locs → W p l e rm_Mo_lightest s m args below meth c H locs 0 0 (qI D (tyA cA) A (wM ad cA) (fun u : Mo => u) (fun (r : Int32) (u : Mo) => Q r u) below args s) (F0 m 48 ls [])) {k56 : Int32 → Int32 → Mo → Prop} (hk56 : ∀ (ls : Array Slot) (H : Heap) (locs : List Loc) (x2 : Int32) (x3 : Int32) (mo : Mo), k56 x2 x3 mo → lv_has ls 8 [(0, .ref (ad 0)), (1, .int x1), (2, .int x2), (3, .int x3)] → gIn D A s (wM ad cA) mo H locs → W p l e rm_Mo_lightest s m args below meth c H locs 0 0 (qI D (tyA cA) A (wM ad cA) (fun u : Mo => u) (fun (r : Int32) (u : Mo) => Q r u) below args s) (F0 m 56 ls [])) : ∀ (ls : Array Slot) (H : Heap) (locs : List Loc) (x2 : Int32) (x3 : Int32) (x4 : Int32) (y0 : Int32) (mo : Mo), p_Mo_lightest_130 x1 Q k48 k56 x2 x3 x4 y0 mo → lv_has ls 8 [(0, .ref (ad 0)), (1, .int x1), (2, .int x2), (3, .int x3), (4, .int x4)] → gIn D A s (wM ad cA) mo H locs → W p l e rm_Mo_lightest s m args below meth c H locs 0 0 (qI D (tyA cA) A (wM ad cA) (fun u : Mo => u) (fun (r : Int32) (u : Mo) => Q r u) below args s) (F0 m 130 ls [.int y0]) := by
  intro ls H locs x2 x3 x4 y0 mo h hl I
  refine lv_istore (lv' := [(5, .int y0), (0, .ref (ad 0)), (1, .int x1), (2, .int x2), (3, .int x3), (4, .int x4)]) S.1 S.2.1 d_Mo_lightest_130 hl (by decide) rfl (fun ls hl => ?_)
  refine lv_aload_n S.1 S.2.1 d_Mo_lightest_132 rfl (lv_at hl 1 rfl) ?_
  refine g_Mo_edge S hK I.1 d_Mo_lightest_133 ?_
  refine lv_iconst (v := (4 : Int32)) S.1 S.2.1 d_Mo_lightest_136 rfl ?_
  refine lv_iload_n S.1 S.2.1 d_Mo_lightest_137 rfl (lv_at hl 4 rfl) ?_
  refine lv_imul S.1 S.2.1 d_Mo_lightest_138 ?_
  refine lv_iconst (v := (3 : Int32)) S.1 S.2.1 d_Mo_lightest_139 rfl ?_
  refine lv_iadd S.1 S.2.1 d_Mo_lightest_140 ?_
  obtain ⟨hin, h⟩ := h
  refine a_Mo_edge S hK I.1 hin d_Mo_lightest_141 ?_
  refine lv_istore (lv' := [(6, .int (Mo_edge mo (((4 : Int32) * x3) + (3 : Int32)).toNatClampNeg)), (5, .int y0), (0, .ref (ad 0)), (1, .int x1), (2, .int x2), (3, .int x3), (4, .int x4)]) S.1 S.2.1 d_Mo_lightest_142 hl (by decide) rfl (fun ls hl => ?_)
  refine lv_iload S.1 S.2.1 d_Mo_lightest_144 (lv_at hl 6 rfl) ?_
  refine lv_if_lt (tgt := 154) S.1 S.2.1 d_Mo_lightest_146 (by decide) (fun hc => ?_) (fun hc => ?_)
  · have h := h.1 hc
    exact n_Mo_lightest_154 S hr hlk hK hA hk48 hk56 _ _ _ _ _ _ _ h (lv_sub hl [2, 3, 4, 5, 0] rfl) I
  · have h := h.2 hc
    refine lv_iload S.1 S.2.1 d_Mo_lightest_149 (lv_at hl 1 rfl) ?_
    refine lv_if_ge (tgt := 158) S.1 S.2.1 d_Mo_lightest_151 (by decide) (fun hc => ?_) (fun hc => ?_)
    · have h := h.1 hc
      refine lv_lconst (v := (1 : Int64)) S.1 S.2.1 d_Mo_lightest_158 rfl ?_
      refine lv_iload S.1 S.2.1 d_Mo_lightest_159 (lv_at hl 6 rfl) ?_
      refine lv_i2l S.1 S.2.1 d_Mo_lightest_161 rfl ?_
      refine lv_ladd S.1 S.2.1 d_Mo_lightest_162 ?_
      refine lv_iload S.1 S.2.1 d_Mo_lightest_163 (lv_at hl 1 rfl) ?_
      refine lv_i2l S.1 S.2.1 d_Mo_lightest_165 rfl ?_
      refine lv_ladd S.1 S.2.1 d_Mo_lightest_166 ?_
      refine callS_roi S (c_Mo_capped l D ad cA _ _ _ h) (mkS S.2.2.2.2 ml_Mo_89 k_Mo_capped rfl rfl ⟨Nat.le_of_ble_eq_true rfl, Nat.le_of_ble_eq_true rfl⟩) hK I.1 hl.1 rfl rfl (Nat.le_of_ble_eq_true rfl) d_Mo_lightest_167 ⟨Nat.zero_le _, Nat.zero_le _⟩ (fun r167 h => ?_)
      exact n_Mo_lightest_170 S hr hlk hK hA hk48 hk56 _ _ _ _ _ _ _ _ h (lv_sub hl [2, 3, 4, 5, 0] rfl) I
    · have h := h.2 hc
      exact n_Mo_lightest_154 S hr hlk hK hA hk48 hk56 _ _ _ _ _ _ _ h (lv_sub hl [2, 3, 4, 5, 0] rfl) I
set_option maxHeartbeats 4000000 in
set_option maxRecDepth 100000 in
theorem n_Mo_lightest_96 {p : Program} {l : Launch} {e : Env} {s : State} {m : MethodId} {args : Array Value} {below : List Frame} {meth : Method} {c : Code} {D : va_G} {A : Nat → Prop} {ad : Nat → Nat} {cA : ClassId × ClassId × ClassId}  {x1 : Int32} {Q : Int32 → Mo → Prop} (S : CallFix p m c b_Mo_lightest 8 s args gtbl R_Mo) (hr : meth.sig.returnType = (some .int)) (hlk : meth.locks = false) (hK : gK D (tyA cA) s) (hA : ∀ q : Nat, s.heap.size ≤ q → A q) {k48 : Int32 → Mo → Prop} (hk48 : ∀ (ls : Array Slot) (H : Heap) (locs : List Loc) (x2 : Int32) (mo : Mo), k48 x2 mo → lv_has ls 8 [(0, .ref (ad 0)), (1, .int x1), (2, .int x2)] → gIn D A s (wM ad cA) mo H locs → W p l e rm_Mo_lightest s m args below meth c H locs 0 0 (qI D (tyA cA) A (wM ad cA) (fun u : Mo => u) (fun (r : Int32) (u : Mo) => Q r u) below args s) (F0 m 48 ls [])) {k56 : Int32 → Int32 → Mo → Prop} (hk56 : ∀ (ls : Array Slot) (H : Heap) (locs : List Loc) (x2 : Int32) (x3 : Int32) (mo : Mo), k56 x2 x3 mo → lv_has ls 8 [(0, .ref (ad 0)), (1, .int x1), (2, .int x2), (3, .int x3)] → gIn D A s (wM ad cA) mo H locs → W p l e rm_Mo_lightest s m args below meth c H locs 0 0 (qI D (tyA cA) A (wM ad cA) (fun u : Mo => u) (fun (r : Int32) (u : Mo) => Q r u) below args s) (F0 m 56 ls [])) : ∀ (ls : Array Slot) (H : Heap) (locs : List Loc) (x2 : Int32) (x3 : Int32) (y0 : Int32) (mo : Mo), p_Mo_lightest_96 x1 Q k48 k56 x2 x3 y0 mo → lv_has ls 8 [(0, .ref (ad 0)), (1, .int x1), (2, .int x2), (3, .int x3)] → gIn D A s (wM ad cA) mo H locs → W p l e rm_Mo_lightest s m args below meth c H locs 0 0 (qI D (tyA cA) A (wM ad cA) (fun u : Mo => u) (fun (r : Int32) (u : Mo) => Q r u) below args s) (F0 m 96 ls [.int y0]) := by
  intro ls H locs x2 x3 y0 mo h hl I
  refine lv_istore (lv' := [(4, .int y0), (0, .ref (ad 0)), (1, .int x1), (2, .int x2), (3, .int x3)]) S.1 S.2.1 d_Mo_lightest_96 hl (by decide) rfl (fun ls hl => ?_)
  refine lv_aload_n S.1 S.2.1 d_Mo_lightest_98 rfl (lv_at hl 1 rfl) ?_
  refine g_Mo_edge S hK I.1 d_Mo_lightest_99 ?_
  refine lv_iconst (v := (4 : Int32)) S.1 S.2.1 d_Mo_lightest_102 rfl ?_
  refine lv_iload_n S.1 S.2.1 d_Mo_lightest_103 rfl (lv_at hl 4 rfl) ?_
  refine lv_imul S.1 S.2.1 d_Mo_lightest_104 ?_
  refine lv_iconst (v := (2 : Int32)) S.1 S.2.1 d_Mo_lightest_105 rfl ?_
  refine lv_iadd S.1 S.2.1 d_Mo_lightest_106 ?_
  obtain ⟨hin, h⟩ := h
  refine a_Mo_edge S hK I.1 hin d_Mo_lightest_107 ?_
  refine lv_if_ge (tgt := 115) S.1 S.2.1 d_Mo_lightest_108 (by decide) (fun hc => ?_) (fun hc => ?_)
  · have h := h.1 hc
    refine lv_aload_n S.1 S.2.1 d_Mo_lightest_115 rfl (lv_at hl 1 rfl) ?_
    refine g_Mo_stateLight S hK I.1 d_Mo_lightest_116 ?_
    refine lv_aload_n S.1 S.2.1 d_Mo_lightest_119 rfl (lv_at hl 1 rfl) ?_
    refine g_Mo_edge S hK I.1 d_Mo_lightest_120 ?_
    refine lv_iconst (v := (4 : Int32)) S.1 S.2.1 d_Mo_lightest_123 rfl ?_
    refine lv_iload_n S.1 S.2.1 d_Mo_lightest_124 rfl (lv_at hl 4 rfl) ?_
    refine lv_imul S.1 S.2.1 d_Mo_lightest_125 ?_
    refine lv_iconst (v := (2 : Int32)) S.1 S.2.1 d_Mo_lightest_126 rfl ?_
    refine lv_iadd S.1 S.2.1 d_Mo_lightest_127 ?_
    obtain ⟨hin, h⟩ := h
    refine a_Mo_edge S hK I.1 hin d_Mo_lightest_128 ?_
    obtain ⟨hin, h⟩ := h
    refine a_Mo_stateLight S hK I.1 hin d_Mo_lightest_129 ?_
    exact n_Mo_lightest_130 S hr hlk hK hA hk48 hk56 _ _ _ _ _ _ _ _ h (lv_sub hl [1, 2, 3, 4, 0] rfl) I
  · have h := h.2 hc
    refine lv_iconst (v := (0 : Int32)) S.1 S.2.1 d_Mo_lightest_111 rfl ?_
    refine lv_goto (tgt := 130) S.1 S.2.1 d_Mo_lightest_112 (by decide) ?_
    exact n_Mo_lightest_130 S hr hlk hK hA hk48 hk56 _ _ _ _ _ _ _ _ h (lv_sub hl [1, 2, 3, 4, 0] rfl) I
set_option maxHeartbeats 4000000 in
set_option maxRecDepth 100000 in
theorem n_Mo_lightest_56 {p : Program} {l : Launch} {e : Env} {s : State} {m : MethodId} {args : Array Value} {below : List Frame} {meth : Method} {c : Code} {D : va_G} {A : Nat → Prop} {ad : Nat → Nat} {cA : ClassId × ClassId × ClassId}  {x1 : Int32} {Q : Int32 → Mo → Prop} (S : CallFix p m c b_Mo_lightest 8 s args gtbl R_Mo) (hr : meth.sig.returnType = (some .int)) (hlk : meth.locks = false) (hK : gK D (tyA cA) s) (hA : ∀ q : Nat, s.heap.size ≤ q → A q) {k48 : Int32 → Mo → Prop} (hk48 : ∀ (ls : Array Slot) (H : Heap) (locs : List Loc) (x2 : Int32) (mo : Mo), k48 x2 mo → lv_has ls 8 [(0, .ref (ad 0)), (1, .int x1), (2, .int x2)] → gIn D A s (wM ad cA) mo H locs → W p l e rm_Mo_lightest s m args below meth c H locs 0 0 (qI D (tyA cA) A (wM ad cA) (fun u : Mo => u) (fun (r : Int32) (u : Mo) => Q r u) below args s) (F0 m 48 ls [])) : ∀ n : Nat, ∀ (ls : Array Slot) (H : Heap) (locs : List Loc) (x2 : Int32) (x3 : Int32) (mo : Mo), p_Mo_lightest_56 x1 Q k48 n x2 x3 mo → lv_has ls 8 [(0, .ref (ad 0)), (1, .int x1), (2, .int x2), (3, .int x3)] → gIn D A s (wM ad cA) mo H locs → W p l e rm_Mo_lightest s m args below meth c H locs 0 0 (qI D (tyA cA) A (wM ad cA) (fun u : Mo => u) (fun (r : Int32) (u : Mo) => Q r u) below args s) (F0 m 56 ls []) := by
  intro n
  induction n with
  | zero =>
    intro ls H locs x2 x3 mo h
    exact (show False from h).elim
  | succ n ih =>
    intro ls H locs x2 x3 mo h hl I
    refine lv_iload_n S.1 S.2.1 d_Mo_lightest_56 rfl (lv_at hl 3 rfl) ?_
    refine lv_aload_n S.1 S.2.1 d_Mo_lightest_57 rfl (lv_at hl 0 rfl) ?_
    refine g_Mo_edges S hK I.1 d_Mo_lightest_58 ?_
    refine lv_icmp_ge (tgt := 216) S.1 S.2.1 d_Mo_lightest_61 (by decide) (fun hc => ?_) (fun hc => ?_)
    · have h := h.1 hc
      refine lv_goto (tgt := 48) S.1 S.2.1 d_Mo_lightest_216 (by decide) ?_
      exact hk48 _ _ _ _ _ h (lv_sub hl [0, 1, 2] rfl) I
    · have h := h.2 hc
      refine lv_aload_n S.1 S.2.1 d_Mo_lightest_64 rfl (lv_at hl 0 rfl) ?_
      refine g_Mo_edge S hK I.1 d_Mo_lightest_65 ?_
      refine lv_iconst (v := (4 : Int32)) S.1 S.2.1 d_Mo_lightest_68 rfl ?_
      refine lv_iload_n S.1 S.2.1 d_Mo_lightest_69 rfl (lv_at hl 3 rfl) ?_
      refine lv_imul S.1 S.2.1 d_Mo_lightest_70 ?_
      refine lv_iconst (v := (1 : Int32)) S.1 S.2.1 d_Mo_lightest_71 rfl ?_
      refine lv_iadd S.1 S.2.1 d_Mo_lightest_72 ?_
      obtain ⟨hin, h⟩ := h
      refine a_Mo_edge S hK I.1 hin d_Mo_lightest_73 ?_
      refine lv_if_ge (tgt := 81) S.1 S.2.1 d_Mo_lightest_74 (by decide) (fun hc => ?_) (fun hc => ?_)
      · have h := h.1 hc
        refine lv_aload_n S.1 S.2.1 d_Mo_lightest_81 rfl (lv_at hl 0 rfl) ?_
        refine g_Mo_stateLight S hK I.1 d_Mo_lightest_82 ?_
        refine lv_aload_n S.1 S.2.1 d_Mo_lightest_85 rfl (lv_at hl 0 rfl) ?_
        refine g_Mo_edge S hK I.1 d_Mo_lightest_86 ?_
        refine lv_iconst (v := (4 : Int32)) S.1 S.2.1 d_Mo_lightest_89 rfl ?_
        refine lv_iload_n S.1 S.2.1 d_Mo_lightest_90 rfl (lv_at hl 3 rfl) ?_
        refine lv_imul S.1 S.2.1 d_Mo_lightest_91 ?_
        refine lv_iconst (v := (1 : Int32)) S.1 S.2.1 d_Mo_lightest_92 rfl ?_
        refine lv_iadd S.1 S.2.1 d_Mo_lightest_93 ?_
        obtain ⟨hin, h⟩ := h
        refine a_Mo_edge S hK I.1 hin d_Mo_lightest_94 ?_
        obtain ⟨hin, h⟩ := h
        refine a_Mo_stateLight S hK I.1 hin d_Mo_lightest_95 ?_
        exact n_Mo_lightest_96 S hr hlk hK hA hk48 ih _ _ _ _ _ _ _ h (lv_sub hl [0, 1, 2, 3] rfl) I
      · have h := h.2 hc
        refine lv_iconst (v := (0 : Int32)) S.1 S.2.1 d_Mo_lightest_77 rfl ?_
        refine lv_goto (tgt := 96) S.1 S.2.1 d_Mo_lightest_78 (by decide) ?_
        exact n_Mo_lightest_96 S hr hlk hK hA hk48 ih _ _ _ _ _ _ _ h (lv_sub hl [0, 1, 2, 3] rfl) I
set_option maxHeartbeats 4000000 in
set_option maxRecDepth 100000 in
theorem n_Mo_lightest_48 {p : Program} {l : Launch} {e : Env} {s : State} {m : MethodId} {args : Array Value} {below : List Frame} {meth : Method} {c : Code} {D : va_G} {A : Nat → Prop} {ad : Nat → Nat} {cA : ClassId × ClassId × ClassId}  {x1 : Int32} {Q : Int32 → Mo → Prop} (S : CallFix p m c b_Mo_lightest 8 s args gtbl R_Mo) (hr : meth.sig.returnType = (some .int)) (hlk : meth.locks = false) (hK : gK D (tyA cA) s) (hA : ∀ q : Nat, s.heap.size ≤ q → A q) : ∀ n : Nat, ∀ (ls : Array Slot) (H : Heap) (locs : List Loc) (x2 : Int32) (mo : Mo), p_Mo_lightest_48 x1 Q n x2 mo → lv_has ls 8 [(0, .ref (ad 0)), (1, .int x1), (2, .int x2)] → gIn D A s (wM ad cA) mo H locs → W p l e rm_Mo_lightest s m args below meth c H locs 0 0 (qI D (tyA cA) A (wM ad cA) (fun u : Mo => u) (fun (r : Int32) (u : Mo) => Q r u) below args s) (F0 m 48 ls []) := by
  intro n
  induction n with
  | zero =>
    intro ls H locs x2 mo h
    exact (show False from h).elim
  | succ n ih =>
    intro ls H locs x2 mo h hl I
    refine lv_iload_n S.1 S.2.1 d_Mo_lightest_48 rfl (lv_at hl 2 rfl) ?_
    refine lv_if_eq (tgt := 219) S.1 S.2.1 d_Mo_lightest_49 (by decide) (fun hc => ?_) (fun hc => ?_)
    · have h := h.1 hc
      refine lv_aload_n S.1 S.2.1 d_Mo_lightest_219 rfl (lv_at hl 0 rfl) ?_
      refine g_Mo_stateLight S hK I.1 d_Mo_lightest_220 ?_
      refine lv_iload_n S.1 S.2.1 d_Mo_lightest_223 rfl (lv_at hl 1 rfl) ?_
      obtain ⟨hin, h⟩ := h
      refine a_Mo_stateLight S hK I.1 hin d_Mo_lightest_224 ?_
      exact ret_rwi S hr hlk hK I h d_Mo_lightest_225
    · have h := h.2 hc
      refine lv_iconst (v := (0 : Int32)) S.1 S.2.1 d_Mo_lightest_52 rfl ?_
      refine lv_istore_n (lv' := [(2, .int (0 : Int32)), (0, .ref (ad 0)), (1, .int x1)]) S.1 S.2.1 d_Mo_lightest_53 rfl hl (by decide) rfl (fun ls hl => ?_)
      refine lv_iconst (v := (0 : Int32)) S.1 S.2.1 d_Mo_lightest_54 rfl ?_
      refine lv_istore_n (lv' := [(3, .int (0 : Int32)), (2, .int (0 : Int32)), (0, .ref (ad 0)), (1, .int x1)]) S.1 S.2.1 d_Mo_lightest_55 rfl hl (by decide) rfl (fun ls hl => ?_)
      obtain ⟨n', h⟩ := h
      exact n_Mo_lightest_56 S hr hlk hK hA ih n' _ _ _ _ _ _ h (lv_sub hl [2, 3, 1, 0] rfl) I
set_option maxHeartbeats 4000000 in
set_option maxRecDepth 100000 in
theorem n_Mo_lightest_27 {p : Program} {l : Launch} {e : Env} {s : State} {m : MethodId} {args : Array Value} {below : List Frame} {meth : Method} {c : Code} {D : va_G} {A : Nat → Prop} {ad : Nat → Nat} {cA : ClassId × ClassId × ClassId}  {x1 : Int32} {Q : Int32 → Mo → Prop} (S : CallFix p m c b_Mo_lightest 8 s args gtbl R_Mo) (hr : meth.sig.returnType = (some .int)) (hlk : meth.locks = false) (hK : gK D (tyA cA) s) (hA : ∀ q : Nat, s.heap.size ≤ q → A q) : ∀ n : Nat, ∀ (ls : Array Slot) (H : Heap) (locs : List Loc) (x2 : Int32) (mo : Mo), p_Mo_lightest_27 x1 Q n x2 mo → lv_has ls 8 [(0, .ref (ad 0)), (1, .int x1), (2, .int x2)] → gIn D A s (wM ad cA) mo H locs → W p l e rm_Mo_lightest s m args below meth c H locs 0 0 (qI D (tyA cA) A (wM ad cA) (fun u : Mo => u) (fun (r : Int32) (u : Mo) => Q r u) below args s) (F0 m 27 ls []) := by
  intro n
  induction n with
  | zero =>
    intro ls H locs x2 mo h
    exact (show False from h).elim
  | succ n ih =>
    intro ls H locs x2 mo h hl I
    refine lv_iload_n S.1 S.2.1 d_Mo_lightest_27 rfl (lv_at hl 2 rfl) ?_
    refine lv_bipush (v := (6 : Int32)) S.1 S.2.1 d_Mo_lightest_28 rfl ?_
    refine lv_icmp_ge (tgt := 46) S.1 S.2.1 d_Mo_lightest_30 (by decide) (fun hc => ?_) (fun hc => ?_)
    · have h := h.1 hc
      refine lv_iconst (v := (1 : Int32)) S.1 S.2.1 d_Mo_lightest_46 rfl ?_
      refine lv_istore_n (lv' := [(2, .int (1 : Int32)), (0, .ref (ad 0)), (1, .int x1)]) S.1 S.2.1 d_Mo_lightest_47 rfl hl (by decide) rfl (fun ls hl => ?_)
      obtain ⟨n', h⟩ := h
      exact n_Mo_lightest_48 S hr hlk hK hA n' _ _ _ _ _ h (lv_sub hl [1, 2, 0] rfl) I
    · have h := h.2 hc
      refine lv_aload_n S.1 S.2.1 d_Mo_lightest_33 rfl (lv_at hl 0 rfl) ?_
      refine g_Mo_stateLight S hK I.1 d_Mo_lightest_34 ?_
      refine lv_iload_n S.1 S.2.1 d_Mo_lightest_37 rfl (lv_at hl 2 rfl) ?_
      refine lv_iconst (v := (-1 : Int32)) S.1 S.2.1 d_Mo_lightest_38 rfl ?_
      obtain ⟨hin, h⟩ := h
      refine s_Mo_stateLight S hK I hin d_Mo_lightest_39 (fun H locs mo39 emo39 I => ?_)
      have h := h mo39 emo39
      refine lv_iinc (k := 2) (v := x2 + (1 : Int32)) (lv' := [(2, .int (x2 + (1 : Int32))), (0, .ref (ad 0)), (1, .int x1)]) S.1 S.2.1 d_Mo_lightest_40 hl rfl rfl (by decide) rfl (fun ls hl => ?_)
      refine lv_goto (tgt := 27) S.1 S.2.1 d_Mo_lightest_43 (by decide) ?_
      exact ih _ _ _ _ _ h (lv_sub hl [1, 2, 0] rfl) I
set_option maxHeartbeats 4000000 in
set_option maxRecDepth 100000 in
theorem n_Mo_lightest_13 {p : Program} {l : Launch} {e : Env} {s : State} {m : MethodId} {args : Array Value} {below : List Frame} {meth : Method} {c : Code} {D : va_G} {A : Nat → Prop} {ad : Nat → Nat} {cA : ClassId × ClassId × ClassId}  {x1 : Int32} {Q : Int32 → Mo → Prop} (S : CallFix p m c b_Mo_lightest 8 s args gtbl R_Mo) (hr : meth.sig.returnType = (some .int)) (hlk : meth.locks = false) (hK : gK D (tyA cA) s) (hA : ∀ q : Nat, s.heap.size ≤ q → A q) : ∀ (ls : Array Slot) (H : Heap) (locs : List Loc) (y0 : Int32) (mo : Mo), p_Mo_lightest_13 x1 Q y0 mo → lv_has ls 8 [(0, .ref (ad 0)), (1, .int x1)] → gIn D A s (wM ad cA) mo H locs → W p l e rm_Mo_lightest s m args below meth c H locs 0 0 (qI D (tyA cA) A (wM ad cA) (fun u : Mo => u) (fun (r : Int32) (u : Mo) => Q r u) below args s) (F0 m 13 ls [.int y0, .ref (ad 0)]) := by
  intro ls H locs y0 mo h hl I
  refine q_Mo_thrown S hK I d_Mo_lightest_13 (fun H locs mo13 emo13 I => ?_)
  have h := h mo13 emo13
  refine lv_aload_n S.1 S.2.1 d_Mo_lightest_16 rfl (lv_at hl 0 rfl) ?_
  refine g_Mo_thrown S hK I.1 d_Mo_lightest_17 ?_
  refine lv_if_le (tgt := 25) S.1 S.2.1 d_Mo_lightest_20 (by decide) (fun hc => ?_) (fun hc => ?_)
  · have h := h.1 hc
    refine lv_iconst (v := (0 : Int32)) S.1 S.2.1 d_Mo_lightest_25 rfl ?_
    refine lv_istore_n (lv' := [(2, .int (0 : Int32)), (0, .ref (ad 0)), (1, .int x1)]) S.1 S.2.1 d_Mo_lightest_26 rfl hl (by decide) rfl (fun ls hl => ?_)
    obtain ⟨n', h⟩ := h
    exact n_Mo_lightest_27 S hr hlk hK hA n' _ _ _ _ _ h (lv_sub hl [1, 2, 0] rfl) I
  · have h := h.2 hc
    refine lv_iconst (v := (0 : Int32)) S.1 S.2.1 d_Mo_lightest_23 rfl ?_
    exact ret_rwi S hr hlk hK I h d_Mo_lightest_24
set_option maxHeartbeats 4000000 in
set_option maxRecDepth 100000 in
theorem c_Mo_lightest (l : Launch) (D : va_G) (ad : Nat → Nat) (cA : ClassId × ClassId × ClassId) (mo : Mo) (x1 : Int32) (Q : Int32 → Mo → Prop) (h : p_Mo_lightest x1 mo Q) : rwI l y_Mo_lightest (wsOf y_Mo_lightest b_Mo_lightest 8 (some .int)) rm_Mo_lightest D (tyA cA) (wM ad cA) [.ref (ad 0), .int x1] mo (fun u : Mo => u) (fun (r : Int32) (u : Mo) => Q r u) := by
  refine rwI_of (by decide) (Nat.le_of_ble_eq_true rfl) ?_
  intro p e s m below meth c S hr hlk hK A hA I ls hl
  have hl : lv_has ls 8 [(0, .ref (ad 0)), (1, .int x1)] := hl
  refine lv_aload_n S.1 S.2.1 d_Mo_lightest_0 rfl (lv_at hl 0 rfl) ?_
  refine lv_iload_n S.1 S.2.1 d_Mo_lightest_1 rfl (lv_at hl 1 rfl) ?_
  refine callS_roi S (c_Mo_isState l D ad cA _ _ _ h) (mkS S.2.2.2.2 ml_Mo_106 k_Mo_isState rfl rfl ⟨Nat.le_of_ble_eq_true rfl, Nat.le_of_ble_eq_true rfl⟩) hK I.1 hl.1 rfl rfl (Nat.le_of_ble_eq_true rfl) d_Mo_lightest_2 ⟨Nat.zero_le _, Nat.zero_le _⟩ (fun r2 h => ?_)
  refine lv_if_eq (tgt := 12) S.1 S.2.1 d_Mo_lightest_5 (by decide) (fun hc => ?_) (fun hc => ?_)
  · have h := h.1 hc
    refine lv_iconst (v := (1 : Int32)) S.1 S.2.1 d_Mo_lightest_12 rfl ?_
    exact n_Mo_lightest_13 S hr hlk hK hA _ _ _ _ _ h (lv_sub hl [0, 1] rfl) I
  · have h := h.2 hc
    refine lv_iconst (v := (0 : Int32)) S.1 S.2.1 d_Mo_lightest_8 rfl ?_
    refine lv_goto (tgt := 13) S.1 S.2.1 d_Mo_lightest_9 (by decide) ?_
    exact n_Mo_lightest_13 S hr hlk hK hA _ _ _ _ _ h (lv_sub hl [0, 1] rfl) I
