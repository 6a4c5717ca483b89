set_option maxHeartbeats 4000000 in
set_option maxRecDepth 100000 in
theorem n_Mo_down_179 {p : Program} {l : Launch} {e : Env} {s : State} {m : MethodId} {args : Array Value} {below : List Frame} {meth : Method} {c : Code} {D : va_G} {A : Nat → Prop} {ad : Nat → Nat} {cA : ClassId × ClassId × ClassId}  {x1 : Int32} {x2 : Int32} {Q : Int32 → Mo → Prop} (S : CallFix p m c b_Mo_down 8 s args gtbl R_Mo) (hr : meth.sig.returnType = (some .int)) (hlk : meth.locks = false) (hK : gK D (tyA cA) s) (hA : ∀ q : Nat, s.heap.size ≤ q → A q) {k144 : Int32 → Int32 → Int32 → Int32 → Mo → Prop} (hk144 : ∀ (ls : Array Slot) (H : Heap) (locs : List Loc) (x3 : Int32) (x4 : Int32) (x6 : Int32) (x7 : Int32) (mo : Mo), k144 x3 x4 x6 x7 mo → lv_has ls 8 [(0, .ref (ad 0)), (3, .int x3), (4, .int x4), (6, .int x6), (7, .int x7)] → gIn D A s (wM ad cA) mo H locs → W p l e rm_Mo_down s m args below meth c H locs 0 0 (qI D (tyA cA) A (wM ad cA) (fun u : Mo => u) (fun (r : Int32) (u : Mo) => Q r u) below args s) (F0 m 144 ls [])) : ∀ (ls : Array Slot) (H : Heap) (locs : List Loc) (x3 : Int32) (x4 : Int32) (x6 : Int32) (x7 : Int32) (mo : Mo), p_Mo_down_179 x1 x2 Q k144 x3 x4 x6 x7 mo → lv_has ls 8 [(0, .ref (ad 0)), (3, .int x3), (4, .int x4), (6, .int x6), (7, .int x7)] → gIn D A s (wM ad cA) mo H locs → W p l e rm_Mo_down s m args below meth c H locs 0 0 (qI D (tyA cA) A (wM ad cA) (fun u : Mo => u) (fun (r : Int32) (u : Mo) => Q r u) below args s) (F0 m 179 ls []) := by
  intro ls H locs x3 x4 x6 x7 mo h hl I
  refine lv_iload S.1 S.2.1 d_Mo_down_179 (lv_at hl 3 rfl) ?_
  refine lv_istore (lv' := [(6, .int x6), (0, .ref (ad 0)), (3, .int x3), (4, .int x4), (7, .int x7)]) S.1 S.2.1 d_Mo_down_181 hl (by decide) rfl (fun ls hl => ?_)
  refine lv_iinc (k := 2) (v := x3 + (-1 : Int32)) (lv' := [(3, .int (x3 + (-1 : Int32))), (6, .int x6), (0, .ref (ad 0)), (4, .int x4), (7, .int x7)]) S.1 S.2.1 d_Mo_down_183 hl rfl rfl (by decide) rfl (fun ls hl => ?_)
  refine lv_iinc (k := 4) (v := x7 + (1 : Int32)) (lv' := [(7, .int (x7 + (1 : Int32))), (3, .int (x3 + (-1 : Int32))), (6, .int x6), (0, .ref (ad 0)), (4, .int x4)]) S.1 S.2.1 d_Mo_down_186 hl rfl rfl (by decide) rfl (fun ls hl => ?_)
  refine lv_goto (tgt := 144) S.1 S.2.1 d_Mo_down_189 (by decide) ?_
  exact hk144 _ _ _ _ _ _ _ _ h (lv_sub hl [3, 1, 4, 2, 0] rfl) I
set_option maxHeartbeats 4000000 in
set_option maxRecDepth 100000 in
theorem n_Mo_down_144 {p : Program} {l : Launch} {e : Env} {s : State} {m : MethodId} {args : Array Value} {below : List Frame} {meth : Method} {c : Code} {D : va_G} {A : Nat → Prop} {ad : Nat → Nat} {cA : ClassId × ClassId × ClassId}  {x1 : Int32} {x2 : Int32} {Q : Int32 → Mo → Prop} (S : CallFix p m c b_Mo_down 8 s args gtbl R_Mo) (hr : meth.sig.returnType = (some .int)) (hlk : meth.locks = false) (hK : gK D (tyA cA) s) (hA : ∀ q : Nat, s.heap.size ≤ q → A q) : ∀ n : Nat, ∀ (ls : Array Slot) (H : Heap) (locs : List Loc) (x3 : Int32) (x4 : Int32) (x6 : Int32) (x7 : Int32) (mo : Mo), p_Mo_down_144 x1 x2 Q n x3 x4 x6 x7 mo → lv_has ls 8 [(0, .ref (ad 0)), (3, .int x3), (4, .int x4), (6, .int x6), (7, .int x7)] → gIn D A s (wM ad cA) mo H locs → W p l e rm_Mo_down s m args below meth c H locs 0 0 (qI D (tyA cA) A (wM ad cA) (fun u : Mo => u) (fun (r : Int32) (u : Mo) => Q r u) below args s) (F0 m 144 ls []) := by
  intro n
  induction n with
  | zero =>
    intro ls H locs x3 x4 x6 x7 mo h
    exact (show False from h).elim
  | succ n ih =>
    intro ls H locs x3 x4 x6 x7 mo h hl I
    refine lv_iload S.1 S.2.1 d_Mo_down_144 (lv_at hl 4 rfl) ?_
    refine lv_aload_n S.1 S.2.1 d_Mo_down_146 rfl (lv_at hl 0 rfl) ?_
    refine g_Mo_rules S hK I.1 d_Mo_down_147 ?_
    refine lv_icmp_ge (tgt := 192) S.1 S.2.1 d_Mo_down_150 (by decide) (fun hc => ?_) (fun hc => ?_)
    · have h := h.1 hc
      refine lv_iload S.1 S.2.1 d_Mo_down_192 (lv_at hl 3 rfl) ?_
      exact ret_rwi S hr hlk hK I h d_Mo_down_194
    · have h := h.2 hc
      refine lv_aload_n S.1 S.2.1 d_Mo_down_153 rfl (lv_at hl 0 rfl) ?_
      refine g_Mo_left S hK I.1 d_Mo_down_154 ?_
      refine lv_iload S.1 S.2.1 d_Mo_down_157 (lv_at hl 4 rfl) ?_
      obtain ⟨hin, h⟩ := h
      refine a_Mo_left S hK I.1 hin d_Mo_down_159 ?_
      refine lv_iload S.1 S.2.1 d_Mo_down_160 (lv_at hl 2 rfl) ?_
      refine lv_icmp_ne (tgt := 186) S.1 S.2.1 d_Mo_down_162 (by decide) (fun hc => ?_) (fun hc => ?_)
      · have h := h.1 hc
        refine lv_iinc (k := 4) (v := x7 + (1 : Int32)) (lv' := [(7, .int (x7 + (1 : Int32))), (0, .ref (ad 0)), (3, .int x3), (4, .int x4), (6, .int x6)]) S.1 S.2.1 d_Mo_down_186 hl rfl rfl (by decide) rfl (fun ls hl => ?_)
        refine lv_goto (tgt := 144) S.1 S.2.1 d_Mo_down_189 (by decide) ?_
        exact ih _ _ _ _ _ _ _ _ h (lv_sub hl [1, 2, 3, 4, 0] rfl) I
      · have h := h.2 hc
        refine lv_iload_n S.1 S.2.1 d_Mo_down_165 rfl (lv_at hl 1 rfl) ?_
        refine lv_if_ne (tgt := 179) S.1 S.2.1 d_Mo_down_166 (by decide) (fun hc => ?_) (fun hc => ?_)
        · have h := h.1 hc
          exact n_Mo_down_179 S hr hlk hK hA ih _ _ _ _ _ _ _ _ h (lv_sub hl [0, 1, 2, 3, 4] rfl) I
        · have h := h.2 hc
          refine lv_iload S.1 S.2.1 d_Mo_down_169 (lv_at hl 3 rfl) ?_
          refine lv_if_ge (tgt := 179) S.1 S.2.1 d_Mo_down_171 (by decide) (fun hc => ?_) (fun hc => ?_)
          · have h := h.1 hc
            exact n_Mo_down_179 S hr hlk hK hA ih _ _ _ _ _ _ _ _ h (lv_sub hl [0, 1, 2, 3, 4] rfl) I
          · have h := h.2 hc
            refine lv_iload S.1 S.2.1 d_Mo_down_174 (lv_at hl 4 rfl) ?_
            refine lv_goto (tgt := 181) S.1 S.2.1 d_Mo_down_176 (by decide) ?_
            refine lv_istore (lv' := [(6, .int x7), (0, .ref (ad 0)), (3, .int x3), (4, .int x4), (7, .int x7)]) S.1 S.2.1 d_Mo_down_181 hl (by decide) rfl (fun ls hl => ?_)
            refine lv_iinc (k := 2) (v := x3 + (-1 : Int32)) (lv' := [(3, .int (x3 + (-1 : Int32))), (6, .int x7), (0, .ref (ad 0)), (4, .int x4), (7, .int x7)]) S.1 S.2.1 d_Mo_down_183 hl rfl rfl (by decide) rfl (fun ls hl => ?_)
            refine lv_iinc (k := 4) (v := x7 + (1 : Int32)) (lv' := [(7, .int (x7 + (1 : Int32))), (3, .int (x3 + (-1 : Int32))), (6, .int x7), (0, .ref (ad 0)), (4, .int x4)]) S.1 S.2.1 d_Mo_down_186 hl rfl rfl (by decide) rfl (fun ls hl => ?_)
            refine lv_goto (tgt := 144) S.1 S.2.1 d_Mo_down_189 (by decide) ?_
            exact ih _ _ _ _ _ _ _ _ h (lv_sub hl [3, 1, 4, 2, 0] rfl) I
set_option maxHeartbeats 4000000 in
set_option maxRecDepth 100000 in
theorem n_Mo_down_98 {p : Program} {l : Launch} {e : Env} {s : State} {m : MethodId} {args : Array Value} {below : List Frame} {meth : Method} {c : Code} {D : va_G} {A : Nat → Prop} {ad : Nat → Nat} {cA : ClassId × ClassId × ClassId}  {x1 : Int32} {x2 : Int32} {Q : Int32 → Mo → Prop} (S : CallFix p m c b_Mo_down 8 s args gtbl R_Mo) (hr : meth.sig.returnType = (some .int)) (hlk : meth.locks = false) (hK : gK D (tyA cA) s) (hA : ∀ q : Nat, s.heap.size ≤ q → A q) {k8 : Int32 → Int32 → Int32 → Mo → Prop} (hk8 : ∀ (ls : Array Slot) (H : Heap) (locs : List Loc) (x3 : Int32) (x4 : Int32) (x5 : Int32) (mo : Mo), k8 x3 x4 x5 mo → lv_has ls 8 [(0, .ref (ad 0)), (3, .int x3), (4, .int x4), (5, .int x5)] → gIn D A s (wM ad cA) mo H locs → W p l e rm_Mo_down s m args below meth c H locs 0 0 (qI D (tyA cA) A (wM ad cA) (fun u : Mo => u) (fun (r : Int32) (u : Mo) => Q r u) below args s) (F0 m 8 ls [])) : ∀ (ls : Array Slot) (H : Heap) (locs : List Loc) (x4 : Int32) (x5 : Int32) (x6 : Int32) (y0 : Int32) (y1 : Int32) (mo : Mo), p_Mo_down_98 x1 x2 Q k8 x4 x5 x6 y0 y1 mo → lv_has ls 8 [(0, .ref (ad 0)), (4, .int x4), (5, .int x5), (6, .int x6)] → gIn D A s (wM ad cA) mo H locs → W p l e rm_Mo_down s m args below meth c H locs 0 0 (qI D (tyA cA) A (wM ad cA) (fun u : Mo => u) (fun (r : Int32) (u : Mo) => Q r u) below args s) (F0 m 98 ls [.int y0, .int y1]) := by
  intro ls H locs x4 x5 x6 y0 y1 mo h hl I
  refine lv_isub S.1 S.2.1 d_Mo_down_98 ?_
  refine lv_istore_n (lv' := [(3, .int (y1 - y0)), (0, .ref (ad 0)), (4, .int x4), (5, .int x5), (6, .int x6)]) S.1 S.2.1 d_Mo_down_99 rfl hl (by decide) rfl (fun ls hl => ?_)
  refine lv_iload S.1 S.2.1 d_Mo_down_100 (lv_at hl 4 rfl) ?_
  refine lv_if_eq (tgt := 115) S.1 S.2.1 d_Mo_down_102 (by decide) (fun hc => ?_) (fun hc => ?_)
  · have h := h.1 hc
    refine lv_aload_n S.1 S.2.1 d_Mo_down_115 rfl (lv_at hl 1 rfl) ?_
    refine g_Mo_two S hK I.1 d_Mo_down_116 ?_
    refine lv_iload S.1 S.2.1 d_Mo_down_119 (lv_at hl 2 rfl) ?_
    obtain ⟨hin, h⟩ := h
    refine a_Mo_two S hK I.1 hin d_Mo_down_121 ?_
    refine lv_istore (lv' := [(4, .int (Mo_two mo x4.toNatClampNeg)), (3, .int (y1 - y0)), (0, .ref (ad 0)), (5, .int x5), (6, .int x6)]) S.1 S.2.1 d_Mo_down_122 hl (by decide) rfl (fun ls hl => ?_)
    refine lv_iinc (k := 3) (v := x5 + (1 : Int32)) (lv' := [(5, .int (x5 + (1 : Int32))), (4, .int (Mo_two mo x4.toNatClampNeg)), (3, .int (y1 - y0)), (0, .ref (ad 0)), (6, .int x6)]) S.1 S.2.1 d_Mo_down_124 hl rfl rfl (by decide) rfl (fun ls hl => ?_)
    refine lv_goto (tgt := 8) S.1 S.2.1 d_Mo_down_127 (by decide) ?_
    exact hk8 _ _ _ _ _ _ _ h (lv_sub hl [3, 2, 1, 0] rfl) I
  · have h := h.2 hc
    refine lv_aload_n S.1 S.2.1 d_Mo_down_105 rfl (lv_at hl 1 rfl) ?_
    refine g_Mo_one S hK I.1 d_Mo_down_106 ?_
    refine lv_iload S.1 S.2.1 d_Mo_down_109 (lv_at hl 2 rfl) ?_
    obtain ⟨hin, h⟩ := h
    refine a_Mo_one S hK I.1 hin d_Mo_down_111 ?_
    refine lv_goto (tgt := 122) S.1 S.2.1 d_Mo_down_112 (by decide) ?_
    refine lv_istore (lv' := [(4, .int (Mo_one mo x4.toNatClampNeg)), (3, .int (y1 - y0)), (0, .ref (ad 0)), (5, .int x5), (6, .int x6)]) S.1 S.2.1 d_Mo_down_122 hl (by decide) rfl (fun ls hl => ?_)
    refine lv_iinc (k := 3) (v := x5 + (1 : Int32)) (lv' := [(5, .int (x5 + (1 : Int32))), (4, .int (Mo_one mo x4.toNatClampNeg)), (3, .int (y1 - y0)), (0, .ref (ad 0)), (6, .int x6)]) S.1 S.2.1 d_Mo_down_124 hl rfl rfl (by decide) rfl (fun ls hl => ?_)
    refine lv_goto (tgt := 8) S.1 S.2.1 d_Mo_down_127 (by decide) ?_
    exact hk8 _ _ _ _ _ _ _ h (lv_sub hl [3, 2, 1, 0] rfl) I
set_option maxHeartbeats 4000000 in
set_option maxRecDepth 100000 in
theorem n_Mo_down_75 {p : Program} {l : Launch} {e : Env} {s : State} {m : MethodId} {args : Array Value} {below : List Frame} {meth : Method} {c : Code} {D : va_G} {A : Nat → Prop} {ad : Nat → Nat} {cA : ClassId × ClassId × ClassId}  {x1 : Int32} {x2 : Int32} {Q : Int32 → Mo → Prop} (S : CallFix p m c b_Mo_down 8 s args gtbl R_Mo) (hr : meth.sig.returnType = (some .int)) (hlk : meth.locks = false) (hK : gK D (tyA cA) s) (hA : ∀ q : Nat, s.heap.size ≤ q → A q) {k8 : Int32 → Int32 → Int32 → Mo → Prop} (hk8 : ∀ (ls : Array Slot) (H : Heap) (locs : List Loc) (x3 : Int32) (x4 : Int32) (x5 : Int32) (mo : Mo), k8 x3 x4 x5 mo → lv_has ls 8 [(0, .ref (ad 0)), (3, .int x3), (4, .int x4), (5, .int x5)] → gIn D A s (wM ad cA) mo H locs → W p l e rm_Mo_down s m args below meth c H locs 0 0 (qI D (tyA cA) A (wM ad cA) (fun u : Mo => u) (fun (r : Int32) (u : Mo) => Q r u) below args s) (F0 m 8 ls [])) : ∀ (ls : Array Slot) (H : Heap) (locs : List Loc) (x3 : Int32) (x4 : Int32) (x5 : Int32) (x6 : Int32) (y0 : Int32) (y1 : Int32) (mo : Mo), p_Mo_down_75 x1 x2 Q k8 x3 x4 x5 x6 y0 y1 mo → lv_has ls 8 [(0, .ref (ad 0)), (3, .int x3), (4, .int x4), (5, .int x5), (6, .int x6)] → gIn D A s (wM ad cA) mo H locs → W p l e rm_Mo_down s m args below meth c H locs 0 0 (qI D (tyA cA) A (wM ad cA) (fun u : Mo => u) (fun (r : Int32) (u : Mo) => Q r u) below args s) (F0 m 75 ls [.int y0, .int y1, .ref (ad 19)]) := by
  intro ls H locs x3 x4 x5 x6 y0 y1 mo h hl I
  obtain ⟨hin, h⟩ := h
  refine s_Mo_side S hK I hin d_Mo_down_75 (fun H locs mo75 emo75 I => ?_)
  have h := h mo75 emo75
  refine lv_iload_n S.1 S.2.1 d_Mo_down_76 rfl (lv_at hl 1 rfl) ?_
  refine lv_iload S.1 S.2.1 d_Mo_down_77 (lv_at hl 4 rfl) ?_
  refine lv_if_eq (tgt := 86) S.1 S.2.1 d_Mo_down_79 (by decide) (fun hc => ?_) (fun hc => ?_)
  · have h := h.1 hc
    refine lv_aload_n S.1 S.2.1 d_Mo_down_86 rfl (lv_at hl 0 rfl) ?_
    refine g_Mo_many S hK I.1 d_Mo_down_87 ?_
    refine lv_aload_n S.1 S.2.1 d_Mo_down_90 rfl (lv_at hl 0 rfl) ?_
    refine g_Mo_one S hK I.1 d_Mo_down_91 ?_
    refine lv_iload S.1 S.2.1 d_Mo_down_94 (lv_at hl 2 rfl) ?_
    obtain ⟨hin, h⟩ := h
    refine a_Mo_one S hK I.1 hin d_Mo_down_96 ?_
    obtain ⟨hin, h⟩ := h
    refine a_Mo_many S hK I.1 hin d_Mo_down_97 ?_
    exact n_Mo_down_98 S hr hlk hK hA hk8 _ _ _ _ _ _ _ _ _ h (lv_sub hl [0, 2, 3, 4] rfl) I
  · have h := h.2 hc
    refine lv_iconst (v := (0 : Int32)) S.1 S.2.1 d_Mo_down_82 rfl ?_
    refine lv_goto (tgt := 98) S.1 S.2.1 d_Mo_down_83 (by decide) ?_
    exact n_Mo_down_98 S hr hlk hK hA hk8 _ _ _ _ _ _ _ _ _ h (lv_sub hl [0, 2, 3, 4] rfl) I
set_option maxHeartbeats 4000000 in
set_option maxRecDepth 100000 in
theorem n_Mo_down_57 {p : Program} {l : Launch} {e : Env} {s : State} {m : MethodId} {args : Array Value} {below : List Frame} {meth : Method} {c : Code} {D : va_G} {A : Nat → Prop} {ad : Nat → Nat} {cA : ClassId × ClassId × ClassId}  {x1 : Int32} {x2 : Int32} {Q : Int32 → Mo → Prop} (S : CallFix p m c b_Mo_down 8 s args gtbl R_Mo) (hr : meth.sig.returnType = (some .int)) (hlk : meth.locks = false) (hK : gK D (tyA cA) s) (hA : ∀ q : Nat, s.heap.size ≤ q → A q) {k8 : Int32 → Int32 → Int32 → Mo → Prop} (hk8 : ∀ (ls : Array Slot) (H : Heap) (locs : List Loc) (x3 : Int32) (x4 : Int32) (x5 : Int32) (mo : Mo), k8 x3 x4 x5 mo → lv_has ls 8 [(0, .ref (ad 0)), (3, .int x3), (4, .int x4), (5, .int x5)] → gIn D A s (wM ad cA) mo H locs → W p l e rm_Mo_down s m args below meth c H locs 0 0 (qI D (tyA cA) A (wM ad cA) (fun u : Mo => u) (fun (r : Int32) (u : Mo) => Q r u) below args s) (F0 m 8 ls [])) : ∀ (ls : Array Slot) (H : Heap) (locs : List Loc) (x3 : Int32) (x4 : Int32) (x5 : Int32) (y0 : Int32) (mo : Mo), p_Mo_down_57 x1 x2 Q k8 x3 x4 x5 y0 mo → lv_has ls 8 [(0, .ref (ad 0)), (3, .int x3), (4, .int x4), (5, .int x5)] → gIn D A s (wM ad cA) mo H locs → W p l e rm_Mo_down s m args below meth c H locs 0 0 (qI D (tyA cA) A (wM ad cA) (fun u : Mo => u) (fun (r : Int32) (u : Mo) => Q r u) below args s) (F0 m 57 ls [.int y0]) := by
  intro ls H locs x3 x4 x5 y0 mo h hl I
  refine lv_istore (lv' := [(6, .int y0), (0, .ref (ad 0)), (3, .int x3), (4, .int x4), (5, .int x5)]) S.1 S.2.1 d_Mo_down_57 hl (by decide) rfl (fun ls hl => ?_)
  refine lv_aload_n S.1 S.2.1 d_Mo_down_59 rfl (lv_at hl 1 rfl) ?_
  refine g_Mo_side S hK I.1 d_Mo_down_60 ?_
  refine lv_iload S.1 S.2.1 d_Mo_down_63 (lv_at hl 4 rfl) ?_
  refine lv_iload S.1 S.2.1 d_Mo_down_65 (lv_at hl 0 rfl) ?_
  refine lv_if_eq (tgt := 74) S.1 S.2.1 d_Mo_down_67 (by decide) (fun hc => ?_) (fun hc => ?_)
  · have h := h.1 hc
    refine lv_iconst (v := (2 : Int32)) S.1 S.2.1 d_Mo_down_74 rfl ?_
    exact n_Mo_down_75 S hr hlk hK hA hk8 _ _ _ _ _ _ _ _ _ _ h (lv_sub hl [1, 2, 3, 4, 0] rfl) I
  · have h := h.2 hc
    refine lv_iconst (v := (1 : Int32)) S.1 S.2.1 d_Mo_down_70 rfl ?_
    refine lv_goto (tgt := 75) S.1 S.2.1 d_Mo_down_71 (by decide) ?_
    exact n_Mo_down_75 S hr hlk hK hA hk8 _ _ _ _ _ _ _ _ _ _ h (lv_sub hl [1, 2, 3, 4, 0] rfl) I
set_option maxHeartbeats 4000000 in
set_option maxRecDepth 100000 in
theorem n_Mo_down_8 {p : Program} {l : Launch} {e : Env} {s : State} {m : MethodId} {args : Array Value} {below : List Frame} {meth : Method} {c : Code} {D : va_G} {A : Nat → Prop} {ad : Nat → Nat} {cA : ClassId × ClassId × ClassId}  {x1 : Int32} {x2 : Int32} {Q : Int32 → Mo → Prop} (S : CallFix p m c b_Mo_down 8 s args gtbl R_Mo) (hr : meth.sig.returnType = (some .int)) (hlk : meth.locks = false) (hK : gK D (tyA cA) s) (hA : ∀ q : Nat, s.heap.size ≤ q → A q) : ∀ n : Nat, ∀ (ls : Array Slot) (H : Heap) (locs : List Loc) (x3 : Int32) (x4 : Int32) (x5 : Int32) (mo : Mo), p_Mo_down_8 x1 x2 Q n x3 x4 x5 mo → lv_has ls 8 [(0, .ref (ad 0)), (3, .int x3), (4, .int x4), (5, .int x5)] → gIn D A s (wM ad cA) mo H locs → W p l e rm_Mo_down s m args below meth c H locs 0 0 (qI D (tyA cA) A (wM ad cA) (fun u : Mo => u) (fun (r : Int32) (u : Mo) => Q r u) below args s) (F0 m 8 ls []) := by
  intro n
  induction n with
  | zero =>
    intro ls H locs x3 x4 x5 mo h
    exact (show False from h).elim
  | succ n ih =>
    intro ls H locs x3 x4 x5 mo h hl I
    refine lv_iload_n S.1 S.2.1 d_Mo_down_8 rfl (lv_at hl 1 rfl) ?_
    refine lv_aload_n S.1 S.2.1 d_Mo_down_9 rfl (lv_at hl 0 rfl) ?_
    refine lv_iload S.1 S.2.1 d_Mo_down_10 (lv_at hl 2 rfl) ?_
    refine callV_roi S (c_Mo_lefts l D ad cA _ _ _ h) (mkV S.2.2.2.2 ml_Mo_96 k_Mo_lefts rfl rfl ⟨Nat.le_of_ble_eq_true rfl, Nat.le_of_ble_eq_true rfl⟩) (rv_Mo hK I.1) hK I.1 hl.1 rfl rfl (Nat.le_of_ble_eq_true rfl) d_Mo_down_12 ⟨Nat.zero_le _, Nat.zero_le _⟩ (fun r12 h => ?_)
    refine lv_icmp_lt (tgt := 130) S.1 S.2.1 d_Mo_down_15 (by decide) (fun hc => ?_) (fun hc => ?_)
    · have h := h.1 hc
      refine lv_aload_n S.1 S.2.1 d_Mo_down_130 rfl (lv_at hl 0 rfl) ?_
      refine g_Mo_path S hK I.1 d_Mo_down_131 ?_
      refine lv_iload S.1 S.2.1 d_Mo_down_134 (lv_at hl 3 rfl) ?_
      refine lv_iconst (v := (-1 : Int32)) S.1 S.2.1 d_Mo_down_136 rfl ?_
      obtain ⟨hin, h⟩ := h
      refine s_Mo_path S hK I hin d_Mo_down_137 (fun H locs mo137 emo137 I => ?_)
      have h := h mo137 emo137
      refine lv_iconst (v := (-1 : Int32)) S.1 S.2.1 d_Mo_down_138 rfl ?_
      refine lv_istore (lv' := [(6, .int (-1 : Int32)), (0, .ref (ad 0)), (3, .int x3), (4, .int x4), (5, .int x5)]) S.1 S.2.1 d_Mo_down_139 hl (by decide) rfl (fun ls hl => ?_)
      refine lv_iconst (v := (0 : Int32)) S.1 S.2.1 d_Mo_down_141 rfl ?_
      refine lv_istore (lv' := [(7, .int (0 : Int32)), (6, .int (-1 : Int32)), (0, .ref (ad 0)), (3, .int x3), (4, .int x4), (5, .int x5)]) S.1 S.2.1 d_Mo_down_142 hl (by decide) rfl (fun ls hl => ?_)
      obtain ⟨n', h⟩ := h
      exact n_Mo_down_144 S hr hlk hK hA n' _ _ _ _ _ _ _ _ h (lv_sub hl [2, 3, 4, 1, 0] rfl) I
    · have h := h.2 hc
      refine lv_iload_n S.1 S.2.1 d_Mo_down_18 rfl (lv_at hl 1 rfl) ?_
      refine lv_aload_n S.1 S.2.1 d_Mo_down_19 rfl (lv_at hl 0 rfl) ?_
      refine lv_iload S.1 S.2.1 d_Mo_down_20 (lv_at hl 2 rfl) ?_
      refine callV_roi S (c_Mo_lefts l D ad cA _ _ _ h) (mkV S.2.2.2.2 ml_Mo_96 k_Mo_lefts rfl rfl ⟨Nat.le_of_ble_eq_true rfl, Nat.le_of_ble_eq_true rfl⟩) (rv_Mo hK I.1) hK I.1 hl.1 rfl rfl (Nat.le_of_ble_eq_true rfl) d_Mo_down_22 ⟨Nat.zero_le _, Nat.zero_le _⟩ (fun r22 h => ?_)
      refine lv_isub S.1 S.2.1 d_Mo_down_25 ?_
      refine lv_istore_n (lv' := [(3, .int (x3 - r22)), (0, .ref (ad 0)), (4, .int x4), (5, .int x5)]) S.1 S.2.1 d_Mo_down_26 rfl hl (by decide) rfl (fun ls hl => ?_)
      refine lv_aload_n S.1 S.2.1 d_Mo_down_27 rfl (lv_at hl 1 rfl) ?_
      refine g_Mo_path S hK I.1 d_Mo_down_28 ?_
      refine lv_iload S.1 S.2.1 d_Mo_down_31 (lv_at hl 3 rfl) ?_
      refine lv_iload S.1 S.2.1 d_Mo_down_33 (lv_at hl 2 rfl) ?_
      obtain ⟨hin, h⟩ := h
      refine s_Mo_path S hK I hin d_Mo_down_35 (fun H locs mo35 emo35 I => ?_)
      have h := h mo35 emo35
      refine lv_iload_n S.1 S.2.1 d_Mo_down_36 rfl (lv_at hl 0 rfl) ?_
      refine lv_aload_n S.1 S.2.1 d_Mo_down_37 rfl (lv_at hl 1 rfl) ?_
      refine g_Mo_many S hK I.1 d_Mo_down_38 ?_
      refine lv_aload_n S.1 S.2.1 d_Mo_down_41 rfl (lv_at hl 1 rfl) ?_
      refine g_Mo_one S hK I.1 d_Mo_down_42 ?_
      refine lv_iload S.1 S.2.1 d_Mo_down_45 (lv_at hl 2 rfl) ?_
      obtain ⟨hin, h⟩ := h
      refine a_Mo_one S hK I.1 hin d_Mo_down_47 ?_
      obtain ⟨hin, h⟩ := h
      refine a_Mo_many S hK I.1 hin d_Mo_down_48 ?_
      refine lv_icmp_ge (tgt := 56) S.1 S.2.1 d_Mo_down_49 (by decide) (fun hc => ?_) (fun hc => ?_)
      · have h := h.1 hc
        refine lv_iconst (v := (0 : Int32)) S.1 S.2.1 d_Mo_down_56 rfl ?_
        exact n_Mo_down_57 S hr hlk hK hA ih _ _ _ _ _ _ _ _ h (lv_sub hl [1, 0, 2, 3] rfl) I
      · have h := h.2 hc
        refine lv_iconst (v := (1 : Int32)) S.1 S.2.1 d_Mo_down_52 rfl ?_
        refine lv_goto (tgt := 57) S.1 S.2.1 d_Mo_down_53 (by decide) ?_
        exact n_Mo_down_57 S hr hlk hK hA ih _ _ _ _ _ _ _ _ h (lv_sub hl [1, 0, 2, 3] rfl) I
set_option maxHeartbeats 4000000 in
set_option maxRecDepth 100000 in
theorem c_Mo_down (l : Launch) (D : va_G) (ad : Nat → Nat) (cA : ClassId × ClassId × ClassId) (mo : Mo) (x1 : Int32) (x2 : Int32) (Q : Int32 → Mo → Prop) (h : p_Mo_down x1 x2 mo Q) : rwI l y_Mo_down (wsOf y_Mo_down b_Mo_down 8 (some .int)) rm_Mo_down D (tyA cA) (wM ad cA) [.ref (ad 0), .int x1, .int x2] mo (fun u : Mo => u) (fun (r : Int32) (u : Mo) => Q r u) := by
  refine rwI_of (by decide) (Nat.le_of_ble_eq_true rfl) ?_
  intro p e s m below meth c S hr hlk hK A hA I ls hl
  have hl : lv_has ls 8 [(0, .ref (ad 0)), (1, .int x1), (2, .int x2)] := hl
  refine lv_iload_n S.1 S.2.1 d_Mo_down_0 rfl (lv_at hl 2 rfl) ?_
  refine lv_istore_n (lv' := [(3, .int x2), (0, .ref (ad 0)), (1, .int x1), (2, .int x2)]) S.1 S.2.1 d_Mo_down_1 rfl hl (by decide) rfl (fun ls hl => ?_)
  refine lv_iload_n S.1 S.2.1 d_Mo_down_2 rfl (lv_at hl 2 rfl) ?_
  refine lv_istore (lv' := [(4, .int x1), (3, .int x2), (0, .ref (ad 0)), (1, .int x1), (2, .int x2)]) S.1 S.2.1 d_Mo_down_3 hl (by decide) rfl (fun ls hl => ?_)
  refine lv_iconst (v := (0 : Int32)) S.1 S.2.1 d_Mo_down_5 rfl ?_
  refine lv_istore (lv' := [(5, .int (0 : Int32)), (4, .int x1), (3, .int x2), (0, .ref (ad 0)), (1, .int x1), (2, .int x2)]) S.1 S.2.1 d_Mo_down_6 hl (by decide) rfl (fun ls hl => ?_)
  obtain ⟨n', h⟩ := h
  exact n_Mo_down_8 S hr hlk hK hA n' _ _ _ _ _ _ _ h (lv_sub hl [3, 2, 1, 0] rfl) I

set_option maxHeartbeats 4000000 in
set_option maxRecDepth 100000 in
theorem n_Mo_depth_2 {p : Program} {l : Launch} {e : Env} {s : State} {m : MethodId} {args : Array Value} {below : List Frame} {meth : Method} {c : Code} {D : va_G} {ad : Nat → Nat} {cA : ClassId × ClassId × ClassId} {mo : Mo} {Q : Int32 → Prop} (S : CallFix p m c b_Mo_depth 2 s args gtbl R_Mo) (hr : meth.sig.returnType = (some .int)) (hlk : meth.locks = false) (hK : gK D (tyA cA) s) (hP : va_P D classes (wM ad cA mo) s.heap) : ∀ n : Nat, ∀ (ls : Array Slot) (x1 : Int32), p_Mo_depth_2 mo Q n x1 → lv_has ls 2 [(0, .ref (ad 0)), (1, .int x1)] → W p l e rm_Mo_depth s m args below meth c s.heap [] 0 0 (qRI Q below args s) (F0 m 2 ls []) := by
  intro n
  induction n with
  | zero =>
    intro ls x1 h
    exact (show False from h).elim
  | succ n ih =>
    intro ls x1 h hl
    refine lv_aload_n S.1 S.2.1 d_Mo_depth_2 rfl (lv_at hl 0 rfl) ?_
    refine g_Mo_path S hK hP d_Mo_depth_3 ?_
    refine lv_iload_n S.1 S.2.1 d_Mo_depth_6 rfl (lv_at hl 1 rfl) ?_
    obtain ⟨hin, h⟩ := h
    refine a_Mo_path S hK hP hin d_Mo_depth_7 ?_
    refine lv_if_lt (tgt := 17) S.1 S.2.1 d_Mo_depth_8 (by decide) (fun hc => ?_) (fun hc => ?_)
    · have h := h.1 hc
      refine lv_iload_n S.1 S.2.1 d_Mo_depth_17 rfl (lv_at hl 1 rfl) ?_
      exact ret_roi S hr hlk h d_Mo_depth_18
    · have h := h.2 hc
      refine lv_iinc (k := 1) (v := x1 + (1 : Int32)) (lv' := [(1, .int (x1 + (1 : Int32))), (0, .ref (ad 0))]) S.1 S.2.1 d_Mo_depth_11 hl rfl rfl (by decide) rfl (fun ls hl => ?_)
      refine lv_goto (tgt := 2) S.1 S.2.1 d_Mo_depth_14 (by decide) ?_
      exact ih _ _ h (lv_sub hl [1, 0] rfl)
set_option maxHeartbeats 4000000 in
set_option maxRecDepth 100000 in
theorem c_Mo_depth (l : Launch) (D : va_G) (ad : Nat → Nat) (cA : ClassId × ClassId × ClassId) (mo : Mo)  (Q : Int32 → Prop) (h : p_Mo_depth  mo Q) : roI l y_Mo_depth (wsOf y_Mo_depth b_Mo_depth 2 (some .int)) rm_Mo_depth D (tyA cA) (wM ad cA) [.ref (ad 0)] mo Q := by
  refine roI_of (by decide) (Nat.le_of_ble_eq_true rfl) ?_
  intro p e s m below meth c S hr hlk hK hP ls hl
  have hl : lv_has ls 2 [(0, .ref (ad 0))] := hl
  refine lv_iconst (v := (0 : Int32)) S.1 S.2.1 d_Mo_depth_0 rfl ?_
  refine lv_istore_n (lv' := [(1, .int (0 : Int32)), (0, .ref (ad 0))]) S.1 S.2.1 d_Mo_depth_1 rfl hl (by decide) rfl (fun ls hl => ?_)
  obtain ⟨n', h⟩ := h
  exact n_Mo_depth_2 S hr hlk hK hP n' _ _ h (lv_sub hl [1, 0] rfl)

set_option maxHeartbeats 4000000 in
set_option maxRecDepth 100000 in
theorem n_Mo_step_304 {p : Program} {l : Launch} {e : Env} {s : State} {m : MethodId} {args : Array Value} {below : List Frame} {meth : Method} {c : Code} {D : va_G} {A : Nat → Prop} {ad : Nat → Nat} {cA : ClassId × ClassId × ClassId}  {x1 : Int32} {x2 : Int32} {Q : Int32 → Mo → Prop} (S : CallFix p m c b_Mo_step 9 s args gtbl R_Mo) (hr : meth.sig.returnType = (some .int)) (hlk : meth.locks = false) (hK : gK D (tyA cA) s) (hA : ∀ q : Nat, s.heap.size ≤ q → A q) {k236 : Int32 → Int32 → Mo → Prop} (hk236 : ∀ (ls : Array Slot) (H : Heap) (locs : List Loc) (x5 : Int32) (x7 : Int32) (mo : Mo), k236 x5 x7 mo → lv_has ls 9 [(0, .ref (ad 0)), (5, .int x5), (7, .int x7)] → gIn D A s (wM ad cA) mo H locs → W p l e rm_Mo_step s m args below meth c H locs 0 0 (qI D (tyA cA) A (wM ad cA) (fun u : Mo => u) (fun (r : Int32) (u : Mo) => Q r u) below args s) (F0 m 236 ls [])) : ∀ (ls : Array Slot) (H : Heap) (locs : List Loc) (x7 : Int32) (y0 : Int32) (y1 : Int32) (y2 : Int32) (mo : Mo), p_Mo_step_304 x1 x2 Q k236 x7 y0 y1 y2 mo → lv_has ls 9 [(0, .ref (ad 0)), (7, .int x7)] → gIn D A s (wM ad cA) mo H locs → W p l e rm_Mo_step s m args below meth c H locs 0 0 (qI D (tyA cA) A (wM ad cA) (fun u : Mo => u) (fun (r : Int32) (u : Mo) => Q r u) below args s) (F0 m 304 ls [.int y0, .int y1, .int y2, .ref (ad 0)]) := by
  intro ls H locs x7 y0 y1 y2 mo h hl I
  refine callV_rwi S (c_Mo_make l D ad cA _ _ _ _ _ h) (mkV S.2.2.2.2 ml_Mo_83 k_Mo_make rfl rfl ⟨Nat.le_of_ble_eq_true rfl, Nat.le_of_ble_eq_true rfl⟩) (rv_Mo hK I.1) hK hA I hl.1 rfl rfl (Nat.le_of_ble_eq_true rfl) d_Mo_step_304 ⟨Nat.zero_le _, Nat.zero_le _⟩ (fun r304 mo304 H locs h I => ?_)
  refine lv_istore (lv' := [(5, .int r304), (0, .ref (ad 0)), (7, .int x7)]) S.1 S.2.1 d_Mo_step_307 hl (by decide) rfl (fun ls hl => ?_)
  refine lv_iinc (k := 2) (v := x7 + (-1 : Int32)) (lv' := [(7, .int (x7 + (-1 : Int32))), (5, .int r304), (0, .ref (ad 0))]) S.1 S.2.1 d_Mo_step_309 hl rfl rfl (by decide) rfl (fun ls hl => ?_)
  refine lv_goto (tgt := 236) S.1 S.2.1 d_Mo_step_312 (by decide) ?_
  exact hk236 _ _ _ _ _ _ h (lv_sub hl [2, 1, 0] rfl) I
set_option maxHeartbeats 4000000 in
set_option maxRecDepth 100000 in
theorem n_Mo_step_281 {p : Program} {l : Launch} {e : Env} {s : State} {m : MethodId} {args : Array Value} {below : List Frame} {meth : Method} {c : Code} {D : va_G} {A : Nat → Prop} {ad : Nat → Nat} {cA : ClassId × ClassId × ClassId}  {x1 : Int32} {x2 : Int32} {Q : Int32 → Mo → Prop} (S : CallFix p m c b_Mo_step 9 s args gtbl R_Mo) (hr : meth.sig.returnType = (some .int)) (hlk : meth.locks = false) (hK : gK D (tyA cA) s) (hA : ∀ q : Nat, s.heap.size ≤ q → A q) {k236 : Int32 → Int32 → Mo → Prop} (hk236 : ∀ (ls : Array Slot) (H : Heap) (locs : List Loc) (x5 : Int32) (x7 : Int32) (mo : Mo), k236 x5 x7 mo → lv_has ls 9 [(0, .ref (ad 0)), (5, .int x5), (7, .int x7)] → gIn D A s (wM ad cA) mo H locs → W p l e rm_Mo_step s m args below meth c H locs 0 0 (qI D (tyA cA) A (wM ad cA) (fun u : Mo => u) (fun (r : Int32) (u : Mo) => Q r u) below args s) (F0 m 236 ls [])) : ∀ (ls : Array Slot) (H : Heap) (locs : List Loc) (x5 : Int32) (x7 : Int32) (x8 : Int32) (y0 : Int32) (y1 : Int32) (mo : Mo), p_Mo_step_281 x1 x2 Q k236 x5 x7 x8 y0 y1 mo → lv_has ls 9 [(0, .ref (ad 0)), (5, .int x5), (7, .int x7), (8, .int x8)] → gIn D A s (wM ad cA) mo H locs → W p l e rm_Mo_step s m args below meth c H locs 0 0 (qI D (tyA cA) A (wM ad cA) (fun u : Mo => u) (fun (r : Int32) (u : Mo) => Q r u) below args s) (F0 m 281 ls [.int y0, .int y1, .ref (ad 0)]) := by
  intro ls H locs x5 x7 x8 y0 y1 mo h hl I
  refine lv_aload_n S.1 S.2.1 d_Mo_step_281 rfl (lv_at hl 0 rfl) ?_
  refine g_Mo_side S hK I.1 d_Mo_step_282 ?_
  refine lv_iload S.1 S.2.1 d_Mo_step_285 (lv_at hl 2 rfl) ?_
  obtain ⟨hin, h⟩ := h
  refine a_Mo_side S hK I.1 hin d_Mo_step_287 ?_
  refine lv_iconst (v := (2 : Int32)) S.1 S.2.1 d_Mo_step_288 rfl ?_
  refine lv_icmp_ne (tgt := 297) S.1 S.2.1 d_Mo_step_289 (by decide) (fun hc => ?_) (fun hc => ?_)
  · have h := h.1 hc
    refine lv_aload_n S.1 S.2.1 d_Mo_step_297 rfl (lv_at hl 0 rfl) ?_
    refine g_Mo_two S hK I.1 d_Mo_step_298 ?_
    refine lv_iload S.1 S.2.1 d_Mo_step_301 (lv_at hl 3 rfl) ?_
    obtain ⟨hin, h⟩ := h
    refine a_Mo_two S hK I.1 hin d_Mo_step_303 ?_
    exact n_Mo_step_304 S hr hlk hK hA hk236 _ _ _ _ _ _ _ _ h (lv_sub hl [0, 2] rfl) I
  · have h := h.2 hc
    refine lv_iload S.1 S.2.1 d_Mo_step_292 (lv_at hl 1 rfl) ?_
    refine lv_goto (tgt := 304) S.1 S.2.1 d_Mo_step_294 (by decide) ?_
    exact n_Mo_step_304 S hr hlk hK hA hk236 _ _ _ _ _ _ _ _ h (lv_sub hl [0, 2] rfl) I
set_option maxHeartbeats 4000000 in
set_option maxRecDepth 100000 in
theorem n_Mo_step_236 {p : Program} {l : Launch} {e : Env} {s : State} {m : MethodId} {args : Array Value} {below : List Frame} {meth : Method} {c : Code} {D : va_G} {A : Nat → Prop} {ad : Nat → Nat} {cA : ClassId × ClassId × ClassId}  {x1 : Int32} {x2 : Int32} {Q : Int32 → Mo → Prop} (S : CallFix p m c b_Mo_step 9 s args gtbl R_Mo) (hr : meth.sig.returnType = (some .int)) (hlk : meth.locks = false) (hK : gK D (tyA cA) s) (hA : ∀ q : Nat, s.heap.size ≤ q → A q) : ∀ n : Nat, ∀ (ls : Array Slot) (H : Heap) (locs : List Loc) (x5 : Int32) (x7 : Int32) (mo : Mo), p_Mo_step_236 x1 x2 Q n x5 x7 mo → lv_has ls 9 [(0, .ref (ad 0)), (5, .int x5), (7, .int x7)] → gIn D A s (wM ad cA) mo H locs → W p l e rm_Mo_step s m args below meth c H locs 0 0 (qI D (tyA cA) A (wM ad cA) (fun u : Mo => u) (fun (r : Int32) (u : Mo) => Q r u) below args s) (F0 m 236 ls []) := by
  intro n
  induction n with
  | zero =>
    intro ls H locs x5 x7 mo h
    exact (show False from h).elim
  | succ n ih =>
    intro ls H locs x5 x7 mo h hl I
    refine lv_iload S.1 S.2.1 d_Mo_step_236 (lv_at hl 2 rfl) ?_
    refine lv_if_lt (tgt := 315) S.1 S.2.1 d_Mo_step_238 (by decide) (fun hc => ?_) (fun hc => ?_)
    · have h := h.1 hc
      refine lv_iload S.1 S.2.1 d_Mo_step_315 (lv_at hl 1 rfl) ?_
      exact ret_rwi S hr hlk hK I h d_Mo_step_317
    · have h := h.2 hc
      refine lv_aload_n S.1 S.2.1 d_Mo_step_241 rfl (lv_at hl 0 rfl) ?_
      refine g_Mo_path S hK I.1 d_Mo_step_242 ?_
      refine lv_iload S.1 S.2.1 d_Mo_step_245 (lv_at hl 2 rfl) ?_
      obtain ⟨hin, h⟩ := h
      refine a_Mo_path S hK I.1 hin d_Mo_step_247 ?_
      refine lv_istore (lv' := [(8, .int (Mo_path mo x7.toNatClampNeg)), (0, .ref (ad 0)), (5, .int x5), (7, .int x7)]) S.1 S.2.1 d_Mo_step_248 hl (by decide) rfl (fun ls hl => ?_)
      refine lv_aload_n S.1 S.2.1 d_Mo_step_250 rfl (lv_at hl 1 rfl) ?_
      refine lv_aload_n S.1 S.2.1 d_Mo_step_251 rfl (lv_at hl 1 rfl) ?_
      refine g_Mo_symbol S hK I.1 d_Mo_step_252 ?_
      refine lv_iload S.1 S.2.1 d_Mo_step_255 (lv_at hl 0 rfl) ?_
      obtain ⟨hin, h⟩ := h
      refine a_Mo_symbol S hK I.1 hin d_Mo_step_257 ?_
      refine lv_aload_n S.1 S.2.1 d_Mo_step_258 rfl (lv_at hl 1 rfl) ?_
      refine g_Mo_side S hK I.1 d_Mo_step_259 ?_
      refine lv_iload S.1 S.2.1 d_Mo_step_262 (lv_at hl 3 rfl) ?_
      obtain ⟨hin, h⟩ := h
      refine a_Mo_side S hK I.1 hin d_Mo_step_264 ?_
      refine lv_iconst (v := (1 : Int32)) S.1 S.2.1 d_Mo_step_265 rfl ?_
      refine lv_icmp_ne (tgt := 274) S.1 S.2.1 d_Mo_step_266 (by decide) (fun hc => ?_) (fun hc => ?_)
      · have h := h.1 hc
        refine lv_aload_n S.1 S.2.1 d_Mo_step_274 rfl (lv_at hl 1 rfl) ?_
        refine g_Mo_one S hK I.1 d_Mo_step_275 ?_
        refine lv_iload S.1 S.2.1 d_Mo_step_278 (lv_at hl 0 rfl) ?_
        obtain ⟨hin, h⟩ := h
        refine a_Mo_one S hK I.1 hin d_Mo_step_280 ?_
        exact n_Mo_step_281 S hr hlk hK hA ih _ _ _ _ _ _ _ _ _ h (lv_sub hl [1, 2, 3, 0] rfl) I
      · have h := h.2 hc
        refine lv_iload S.1 S.2.1 d_Mo_step_269 (lv_at hl 2 rfl) ?_
        refine lv_goto (tgt := 281) S.1 S.2.1 d_Mo_step_271 (by decide) ?_
        exact n_Mo_step_281 S hr hlk hK hA ih _ _ _ _ _ _ _ _ _ h (lv_sub hl [1, 2, 3, 0] rfl) I
set_option maxHeartbeats 4000000 in
set_option maxRecDepth 100000 in
theorem n_Mo_step_215 {p : Program} {l : Launch} {e : Env} {s : State} {m : MethodId} {args : Array Value} {below : List Frame} {meth : Method} {c : Code} {D : va_G} {A : Nat → Prop} {ad : Nat → Nat} {cA : ClassId × ClassId × ClassId}  {x1 : Int32} {x2 : Int32} {Q : Int32 → Mo → Prop} (S : CallFix p m c b_Mo_step 9 s args gtbl R_Mo) (hr : meth.sig.returnType = (some .int)) (hlk : meth.locks = false) (hK : gK D (tyA cA) s) (hA : ∀ q : Nat, s.heap.size ≤ q → A q) : ∀ (ls : Array Slot) (H : Heap) (locs : List Loc) (x3 : Int32) (x4 : Int32) (y0 : Int32) (mo : Mo), p_Mo_step_215 x1 x2 Q x3 x4 y0 mo → lv_has ls 9 [(0, .ref (ad 0)), (3, .int x3), (4, .int x4)] → gIn D A s (wM ad cA) mo H locs → W p l e rm_Mo_step s m args below meth c H locs 0 0 (qI D (tyA cA) A (wM ad cA) (fun u : Mo => u) (fun (r : Int32) (u : Mo) => Q r u) below args s) (F0 m 215 ls [.int y0, .ref (ad 0)]) := by
  intro ls H locs x3 x4 y0 mo h hl I
  refine q_Mo_thrown S hK I d_Mo_step_215 (fun H locs mo215 emo215 I => ?_)
  have h := h mo215 emo215
  refine lv_aload_n S.1 S.2.1 d_Mo_step_218 rfl (lv_at hl 0 rfl) ?_
  refine g_Mo_thrown S hK I.1 d_Mo_step_219 ?_
  refine lv_if_le (tgt := 227) S.1 S.2.1 d_Mo_step_222 (by decide) (fun hc => ?_) (fun hc => ?_)
  · have h := h.1 hc
    refine lv_iload_n S.1 S.2.1 d_Mo_step_227 rfl (lv_at hl 1 rfl) ?_
    refine lv_istore (lv' := [(5, .int x3), (0, .ref (ad 0)), (3, .int x3), (4, .int x4)]) S.1 S.2.1 d_Mo_step_228 hl (by decide) rfl (fun ls hl => ?_)
    refine lv_iload S.1 S.2.1 d_Mo_step_230 (lv_at hl 3 rfl) ?_
    refine lv_iconst (v := (1 : Int32)) S.1 S.2.1 d_Mo_step_232 rfl ?_
    refine lv_isub S.1 S.2.1 d_Mo_step_233 ?_
    refine lv_istore (lv' := [(7, .int (x4 - (1 : Int32))), (5, .int x3), (0, .ref (ad 0)), (3, .int x3), (4, .int x4)]) S.1 S.2.1 d_Mo_step_234 hl (by decide) rfl (fun ls hl => ?_)
    obtain ⟨n', h⟩ := h
    exact n_Mo_step_236 S hr hlk hK hA n' _ _ _ _ _ _ h (lv_sub hl [2, 1, 0] rfl) I
  · have h := h.2 hc
    refine lv_iconst (v := (0 : Int32)) S.1 S.2.1 d_Mo_step_225 rfl ?_
    exact ret_rwi S hr hlk hK I h d_Mo_step_226
set_option maxHeartbeats 4000000 in
set_option maxRecDepth 100000 in
theorem n_Mo_step_174 {p : Program} {l : Launch} {e : Env} {s : State} {m : MethodId} {args : Array Value} {below : List Frame} {meth : Method} {c : Code} {D : va_G} {A : Nat → Prop} {ad : Nat → Nat} {cA : ClassId × ClassId × ClassId}  {x1 : Int32} {x2 : Int32} {Q : Int32 → Mo → Prop} (S : CallFix p m c b_Mo_step 9 s args gtbl R_Mo) (hr : meth.sig.returnType = (some .int)) (hlk : meth.locks = false) (hK : gK D (tyA cA) s) (hA : ∀ q : Nat, s.heap.size ≤ q → A q) {k94 : Int32 → Int32 → Int32 → Int32 → Int32 → Mo → Prop} (hk94 : ∀ (ls : Array Slot) (H : Heap) (locs : List Loc) (x3 : Int32) (x4 : Int32) (x5 : Int32) (x6 : Int32) (x7 : Int32) (mo : Mo), k94 x3 x4 x5 x6 x7 mo → lv_has ls 9 [(0, .ref (ad 0)), (3, .int x3), (4, .int x4), (5, .int x5), (6, .int x6), (7, .int x7)] → gIn D A s (wM ad cA) mo H locs → W p l e rm_Mo_step s m args below meth c H locs 0 0 (qI D (tyA cA) A (wM ad cA) (fun u : Mo => u) (fun (r : Int32) (u : Mo) => Q r u) below args s) (F0 m 94 ls [])) : ∀ (ls : Array Slot) (H : Heap) (locs : List Loc) (x3 : Int32) (x4 : Int32) (x6 : Int32) (x7 : Int32) (y0 : Int32) (mo : Mo), p_Mo_step_174 x1 x2 Q k94 x3 x4 x6 x7 y0 mo → lv_has ls 9 [(0, .ref (ad 0)), (3, .int x3), (4, .int x4), (6, .int x6), (7, .int x7)] → gIn D A s (wM ad cA) mo H locs → W p l e rm_Mo_step s m args below meth c H locs 0 0 (qI D (tyA cA) A (wM ad cA) (fun u : Mo => u) (fun (r : Int32) (u : Mo) => Q r u) below args s) (F0 m 174 ls [.int y0]) := by
  intro ls H locs x3 x4 x6 x7 y0 mo h hl I
  refine lv_istore (lv' := [(5, .int y0), (0, .ref (ad 0)), (3, .int x3), (4, .int x4), (6, .int x6), (7, .int x7)]) S.1 S.2.1 d_Mo_step_174 hl (by decide) rfl (fun ls hl => ?_)
  refine lv_iload S.1 S.2.1 d_Mo_step_176 (lv_at hl 4 rfl) ?_
  refine lv_iload S.1 S.2.1 d_Mo_step_178 (lv_at hl 0 rfl) ?_
  refine lv_if_ge (tgt := 187) S.1 S.2.1 d_Mo_step_180 (by decide) (fun hc => ?_) (fun hc => ?_)
  · have h := h.1 hc
    refine lv_iconst (v := (0 : Int32)) S.1 S.2.1 d_Mo_step_187 rfl ?_
    refine lv_iadd S.1 S.2.1 d_Mo_step_188 ?_
    refine lv_istore (lv' := [(6, .int (x6 + (0 : Int32))), (5, .int y0), (0, .ref (ad 0)), (3, .int x3), (4, .int x4), (7, .int x7)]) S.1 S.2.1 d_Mo_step_189 hl (by decide) rfl (fun ls hl => ?_)
    refine lv_iinc (k := 5) (v := x7 + (-1 : Int32)) (lv' := [(7, .int (x7 + (-1 : Int32))), (6, .int (x6 + (0 : Int32))), (5, .int y0), (0, .ref (ad 0)), (3, .int x3), (4, .int x4)]) S.1 S.2.1 d_Mo_step_191 hl rfl rfl (by decide) rfl (fun ls hl => ?_)
    refine lv_goto (tgt := 94) S.1 S.2.1 d_Mo_step_194 (by decide) ?_
    exact hk94 _ _ _ _ _ _ _ _ _ h (lv_sub hl [3, 4, 5, 2, 1, 0] rfl) I
  · have h := h.2 hc
    refine lv_iconst (v := (1 : Int32)) S.1 S.2.1 d_Mo_step_183 rfl ?_
    refine lv_goto (tgt := 188) S.1 S.2.1 d_Mo_step_184 (by decide) ?_
    refine lv_iadd S.1 S.2.1 d_Mo_step_188 ?_
    refine lv_istore (lv' := [(6, .int (x6 + (1 : Int32))), (5, .int y0), (0, .ref (ad 0)), (3, .int x3), (4, .int x4), (7, .int x7)]) S.1 S.2.1 d_Mo_step_189 hl (by decide) rfl (fun ls hl => ?_)
    refine lv_iinc (k := 5) (v := x7 + (-1 : Int32)) (lv' := [(7, .int (x7 + (-1 : Int32))), (6, .int (x6 + (1 : Int32))), (5, .int y0), (0, .ref (ad 0)), (3, .int x3), (4, .int x4)]) S.1 S.2.1 d_Mo_step_191 hl rfl rfl (by decide) rfl (fun ls hl => ?_)
    refine lv_goto (tgt := 94) S.1 S.2.1 d_Mo_step_194 (by decide) ?_
    exact hk94 _ _ _ _ _ _ _ _ _ h (lv_sub hl [3, 4, 5, 2, 1, 0] rfl) I
set_option maxHeartbeats 4000000 in
set_option maxRecDepth 100000 in
theorem n_Mo_step_171 {p : Program} {l : Launch} {e : Env} {s : State} {m : MethodId} {args : Array Value} {below : List Frame} {meth : Method} {c : Code} {D : va_G} {A : Nat → Prop} {ad : Nat → Nat} {cA : ClassId × ClassId × ClassId}  {x1 : Int32} {x2 : Int32} {Q : Int32 → Mo → Prop} (S : CallFix p m c b_Mo_step 9 s args gtbl R_Mo) (hr : meth.sig.returnType = (some .int)) (hlk : meth.locks = false) (hK : gK D (tyA cA) s) (hA : ∀ q : Nat, s.heap.size ≤ q → A q) {k94 : Int32 → Int32 → Int32 → Int32 → Int32 → Mo → Prop} (hk94 : ∀ (ls : Array Slot) (H : Heap) (locs : List Loc) (x3 : Int32) (x4 : Int32) (x5 : Int32) (x6 : Int32) (x7 : Int32) (mo : Mo), k94 x3 x4 x5 x6 x7 mo → lv_has ls 9 [(0, .ref (ad 0)), (3, .int x3), (4, .int x4), (5, .int x5), (6, .int x6), (7, .int x7)] → gIn D A s (wM ad cA) mo H locs → W p l e rm_Mo_step s m args below meth c H locs 0 0 (qI D (tyA cA) A (wM ad cA) (fun u : Mo => u) (fun (r : Int32) (u : Mo) => Q r u) below args s) (F0 m 94 ls [])) : ∀ (ls : Array Slot) (H : Heap) (locs : List Loc) (x3 : Int32) (x4 : Int32) (x6 : Int32) (x7 : Int32) (y0 : Int32) (y1 : Int32) (y2 : Int32) (mo : Mo), p_Mo_step_171 x1 x2 Q k94 x3 x4 x6 x7 y0 y1 y2 mo → lv_has ls 9 [(0, .ref (ad 0)), (3, .int x3), (4, .int x4), (6, .int x6), (7, .int x7)] → gIn D A s (wM ad cA) mo H locs → W p l e rm_Mo_step s m args below meth c H locs 0 0 (qI D (tyA cA) A (wM ad cA) (fun u : Mo => u) (fun (r : Int32) (u : Mo) => Q r u) below args s) (F0 m 171 ls [.int y0, .int y1, .int y2, .ref (ad 0)]) := by
  intro ls H locs x3 x4 x6 x7 y0 y1 y2 mo h hl I
  refine callV_roi S (c_Mo_known l D ad cA _ _ _ _ _ h) (mkV S.2.2.2.2 ml_Mo_75 k_Mo_known rfl rfl ⟨Nat.le_of_ble_eq_true rfl, Nat.le_of_ble_eq_true rfl⟩) (rv_Mo hK I.1) hK I.1 hl.1 rfl rfl (Nat.le_of_ble_eq_true rfl) d_Mo_step_171 ⟨Nat.zero_le _, Nat.zero_le _⟩ (fun r171 h => ?_)
  exact n_Mo_step_174 S hr hlk hK hA hk94 _ _ _ _ _ _ _ _ _ h (lv_sub hl [0, 1, 2, 3, 4] rfl) I
set_option maxHeartbeats 4000000 in
set_option maxRecDepth 100000 in
theorem n_Mo_step_148 {p : Program} {l : Launch} {e : Env} {s : State} {m : MethodId} {args : Array Value} {below : List Frame} {meth : Method} {c : Code} {D : va_G} {A : Nat → Prop} {ad : Nat → Nat} {cA : ClassId × ClassId × ClassId}  {x1 : Int32} {x2 : Int32} {Q : Int32 → Mo → Prop} (S : CallFix p m c b_Mo_step 9 s args gtbl R_Mo) (hr : meth.sig.returnType = (some .int)) (hlk : meth.locks = false) (hK : gK D (tyA cA) s) (hA : ∀ q : Nat, s.heap.size ≤ q → A q) {k94 : Int32 → Int32 → Int32 → Int32 → Int32 → Mo → Prop} (hk94 : ∀ (ls : Array Slot) (H : Heap) (locs : List Loc) (x3 : Int32) (x4 : Int32) (x5 : Int32) (x6 : Int32) (x7 : Int32) (mo : Mo), k94 x3 x4 x5 x6 x7 mo → lv_has ls 9 [(0, .ref (ad 0)), (3, .int x3), (4, .int x4), (5, .int x5), (6, .int x6), (7, .int x7)] → gIn D A s (wM ad cA) mo H locs → W p l e rm_Mo_step s m args below meth c H locs 0 0 (qI D (tyA cA) A (wM ad cA) (fun u : Mo => u) (fun (r : Int32) (u : Mo) => Q r u) below args s) (F0 m 94 ls [])) : ∀ (ls : Array Slot) (H : Heap) (locs : List Loc) (x3 : Int32) (x4 : Int32) (x5 : Int32) (x6 : Int32) (x7 : Int32) (x8 : Int32) (y0 : Int32) (y1 : Int32) (mo : Mo), p_Mo_step_148 x1 x2 Q k94 x3 x4 x5 x6 x7 x8 y0 y1 mo → lv_has ls 9 [(0, .ref (ad 0)), (3, .int x3), (4, .int x4), (5, .int x5), (6, .int x6), (7, .int x7), (8, .int x8)] → gIn D A s (wM ad cA) mo H locs → W p l e rm_Mo_step s m args below meth c H locs 0 0 (qI D (tyA cA) A (wM ad cA) (fun u : Mo => u) (fun (r : Int32) (u : Mo) => Q r u) below args s) (F0 m 148 ls [.int y0, .int y1, .ref (ad 0)]) := by
  intro ls H locs x3 x4 x5 x6 x7 x8 y0 y1 mo h hl I
  refine lv_aload_n S.1 S.2.1 d_Mo_step_148 rfl (lv_at hl 0 rfl) ?_
  refine g_Mo_side S hK I.1 d_Mo_step_149 ?_
  refine lv_iload S.1 S.2.1 d_Mo_step_152 (lv_at hl 5 rfl) ?_
  obtain ⟨hin, h⟩ := h
  refine a_Mo_side S hK I.1 hin d_Mo_step_154 ?_
  refine lv_iconst (v := (2 : Int32)) S.1 S.2.1 d_Mo_step_155 rfl ?_
  refine lv_icmp_ne (tgt := 164) S.1 S.2.1 d_Mo_step_156 (by decide) (fun hc => ?_) (fun hc => ?_)
  · have h := h.1 hc
    refine lv_aload_n S.1 S.2.1 d_Mo_step_164 rfl (lv_at hl 0 rfl) ?_
    refine g_Mo_two S hK I.1 d_Mo_step_165 ?_
    refine lv_iload S.1 S.2.1 d_Mo_step_168 (lv_at hl 6 rfl) ?_
    obtain ⟨hin, h⟩ := h
    refine a_Mo_two S hK I.1 hin d_Mo_step_170 ?_
    exact n_Mo_step_171 S hr hlk hK hA hk94 _ _ _ _ _ _ _ _ _ _ _ h (lv_sub hl [0, 1, 2, 4, 5] rfl) I
  · have h := h.2 hc
    refine lv_iload S.1 S.2.1 d_Mo_step_159 (lv_at hl 3 rfl) ?_
    refine lv_goto (tgt := 171) S.1 S.2.1 d_Mo_step_161 (by decide) ?_
    exact n_Mo_step_171 S hr hlk hK hA hk94 _ _ _ _ _ _ _ _ _ _ _ h (lv_sub hl [0, 1, 2, 4, 5] rfl) I
set_option maxHeartbeats 4000000 in
set_option maxRecDepth 100000 in
theorem n_Mo_step_94 {p : Program} {l : Launch} {e : Env} {s : State} {m : MethodId} {args : Array Value} {below : List Frame} {meth : Method} {c : Code} {D : va_G} {A : Nat → Prop} {ad : Nat → Nat} {cA : ClassId × ClassId × ClassId}  {x1 : Int32} {x2 : Int32} {Q : Int32 → Mo → Prop} (S : CallFix p m c b_Mo_step 9 s args gtbl R_Mo) (hr : meth.sig.returnType = (some .int)) (hlk : meth.locks = false) (hK : gK D (tyA cA) s) (hA : ∀ q : Nat, s.heap.size ≤ q → A q) : ∀ n : Nat, ∀ (ls : Array Slot) (H : Heap) (locs : List Loc) (x3 : Int32) (x4 : Int32) (x5 : Int32) (x6 : Int32) (x7 : Int32) (mo : Mo), p_Mo_step_94 x1 x2 Q n x3 x4 x5 x6 x7 mo → lv_has ls 9 [(0, .ref (ad 0)), (3, .int x3), (4, .int x4), (5, .int x5), (6, .int x6), (7, .int x7)] → gIn D A s (wM ad cA) mo H locs → W p l e rm_Mo_step s m args below meth c H locs 0 0 (qI D (tyA cA) A (wM ad cA) (fun u : Mo => u) (fun (r : Int32) (u : Mo) => Q r u) below args s) (F0 m 94 ls []) := by
  intro n
  induction n with
  | zero =>
    intro ls H locs x3 x4 x5 x6 x7 mo h
    exact (show False from h).elim
  | succ n ih =>
    intro ls H locs x3 x4 x5 x6 x7 mo h hl I
    refine lv_iload S.1 S.2.1 d_Mo_step_94 (lv_at hl 5 rfl) ?_
    refine lv_if_lt (tgt := 197) S.1 S.2.1 d_Mo_step_96 (by decide) (fun hc => ?_) (fun hc => ?_)
    · have h := h.1 hc
      refine lv_aload_n S.1 S.2.1 d_Mo_step_197 rfl (lv_at hl 0 rfl) ?_
      refine lv_aload_n S.1 S.2.1 d_Mo_step_198 rfl (lv_at hl 0 rfl) ?_
      refine g_Mo_count S hK I.1 d_Mo_step_199 ?_
      refine lv_iload S.1 S.2.1 d_Mo_step_202 (lv_at hl 4 rfl) ?_
      refine lv_iadd S.1 S.2.1 d_Mo_step_204 ?_
      refine lv_bipush (v := (48 : Int32)) S.1 S.2.1 d_Mo_step_205 rfl ?_
      refine lv_icmp_le (tgt := 214) S.1 S.2.1 d_Mo_step_207 (by decide) (fun hc => ?_) (fun hc => ?_)
      · have h := h.1 hc
        refine lv_iconst (v := (0 : Int32)) S.1 S.2.1 d_Mo_step_214 rfl ?_
        exact n_Mo_step_215 S hr hlk hK hA _ _ _ _ _ _ _ h (lv_sub hl [0, 1, 2] rfl) I
      · have h := h.2 hc
        refine lv_iconst (v := (2 : Int32)) S.1 S.2.1 d_Mo_step_210 rfl ?_
        refine lv_goto (tgt := 215) S.1 S.2.1 d_Mo_step_211 (by decide) ?_
        exact n_Mo_step_215 S hr hlk hK hA _ _ _ _ _ _ _ h (lv_sub hl [0, 1, 2] rfl) I
    · have h := h.2 hc
      refine lv_aload_n S.1 S.2.1 d_Mo_step_99 rfl (lv_at hl 0 rfl) ?_
      refine g_Mo_path S hK I.1 d_Mo_step_100 ?_
      refine lv_iload S.1 S.2.1 d_Mo_step_103 (lv_at hl 5 rfl) ?_
      obtain ⟨hin, h⟩ := h
      refine a_Mo_path S hK I.1 hin d_Mo_step_105 ?_
      refine lv_istore (lv' := [(8, .int (Mo_path mo x7.toNatClampNeg)), (0, .ref (ad 0)), (3, .int x3), (4, .int x4), (5, .int x5), (6, .int x6), (7, .int x7)]) S.1 S.2.1 d_Mo_step_106 hl (by decide) rfl (fun ls hl => ?_)
      refine lv_iload S.1 S.2.1 d_Mo_step_108 (lv_at hl 5 rfl) ?_
      refine lv_if_le (tgt := 117) S.1 S.2.1 d_Mo_step_110 (by decide) (fun hc => ?_) (fun hc => ?_)
      · have h := h.1 hc
        refine lv_aload_n S.1 S.2.1 d_Mo_step_117 rfl (lv_at hl 1 rfl) ?_
        refine lv_aload_n S.1 S.2.1 d_Mo_step_118 rfl (lv_at hl 1 rfl) ?_
        refine g_Mo_symbol S hK I.1 d_Mo_step_119 ?_
        refine lv_iload S.1 S.2.1 d_Mo_step_122 (lv_at hl 0 rfl) ?_
        obtain ⟨hin, h⟩ := h
        refine a_Mo_symbol S hK I.1 hin d_Mo_step_124 ?_
        refine lv_aload_n S.1 S.2.1 d_Mo_step_125 rfl (lv_at hl 1 rfl) ?_
        refine g_Mo_side S hK I.1 d_Mo_step_126 ?_
        refine lv_iload S.1 S.2.1 d_Mo_step_129 (lv_at hl 6 rfl) ?_
        obtain ⟨hin, h⟩ := h
        refine a_Mo_side S hK I.1 hin d_Mo_step_131 ?_
        refine lv_iconst (v := (1 : Int32)) S.1 S.2.1 d_Mo_step_132 rfl ?_
        refine lv_icmp_ne (tgt := 141) S.1 S.2.1 d_Mo_step_133 (by decide) (fun hc => ?_) (fun hc => ?_)
        · have h := h.1 hc
          refine lv_aload_n S.1 S.2.1 d_Mo_step_141 rfl (lv_at hl 1 rfl) ?_
          refine g_Mo_one S hK I.1 d_Mo_step_142 ?_
          refine lv_iload S.1 S.2.1 d_Mo_step_145 (lv_at hl 0 rfl) ?_
          obtain ⟨hin, h⟩ := h
          refine a_Mo_one S hK I.1 hin d_Mo_step_147 ?_
          exact n_Mo_step_148 S hr hlk hK hA ih _ _ _ _ _ _ _ _ _ _ _ _ h (lv_sub hl [1, 2, 3, 4, 5, 6, 0] rfl) I
        · have h := h.2 hc
          refine lv_iload S.1 S.2.1 d_Mo_step_136 (lv_at hl 4 rfl) ?_
          refine lv_goto (tgt := 148) S.1 S.2.1 d_Mo_step_138 (by decide) ?_
          exact n_Mo_step_148 S hr hlk hK hA ih _ _ _ _ _ _ _ _ _ _ _ _ h (lv_sub hl [1, 2, 3, 4, 5, 6, 0] rfl) I
      · have h := h.2 hc
        refine lv_iconst (v := (-1 : Int32)) S.1 S.2.1 d_Mo_step_113 rfl ?_
        refine lv_goto (tgt := 174) S.1 S.2.1 d_Mo_step_114 (by decide) ?_
        exact n_Mo_step_174 S hr hlk hK hA ih _ _ _ _ _ _ _ _ _ h (lv_sub hl [1, 2, 3, 5, 6] rfl) I
set_option maxHeartbeats 4000000 in
set_option maxRecDepth 100000 in
theorem n_Mo_step_52 {p : Program} {l : Launch} {e : Env} {s : State} {m : MethodId} {args : Array Value} {below : List Frame} {meth : Method} {c : Code} {D : va_G} {A : Nat → Prop} {ad : Nat → Nat} {cA : ClassId × ClassId × ClassId}  {x1 : Int32} {x2 : Int32} {Q : Int32 → Mo → Prop} (S : CallFix p m c b_Mo_step 9 s args gtbl R_Mo) (hr : meth.sig.returnType = (some .int)) (hlk : meth.locks = false) (hK : gK D (tyA cA) s) (hA : ∀ q : Nat, s.heap.size ≤ q → A q) : ∀ (ls : Array Slot) (H : Heap) (locs : List Loc) (y0 : Int32) (mo : Mo), p_Mo_step_52 x1 x2 Q y0 mo → lv_has ls 9 [(0, .ref (ad 0)), (1, .int x1), (2, .int x2)] → gIn D A s (wM ad cA) mo H locs → W p l e rm_Mo_step s m args below meth c H locs 0 0 (qI D (tyA cA) A (wM ad cA) (fun u : Mo => u) (fun (r : Int32) (u : Mo) => Q r u) below args s) (F0 m 52 ls [.int y0, .ref (ad 0)]) := by
  intro ls H locs y0 mo h hl I
  refine q_Mo_thrown S hK I d_Mo_step_52 (fun H locs mo52 emo52 I => ?_)
  have h := h mo52 emo52
  refine lv_aload_n S.1 S.2.1 d_Mo_step_55 rfl (lv_at hl 0 rfl) ?_
  refine g_Mo_thrown S hK I.1 d_Mo_step_56 ?_
  refine lv_if_le (tgt := 64) S.1 S.2.1 d_Mo_step_59 (by decide) (fun hc => ?_) (fun hc => ?_)
  · have h := h.1 hc
    refine lv_aload_n S.1 S.2.1 d_Mo_step_64 rfl (lv_at hl 0 rfl) ?_
    refine g_Mo_right S hK I.1 d_Mo_step_65 ?_
    refine lv_aload_n S.1 S.2.1 d_Mo_step_68 rfl (lv_at hl 0 rfl) ?_
    refine lv_iload_n S.1 S.2.1 d_Mo_step_69 rfl (lv_at hl 1 rfl) ?_
    refine lv_iload_n S.1 S.2.1 d_Mo_step_70 rfl (lv_at hl 2 rfl) ?_
    refine callV_rwi S (c_Mo_down l D ad cA _ _ _ _ h) (mkV S.2.2.2.2 ml_Mo_143 k_Mo_down rfl rfl ⟨Nat.le_of_ble_eq_true rfl, Nat.le_of_ble_eq_true rfl⟩) (rv_Mo hK I.1) hK hA I hl.1 rfl rfl (Nat.le_of_ble_eq_true rfl) d_Mo_step_71 ⟨Nat.zero_le _, Nat.zero_le _⟩ (fun r71 mo71 H locs h I => ?_)
    obtain ⟨hin, h⟩ := h
    refine a_Mo_right S hK I.1 hin d_Mo_step_74 ?_
    refine lv_istore_n (lv' := [(3, .int (Mo_right mo71 r71.toNatClampNeg)), (0, .ref (ad 0)), (1, .int x1), (2, .int x2)]) S.1 S.2.1 d_Mo_step_75 rfl hl (by decide) rfl (fun ls hl => ?_)
    refine lv_aload_n S.1 S.2.1 d_Mo_step_76 rfl (lv_at hl 1 rfl) ?_
    refine callV_roi S (c_Mo_depth l D ad cA _ _ h) (mkV S.2.2.2.2 ml_Mo_147 k_Mo_depth rfl rfl ⟨Nat.le_of_ble_eq_true rfl, Nat.le_of_ble_eq_true rfl⟩) (rv_Mo hK I.1) hK I.1 hl.1 rfl rfl (Nat.le_of_ble_eq_true rfl) d_Mo_step_77 ⟨Nat.zero_le _, Nat.zero_le _⟩ (fun r77 h => ?_)
    refine lv_istore (lv' := [(4, .int r77), (3, .int (Mo_right mo71 r71.toNatClampNeg)), (0, .ref (ad 0)), (1, .int x1), (2, .int x2)]) S.1 S.2.1 d_Mo_step_80 hl (by decide) rfl (fun ls hl => ?_)
    refine lv_iload_n S.1 S.2.1 d_Mo_step_82 rfl (lv_at hl 1 rfl) ?_
    refine lv_istore (lv' := [(5, .int (Mo_right mo71 r71.toNatClampNeg)), (4, .int r77), (3, .int (Mo_right mo71 r71.toNatClampNeg)), (0, .ref (ad 0)), (1, .int x1), (2, .int x2)]) S.1 S.2.1 d_Mo_step_83 hl (by decide) rfl (fun ls hl => ?_)
    refine lv_iconst (v := (0 : Int32)) S.1 S.2.1 d_Mo_step_85 rfl ?_
    refine lv_istore (lv' := [(6, .int (0 : Int32)), (5, .int (Mo_right mo71 r71.toNatClampNeg)), (4, .int r77), (3, .int (Mo_right mo71 r71.toNatClampNeg)), (0, .ref (ad 0)), (1, .int x1), (2, .int x2)]) S.1 S.2.1 d_Mo_step_86 hl (by decide) rfl (fun ls hl => ?_)
    refine lv_iload S.1 S.2.1 d_Mo_step_88 (lv_at hl 2 rfl) ?_
    refine lv_iconst (v := (1 : Int32)) S.1 S.2.1 d_Mo_step_90 rfl ?_
    refine lv_isub S.1 S.2.1 d_Mo_step_91 ?_
    refine lv_istore (lv' := [(7, .int (r77 - (1 : Int32))), (6, .int (0 : Int32)), (5, .int (Mo_right mo71 r71.toNatClampNeg)), (4, .int r77), (3, .int (Mo_right mo71 r71.toNatClampNeg)), (0, .ref (ad 0)), (1, .int x1), (2, .int x2)]) S.1 S.2.1 d_Mo_step_92 hl (by decide) rfl (fun ls hl => ?_)
    obtain ⟨n', h⟩ := h
    exact n_Mo_step_94 S hr hlk hK hA n' _ _ _ _ _ _ _ _ _ h (lv_sub hl [5, 4, 3, 2, 1, 0] rfl) I
  · have h := h.2 hc
    refine lv_iconst (v := (0 : Int32)) S.1 S.2.1 d_Mo_step_62 rfl ?_
    exact ret_rwi S hr hlk hK I h d_Mo_step_63
set_option maxHeartbeats 4000000 in
set_option maxRecDepth 100000 in
theorem n_Mo_step_25 {p : Program} {l : Launch} {e : Env} {s : State} {m : MethodId} {args : Array Value} {below : List Frame} {meth : Method} {c : Code} {D : va_G} {A : Nat → Prop} {ad : Nat → Nat} {cA : ClassId × ClassId × ClassId}  {x1 : Int32} {x2 : Int32} {Q : Int32 → Mo → Prop} (S : CallFix p m c b_Mo_step 9 s args gtbl R_Mo) (hr : meth.sig.returnType = (some .int)) (hlk : meth.locks = false) (hK : gK D (tyA cA) s) (hA : ∀ q : Nat, s.heap.size ≤ q → A q) : ∀ (ls : Array Slot) (H : Heap) (locs : List Loc) (y0 : Int32) (mo : Mo), p_Mo_step_25 x1 x2 Q y0 mo → lv_has ls 9 [(0, .ref (ad 0)), (1, .int x1), (2, .int x2)] → gIn D A s (wM ad cA) mo H locs → W p l e rm_Mo_step s m args below meth c H locs 0 0 (qI D (tyA cA) A (wM ad cA) (fun u : Mo => u) (fun (r : Int32) (u : Mo) => Q r u) below args s) (F0 m 25 ls [.int y0, .ref (ad 0)]) := by
  intro ls H locs y0 mo h hl I
  refine q_Mo_thrown S hK I d_Mo_step_25 (fun H locs mo25 emo25 I => ?_)
  have h := h mo25 emo25
  refine lv_aload_n S.1 S.2.1 d_Mo_step_28 rfl (lv_at hl 0 rfl) ?_
  refine g_Mo_thrown S hK I.1 d_Mo_step_29 ?_
  refine lv_if_le (tgt := 37) S.1 S.2.1 d_Mo_step_32 (by decide) (fun hc => ?_) (fun hc => ?_)
  · have h := h.1 hc
    refine lv_aload_n S.1 S.2.1 d_Mo_step_37 rfl (lv_at hl 0 rfl) ?_
    refine lv_iload_n S.1 S.2.1 d_Mo_step_38 rfl (lv_at hl 2 rfl) ?_
    refine lv_aload_n S.1 S.2.1 d_Mo_step_39 rfl (lv_at hl 0 rfl) ?_
    refine lv_iload_n S.1 S.2.1 d_Mo_step_40 rfl (lv_at hl 1 rfl) ?_
    refine callV_rwi S (c_Mo_steps l D ad cA _ _ _ h) (mkV S.2.2.2.2 ml_Mo_103 k_Mo_steps rfl rfl ⟨Nat.le_of_ble_eq_true rfl, Nat.le_of_ble_eq_true rfl⟩) (rv_Mo hK I.1) hK hA I hl.1 rfl rfl (Nat.le_of_ble_eq_true rfl) d_Mo_step_41 ⟨Nat.zero_le _, Nat.zero_le _⟩ (fun r41 mo41 H locs h I => ?_)
    refine lv_icmp_lt (tgt := 51) S.1 S.2.1 d_Mo_step_44 (by decide) (fun hc => ?_) (fun hc => ?_)
    · have h := h.1 hc
      refine lv_iconst (v := (0 : Int32)) S.1 S.2.1 d_Mo_step_51 rfl ?_
      exact n_Mo_step_52 S hr hlk hK hA _ _ _ _ _ h (lv_sub hl [0, 1, 2] rfl) I
    · have h := h.2 hc
      refine lv_iconst (v := (1 : Int32)) S.1 S.2.1 d_Mo_step_47 rfl ?_
      refine lv_goto (tgt := 52) S.1 S.2.1 d_Mo_step_48 (by decide) ?_
      exact n_Mo_step_52 S hr hlk hK hA _ _ _ _ _ h (lv_sub hl [0, 1, 2] rfl) I
  · have h := h.2 hc
    refine lv_iconst (v := (0 : Int32)) S.1 S.2.1 d_Mo_step_35 rfl ?_
    exact ret_rwi S hr hlk hK I h d_Mo_step_36
set_option maxHeartbeats 4000000 in
set_option maxRecDepth 100000 in
theorem n_Mo_step_20 {p : Program} {l : Launch} {e : Env} {s : State} {m : MethodId} {args : Array Value} {below : List Frame} {meth : Method} {c : Code} {D : va_G} {A : Nat → Prop} {ad : Nat → Nat} {cA : ClassId × ClassId × ClassId}  {x1 : Int32} {x2 : Int32} {Q : Int32 → Mo → Prop} (S : CallFix p m c b_Mo_step 9 s args gtbl R_Mo) (hr : meth.sig.returnType = (some .int)) (hlk : meth.locks = false) (hK : gK D (tyA cA) s) (hA : ∀ q : Nat, s.heap.size ≤ q → A q) : ∀ (ls : Array Slot) (H : Heap) (locs : List Loc) (mo : Mo), p_Mo_step_20 x1 x2 Q mo → lv_has ls 9 [(0, .ref (ad 0)), (1, .int x1), (2, .int x2)] → gIn D A s (wM ad cA) mo H locs → W p l e rm_Mo_step s m args below meth c H locs 0 0 (qI D (tyA cA) A (wM ad cA) (fun u : Mo => u) (fun (r : Int32) (u : Mo) => Q r u) below args s) (F0 m 20 ls [.ref (ad 0)]) := by
  intro ls H locs mo h hl I
  refine lv_iconst (v := (1 : Int32)) S.1 S.2.1 d_Mo_step_20 rfl ?_
  refine lv_goto (tgt := 25) S.1 S.2.1 d_Mo_step_21 (by decide) ?_
  exact n_Mo_step_25 S hr hlk hK hA _ _ _ _ _ h (lv_sub hl [0, 1, 2] rfl) I
set_option maxHeartbeats 4000000 in
set_option maxRecDepth 100000 in
theorem c_Mo_step (l : Launch) (D : va_G) (ad : Nat → Nat) (cA : ClassId × ClassId × ClassId) (mo : Mo) (x1 : Int32) (x2 : Int32) (Q : Int32 → Mo → Prop) (h : p_Mo_step x1 x2 mo Q) : rwI l y_Mo_step (wsOf y_Mo_step b_Mo_step 9 (some .int)) rm_Mo_step D (tyA cA) (wM ad cA) [.ref (ad 0), .int x1, .int x2] mo (fun u : Mo => u) (fun (r : Int32) (u : Mo) => Q r u) := by
  refine rwI_of (by decide) (Nat.le_of_ble_eq_true rfl) ?_
  intro p e s m below meth c S hr hlk hK A hA I ls hl
  have hl : lv_has ls 9 [(0, .ref (ad 0)), (1, .int x1), (2, .int x2)] := hl
  refine lv_aload_n S.1 S.2.1 d_Mo_step_0 rfl (lv_at hl 0 rfl) ?_
  refine lv_aload_n S.1 S.2.1 d_Mo_step_1 rfl (lv_at hl 0 rfl) ?_
  refine lv_iload_n S.1 S.2.1 d_Mo_step_2 rfl (lv_at hl 1 rfl) ?_
  refine callV_roi S (c_Mo_isTerm l D ad cA _ _ _ h) (mkV S.2.2.2.2 ml_Mo_79 k_Mo_isTerm rfl rfl ⟨Nat.le_of_ble_eq_true rfl, Nat.le_of_ble_eq_true rfl⟩) (rv_Mo hK I.1) hK I.1 hl.1 rfl rfl (Nat.le_of_ble_eq_true rfl) d_Mo_step_3 ⟨Nat.zero_le _, Nat.zero_le _⟩ (fun r3 h => ?_)
  refine lv_if_eq (tgt := 20) S.1 S.2.1 d_Mo_step_6 (by decide) (fun hc => ?_) (fun hc => ?_)
  · have h := h.1 hc
    exact n_Mo_step_20 S hr hlk hK hA _ _ _ _ h (lv_sub hl [0, 1, 2] rfl) I
  · have h := h.2 hc
    refine lv_iload_n S.1 S.2.1 d_Mo_step_9 rfl (lv_at hl 2 rfl) ?_
    refine lv_if_lt (tgt := 20) S.1 S.2.1 d_Mo_step_10 (by decide) (fun hc => ?_) (fun hc => ?_)
    · have h := h.1 hc
      exact n_Mo_step_20 S hr hlk hK hA _ _ _ _ h (lv_sub hl [0, 1, 2] rfl) I
    · have h := h.2 hc
      refine lv_iload_n S.1 S.2.1 d_Mo_step_13 rfl (lv_at hl 2 rfl) ?_
      refine lv_sipush (v := (999 : Int32)) S.1 S.2.1 d_Mo_step_14 rfl ?_
      refine lv_icmp_le (tgt := 24) S.1 S.2.1 d_Mo_step_17 (by decide) (fun hc => ?_) (fun hc => ?_)
      · have h := h.1 hc
        refine lv_iconst (v := (0 : Int32)) S.1 S.2.1 d_Mo_step_24 rfl ?_
        exact n_Mo_step_25 S hr hlk hK hA _ _ _ _ _ h (lv_sub hl [0, 1, 2] rfl) I
      · have h := h.2 hc
        exact n_Mo_step_20 S hr hlk hK hA _ _ _ _ h (lv_sub hl [0, 1, 2] rfl) I

set_option maxHeartbeats 4000000 in
set_option maxRecDepth 100000 in
theorem n_Mo_tally_61 {p : Program} {l : Launch} {e : Env} {s : State} {m : MethodId} {args : Array Value} {below : List Frame} {meth : Method} {c : Code} {D : va_G} {A : Nat → Prop} {ad : Nat → Nat} {cA : ClassId × ClassId × ClassId}  {x1 : Int32} {Q : Mo → Prop} (S : CallFix p m c b_Mo_tally 2 s args gtbl R_Mo) (hr : meth.sig.returnType = none) (hlk : meth.locks = false) (hK : gK D (tyA cA) s) (hA : ∀ q : Nat, s.heap.size ≤ q → A q) : ∀ (ls : Array Slot) (H : Heap) (locs : List Loc) (y0 : Int32) (y1 : Int64) (y2 : Int32) (mo : Mo), p_Mo_tally_61 x1 Q y0 y1 y2 mo → lv_has ls 2 [] → gIn D A s (wM ad cA) mo H locs → W p l e rm_Mo_tally s m args below meth c H locs 0 0 (qV D (tyA cA) A (wM ad cA) (fun u : Mo => u) (fun u : Mo => Q u) below args s) (F0 m 61 ls [.int y0, .long y1, .int y2, .ref (ad 16)]) := by
  intro ls H locs y0 y1 y2 mo h hl I
  refine lv_i2l S.1 S.2.1 d_Mo_tally_61 rfl ?_
  refine lv_ladd S.1 S.2.1 d_Mo_tally_62 ?_
  refine callS_roi S (c_Mo_capped l D ad cA _ _ _ h) (mkS S.2.2.2.2 ml_Mo_89 k_Mo_capped rfl rfl ⟨Nat.le_of_ble_eq_true rfl, Nat.le_of_ble_eq_true rfl⟩) hK I.1 hl.1 rfl rfl (Nat.le_of_ble_eq_true rfl) d_Mo_tally_63 ⟨Nat.zero_le _, Nat.zero_le _⟩ (fun r63 h => ?_)
  obtain ⟨hin, h⟩ := h
  refine s_Mo_many S hK I hin d_Mo_tally_66 (fun H locs mo66 emo66 I => ?_)
  have h := h mo66 emo66
  exact ret_rwv S hr hlk hK I h d_Mo_tally_67
set_option maxHeartbeats 4000000 in
set_option maxRecDepth 100000 in
theorem n_Mo_tally_35 {p : Program} {l : Launch} {e : Env} {s : State} {m : MethodId} {args : Array Value} {below : List Frame} {meth : Method} {c : Code} {D : va_G} {A : Nat → Prop} {ad : Nat → Nat} {cA : ClassId × ClassId × ClassId}  {x1 : Int32} {Q : Mo → Prop} (S : CallFix p m c b_Mo_tally 2 s args gtbl R_Mo) (hr : meth.sig.returnType = none) (hlk : meth.locks = false) (hK : gK D (tyA cA) s) (hA : ∀ q : Nat, s.heap.size ≤ q → A q) : ∀ (ls : Array Slot) (H : Heap) (locs : List Loc) (y0 : Int32) (y1 : Int64) (y2 : Int32) (mo : Mo), p_Mo_tally_35 x1 Q y0 y1 y2 mo → lv_has ls 2 [(0, .ref (ad 0)), (1, .int x1)] → gIn D A s (wM ad cA) mo H locs → W p l e rm_Mo_tally s m args below meth c H locs 0 0 (qV D (tyA cA) A (wM ad cA) (fun u : Mo => u) (fun u : Mo => Q u) below args s) (F0 m 35 ls [.int y0, .long y1, .int y2, .ref (ad 16)]) := by
  intro ls H locs y0 y1 y2 mo h hl I
  refine lv_i2l S.1 S.2.1 d_Mo_tally_35 rfl ?_
  refine lv_ladd S.1 S.2.1 d_Mo_tally_36 ?_
  refine lv_aload_n S.1 S.2.1 d_Mo_tally_37 rfl (lv_at hl 0 rfl) ?_
  refine g_Mo_two S hK I.1 d_Mo_tally_38 ?_
  refine lv_iload_n S.1 S.2.1 d_Mo_tally_41 rfl (lv_at hl 1 rfl) ?_
  obtain ⟨hin, h⟩ := h
  refine a_Mo_two S hK I.1 hin d_Mo_tally_42 ?_
  refine lv_if_ge (tgt := 50) S.1 S.2.1 d_Mo_tally_43 (by decide) (fun hc => ?_) (fun hc => ?_)
  · have h := h.1 hc
    refine lv_aload_n S.1 S.2.1 d_Mo_tally_50 rfl (lv_at hl 0 rfl) ?_
    refine g_Mo_many S hK I.1 d_Mo_tally_51 ?_
    refine lv_aload_n S.1 S.2.1 d_Mo_tally_54 rfl (lv_at hl 0 rfl) ?_
    refine g_Mo_two S hK I.1 d_Mo_tally_55 ?_
    refine lv_iload_n S.1 S.2.1 d_Mo_tally_58 rfl (lv_at hl 1 rfl) ?_
    obtain ⟨hin, h⟩ := h
    refine a_Mo_two S hK I.1 hin d_Mo_tally_59 ?_
    obtain ⟨hin, h⟩ := h
    refine a_Mo_many S hK I.1 hin d_Mo_tally_60 ?_
    exact n_Mo_tally_61 S hr hlk hK hA _ _ _ _ _ _ _ h (lv_sub hl [] rfl) I
  · have h := h.2 hc
    refine lv_iconst (v := (0 : Int32)) S.1 S.2.1 d_Mo_tally_46 rfl ?_
    refine lv_goto (tgt := 61) S.1 S.2.1 d_Mo_tally_47 (by decide) ?_
    exact n_Mo_tally_61 S hr hlk hK hA _ _ _ _ _ _ _ h (lv_sub hl [] rfl) I
set_option maxHeartbeats 4000000 in
set_option maxRecDepth 100000 in
theorem c_Mo_tally (l : Launch) (D : va_G) (ad : Nat → Nat) (cA : ClassId × ClassId × ClassId) (mo : Mo) (x1 : Int32) (Q : Mo → Prop) (h : p_Mo_tally x1 mo Q) : rwV l y_Mo_tally (wsOf y_Mo_tally b_Mo_tally 2 none) rm_Mo_tally D (tyA cA) (wM ad cA) [.ref (ad 0), .int x1] mo (fun u : Mo => u) (fun u : Mo => Q u) := by
  refine rwV_of (by decide) (Nat.le_of_ble_eq_true rfl) ?_
  intro p e s m below meth c S hr hlk hK A hA I ls hl
  have hl : lv_has ls 2 [(0, .ref (ad 0)), (1, .int x1)] := hl
  refine lv_aload_n S.1 S.2.1 d_Mo_tally_0 rfl (lv_at hl 0 rfl) ?_
  refine g_Mo_many S hK I.1 d_Mo_tally_1 ?_
  refine lv_iload_n S.1 S.2.1 d_Mo_tally_4 rfl (lv_at hl 1 rfl) ?_
  refine lv_aload_n S.1 S.2.1 d_Mo_tally_5 rfl (lv_at hl 0 rfl) ?_
  refine lv_iload_n S.1 S.2.1 d_Mo_tally_6 rfl (lv_at hl 1 rfl) ?_
  refine callV_roi S (c_Mo_lefts l D ad cA _ _ _ h) (mkV S.2.2.2.2 ml_Mo_96 k_Mo_lefts rfl rfl ⟨Nat.le_of_ble_eq_true rfl, Nat.le_of_ble_eq_true rfl⟩) (rv_Mo hK I.1) hK I.1 hl.1 rfl rfl (Nat.le_of_ble_eq_true rfl) d_Mo_tally_7 ⟨Nat.zero_le _, Nat.zero_le _⟩ (fun r7 h => ?_)
  refine lv_i2l S.1 S.2.1 d_Mo_tally_10 rfl ?_
  refine lv_aload_n S.1 S.2.1 d_Mo_tally_11 rfl (lv_at hl 0 rfl) ?_
  refine g_Mo_one S hK I.1 d_Mo_tally_12 ?_
  refine lv_iload_n S.1 S.2.1 d_Mo_tally_15 rfl (lv_at hl 1 rfl) ?_
  obtain ⟨hin, h⟩ := h
  refine a_Mo_one S hK I.1 hin d_Mo_tally_16 ?_
  refine lv_if_ge (tgt := 24) S.1 S.2.1 d_Mo_tally_17 (by decide) (fun hc => ?_) (fun hc => ?_)
  · have h := h.1 hc
    refine lv_aload_n S.1 S.2.1 d_Mo_tally_24 rfl (lv_at hl 0 rfl) ?_
    refine g_Mo_many S hK I.1 d_Mo_tally_25 ?_
    refine lv_aload_n S.1 S.2.1 d_Mo_tally_28 rfl (lv_at hl 0 rfl) ?_
    refine g_Mo_one S hK I.1 d_Mo_tally_29 ?_
    refine lv_iload_n S.1 S.2.1 d_Mo_tally_32 rfl (lv_at hl 1 rfl) ?_
    obtain ⟨hin, h⟩ := h
    refine a_Mo_one S hK I.1 hin d_Mo_tally_33 ?_
    obtain ⟨hin, h⟩ := h
    refine a_Mo_many S hK I.1 hin d_Mo_tally_34 ?_
    exact n_Mo_tally_35 S hr hlk hK hA _ _ _ _ _ _ _ h (lv_sub hl [0, 1] rfl) I
  · have h := h.2 hc
    refine lv_iconst (v := (0 : Int32)) S.1 S.2.1 d_Mo_tally_20 rfl ?_
    refine lv_goto (tgt := 35) S.1 S.2.1 d_Mo_tally_21 (by decide) ?_
    exact n_Mo_tally_35 S hr hlk hK hA _ _ _ _ _ _ _ h (lv_sub hl [0, 1] rfl) I
