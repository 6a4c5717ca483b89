theorem sl_at {p : Program} {l : Launch} {e : Env} {s : State} {m : MethodId} {below : List Frame} {meth : Method} {c : Code} {Q : State → Prop} {A : Nat → Prop} {b L n cells slots : Nat} {xs : Nat → Int32} {H : Heap} {locs : List Loc} {pc : Nat} {ls : Array Slot} {rest : List Value} (k : Nat) {v : Int32} (S : CallFix p m c code 7 s #[Value.ref b] gtbl R_Lw) (hX : va_X b L xs s s.heap) (hbl : b < s.heap.size) (hbA : ¬ A b) (hL : L ≤ 2561) (hS : va_S A s.heap H locs) (hv : v = nI k) (hnk : n + k < L) (hdg : decode code pc = .ok (.iaload, 1)) (kk : W p l e room_1 s m #[Value.ref b] below meth c H locs cells slots Q (F0 m (pc + 1) ls (.int (xs (n + k)) :: rest))) : W p l e room_1 s m #[Value.ref b] below meth c H locs cells slots Q (F0 m pc ls (.int (nI n + v) :: .ref b :: rest)) := by
  subst hv
  obtain ⟨h1, h2⟩ := sc_at hnk hL
  exact va_sld S.1 S.2.1 hX hbl hbA hS h1 hdg (by rw [h2]; exact kk)
set_option maxHeartbeats 4000000 in
set_option maxRecDepth 100000 in
theorem cs_0 {p : Program} {l : Launch} {e : Env} {s : State} {m : MethodId} {below : List Frame} {meth : Method} {c : Code} {Q : State → Prop} {D : va_G} {A : Nat → Prop} {ac am : Nat → Nat} {ao b L n cells slots : Nat} {xs : Nat → Int32} {cA : ClassId × ClassId × ClassId} {te : Te} {ru : Ru} {au : Au} {re : Re} {la : La} {sp : Sp} {le : Le} {mo : Mo} {f : Nat → Int64} {K : StC → Mo → Prop} {H : Heap} {locs : List Loc} {ls : Array Slot} (S : CallFix p m c code 7 s #[Value.ref b] gtbl R_Lw) (hlt : l.stackTraces = false) (hK : gK D (tyA cA) s) (hA : ∀ q : Nat, s.heap.size ≤ q → A q) (hbA : ¬ A b) (tx : tX A s s.heap) (hX : va_X b L xs s s.heap) (hbl : b < s.heap.size) (hL : L ≤ 2561) (hn : n + 5 ≤ L) (hcl : cells + 1 ≤ 1097) (hsl : slots + 6 ≤ 26642) (h : ls_0 (xs (n + 1)) (xs (n + 2)) (xs (n + 3)) (xs (n + 4)) te ru au re la sp le mo K) (hl : lv_has ls 7 [(0, .ref b), (1, .ref (ac 0)), (2, .ref (am 0)), (3, .ref ao), (4, .int (nI n))]) (I : gIn D A s (wA ac am ao cA) ((te, ru, au, re, la, sp, le), mo, f) H locs) (kk : ∀ (sc : StC) (mo : Mo) (f : Nat → Int64) (ls : Array Slot) (H : Heap) (locs : List Loc), K sc mo → lv_has ls 7 [(0, .ref b), (1, .ref (ac 0)), (2, .ref (am 0)), (3, .ref ao), (4, .int (nI n))] → gIn D A s (wA ac am ao cA) (sc, mo, f) H locs → W p l e room_1 s m #[Value.ref b] below meth c H locs (cells + 1) (slots + 6) Q (F0 m 1090 ls [])) : W p l e room_1 s m #[Value.ref b] below meth c H locs cells slots Q (F0 m 128 ls []) := by
  refine lv_aload_n S.1 S.2.1 d_L_128 rfl (lv_at hl 1 rfl) ?_
  refine lv_aload_n S.1 S.2.1 d_L_129 rfl (lv_at hl 0 rfl) ?_
  refine lv_iload S.1 S.2.1 d_L_130 (lv_at hl 4 rfl) ?_
  refine lv_iconst (v := (1 : Int32)) S.1 S.2.1 d_L_132 rfl ?_
  refine lv_iadd S.1 S.2.1 d_L_133 ?_
  refine sl_at 1 S hX hbl hbA hL I.2.2 rfl (by omega) d_L_134 ?_
  refine lv_aload_n S.1 S.2.1 d_L_135 rfl (lv_at hl 0 rfl) ?_
  refine lv_iload S.1 S.2.1 d_L_136 (lv_at hl 4 rfl) ?_
  refine lv_iconst (v := (2 : Int32)) S.1 S.2.1 d_L_138 rfl ?_
  refine lv_iadd S.1 S.2.1 d_L_139 ?_
  refine sl_at 2 S hX hbl hbA hL I.2.2 rfl (by omega) d_L_140 ?_
  refine lv_aload_n S.1 S.2.1 d_L_141 rfl (lv_at hl 0 rfl) ?_
  refine lv_iload S.1 S.2.1 d_L_142 (lv_at hl 4 rfl) ?_
  refine lv_iconst (v := (3 : Int32)) S.1 S.2.1 d_L_144 rfl ?_
  refine lv_iadd S.1 S.2.1 d_L_145 ?_
  refine sl_at 3 S hX hbl hbA hL I.2.2 rfl (by omega) d_L_146 ?_
  refine lv_aload_n S.1 S.2.1 d_L_147 rfl (lv_at hl 3 rfl) ?_
  refine callS_hw (n := 5) S (c_Lw_term l hlt D ac am ao cA te ru au re la sp le mo f (xs (n + 1)) (xs (n + 2)) (xs (n + 3)) _ _ (fun E _ h9 => h9.1) h) ml_Lw_69 sw_Lw_term in_Lw cw_Lw_term ⟨by decide, by decide, by decide +kernel⟩ rfl rfl ⟨Nat.le_of_ble_eq_true rfl, Nat.le_of_ble_eq_true rfl⟩ hK hA tx I hl.1 rfl rfl (Nat.le_of_ble_eq_true rfl) d_L_148 ⟨hcl, hsl⟩ (fun k u H locs hk I => ?_)
  rcases hk with ⟨rfl, r, h, hf⟩ | ⟨rfl, h, hf⟩ | ⟨rfl, h, hf⟩
  · refine lv_istore (lv' := [(5, .int (0 : Int32)), (0, .ref b), (1, .ref (ac 0)), (2, .ref (am 0)), (3, .ref ao), (4, .int (nI n))]) S.1 S.2.1 d_L_151 hl (by decide) rfl (fun ls hl => ?_)
    refine lv_aload_n S.1 S.2.1 d_L_153 rfl (lv_at hl 3 rfl) ?_
    refine lv_aload_n S.1 S.2.1 d_L_154 rfl (lv_at hl 1 rfl) ?_
    refine lv_iload S.1 S.2.1 d_L_155 (lv_at hl 5 rfl) ?_
    refine lv_iconst (v := (1 : Int32)) S.1 S.2.1 d_L_157 rfl ?_
    refine lv_iadd S.1 S.2.1 d_L_158 ?_
    refine sl_at 1 S hX hbl hbA hL I.2.2 rfl (by omega) d_L_159 ?_
    refine lv_aload_n S.1 S.2.1 d_L_160 rfl (lv_at hl 1 rfl) ?_
    refine lv_iload S.1 S.2.1 d_L_161 (lv_at hl 5 rfl) ?_
    refine lv_iconst (v := (2 : Int32)) S.1 S.2.1 d_L_163 rfl ?_
    refine lv_iadd S.1 S.2.1 d_L_164 ?_
    refine sl_at 2 S hX hbl hbA hL I.2.2 rfl (by omega) d_L_165 ?_
    refine lv_aload_n S.1 S.2.1 d_L_166 rfl (lv_at hl 1 rfl) ?_
    refine lv_iload S.1 S.2.1 d_L_167 (lv_at hl 5 rfl) ?_
    refine lv_iconst (v := (3 : Int32)) S.1 S.2.1 d_L_169 rfl ?_
    refine lv_iadd S.1 S.2.1 d_L_170 ?_
    refine sl_at 3 S hX hbl hbA hL I.2.2 rfl (by omega) d_L_171 ?_
    refine callF_rwi (w0 := wC ac cA _) (w2 := oW ao cA _) (wf := wM am cA) S (c_Mo_term l D am cA _ _ _ _ _ h) (mkV S.2.2.2.2 ml_Lw_72 k_Mo_term rfl rfl ⟨Nat.le_of_ble_eq_true rfl, Nat.le_of_ble_eq_true rfl⟩) (rv_Mo hK (ap_P1 (ap_P2 I.1))) hK hA I hl.1 rfl rfl (Nat.le_of_ble_eq_true rfl) d_L_172 ⟨by show _ ≤ 1097; omega, by show _ ≤ 26642; omega⟩ (fun b6 mo172 H locs h I => ?_)
    refine lv_istore (lv' := [(6, .int b6), (5, .int (0 : Int32)), (0, .ref b), (1, .ref (ac 0)), (2, .ref (am 0)), (3, .ref ao), (4, .int (nI n))]) S.1 S.2.1 d_L_175 hl (by decide) rfl (fun ls hl => ?_)
    refine lv_aload_n S.1 S.2.1 d_L_177 rfl (lv_at hl 4 rfl) ?_
    refine callF_roi (w0 := wC ac cA _) (w2 := oW ao cA _) (wf := wM am cA) S (c_Mo_thrown l D am cA _ _ h) (mkV S.2.2.2.2 ml_Lw_73 k_Mo_thrown rfl rfl ⟨Nat.le_of_ble_eq_true rfl, Nat.le_of_ble_eq_true rfl⟩) (rv_Mo hK (ap_P1 (ap_P2 I.1))) hK I hl.1 rfl rfl (Nat.le_of_ble_eq_true rfl) d_L_178 ⟨by show _ ≤ 1097; omega, by show _ ≤ 26642; omega⟩ (fun t7 h => ?_)
    refine lv_iload S.1 S.2.1 d_L_181 (lv_at hl 1 rfl) ?_
    refine lv_icmp_eq (tgt := 188) S.1 S.2.1 d_L_183 (by decide) (fun hc => ?_) (fun hc => ?_)
    · refine lv_iload S.1 S.2.1 d_L_188 (lv_at hl 1 rfl) ?_
      refine lv_if_ne (tgt := 205) S.1 S.2.1 d_L_190 (by decide) (fun hd => ?_) (fun hd => ?_)
      · exact (hd rfl).elim
      · refine lv_aload_n S.1 S.2.1 d_L_193 rfl (lv_at hl 5 rfl) ?_
        refine lv_iconst (v := (0 : Int32)) S.1 S.2.1 d_L_194 rfl ?_
        refine l_out S hK (show gIn D A s (wA ac am ao cA) ((u.1, ru, au, re, la, sp, le), mo172, u.2) H locs from I) out_in d_L_195 ?_
        refine lv_iload S.1 S.2.1 d_L_196 (lv_at hl 0 rfl) ?_
        refine lv_i2l S.1 S.2.1 d_L_198 rfl ?_
        refine W.lcmp S.1 S.2.1 d_L_199 ?_
        refine lv_if_eq (tgt := 205) S.1 S.2.1 d_L_200 (by decide) (fun he => ?_) (fun he => ?_)
        · refine lv_goto (tgt := 1090) S.1 S.2.1 d_L_205 (by decide) ?_
          exact kk _ _ _ _ _ _ h.2.2 (lv_sub hl [2, 3, 4, 5, 6] rfl) I
        · exact (he ((lg_cmp_eq _ _).mpr (by rw [hf]; exact h.2.1))).elim
    · exact (hc h.1).elim
  · replace h := h.2
    refine lv_istore (lv' := [(5, .int (1 : Int32)), (0, .ref b), (1, .ref (ac 0)), (2, .ref (am 0)), (3, .ref ao), (4, .int (nI n))]) S.1 S.2.1 d_L_151 hl (by decide) rfl (fun ls hl => ?_)
    refine lv_aload_n S.1 S.2.1 d_L_153 rfl (lv_at hl 3 rfl) ?_
    refine lv_aload_n S.1 S.2.1 d_L_154 rfl (lv_at hl 1 rfl) ?_
    refine lv_iload S.1 S.2.1 d_L_155 (lv_at hl 5 rfl) ?_
    refine lv_iconst (v := (1 : Int32)) S.1 S.2.1 d_L_157 rfl ?_
    refine lv_iadd S.1 S.2.1 d_L_158 ?_
    refine sl_at 1 S hX hbl hbA hL I.2.2 rfl (by omega) d_L_159 ?_
    refine lv_aload_n S.1 S.2.1 d_L_160 rfl (lv_at hl 1 rfl) ?_
    refine lv_iload S.1 S.2.1 d_L_161 (lv_at hl 5 rfl) ?_
    refine lv_iconst (v := (2 : Int32)) S.1 S.2.1 d_L_163 rfl ?_
    refine lv_iadd S.1 S.2.1 d_L_164 ?_
    refine sl_at 2 S hX hbl hbA hL I.2.2 rfl (by omega) d_L_165 ?_
    refine lv_aload_n S.1 S.2.1 d_L_166 rfl (lv_at hl 1 rfl) ?_
    refine lv_iload S.1 S.2.1 d_L_167 (lv_at hl 5 rfl) ?_
    refine lv_iconst (v := (3 : Int32)) S.1 S.2.1 d_L_169 rfl ?_
    refine lv_iadd S.1 S.2.1 d_L_170 ?_
    refine sl_at 3 S hX hbl hbA hL I.2.2 rfl (by omega) d_L_171 ?_
    refine callF_rwi (w0 := wC ac cA _) (w2 := oW ao cA _) (wf := wM am cA) S (c_Mo_term l D am cA _ _ _ _ _ h) (mkV S.2.2.2.2 ml_Lw_72 k_Mo_term rfl rfl ⟨Nat.le_of_ble_eq_true rfl, Nat.le_of_ble_eq_true rfl⟩) (rv_Mo hK (ap_P1 (ap_P2 I.1))) hK hA I hl.1 rfl rfl (Nat.le_of_ble_eq_true rfl) d_L_172 ⟨by show _ ≤ 1097; omega, by show _ ≤ 26642; omega⟩ (fun b6 mo172 H locs h I => ?_)
    refine lv_istore (lv' := [(6, .int b6), (5, .int (1 : Int32)), (0, .ref b), (1, .ref (ac 0)), (2, .ref (am 0)), (3, .ref ao), (4, .int (nI n))]) S.1 S.2.1 d_L_175 hl (by decide) rfl (fun ls hl => ?_)
    refine lv_aload_n S.1 S.2.1 d_L_177 rfl (lv_at hl 4 rfl) ?_
    refine callF_roi (w0 := wC ac cA _) (w2 := oW ao cA _) (wf := wM am cA) S (c_Mo_thrown l D am cA _ _ h) (mkV S.2.2.2.2 ml_Lw_73 k_Mo_thrown rfl rfl ⟨Nat.le_of_ble_eq_true rfl, Nat.le_of_ble_eq_true rfl⟩) (rv_Mo hK (ap_P1 (ap_P2 I.1))) hK I hl.1 rfl rfl (Nat.le_of_ble_eq_true rfl) d_L_178 ⟨by show _ ≤ 1097; omega, by show _ ≤ 26642; omega⟩ (fun t7 h => ?_)
    refine lv_iload S.1 S.2.1 d_L_181 (lv_at hl 1 rfl) ?_
    refine lv_icmp_eq (tgt := 188) S.1 S.2.1 d_L_183 (by decide) (fun hc => ?_) (fun hc => ?_)
    · refine lv_iload S.1 S.2.1 d_L_188 (lv_at hl 1 rfl) ?_
      refine lv_if_ne (tgt := 205) S.1 S.2.1 d_L_190 (by decide) (fun hd => ?_) (fun hd => ?_)
      · refine lv_goto (tgt := 1090) S.1 S.2.1 d_L_205 (by decide) ?_
        exact kk _ _ _ _ _ _ h.2 (lv_sub hl [2, 3, 4, 5, 6] rfl) I
      · exact absurd hd (by decide)
    · exact (hc (h.1.trans (by decide))).elim
  · replace h := h.2
    refine lv_istore (lv' := [(5, .int (2 : Int32)), (0, .ref b), (1, .ref (ac 0)), (2, .ref (am 0)), (3, .ref ao), (4, .int (nI n))]) S.1 S.2.1 d_L_151 hl (by decide) rfl (fun ls hl => ?_)
    refine lv_aload_n S.1 S.2.1 d_L_153 rfl (lv_at hl 3 rfl) ?_
    refine lv_aload_n S.1 S.2.1 d_L_154 rfl (lv_at hl 1 rfl) ?_
    refine lv_iload S.1 S.2.1 d_L_155 (lv_at hl 5 rfl) ?_
    refine lv_iconst (v := (1 : Int32)) S.1 S.2.1 d_L_157 rfl ?_
    refine lv_iadd S.1 S.2.1 d_L_158 ?_
    refine sl_at 1 S hX hbl hbA hL I.2.2 rfl (by omega) d_L_159 ?_
    refine lv_aload_n S.1 S.2.1 d_L_160 rfl (lv_at hl 1 rfl) ?_
    refine lv_iload S.1 S.2.1 d_L_161 (lv_at hl 5 rfl) ?_
    refine lv_iconst (v := (2 : Int32)) S.1 S.2.1 d_L_163 rfl ?_
    refine lv_iadd S.1 S.2.1 d_L_164 ?_
    refine sl_at 2 S hX hbl hbA hL I.2.2 rfl (by omega) d_L_165 ?_
    refine lv_aload_n S.1 S.2.1 d_L_166 rfl (lv_at hl 1 rfl) ?_
    refine lv_iload S.1 S.2.1 d_L_167 (lv_at hl 5 rfl) ?_
    refine lv_iconst (v := (3 : Int32)) S.1 S.2.1 d_L_169 rfl ?_
    refine lv_iadd S.1 S.2.1 d_L_170 ?_
    refine sl_at 3 S hX hbl hbA hL I.2.2 rfl (by omega) d_L_171 ?_
    refine callF_rwi (w0 := wC ac cA _) (w2 := oW ao cA _) (wf := wM am cA) S (c_Mo_term l D am cA _ _ _ _ _ h) (mkV S.2.2.2.2 ml_Lw_72 k_Mo_term rfl rfl ⟨Nat.le_of_ble_eq_true rfl, Nat.le_of_ble_eq_true rfl⟩) (rv_Mo hK (ap_P1 (ap_P2 I.1))) hK hA I hl.1 rfl rfl (Nat.le_of_ble_eq_true rfl) d_L_172 ⟨by show _ ≤ 1097; omega, by show _ ≤ 26642; omega⟩ (fun b6 mo172 H locs h I => ?_)
    refine lv_istore (lv' := [(6, .int b6), (5, .int (2 : Int32)), (0, .ref b), (1, .ref (ac 0)), (2, .ref (am 0)), (3, .ref ao), (4, .int (nI n))]) S.1 S.2.1 d_L_175 hl (by decide) rfl (fun ls hl => ?_)
    refine lv_aload_n S.1 S.2.1 d_L_177 rfl (lv_at hl 4 rfl) ?_
    refine callF_roi (w0 := wC ac cA _) (w2 := oW ao cA _) (wf := wM am cA) S (c_Mo_thrown l D am cA _ _ h) (mkV S.2.2.2.2 ml_Lw_73 k_Mo_thrown rfl rfl ⟨Nat.le_of_ble_eq_true rfl, Nat.le_of_ble_eq_true rfl⟩) (rv_Mo hK (ap_P1 (ap_P2 I.1))) hK I hl.1 rfl rfl (Nat.le_of_ble_eq_true rfl) d_L_178 ⟨by show _ ≤ 1097; omega, by show _ ≤ 26642; omega⟩ (fun t7 h => ?_)
    refine lv_iload S.1 S.2.1 d_L_181 (lv_at hl 1 rfl) ?_
    refine lv_icmp_eq (tgt := 188) S.1 S.2.1 d_L_183 (by decide) (fun hc => ?_) (fun hc => ?_)
    · refine lv_iload S.1 S.2.1 d_L_188 (lv_at hl 1 rfl) ?_
      refine lv_if_ne (tgt := 205) S.1 S.2.1 d_L_190 (by decide) (fun hd => ?_) (fun hd => ?_)
      · refine lv_goto (tgt := 1090) S.1 S.2.1 d_L_205 (by decide) ?_
        exact kk _ _ _ _ _ _ h.2 (lv_sub hl [2, 3, 4, 5, 6] rfl) I
      · exact absurd hd (by decide)
    · exact (hc (h.1.trans (by decide))).elim
set_option maxHeartbeats 4000000 in
set_option maxRecDepth 100000 in
theorem cs_1 {p : Program} {l : Launch} {e : Env} {s : State} {m : MethodId} {below : List Frame} {meth : Method} {c : Code} {Q : State → Prop} {D : va_G} {A : Nat → Prop} {ac am : Nat → Nat} {ao b L n cells slots : Nat} {xs : Nat → Int32} {cA : ClassId × ClassId × ClassId} {te : Te} {ru : Ru} {au : Au} {re : Re} {la : La} {sp : Sp} {le : Le} {mo : Mo} {f : Nat → Int64} {K : StC → Mo → Prop} {H : Heap} {locs : List Loc} {ls : Array Slot} (S : CallFix p m c code 7 s #[Value.ref b] gtbl R_Lw) (hlt : l.stackTraces = false) (hK : gK D (tyA cA) s) (hA : ∀ q : Nat, s.heap.size ≤ q → A q) (hbA : ¬ A b) (tx : tX A s s.heap) (hX : va_X b L xs s s.heap) (hbl : b < s.heap.size) (hL : L ≤ 2561) (hn : n + 5 ≤ L) (hcl : cells + 1 ≤ 1097) (hsl : slots + 6 ≤ 26642) (h : ls_1 (xs (n + 1)) (xs (n + 2)) (xs (n + 3)) (xs (n + 4)) te ru au re la sp le mo K) (hl : lv_has ls 7 [(0, .ref b), (1, .ref (ac 0)), (2, .ref (am 0)), (3, .ref ao), (4, .int (nI n))]) (I : gIn D A s (wA ac am ao cA) ((te, ru, au, re, la, sp, le), mo, f) H locs) (kk : ∀ (sc : StC) (mo : Mo) (f : Nat → Int64) (ls : Array Slot) (H : Heap) (locs : List Loc), K sc mo → lv_has ls 7 [(0, .ref b), (1, .ref (ac 0)), (2, .ref (am 0)), (3, .ref ao), (4, .int (nI n))] → gIn D A s (wA ac am ao cA) (sc, mo, f) H locs → W p l e room_1 s m #[Value.ref b] below meth c H locs (cells + 1) (slots + 6) Q (F0 m 1090 ls [])) : W p l e room_1 s m #[Value.ref b] below meth c H locs cells slots Q (F0 m 208 ls []) := by
  refine lv_aload_n S.1 S.2.1 d_L_208 rfl (lv_at hl 1 rfl) ?_
  refine lv_aload_n S.1 S.2.1 d_L_209 rfl (lv_at hl 0 rfl) ?_
  refine lv_iload S.1 S.2.1 d_L_210 (lv_at hl 4 rfl) ?_
  refine lv_iconst (v := (1 : Int32)) S.1 S.2.1 d_L_212 rfl ?_
  refine lv_iadd S.1 S.2.1 d_L_213 ?_
  refine sl_at 1 S hX hbl hbA hL I.2.2 rfl (by omega) d_L_214 ?_
  refine lv_aload_n S.1 S.2.1 d_L_215 rfl (lv_at hl 0 rfl) ?_
  refine lv_iload S.1 S.2.1 d_L_216 (lv_at hl 4 rfl) ?_
  refine lv_iconst (v := (2 : Int32)) S.1 S.2.1 d_L_218 rfl ?_
  refine lv_iadd S.1 S.2.1 d_L_219 ?_
  refine sl_at 2 S hX hbl hbA hL I.2.2 rfl (by omega) d_L_220 ?_
  refine callF_rwi (w0 := []) (w2 := wM am cA mo ++ oW ao cA f) (wf := wC ac cA) S (c_Gr_of l D ac cA _ _ _ _ _ _ _ _ _ _ h) (mkV S.2.2.2.2 ml_Lw_77 k_Gr_of rfl rfl ⟨Nat.le_of_ble_eq_true rfl, Nat.le_of_ble_eq_true rfl⟩) (rv_Gr hK (ap_P1 I.1)) hK hA I hl.1 rfl rfl (Nat.le_of_ble_eq_true rfl) d_L_221 ⟨by show _ ≤ 1097; omega, by show _ ≤ 26642; omega⟩ (fun r u H locs h I => ?_)
  refine lv_aload_n S.1 S.2.1 d_L_224 rfl (lv_at hl 2 rfl) ?_
  refine lv_aload_n S.1 S.2.1 d_L_225 rfl (lv_at hl 0 rfl) ?_
  refine lv_iload S.1 S.2.1 d_L_226 (lv_at hl 4 rfl) ?_
  refine lv_iconst (v := (1 : Int32)) S.1 S.2.1 d_L_228 rfl ?_
  refine lv_iadd S.1 S.2.1 d_L_229 ?_
  refine sl_at 1 S hX hbl hbA hL I.2.2 rfl (by omega) d_L_230 ?_
  refine lv_aload_n S.1 S.2.1 d_L_231 rfl (lv_at hl 0 rfl) ?_
  refine lv_iload S.1 S.2.1 d_L_232 (lv_at hl 4 rfl) ?_
  refine lv_iconst (v := (2 : Int32)) S.1 S.2.1 d_L_234 rfl ?_
  refine lv_iadd S.1 S.2.1 d_L_235 ?_
  refine sl_at 2 S hX hbl hbA hL I.2.2 rfl (by omega) d_L_236 ?_
  refine callF_rwi (w0 := wC ac cA _) (w2 := oW ao cA _) (wf := wM am cA) S (c_Mo_of l D am cA _ _ _ _ h) (mkV S.2.2.2.2 ml_Lw_80 k_Mo_of rfl rfl ⟨Nat.le_of_ble_eq_true rfl, Nat.le_of_ble_eq_true rfl⟩) (rv_Mo hK (ap_P1 (ap_P2 I.1))) hK hA I hl.1 rfl rfl (Nat.le_of_ble_eq_true rfl) d_L_237 ⟨by show _ ≤ 1097; omega, by show _ ≤ 26642; omega⟩ (fun b6 mo237 H locs h I => ?_)
  refine lv_icmp_eq (tgt := 1090) S.1 S.2.1 d_L_240 (by decide) (fun hc => ?_) (fun hc => ?_)
  · refine W.widen (k := cells + 1) (n := slots + 6) (by omega) (by omega) ?_
    exact kk _ _ _ _ _ _ h.2 (lv_sub hl [0, 1, 2, 3, 4] rfl) I
  · exact (hc h.1).elim
set_option maxHeartbeats 4000000 in
set_option maxRecDepth 100000 in
theorem cs_2 {p : Program} {l : Launch} {e : Env} {s : State} {m : MethodId} {below : List Frame} {meth : Method} {c : Code} {Q : State → Prop} {D : va_G} {A : Nat → Prop} {ac am : Nat → Nat} {ao b L n cells slots : Nat} {xs : Nat → Int32} {cA : ClassId × ClassId × ClassId} {te : Te} {ru : Ru} {au : Au} {re : Re} {la : La} {sp : Sp} {le : Le} {mo : Mo} {f : Nat → Int64} {K : StC → Mo → Prop} {H : Heap} {locs : List Loc} {ls : Array Slot} (S : CallFix p m c code 7 s #[Value.ref b] gtbl R_Lw) (hlt : l.stackTraces = false) (hK : gK D (tyA cA) s) (hA : ∀ q : Nat, s.heap.size ≤ q → A q) (hbA : ¬ A b) (tx : tX A s s.heap) (hX : va_X b L xs s s.heap) (hbl : b < s.heap.size) (hL : L ≤ 2561) (hn : n + 5 ≤ L) (hcl : cells + 1 ≤ 1097) (hsl : slots + 6 ≤ 26642) (h : ls_2 (xs (n + 1)) (xs (n + 2)) (xs (n + 3)) (xs (n + 4)) te ru au re la sp le mo K) (hl : lv_has ls 7 [(0, .ref b), (1, .ref (ac 0)), (2, .ref (am 0)), (3, .ref ao), (4, .int (nI n))]) (I : gIn D A s (wA ac am ao cA) ((te, ru, au, re, la, sp, le), mo, f) H locs) (kk : ∀ (sc : StC) (mo : Mo) (f : Nat → Int64) (ls : Array Slot) (H : Heap) (locs : List Loc), K sc mo → lv_has ls 7 [(0, .ref b), (1, .ref (ac 0)), (2, .ref (am 0)), (3, .ref ao), (4, .int (nI n))] → gIn D A s (wA ac am ao cA) (sc, mo, f) H locs → W p l e room_1 s m #[Value.ref b] below meth c H locs (cells + 1) (slots + 6) Q (F0 m 1090 ls [])) : W p l e room_1 s m #[Value.ref b] below meth c H locs cells slots Q (F0 m 245 ls []) := by
  refine lv_aload_n S.1 S.2.1 d_L_245 rfl (lv_at hl 1 rfl) ?_
  refine lv_aload_n S.1 S.2.1 d_L_246 rfl (lv_at hl 0 rfl) ?_
  refine lv_iload S.1 S.2.1 d_L_247 (lv_at hl 4 rfl) ?_
  refine lv_iconst (v := (1 : Int32)) S.1 S.2.1 d_L_249 rfl ?_
  refine lv_iadd S.1 S.2.1 d_L_250 ?_
  refine sl_at 1 S hX hbl hbA hL I.2.2 rfl (by omega) d_L_251 ?_
  refine lv_aload_n S.1 S.2.1 d_L_252 rfl (lv_at hl 0 rfl) ?_
  refine lv_iload S.1 S.2.1 d_L_253 (lv_at hl 4 rfl) ?_
  refine lv_iconst (v := (2 : Int32)) S.1 S.2.1 d_L_255 rfl ?_
  refine lv_iadd S.1 S.2.1 d_L_256 ?_
  refine sl_at 2 S hX hbl hbA hL I.2.2 rfl (by omega) d_L_257 ?_
  refine lv_aload_n S.1 S.2.1 d_L_258 rfl (lv_at hl 3 rfl) ?_
  refine callS_hw (n := 4) S (c_Lw_rule l hlt D ac am ao cA te ru au re la sp le mo f (xs (n + 1)) (xs (n + 2)) _ _ (fun E _ h9 => h9.1) h) ml_Lw_81 sw_Lw_rule in_Lw cw_Lw_rule ⟨by decide, by decide, by decide +kernel⟩ rfl rfl ⟨Nat.le_of_ble_eq_true rfl, Nat.le_of_ble_eq_true rfl⟩ hK hA tx I hl.1 rfl rfl (Nat.le_of_ble_eq_true rfl) d_L_259 ⟨hcl, hsl⟩ (fun k u H locs hk I => ?_)
  rcases hk with ⟨rfl, r, h, hf⟩ | ⟨rfl, h, hf⟩ | ⟨rfl, h, hf⟩
  · refine lv_istore (lv' := [(5, .int (0 : Int32)), (0, .ref b), (1, .ref (ac 0)), (2, .ref (am 0)), (3, .ref ao), (4, .int (nI n))]) S.1 S.2.1 d_L_262 hl (by decide) rfl (fun ls hl => ?_)
    refine lv_aload_n S.1 S.2.1 d_L_264 rfl (lv_at hl 3 rfl) ?_
    refine lv_aload_n S.1 S.2.1 d_L_265 rfl (lv_at hl 1 rfl) ?_
    refine lv_iload S.1 S.2.1 d_L_266 (lv_at hl 5 rfl) ?_
    refine lv_iconst (v := (1 : Int32)) S.1 S.2.1 d_L_268 rfl ?_
    refine lv_iadd S.1 S.2.1 d_L_269 ?_
    refine sl_at 1 S hX hbl hbA hL I.2.2 rfl (by omega) d_L_270 ?_
    refine lv_aload_n S.1 S.2.1 d_L_271 rfl (lv_at hl 1 rfl) ?_
    refine lv_iload S.1 S.2.1 d_L_272 (lv_at hl 5 rfl) ?_
    refine lv_iconst (v := (2 : Int32)) S.1 S.2.1 d_L_274 rfl ?_
    refine lv_iadd S.1 S.2.1 d_L_275 ?_
    refine sl_at 2 S hX hbl hbA hL I.2.2 rfl (by omega) d_L_276 ?_
    refine callF_rwi (w0 := wC ac cA _) (w2 := oW ao cA _) (wf := wM am cA) S (c_Mo_rule l D am cA _ _ _ _ h) (mkV S.2.2.2.2 ml_Lw_84 k_Mo_rule rfl rfl ⟨Nat.le_of_ble_eq_true rfl, Nat.le_of_ble_eq_true rfl⟩) (rv_Mo hK (ap_P1 (ap_P2 I.1))) hK hA I hl.1 rfl rfl (Nat.le_of_ble_eq_true rfl) d_L_277 ⟨by show _ ≤ 1097; omega, by show _ ≤ 26642; omega⟩ (fun b6 mo277 H locs h I => ?_)
    refine lv_istore (lv' := [(6, .int b6), (5, .int (0 : Int32)), (0, .ref b), (1, .ref (ac 0)), (2, .ref (am 0)), (3, .ref ao), (4, .int (nI n))]) S.1 S.2.1 d_L_280 hl (by decide) rfl (fun ls hl => ?_)
    refine lv_aload_n S.1 S.2.1 d_L_282 rfl (lv_at hl 4 rfl) ?_
    refine callF_roi (w0 := wC ac cA _) (w2 := oW ao cA _) (wf := wM am cA) S (c_Mo_thrown l D am cA _ _ h) (mkV S.2.2.2.2 ml_Lw_73 k_Mo_thrown rfl rfl ⟨Nat.le_of_ble_eq_true rfl, Nat.le_of_ble_eq_true rfl⟩) (rv_Mo hK (ap_P1 (ap_P2 I.1))) hK I hl.1 rfl rfl (Nat.le_of_ble_eq_true rfl) d_L_283 ⟨by show _ ≤ 1097; omega, by show _ ≤ 26642; omega⟩ (fun t7 h => ?_)
    refine lv_iload S.1 S.2.1 d_L_286 (lv_at hl 1 rfl) ?_
    refine lv_icmp_eq (tgt := 293) S.1 S.2.1 d_L_288 (by decide) (fun hc => ?_) (fun hc => ?_)
    · refine lv_iload S.1 S.2.1 d_L_293 (lv_at hl 1 rfl) ?_
      refine lv_if_ne (tgt := 310) S.1 S.2.1 d_L_295 (by decide) (fun hd => ?_) (fun hd => ?_)
      · exact (hd rfl).elim
      · refine lv_aload_n S.1 S.2.1 d_L_298 rfl (lv_at hl 5 rfl) ?_
        refine lv_iconst (v := (0 : Int32)) S.1 S.2.1 d_L_299 rfl ?_
        refine l_out S hK (show gIn D A s (wA ac am ao cA) ((te, u.1, au, re, la, sp, le), mo277, u.2) H locs from I) out_in d_L_300 ?_
        refine lv_iload S.1 S.2.1 d_L_301 (lv_at hl 0 rfl) ?_
        refine lv_i2l S.1 S.2.1 d_L_303 rfl ?_
        refine W.lcmp S.1 S.2.1 d_L_304 ?_
        refine lv_if_eq (tgt := 310) S.1 S.2.1 d_L_305 (by decide) (fun he => ?_) (fun he => ?_)
        · refine lv_goto (tgt := 1090) S.1 S.2.1 d_L_310 (by decide) ?_
          exact kk _ _ _ _ _ _ h.2.2 (lv_sub hl [2, 3, 4, 5, 6] rfl) I
        · exact (he ((lg_cmp_eq _ _).mpr (by rw [hf]; exact h.2.1))).elim
    · exact (hc h.1).elim
  · replace h := h.2
    refine lv_istore (lv' := [(5, .int (1 : Int32)), (0, .ref b), (1, .ref (ac 0)), (2, .ref (am 0)), (3, .ref ao), (4, .int (nI n))]) S.1 S.2.1 d_L_262 hl (by decide) rfl (fun ls hl => ?_)
    refine lv_aload_n S.1 S.2.1 d_L_264 rfl (lv_at hl 3 rfl) ?_
    refine lv_aload_n S.1 S.2.1 d_L_265 rfl (lv_at hl 1 rfl) ?_
    refine lv_iload S.1 S.2.1 d_L_266 (lv_at hl 5 rfl) ?_
    refine lv_iconst (v := (1 : Int32)) S.1 S.2.1 d_L_268 rfl ?_
    refine lv_iadd S.1 S.2.1 d_L_269 ?_
    refine sl_at 1 S hX hbl hbA hL I.2.2 rfl (by omega) d_L_270 ?_
    refine lv_aload_n S.1 S.2.1 d_L_271 rfl (lv_at hl 1 rfl) ?_
    refine lv_iload S.1 S.2.1 d_L_272 (lv_at hl 5 rfl) ?_
    refine lv_iconst (v := (2 : Int32)) S.1 S.2.1 d_L_274 rfl ?_
    refine lv_iadd S.1 S.2.1 d_L_275 ?_
    refine sl_at 2 S hX hbl hbA hL I.2.2 rfl (by omega) d_L_276 ?_
    refine callF_rwi (w0 := wC ac cA _) (w2 := oW ao cA _) (wf := wM am cA) S (c_Mo_rule l D am cA _ _ _ _ h) (mkV S.2.2.2.2 ml_Lw_84 k_Mo_rule rfl rfl ⟨Nat.le_of_ble_eq_true rfl, Nat.le_of_ble_eq_true rfl⟩) (rv_Mo hK (ap_P1 (ap_P2 I.1))) hK hA I hl.1 rfl rfl (Nat.le_of_ble_eq_true rfl) d_L_277 ⟨by show _ ≤ 1097; omega, by show _ ≤ 26642; omega⟩ (fun b6 mo277 H locs h I => ?_)
    refine lv_istore (lv' := [(6, .int b6), (5, .int (1 : Int32)), (0, .ref b), (1, .ref (ac 0)), (2, .ref (am 0)), (3, .ref ao), (4, .int (nI n))]) S.1 S.2.1 d_L_280 hl (by decide) rfl (fun ls hl => ?_)
    refine lv_aload_n S.1 S.2.1 d_L_282 rfl (lv_at hl 4 rfl) ?_
    refine callF_roi (w0 := wC ac cA _) (w2 := oW ao cA _) (wf := wM am cA) S (c_Mo_thrown l D am cA _ _ h) (mkV S.2.2.2.2 ml_Lw_73 k_Mo_thrown rfl rfl ⟨Nat.le_of_ble_eq_true rfl, Nat.le_of_ble_eq_true rfl⟩) (rv_Mo hK (ap_P1 (ap_P2 I.1))) hK I hl.1 rfl rfl (Nat.le_of_ble_eq_true rfl) d_L_283 ⟨by show _ ≤ 1097; omega, by show _ ≤ 26642; omega⟩ (fun t7 h => ?_)
    refine lv_iload S.1 S.2.1 d_L_286 (lv_at hl 1 rfl) ?_
    refine lv_icmp_eq (tgt := 293) S.1 S.2.1 d_L_288 (by decide) (fun hc => ?_) (fun hc => ?_)
    · refine lv_iload S.1 S.2.1 d_L_293 (lv_at hl 1 rfl) ?_
      refine lv_if_ne (tgt := 310) S.1 S.2.1 d_L_295 (by decide) (fun hd => ?_) (fun hd => ?_)
      · refine lv_goto (tgt := 1090) S.1 S.2.1 d_L_310 (by decide) ?_
        exact kk _ _ _ _ _ _ h.2 (lv_sub hl [2, 3, 4, 5, 6] rfl) I
      · exact absurd hd (by decide)
    · exact (hc (h.1.trans (by decide))).elim
  · replace h := h.2
    refine lv_istore (lv' := [(5, .int (2 : Int32)), (0, .ref b), (1, .ref (ac 0)), (2, .ref (am 0)), (3, .ref ao), (4, .int (nI n))]) S.1 S.2.1 d_L_262 hl (by decide) rfl (fun ls hl => ?_)
    refine lv_aload_n S.1 S.2.1 d_L_264 rfl (lv_at hl 3 rfl) ?_
    refine lv_aload_n S.1 S.2.1 d_L_265 rfl (lv_at hl 1 rfl) ?_
    refine lv_iload S.1 S.2.1 d_L_266 (lv_at hl 5 rfl) ?_
    refine lv_iconst (v := (1 : Int32)) S.1 S.2.1 d_L_268 rfl ?_
    refine lv_iadd S.1 S.2.1 d_L_269 ?_
    refine sl_at 1 S hX hbl hbA hL I.2.2 rfl (by omega) d_L_270 ?_
    refine lv_aload_n S.1 S.2.1 d_L_271 rfl (lv_at hl 1 rfl) ?_
    refine lv_iload S.1 S.2.1 d_L_272 (lv_at hl 5 rfl) ?_
    refine lv_iconst (v := (2 : Int32)) S.1 S.2.1 d_L_274 rfl ?_
    refine lv_iadd S.1 S.2.1 d_L_275 ?_
    refine sl_at 2 S hX hbl hbA hL I.2.2 rfl (by omega) d_L_276 ?_
    refine callF_rwi (w0 := wC ac cA _) (w2 := oW ao cA _) (wf := wM am cA) S (c_Mo_rule l D am cA _ _ _ _ h) (mkV S.2.2.2.2 ml_Lw_84 k_Mo_rule rfl rfl ⟨Nat.le_of_ble_eq_true rfl, Nat.le_of_ble_eq_true rfl⟩) (rv_Mo hK (ap_P1 (ap_P2 I.1))) hK hA I hl.1 rfl rfl (Nat.le_of_ble_eq_true rfl) d_L_277 ⟨by show _ ≤ 1097; omega, by show _ ≤ 26642; omega⟩ (fun b6 mo277 H locs h I => ?_)
    refine lv_istore (lv' := [(6, .int b6), (5, .int (2 : Int32)), (0, .ref b), (1, .ref (ac 0)), (2, .ref (am 0)), (3, .ref ao), (4, .int (nI n))]) S.1 S.2.1 d_L_280 hl (by decide) rfl (fun ls hl => ?_)
    refine lv_aload_n S.1 S.2.1 d_L_282 rfl (lv_at hl 4 rfl) ?_
    refine callF_roi (w0 := wC ac cA _) (w2 := oW ao cA _) (wf := wM am cA) S (c_Mo_thrown l D am cA _ _ h) (mkV S.2.2.2.2 ml_Lw_73 k_Mo_thrown rfl rfl ⟨Nat.le_of_ble_eq_true rfl, Nat.le_of_ble_eq_true rfl⟩) (rv_Mo hK (ap_P1 (ap_P2 I.1))) hK I hl.1 rfl rfl (Nat.le_of_ble_eq_true rfl) d_L_283 ⟨by show _ ≤ 1097; omega, by show _ ≤ 26642; omega⟩ (fun t7 h => ?_)
    refine lv_iload S.1 S.2.1 d_L_286 (lv_at hl 1 rfl) ?_
    refine lv_icmp_eq (tgt := 293) S.1 S.2.1 d_L_288 (by decide) (fun hc => ?_) (fun hc => ?_)
    · refine lv_iload S.1 S.2.1 d_L_293 (lv_at hl 1 rfl) ?_
      refine lv_if_ne (tgt := 310) S.1 S.2.1 d_L_295 (by decide) (fun hd => ?_) (fun hd => ?_)
      · refine lv_goto (tgt := 1090) S.1 S.2.1 d_L_310 (by decide) ?_
        exact kk _ _ _ _ _ _ h.2 (lv_sub hl [2, 3, 4, 5, 6] rfl) I
      · exact absurd hd (by decide)
    · exact (hc (h.1.trans (by decide))).elim
set_option maxHeartbeats 4000000 in
set_option maxRecDepth 100000 in
theorem cs_3 {p : Program} {l : Launch} {e : Env} {s : State} {m : MethodId} {below : List Frame} {meth : Method} {c : Code} {Q : State → Prop} {D : va_G} {A : Nat → Prop} {ac am : Nat → Nat} {ao b L n cells slots : Nat} {xs : Nat → Int32} {cA : ClassId × ClassId × ClassId} {te : Te} {ru : Ru} {au : Au} {re : Re} {la : La} {sp : Sp} {le : Le} {mo : Mo} {f : Nat → Int64} {K : StC → Mo → Prop} {H : Heap} {locs : List Loc} {ls : Array Slot} (S : CallFix p m c code 7 s #[Value.ref b] gtbl R_Lw) (hlt : l.stackTraces = false) (hK : gK D (tyA cA) s) (hA : ∀ q : Nat, s.heap.size ≤ q → A q) (hbA : ¬ A b) (tx : tX A s s.heap) (hX : va_X b L xs s s.heap) (hbl : b < s.heap.size) (hL : L ≤ 2561) (hn : n + 5 ≤ L) (hcl : cells + 1 ≤ 1097) (hsl : slots + 6 ≤ 26642) (h : ls_3 (xs (n + 1)) (xs (n + 2)) (xs (n + 3)) (xs (n + 4)) te ru au re la sp le mo K) (hl : lv_has ls 7 [(0, .ref b), (1, .ref (ac 0)), (2, .ref (am 0)), (3, .ref ao), (4, .int (nI n))]) (I : gIn D A s (wA ac am ao cA) ((te, ru, au, re, la, sp, le), mo, f) H locs) (kk : ∀ (sc : StC) (mo : Mo) (f : Nat → Int64) (ls : Array Slot) (H : Heap) (locs : List Loc), K sc mo → lv_has ls 7 [(0, .ref b), (1, .ref (ac 0)), (2, .ref (am 0)), (3, .ref ao), (4, .int (nI n))] → gIn D A s (wA ac am ao cA) (sc, mo, f) H locs → W p l e room_1 s m #[Value.ref b] below meth c H locs (cells + 1) (slots + 6) Q (F0 m 1090 ls [])) : W p l e room_1 s m #[Value.ref b] below meth c H locs cells slots Q (F0 m 313 ls []) := by
  refine lv_aload_n S.1 S.2.1 d_L_313 rfl (lv_at hl 1 rfl) ?_
  refine callF_rwi (w0 := []) (w2 := wM am cA mo ++ oW ao cA f) (wf := wC ac cA) S (c_Gr_cut l D ac cA _ _ _ _ _ _ _ _ h) (mkV S.2.2.2.2 ml_Lw_85 k_Gr_cut rfl rfl ⟨Nat.le_of_ble_eq_true rfl, Nat.le_of_ble_eq_true rfl⟩) (rv_Gr hK (ap_P1 I.1)) hK hA I hl.1 rfl rfl (Nat.le_of_ble_eq_true rfl) d_L_314 ⟨by show _ ≤ 1097; omega, by show _ ≤ 26642; omega⟩ (fun r u H locs h I => ?_)
  refine lv_aload_n S.1 S.2.1 d_L_317 rfl (lv_at hl 2 rfl) ?_
  refine callF_rwi (w0 := wC ac cA _) (w2 := oW ao cA _) (wf := wM am cA) S (c_Mo_cut l D am cA _ _ h) (mkV S.2.2.2.2 ml_Lw_89 k_Mo_cut rfl rfl ⟨Nat.le_of_ble_eq_true rfl, Nat.le_of_ble_eq_true rfl⟩) (rv_Mo hK (ap_P1 (ap_P2 I.1))) hK hA I hl.1 rfl rfl (Nat.le_of_ble_eq_true rfl) d_L_318 ⟨by show _ ≤ 1097; omega, by show _ ≤ 26642; omega⟩ (fun b6 mo318 H locs h I => ?_)
  refine lv_icmp_eq (tgt := 1090) S.1 S.2.1 d_L_321 (by decide) (fun hc => ?_) (fun hc => ?_)
  · refine W.widen (k := cells + 1) (n := slots + 6) (by omega) (by omega) ?_
    exact kk _ _ _ _ _ _ h.2 (lv_sub hl [0, 1, 2, 3, 4] rfl) I
  · exact (hc h.1).elim
set_option maxHeartbeats 4000000 in
set_option maxRecDepth 100000 in
theorem cs_4 {p : Program} {l : Launch} {e : Env} {s : State} {m : MethodId} {below : List Frame} {meth : Method} {c : Code} {Q : State → Prop} {D : va_G} {A : Nat → Prop} {ac am : Nat → Nat} {ao b L n cells slots : Nat} {xs : Nat → Int32} {cA : ClassId × ClassId × ClassId} {te : Te} {ru : Ru} {au : Au} {re : Re} {la : La} {sp : Sp} {le : Le} {mo : Mo} {f : Nat → Int64} {K : StC → Mo → Prop} {H : Heap} {locs : List Loc} {ls : Array Slot} (S : CallFix p m c code 7 s #[Value.ref b] gtbl R_Lw) (hlt : l.stackTraces = false) (hK : gK D (tyA cA) s) (hA : ∀ q : Nat, s.heap.size ≤ q → A q) (hbA : ¬ A b) (tx : tX A s s.heap) (hX : va_X b L xs s s.heap) (hbl : b < s.heap.size) (hL : L ≤ 2561) (hn : n + 5 ≤ L) (hcl : cells + 1 ≤ 1097) (hsl : slots + 6 ≤ 26642) (h : ls_4 (xs (n + 1)) (xs (n + 2)) (xs (n + 3)) (xs (n + 4)) te ru au re la sp le mo K) (hl : lv_has ls 7 [(0, .ref b), (1, .ref (ac 0)), (2, .ref (am 0)), (3, .ref ao), (4, .int (nI n))]) (I : gIn D A s (wA ac am ao cA) ((te, ru, au, re, la, sp, le), mo, f) H locs) (kk : ∀ (sc : StC) (mo : Mo) (f : Nat → Int64) (ls : Array Slot) (H : Heap) (locs : List Loc), K sc mo → lv_has ls 7 [(0, .ref b), (1, .ref (ac 0)), (2, .ref (am 0)), (3, .ref ao), (4, .int (nI n))] → gIn D A s (wA ac am ao cA) (sc, mo, f) H locs → W p l e room_1 s m #[Value.ref b] below meth c H locs (cells + 1) (slots + 6) Q (F0 m 1090 ls [])) : W p l e room_1 s m #[Value.ref b] below meth c H locs cells slots Q (F0 m 326 ls []) := by
  refine lv_aload_n S.1 S.2.1 d_L_326 rfl (lv_at hl 1 rfl) ?_
  refine lv_aload_n S.1 S.2.1 d_L_327 rfl (lv_at hl 0 rfl) ?_
  refine lv_iload S.1 S.2.1 d_L_328 (lv_at hl 4 rfl) ?_
  refine lv_iconst (v := (1 : Int32)) S.1 S.2.1 d_L_330 rfl ?_
  refine lv_iadd S.1 S.2.1 d_L_331 ?_
  refine sl_at 1 S hX hbl hbA hL I.2.2 rfl (by omega) d_L_332 ?_
  refine lv_aload_n S.1 S.2.1 d_L_333 rfl (lv_at hl 0 rfl) ?_
  refine lv_iload S.1 S.2.1 d_L_334 (lv_at hl 4 rfl) ?_
  refine lv_iconst (v := (2 : Int32)) S.1 S.2.1 d_L_336 rfl ?_
  refine lv_iadd S.1 S.2.1 d_L_337 ?_
  refine sl_at 2 S hX hbl hbA hL I.2.2 rfl (by omega) d_L_338 ?_
  refine lv_aload_n S.1 S.2.1 d_L_339 rfl (lv_at hl 0 rfl) ?_
  refine lv_iload S.1 S.2.1 d_L_340 (lv_at hl 4 rfl) ?_
  refine lv_iconst (v := (3 : Int32)) S.1 S.2.1 d_L_342 rfl ?_
  refine lv_iadd S.1 S.2.1 d_L_343 ?_
  refine sl_at 3 S hX hbl hbA hL I.2.2 rfl (by omega) d_L_344 ?_
  refine lv_aload_n S.1 S.2.1 d_L_345 rfl (lv_at hl 0 rfl) ?_
  refine lv_iload S.1 S.2.1 d_L_346 (lv_at hl 4 rfl) ?_
  refine lv_iconst (v := (4 : Int32)) S.1 S.2.1 d_L_348 rfl ?_
  refine lv_iadd S.1 S.2.1 d_L_349 ?_
  refine sl_at 4 S hX hbl hbA hL I.2.2 rfl (by omega) d_L_350 ?_
  refine lv_aload_n S.1 S.2.1 d_L_351 rfl (lv_at hl 3 rfl) ?_
  refine callS_hw (n := 6) S (c_Lw_edge l hlt D ac am ao cA te ru au re la sp le mo f (xs (n + 1)) (xs (n + 2)) (xs (n + 3)) (xs (n + 4)) _ _ (fun E _ h9 => h9.1) h) ml_Lw_90 sw_Lw_edge in_Lw cw_Lw_edge ⟨by decide, by decide, by decide +kernel⟩ rfl rfl ⟨Nat.le_of_ble_eq_true rfl, Nat.le_of_ble_eq_true rfl⟩ hK hA tx I hl.1 rfl rfl (Nat.le_of_ble_eq_true rfl) d_L_352 ⟨hcl, hsl⟩ (fun k u H locs hk I => ?_)
  rcases hk with ⟨rfl, r, h, hf⟩ | ⟨rfl, h, hf⟩ | ⟨rfl, h, hf⟩
  · refine lv_istore (lv' := [(5, .int (0 : Int32)), (0, .ref b), (1, .ref (ac 0)), (2, .ref (am 0)), (3, .ref ao), (4, .int (nI n))]) S.1 S.2.1 d_L_355 hl (by decide) rfl (fun ls hl => ?_)
    refine lv_aload_n S.1 S.2.1 d_L_357 rfl (lv_at hl 3 rfl) ?_
    refine lv_aload_n S.1 S.2.1 d_L_358 rfl (lv_at hl 1 rfl) ?_
    refine lv_iload S.1 S.2.1 d_L_359 (lv_at hl 5 rfl) ?_
    refine lv_iconst (v := (1 : Int32)) S.1 S.2.1 d_L_361 rfl ?_
    refine lv_iadd S.1 S.2.1 d_L_362 ?_
    refine sl_at 1 S hX hbl hbA hL I.2.2 rfl (by omega) d_L_363 ?_
    refine lv_aload_n S.1 S.2.1 d_L_364 rfl (lv_at hl 1 rfl) ?_
    refine lv_iload S.1 S.2.1 d_L_365 (lv_at hl 5 rfl) ?_
    refine lv_iconst (v := (2 : Int32)) S.1 S.2.1 d_L_367 rfl ?_
    refine lv_iadd S.1 S.2.1 d_L_368 ?_
    refine sl_at 2 S hX hbl hbA hL I.2.2 rfl (by omega) d_L_369 ?_
    refine lv_aload_n S.1 S.2.1 d_L_370 rfl (lv_at hl 1 rfl) ?_
    refine lv_iload S.1 S.2.1 d_L_371 (lv_at hl 5 rfl) ?_
    refine lv_iconst (v := (3 : Int32)) S.1 S.2.1 d_L_373 rfl ?_
    refine lv_iadd S.1 S.2.1 d_L_374 ?_
    refine sl_at 3 S hX hbl hbA hL I.2.2 rfl (by omega) d_L_375 ?_
    refine lv_aload_n S.1 S.2.1 d_L_376 rfl (lv_at hl 1 rfl) ?_
    refine lv_iload S.1 S.2.1 d_L_377 (lv_at hl 5 rfl) ?_
    refine lv_iconst (v := (4 : Int32)) S.1 S.2.1 d_L_379 rfl ?_
    refine lv_iadd S.1 S.2.1 d_L_380 ?_
    refine sl_at 4 S hX hbl hbA hL I.2.2 rfl (by omega) d_L_381 ?_
    refine callF_rwi (w0 := wC ac cA _) (w2 := oW ao cA _) (wf := wM am cA) S (c_Mo_edge l D am cA _ _ _ _ _ _ h) (mkV S.2.2.2.2 ml_Lw_93 k_Mo_edge rfl rfl ⟨Nat.le_of_ble_eq_true rfl, Nat.le_of_ble_eq_true rfl⟩) (rv_Mo hK (ap_P1 (ap_P2 I.1))) hK hA I hl.1 rfl rfl (Nat.le_of_ble_eq_true rfl) d_L_382 ⟨by show _ ≤ 1097; omega, by show _ ≤ 26642; omega⟩ (fun b6 mo382 H locs h I => ?_)
    refine lv_istore (lv' := [(6, .int b6), (5, .int (0 : Int32)), (0, .ref b), (1, .ref (ac 0)), (2, .ref (am 0)), (3, .ref ao), (4, .int (nI n))]) S.1 S.2.1 d_L_385 hl (by decide) rfl (fun ls hl => ?_)
    refine lv_aload_n S.1 S.2.1 d_L_387 rfl (lv_at hl 4 rfl) ?_
    refine callF_roi (w0 := wC ac cA _) (w2 := oW ao cA _) (wf := wM am cA) S (c_Mo_thrown l D am cA _ _ h) (mkV S.2.2.2.2 ml_Lw_73 k_Mo_thrown rfl rfl ⟨Nat.le_of_ble_eq_true rfl, Nat.le_of_ble_eq_true rfl⟩) (rv_Mo hK (ap_P1 (ap_P2 I.1))) hK I hl.1 rfl rfl (Nat.le_of_ble_eq_true rfl) d_L_388 ⟨by show _ ≤ 1097; omega, by show _ ≤ 26642; omega⟩ (fun t7 h => ?_)
    refine lv_iload S.1 S.2.1 d_L_391 (lv_at hl 1 rfl) ?_
    refine lv_icmp_eq (tgt := 398) S.1 S.2.1 d_L_393 (by decide) (fun hc => ?_) (fun hc => ?_)
    · refine lv_iload S.1 S.2.1 d_L_398 (lv_at hl 1 rfl) ?_
      refine lv_if_ne (tgt := 422) S.1 S.2.1 d_L_400 (by decide) (fun hd => ?_) (fun hd => ?_)
      · exact (hd rfl).elim
      · refine lv_aload_n S.1 S.2.1 d_L_403 rfl (lv_at hl 5 rfl) ?_
        refine lv_iconst (v := (0 : Int32)) S.1 S.2.1 d_L_404 rfl ?_
        refine l_out S hK (show gIn D A s (wA ac am ao cA) ((te, ru, u.1, re, la, sp, le), mo382, u.2) H locs from I) out_in d_L_405 ?_
        refine lv_iload S.1 S.2.1 d_L_406 (lv_at hl 0 rfl) ?_
        refine lv_if_eq (tgt := 415) S.1 S.2.1 d_L_408 (by decide) (fun hg => ?_) (fun hg => ?_)
        · refine lv_lconst (v := (0 : Int64)) S.1 S.2.1 d_L_415 rfl ?_
          refine W.lcmp S.1 S.2.1 d_L_416 ?_
          refine lv_if_eq (tgt := 422) S.1 S.2.1 d_L_417 (by decide) (fun he => ?_) (fun he => ?_)
          · refine lv_goto (tgt := 1090) S.1 S.2.1 d_L_422 (by decide) ?_
            exact kk _ _ _ _ _ _ h.2.2 (lv_sub hl [2, 3, 4, 5, 6] rfl) I
          · exact (he ((lg_cmp_eq _ _).mpr (by rw [hf]; have h2 := h.2.1; rw [if_pos hg] at h2; exact h2))).elim
        · refine lv_lconst (v := (1 : Int64)) S.1 S.2.1 d_L_411 rfl ?_
          refine lv_goto (tgt := 416) S.1 S.2.1 d_L_412 (by decide) ?_
          refine W.lcmp S.1 S.2.1 d_L_416 ?_
          refine lv_if_eq (tgt := 422) S.1 S.2.1 d_L_417 (by decide) (fun he => ?_) (fun he => ?_)
          · refine lv_goto (tgt := 1090) S.1 S.2.1 d_L_422 (by decide) ?_
            exact kk _ _ _ _ _ _ h.2.2 (lv_sub hl [2, 3, 4, 5, 6] rfl) I
          · exact (he ((lg_cmp_eq _ _).mpr (by rw [hf]; have h2 := h.2.1; rw [if_neg hg] at h2; exact h2))).elim
    · exact (hc h.1).elim
  · replace h := h.2
    refine lv_istore (lv' := [(5, .int (1 : Int32)), (0, .ref b), (1, .ref (ac 0)), (2, .ref (am 0)), (3, .ref ao), (4, .int (nI n))]) S.1 S.2.1 d_L_355 hl (by decide) rfl (fun ls hl => ?_)
    refine lv_aload_n S.1 S.2.1 d_L_357 rfl (lv_at hl 3 rfl) ?_
    refine lv_aload_n S.1 S.2.1 d_L_358 rfl (lv_at hl 1 rfl) ?_
    refine lv_iload S.1 S.2.1 d_L_359 (lv_at hl 5 rfl) ?_
    refine lv_iconst (v := (1 : Int32)) S.1 S.2.1 d_L_361 rfl ?_
    refine lv_iadd S.1 S.2.1 d_L_362 ?_
    refine sl_at 1 S hX hbl hbA hL I.2.2 rfl (by omega) d_L_363 ?_
    refine lv_aload_n S.1 S.2.1 d_L_364 rfl (lv_at hl 1 rfl) ?_
    refine lv_iload S.1 S.2.1 d_L_365 (lv_at hl 5 rfl) ?_
    refine lv_iconst (v := (2 : Int32)) S.1 S.2.1 d_L_367 rfl ?_
    refine lv_iadd S.1 S.2.1 d_L_368 ?_
    refine sl_at 2 S hX hbl hbA hL I.2.2 rfl (by omega) d_L_369 ?_
    refine lv_aload_n S.1 S.2.1 d_L_370 rfl (lv_at hl 1 rfl) ?_
    refine lv_iload S.1 S.2.1 d_L_371 (lv_at hl 5 rfl) ?_
    refine lv_iconst (v := (3 : Int32)) S.1 S.2.1 d_L_373 rfl ?_
    refine lv_iadd S.1 S.2.1 d_L_374 ?_
    refine sl_at 3 S hX hbl hbA hL I.2.2 rfl (by omega) d_L_375 ?_
    refine lv_aload_n S.1 S.2.1 d_L_376 rfl (lv_at hl 1 rfl) ?_
    refine lv_iload S.1 S.2.1 d_L_377 (lv_at hl 5 rfl) ?_
    refine lv_iconst (v := (4 : Int32)) S.1 S.2.1 d_L_379 rfl ?_
    refine lv_iadd S.1 S.2.1 d_L_380 ?_
    refine sl_at 4 S hX hbl hbA hL I.2.2 rfl (by omega) d_L_381 ?_
    refine callF_rwi (w0 := wC ac cA _) (w2 := oW ao cA _) (wf := wM am cA) S (c_Mo_edge l D am cA _ _ _ _ _ _ h) (mkV S.2.2.2.2 ml_Lw_93 k_Mo_edge rfl rfl ⟨Nat.le_of_ble_eq_true rfl, Nat.le_of_ble_eq_true rfl⟩) (rv_Mo hK (ap_P1 (ap_P2 I.1))) hK hA I hl.1 rfl rfl (Nat.le_of_ble_eq_true rfl) d_L_382 ⟨by show _ ≤ 1097; omega, by show _ ≤ 26642; omega⟩ (fun b6 mo382 H locs h I => ?_)
    refine lv_istore (lv' := [(6, .int b6), (5, .int (1 : Int32)), (0, .ref b), (1, .ref (ac 0)), (2, .ref (am 0)), (3, .ref ao), (4, .int (nI n))]) S.1 S.2.1 d_L_385 hl (by decide) rfl (fun ls hl => ?_)
    refine lv_aload_n S.1 S.2.1 d_L_387 rfl (lv_at hl 4 rfl) ?_
    refine callF_roi (w0 := wC ac cA _) (w2 := oW ao cA _) (wf := wM am cA) S (c_Mo_thrown l D am cA _ _ h) (mkV S.2.2.2.2 ml_Lw_73 k_Mo_thrown rfl rfl ⟨Nat.le_of_ble_eq_true rfl, Nat.le_of_ble_eq_true rfl⟩) (rv_Mo hK (ap_P1 (ap_P2 I.1))) hK I hl.1 rfl rfl (Nat.le_of_ble_eq_true rfl) d_L_388 ⟨by show _ ≤ 1097; omega, by show _ ≤ 26642; omega⟩ (fun t7 h => ?_)
    refine lv_iload S.1 S.2.1 d_L_391 (lv_at hl 1 rfl) ?_
    refine lv_icmp_eq (tgt := 398) S.1 S.2.1 d_L_393 (by decide) (fun hc => ?_) (fun hc => ?_)
    · refine lv_iload S.1 S.2.1 d_L_398 (lv_at hl 1 rfl) ?_
      refine lv_if_ne (tgt := 422) S.1 S.2.1 d_L_400 (by decide) (fun hd => ?_) (fun hd => ?_)
      · refine lv_goto (tgt := 1090) S.1 S.2.1 d_L_422 (by decide) ?_
        exact kk _ _ _ _ _ _ h.2 (lv_sub hl [2, 3, 4, 5, 6] rfl) I
      · exact absurd hd (by decide)
    · exact (hc (h.1.trans (by decide))).elim
  · replace h := h.2
    refine lv_istore (lv' := [(5, .int (2 : Int32)), (0, .ref b), (1, .ref (ac 0)), (2, .ref (am 0)), (3, .ref ao), (4, .int (nI n))]) S.1 S.2.1 d_L_355 hl (by decide) rfl (fun ls hl => ?_)
    refine lv_aload_n S.1 S.2.1 d_L_357 rfl (lv_at hl 3 rfl) ?_
    refine lv_aload_n S.1 S.2.1 d_L_358 rfl (lv_at hl 1 rfl) ?_
    refine lv_iload S.1 S.2.1 d_L_359 (lv_at hl 5 rfl) ?_
    refine lv_iconst (v := (1 : Int32)) S.1 S.2.1 d_L_361 rfl ?_
    refine lv_iadd S.1 S.2.1 d_L_362 ?_
    refine sl_at 1 S hX hbl hbA hL I.2.2 rfl (by omega) d_L_363 ?_
    refine lv_aload_n S.1 S.2.1 d_L_364 rfl (lv_at hl 1 rfl) ?_
    refine lv_iload S.1 S.2.1 d_L_365 (lv_at hl 5 rfl) ?_
    refine lv_iconst (v := (2 : Int32)) S.1 S.2.1 d_L_367 rfl ?_
    refine lv_iadd S.1 S.2.1 d_L_368 ?_
    refine sl_at 2 S hX hbl hbA hL I.2.2 rfl (by omega) d_L_369 ?_
    refine lv_aload_n S.1 S.2.1 d_L_370 rfl (lv_at hl 1 rfl) ?_
    refine lv_iload S.1 S.2.1 d_L_371 (lv_at hl 5 rfl) ?_
    refine lv_iconst (v := (3 : Int32)) S.1 S.2.1 d_L_373 rfl ?_
    refine lv_iadd S.1 S.2.1 d_L_374 ?_
    refine sl_at 3 S hX hbl hbA hL I.2.2 rfl (by omega) d_L_375 ?_
    refine lv_aload_n S.1 S.2.1 d_L_376 rfl (lv_at hl 1 rfl) ?_
    refine lv_iload S.1 S.2.1 d_L_377 (lv_at hl 5 rfl) ?_
    refine lv_iconst (v := (4 : Int32)) S.1 S.2.1 d_L_379 rfl ?_
    refine lv_iadd S.1 S.2.1 d_L_380 ?_
    refine sl_at 4 S hX hbl hbA hL I.2.2 rfl (by omega) d_L_381 ?_
    refine callF_rwi (w0 := wC ac cA _) (w2 := oW ao cA _) (wf := wM am cA) S (c_Mo_edge l D am cA _ _ _ _ _ _ h) (mkV S.2.2.2.2 ml_Lw_93 k_Mo_edge rfl rfl ⟨Nat.le_of_ble_eq_true rfl, Nat.le_of_ble_eq_true rfl⟩) (rv_Mo hK (ap_P1 (ap_P2 I.1))) hK hA I hl.1 rfl rfl (Nat.le_of_ble_eq_true rfl) d_L_382 ⟨by show _ ≤ 1097; omega, by show _ ≤ 26642; omega⟩ (fun b6 mo382 H locs h I => ?_)
    refine lv_istore (lv' := [(6, .int b6), (5, .int (2 : Int32)), (0, .ref b), (1, .ref (ac 0)), (2, .ref (am 0)), (3, .ref ao), (4, .int (nI n))]) S.1 S.2.1 d_L_385 hl (by decide) rfl (fun ls hl => ?_)
    refine lv_aload_n S.1 S.2.1 d_L_387 rfl (lv_at hl 4 rfl) ?_
    refine callF_roi (w0 := wC ac cA _) (w2 := oW ao cA _) (wf := wM am cA) S (c_Mo_thrown l D am cA _ _ h) (mkV S.2.2.2.2 ml_Lw_73 k_Mo_thrown rfl rfl ⟨Nat.le_of_ble_eq_true rfl, Nat.le_of_ble_eq_true rfl⟩) (rv_Mo hK (ap_P1 (ap_P2 I.1))) hK I hl.1 rfl rfl (Nat.le_of_ble_eq_true rfl) d_L_388 ⟨by show _ ≤ 1097; omega, by show _ ≤ 26642; omega⟩ (fun t7 h => ?_)
    refine lv_iload S.1 S.2.1 d_L_391 (lv_at hl 1 rfl) ?_
    refine lv_icmp_eq (tgt := 398) S.1 S.2.1 d_L_393 (by decide) (fun hc => ?_) (fun hc => ?_)
    · refine lv_iload S.1 S.2.1 d_L_398 (lv_at hl 1 rfl) ?_
      refine lv_if_ne (tgt := 422) S.1 S.2.1 d_L_400 (by decide) (fun hd => ?_) (fun hd => ?_)
      · refine lv_goto (tgt := 1090) S.1 S.2.1 d_L_422 (by decide) ?_
        exact kk _ _ _ _ _ _ h.2 (lv_sub hl [2, 3, 4, 5, 6] rfl) I
      · exact absurd hd (by decide)
    · exact (hc (h.1.trans (by decide))).elim
set_option maxHeartbeats 4000000 in
set_option maxRecDepth 100000 in
theorem cs_5 {p : Program} {l : Launch} {e : Env} {s : State} {m : MethodId} {below : List Frame} {meth : Method} {c : Code} {Q : State → Prop} {D : va_G} {A : Nat → Prop} {ac am : Nat → Nat} {ao b L n cells slots : Nat} {xs : Nat → Int32} {cA : ClassId × ClassId × ClassId} {te : Te} {ru : Ru} {au : Au} {re : Re} {la : La} {sp : Sp} {le : Le} {mo : Mo} {f : Nat → Int64} {K : StC → Mo → Prop} {H : Heap} {locs : List Loc} {ls : Array Slot} (S : CallFix p m c code 7 s #[Value.ref b] gtbl R_Lw) (hlt : l.stackTraces = false) (hK : gK D (tyA cA) s) (hA : ∀ q : Nat, s.heap.size ≤ q → A q) (hbA : ¬ A b) (tx : tX A s s.heap) (hX : va_X b L xs s s.heap) (hbl : b < s.heap.size) (hL : L ≤ 2561) (hn : n + 5 ≤ L) (hcl : cells + 1 ≤ 1097) (hsl : slots + 6 ≤ 26642) (h : ls_5 (xs (n + 1)) (xs (n + 2)) (xs (n + 3)) (xs (n + 4)) te ru au re la sp le mo K) (hl : lv_has ls 7 [(0, .ref b), (1, .ref (ac 0)), (2, .ref (am 0)), (3, .ref ao), (4, .int (nI n))]) (I : gIn D A s (wA ac am ao cA) ((te, ru, au, re, la, sp, le), mo, f) H locs) (kk : ∀ (sc : StC) (mo : Mo) (f : Nat → Int64) (ls : Array Slot) (H : Heap) (locs : List Loc), K sc mo → lv_has ls 7 [(0, .ref b), (1, .ref (ac 0)), (2, .ref (am 0)), (3, .ref ao), (4, .int (nI n))] → gIn D A s (wA ac am ao cA) (sc, mo, f) H locs → W p l e room_1 s m #[Value.ref b] below meth c H locs (cells + 1) (slots + 6) Q (F0 m 1090 ls [])) : W p l e room_1 s m #[Value.ref b] below meth c H locs cells slots Q (F0 m 425 ls []) := by
  refine lv_aload_n S.1 S.2.1 d_L_425 rfl (lv_at hl 1 rfl) ?_
  refine lv_aload_n S.1 S.2.1 d_L_426 rfl (lv_at hl 0 rfl) ?_
  refine lv_iload S.1 S.2.1 d_L_427 (lv_at hl 4 rfl) ?_
  refine lv_iconst (v := (1 : Int32)) S.1 S.2.1 d_L_429 rfl ?_
  refine lv_iadd S.1 S.2.1 d_L_430 ?_
  refine sl_at 1 S hX hbl hbA hL I.2.2 rfl (by omega) d_L_431 ?_
  refine lv_aload_n S.1 S.2.1 d_L_432 rfl (lv_at hl 0 rfl) ?_
  refine lv_iload S.1 S.2.1 d_L_433 (lv_at hl 4 rfl) ?_
  refine lv_iconst (v := (2 : Int32)) S.1 S.2.1 d_L_435 rfl ?_
  refine lv_iadd S.1 S.2.1 d_L_436 ?_
  refine sl_at 2 S hX hbl hbA hL I.2.2 rfl (by omega) d_L_437 ?_
  refine lv_if_eq (tgt := 445) S.1 S.2.1 d_L_438 (by decide) (fun hg => ?_) (fun hg => ?_)
  · have h := h.1 hg
    refine lv_iconst (v := (0 : Int32)) S.1 S.2.1 d_L_445 rfl ?_
    refine callF_rwi (w0 := []) (w2 := wM am cA mo ++ oW ao cA f) (wf := wC ac cA) S (c_Gr_mark l D ac cA _ _ _ _ _ _ _ _ _ _ h) (mkV S.2.2.2.2 ml_Lw_94 k_Gr_mark rfl rfl ⟨Nat.le_of_ble_eq_true rfl, Nat.le_of_ble_eq_true rfl⟩) (rv_Gr hK (ap_P1 I.1)) hK hA I hl.1 rfl rfl (Nat.le_of_ble_eq_true rfl) d_L_446 ⟨by show _ ≤ 1097; omega, by show _ ≤ 26642; omega⟩ (fun r u H locs h I => ?_)
    refine lv_aload_n S.1 S.2.1 d_L_449 rfl (lv_at hl 2 rfl) ?_
    refine lv_aload_n S.1 S.2.1 d_L_450 rfl (lv_at hl 0 rfl) ?_
    refine lv_iload S.1 S.2.1 d_L_451 (lv_at hl 4 rfl) ?_
    refine lv_iconst (v := (1 : Int32)) S.1 S.2.1 d_L_453 rfl ?_
    refine lv_iadd S.1 S.2.1 d_L_454 ?_
    refine sl_at 1 S hX hbl hbA hL I.2.2 rfl (by omega) d_L_455 ?_
    refine lv_aload_n S.1 S.2.1 d_L_456 rfl (lv_at hl 0 rfl) ?_
    refine lv_iload S.1 S.2.1 d_L_457 (lv_at hl 4 rfl) ?_
    refine lv_iconst (v := (2 : Int32)) S.1 S.2.1 d_L_459 rfl ?_
    refine lv_iadd S.1 S.2.1 d_L_460 ?_
    refine sl_at 2 S hX hbl hbA hL I.2.2 rfl (by omega) d_L_461 ?_
    refine lv_if_eq (tgt := 469) S.1 S.2.1 d_L_462 (by decide) (fun hg2 => ?_) (fun hg2 => ?_)
    · refine lv_iconst (v := (0 : Int32)) S.1 S.2.1 d_L_469 rfl ?_
      refine callF_rwi (w0 := wC ac cA _) (w2 := oW ao cA _) (wf := wM am cA) S (c_Mo_mark l D am cA _ _ _ _ h) (mkV S.2.2.2.2 ml_Lw_98 k_Mo_mark rfl rfl ⟨Nat.le_of_ble_eq_true rfl, Nat.le_of_ble_eq_true rfl⟩) (rv_Mo hK (ap_P1 (ap_P2 I.1))) hK hA I hl.1 rfl rfl (Nat.le_of_ble_eq_true rfl) d_L_470 ⟨by show _ ≤ 1097; omega, by show _ ≤ 26642; omega⟩ (fun b6 mo470 H locs h I => ?_)
      refine lv_icmp_eq (tgt := 1090) S.1 S.2.1 d_L_473 (by decide) (fun hc => ?_) (fun hc => ?_)
      · refine W.widen (k := cells + 1) (n := slots + 6) (by omega) (by omega) ?_
        exact kk _ _ _ _ _ _ h.2 (lv_sub hl [0, 1, 2, 3, 4] rfl) I
      · exact (hc h.1).elim
    · exact (hg2 hg).elim
  · have h := h.2 hg
    refine lv_iconst (v := (1 : Int32)) S.1 S.2.1 d_L_441 rfl ?_
    refine lv_goto (tgt := 446) S.1 S.2.1 d_L_442 (by decide) ?_
    refine callF_rwi (w0 := []) (w2 := wM am cA mo ++ oW ao cA f) (wf := wC ac cA) S (c_Gr_mark l D ac cA _ _ _ _ _ _ _ _ _ _ h) (mkV S.2.2.2.2 ml_Lw_94 k_Gr_mark rfl rfl ⟨Nat.le_of_ble_eq_true rfl, Nat.le_of_ble_eq_true rfl⟩) (rv_Gr hK (ap_P1 I.1)) hK hA I hl.1 rfl rfl (Nat.le_of_ble_eq_true rfl) d_L_446 ⟨by show _ ≤ 1097; omega, by show _ ≤ 26642; omega⟩ (fun r u H locs h I => ?_)
    refine lv_aload_n S.1 S.2.1 d_L_449 rfl (lv_at hl 2 rfl) ?_
    refine lv_aload_n S.1 S.2.1 d_L_450 rfl (lv_at hl 0 rfl) ?_
    refine lv_iload S.1 S.2.1 d_L_451 (lv_at hl 4 rfl) ?_
    refine lv_iconst (v := (1 : Int32)) S.1 S.2.1 d_L_453 rfl ?_
    refine lv_iadd S.1 S.2.1 d_L_454 ?_
    refine sl_at 1 S hX hbl hbA hL I.2.2 rfl (by omega) d_L_455 ?_
    refine lv_aload_n S.1 S.2.1 d_L_456 rfl (lv_at hl 0 rfl) ?_
    refine lv_iload S.1 S.2.1 d_L_457 (lv_at hl 4 rfl) ?_
    refine lv_iconst (v := (2 : Int32)) S.1 S.2.1 d_L_459 rfl ?_
    refine lv_iadd S.1 S.2.1 d_L_460 ?_
    refine sl_at 2 S hX hbl hbA hL I.2.2 rfl (by omega) d_L_461 ?_
    refine lv_if_eq (tgt := 469) S.1 S.2.1 d_L_462 (by decide) (fun hg2 => ?_) (fun hg2 => ?_)
    · exact (hg hg2).elim
    · refine lv_iconst (v := (1 : Int32)) S.1 S.2.1 d_L_465 rfl ?_
      refine lv_goto (tgt := 470) S.1 S.2.1 d_L_466 (by decide) ?_
      refine callF_rwi (w0 := wC ac cA _) (w2 := oW ao cA _) (wf := wM am cA) S (c_Mo_mark l D am cA _ _ _ _ h) (mkV S.2.2.2.2 ml_Lw_98 k_Mo_mark rfl rfl ⟨Nat.le_of_ble_eq_true rfl, Nat.le_of_ble_eq_true rfl⟩) (rv_Mo hK (ap_P1 (ap_P2 I.1))) hK hA I hl.1 rfl rfl (Nat.le_of_ble_eq_true rfl) d_L_470 ⟨by show _ ≤ 1097; omega, by show _ ≤ 26642; omega⟩ (fun b6 mo470 H locs h I => ?_)
      refine lv_icmp_eq (tgt := 1090) S.1 S.2.1 d_L_473 (by decide) (fun hc => ?_) (fun hc => ?_)
      · refine W.widen (k := cells + 1) (n := slots + 6) (by omega) (by omega) ?_
        exact kk _ _ _ _ _ _ h.2 (lv_sub hl [0, 1, 2, 3, 4] rfl) I
      · exact (hc h.1).elim
set_option maxHeartbeats 4000000 in
set_option maxRecDepth 100000 in
theorem cs_6 {p : Program} {l : Launch} {e : Env} {s : State} {m : MethodId} {below : List Frame} {meth : Method} {c : Code} {Q : State → Prop} {D : va_G} {A : Nat → Prop} {ac am : Nat → Nat} {ao b L n cells slots : Nat} {xs : Nat → Int32} {cA : ClassId × ClassId × ClassId} {te : Te} {ru : Ru} {au : Au} {re : Re} {la : La} {sp : Sp} {le : Le} {mo : Mo} {f : Nat → Int64} {K : StC → Mo → Prop} {H : Heap} {locs : List Loc} {ls : Array Slot} (S : CallFix p m c code 7 s #[Value.ref b] gtbl R_Lw) (hlt : l.stackTraces = false) (hK : gK D (tyA cA) s) (hA : ∀ q : Nat, s.heap.size ≤ q → A q) (hbA : ¬ A b) (tx : tX A s s.heap) (hX : va_X b L xs s s.heap) (hbl : b < s.heap.size) (hL : L ≤ 2561) (hn : n + 5 ≤ L) (hcl : cells + 1 ≤ 1097) (hsl : slots + 6 ≤ 26642) (h : ls_6 (xs (n + 1)) (xs (n + 2)) (xs (n + 3)) (xs (n + 4)) te ru au re la sp le mo K) (hl : lv_has ls 7 [(0, .ref b), (1, .ref (ac 0)), (2, .ref (am 0)), (3, .ref ao), (4, .int (nI n))]) (I : gIn D A s (wA ac am ao cA) ((te, ru, au, re, la, sp, le), mo, f) H locs) (kk : ∀ (sc : StC) (mo : Mo) (f : Nat → Int64) (ls : Array Slot) (H : Heap) (locs : List Loc), K sc mo → lv_has ls 7 [(0, .ref b), (1, .ref (ac 0)), (2, .ref (am 0)), (3, .ref ao), (4, .int (nI n))] → gIn D A s (wA ac am ao cA) (sc, mo, f) H locs → W p l e room_1 s m #[Value.ref b] below meth c H locs (cells + 1) (slots + 6) Q (F0 m 1090 ls [])) : W p l e room_1 s m #[Value.ref b] below meth c H locs cells slots Q (F0 m 478 ls []) := by
  refine lv_aload_n S.1 S.2.1 d_L_478 rfl (lv_at hl 1 rfl) ?_
  refine lv_aload_n S.1 S.2.1 d_L_479 rfl (lv_at hl 0 rfl) ?_
  refine lv_iload S.1 S.2.1 d_L_480 (lv_at hl 4 rfl) ?_
  refine lv_iconst (v := (1 : Int32)) S.1 S.2.1 d_L_482 rfl ?_
  refine lv_iadd S.1 S.2.1 d_L_483 ?_
  refine sl_at 1 S hX hbl hbA hL I.2.2 rfl (by omega) d_L_484 ?_
  refine lv_aload_n S.1 S.2.1 d_L_485 rfl (lv_at hl 0 rfl) ?_
  refine lv_iload S.1 S.2.1 d_L_486 (lv_at hl 4 rfl) ?_
  refine lv_iconst (v := (2 : Int32)) S.1 S.2.1 d_L_488 rfl ?_
  refine lv_iadd S.1 S.2.1 d_L_489 ?_
  refine sl_at 2 S hX hbl hbA hL I.2.2 rfl (by omega) d_L_490 ?_
  refine lv_aload_n S.1 S.2.1 d_L_491 rfl (lv_at hl 3 rfl) ?_
  refine callS_hw (n := 4) S (c_Lw_reaches l hlt D ac am ao cA te ru au re la sp le mo f (xs (n + 1)) (xs (n + 2)) _ _ (fun E _ h9 => h9.1) h) ml_Lw_99 sw_Lw_reaches in_Lw cw_Lw_reaches ⟨by decide, by decide, by decide +kernel⟩ rfl rfl ⟨Nat.le_of_ble_eq_true rfl, Nat.le_of_ble_eq_true rfl⟩ hK hA tx I hl.1 rfl rfl (Nat.le_of_ble_eq_true rfl) d_L_492 ⟨hcl, hsl⟩ (fun k u H locs hk I => ?_)
  rcases hk with ⟨rfl, r, h, hf⟩ | ⟨rfl, h, hf⟩
  · refine lv_istore (lv' := [(5, .int (0 : Int32)), (0, .ref b), (1, .ref (ac 0)), (2, .ref (am 0)), (3, .ref ao), (4, .int (nI n))]) S.1 S.2.1 d_L_495 hl (by decide) rfl (fun ls hl => ?_)
    refine lv_aload_n S.1 S.2.1 d_L_497 rfl (lv_at hl 3 rfl) ?_
    refine lv_aload_n S.1 S.2.1 d_L_498 rfl (lv_at hl 1 rfl) ?_
    refine lv_iload S.1 S.2.1 d_L_499 (lv_at hl 5 rfl) ?_
    refine lv_iconst (v := (1 : Int32)) S.1 S.2.1 d_L_501 rfl ?_
    refine lv_iadd S.1 S.2.1 d_L_502 ?_
    refine sl_at 1 S hX hbl hbA hL I.2.2 rfl (by omega) d_L_503 ?_
    refine lv_aload_n S.1 S.2.1 d_L_504 rfl (lv_at hl 1 rfl) ?_
    refine lv_iload S.1 S.2.1 d_L_505 (lv_at hl 5 rfl) ?_
    refine lv_iconst (v := (2 : Int32)) S.1 S.2.1 d_L_507 rfl ?_
    refine lv_iadd S.1 S.2.1 d_L_508 ?_
    refine sl_at 2 S hX hbl hbA hL I.2.2 rfl (by omega) d_L_509 ?_
    refine callF_rwi (w0 := wC ac cA _) (w2 := oW ao cA _) (wf := wM am cA) S (c_Mo_reaches l D am cA _ _ _ _ h) (mkV S.2.2.2.2 ml_Lw_101 k_Mo_reaches rfl rfl ⟨Nat.le_of_ble_eq_true rfl, Nat.le_of_ble_eq_true rfl⟩) (rv_Mo hK (ap_P1 (ap_P2 I.1))) hK hA I hl.1 rfl rfl (Nat.le_of_ble_eq_true rfl) d_L_510 ⟨by show _ ≤ 1097; omega, by show _ ≤ 26642; omega⟩ (fun b6 mo510 H locs h I => ?_)
    refine lv_istore (lv' := [(6, .int b6), (5, .int (0 : Int32)), (0, .ref b), (1, .ref (ac 0)), (2, .ref (am 0)), (3, .ref ao), (4, .int (nI n))]) S.1 S.2.1 d_L_513 hl (by decide) rfl (fun ls hl => ?_)
    refine lv_aload_n S.1 S.2.1 d_L_515 rfl (lv_at hl 4 rfl) ?_
    refine callF_roi (w0 := wC ac cA _) (w2 := oW ao cA _) (wf := wM am cA) S (c_Mo_thrown l D am cA _ _ h) (mkV S.2.2.2.2 ml_Lw_73 k_Mo_thrown rfl rfl ⟨Nat.le_of_ble_eq_true rfl, Nat.le_of_ble_eq_true rfl⟩) (rv_Mo hK (ap_P1 (ap_P2 I.1))) hK I hl.1 rfl rfl (Nat.le_of_ble_eq_true rfl) d_L_516 ⟨by show _ ≤ 1097; omega, by show _ ≤ 26642; omega⟩ (fun t7 h => ?_)
    refine lv_iload S.1 S.2.1 d_L_519 (lv_at hl 1 rfl) ?_
    refine lv_icmp_eq (tgt := 526) S.1 S.2.1 d_L_521 (by decide) (fun hc => ?_) (fun hc => ?_)
    · refine lv_iload S.1 S.2.1 d_L_526 (lv_at hl 1 rfl) ?_
      refine lv_if_ne (tgt := 550) S.1 S.2.1 d_L_528 (by decide) (fun hd => ?_) (fun hd => ?_)
      · exact (hd rfl).elim
      · refine lv_aload_n S.1 S.2.1 d_L_531 rfl (lv_at hl 5 rfl) ?_
        refine lv_iconst (v := (0 : Int32)) S.1 S.2.1 d_L_532 rfl ?_
        refine l_out S hK (show gIn D A s (wA ac am ao cA) ((te, ru, au, u.1, la, sp, le), mo510, u.2) H locs from I) out_in d_L_533 ?_
        refine lv_iload S.1 S.2.1 d_L_534 (lv_at hl 0 rfl) ?_
        refine lv_if_eq (tgt := 543) S.1 S.2.1 d_L_536 (by decide) (fun hg => ?_) (fun hg => ?_)
        · refine lv_lconst (v := (0 : Int64)) S.1 S.2.1 d_L_543 rfl ?_
          refine W.lcmp S.1 S.2.1 d_L_544 ?_
          refine lv_if_eq (tgt := 550) S.1 S.2.1 d_L_545 (by decide) (fun he => ?_) (fun he => ?_)
          · refine lv_goto (tgt := 1090) S.1 S.2.1 d_L_550 (by decide) ?_
            exact kk _ _ _ _ _ _ h.2.2 (lv_sub hl [2, 3, 4, 5, 6] rfl) I
          · exact (he ((lg_cmp_eq _ _).mpr (by rw [hf]; have h2 := h.2.1; rw [if_pos hg] at h2; exact h2))).elim
        · refine lv_lconst (v := (1 : Int64)) S.1 S.2.1 d_L_539 rfl ?_
          refine lv_goto (tgt := 544) S.1 S.2.1 d_L_540 (by decide) ?_
          refine W.lcmp S.1 S.2.1 d_L_544 ?_
          refine lv_if_eq (tgt := 550) S.1 S.2.1 d_L_545 (by decide) (fun he => ?_) (fun he => ?_)
          · refine lv_goto (tgt := 1090) S.1 S.2.1 d_L_550 (by decide) ?_
            exact kk _ _ _ _ _ _ h.2.2 (lv_sub hl [2, 3, 4, 5, 6] rfl) I
          · exact (he ((lg_cmp_eq _ _).mpr (by rw [hf]; have h2 := h.2.1; rw [if_neg hg] at h2; exact h2))).elim
    · exact (hc h.1).elim
  · replace h := h.2
    refine lv_istore (lv' := [(5, .int (1 : Int32)), (0, .ref b), (1, .ref (ac 0)), (2, .ref (am 0)), (3, .ref ao), (4, .int (nI n))]) S.1 S.2.1 d_L_495 hl (by decide) rfl (fun ls hl => ?_)
    refine lv_aload_n S.1 S.2.1 d_L_497 rfl (lv_at hl 3 rfl) ?_
    refine lv_aload_n S.1 S.2.1 d_L_498 rfl (lv_at hl 1 rfl) ?_
    refine lv_iload S.1 S.2.1 d_L_499 (lv_at hl 5 rfl) ?_
    refine lv_iconst (v := (1 : Int32)) S.1 S.2.1 d_L_501 rfl ?_
    refine lv_iadd S.1 S.2.1 d_L_502 ?_
    refine sl_at 1 S hX hbl hbA hL I.2.2 rfl (by omega) d_L_503 ?_
    refine lv_aload_n S.1 S.2.1 d_L_504 rfl (lv_at hl 1 rfl) ?_
    refine lv_iload S.1 S.2.1 d_L_505 (lv_at hl 5 rfl) ?_
    refine lv_iconst (v := (2 : Int32)) S.1 S.2.1 d_L_507 rfl ?_
    refine lv_iadd S.1 S.2.1 d_L_508 ?_
    refine sl_at 2 S hX hbl hbA hL I.2.2 rfl (by omega) d_L_509 ?_
    refine callF_rwi (w0 := wC ac cA _) (w2 := oW ao cA _) (wf := wM am cA) S (c_Mo_reaches l D am cA _ _ _ _ h) (mkV S.2.2.2.2 ml_Lw_101 k_Mo_reaches rfl rfl ⟨Nat.le_of_ble_eq_true rfl, Nat.le_of_ble_eq_true rfl⟩) (rv_Mo hK (ap_P1 (ap_P2 I.1))) hK hA I hl.1 rfl rfl (Nat.le_of_ble_eq_true rfl) d_L_510 ⟨by show _ ≤ 1097; omega, by show _ ≤ 26642; omega⟩ (fun b6 mo510 H locs h I => ?_)
    refine lv_istore (lv' := [(6, .int b6), (5, .int (1 : Int32)), (0, .ref b), (1, .ref (ac 0)), (2, .ref (am 0)), (3, .ref ao), (4, .int (nI n))]) S.1 S.2.1 d_L_513 hl (by decide) rfl (fun ls hl => ?_)
    refine lv_aload_n S.1 S.2.1 d_L_515 rfl (lv_at hl 4 rfl) ?_
    refine callF_roi (w0 := wC ac cA _) (w2 := oW ao cA _) (wf := wM am cA) S (c_Mo_thrown l D am cA _ _ h) (mkV S.2.2.2.2 ml_Lw_73 k_Mo_thrown rfl rfl ⟨Nat.le_of_ble_eq_true rfl, Nat.le_of_ble_eq_true rfl⟩) (rv_Mo hK (ap_P1 (ap_P2 I.1))) hK I hl.1 rfl rfl (Nat.le_of_ble_eq_true rfl) d_L_516 ⟨by show _ ≤ 1097; omega, by show _ ≤ 26642; omega⟩ (fun t7 h => ?_)
    refine lv_iload S.1 S.2.1 d_L_519 (lv_at hl 1 rfl) ?_
    refine lv_icmp_eq (tgt := 526) S.1 S.2.1 d_L_521 (by decide) (fun hc => ?_) (fun hc => ?_)
    · refine lv_iload S.1 S.2.1 d_L_526 (lv_at hl 1 rfl) ?_
      refine lv_if_ne (tgt := 550) S.1 S.2.1 d_L_528 (by decide) (fun hd => ?_) (fun hd => ?_)
      · refine lv_goto (tgt := 1090) S.1 S.2.1 d_L_550 (by decide) ?_
        exact kk _ _ _ _ _ _ h.2 (lv_sub hl [2, 3, 4, 5, 6] rfl) I
      · exact absurd hd (by decide)
    · exact (hc (h.1.trans (by decide))).elim
set_option maxHeartbeats 4000000 in
set_option maxRecDepth 100000 in
theorem cs_7 {p : Program} {l : Launch} {e : Env} {s : State} {m : MethodId} {below : List Frame} {meth : Method} {c : Code} {Q : State → Prop} {D : va_G} {A : Nat → Prop} {ac am : Nat → Nat} {ao b L n cells slots : Nat} {xs : Nat → Int32} {cA : ClassId × ClassId × ClassId} {te : Te} {ru : Ru} {au : Au} {re : Re} {la : La} {sp : Sp} {le : Le} {mo : Mo} {f : Nat → Int64} {K : StC → Mo → Prop} {H : Heap} {locs : List Loc} {ls : Array Slot} (S : CallFix p m c code 7 s #[Value.ref b] gtbl R_Lw) (hlt : l.stackTraces = false) (hK : gK D (tyA cA) s) (hA : ∀ q : Nat, s.heap.size ≤ q → A q) (hbA : ¬ A b) (tx : tX A s s.heap) (hX : va_X b L xs s s.heap) (hbl : b < s.heap.size) (hL : L ≤ 2561) (hn : n + 5 ≤ L) (hcl : cells + 1 ≤ 1097) (hsl : slots + 6 ≤ 26642) (h : ls_7 (xs (n + 1)) (xs (n + 2)) (xs (n + 3)) (xs (n + 4)) te ru au re la sp le mo K) (hl : lv_has ls 7 [(0, .ref b), (1, .ref (ac 0)), (2, .ref (am 0)), (3, .ref ao), (4, .int (nI n))]) (I : gIn D A s (wA ac am ao cA) ((te, ru, au, re, la, sp, le), mo, f) H locs) (kk : ∀ (sc : StC) (mo : Mo) (f : Nat → Int64) (ls : Array Slot) (H : Heap) (locs : List Loc), K sc mo → lv_has ls 7 [(0, .ref b), (1, .ref (ac 0)), (2, .ref (am 0)), (3, .ref ao), (4, .int (nI n))] → gIn D A s (wA ac am ao cA) (sc, mo, f) H locs → W p l e room_1 s m #[Value.ref b] below meth c H locs (cells + 1) (slots + 6) Q (F0 m 1090 ls [])) : W p l e room_1 s m #[Value.ref b] below meth c H locs cells slots Q (F0 m 553 ls []) := by
  refine lv_aload_n S.1 S.2.1 d_L_553 rfl (lv_at hl 1 rfl) ?_
  refine lv_aload_n S.1 S.2.1 d_L_554 rfl (lv_at hl 0 rfl) ?_
  refine lv_iload S.1 S.2.1 d_L_555 (lv_at hl 4 rfl) ?_
  refine lv_iconst (v := (1 : Int32)) S.1 S.2.1 d_L_557 rfl ?_
  refine lv_iadd S.1 S.2.1 d_L_558 ?_
  refine sl_at 1 S hX hbl hbA hL I.2.2 rfl (by omega) d_L_559 ?_
  refine lv_aload_n S.1 S.2.1 d_L_560 rfl (lv_at hl 0 rfl) ?_
  refine lv_iload S.1 S.2.1 d_L_561 (lv_at hl 4 rfl) ?_
  refine lv_iconst (v := (2 : Int32)) S.1 S.2.1 d_L_563 rfl ?_
  refine lv_iadd S.1 S.2.1 d_L_564 ?_
  refine sl_at 2 S hX hbl hbA hL I.2.2 rfl (by omega) d_L_565 ?_
  refine lv_aload_n S.1 S.2.1 d_L_566 rfl (lv_at hl 3 rfl) ?_
  refine callS_hw (n := 4) S (c_Lw_meet l hlt D ac am ao cA te ru au re la sp le mo f (xs (n + 1)) (xs (n + 2)) _ _ (fun E _ h9 => h9.1) h) ml_Lw_102 sw_Lw_meet in_Lw cw_Lw_meet ⟨by decide, by decide, by decide +kernel⟩ rfl rfl ⟨Nat.le_of_ble_eq_true rfl, Nat.le_of_ble_eq_true rfl⟩ hK hA tx I hl.1 rfl rfl (Nat.le_of_ble_eq_true rfl) d_L_567 ⟨hcl, hsl⟩ (fun k u H locs hk I => ?_)
  rcases hk with ⟨rfl, r, h, hf⟩ | ⟨rfl, h, hf⟩
  · refine lv_istore (lv' := [(5, .int (0 : Int32)), (0, .ref b), (1, .ref (ac 0)), (2, .ref (am 0)), (3, .ref ao), (4, .int (nI n))]) S.1 S.2.1 d_L_570 hl (by decide) rfl (fun ls hl => ?_)
    refine lv_aload_n S.1 S.2.1 d_L_572 rfl (lv_at hl 3 rfl) ?_
    refine lv_aload_n S.1 S.2.1 d_L_573 rfl (lv_at hl 1 rfl) ?_
    refine lv_iload S.1 S.2.1 d_L_574 (lv_at hl 5 rfl) ?_
    refine lv_iconst (v := (1 : Int32)) S.1 S.2.1 d_L_576 rfl ?_
    refine lv_iadd S.1 S.2.1 d_L_577 ?_
    refine sl_at 1 S hX hbl hbA hL I.2.2 rfl (by omega) d_L_578 ?_
    refine lv_aload_n S.1 S.2.1 d_L_579 rfl (lv_at hl 1 rfl) ?_
    refine lv_iload S.1 S.2.1 d_L_580 (lv_at hl 5 rfl) ?_
    refine lv_iconst (v := (2 : Int32)) S.1 S.2.1 d_L_582 rfl ?_
    refine lv_iadd S.1 S.2.1 d_L_583 ?_
    refine sl_at 2 S hX hbl hbA hL I.2.2 rfl (by omega) d_L_584 ?_
    refine callF_rwi (w0 := wC ac cA _) (w2 := oW ao cA _) (wf := wM am cA) S (c_Mo_meet l D am cA _ _ _ _ h) (mkV S.2.2.2.2 ml_Lw_104 k_Mo_meet rfl rfl ⟨Nat.le_of_ble_eq_true rfl, Nat.le_of_ble_eq_true rfl⟩) (rv_Mo hK (ap_P1 (ap_P2 I.1))) hK hA I hl.1 rfl rfl (Nat.le_of_ble_eq_true rfl) d_L_585 ⟨by show _ ≤ 1097; omega, by show _ ≤ 26642; omega⟩ (fun b6 mo585 H locs h I => ?_)
    refine lv_istore (lv' := [(6, .int b6), (5, .int (0 : Int32)), (0, .ref b), (1, .ref (ac 0)), (2, .ref (am 0)), (3, .ref ao), (4, .int (nI n))]) S.1 S.2.1 d_L_588 hl (by decide) rfl (fun ls hl => ?_)
    refine lv_aload_n S.1 S.2.1 d_L_590 rfl (lv_at hl 4 rfl) ?_
    refine callF_roi (w0 := wC ac cA _) (w2 := oW ao cA _) (wf := wM am cA) S (c_Mo_thrown l D am cA _ _ h) (mkV S.2.2.2.2 ml_Lw_73 k_Mo_thrown rfl rfl ⟨Nat.le_of_ble_eq_true rfl, Nat.le_of_ble_eq_true rfl⟩) (rv_Mo hK (ap_P1 (ap_P2 I.1))) hK I hl.1 rfl rfl (Nat.le_of_ble_eq_true rfl) d_L_591 ⟨by show _ ≤ 1097; omega, by show _ ≤ 26642; omega⟩ (fun t7 h => ?_)
    refine lv_iload S.1 S.2.1 d_L_594 (lv_at hl 1 rfl) ?_
    refine lv_icmp_eq (tgt := 601) S.1 S.2.1 d_L_596 (by decide) (fun hc => ?_) (fun hc => ?_)
    · refine lv_iload S.1 S.2.1 d_L_601 (lv_at hl 1 rfl) ?_
      refine lv_if_ne (tgt := 625) S.1 S.2.1 d_L_603 (by decide) (fun hd => ?_) (fun hd => ?_)
      · exact (hd rfl).elim
      · refine lv_aload_n S.1 S.2.1 d_L_606 rfl (lv_at hl 5 rfl) ?_
        refine lv_iconst (v := (0 : Int32)) S.1 S.2.1 d_L_607 rfl ?_
        refine l_out S hK (show gIn D A s (wA ac am ao cA) ((te, ru, au, u.1, la, sp, le), mo585, u.2) H locs from I) out_in d_L_608 ?_
        refine lv_iload S.1 S.2.1 d_L_609 (lv_at hl 0 rfl) ?_
        refine lv_if_eq (tgt := 618) S.1 S.2.1 d_L_611 (by decide) (fun hg => ?_) (fun hg => ?_)
        · refine lv_lconst (v := (0 : Int64)) S.1 S.2.1 d_L_618 rfl ?_
          refine W.lcmp S.1 S.2.1 d_L_619 ?_
          refine lv_if_eq (tgt := 625) S.1 S.2.1 d_L_620 (by decide) (fun he => ?_) (fun he => ?_)
          · refine lv_goto (tgt := 1090) S.1 S.2.1 d_L_625 (by decide) ?_
            exact kk _ _ _ _ _ _ h.2.2 (lv_sub hl [2, 3, 4, 5, 6] rfl) I
          · exact (he ((lg_cmp_eq _ _).mpr (by rw [hf]; have h2 := h.2.1; rw [if_pos hg] at h2; exact h2))).elim
        · refine lv_lconst (v := (1 : Int64)) S.1 S.2.1 d_L_614 rfl ?_
          refine lv_goto (tgt := 619) S.1 S.2.1 d_L_615 (by decide) ?_
          refine W.lcmp S.1 S.2.1 d_L_619 ?_
          refine lv_if_eq (tgt := 625) S.1 S.2.1 d_L_620 (by decide) (fun he => ?_) (fun he => ?_)
          · refine lv_goto (tgt := 1090) S.1 S.2.1 d_L_625 (by decide) ?_
            exact kk _ _ _ _ _ _ h.2.2 (lv_sub hl [2, 3, 4, 5, 6] rfl) I
          · exact (he ((lg_cmp_eq _ _).mpr (by rw [hf]; have h2 := h.2.1; rw [if_neg hg] at h2; exact h2))).elim
    · exact (hc h.1).elim
  · replace h := h.2
    refine lv_istore (lv' := [(5, .int (1 : Int32)), (0, .ref b), (1, .ref (ac 0)), (2, .ref (am 0)), (3, .ref ao), (4, .int (nI n))]) S.1 S.2.1 d_L_570 hl (by decide) rfl (fun ls hl => ?_)
    refine lv_aload_n S.1 S.2.1 d_L_572 rfl (lv_at hl 3 rfl) ?_
    refine lv_aload_n S.1 S.2.1 d_L_573 rfl (lv_at hl 1 rfl) ?_
    refine lv_iload S.1 S.2.1 d_L_574 (lv_at hl 5 rfl) ?_
    refine lv_iconst (v := (1 : Int32)) S.1 S.2.1 d_L_576 rfl ?_
    refine lv_iadd S.1 S.2.1 d_L_577 ?_
    refine sl_at 1 S hX hbl hbA hL I.2.2 rfl (by omega) d_L_578 ?_
    refine lv_aload_n S.1 S.2.1 d_L_579 rfl (lv_at hl 1 rfl) ?_
    refine lv_iload S.1 S.2.1 d_L_580 (lv_at hl 5 rfl) ?_
    refine lv_iconst (v := (2 : Int32)) S.1 S.2.1 d_L_582 rfl ?_
    refine lv_iadd S.1 S.2.1 d_L_583 ?_
    refine sl_at 2 S hX hbl hbA hL I.2.2 rfl (by omega) d_L_584 ?_
    refine callF_rwi (w0 := wC ac cA _) (w2 := oW ao cA _) (wf := wM am cA) S (c_Mo_meet l D am cA _ _ _ _ h) (mkV S.2.2.2.2 ml_Lw_104 k_Mo_meet rfl rfl ⟨Nat.le_of_ble_eq_true rfl, Nat.le_of_ble_eq_true rfl⟩) (rv_Mo hK (ap_P1 (ap_P2 I.1))) hK hA I hl.1 rfl rfl (Nat.le_of_ble_eq_true rfl) d_L_585 ⟨by show _ ≤ 1097; omega, by show _ ≤ 26642; omega⟩ (fun b6 mo585 H locs h I => ?_)
    refine lv_istore (lv' := [(6, .int b6), (5, .int (1 : Int32)), (0, .ref b), (1, .ref (ac 0)), (2, .ref (am 0)), (3, .ref ao), (4, .int (nI n))]) S.1 S.2.1 d_L_588 hl (by decide) rfl (fun ls hl => ?_)
    refine lv_aload_n S.1 S.2.1 d_L_590 rfl (lv_at hl 4 rfl) ?_
    refine callF_roi (w0 := wC ac cA _) (w2 := oW ao cA _) (wf := wM am cA) S (c_Mo_thrown l D am cA _ _ h) (mkV S.2.2.2.2 ml_Lw_73 k_Mo_thrown rfl rfl ⟨Nat.le_of_ble_eq_true rfl, Nat.le_of_ble_eq_true rfl⟩) (rv_Mo hK (ap_P1 (ap_P2 I.1))) hK I hl.1 rfl rfl (Nat.le_of_ble_eq_true rfl) d_L_591 ⟨by show _ ≤ 1097; omega, by show _ ≤ 26642; omega⟩ (fun t7 h => ?_)
    refine lv_iload S.1 S.2.1 d_L_594 (lv_at hl 1 rfl) ?_
    refine lv_icmp_eq (tgt := 601) S.1 S.2.1 d_L_596 (by decide) (fun hc => ?_) (fun hc => ?_)
    · refine lv_iload S.1 S.2.1 d_L_601 (lv_at hl 1 rfl) ?_
      refine lv_if_ne (tgt := 625) S.1 S.2.1 d_L_603 (by decide) (fun hd => ?_) (fun hd => ?_)
      · refine lv_goto (tgt := 1090) S.1 S.2.1 d_L_625 (by decide) ?_
        exact kk _ _ _ _ _ _ h.2 (lv_sub hl [2, 3, 4, 5, 6] rfl) I
      · exact absurd hd (by decide)
    · exact (hc (h.1.trans (by decide))).elim
set_option maxHeartbeats 4000000 in
set_option maxRecDepth 100000 in
theorem cs_8 {p : Program} {l : Launch} {e : Env} {s : State} {m : MethodId} {below : List Frame} {meth : Method} {c : Code} {Q : State → Prop} {D : va_G} {A : Nat → Prop} {ac am : Nat → Nat} {ao b L n cells slots : Nat} {xs : Nat → Int32} {cA : ClassId × ClassId × ClassId} {te : Te} {ru : Ru} {au : Au} {re : Re} {la : La} {sp : Sp} {le : Le} {mo : Mo} {f : Nat → Int64} {K : StC → Mo → Prop} {H : Heap} {locs : List Loc} {ls : Array Slot} (S : CallFix p m c code 7 s #[Value.ref b] gtbl R_Lw) (hlt : l.stackTraces = false) (hK : gK D (tyA cA) s) (hA : ∀ q : Nat, s.heap.size ≤ q → A q) (hbA : ¬ A b) (tx : tX A s s.heap) (hX : va_X b L xs s s.heap) (hbl : b < s.heap.size) (hL : L ≤ 2561) (hn : n + 5 ≤ L) (hcl : cells + 1 ≤ 1097) (hsl : slots + 6 ≤ 26642) (h : ls_8 (xs (n + 1)) (xs (n + 2)) (xs (n + 3)) (xs (n + 4)) te ru au re la sp le mo K) (hl : lv_has ls 7 [(0, .ref b), (1, .ref (ac 0)), (2, .ref (am 0)), (3, .ref ao), (4, .int (nI n))]) (I : gIn D A s (wA ac am ao cA) ((te, ru, au, re, la, sp, le), mo, f) H locs) (kk : ∀ (sc : StC) (mo : Mo) (f : Nat → Int64) (ls : Array Slot) (H : Heap) (locs : List Loc), K sc mo → lv_has ls 7 [(0, .ref b), (1, .ref (ac 0)), (2, .ref (am 0)), (3, .ref ao), (4, .int (nI n))] → gIn D A s (wA ac am ao cA) (sc, mo, f) H locs → W p l e room_1 s m #[Value.ref b] below meth c H locs (cells + 1) (slots + 6) Q (F0 m 1090 ls [])) : W p l e room_1 s m #[Value.ref b] below meth c H locs cells slots Q (F0 m 628 ls []) := by
  refine lv_aload_n S.1 S.2.1 d_L_628 rfl (lv_at hl 1 rfl) ?_
  refine lv_aload_n S.1 S.2.1 d_L_629 rfl (lv_at hl 0 rfl) ?_
  refine lv_iload S.1 S.2.1 d_L_630 (lv_at hl 4 rfl) ?_
  refine lv_iconst (v := (1 : Int32)) S.1 S.2.1 d_L_632 rfl ?_
  refine lv_iadd S.1 S.2.1 d_L_633 ?_
  refine sl_at 1 S hX hbl hbA hL I.2.2 rfl (by omega) d_L_634 ?_
  refine lv_aload_n S.1 S.2.1 d_L_635 rfl (lv_at hl 3 rfl) ?_
  refine callS_hw (n := 3) S (c_Lw_has l hlt D ac am ao cA te ru au re la sp le mo f (xs (n + 1)) _ _ (fun E _ h9 => h9.1) h) ml_Lw_105 sw_Lw_has in_Lw cw_Lw_has ⟨by decide, by decide, by decide +kernel⟩ rfl rfl ⟨Nat.le_of_ble_eq_true rfl, Nat.le_of_ble_eq_true rfl⟩ hK hA tx I hl.1 rfl rfl (Nat.le_of_ble_eq_true rfl) d_L_636 ⟨hcl, hsl⟩ (fun k u H locs hk I => ?_)
  rcases hk with ⟨rfl, r, h, hf⟩ | ⟨rfl, h, hf⟩
  · refine lv_istore (lv' := [(5, .int (0 : Int32)), (0, .ref b), (1, .ref (ac 0)), (2, .ref (am 0)), (3, .ref ao), (4, .int (nI n))]) S.1 S.2.1 d_L_639 hl (by decide) rfl (fun ls hl => ?_)
    refine lv_aload_n S.1 S.2.1 d_L_641 rfl (lv_at hl 3 rfl) ?_
    refine lv_aload_n S.1 S.2.1 d_L_642 rfl (lv_at hl 1 rfl) ?_
    refine lv_iload S.1 S.2.1 d_L_643 (lv_at hl 5 rfl) ?_
    refine lv_iconst (v := (1 : Int32)) S.1 S.2.1 d_L_645 rfl ?_
    refine lv_iadd S.1 S.2.1 d_L_646 ?_
    refine sl_at 1 S hX hbl hbA hL I.2.2 rfl (by omega) d_L_647 ?_
    refine callF_rwi (w0 := wC ac cA _) (w2 := oW ao cA _) (wf := wM am cA) S (c_Mo_has l D am cA _ _ _ h) (mkV S.2.2.2.2 ml_Lw_108 k_Mo_has rfl rfl ⟨Nat.le_of_ble_eq_true rfl, Nat.le_of_ble_eq_true rfl⟩) (rv_Mo hK (ap_P1 (ap_P2 I.1))) hK hA I hl.1 rfl rfl (Nat.le_of_ble_eq_true rfl) d_L_648 ⟨by show _ ≤ 1097; omega, by show _ ≤ 26642; omega⟩ (fun b6 mo648 H locs h I => ?_)
    refine lv_istore (lv' := [(6, .int b6), (5, .int (0 : Int32)), (0, .ref b), (1, .ref (ac 0)), (2, .ref (am 0)), (3, .ref ao), (4, .int (nI n))]) S.1 S.2.1 d_L_651 hl (by decide) rfl (fun ls hl => ?_)
    refine lv_aload_n S.1 S.2.1 d_L_653 rfl (lv_at hl 4 rfl) ?_
    refine callF_roi (w0 := wC ac cA _) (w2 := oW ao cA _) (wf := wM am cA) S (c_Mo_thrown l D am cA _ _ h) (mkV S.2.2.2.2 ml_Lw_73 k_Mo_thrown rfl rfl ⟨Nat.le_of_ble_eq_true rfl, Nat.le_of_ble_eq_true rfl⟩) (rv_Mo hK (ap_P1 (ap_P2 I.1))) hK I hl.1 rfl rfl (Nat.le_of_ble_eq_true rfl) d_L_654 ⟨by show _ ≤ 1097; omega, by show _ ≤ 26642; omega⟩ (fun t7 h => ?_)
    refine lv_iload S.1 S.2.1 d_L_657 (lv_at hl 1 rfl) ?_
    refine lv_icmp_eq (tgt := 664) S.1 S.2.1 d_L_659 (by decide) (fun hc => ?_) (fun hc => ?_)
    · refine lv_iload S.1 S.2.1 d_L_664 (lv_at hl 1 rfl) ?_
      refine lv_if_ne (tgt := 688) S.1 S.2.1 d_L_666 (by decide) (fun hd => ?_) (fun hd => ?_)
      · exact (hd rfl).elim
      · refine lv_aload_n S.1 S.2.1 d_L_669 rfl (lv_at hl 5 rfl) ?_
        refine lv_iconst (v := (0 : Int32)) S.1 S.2.1 d_L_670 rfl ?_
        refine l_out S hK (show gIn D A s (wA ac am ao cA) ((te, ru, au, re, u.1, sp, le), mo648, u.2) H locs from I) out_in d_L_671 ?_
        refine lv_iload S.1 S.2.1 d_L_672 (lv_at hl 0 rfl) ?_
        refine lv_if_eq (tgt := 681) S.1 S.2.1 d_L_674 (by decide) (fun hg => ?_) (fun hg => ?_)
        · refine lv_lconst (v := (0 : Int64)) S.1 S.2.1 d_L_681 rfl ?_
          refine W.lcmp S.1 S.2.1 d_L_682 ?_
          refine lv_if_eq (tgt := 688) S.1 S.2.1 d_L_683 (by decide) (fun he => ?_) (fun he => ?_)
          · refine lv_goto (tgt := 1090) S.1 S.2.1 d_L_688 (by decide) ?_
            exact kk _ _ _ _ _ _ h.2.2 (lv_sub hl [2, 3, 4, 5, 6] rfl) I
          · exact (he ((lg_cmp_eq _ _).mpr (by rw [hf]; have h2 := h.2.1; rw [if_pos hg] at h2; exact h2))).elim
        · refine lv_lconst (v := (1 : Int64)) S.1 S.2.1 d_L_677 rfl ?_
          refine lv_goto (tgt := 682) S.1 S.2.1 d_L_678 (by decide) ?_
          refine W.lcmp S.1 S.2.1 d_L_682 ?_
          refine lv_if_eq (tgt := 688) S.1 S.2.1 d_L_683 (by decide) (fun he => ?_) (fun he => ?_)
          · refine lv_goto (tgt := 1090) S.1 S.2.1 d_L_688 (by decide) ?_
            exact kk _ _ _ _ _ _ h.2.2 (lv_sub hl [2, 3, 4, 5, 6] rfl) I
          · exact (he ((lg_cmp_eq _ _).mpr (by rw [hf]; have h2 := h.2.1; rw [if_neg hg] at h2; exact h2))).elim
    · exact (hc h.1).elim
  · replace h := h.2
    refine lv_istore (lv' := [(5, .int (1 : Int32)), (0, .ref b), (1, .ref (ac 0)), (2, .ref (am 0)), (3, .ref ao), (4, .int (nI n))]) S.1 S.2.1 d_L_639 hl (by decide) rfl (fun ls hl => ?_)
    refine lv_aload_n S.1 S.2.1 d_L_641 rfl (lv_at hl 3 rfl) ?_
    refine lv_aload_n S.1 S.2.1 d_L_642 rfl (lv_at hl 1 rfl) ?_
    refine lv_iload S.1 S.2.1 d_L_643 (lv_at hl 5 rfl) ?_
    refine lv_iconst (v := (1 : Int32)) S.1 S.2.1 d_L_645 rfl ?_
    refine lv_iadd S.1 S.2.1 d_L_646 ?_
    refine sl_at 1 S hX hbl hbA hL I.2.2 rfl (by omega) d_L_647 ?_
    refine callF_rwi (w0 := wC ac cA _) (w2 := oW ao cA _) (wf := wM am cA) S (c_Mo_has l D am cA _ _ _ h) (mkV S.2.2.2.2 ml_Lw_108 k_Mo_has rfl rfl ⟨Nat.le_of_ble_eq_true rfl, Nat.le_of_ble_eq_true rfl⟩) (rv_Mo hK (ap_P1 (ap_P2 I.1))) hK hA I hl.1 rfl rfl (Nat.le_of_ble_eq_true rfl) d_L_648 ⟨by show _ ≤ 1097; omega, by show _ ≤ 26642; omega⟩ (fun b6 mo648 H locs h I => ?_)
    refine lv_istore (lv' := [(6, .int b6), (5, .int (1 : Int32)), (0, .ref b), (1, .ref (ac 0)), (2, .ref (am 0)), (3, .ref ao), (4, .int (nI n))]) S.1 S.2.1 d_L_651 hl (by decide) rfl (fun ls hl => ?_)
    refine lv_aload_n S.1 S.2.1 d_L_653 rfl (lv_at hl 4 rfl) ?_
    refine callF_roi (w0 := wC ac cA _) (w2 := oW ao cA _) (wf := wM am cA) S (c_Mo_thrown l D am cA _ _ h) (mkV S.2.2.2.2 ml_Lw_73 k_Mo_thrown rfl rfl ⟨Nat.le_of_ble_eq_true rfl, Nat.le_of_ble_eq_true rfl⟩) (rv_Mo hK (ap_P1 (ap_P2 I.1))) hK I hl.1 rfl rfl (Nat.le_of_ble_eq_true rfl) d_L_654 ⟨by show _ ≤ 1097; omega, by show _ ≤ 26642; omega⟩ (fun t7 h => ?_)
    refine lv_iload S.1 S.2.1 d_L_657 (lv_at hl 1 rfl) ?_
    refine lv_icmp_eq (tgt := 664) S.1 S.2.1 d_L_659 (by decide) (fun hc => ?_) (fun hc => ?_)
    · refine lv_iload S.1 S.2.1 d_L_664 (lv_at hl 1 rfl) ?_
      refine lv_if_ne (tgt := 688) S.1 S.2.1 d_L_666 (by decide) (fun hd => ?_) (fun hd => ?_)
      · refine lv_goto (tgt := 1090) S.1 S.2.1 d_L_688 (by decide) ?_
        exact kk _ _ _ _ _ _ h.2 (lv_sub hl [2, 3, 4, 5, 6] rfl) I
      · exact absurd hd (by decide)
    · exact (hc (h.1.trans (by decide))).elim
set_option maxHeartbeats 4000000 in
set_option maxRecDepth 100000 in
theorem cs_9 {p : Program} {l : Launch} {e : Env} {s : State} {m : MethodId} {below : List Frame} {meth : Method} {c : Code} {Q : State → Prop} {D : va_G} {A : Nat → Prop} {ac am : Nat → Nat} {ao b L n cells slots : Nat} {xs : Nat → Int32} {cA : ClassId × ClassId × ClassId} {te : Te} {ru : Ru} {au : Au} {re : Re} {la : La} {sp : Sp} {le : Le} {mo : Mo} {f : Nat → Int64} {K : StC → Mo → Prop} {H : Heap} {locs : List Loc} {ls : Array Slot} (S : CallFix p m c code 7 s #[Value.ref b] gtbl R_Lw) (hlt : l.stackTraces = false) (hK : gK D (tyA cA) s) (hA : ∀ q : Nat, s.heap.size ≤ q → A q) (hbA : ¬ A b) (tx : tX A s s.heap) (hX : va_X b L xs s s.heap) (hbl : b < s.heap.size) (hL : L ≤ 2561) (hn : n + 5 ≤ L) (hcl : cells + 1 ≤ 1097) (hsl : slots + 6 ≤ 26642) (h : ls_9 (xs (n + 1)) (xs (n + 2)) (xs (n + 3)) (xs (n + 4)) te ru au re la sp le mo K) (hl : lv_has ls 7 [(0, .ref b), (1, .ref (ac 0)), (2, .ref (am 0)), (3, .ref ao), (4, .int (nI n))]) (I : gIn D A s (wA ac am ao cA) ((te, ru, au, re, la, sp, le), mo, f) H locs) (kk : ∀ (sc : StC) (mo : Mo) (f : Nat → Int64) (ls : Array Slot) (H : Heap) (locs : List Loc), K sc mo → lv_has ls 7 [(0, .ref b), (1, .ref (ac 0)), (2, .ref (am 0)), (3, .ref ao), (4, .int (nI n))] → gIn D A s (wA ac am ao cA) (sc, mo, f) H locs → W p l e room_1 s m #[Value.ref b] below meth c H locs (cells + 1) (slots + 6) Q (F0 m 1090 ls [])) : W p l e room_1 s m #[Value.ref b] below meth c H locs cells slots Q (F0 m 691 ls []) := by
  refine lv_aload_n S.1 S.2.1 d_L_691 rfl (lv_at hl 1 rfl) ?_
  refine lv_aload_n S.1 S.2.1 d_L_692 rfl (lv_at hl 0 rfl) ?_
  refine lv_iload S.1 S.2.1 d_L_693 (lv_at hl 4 rfl) ?_
  refine lv_iconst (v := (1 : Int32)) S.1 S.2.1 d_L_695 rfl ?_
  refine lv_iadd S.1 S.2.1 d_L_696 ?_
  refine sl_at 1 S hX hbl hbA hL I.2.2 rfl (by omega) d_L_697 ?_
  refine lv_aload_n S.1 S.2.1 d_L_698 rfl (lv_at hl 3 rfl) ?_
  refine callS_hw (n := 3) S (c_Lw_from l hlt D ac am ao cA te ru au re la sp le mo f (xs (n + 1)) _ _ (fun E _ _ h9 => h9.1) h) ml_Lw_109 sw_Lw_from in_Lw cw_Lw_from ⟨by decide, by decide, by decide +kernel⟩ rfl rfl ⟨Nat.le_of_ble_eq_true rfl, Nat.le_of_ble_eq_true rfl⟩ hK hA tx I hl.1 rfl rfl (Nat.le_of_ble_eq_true rfl) d_L_699 ⟨hcl, hsl⟩ (fun k u H locs hk I => ?_)
  rcases hk with ⟨rfl, r, h, hf⟩ | ⟨rfl, h, hf⟩
  · refine lv_istore (lv' := [(5, .int (0 : Int32)), (0, .ref b), (1, .ref (ac 0)), (2, .ref (am 0)), (3, .ref ao), (4, .int (nI n))]) S.1 S.2.1 d_L_702 hl (by decide) rfl (fun ls hl => ?_)
    refine lv_aload_n S.1 S.2.1 d_L_704 rfl (lv_at hl 3 rfl) ?_
    refine lv_aload_n S.1 S.2.1 d_L_705 rfl (lv_at hl 1 rfl) ?_
    refine lv_iload S.1 S.2.1 d_L_706 (lv_at hl 5 rfl) ?_
    refine lv_iconst (v := (1 : Int32)) S.1 S.2.1 d_L_708 rfl ?_
    refine lv_iadd S.1 S.2.1 d_L_709 ?_
    refine sl_at 1 S hX hbl hbA hL I.2.2 rfl (by omega) d_L_710 ?_
    refine callF_rwi (w0 := wC ac cA _) (w2 := oW ao cA _) (wf := wM am cA) S (c_Mo_from l D am cA _ _ _ h) (mkV S.2.2.2.2 ml_Lw_111 k_Mo_from rfl rfl ⟨Nat.le_of_ble_eq_true rfl, Nat.le_of_ble_eq_true rfl⟩) (rv_Mo hK (ap_P1 (ap_P2 I.1))) hK hA I hl.1 rfl rfl (Nat.le_of_ble_eq_true rfl) d_L_711 ⟨by show _ ≤ 1097; omega, by show _ ≤ 26642; omega⟩ (fun b6 mo711 H locs h I => ?_)
    refine lv_istore (lv' := [(6, .int b6), (5, .int (0 : Int32)), (0, .ref b), (1, .ref (ac 0)), (2, .ref (am 0)), (3, .ref ao), (4, .int (nI n))]) S.1 S.2.1 d_L_714 hl (by decide) rfl (fun ls hl => ?_)
    refine lv_aload_n S.1 S.2.1 d_L_716 rfl (lv_at hl 4 rfl) ?_
    refine callF_roi (w0 := wC ac cA _) (w2 := oW ao cA _) (wf := wM am cA) S (c_Mo_thrown l D am cA _ _ h) (mkV S.2.2.2.2 ml_Lw_73 k_Mo_thrown rfl rfl ⟨Nat.le_of_ble_eq_true rfl, Nat.le_of_ble_eq_true rfl⟩) (rv_Mo hK (ap_P1 (ap_P2 I.1))) hK I hl.1 rfl rfl (Nat.le_of_ble_eq_true rfl) d_L_717 ⟨by show _ ≤ 1097; omega, by show _ ≤ 26642; omega⟩ (fun t7 h => ?_)
    refine lv_iload S.1 S.2.1 d_L_720 (lv_at hl 1 rfl) ?_
    refine lv_icmp_eq (tgt := 727) S.1 S.2.1 d_L_722 (by decide) (fun hc => ?_) (fun hc => ?_)
    · refine lv_iload S.1 S.2.1 d_L_727 (lv_at hl 1 rfl) ?_
      refine lv_if_ne (tgt := 751) S.1 S.2.1 d_L_729 (by decide) (fun hd => ?_) (fun hd => ?_)
      · exact (hd rfl).elim
      · refine lv_aload_n S.1 S.2.1 d_L_732 rfl (lv_at hl 5 rfl) ?_
        refine lv_iconst (v := (0 : Int32)) S.1 S.2.1 d_L_733 rfl ?_
        refine l_out S hK (show gIn D A s (wA ac am ao cA) ((te, ru, au, u.1.1, u.1.2, sp, le), mo711, u.2) H locs from I) out_in d_L_734 ?_
        refine lv_iload S.1 S.2.1 d_L_735 (lv_at hl 0 rfl) ?_
        refine lv_if_eq (tgt := 744) S.1 S.2.1 d_L_737 (by decide) (fun hg => ?_) (fun hg => ?_)
        · refine lv_lconst (v := (0 : Int64)) S.1 S.2.1 d_L_744 rfl ?_
          refine W.lcmp S.1 S.2.1 d_L_745 ?_
          refine lv_if_eq (tgt := 751) S.1 S.2.1 d_L_746 (by decide) (fun he => ?_) (fun he => ?_)
          · refine lv_goto (tgt := 1090) S.1 S.2.1 d_L_751 (by decide) ?_
            exact kk _ _ _ _ _ _ h.2.2 (lv_sub hl [2, 3, 4, 5, 6] rfl) I
          · exact (he ((lg_cmp_eq _ _).mpr (by rw [hf]; have h2 := h.2.1; rw [if_pos hg] at h2; exact h2))).elim
        · refine lv_lconst (v := (1 : Int64)) S.1 S.2.1 d_L_740 rfl ?_
          refine lv_goto (tgt := 745) S.1 S.2.1 d_L_741 (by decide) ?_
          refine W.lcmp S.1 S.2.1 d_L_745 ?_
          refine lv_if_eq (tgt := 751) S.1 S.2.1 d_L_746 (by decide) (fun he => ?_) (fun he => ?_)
          · refine lv_goto (tgt := 1090) S.1 S.2.1 d_L_751 (by decide) ?_
            exact kk _ _ _ _ _ _ h.2.2 (lv_sub hl [2, 3, 4, 5, 6] rfl) I
          · exact (he ((lg_cmp_eq _ _).mpr (by rw [hf]; have h2 := h.2.1; rw [if_neg hg] at h2; exact h2))).elim
    · exact (hc h.1).elim
  · replace h := h.2
    refine lv_istore (lv' := [(5, .int (1 : Int32)), (0, .ref b), (1, .ref (ac 0)), (2, .ref (am 0)), (3, .ref ao), (4, .int (nI n))]) S.1 S.2.1 d_L_702 hl (by decide) rfl (fun ls hl => ?_)
    refine lv_aload_n S.1 S.2.1 d_L_704 rfl (lv_at hl 3 rfl) ?_
    refine lv_aload_n S.1 S.2.1 d_L_705 rfl (lv_at hl 1 rfl) ?_
    refine lv_iload S.1 S.2.1 d_L_706 (lv_at hl 5 rfl) ?_
    refine lv_iconst (v := (1 : Int32)) S.1 S.2.1 d_L_708 rfl ?_
    refine lv_iadd S.1 S.2.1 d_L_709 ?_
    refine sl_at 1 S hX hbl hbA hL I.2.2 rfl (by omega) d_L_710 ?_
    refine callF_rwi (w0 := wC ac cA _) (w2 := oW ao cA _) (wf := wM am cA) S (c_Mo_from l D am cA _ _ _ h) (mkV S.2.2.2.2 ml_Lw_111 k_Mo_from rfl rfl ⟨Nat.le_of_ble_eq_true rfl, Nat.le_of_ble_eq_true rfl⟩) (rv_Mo hK (ap_P1 (ap_P2 I.1))) hK hA I hl.1 rfl rfl (Nat.le_of_ble_eq_true rfl) d_L_711 ⟨by show _ ≤ 1097; omega, by show _ ≤ 26642; omega⟩ (fun b6 mo711 H locs h I => ?_)
    refine lv_istore (lv' := [(6, .int b6), (5, .int (1 : Int32)), (0, .ref b), (1, .ref (ac 0)), (2, .ref (am 0)), (3, .ref ao), (4, .int (nI n))]) S.1 S.2.1 d_L_714 hl (by decide) rfl (fun ls hl => ?_)
    refine lv_aload_n S.1 S.2.1 d_L_716 rfl (lv_at hl 4 rfl) ?_
    refine callF_roi (w0 := wC ac cA _) (w2 := oW ao cA _) (wf := wM am cA) S (c_Mo_thrown l D am cA _ _ h) (mkV S.2.2.2.2 ml_Lw_73 k_Mo_thrown rfl rfl ⟨Nat.le_of_ble_eq_true rfl, Nat.le_of_ble_eq_true rfl⟩) (rv_Mo hK (ap_P1 (ap_P2 I.1))) hK I hl.1 rfl rfl (Nat.le_of_ble_eq_true rfl) d_L_717 ⟨by show _ ≤ 1097; omega, by show _ ≤ 26642; omega⟩ (fun t7 h => ?_)
    refine lv_iload S.1 S.2.1 d_L_720 (lv_at hl 1 rfl) ?_
    refine lv_icmp_eq (tgt := 727) S.1 S.2.1 d_L_722 (by decide) (fun hc => ?_) (fun hc => ?_)
    · refine lv_iload S.1 S.2.1 d_L_727 (lv_at hl 1 rfl) ?_
      refine lv_if_ne (tgt := 751) S.1 S.2.1 d_L_729 (by decide) (fun hd => ?_) (fun hd => ?_)
      · refine lv_goto (tgt := 1090) S.1 S.2.1 d_L_751 (by decide) ?_
        exact kk _ _ _ _ _ _ h.2 (lv_sub hl [2, 3, 4, 5, 6] rfl) I
      · exact absurd hd (by decide)
    · exact (hc (h.1.trans (by decide))).elim
set_option maxHeartbeats 4000000 in
set_option maxRecDepth 100000 in
theorem cs_10 {p : Program} {l : Launch} {e : Env} {s : State} {m : MethodId} {below : List Frame} {meth : Method} {c : Code} {Q : State → Prop} {D : va_G} {A : Nat → Prop} {ac am : Nat → Nat} {ao b L n cells slots : Nat} {xs : Nat → Int32} {cA : ClassId × ClassId × ClassId} {te : Te} {ru : Ru} {au : Au} {re : Re} {la : La} {sp : Sp} {le : Le} {mo : Mo} {f : Nat → Int64} {K : StC → Mo → Prop} {H : Heap} {locs : List Loc} {ls : Array Slot} (S : CallFix p m c code 7 s #[Value.ref b] gtbl R_Lw) (hlt : l.stackTraces = false) (hK : gK D (tyA cA) s) (hA : ∀ q : Nat, s.heap.size ≤ q → A q) (hbA : ¬ A b) (tx : tX A s s.heap) (hX : va_X b L xs s s.heap) (hbl : b < s.heap.size) (hL : L ≤ 2561) (hn : n + 5 ≤ L) (hcl : cells + 1 ≤ 1097) (hsl : slots + 6 ≤ 26642) (h : ls_10 (xs (n + 1)) (xs (n + 2)) (xs (n + 3)) (xs (n + 4)) te ru au re la sp le mo K) (hl : lv_has ls 7 [(0, .ref b), (1, .ref (ac 0)), (2, .ref (am 0)), (3, .ref ao), (4, .int (nI n))]) (I : gIn D A s (wA ac am ao cA) ((te, ru, au, re, la, sp, le), mo, f) H locs) (kk : ∀ (sc : StC) (mo : Mo) (f : Nat → Int64) (ls : Array Slot) (H : Heap) (locs : List Loc), K sc mo → lv_has ls 7 [(0, .ref b), (1, .ref (ac 0)), (2, .ref (am 0)), (3, .ref ao), (4, .int (nI n))] → gIn D A s (wA ac am ao cA) (sc, mo, f) H locs → W p l e room_1 s m #[Value.ref b] below meth c H locs (cells + 1) (slots + 6) Q (F0 m 1090 ls [])) : W p l e room_1 s m #[Value.ref b] below meth c H locs cells slots Q (F0 m 754 ls []) := by
  refine lv_aload_n S.1 S.2.1 d_L_754 rfl (lv_at hl 1 rfl) ?_
  refine lv_aload_n S.1 S.2.1 d_L_755 rfl (lv_at hl 0 rfl) ?_
  refine lv_iload S.1 S.2.1 d_L_756 (lv_at hl 4 rfl) ?_
  refine lv_iconst (v := (1 : Int32)) S.1 S.2.1 d_L_758 rfl ?_
  refine lv_iadd S.1 S.2.1 d_L_759 ?_
  refine sl_at 1 S hX hbl hbA hL I.2.2 rfl (by omega) d_L_760 ?_
  refine lv_aload_n S.1 S.2.1 d_L_761 rfl (lv_at hl 3 rfl) ?_
  refine callS_hw (n := 3) S (c_Lw_into l hlt D ac am ao cA te ru au re la sp le mo f (xs (n + 1)) _ _ (fun E _ _ h9 => h9.1) h) ml_Lw_112 sw_Lw_into in_Lw cw_Lw_into ⟨by decide, by decide, by decide +kernel⟩ rfl rfl ⟨Nat.le_of_ble_eq_true rfl, Nat.le_of_ble_eq_true rfl⟩ hK hA tx I hl.1 rfl rfl (Nat.le_of_ble_eq_true rfl) d_L_762 ⟨hcl, hsl⟩ (fun k u H locs hk I => ?_)
  rcases hk with ⟨rfl, r, h, hf⟩ | ⟨rfl, h, hf⟩
  · refine lv_istore (lv' := [(5, .int (0 : Int32)), (0, .ref b), (1, .ref (ac 0)), (2, .ref (am 0)), (3, .ref ao), (4, .int (nI n))]) S.1 S.2.1 d_L_765 hl (by decide) rfl (fun ls hl => ?_)
    refine lv_aload_n S.1 S.2.1 d_L_767 rfl (lv_at hl 3 rfl) ?_
    refine lv_aload_n S.1 S.2.1 d_L_768 rfl (lv_at hl 1 rfl) ?_
    refine lv_iload S.1 S.2.1 d_L_769 (lv_at hl 5 rfl) ?_
    refine lv_iconst (v := (1 : Int32)) S.1 S.2.1 d_L_771 rfl ?_
    refine lv_iadd S.1 S.2.1 d_L_772 ?_
    refine sl_at 1 S hX hbl hbA hL I.2.2 rfl (by omega) d_L_773 ?_
    refine callF_rwi (w0 := wC ac cA _) (w2 := oW ao cA _) (wf := wM am cA) S (c_Mo_into l D am cA _ _ _ h) (mkV S.2.2.2.2 ml_Lw_114 k_Mo_into rfl rfl ⟨Nat.le_of_ble_eq_true rfl, Nat.le_of_ble_eq_true rfl⟩) (rv_Mo hK (ap_P1 (ap_P2 I.1))) hK hA I hl.1 rfl rfl (Nat.le_of_ble_eq_true rfl) d_L_774 ⟨by show _ ≤ 1097; omega, by show _ ≤ 26642; omega⟩ (fun b6 mo774 H locs h I => ?_)
    refine lv_istore (lv' := [(6, .int b6), (5, .int (0 : Int32)), (0, .ref b), (1, .ref (ac 0)), (2, .ref (am 0)), (3, .ref ao), (4, .int (nI n))]) S.1 S.2.1 d_L_777 hl (by decide) rfl (fun ls hl => ?_)
    refine lv_aload_n S.1 S.2.1 d_L_779 rfl (lv_at hl 4 rfl) ?_
    refine callF_roi (w0 := wC ac cA _) (w2 := oW ao cA _) (wf := wM am cA) S (c_Mo_thrown l D am cA _ _ h) (mkV S.2.2.2.2 ml_Lw_73 k_Mo_thrown rfl rfl ⟨Nat.le_of_ble_eq_true rfl, Nat.le_of_ble_eq_true rfl⟩) (rv_Mo hK (ap_P1 (ap_P2 I.1))) hK I hl.1 rfl rfl (Nat.le_of_ble_eq_true rfl) d_L_780 ⟨by show _ ≤ 1097; omega, by show _ ≤ 26642; omega⟩ (fun t7 h => ?_)
    refine lv_iload S.1 S.2.1 d_L_783 (lv_at hl 1 rfl) ?_
    refine lv_icmp_eq (tgt := 790) S.1 S.2.1 d_L_785 (by decide) (fun hc => ?_) (fun hc => ?_)
    · refine lv_iload S.1 S.2.1 d_L_790 (lv_at hl 1 rfl) ?_
      refine lv_if_ne (tgt := 814) S.1 S.2.1 d_L_792 (by decide) (fun hd => ?_) (fun hd => ?_)
      · exact (hd rfl).elim
      · refine lv_aload_n S.1 S.2.1 d_L_795 rfl (lv_at hl 5 rfl) ?_
        refine lv_iconst (v := (0 : Int32)) S.1 S.2.1 d_L_796 rfl ?_
        refine l_out S hK (show gIn D A s (wA ac am ao cA) ((te, ru, au, u.1.1, u.1.2, sp, le), mo774, u.2) H locs from I) out_in d_L_797 ?_
        refine lv_iload S.1 S.2.1 d_L_798 (lv_at hl 0 rfl) ?_
        refine lv_if_eq (tgt := 807) S.1 S.2.1 d_L_800 (by decide) (fun hg => ?_) (fun hg => ?_)
        · refine lv_lconst (v := (0 : Int64)) S.1 S.2.1 d_L_807 rfl ?_
          refine W.lcmp S.1 S.2.1 d_L_808 ?_
          refine lv_if_eq (tgt := 814) S.1 S.2.1 d_L_809 (by decide) (fun he => ?_) (fun he => ?_)
          · refine lv_goto (tgt := 1090) S.1 S.2.1 d_L_814 (by decide) ?_
            exact kk _ _ _ _ _ _ h.2.2 (lv_sub hl [2, 3, 4, 5, 6] rfl) I
          · exact (he ((lg_cmp_eq _ _).mpr (by rw [hf]; have h2 := h.2.1; rw [if_pos hg] at h2; exact h2))).elim
        · refine lv_lconst (v := (1 : Int64)) S.1 S.2.1 d_L_803 rfl ?_
          refine lv_goto (tgt := 808) S.1 S.2.1 d_L_804 (by decide) ?_
          refine W.lcmp S.1 S.2.1 d_L_808 ?_
          refine lv_if_eq (tgt := 814) S.1 S.2.1 d_L_809 (by decide) (fun he => ?_) (fun he => ?_)
          · refine lv_goto (tgt := 1090) S.1 S.2.1 d_L_814 (by decide) ?_
            exact kk _ _ _ _ _ _ h.2.2 (lv_sub hl [2, 3, 4, 5, 6] rfl) I
          · exact (he ((lg_cmp_eq _ _).mpr (by rw [hf]; have h2 := h.2.1; rw [if_neg hg] at h2; exact h2))).elim
    · exact (hc h.1).elim
  · replace h := h.2
    refine lv_istore (lv' := [(5, .int (1 : Int32)), (0, .ref b), (1, .ref (ac 0)), (2, .ref (am 0)), (3, .ref ao), (4, .int (nI n))]) S.1 S.2.1 d_L_765 hl (by decide) rfl (fun ls hl => ?_)
    refine lv_aload_n S.1 S.2.1 d_L_767 rfl (lv_at hl 3 rfl) ?_
    refine lv_aload_n S.1 S.2.1 d_L_768 rfl (lv_at hl 1 rfl) ?_
    refine lv_iload S.1 S.2.1 d_L_769 (lv_at hl 5 rfl) ?_
    refine lv_iconst (v := (1 : Int32)) S.1 S.2.1 d_L_771 rfl ?_
    refine lv_iadd S.1 S.2.1 d_L_772 ?_
    refine sl_at 1 S hX hbl hbA hL I.2.2 rfl (by omega) d_L_773 ?_
    refine callF_rwi (w0 := wC ac cA _) (w2 := oW ao cA _) (wf := wM am cA) S (c_Mo_into l D am cA _ _ _ h) (mkV S.2.2.2.2 ml_Lw_114 k_Mo_into rfl rfl ⟨Nat.le_of_ble_eq_true rfl, Nat.le_of_ble_eq_true rfl⟩) (rv_Mo hK (ap_P1 (ap_P2 I.1))) hK hA I hl.1 rfl rfl (Nat.le_of_ble_eq_true rfl) d_L_774 ⟨by show _ ≤ 1097; omega, by show _ ≤ 26642; omega⟩ (fun b6 mo774 H locs h I => ?_)
    refine lv_istore (lv' := [(6, .int b6), (5, .int (1 : Int32)), (0, .ref b), (1, .ref (ac 0)), (2, .ref (am 0)), (3, .ref ao), (4, .int (nI n))]) S.1 S.2.1 d_L_777 hl (by decide) rfl (fun ls hl => ?_)
    refine lv_aload_n S.1 S.2.1 d_L_779 rfl (lv_at hl 4 rfl) ?_
    refine callF_roi (w0 := wC ac cA _) (w2 := oW ao cA _) (wf := wM am cA) S (c_Mo_thrown l D am cA _ _ h) (mkV S.2.2.2.2 ml_Lw_73 k_Mo_thrown rfl rfl ⟨Nat.le_of_ble_eq_true rfl, Nat.le_of_ble_eq_true rfl⟩) (rv_Mo hK (ap_P1 (ap_P2 I.1))) hK I hl.1 rfl rfl (Nat.le_of_ble_eq_true rfl) d_L_780 ⟨by show _ ≤ 1097; omega, by show _ ≤ 26642; omega⟩ (fun t7 h => ?_)
    refine lv_iload S.1 S.2.1 d_L_783 (lv_at hl 1 rfl) ?_
    refine lv_icmp_eq (tgt := 790) S.1 S.2.1 d_L_785 (by decide) (fun hc => ?_) (fun hc => ?_)
    · refine lv_iload S.1 S.2.1 d_L_790 (lv_at hl 1 rfl) ?_
      refine lv_if_ne (tgt := 814) S.1 S.2.1 d_L_792 (by decide) (fun hd => ?_) (fun hd => ?_)
      · refine lv_goto (tgt := 1090) S.1 S.2.1 d_L_814 (by decide) ?_
        exact kk _ _ _ _ _ _ h.2 (lv_sub hl [2, 3, 4, 5, 6] rfl) I
      · exact absurd hd (by decide)
    · exact (hc (h.1.trans (by decide))).elim
set_option maxHeartbeats 4000000 in
set_option maxRecDepth 100000 in
theorem cs_11 {p : Program} {l : Launch} {e : Env} {s : State} {m : MethodId} {below : List Frame} {meth : Method} {c : Code} {Q : State → Prop} {D : va_G} {A : Nat → Prop} {ac am : Nat → Nat} {ao b L n cells slots : Nat} {xs : Nat → Int32} {cA : ClassId × ClassId × ClassId} {te : Te} {ru : Ru} {au : Au} {re : Re} {la : La} {sp : Sp} {le : Le} {mo : Mo} {f : Nat → Int64} {K : StC → Mo → Prop} {H : Heap} {locs : List Loc} {ls : Array Slot} (S : CallFix p m c code 7 s #[Value.ref b] gtbl R_Lw) (hlt : l.stackTraces = false) (hK : gK D (tyA cA) s) (hA : ∀ q : Nat, s.heap.size ≤ q → A q) (hbA : ¬ A b) (tx : tX A s s.heap) (hX : va_X b L xs s s.heap) (hbl : b < s.heap.size) (hL : L ≤ 2561) (hn : n + 5 ≤ L) (hcl : cells + 1 ≤ 1097) (hsl : slots + 6 ≤ 26642) (h : ls_11 (xs (n + 1)) (xs (n + 2)) (xs (n + 3)) (xs (n + 4)) te ru au re la sp le mo K) (hl : lv_has ls 7 [(0, .ref b), (1, .ref (ac 0)), (2, .ref (am 0)), (3, .ref ao), (4, .int (nI n))]) (I : gIn D A s (wA ac am ao cA) ((te, ru, au, re, la, sp, le), mo, f) H locs) (kk : ∀ (sc : StC) (mo : Mo) (f : Nat → Int64) (ls : Array Slot) (H : Heap) (locs : List Loc), K sc mo → lv_has ls 7 [(0, .ref b), (1, .ref (ac 0)), (2, .ref (am 0)), (3, .ref ao), (4, .int (nI n))] → gIn D A s (wA ac am ao cA) (sc, mo, f) H locs → W p l e room_1 s m #[Value.ref b] below meth c H locs (cells + 1) (slots + 6) Q (F0 m 1090 ls [])) : W p l e room_1 s m #[Value.ref b] below meth c H locs cells slots Q (F0 m 817 ls []) := by
  refine lv_aload_n S.1 S.2.1 d_L_817 rfl (lv_at hl 1 rfl) ?_
  refine lv_aload_n S.1 S.2.1 d_L_818 rfl (lv_at hl 0 rfl) ?_
  refine lv_iload S.1 S.2.1 d_L_819 (lv_at hl 4 rfl) ?_
  refine lv_iconst (v := (1 : Int32)) S.1 S.2.1 d_L_821 rfl ?_
  refine lv_iadd S.1 S.2.1 d_L_822 ?_
  refine sl_at 1 S hX hbl hbA hL I.2.2 rfl (by omega) d_L_823 ?_
  refine lv_aload_n S.1 S.2.1 d_L_824 rfl (lv_at hl 3 rfl) ?_
  refine callS_hw (n := 3) S (c_Lw_least l hlt D ac am ao cA te ru au re la sp le mo f (xs (n + 1)) _ _ (fun E _ h9 => h9.1) h) ml_Lw_115 sw_Lw_least in_Lw cw_Lw_least ⟨by decide, by decide, by decide +kernel⟩ rfl rfl ⟨Nat.le_of_ble_eq_true rfl, Nat.le_of_ble_eq_true rfl⟩ hK hA tx I hl.1 rfl rfl (Nat.le_of_ble_eq_true rfl) d_L_825 ⟨hcl, hsl⟩ (fun k u H locs hk I => ?_)
  rcases hk with ⟨rfl, r, h, hf⟩ | ⟨rfl, h, hf⟩
  · refine lv_istore (lv' := [(5, .int (0 : Int32)), (0, .ref b), (1, .ref (ac 0)), (2, .ref (am 0)), (3, .ref ao), (4, .int (nI n))]) S.1 S.2.1 d_L_828 hl (by decide) rfl (fun ls hl => ?_)
    refine lv_aload_n S.1 S.2.1 d_L_830 rfl (lv_at hl 3 rfl) ?_
    refine lv_aload_n S.1 S.2.1 d_L_831 rfl (lv_at hl 1 rfl) ?_
    refine lv_iload S.1 S.2.1 d_L_832 (lv_at hl 5 rfl) ?_
    refine lv_iconst (v := (1 : Int32)) S.1 S.2.1 d_L_834 rfl ?_
    refine lv_iadd S.1 S.2.1 d_L_835 ?_
    refine sl_at 1 S hX hbl hbA hL I.2.2 rfl (by omega) d_L_836 ?_
    refine callF_rwi (w0 := wC ac cA _) (w2 := oW ao cA _) (wf := wM am cA) S (c_Mo_least l D am cA _ _ _ h) (mkV S.2.2.2.2 ml_Lw_117 k_Mo_least rfl rfl ⟨Nat.le_of_ble_eq_true rfl, Nat.le_of_ble_eq_true rfl⟩) (rv_Mo hK (ap_P1 (ap_P2 I.1))) hK hA I hl.1 rfl rfl (Nat.le_of_ble_eq_true rfl) d_L_837 ⟨by show _ ≤ 1097; omega, by show _ ≤ 26642; omega⟩ (fun b6 mo837 H locs h I => ?_)
    refine lv_istore (lv' := [(6, .int b6), (5, .int (0 : Int32)), (0, .ref b), (1, .ref (ac 0)), (2, .ref (am 0)), (3, .ref ao), (4, .int (nI n))]) S.1 S.2.1 d_L_840 hl (by decide) rfl (fun ls hl => ?_)
    refine lv_aload_n S.1 S.2.1 d_L_842 rfl (lv_at hl 4 rfl) ?_
    refine callF_roi (w0 := wC ac cA _) (w2 := oW ao cA _) (wf := wM am cA) S (c_Mo_thrown l D am cA _ _ h) (mkV S.2.2.2.2 ml_Lw_73 k_Mo_thrown rfl rfl ⟨Nat.le_of_ble_eq_true rfl, Nat.le_of_ble_eq_true rfl⟩) (rv_Mo hK (ap_P1 (ap_P2 I.1))) hK I hl.1 rfl rfl (Nat.le_of_ble_eq_true rfl) d_L_843 ⟨by show _ ≤ 1097; omega, by show _ ≤ 26642; omega⟩ (fun t7 h => ?_)
    refine lv_iload S.1 S.2.1 d_L_846 (lv_at hl 1 rfl) ?_
    refine lv_icmp_eq (tgt := 853) S.1 S.2.1 d_L_848 (by decide) (fun hc => ?_) (fun hc => ?_)
    · refine lv_iload S.1 S.2.1 d_L_853 (lv_at hl 1 rfl) ?_
      refine lv_if_ne (tgt := 870) S.1 S.2.1 d_L_855 (by decide) (fun hd => ?_) (fun hd => ?_)
      · exact (hd rfl).elim
      · refine lv_aload_n S.1 S.2.1 d_L_858 rfl (lv_at hl 5 rfl) ?_
        refine lv_iconst (v := (0 : Int32)) S.1 S.2.1 d_L_859 rfl ?_
        refine l_out S hK (show gIn D A s (wA ac am ao cA) ((te, ru, au, u.1, la, sp, le), mo837, u.2) H locs from I) out_in d_L_860 ?_
        refine lv_iload S.1 S.2.1 d_L_861 (lv_at hl 0 rfl) ?_
        refine lv_i2l S.1 S.2.1 d_L_863 rfl ?_
        refine W.lcmp S.1 S.2.1 d_L_864 ?_
        refine lv_if_eq (tgt := 870) S.1 S.2.1 d_L_865 (by decide) (fun he => ?_) (fun he => ?_)
        · refine lv_goto (tgt := 1090) S.1 S.2.1 d_L_870 (by decide) ?_
          exact kk _ _ _ _ _ _ h.2.2 (lv_sub hl [2, 3, 4, 5, 6] rfl) I
        · exact (he ((lg_cmp_eq _ _).mpr (by rw [hf]; exact h.2.1))).elim
    · exact (hc h.1).elim
  · replace h := h.2
    refine lv_istore (lv' := [(5, .int (1 : Int32)), (0, .ref b), (1, .ref (ac 0)), (2, .ref (am 0)), (3, .ref ao), (4, .int (nI n))]) S.1 S.2.1 d_L_828 hl (by decide) rfl (fun ls hl => ?_)
    refine lv_aload_n S.1 S.2.1 d_L_830 rfl (lv_at hl 3 rfl) ?_
    refine lv_aload_n S.1 S.2.1 d_L_831 rfl (lv_at hl 1 rfl) ?_
    refine lv_iload S.1 S.2.1 d_L_832 (lv_at hl 5 rfl) ?_
    refine lv_iconst (v := (1 : Int32)) S.1 S.2.1 d_L_834 rfl ?_
    refine lv_iadd S.1 S.2.1 d_L_835 ?_
    refine sl_at 1 S hX hbl hbA hL I.2.2 rfl (by omega) d_L_836 ?_
    refine callF_rwi (w0 := wC ac cA _) (w2 := oW ao cA _) (wf := wM am cA) S (c_Mo_least l D am cA _ _ _ h) (mkV S.2.2.2.2 ml_Lw_117 k_Mo_least rfl rfl ⟨Nat.le_of_ble_eq_true rfl, Nat.le_of_ble_eq_true rfl⟩) (rv_Mo hK (ap_P1 (ap_P2 I.1))) hK hA I hl.1 rfl rfl (Nat.le_of_ble_eq_true rfl) d_L_837 ⟨by show _ ≤ 1097; omega, by show _ ≤ 26642; omega⟩ (fun b6 mo837 H locs h I => ?_)
    refine lv_istore (lv' := [(6, .int b6), (5, .int (1 : Int32)), (0, .ref b), (1, .ref (ac 0)), (2, .ref (am 0)), (3, .ref ao), (4, .int (nI n))]) S.1 S.2.1 d_L_840 hl (by decide) rfl (fun ls hl => ?_)
    refine lv_aload_n S.1 S.2.1 d_L_842 rfl (lv_at hl 4 rfl) ?_
    refine callF_roi (w0 := wC ac cA _) (w2 := oW ao cA _) (wf := wM am cA) S (c_Mo_thrown l D am cA _ _ h) (mkV S.2.2.2.2 ml_Lw_73 k_Mo_thrown rfl rfl ⟨Nat.le_of_ble_eq_true rfl, Nat.le_of_ble_eq_true rfl⟩) (rv_Mo hK (ap_P1 (ap_P2 I.1))) hK I hl.1 rfl rfl (Nat.le_of_ble_eq_true rfl) d_L_843 ⟨by show _ ≤ 1097; omega, by show _ ≤ 26642; omega⟩ (fun t7 h => ?_)
    refine lv_iload S.1 S.2.1 d_L_846 (lv_at hl 1 rfl) ?_
    refine lv_icmp_eq (tgt := 853) S.1 S.2.1 d_L_848 (by decide) (fun hc => ?_) (fun hc => ?_)
    · refine lv_iload S.1 S.2.1 d_L_853 (lv_at hl 1 rfl) ?_
      refine lv_if_ne (tgt := 870) S.1 S.2.1 d_L_855 (by decide) (fun hd => ?_) (fun hd => ?_)
      · refine lv_goto (tgt := 1090) S.1 S.2.1 d_L_870 (by decide) ?_
        exact kk _ _ _ _ _ _ h.2 (lv_sub hl [2, 3, 4, 5, 6] rfl) I
      · exact absurd hd (by decide)
    · exact (hc (h.1.trans (by decide))).elim
set_option maxHeartbeats 4000000 in
set_option maxRecDepth 100000 in
theorem cs_12 {p : Program} {l : Launch} {e : Env} {s : State} {m : MethodId} {below : List Frame} {meth : Method} {c : Code} {Q : State → Prop} {D : va_G} {A : Nat → Prop} {ac am : Nat → Nat} {ao b L n cells slots : Nat} {xs : Nat → Int32} {cA : ClassId × ClassId × ClassId} {te : Te} {ru : Ru} {au : Au} {re : Re} {la : La} {sp : Sp} {le : Le} {mo : Mo} {f : Nat → Int64} {K : StC → Mo → Prop} {H : Heap} {locs : List Loc} {ls : Array Slot} (S : CallFix p m c code 7 s #[Value.ref b] gtbl R_Lw) (hlt : l.stackTraces = false) (hK : gK D (tyA cA) s) (hA : ∀ q : Nat, s.heap.size ≤ q → A q) (hbA : ¬ A b) (tx : tX A s s.heap) (hX : va_X b L xs s s.heap) (hbl : b < s.heap.size) (hL : L ≤ 2561) (hn : n + 5 ≤ L) (hcl : cells + 1 ≤ 1097) (hsl : slots + 6 ≤ 26642) (h : ls_12 (xs (n + 1)) (xs (n + 2)) (xs (n + 3)) (xs (n + 4)) te ru au re la sp le mo K) (hl : lv_has ls 7 [(0, .ref b), (1, .ref (ac 0)), (2, .ref (am 0)), (3, .ref ao), (4, .int (nI n))]) (I : gIn D A s (wA ac am ao cA) ((te, ru, au, re, la, sp, le), mo, f) H locs) (kk : ∀ (sc : StC) (mo : Mo) (f : Nat → Int64) (ls : Array Slot) (H : Heap) (locs : List Loc), K sc mo → lv_has ls 7 [(0, .ref b), (1, .ref (ac 0)), (2, .ref (am 0)), (3, .ref ao), (4, .int (nI n))] → gIn D A s (wA ac am ao cA) (sc, mo, f) H locs → W p l e room_1 s m #[Value.ref b] below meth c H locs (cells + 1) (slots + 6) Q (F0 m 1090 ls [])) : W p l e room_1 s m #[Value.ref b] below meth c H locs cells slots Q (F0 m 873 ls []) := by
  refine lv_aload_n S.1 S.2.1 d_L_873 rfl (lv_at hl 1 rfl) ?_
  refine lv_aload_n S.1 S.2.1 d_L_874 rfl (lv_at hl 0 rfl) ?_
  refine lv_iload S.1 S.2.1 d_L_875 (lv_at hl 4 rfl) ?_
  refine lv_iconst (v := (1 : Int32)) S.1 S.2.1 d_L_877 rfl ?_
  refine lv_iadd S.1 S.2.1 d_L_878 ?_
  refine sl_at 1 S hX hbl hbA hL I.2.2 rfl (by omega) d_L_879 ?_
  refine lv_aload_n S.1 S.2.1 d_L_880 rfl (lv_at hl 3 rfl) ?_
  refine callS_hw (n := 3) S (c_Lw_lightest l hlt D ac am ao cA te ru au re la sp le mo f (xs (n + 1)) _ _ (fun E _ h9 => h9.1) h) ml_Lw_118 sw_Lw_lightest in_Lw cw_Lw_lightest ⟨by decide, by decide, by decide +kernel⟩ rfl rfl ⟨Nat.le_of_ble_eq_true rfl, Nat.le_of_ble_eq_true rfl⟩ hK hA tx I hl.1 rfl rfl (Nat.le_of_ble_eq_true rfl) d_L_881 ⟨hcl, hsl⟩ (fun k u H locs hk I => ?_)
  rcases hk with ⟨rfl, r, h, hf⟩ | ⟨rfl, h, hf⟩
  · refine lv_istore (lv' := [(5, .int (0 : Int32)), (0, .ref b), (1, .ref (ac 0)), (2, .ref (am 0)), (3, .ref ao), (4, .int (nI n))]) S.1 S.2.1 d_L_884 hl (by decide) rfl (fun ls hl => ?_)
    refine lv_aload_n S.1 S.2.1 d_L_886 rfl (lv_at hl 3 rfl) ?_
    refine lv_aload_n S.1 S.2.1 d_L_887 rfl (lv_at hl 1 rfl) ?_
    refine lv_iload S.1 S.2.1 d_L_888 (lv_at hl 5 rfl) ?_
    refine lv_iconst (v := (1 : Int32)) S.1 S.2.1 d_L_890 rfl ?_
    refine lv_iadd S.1 S.2.1 d_L_891 ?_
    refine sl_at 1 S hX hbl hbA hL I.2.2 rfl (by omega) d_L_892 ?_
    refine callF_rwi (w0 := wC ac cA _) (w2 := oW ao cA _) (wf := wM am cA) S (c_Mo_lightest l D am cA _ _ _ h) (mkV S.2.2.2.2 ml_Lw_120 k_Mo_lightest rfl rfl ⟨Nat.le_of_ble_eq_true rfl, Nat.le_of_ble_eq_true rfl⟩) (rv_Mo hK (ap_P1 (ap_P2 I.1))) hK hA I hl.1 rfl rfl (Nat.le_of_ble_eq_true rfl) d_L_893 ⟨by show _ ≤ 1097; omega, by show _ ≤ 26642; omega⟩ (fun b6 mo893 H locs h I => ?_)
    refine lv_istore (lv' := [(6, .int b6), (5, .int (0 : Int32)), (0, .ref b), (1, .ref (ac 0)), (2, .ref (am 0)), (3, .ref ao), (4, .int (nI n))]) S.1 S.2.1 d_L_896 hl (by decide) rfl (fun ls hl => ?_)
    refine lv_aload_n S.1 S.2.1 d_L_898 rfl (lv_at hl 4 rfl) ?_
    refine callF_roi (w0 := wC ac cA _) (w2 := oW ao cA _) (wf := wM am cA) S (c_Mo_thrown l D am cA _ _ h) (mkV S.2.2.2.2 ml_Lw_73 k_Mo_thrown rfl rfl ⟨Nat.le_of_ble_eq_true rfl, Nat.le_of_ble_eq_true rfl⟩) (rv_Mo hK (ap_P1 (ap_P2 I.1))) hK I hl.1 rfl rfl (Nat.le_of_ble_eq_true rfl) d_L_899 ⟨by show _ ≤ 1097; omega, by show _ ≤ 26642; omega⟩ (fun t7 h => ?_)
    refine lv_iload S.1 S.2.1 d_L_902 (lv_at hl 1 rfl) ?_
    refine lv_icmp_eq (tgt := 909) S.1 S.2.1 d_L_904 (by decide) (fun hc => ?_) (fun hc => ?_)
    · refine lv_iload S.1 S.2.1 d_L_909 (lv_at hl 1 rfl) ?_
      refine lv_if_ne (tgt := 926) S.1 S.2.1 d_L_911 (by decide) (fun hd => ?_) (fun hd => ?_)
      · exact (hd rfl).elim
      · refine lv_aload_n S.1 S.2.1 d_L_914 rfl (lv_at hl 5 rfl) ?_
        refine lv_iconst (v := (0 : Int32)) S.1 S.2.1 d_L_915 rfl ?_
        refine l_out S hK (show gIn D A s (wA ac am ao cA) ((te, ru, u.1, re, la, sp, le), mo893, u.2) H locs from I) out_in d_L_916 ?_
        refine lv_iload S.1 S.2.1 d_L_917 (lv_at hl 0 rfl) ?_
        refine lv_i2l S.1 S.2.1 d_L_919 rfl ?_
        refine W.lcmp S.1 S.2.1 d_L_920 ?_
        refine lv_if_eq (tgt := 926) S.1 S.2.1 d_L_921 (by decide) (fun he => ?_) (fun he => ?_)
        · refine lv_goto (tgt := 1090) S.1 S.2.1 d_L_926 (by decide) ?_
          exact kk _ _ _ _ _ _ h.2.2 (lv_sub hl [2, 3, 4, 5, 6] rfl) I
        · exact (he ((lg_cmp_eq _ _).mpr (by rw [hf]; exact h.2.1))).elim
    · exact (hc h.1).elim
  · replace h := h.2
    refine lv_istore (lv' := [(5, .int (1 : Int32)), (0, .ref b), (1, .ref (ac 0)), (2, .ref (am 0)), (3, .ref ao), (4, .int (nI n))]) S.1 S.2.1 d_L_884 hl (by decide) rfl (fun ls hl => ?_)
    refine lv_aload_n S.1 S.2.1 d_L_886 rfl (lv_at hl 3 rfl) ?_
    refine lv_aload_n S.1 S.2.1 d_L_887 rfl (lv_at hl 1 rfl) ?_
    refine lv_iload S.1 S.2.1 d_L_888 (lv_at hl 5 rfl) ?_
    refine lv_iconst (v := (1 : Int32)) S.1 S.2.1 d_L_890 rfl ?_
    refine lv_iadd S.1 S.2.1 d_L_891 ?_
    refine sl_at 1 S hX hbl hbA hL I.2.2 rfl (by omega) d_L_892 ?_
    refine callF_rwi (w0 := wC ac cA _) (w2 := oW ao cA _) (wf := wM am cA) S (c_Mo_lightest l D am cA _ _ _ h) (mkV S.2.2.2.2 ml_Lw_120 k_Mo_lightest rfl rfl ⟨Nat.le_of_ble_eq_true rfl, Nat.le_of_ble_eq_true rfl⟩) (rv_Mo hK (ap_P1 (ap_P2 I.1))) hK hA I hl.1 rfl rfl (Nat.le_of_ble_eq_true rfl) d_L_893 ⟨by show _ ≤ 1097; omega, by show _ ≤ 26642; omega⟩ (fun b6 mo893 H locs h I => ?_)
    refine lv_istore (lv' := [(6, .int b6), (5, .int (1 : Int32)), (0, .ref b), (1, .ref (ac 0)), (2, .ref (am 0)), (3, .ref ao), (4, .int (nI n))]) S.1 S.2.1 d_L_896 hl (by decide) rfl (fun ls hl => ?_)
    refine lv_aload_n S.1 S.2.1 d_L_898 rfl (lv_at hl 4 rfl) ?_
    refine callF_roi (w0 := wC ac cA _) (w2 := oW ao cA _) (wf := wM am cA) S (c_Mo_thrown l D am cA _ _ h) (mkV S.2.2.2.2 ml_Lw_73 k_Mo_thrown rfl rfl ⟨Nat.le_of_ble_eq_true rfl, Nat.le_of_ble_eq_true rfl⟩) (rv_Mo hK (ap_P1 (ap_P2 I.1))) hK I hl.1 rfl rfl (Nat.le_of_ble_eq_true rfl) d_L_899 ⟨by show _ ≤ 1097; omega, by show _ ≤ 26642; omega⟩ (fun t7 h => ?_)
    refine lv_iload S.1 S.2.1 d_L_902 (lv_at hl 1 rfl) ?_
    refine lv_icmp_eq (tgt := 909) S.1 S.2.1 d_L_904 (by decide) (fun hc => ?_) (fun hc => ?_)
    · refine lv_iload S.1 S.2.1 d_L_909 (lv_at hl 1 rfl) ?_
      refine lv_if_ne (tgt := 926) S.1 S.2.1 d_L_911 (by decide) (fun hd => ?_) (fun hd => ?_)
      · refine lv_goto (tgt := 1090) S.1 S.2.1 d_L_926 (by decide) ?_
        exact kk _ _ _ _ _ _ h.2 (lv_sub hl [2, 3, 4, 5, 6] rfl) I
      · exact absurd hd (by decide)
    · exact (hc (h.1.trans (by decide))).elim
set_option maxHeartbeats 4000000 in
set_option maxRecDepth 100000 in
theorem cs_13 {p : Program} {l : Launch} {e : Env} {s : State} {m : MethodId} {below : List Frame} {meth : Method} {c : Code} {Q : State → Prop} {D : va_G} {A : Nat → Prop} {ac am : Nat → Nat} {ao b L n cells slots : Nat} {xs : Nat → Int32} {cA : ClassId × ClassId × ClassId} {te : Te} {ru : Ru} {au : Au} {re : Re} {la : La} {sp : Sp} {le : Le} {mo : Mo} {f : Nat → Int64} {K : StC → Mo → Prop} {H : Heap} {locs : List Loc} {ls : Array Slot} (S : CallFix p m c code 7 s #[Value.ref b] gtbl R_Lw) (hlt : l.stackTraces = false) (hK : gK D (tyA cA) s) (hA : ∀ q : Nat, s.heap.size ≤ q → A q) (hbA : ¬ A b) (tx : tX A s s.heap) (hX : va_X b L xs s s.heap) (hbl : b < s.heap.size) (hL : L ≤ 2561) (hn : n + 5 ≤ L) (hcl : cells + 1 ≤ 1097) (hsl : slots + 6 ≤ 26642) (h : ls_13 (xs (n + 1)) (xs (n + 2)) (xs (n + 3)) (xs (n + 4)) te ru au re la sp le mo K) (hl : lv_has ls 7 [(0, .ref b), (1, .ref (ac 0)), (2, .ref (am 0)), (3, .ref ao), (4, .int (nI n))]) (I : gIn D A s (wA ac am ao cA) ((te, ru, au, re, la, sp, le), mo, f) H locs) (kk : ∀ (sc : StC) (mo : Mo) (f : Nat → Int64) (ls : Array Slot) (H : Heap) (locs : List Loc), K sc mo → lv_has ls 7 [(0, .ref b), (1, .ref (ac 0)), (2, .ref (am 0)), (3, .ref ao), (4, .int (nI n))] → gIn D A s (wA ac am ao cA) (sc, mo, f) H locs → W p l e room_1 s m #[Value.ref b] below meth c H locs (cells + 1) (slots + 6) Q (F0 m 1090 ls [])) : W p l e room_1 s m #[Value.ref b] below meth c H locs cells slots Q (F0 m 929 ls []) := by
  refine lv_aload_n S.1 S.2.1 d_L_929 rfl (lv_at hl 1 rfl) ?_
  refine lv_aload_n S.1 S.2.1 d_L_930 rfl (lv_at hl 0 rfl) ?_
  refine lv_iload S.1 S.2.1 d_L_931 (lv_at hl 4 rfl) ?_
  refine lv_iconst (v := (1 : Int32)) S.1 S.2.1 d_L_933 rfl ?_
  refine lv_iadd S.1 S.2.1 d_L_934 ?_
  refine sl_at 1 S hX hbl hbA hL I.2.2 rfl (by omega) d_L_935 ?_
  refine lv_aload_n S.1 S.2.1 d_L_936 rfl (lv_at hl 0 rfl) ?_
  refine lv_iload S.1 S.2.1 d_L_937 (lv_at hl 4 rfl) ?_
  refine lv_iconst (v := (2 : Int32)) S.1 S.2.1 d_L_939 rfl ?_
  refine lv_iadd S.1 S.2.1 d_L_940 ?_
  refine sl_at 2 S hX hbl hbA hL I.2.2 rfl (by omega) d_L_941 ?_
  refine lv_aload_n S.1 S.2.1 d_L_942 rfl (lv_at hl 3 rfl) ?_
  refine callS_hw (n := 4) S (c_Lw_step l hlt D ac am ao cA te ru au re la sp le mo f (xs (n + 1)) (xs (n + 2)) _ _ (fun E _ _ h9 => h9.1) h) ml_Lw_121 sw_Lw_step in_Lw cw_Lw_step ⟨by decide, by decide, by decide +kernel⟩ rfl rfl ⟨Nat.le_of_ble_eq_true rfl, Nat.le_of_ble_eq_true rfl⟩ hK hA tx I hl.1 rfl rfl (Nat.le_of_ble_eq_true rfl) d_L_943 ⟨hcl, hsl⟩ (fun k u H locs hk I => ?_)
  rcases hk with ⟨rfl, r, h, hf⟩ | ⟨rfl, h, hf⟩ | ⟨rfl, h, hf⟩
  · refine lv_istore (lv' := [(5, .int (0 : Int32)), (0, .ref b), (1, .ref (ac 0)), (2, .ref (am 0)), (3, .ref ao), (4, .int (nI n))]) S.1 S.2.1 d_L_946 hl (by decide) rfl (fun ls hl => ?_)
    refine lv_aload_n S.1 S.2.1 d_L_948 rfl (lv_at hl 3 rfl) ?_
    refine lv_aload_n S.1 S.2.1 d_L_949 rfl (lv_at hl 1 rfl) ?_
    refine lv_iload S.1 S.2.1 d_L_950 (lv_at hl 5 rfl) ?_
    refine lv_iconst (v := (1 : Int32)) S.1 S.2.1 d_L_952 rfl ?_
    refine lv_iadd S.1 S.2.1 d_L_953 ?_
    refine sl_at 1 S hX hbl hbA hL I.2.2 rfl (by omega) d_L_954 ?_
    refine lv_aload_n S.1 S.2.1 d_L_955 rfl (lv_at hl 1 rfl) ?_
    refine lv_iload S.1 S.2.1 d_L_956 (lv_at hl 5 rfl) ?_
    refine lv_iconst (v := (2 : Int32)) S.1 S.2.1 d_L_958 rfl ?_
    refine lv_iadd S.1 S.2.1 d_L_959 ?_
    refine sl_at 2 S hX hbl hbA hL I.2.2 rfl (by omega) d_L_960 ?_
    refine callF_rwi (w0 := wC ac cA _) (w2 := oW ao cA _) (wf := wM am cA) S (c_Mo_step l D am cA _ _ _ _ h) (mkV S.2.2.2.2 ml_Lw_123 k_Mo_step rfl rfl ⟨Nat.le_of_ble_eq_true rfl, Nat.le_of_ble_eq_true rfl⟩) (rv_Mo hK (ap_P1 (ap_P2 I.1))) hK hA I hl.1 rfl rfl (Nat.le_of_ble_eq_true rfl) d_L_961 ⟨by show _ ≤ 1097; omega, by show _ ≤ 26642; omega⟩ (fun b6 mo961 H locs h I => ?_)
    refine lv_istore (lv' := [(6, .int b6), (5, .int (0 : Int32)), (0, .ref b), (1, .ref (ac 0)), (2, .ref (am 0)), (3, .ref ao), (4, .int (nI n))]) S.1 S.2.1 d_L_964 hl (by decide) rfl (fun ls hl => ?_)
    refine lv_aload_n S.1 S.2.1 d_L_966 rfl (lv_at hl 4 rfl) ?_
    refine callF_roi (w0 := wC ac cA _) (w2 := oW ao cA _) (wf := wM am cA) S (c_Mo_thrown l D am cA _ _ h) (mkV S.2.2.2.2 ml_Lw_73 k_Mo_thrown rfl rfl ⟨Nat.le_of_ble_eq_true rfl, Nat.le_of_ble_eq_true rfl⟩) (rv_Mo hK (ap_P1 (ap_P2 I.1))) hK I hl.1 rfl rfl (Nat.le_of_ble_eq_true rfl) d_L_967 ⟨by show _ ≤ 1097; omega, by show _ ≤ 26642; omega⟩ (fun t7 h => ?_)
    refine lv_iload S.1 S.2.1 d_L_970 (lv_at hl 1 rfl) ?_
    refine lv_icmp_eq (tgt := 977) S.1 S.2.1 d_L_972 (by decide) (fun hc => ?_) (fun hc => ?_)
    · refine lv_iload S.1 S.2.1 d_L_977 (lv_at hl 1 rfl) ?_
      refine lv_if_ne (tgt := 994) S.1 S.2.1 d_L_979 (by decide) (fun hd => ?_) (fun hd => ?_)
      · exact (hd rfl).elim
      · refine lv_aload_n S.1 S.2.1 d_L_982 rfl (lv_at hl 5 rfl) ?_
        refine lv_iconst (v := (0 : Int32)) S.1 S.2.1 d_L_983 rfl ?_
        refine l_out S hK (show gIn D A s (wA ac am ao cA) ((u.1.1, ru, au, re, la, u.1.2, le), mo961, u.2) H locs from I) out_in d_L_984 ?_
        refine lv_iload S.1 S.2.1 d_L_985 (lv_at hl 0 rfl) ?_
        refine lv_i2l S.1 S.2.1 d_L_987 rfl ?_
        refine W.lcmp S.1 S.2.1 d_L_988 ?_
        refine lv_if_eq (tgt := 994) S.1 S.2.1 d_L_989 (by decide) (fun he => ?_) (fun he => ?_)
        · refine lv_goto (tgt := 1090) S.1 S.2.1 d_L_994 (by decide) ?_
          exact kk _ _ _ _ _ _ h.2.2 (lv_sub hl [2, 3, 4, 5, 6] rfl) I
        · exact (he ((lg_cmp_eq _ _).mpr (by rw [hf]; exact h.2.1))).elim
    · exact (hc h.1).elim
  · replace h := h.2
    refine lv_istore (lv' := [(5, .int (1 : Int32)), (0, .ref b), (1, .ref (ac 0)), (2, .ref (am 0)), (3, .ref ao), (4, .int (nI n))]) S.1 S.2.1 d_L_946 hl (by decide) rfl (fun ls hl => ?_)
    refine lv_aload_n S.1 S.2.1 d_L_948 rfl (lv_at hl 3 rfl) ?_
    refine lv_aload_n S.1 S.2.1 d_L_949 rfl (lv_at hl 1 rfl) ?_
    refine lv_iload S.1 S.2.1 d_L_950 (lv_at hl 5 rfl) ?_
    refine lv_iconst (v := (1 : Int32)) S.1 S.2.1 d_L_952 rfl ?_
    refine lv_iadd S.1 S.2.1 d_L_953 ?_
    refine sl_at 1 S hX hbl hbA hL I.2.2 rfl (by omega) d_L_954 ?_
    refine lv_aload_n S.1 S.2.1 d_L_955 rfl (lv_at hl 1 rfl) ?_
    refine lv_iload S.1 S.2.1 d_L_956 (lv_at hl 5 rfl) ?_
    refine lv_iconst (v := (2 : Int32)) S.1 S.2.1 d_L_958 rfl ?_
    refine lv_iadd S.1 S.2.1 d_L_959 ?_
    refine sl_at 2 S hX hbl hbA hL I.2.2 rfl (by omega) d_L_960 ?_
    refine callF_rwi (w0 := wC ac cA _) (w2 := oW ao cA _) (wf := wM am cA) S (c_Mo_step l D am cA _ _ _ _ h) (mkV S.2.2.2.2 ml_Lw_123 k_Mo_step rfl rfl ⟨Nat.le_of_ble_eq_true rfl, Nat.le_of_ble_eq_true rfl⟩) (rv_Mo hK (ap_P1 (ap_P2 I.1))) hK hA I hl.1 rfl rfl (Nat.le_of_ble_eq_true rfl) d_L_961 ⟨by show _ ≤ 1097; omega, by show _ ≤ 26642; omega⟩ (fun b6 mo961 H locs h I => ?_)
    refine lv_istore (lv' := [(6, .int b6), (5, .int (1 : Int32)), (0, .ref b), (1, .ref (ac 0)), (2, .ref (am 0)), (3, .ref ao), (4, .int (nI n))]) S.1 S.2.1 d_L_964 hl (by decide) rfl (fun ls hl => ?_)
    refine lv_aload_n S.1 S.2.1 d_L_966 rfl (lv_at hl 4 rfl) ?_
    refine callF_roi (w0 := wC ac cA _) (w2 := oW ao cA _) (wf := wM am cA) S (c_Mo_thrown l D am cA _ _ h) (mkV S.2.2.2.2 ml_Lw_73 k_Mo_thrown rfl rfl ⟨Nat.le_of_ble_eq_true rfl, Nat.le_of_ble_eq_true rfl⟩) (rv_Mo hK (ap_P1 (ap_P2 I.1))) hK I hl.1 rfl rfl (Nat.le_of_ble_eq_true rfl) d_L_967 ⟨by show _ ≤ 1097; omega, by show _ ≤ 26642; omega⟩ (fun t7 h => ?_)
    refine lv_iload S.1 S.2.1 d_L_970 (lv_at hl 1 rfl) ?_
    refine lv_icmp_eq (tgt := 977) S.1 S.2.1 d_L_972 (by decide) (fun hc => ?_) (fun hc => ?_)
    · refine lv_iload S.1 S.2.1 d_L_977 (lv_at hl 1 rfl) ?_
      refine lv_if_ne (tgt := 994) S.1 S.2.1 d_L_979 (by decide) (fun hd => ?_) (fun hd => ?_)
      · refine lv_goto (tgt := 1090) S.1 S.2.1 d_L_994 (by decide) ?_
        exact kk _ _ _ _ _ _ h.2 (lv_sub hl [2, 3, 4, 5, 6] rfl) I
      · exact absurd hd (by decide)
    · exact (hc (h.1.trans (by decide))).elim
  · replace h := h.2
    refine lv_istore (lv' := [(5, .int (2 : Int32)), (0, .ref b), (1, .ref (ac 0)), (2, .ref (am 0)), (3, .ref ao), (4, .int (nI n))]) S.1 S.2.1 d_L_946 hl (by decide) rfl (fun ls hl => ?_)
    refine lv_aload_n S.1 S.2.1 d_L_948 rfl (lv_at hl 3 rfl) ?_
    refine lv_aload_n S.1 S.2.1 d_L_949 rfl (lv_at hl 1 rfl) ?_
    refine lv_iload S.1 S.2.1 d_L_950 (lv_at hl 5 rfl) ?_
    refine lv_iconst (v := (1 : Int32)) S.1 S.2.1 d_L_952 rfl ?_
    refine lv_iadd S.1 S.2.1 d_L_953 ?_
    refine sl_at 1 S hX hbl hbA hL I.2.2 rfl (by omega) d_L_954 ?_
    refine lv_aload_n S.1 S.2.1 d_L_955 rfl (lv_at hl 1 rfl) ?_
    refine lv_iload S.1 S.2.1 d_L_956 (lv_at hl 5 rfl) ?_
    refine lv_iconst (v := (2 : Int32)) S.1 S.2.1 d_L_958 rfl ?_
    refine lv_iadd S.1 S.2.1 d_L_959 ?_
    refine sl_at 2 S hX hbl hbA hL I.2.2 rfl (by omega) d_L_960 ?_
    refine callF_rwi (w0 := wC ac cA _) (w2 := oW ao cA _) (wf := wM am cA) S (c_Mo_step l D am cA _ _ _ _ h) (mkV S.2.2.2.2 ml_Lw_123 k_Mo_step rfl rfl ⟨Nat.le_of_ble_eq_true rfl, Nat.le_of_ble_eq_true rfl⟩) (rv_Mo hK (ap_P1 (ap_P2 I.1))) hK hA I hl.1 rfl rfl (Nat.le_of_ble_eq_true rfl) d_L_961 ⟨by show _ ≤ 1097; omega, by show _ ≤ 26642; omega⟩ (fun b6 mo961 H locs h I => ?_)
    refine lv_istore (lv' := [(6, .int b6), (5, .int (2 : Int32)), (0, .ref b), (1, .ref (ac 0)), (2, .ref (am 0)), (3, .ref ao), (4, .int (nI n))]) S.1 S.2.1 d_L_964 hl (by decide) rfl (fun ls hl => ?_)
    refine lv_aload_n S.1 S.2.1 d_L_966 rfl (lv_at hl 4 rfl) ?_
    refine callF_roi (w0 := wC ac cA _) (w2 := oW ao cA _) (wf := wM am cA) S (c_Mo_thrown l D am cA _ _ h) (mkV S.2.2.2.2 ml_Lw_73 k_Mo_thrown rfl rfl ⟨Nat.le_of_ble_eq_true rfl, Nat.le_of_ble_eq_true rfl⟩) (rv_Mo hK (ap_P1 (ap_P2 I.1))) hK I hl.1 rfl rfl (Nat.le_of_ble_eq_true rfl) d_L_967 ⟨by show _ ≤ 1097; omega, by show _ ≤ 26642; omega⟩ (fun t7 h => ?_)
    refine lv_iload S.1 S.2.1 d_L_970 (lv_at hl 1 rfl) ?_
    refine lv_icmp_eq (tgt := 977) S.1 S.2.1 d_L_972 (by decide) (fun hc => ?_) (fun hc => ?_)
    · refine lv_iload S.1 S.2.1 d_L_977 (lv_at hl 1 rfl) ?_
      refine lv_if_ne (tgt := 994) S.1 S.2.1 d_L_979 (by decide) (fun hd => ?_) (fun hd => ?_)
      · refine lv_goto (tgt := 1090) S.1 S.2.1 d_L_994 (by decide) ?_
        exact kk _ _ _ _ _ _ h.2 (lv_sub hl [2, 3, 4, 5, 6] rfl) I
      · exact absurd hd (by decide)
    · exact (hc (h.1.trans (by decide))).elim
set_option maxHeartbeats 4000000 in
set_option maxRecDepth 100000 in
theorem cs_14 {p : Program} {l : Launch} {e : Env} {s : State} {m : MethodId} {below : List Frame} {meth : Method} {c : Code} {Q : State → Prop} {D : va_G} {A : Nat → Prop} {ac am : Nat → Nat} {ao b L n cells slots : Nat} {xs : Nat → Int32} {cA : ClassId × ClassId × ClassId} {te : Te} {ru : Ru} {au : Au} {re : Re} {la : La} {sp : Sp} {le : Le} {mo : Mo} {f : Nat → Int64} {K : StC → Mo → Prop} {H : Heap} {locs : List Loc} {ls : Array Slot} (S : CallFix p m c code 7 s #[Value.ref b] gtbl R_Lw) (hlt : l.stackTraces = false) (hK : gK D (tyA cA) s) (hA : ∀ q : Nat, s.heap.size ≤ q → A q) (hbA : ¬ A b) (tx : tX A s s.heap) (hX : va_X b L xs s s.heap) (hbl : b < s.heap.size) (hL : L ≤ 2561) (hn : n + 5 ≤ L) (hcl : cells + 1 ≤ 1097) (hsl : slots + 6 ≤ 26642) (h : ls_14 (xs (n + 1)) (xs (n + 2)) (xs (n + 3)) (xs (n + 4)) te ru au re la sp le mo K) (hl : lv_has ls 7 [(0, .ref b), (1, .ref (ac 0)), (2, .ref (am 0)), (3, .ref ao), (4, .int (nI n))]) (I : gIn D A s (wA ac am ao cA) ((te, ru, au, re, la, sp, le), mo, f) H locs) (kk : ∀ (sc : StC) (mo : Mo) (f : Nat → Int64) (ls : Array Slot) (H : Heap) (locs : List Loc), K sc mo → lv_has ls 7 [(0, .ref b), (1, .ref (ac 0)), (2, .ref (am 0)), (3, .ref ao), (4, .int (nI n))] → gIn D A s (wA ac am ao cA) (sc, mo, f) H locs → W p l e room_1 s m #[Value.ref b] below meth c H locs (cells + 1) (slots + 6) Q (F0 m 1090 ls [])) : W p l e room_1 s m #[Value.ref b] below meth c H locs cells slots Q (F0 m 997 ls []) := by
  refine lv_aload_n S.1 S.2.1 d_L_997 rfl (lv_at hl 1 rfl) ?_
  refine lv_aload_n S.1 S.2.1 d_L_998 rfl (lv_at hl 0 rfl) ?_
  refine lv_iload S.1 S.2.1 d_L_999 (lv_at hl 4 rfl) ?_
  refine lv_iconst (v := (1 : Int32)) S.1 S.2.1 d_L_1001 rfl ?_
  refine lv_iadd S.1 S.2.1 d_L_1002 ?_
  refine sl_at 1 S hX hbl hbA hL I.2.2 rfl (by omega) d_L_1003 ?_
  refine lv_aload_n S.1 S.2.1 d_L_1004 rfl (lv_at hl 0 rfl) ?_
  refine lv_iload S.1 S.2.1 d_L_1005 (lv_at hl 4 rfl) ?_
  refine lv_iconst (v := (2 : Int32)) S.1 S.2.1 d_L_1007 rfl ?_
  refine lv_iadd S.1 S.2.1 d_L_1008 ?_
  refine sl_at 2 S hX hbl hbA hL I.2.2 rfl (by omega) d_L_1009 ?_
  refine lv_aload_n S.1 S.2.1 d_L_1010 rfl (lv_at hl 3 rfl) ?_
  refine callS_hw (n := 4) S (c_Lw_distance l hlt D ac am ao cA te ru au re la sp le mo f (xs (n + 1)) (xs (n + 2)) _ _ (fun E _ _ _ h9 => h9.1) h) ml_Lw_124 sw_Lw_distance in_Lw cw_Lw_distance ⟨by decide, by decide, by decide +kernel⟩ rfl rfl ⟨Nat.le_of_ble_eq_true rfl, Nat.le_of_ble_eq_true rfl⟩ hK hA tx I hl.1 rfl rfl (Nat.le_of_ble_eq_true rfl) d_L_1011 ⟨hcl, hsl⟩ (fun k u H locs hk I => ?_)
  rcases hk with ⟨rfl, r, h, hf⟩ | ⟨rfl, h, hf⟩
  · refine lv_istore (lv' := [(5, .int (0 : Int32)), (0, .ref b), (1, .ref (ac 0)), (2, .ref (am 0)), (3, .ref ao), (4, .int (nI n))]) S.1 S.2.1 d_L_1014 hl (by decide) rfl (fun ls hl => ?_)
    refine lv_aload_n S.1 S.2.1 d_L_1016 rfl (lv_at hl 3 rfl) ?_
    refine lv_aload_n S.1 S.2.1 d_L_1017 rfl (lv_at hl 1 rfl) ?_
    refine lv_iload S.1 S.2.1 d_L_1018 (lv_at hl 5 rfl) ?_
    refine lv_iconst (v := (1 : Int32)) S.1 S.2.1 d_L_1020 rfl ?_
    refine lv_iadd S.1 S.2.1 d_L_1021 ?_
    refine sl_at 1 S hX hbl hbA hL I.2.2 rfl (by omega) d_L_1022 ?_
    refine lv_aload_n S.1 S.2.1 d_L_1023 rfl (lv_at hl 1 rfl) ?_
    refine lv_iload S.1 S.2.1 d_L_1024 (lv_at hl 5 rfl) ?_
    refine lv_iconst (v := (2 : Int32)) S.1 S.2.1 d_L_1026 rfl ?_
    refine lv_iadd S.1 S.2.1 d_L_1027 ?_
    refine sl_at 2 S hX hbl hbA hL I.2.2 rfl (by omega) d_L_1028 ?_
    refine callF_rwi (w0 := wC ac cA _) (w2 := oW ao cA _) (wf := wM am cA) S (c_Mo_distance l D am cA _ _ _ _ h) (mkV S.2.2.2.2 ml_Lw_126 k_Mo_distance rfl rfl ⟨Nat.le_of_ble_eq_true rfl, Nat.le_of_ble_eq_true rfl⟩) (rv_Mo hK (ap_P1 (ap_P2 I.1))) hK hA I hl.1 rfl rfl (Nat.le_of_ble_eq_true rfl) d_L_1029 ⟨by show _ ≤ 1097; omega, by show _ ≤ 26642; omega⟩ (fun b6 mo1029 H locs h I => ?_)
    refine lv_istore (lv' := [(6, .int b6), (5, .int (0 : Int32)), (0, .ref b), (1, .ref (ac 0)), (2, .ref (am 0)), (3, .ref ao), (4, .int (nI n))]) S.1 S.2.1 d_L_1032 hl (by decide) rfl (fun ls hl => ?_)
    refine lv_aload_n S.1 S.2.1 d_L_1034 rfl (lv_at hl 4 rfl) ?_
    refine callF_roi (w0 := wC ac cA _) (w2 := oW ao cA _) (wf := wM am cA) S (c_Mo_thrown l D am cA _ _ h) (mkV S.2.2.2.2 ml_Lw_73 k_Mo_thrown rfl rfl ⟨Nat.le_of_ble_eq_true rfl, Nat.le_of_ble_eq_true rfl⟩) (rv_Mo hK (ap_P1 (ap_P2 I.1))) hK I hl.1 rfl rfl (Nat.le_of_ble_eq_true rfl) d_L_1035 ⟨by show _ ≤ 1097; omega, by show _ ≤ 26642; omega⟩ (fun t7 h => ?_)
    refine lv_iload S.1 S.2.1 d_L_1038 (lv_at hl 1 rfl) ?_
    refine lv_icmp_eq (tgt := 1045) S.1 S.2.1 d_L_1040 (by decide) (fun hc => ?_) (fun hc => ?_)
    · refine lv_iload S.1 S.2.1 d_L_1045 (lv_at hl 1 rfl) ?_
      refine lv_if_ne (tgt := 1062) S.1 S.2.1 d_L_1047 (by decide) (fun hd => ?_) (fun hd => ?_)
      · exact (hd rfl).elim
      · refine lv_aload_n S.1 S.2.1 d_L_1050 rfl (lv_at hl 5 rfl) ?_
        refine lv_iconst (v := (0 : Int32)) S.1 S.2.1 d_L_1051 rfl ?_
        refine l_out S hK (show gIn D A s (wA ac am ao cA) ((u.1.1, ru, au, u.1.2.1, la, sp, u.1.2.2), mo1029, u.2) H locs from I) out_in d_L_1052 ?_
        refine lv_iload S.1 S.2.1 d_L_1053 (lv_at hl 0 rfl) ?_
        refine lv_i2l S.1 S.2.1 d_L_1055 rfl ?_
        refine W.lcmp S.1 S.2.1 d_L_1056 ?_
        refine lv_if_eq (tgt := 1062) S.1 S.2.1 d_L_1057 (by decide) (fun he => ?_) (fun he => ?_)
        · refine lv_goto (tgt := 1090) S.1 S.2.1 d_L_1062 (by decide) ?_
          exact kk _ _ _ _ _ _ h.2.2 (lv_sub hl [2, 3, 4, 5, 6] rfl) I
        · exact (he ((lg_cmp_eq _ _).mpr (by rw [hf]; exact h.2.1))).elim
    · exact (hc h.1).elim
  · replace h := h.2
    refine lv_istore (lv' := [(5, .int (1 : Int32)), (0, .ref b), (1, .ref (ac 0)), (2, .ref (am 0)), (3, .ref ao), (4, .int (nI n))]) S.1 S.2.1 d_L_1014 hl (by decide) rfl (fun ls hl => ?_)
    refine lv_aload_n S.1 S.2.1 d_L_1016 rfl (lv_at hl 3 rfl) ?_
    refine lv_aload_n S.1 S.2.1 d_L_1017 rfl (lv_at hl 1 rfl) ?_
    refine lv_iload S.1 S.2.1 d_L_1018 (lv_at hl 5 rfl) ?_
    refine lv_iconst (v := (1 : Int32)) S.1 S.2.1 d_L_1020 rfl ?_
    refine lv_iadd S.1 S.2.1 d_L_1021 ?_
    refine sl_at 1 S hX hbl hbA hL I.2.2 rfl (by omega) d_L_1022 ?_
    refine lv_aload_n S.1 S.2.1 d_L_1023 rfl (lv_at hl 1 rfl) ?_
    refine lv_iload S.1 S.2.1 d_L_1024 (lv_at hl 5 rfl) ?_
    refine lv_iconst (v := (2 : Int32)) S.1 S.2.1 d_L_1026 rfl ?_
    refine lv_iadd S.1 S.2.1 d_L_1027 ?_
    refine sl_at 2 S hX hbl hbA hL I.2.2 rfl (by omega) d_L_1028 ?_
    refine callF_rwi (w0 := wC ac cA _) (w2 := oW ao cA _) (wf := wM am cA) S (c_Mo_distance l D am cA _ _ _ _ h) (mkV S.2.2.2.2 ml_Lw_126 k_Mo_distance rfl rfl ⟨Nat.le_of_ble_eq_true rfl, Nat.le_of_ble_eq_true rfl⟩) (rv_Mo hK (ap_P1 (ap_P2 I.1))) hK hA I hl.1 rfl rfl (Nat.le_of_ble_eq_true rfl) d_L_1029 ⟨by show _ ≤ 1097; omega, by show _ ≤ 26642; omega⟩ (fun b6 mo1029 H locs h I => ?_)
    refine lv_istore (lv' := [(6, .int b6), (5, .int (1 : Int32)), (0, .ref b), (1, .ref (ac 0)), (2, .ref (am 0)), (3, .ref ao), (4, .int (nI n))]) S.1 S.2.1 d_L_1032 hl (by decide) rfl (fun ls hl => ?_)
    refine lv_aload_n S.1 S.2.1 d_L_1034 rfl (lv_at hl 4 rfl) ?_
    refine callF_roi (w0 := wC ac cA _) (w2 := oW ao cA _) (wf := wM am cA) S (c_Mo_thrown l D am cA _ _ h) (mkV S.2.2.2.2 ml_Lw_73 k_Mo_thrown rfl rfl ⟨Nat.le_of_ble_eq_true rfl, Nat.le_of_ble_eq_true rfl⟩) (rv_Mo hK (ap_P1 (ap_P2 I.1))) hK I hl.1 rfl rfl (Nat.le_of_ble_eq_true rfl) d_L_1035 ⟨by show _ ≤ 1097; omega, by show _ ≤ 26642; omega⟩ (fun t7 h => ?_)
    refine lv_iload S.1 S.2.1 d_L_1038 (lv_at hl 1 rfl) ?_
    refine lv_icmp_eq (tgt := 1045) S.1 S.2.1 d_L_1040 (by decide) (fun hc => ?_) (fun hc => ?_)
    · refine lv_iload S.1 S.2.1 d_L_1045 (lv_at hl 1 rfl) ?_
      refine lv_if_ne (tgt := 1062) S.1 S.2.1 d_L_1047 (by decide) (fun hd => ?_) (fun hd => ?_)
      · refine lv_goto (tgt := 1090) S.1 S.2.1 d_L_1062 (by decide) ?_
        exact kk _ _ _ _ _ _ h.2 (lv_sub hl [2, 3, 4, 5, 6] rfl) I
      · exact absurd hd (by decide)
    · exact (hc (h.1.trans (by decide))).elim
set_option maxHeartbeats 4000000 in
set_option maxRecDepth 100000 in
theorem cs_15 {p : Program} {l : Launch} {e : Env} {s : State} {m : MethodId} {below : List Frame} {meth : Method} {c : Code} {Q : State → Prop} {D : va_G} {A : Nat → Prop} {ac am : Nat → Nat} {ao b L n cells slots : Nat} {xs : Nat → Int32} {cA : ClassId × ClassId × ClassId} {te : Te} {ru : Ru} {au : Au} {re : Re} {la : La} {sp : Sp} {le : Le} {mo : Mo} {f : Nat → Int64} {K : StC → Mo → Prop} {H : Heap} {locs : List Loc} {ls : Array Slot} (S : CallFix p m c code 7 s #[Value.ref b] gtbl R_Lw) (hlt : l.stackTraces = false) (hK : gK D (tyA cA) s) (hA : ∀ q : Nat, s.heap.size ≤ q → A q) (hbA : ¬ A b) (tx : tX A s s.heap) (hX : va_X b L xs s s.heap) (hbl : b < s.heap.size) (hL : L ≤ 2561) (hn : n + 5 ≤ L) (hcl : cells + 1 ≤ 1097) (hsl : slots + 6 ≤ 26642) (h : ls_15 (xs (n + 1)) (xs (n + 2)) (xs (n + 3)) (xs (n + 4)) te ru au re la sp le mo K) (hl : lv_has ls 7 [(0, .ref b), (1, .ref (ac 0)), (2, .ref (am 0)), (3, .ref ao), (4, .int (nI n))]) (I : gIn D A s (wA ac am ao cA) ((te, ru, au, re, la, sp, le), mo, f) H locs) (kk : ∀ (sc : StC) (mo : Mo) (f : Nat → Int64) (ls : Array Slot) (H : Heap) (locs : List Loc), K sc mo → lv_has ls 7 [(0, .ref b), (1, .ref (ac 0)), (2, .ref (am 0)), (3, .ref ao), (4, .int (nI n))] → gIn D A s (wA ac am ao cA) (sc, mo, f) H locs → W p l e room_1 s m #[Value.ref b] below meth c H locs (cells + 1) (slots + 6) Q (F0 m 1090 ls [])) : W p l e room_1 s m #[Value.ref b] below meth c H locs cells slots Q (F0 m 1065 ls []) := by
  refine lv_aload_n S.1 S.2.1 d_L_1065 rfl (lv_at hl 1 rfl) ?_
  refine lv_aload_n S.1 S.2.1 d_L_1066 rfl (lv_at hl 0 rfl) ?_
  refine lv_iload S.1 S.2.1 d_L_1067 (lv_at hl 4 rfl) ?_
  refine lv_iconst (v := (1 : Int32)) S.1 S.2.1 d_L_1069 rfl ?_
  refine lv_iadd S.1 S.2.1 d_L_1070 ?_
  refine sl_at 1 S hX hbl hbA hL I.2.2 rfl (by omega) d_L_1071 ?_
  refine callF_roi (w0 := []) (w2 := wM am cA mo ++ oW ao cA f) (wf := wC ac cA) S (c_Gr_look l D ac cA _ _ _ _ _ _ _ _ _ h) (mkV S.2.2.2.2 ml_Lw_127 k_Gr_look rfl rfl ⟨Nat.le_of_ble_eq_true rfl, Nat.le_of_ble_eq_true rfl⟩) (rv_Gr hK (ap_P1 I.1)) hK I hl.1 rfl rfl (Nat.le_of_ble_eq_true rfl) d_L_1072 ⟨by show _ ≤ 1097; omega, by show _ ≤ 26642; omega⟩ (fun r h => ?_)
  refine lv_aload_n S.1 S.2.1 d_L_1075 rfl (lv_at hl 2 rfl) ?_
  refine lv_aload_n S.1 S.2.1 d_L_1076 rfl (lv_at hl 0 rfl) ?_
  refine lv_iload S.1 S.2.1 d_L_1077 (lv_at hl 4 rfl) ?_
  refine lv_iconst (v := (1 : Int32)) S.1 S.2.1 d_L_1079 rfl ?_
  refine lv_iadd S.1 S.2.1 d_L_1080 ?_
  refine sl_at 1 S hX hbl hbA hL I.2.2 rfl (by omega) d_L_1081 ?_
  refine callF_rwi (w0 := wC ac cA _) (w2 := oW ao cA _) (wf := wM am cA) S (c_Mo_look l D am cA _ _ _ h) (mkV S.2.2.2.2 ml_Lw_130 k_Mo_look rfl rfl ⟨Nat.le_of_ble_eq_true rfl, Nat.le_of_ble_eq_true rfl⟩) (rv_Mo hK (ap_P1 (ap_P2 I.1))) hK hA I hl.1 rfl rfl (Nat.le_of_ble_eq_true rfl) d_L_1082 ⟨by show _ ≤ 1097; omega, by show _ ≤ 26642; omega⟩ (fun b6 mo1082 H locs h I => ?_)
  refine lv_icmp_eq (tgt := 1090) S.1 S.2.1 d_L_1085 (by decide) (fun hc => ?_) (fun hc => ?_)
  · refine W.widen (k := cells + 1) (n := slots + 6) (by omega) (by omega) ?_
    exact kk _ _ _ _ _ _ h.2 (lv_sub hl [0, 1, 2, 3, 4] rfl) I
  · exact (hc h.1).elim
