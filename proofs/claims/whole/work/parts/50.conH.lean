set_option maxHeartbeats 4000000 in
set_option maxRecDepth 100000 in
theorem c_Lw_term (l : Launch) (hlt : l.stackTraces = false) (D : va_G) (ac am : Nat → Nat) (ao : Nat) (cA : ClassId × ClassId × ClassId) (te : Te) (ru : Ru) (au : Au) (re : Re) (la : La) (sp : Sp) (le : Le) (mo : Mo) (f : Nat → Int64) (x1 : Int32) (x2 : Int32) (x3 : Int32) (Q1 : Int32 → Te → Prop) (X1 : String → Te → Prop) (hX : ∀ (E : String) (u0 : Te), X1 E u0 → E = xIA ∨ E = xIS) (h : p_Gr_term x1 x2 x3 te Q1 X1) : hwI l y_Lw_term b_Lw_term 6 hh_Lw_term rm_Lw_term D (tyA cA) (wA ac am ao cA) [.ref (ac 0), .int x1, .int x2, .int x3, .ref ao] ((te, ru, au, re, la, sp, le), mo, f) (fun u : (Te) × (Nat → Int64) => ((u.1, ru, au, re, la, sp, le), mo, u.2)) (fun (k : Int32) (u : (Te) × (Nat → Int64)) => (k = 0 ∧ ∃ r : Int32, Q1 r u.1 ∧ u.2 = vp_updL f 0 r.toInt64) ∨ (k = 1 ∧ X1 xIA u.1 ∧ u.2 = f) ∨ (k = 2 ∧ X1 xIS u.1 ∧ u.2 = f)) := by
  refine hwI_of (by decide) (Nat.le_of_ble_eq_true rfl) ?_
  intro p e s m below meth c S hr hlk htab hK A hA tx I ls hl
  have hl : lv_has ls 6 [(0, .ref (ac 0)), (1, .int x1), (2, .int x2), (3, .int x3), (4, .ref ao)] := hl
  refine lv_aload S.1 S.2.1 d_Lw_term_0 (lv_at hl 4 rfl) ?_
  refine lv_iconst (v := (0 : Int32)) S.1 S.2.1 d_Lw_term_2 rfl ?_
  refine lv_aload_n S.1 S.2.1 d_Lw_term_3 rfl (lv_at hl 0 rfl) ?_
  refine lv_iload_n S.1 S.2.1 d_Lw_term_4 rfl (lv_at hl 1 rfl) ?_
  refine lv_iload_n S.1 S.2.1 d_Lw_term_5 rfl (lv_at hl 2 rfl) ?_
  refine lv_iload_n S.1 S.2.1 d_Lw_term_6 rfl (lv_at hl 3 rfl) ?_
  refine callF_tw (w0 := []) (w2 := wM am cA mo ++ oW ao cA f) (wf := wC ac cA) S (c_Gr_term l D ac cA te ru au re la sp le x1 x2 x3 Q1 X1 hlt h) ml_Lw_7 k_Gr_term rfl rfl ⟨Nat.le_of_ble_eq_true rfl, Nat.le_of_ble_eq_true rfl⟩ (rv_Gr hK (ap_P1 I.1)) hK hA tx I hl.1 rfl rfl (Nat.le_of_ble_eq_true rfl) d_Lw_term_7 ⟨Nat.le_of_ble_eq_true rfl, Nat.le_of_ble_eq_true rfl⟩ (fun r u H locs h I => ?_) (fun E u q ce H locs h I hce hcv hcl => ?_)
  · -- it has answered
    refine lv_i2l S.1 S.2.1 d_Lw_term_10 rfl ?_
    refine s_out (f := f) S hK I out_in d_Lw_term_11 (fun H locs I => ?_)
    refine lv_goto (tgt := 23) S.1 S.2.1 d_Lw_term_12 (by decide) ?_
    refine lv_iconst (v := (0 : Int32)) S.1 S.2.1 d_Lw_term_23 rfl ?_
    exact ret_hwi (u := (u, vp_updL f 0 r.toInt64)) S hr hlk hK I (Or.inl ⟨rfl, r, h, rfl⟩) d_Lw_term_24
  · -- it has thrown
    have hE := hX _ _ h
    rcases hE with rfl | rfl
    · refine ct_first (own := R_Lw) (x := ⟨0, 12, 15, 13⟩) (suf := [⟨0, 12, 19, 15⟩]) (name := xIA) S.2.2.2.1 htab (by decide) (by decide) (S.2.2.2.2 _ cl_Lw_13) (va_Nw.use rfl (tx.1 (.castable xIA xIA) (by simp [xl]))) hce hcv hcl ?_
      refine lv_astore (lv' := [(5, .ref q), (0, .ref (ac 0)), (1, .int x1), (2, .int x2), (3, .int x3), (4, .ref ao)]) S.1 S.2.1 d_Lw_term_15 hl (by decide) rfl (fun ls hl => ?_)
      refine lv_iconst (v := (1 : Int32)) S.1 S.2.1 d_Lw_term_17 rfl ?_
      exact ret_hwi (u := (u, f)) S hr hlk hK I (Or.inr (Or.inl ⟨rfl, h, rfl⟩)) d_Lw_term_18
    · refine ct_second (own := R_Lw) (x1 := ⟨0, 12, 15, 13⟩) (x := ⟨0, 12, 19, 15⟩) (suf := []) (nm1 := xIA) (name := xIS) S.2.2.2.1 htab (by decide) (by decide) (by decide) (by decide) (S.2.2.2.2 _ cl_Lw_13) tx.2.2.2.1 (S.2.2.2.2 _ cl_Lw_15) (va_Nw.use rfl (tx.1 (.castable xIS xIS) (by simp [xl]))) hce hcv hcl ?_
      refine lv_astore (lv' := [(5, .ref q), (0, .ref (ac 0)), (1, .int x1), (2, .int x2), (3, .int x3), (4, .ref ao)]) S.1 S.2.1 d_Lw_term_19 hl (by decide) rfl (fun ls hl => ?_)
      refine lv_iconst (v := (2 : Int32)) S.1 S.2.1 d_Lw_term_21 rfl ?_
      exact ret_hwi (u := (u, f)) S hr hlk hK I (Or.inr (Or.inr ⟨rfl, h, rfl⟩)) d_Lw_term_22
set_option maxHeartbeats 4000000 in
set_option maxRecDepth 100000 in
theorem c_Lw_rule (l : Launch) (hlt : l.stackTraces = false) (D : va_G) (ac am : Nat → Nat) (ao : Nat) (cA : ClassId × ClassId × ClassId) (te : Te) (ru : Ru) (au : Au) (re : Re) (la : La) (sp : Sp) (le : Le) (mo : Mo) (f : Nat → Int64) (x1 : Int32) (x2 : Int32) (Q1 : Int32 → Ru → Prop) (X1 : String → Ru → Prop) (hX : ∀ (E : String) (u0 : Ru), X1 E u0 → E = xIA ∨ E = xIS) (h : p_Gr_rule x1 x2 te ru Q1 X1) : hwI l y_Lw_rule b_Lw_rule 5 hh_Lw_rule rm_Lw_rule D (tyA cA) (wA ac am ao cA) [.ref (ac 0), .int x1, .int x2, .ref ao] ((te, ru, au, re, la, sp, le), mo, f) (fun u : (Ru) × (Nat → Int64) => ((te, u.1, au, re, la, sp, le), mo, u.2)) (fun (k : Int32) (u : (Ru) × (Nat → Int64)) => (k = 0 ∧ ∃ r : Int32, Q1 r u.1 ∧ u.2 = vp_updL f 0 r.toInt64) ∨ (k = 1 ∧ X1 xIA u.1 ∧ u.2 = f) ∨ (k = 2 ∧ X1 xIS u.1 ∧ u.2 = f)) := by
  refine hwI_of (by decide) (Nat.le_of_ble_eq_true rfl) ?_
  intro p e s m below meth c S hr hlk htab hK A hA tx I ls hl
  have hl : lv_has ls 5 [(0, .ref (ac 0)), (1, .int x1), (2, .int x2), (3, .ref ao)] := hl
  refine lv_aload_n S.1 S.2.1 d_Lw_rule_0 rfl (lv_at hl 3 rfl) ?_
  refine lv_iconst (v := (0 : Int32)) S.1 S.2.1 d_Lw_rule_1 rfl ?_
  refine lv_aload_n S.1 S.2.1 d_Lw_rule_2 rfl (lv_at hl 0 rfl) ?_
  refine lv_iload_n S.1 S.2.1 d_Lw_rule_3 rfl (lv_at hl 1 rfl) ?_
  refine lv_iload_n S.1 S.2.1 d_Lw_rule_4 rfl (lv_at hl 2 rfl) ?_
  refine callF_tw (w0 := []) (w2 := wM am cA mo ++ oW ao cA f) (wf := wC ac cA) S (c_Gr_rule l D ac cA te ru au re la sp le x1 x2 Q1 X1 hlt h) ml_Lw_17 k_Gr_rule rfl rfl ⟨Nat.le_of_ble_eq_true rfl, Nat.le_of_ble_eq_true rfl⟩ (rv_Gr hK (ap_P1 I.1)) hK hA tx I hl.1 rfl rfl (Nat.le_of_ble_eq_true rfl) d_Lw_rule_5 ⟨Nat.le_of_ble_eq_true rfl, Nat.le_of_ble_eq_true rfl⟩ (fun r u H locs h I => ?_) (fun E u q ce H locs h I hce hcv hcl => ?_)
  · -- it has answered
    refine lv_i2l S.1 S.2.1 d_Lw_rule_8 rfl ?_
    refine s_out (f := f) S hK I out_in d_Lw_rule_9 (fun H locs I => ?_)
    refine lv_goto (tgt := 21) S.1 S.2.1 d_Lw_rule_10 (by decide) ?_
    refine lv_iconst (v := (0 : Int32)) S.1 S.2.1 d_Lw_rule_21 rfl ?_
    exact ret_hwi (u := (u, vp_updL f 0 r.toInt64)) S hr hlk hK I (Or.inl ⟨rfl, r, h, rfl⟩) d_Lw_rule_22
  · -- it has thrown
    have hE := hX _ _ h
    rcases hE with rfl | rfl
    · refine ct_first (own := R_Lw) (x := ⟨0, 10, 13, 13⟩) (suf := [⟨0, 10, 17, 15⟩]) (name := xIA) S.2.2.2.1 htab (by decide) (by decide) (S.2.2.2.2 _ cl_Lw_13) (va_Nw.use rfl (tx.1 (.castable xIA xIA) (by simp [xl]))) hce hcv hcl ?_
      refine lv_astore (lv' := [(4, .ref q), (0, .ref (ac 0)), (1, .int x1), (2, .int x2), (3, .ref ao)]) S.1 S.2.1 d_Lw_rule_13 hl (by decide) rfl (fun ls hl => ?_)
      refine lv_iconst (v := (1 : Int32)) S.1 S.2.1 d_Lw_rule_15 rfl ?_
      exact ret_hwi (u := (u, f)) S hr hlk hK I (Or.inr (Or.inl ⟨rfl, h, rfl⟩)) d_Lw_rule_16
    · refine ct_second (own := R_Lw) (x1 := ⟨0, 10, 13, 13⟩) (x := ⟨0, 10, 17, 15⟩) (suf := []) (nm1 := xIA) (name := xIS) S.2.2.2.1 htab (by decide) (by decide) (by decide) (by decide) (S.2.2.2.2 _ cl_Lw_13) tx.2.2.2.1 (S.2.2.2.2 _ cl_Lw_15) (va_Nw.use rfl (tx.1 (.castable xIS xIS) (by simp [xl]))) hce hcv hcl ?_
      refine lv_astore (lv' := [(4, .ref q), (0, .ref (ac 0)), (1, .int x1), (2, .int x2), (3, .ref ao)]) S.1 S.2.1 d_Lw_rule_17 hl (by decide) rfl (fun ls hl => ?_)
      refine lv_iconst (v := (2 : Int32)) S.1 S.2.1 d_Lw_rule_19 rfl ?_
      exact ret_hwi (u := (u, f)) S hr hlk hK I (Or.inr (Or.inr ⟨rfl, h, rfl⟩)) d_Lw_rule_20
set_option maxHeartbeats 4000000 in
set_option maxRecDepth 100000 in
theorem c_Lw_edge (l : Launch) (hlt : l.stackTraces = false) (D : va_G) (ac am : Nat → Nat) (ao : Nat) (cA : ClassId × ClassId × ClassId) (te : Te) (ru : Ru) (au : Au) (re : Re) (la : La) (sp : Sp) (le : Le) (mo : Mo) (f : Nat → Int64) (x1 : Int32) (x2 : Int32) (x3 : Int32) (x4 : Int32) (Q1 : Int32 → Au → Prop) (X1 : String → Au → Prop) (hX : ∀ (E : String) (u0 : Au), X1 E u0 → E = xIA ∨ E = xIS) (h : p_Gr_edge x1 x2 x3 x4 te au Q1 X1) : hwI l y_Lw_edge b_Lw_edge 7 hh_Lw_edge rm_Lw_edge D (tyA cA) (wA ac am ao cA) [.ref (ac 0), .int x1, .int x2, .int x3, .int x4, .ref ao] ((te, ru, au, re, la, sp, le), mo, f) (fun u : (Au) × (Nat → Int64) => ((te, ru, u.1, re, la, sp, le), mo, u.2)) (fun (k : Int32) (u : (Au) × (Nat → Int64)) => (k = 0 ∧ ∃ r : Int32, Q1 r u.1 ∧ u.2 = vp_updL f 0 (if r = 0 then (0 : Int64) else 1)) ∨ (k = 1 ∧ X1 xIA u.1 ∧ u.2 = f) ∨ (k = 2 ∧ X1 xIS u.1 ∧ u.2 = f)) := by
  refine hwI_of (by decide) (Nat.le_of_ble_eq_true rfl) ?_
  intro p e s m below meth c S hr hlk htab hK A hA tx I ls hl
  have hl : lv_has ls 7 [(0, .ref (ac 0)), (1, .int x1), (2, .int x2), (3, .int x3), (4, .int x4), (5, .ref ao)] := hl
  refine lv_aload S.1 S.2.1 d_Lw_edge_0 (lv_at hl 5 rfl) ?_
  refine lv_iconst (v := (0 : Int32)) S.1 S.2.1 d_Lw_edge_2 rfl ?_
  refine lv_aload_n S.1 S.2.1 d_Lw_edge_3 rfl (lv_at hl 0 rfl) ?_
  refine lv_iload_n S.1 S.2.1 d_Lw_edge_4 rfl (lv_at hl 1 rfl) ?_
  refine lv_iload_n S.1 S.2.1 d_Lw_edge_5 rfl (lv_at hl 2 rfl) ?_
  refine lv_iload_n S.1 S.2.1 d_Lw_edge_6 rfl (lv_at hl 3 rfl) ?_
  refine lv_iload S.1 S.2.1 d_Lw_edge_7 (lv_at hl 4 rfl) ?_
  refine callF_tw (w0 := []) (w2 := wM am cA mo ++ oW ao cA f) (wf := wC ac cA) S (c_Gr_edge l D ac cA te ru au re la sp le x1 x2 x3 x4 Q1 X1 hlt h) ml_Lw_21 k_Gr_edge rfl rfl ⟨Nat.le_of_ble_eq_true rfl, Nat.le_of_ble_eq_true rfl⟩ (rv_Gr hK (ap_P1 I.1)) hK hA tx I hl.1 rfl rfl (Nat.le_of_ble_eq_true rfl) d_Lw_edge_9 ⟨Nat.le_of_ble_eq_true rfl, Nat.le_of_ble_eq_true rfl⟩ (fun r u H locs h I => ?_) (fun E u q ce H locs h I hce hcv hcl => ?_)
  · -- it has answered
    refine lv_if_eq (tgt := 19) S.1 S.2.1 d_Lw_edge_12 (by decide) (fun hc => ?_) (fun hc => ?_)
    · refine lv_lconst (v := (0 : Int64)) S.1 S.2.1 d_Lw_edge_19 rfl ?_
      refine s_out (f := f) S hK I out_in d_Lw_edge_20 (fun H locs I => ?_)
      refine lv_goto (tgt := 32) S.1 S.2.1 d_Lw_edge_21 (by decide) ?_
      refine lv_iconst (v := (0 : Int32)) S.1 S.2.1 d_Lw_edge_32 rfl ?_
      exact ret_hwi (u := (u, vp_updL f 0 (0 : Int64))) S hr hlk hK I (Or.inl ⟨rfl, r, h, by simp [hc]⟩) d_Lw_edge_33
    · refine lv_lconst (v := (1 : Int64)) S.1 S.2.1 d_Lw_edge_15 rfl ?_
      refine lv_goto (tgt := 20) S.1 S.2.1 d_Lw_edge_16 (by decide) ?_
      refine s_out (f := f) S hK I out_in d_Lw_edge_20 (fun H locs I => ?_)
      refine lv_goto (tgt := 32) S.1 S.2.1 d_Lw_edge_21 (by decide) ?_
      refine lv_iconst (v := (0 : Int32)) S.1 S.2.1 d_Lw_edge_32 rfl ?_
      exact ret_hwi (u := (u, vp_updL f 0 (1 : Int64))) S hr hlk hK I (Or.inl ⟨rfl, r, h, by simp [hc]⟩) d_Lw_edge_33
  · -- it has thrown
    have hE := hX _ _ h
    rcases hE with rfl | rfl
    · refine ct_first (own := R_Lw) (x := ⟨0, 21, 24, 13⟩) (suf := [⟨0, 21, 28, 15⟩]) (name := xIA) S.2.2.2.1 htab (by decide) (by decide) (S.2.2.2.2 _ cl_Lw_13) (va_Nw.use rfl (tx.1 (.castable xIA xIA) (by simp [xl]))) hce hcv hcl ?_
      refine lv_astore (lv' := [(6, .ref q), (0, .ref (ac 0)), (1, .int x1), (2, .int x2), (3, .int x3), (4, .int x4), (5, .ref ao)]) S.1 S.2.1 d_Lw_edge_24 hl (by decide) rfl (fun ls hl => ?_)
      refine lv_iconst (v := (1 : Int32)) S.1 S.2.1 d_Lw_edge_26 rfl ?_
      exact ret_hwi (u := (u, f)) S hr hlk hK I (Or.inr (Or.inl ⟨rfl, h, rfl⟩)) d_Lw_edge_27
    · refine ct_second (own := R_Lw) (x1 := ⟨0, 21, 24, 13⟩) (x := ⟨0, 21, 28, 15⟩) (suf := []) (nm1 := xIA) (name := xIS) S.2.2.2.1 htab (by decide) (by decide) (by decide) (by decide) (S.2.2.2.2 _ cl_Lw_13) tx.2.2.2.1 (S.2.2.2.2 _ cl_Lw_15) (va_Nw.use rfl (tx.1 (.castable xIS xIS) (by simp [xl]))) hce hcv hcl ?_
      refine lv_astore (lv' := [(6, .ref q), (0, .ref (ac 0)), (1, .int x1), (2, .int x2), (3, .int x3), (4, .int x4), (5, .ref ao)]) S.1 S.2.1 d_Lw_edge_28 hl (by decide) rfl (fun ls hl => ?_)
      refine lv_iconst (v := (2 : Int32)) S.1 S.2.1 d_Lw_edge_30 rfl ?_
      exact ret_hwi (u := (u, f)) S hr hlk hK I (Or.inr (Or.inr ⟨rfl, h, rfl⟩)) d_Lw_edge_31
set_option maxHeartbeats 4000000 in
set_option maxRecDepth 100000 in
theorem c_Lw_reaches (l : Launch) (hlt : l.stackTraces = false) (D : va_G) (ac am : Nat → Nat) (ao : Nat) (cA : ClassId × ClassId × ClassId) (te : Te) (ru : Ru) (au : Au) (re : Re) (la : La) (sp : Sp) (le : Le) (mo : Mo) (f : Nat → Int64) (x1 : Int32) (x2 : Int32) (Q1 : Int32 → Re → Prop) (X1 : String → Re → Prop) (hX : ∀ (E : String) (u0 : Re), X1 E u0 → E = xIA) (h : p_Gr_reaches x1 x2 te ru re Q1 X1) : hwI l y_Lw_reaches b_Lw_reaches 5 hh_Lw_reaches rm_Lw_reaches D (tyA cA) (wA ac am ao cA) [.ref (ac 0), .int x1, .int x2, .ref ao] ((te, ru, au, re, la, sp, le), mo, f) (fun u : (Re) × (Nat → Int64) => ((te, ru, au, u.1, la, sp, le), mo, u.2)) (fun (k : Int32) (u : (Re) × (Nat → Int64)) => (k = 0 ∧ ∃ r : Int32, Q1 r u.1 ∧ u.2 = vp_updL f 0 (if r = 0 then (0 : Int64) else 1)) ∨ (k = 1 ∧ X1 xIA u.1 ∧ u.2 = f)) := by
  refine hwI_of (by decide) (Nat.le_of_ble_eq_true rfl) ?_
  intro p e s m below meth c S hr hlk htab hK A hA tx I ls hl
  have hl : lv_has ls 5 [(0, .ref (ac 0)), (1, .int x1), (2, .int x2), (3, .ref ao)] := hl
  refine lv_aload_n S.1 S.2.1 d_Lw_reaches_0 rfl (lv_at hl 3 rfl) ?_
  refine lv_iconst (v := (0 : Int32)) S.1 S.2.1 d_Lw_reaches_1 rfl ?_
  refine lv_aload_n S.1 S.2.1 d_Lw_reaches_2 rfl (lv_at hl 0 rfl) ?_
  refine lv_iload_n S.1 S.2.1 d_Lw_reaches_3 rfl (lv_at hl 1 rfl) ?_
  refine lv_iload_n S.1 S.2.1 d_Lw_reaches_4 rfl (lv_at hl 2 rfl) ?_
  refine callF_tw (w0 := []) (w2 := wM am cA mo ++ oW ao cA f) (wf := wC ac cA) S (c_Gr_reaches l D ac cA te ru au re la sp le x1 x2 Q1 X1 hlt h) ml_Lw_25 k_Gr_reaches rfl rfl ⟨Nat.le_of_ble_eq_true rfl, Nat.le_of_ble_eq_true rfl⟩ (rv_Gr hK (ap_P1 I.1)) hK hA tx I hl.1 rfl rfl (Nat.le_of_ble_eq_true rfl) d_Lw_reaches_5 ⟨Nat.le_of_ble_eq_true rfl, Nat.le_of_ble_eq_true rfl⟩ (fun r u H locs h I => ?_) (fun E u q ce H locs h I hce hcv hcl => ?_)
  · -- it has answered
    refine lv_if_eq (tgt := 15) S.1 S.2.1 d_Lw_reaches_8 (by decide) (fun hc => ?_) (fun hc => ?_)
    · refine lv_lconst (v := (0 : Int64)) S.1 S.2.1 d_Lw_reaches_15 rfl ?_
      refine s_out (f := f) S hK I out_in d_Lw_reaches_16 (fun H locs I => ?_)
      refine lv_goto (tgt := 24) S.1 S.2.1 d_Lw_reaches_17 (by decide) ?_
      refine lv_iconst (v := (0 : Int32)) S.1 S.2.1 d_Lw_reaches_24 rfl ?_
      exact ret_hwi (u := (u, vp_updL f 0 (0 : Int64))) S hr hlk hK I (Or.inl ⟨rfl, r, h, by simp [hc]⟩) d_Lw_reaches_25
    · refine lv_lconst (v := (1 : Int64)) S.1 S.2.1 d_Lw_reaches_11 rfl ?_
      refine lv_goto (tgt := 16) S.1 S.2.1 d_Lw_reaches_12 (by decide) ?_
      refine s_out (f := f) S hK I out_in d_Lw_reaches_16 (fun H locs I => ?_)
      refine lv_goto (tgt := 24) S.1 S.2.1 d_Lw_reaches_17 (by decide) ?_
      refine lv_iconst (v := (0 : Int32)) S.1 S.2.1 d_Lw_reaches_24 rfl ?_
      exact ret_hwi (u := (u, vp_updL f 0 (1 : Int64))) S hr hlk hK I (Or.inl ⟨rfl, r, h, by simp [hc]⟩) d_Lw_reaches_25
  · -- it has thrown
    have hE := hX _ _ h
    rcases hE with rfl
    · refine ct_first (own := R_Lw) (x := ⟨0, 17, 20, 13⟩) (suf := []) (name := xIA) S.2.2.2.1 htab (by decide) (by decide) (S.2.2.2.2 _ cl_Lw_13) (va_Nw.use rfl (tx.1 (.castable xIA xIA) (by simp [xl]))) hce hcv hcl ?_
      refine lv_astore (lv' := [(4, .ref q), (0, .ref (ac 0)), (1, .int x1), (2, .int x2), (3, .ref ao)]) S.1 S.2.1 d_Lw_reaches_20 hl (by decide) rfl (fun ls hl => ?_)
      refine lv_iconst (v := (1 : Int32)) S.1 S.2.1 d_Lw_reaches_22 rfl ?_
      exact ret_hwi (u := (u, f)) S hr hlk hK I (Or.inr ⟨rfl, h, rfl⟩) d_Lw_reaches_23
set_option maxHeartbeats 4000000 in
set_option maxRecDepth 100000 in
theorem c_Lw_meet (l : Launch) (hlt : l.stackTraces = false) (D : va_G) (ac am : Nat → Nat) (ao : Nat) (cA : ClassId × ClassId × ClassId) (te : Te) (ru : Ru) (au : Au) (re : Re) (la : La) (sp : Sp) (le : Le) (mo : Mo) (f : Nat → Int64) (x1 : Int32) (x2 : Int32) (Q1 : Int32 → Re → Prop) (X1 : String → Re → Prop) (hX : ∀ (E : String) (u0 : Re), X1 E u0 → E = xIA) (h : p_Gr_meet x1 x2 te ru re Q1 X1) : hwI l y_Lw_meet b_Lw_meet 5 hh_Lw_meet rm_Lw_meet D (tyA cA) (wA ac am ao cA) [.ref (ac 0), .int x1, .int x2, .ref ao] ((te, ru, au, re, la, sp, le), mo, f) (fun u : (Re) × (Nat → Int64) => ((te, ru, au, u.1, la, sp, le), mo, u.2)) (fun (k : Int32) (u : (Re) × (Nat → Int64)) => (k = 0 ∧ ∃ r : Int32, Q1 r u.1 ∧ u.2 = vp_updL f 0 (if r = 0 then (0 : Int64) else 1)) ∨ (k = 1 ∧ X1 xIA u.1 ∧ u.2 = f)) := by
  refine hwI_of (by decide) (Nat.le_of_ble_eq_true rfl) ?_
  intro p e s m below meth c S hr hlk htab hK A hA tx I ls hl
  have hl : lv_has ls 5 [(0, .ref (ac 0)), (1, .int x1), (2, .int x2), (3, .ref ao)] := hl
  refine lv_aload_n S.1 S.2.1 d_Lw_meet_0 rfl (lv_at hl 3 rfl) ?_
  refine lv_iconst (v := (0 : Int32)) S.1 S.2.1 d_Lw_meet_1 rfl ?_
  refine lv_aload_n S.1 S.2.1 d_Lw_meet_2 rfl (lv_at hl 0 rfl) ?_
  refine lv_iload_n S.1 S.2.1 d_Lw_meet_3 rfl (lv_at hl 1 rfl) ?_
  refine lv_iload_n S.1 S.2.1 d_Lw_meet_4 rfl (lv_at hl 2 rfl) ?_
  refine callF_tw (w0 := []) (w2 := wM am cA mo ++ oW ao cA f) (wf := wC ac cA) S (c_Gr_meet l D ac cA te ru au re la sp le x1 x2 Q1 X1 hlt h) ml_Lw_29 k_Gr_meet rfl rfl ⟨Nat.le_of_ble_eq_true rfl, Nat.le_of_ble_eq_true rfl⟩ (rv_Gr hK (ap_P1 I.1)) hK hA tx I hl.1 rfl rfl (Nat.le_of_ble_eq_true rfl) d_Lw_meet_5 ⟨Nat.le_of_ble_eq_true rfl, Nat.le_of_ble_eq_true rfl⟩ (fun r u H locs h I => ?_) (fun E u q ce H locs h I hce hcv hcl => ?_)
  · -- it has answered
    refine lv_if_eq (tgt := 15) S.1 S.2.1 d_Lw_meet_8 (by decide) (fun hc => ?_) (fun hc => ?_)
    · refine lv_lconst (v := (0 : Int64)) S.1 S.2.1 d_Lw_meet_15 rfl ?_
      refine s_out (f := f) S hK I out_in d_Lw_meet_16 (fun H locs I => ?_)
      refine lv_goto (tgt := 24) S.1 S.2.1 d_Lw_meet_17 (by decide) ?_
      refine lv_iconst (v := (0 : Int32)) S.1 S.2.1 d_Lw_meet_24 rfl ?_
      exact ret_hwi (u := (u, vp_updL f 0 (0 : Int64))) S hr hlk hK I (Or.inl ⟨rfl, r, h, by simp [hc]⟩) d_Lw_meet_25
    · refine lv_lconst (v := (1 : Int64)) S.1 S.2.1 d_Lw_meet_11 rfl ?_
      refine lv_goto (tgt := 16) S.1 S.2.1 d_Lw_meet_12 (by decide) ?_
      refine s_out (f := f) S hK I out_in d_Lw_meet_16 (fun H locs I => ?_)
      refine lv_goto (tgt := 24) S.1 S.2.1 d_Lw_meet_17 (by decide) ?_
      refine lv_iconst (v := (0 : Int32)) S.1 S.2.1 d_Lw_meet_24 rfl ?_
      exact ret_hwi (u := (u, vp_updL f 0 (1 : Int64))) S hr hlk hK I (Or.inl ⟨rfl, r, h, by simp [hc]⟩) d_Lw_meet_25
  · -- it has thrown
    have hE := hX _ _ h
    rcases hE with rfl
    · refine ct_first (own := R_Lw) (x := ⟨0, 17, 20, 13⟩) (suf := []) (name := xIA) S.2.2.2.1 htab (by decide) (by decide) (S.2.2.2.2 _ cl_Lw_13) (va_Nw.use rfl (tx.1 (.castable xIA xIA) (by simp [xl]))) hce hcv hcl ?_
      refine lv_astore (lv' := [(4, .ref q), (0, .ref (ac 0)), (1, .int x1), (2, .int x2), (3, .ref ao)]) S.1 S.2.1 d_Lw_meet_20 hl (by decide) rfl (fun ls hl => ?_)
      refine lv_iconst (v := (1 : Int32)) S.1 S.2.1 d_Lw_meet_22 rfl ?_
      exact ret_hwi (u := (u, f)) S hr hlk hK I (Or.inr ⟨rfl, h, rfl⟩) d_Lw_meet_23
set_option maxHeartbeats 4000000 in
set_option maxRecDepth 100000 in
theorem c_Lw_has (l : Launch) (hlt : l.stackTraces = false) (D : va_G) (ac am : Nat → Nat) (ao : Nat) (cA : ClassId × ClassId × ClassId) (te : Te) (ru : Ru) (au : Au) (re : Re) (la : La) (sp : Sp) (le : Le) (mo : Mo) (f : Nat → Int64) (x1 : Int32) (Q1 : Int32 → La → Prop) (X1 : String → La → Prop) (hX : ∀ (E : String) (u0 : La), X1 E u0 → E = xIA) (h : p_Gr_has x1 te au la Q1 X1) : hwI l y_Lw_has b_Lw_has 4 hh_Lw_has rm_Lw_has D (tyA cA) (wA ac am ao cA) [.ref (ac 0), .int x1, .ref ao] ((te, ru, au, re, la, sp, le), mo, f) (fun u : (La) × (Nat → Int64) => ((te, ru, au, re, u.1, sp, le), mo, u.2)) (fun (k : Int32) (u : (La) × (Nat → Int64)) => (k = 0 ∧ ∃ r : Int32, Q1 r u.1 ∧ u.2 = vp_updL f 0 (if r = 0 then (0 : Int64) else 1)) ∨ (k = 1 ∧ X1 xIA u.1 ∧ u.2 = f)) := by
  refine hwI_of (by decide) (Nat.le_of_ble_eq_true rfl) ?_
  intro p e s m below meth c S hr hlk htab hK A hA tx I ls hl
  have hl : lv_has ls 4 [(0, .ref (ac 0)), (1, .int x1), (2, .ref ao)] := hl
  refine lv_aload_n S.1 S.2.1 d_Lw_has_0 rfl (lv_at hl 2 rfl) ?_
  refine lv_iconst (v := (0 : Int32)) S.1 S.2.1 d_Lw_has_1 rfl ?_
  refine lv_aload_n S.1 S.2.1 d_Lw_has_2 rfl (lv_at hl 0 rfl) ?_
  refine lv_iload_n S.1 S.2.1 d_Lw_has_3 rfl (lv_at hl 1 rfl) ?_
  refine callF_tw (w0 := []) (w2 := wM am cA mo ++ oW ao cA f) (wf := wC ac cA) S (c_Gr_has l D ac cA te ru au re la sp le x1 Q1 X1 hlt h) ml_Lw_32 k_Gr_has rfl rfl ⟨Nat.le_of_ble_eq_true rfl, Nat.le_of_ble_eq_true rfl⟩ (rv_Gr hK (ap_P1 I.1)) hK hA tx I hl.1 rfl rfl (Nat.le_of_ble_eq_true rfl) d_Lw_has_4 ⟨Nat.le_of_ble_eq_true rfl, Nat.le_of_ble_eq_true rfl⟩ (fun r u H locs h I => ?_) (fun E u q ce H locs h I hce hcv hcl => ?_)
  · -- it has answered
    refine lv_if_eq (tgt := 14) S.1 S.2.1 d_Lw_has_7 (by decide) (fun hc => ?_) (fun hc => ?_)
    · refine lv_lconst (v := (0 : Int64)) S.1 S.2.1 d_Lw_has_14 rfl ?_
      refine s_out (f := f) S hK I out_in d_Lw_has_15 (fun H locs I => ?_)
      refine lv_goto (tgt := 22) S.1 S.2.1 d_Lw_has_16 (by decide) ?_
      refine lv_iconst (v := (0 : Int32)) S.1 S.2.1 d_Lw_has_22 rfl ?_
      exact ret_hwi (u := (u, vp_updL f 0 (0 : Int64))) S hr hlk hK I (Or.inl ⟨rfl, r, h, by simp [hc]⟩) d_Lw_has_23
    · refine lv_lconst (v := (1 : Int64)) S.1 S.2.1 d_Lw_has_10 rfl ?_
      refine lv_goto (tgt := 15) S.1 S.2.1 d_Lw_has_11 (by decide) ?_
      refine s_out (f := f) S hK I out_in d_Lw_has_15 (fun H locs I => ?_)
      refine lv_goto (tgt := 22) S.1 S.2.1 d_Lw_has_16 (by decide) ?_
      refine lv_iconst (v := (0 : Int32)) S.1 S.2.1 d_Lw_has_22 rfl ?_
      exact ret_hwi (u := (u, vp_updL f 0 (1 : Int64))) S hr hlk hK I (Or.inl ⟨rfl, r, h, by simp [hc]⟩) d_Lw_has_23
  · -- it has thrown
    have hE := hX _ _ h
    rcases hE with rfl
    · refine ct_first (own := R_Lw) (x := ⟨0, 16, 19, 13⟩) (suf := []) (name := xIA) S.2.2.2.1 htab (by decide) (by decide) (S.2.2.2.2 _ cl_Lw_13) (va_Nw.use rfl (tx.1 (.castable xIA xIA) (by simp [xl]))) hce hcv hcl ?_
      refine lv_astore_n (lv' := [(3, .ref q), (0, .ref (ac 0)), (1, .int x1), (2, .ref ao)]) S.1 S.2.1 d_Lw_has_19 rfl hl (by decide) rfl (fun ls hl => ?_)
      refine lv_iconst (v := (1 : Int32)) S.1 S.2.1 d_Lw_has_20 rfl ?_
      exact ret_hwi (u := (u, f)) S hr hlk hK I (Or.inr ⟨rfl, h, rfl⟩) d_Lw_has_21
set_option maxHeartbeats 4000000 in
set_option maxRecDepth 100000 in
theorem c_Lw_from (l : Launch) (hlt : l.stackTraces = false) (D : va_G) (ac am : Nat → Nat) (ao : Nat) (cA : ClassId × ClassId × ClassId) (te : Te) (ru : Ru) (au : Au) (re : Re) (la : La) (sp : Sp) (le : Le) (mo : Mo) (f : Nat → Int64) (x1 : Int32) (Q1 : Int32 → Re → La → Prop) (X1 : String → Re → La → Prop) (hX : ∀ (E : String) (u0 : Re) (u1 : La), X1 E u0 u1 → E = xIA) (h : p_Gr_from x1 te ru au re la Q1 X1) : hwI l y_Lw_from b_Lw_from 4 hh_Lw_from rm_Lw_from D (tyA cA) (wA ac am ao cA) [.ref (ac 0), .int x1, .ref ao] ((te, ru, au, re, la, sp, le), mo, f) (fun u : (Re × La) × (Nat → Int64) => ((te, ru, au, u.1.1, u.1.2, sp, le), mo, u.2)) (fun (k : Int32) (u : (Re × La) × (Nat → Int64)) => (k = 0 ∧ ∃ r : Int32, Q1 r u.1.1 u.1.2 ∧ u.2 = vp_updL f 0 (if r = 0 then (0 : Int64) else 1)) ∨ (k = 1 ∧ X1 xIA u.1.1 u.1.2 ∧ u.2 = f)) := by
  refine hwI_of (by decide) (Nat.le_of_ble_eq_true rfl) ?_
  intro p e s m below meth c S hr hlk htab hK A hA tx I ls hl
  have hl : lv_has ls 4 [(0, .ref (ac 0)), (1, .int x1), (2, .ref ao)] := hl
  refine lv_aload_n S.1 S.2.1 d_Lw_from_0 rfl (lv_at hl 2 rfl) ?_
  refine lv_iconst (v := (0 : Int32)) S.1 S.2.1 d_Lw_from_1 rfl ?_
  refine lv_aload_n S.1 S.2.1 d_Lw_from_2 rfl (lv_at hl 0 rfl) ?_
  refine lv_iload_n S.1 S.2.1 d_Lw_from_3 rfl (lv_at hl 1 rfl) ?_
  refine callF_tw (w0 := []) (w2 := wM am cA mo ++ oW ao cA f) (wf := wC ac cA) S (c_Gr_from l D ac cA te ru au re la sp le x1 Q1 X1 hlt h) ml_Lw_36 k_Gr_from rfl rfl ⟨Nat.le_of_ble_eq_true rfl, Nat.le_of_ble_eq_true rfl⟩ (rv_Gr hK (ap_P1 I.1)) hK hA tx I hl.1 rfl rfl (Nat.le_of_ble_eq_true rfl) d_Lw_from_4 ⟨Nat.le_of_ble_eq_true rfl, Nat.le_of_ble_eq_true rfl⟩ (fun r u H locs h I => ?_) (fun E u q ce H locs h I hce hcv hcl => ?_)
  · -- it has answered
    refine lv_if_eq (tgt := 14) S.1 S.2.1 d_Lw_from_7 (by decide) (fun hc => ?_) (fun hc => ?_)
    · refine lv_lconst (v := (0 : Int64)) S.1 S.2.1 d_Lw_from_14 rfl ?_
      refine s_out (f := f) S hK I out_in d_Lw_from_15 (fun H locs I => ?_)
      refine lv_goto (tgt := 22) S.1 S.2.1 d_Lw_from_16 (by decide) ?_
      refine lv_iconst (v := (0 : Int32)) S.1 S.2.1 d_Lw_from_22 rfl ?_
      exact ret_hwi (u := (u, vp_updL f 0 (0 : Int64))) S hr hlk hK I (Or.inl ⟨rfl, r, h, by simp [hc]⟩) d_Lw_from_23
    · refine lv_lconst (v := (1 : Int64)) S.1 S.2.1 d_Lw_from_10 rfl ?_
      refine lv_goto (tgt := 15) S.1 S.2.1 d_Lw_from_11 (by decide) ?_
      refine s_out (f := f) S hK I out_in d_Lw_from_15 (fun H locs I => ?_)
      refine lv_goto (tgt := 22) S.1 S.2.1 d_Lw_from_16 (by decide) ?_
      refine lv_iconst (v := (0 : Int32)) S.1 S.2.1 d_Lw_from_22 rfl ?_
      exact ret_hwi (u := (u, vp_updL f 0 (1 : Int64))) S hr hlk hK I (Or.inl ⟨rfl, r, h, by simp [hc]⟩) d_Lw_from_23
  · -- it has thrown
    have hE := hX _ _ _ h
    rcases hE with rfl
    · refine ct_first (own := R_Lw) (x := ⟨0, 16, 19, 13⟩) (suf := []) (name := xIA) S.2.2.2.1 htab (by decide) (by decide) (S.2.2.2.2 _ cl_Lw_13) (va_Nw.use rfl (tx.1 (.castable xIA xIA) (by simp [xl]))) hce hcv hcl ?_
      refine lv_astore_n (lv' := [(3, .ref q), (0, .ref (ac 0)), (1, .int x1), (2, .ref ao)]) S.1 S.2.1 d_Lw_from_19 rfl hl (by decide) rfl (fun ls hl => ?_)
      refine lv_iconst (v := (1 : Int32)) S.1 S.2.1 d_Lw_from_20 rfl ?_
      exact ret_hwi (u := (u, f)) S hr hlk hK I (Or.inr ⟨rfl, h, rfl⟩) d_Lw_from_21
set_option maxHeartbeats 4000000 in
set_option maxRecDepth 100000 in
theorem c_Lw_into (l : Launch) (hlt : l.stackTraces = false) (D : va_G) (ac am : Nat → Nat) (ao : Nat) (cA : ClassId × ClassId × ClassId) (te : Te) (ru : Ru) (au : Au) (re : Re) (la : La) (sp : Sp) (le : Le) (mo : Mo) (f : Nat → Int64) (x1 : Int32) (Q1 : Int32 → Re → La → Prop) (X1 : String → Re → La → Prop) (hX : ∀ (E : String) (u0 : Re) (u1 : La), X1 E u0 u1 → E = xIA) (h : p_Gr_into x1 te ru au re la Q1 X1) : hwI l y_Lw_into b_Lw_into 4 hh_Lw_into rm_Lw_into D (tyA cA) (wA ac am ao cA) [.ref (ac 0), .int x1, .ref ao] ((te, ru, au, re, la, sp, le), mo, f) (fun u : (Re × La) × (Nat → Int64) => ((te, ru, au, u.1.1, u.1.2, sp, le), mo, u.2)) (fun (k : Int32) (u : (Re × La) × (Nat → Int64)) => (k = 0 ∧ ∃ r : Int32, Q1 r u.1.1 u.1.2 ∧ u.2 = vp_updL f 0 (if r = 0 then (0 : Int64) else 1)) ∨ (k = 1 ∧ X1 xIA u.1.1 u.1.2 ∧ u.2 = f)) := by
  refine hwI_of (by decide) (Nat.le_of_ble_eq_true rfl) ?_
  intro p e s m below meth c S hr hlk htab hK A hA tx I ls hl
  have hl : lv_has ls 4 [(0, .ref (ac 0)), (1, .int x1), (2, .ref ao)] := hl
  refine lv_aload_n S.1 S.2.1 d_Lw_into_0 rfl (lv_at hl 2 rfl) ?_
  refine lv_iconst (v := (0 : Int32)) S.1 S.2.1 d_Lw_into_1 rfl ?_
  refine lv_aload_n S.1 S.2.1 d_Lw_into_2 rfl (lv_at hl 0 rfl) ?_
  refine lv_iload_n S.1 S.2.1 d_Lw_into_3 rfl (lv_at hl 1 rfl) ?_
  refine callF_tw (w0 := []) (w2 := wM am cA mo ++ oW ao cA f) (wf := wC ac cA) S (c_Gr_into l D ac cA te ru au re la sp le x1 Q1 X1 hlt h) ml_Lw_39 k_Gr_into rfl rfl ⟨Nat.le_of_ble_eq_true rfl, Nat.le_of_ble_eq_true rfl⟩ (rv_Gr hK (ap_P1 I.1)) hK hA tx I hl.1 rfl rfl (Nat.le_of_ble_eq_true rfl) d_Lw_into_4 ⟨Nat.le_of_ble_eq_true rfl, Nat.le_of_ble_eq_true rfl⟩ (fun r u H locs h I => ?_) (fun E u q ce H locs h I hce hcv hcl => ?_)
  · -- it has answered
    refine lv_if_eq (tgt := 14) S.1 S.2.1 d_Lw_into_7 (by decide) (fun hc => ?_) (fun hc => ?_)
    · refine lv_lconst (v := (0 : Int64)) S.1 S.2.1 d_Lw_into_14 rfl ?_
      refine s_out (f := f) S hK I out_in d_Lw_into_15 (fun H locs I => ?_)
      refine lv_goto (tgt := 22) S.1 S.2.1 d_Lw_into_16 (by decide) ?_
      refine lv_iconst (v := (0 : Int32)) S.1 S.2.1 d_Lw_into_22 rfl ?_
      exact ret_hwi (u := (u, vp_updL f 0 (0 : Int64))) S hr hlk hK I (Or.inl ⟨rfl, r, h, by simp [hc]⟩) d_Lw_into_23
    · refine lv_lconst (v := (1 : Int64)) S.1 S.2.1 d_Lw_into_10 rfl ?_
      refine lv_goto (tgt := 15) S.1 S.2.1 d_Lw_into_11 (by decide) ?_
      refine s_out (f := f) S hK I out_in d_Lw_into_15 (fun H locs I => ?_)
      refine lv_goto (tgt := 22) S.1 S.2.1 d_Lw_into_16 (by decide) ?_
      refine lv_iconst (v := (0 : Int32)) S.1 S.2.1 d_Lw_into_22 rfl ?_
      exact ret_hwi (u := (u, vp_updL f 0 (1 : Int64))) S hr hlk hK I (Or.inl ⟨rfl, r, h, by simp [hc]⟩) d_Lw_into_23
  · -- it has thrown
    have hE := hX _ _ _ h
    rcases hE with rfl
    · refine ct_first (own := R_Lw) (x := ⟨0, 16, 19, 13⟩) (suf := []) (name := xIA) S.2.2.2.1 htab (by decide) (by decide) (S.2.2.2.2 _ cl_Lw_13) (va_Nw.use rfl (tx.1 (.castable xIA xIA) (by simp [xl]))) hce hcv hcl ?_
      refine lv_astore_n (lv' := [(3, .ref q), (0, .ref (ac 0)), (1, .int x1), (2, .ref ao)]) S.1 S.2.1 d_Lw_into_19 rfl hl (by decide) rfl (fun ls hl => ?_)
      refine lv_iconst (v := (1 : Int32)) S.1 S.2.1 d_Lw_into_20 rfl ?_
      exact ret_hwi (u := (u, f)) S hr hlk hK I (Or.inr ⟨rfl, h, rfl⟩) d_Lw_into_21
set_option maxHeartbeats 4000000 in
set_option maxRecDepth 100000 in
theorem c_Lw_least (l : Launch) (hlt : l.stackTraces = false) (D : va_G) (ac am : Nat → Nat) (ao : Nat) (cA : ClassId × ClassId × ClassId) (te : Te) (ru : Ru) (au : Au) (re : Re) (la : La) (sp : Sp) (le : Le) (mo : Mo) (f : Nat → Int64) (x1 : Int32) (Q1 : Int32 → Re → Prop) (X1 : String → Re → Prop) (hX : ∀ (E : String) (u0 : Re), X1 E u0 → E = xIA) (h : p_Gr_least x1 te ru re Q1 X1) : hwI l y_Lw_least b_Lw_least 4 hh_Lw_least rm_Lw_least D (tyA cA) (wA ac am ao cA) [.ref (ac 0), .int x1, .ref ao] ((te, ru, au, re, la, sp, le), mo, f) (fun u : (Re) × (Nat → Int64) => ((te, ru, au, u.1, la, sp, le), mo, u.2)) (fun (k : Int32) (u : (Re) × (Nat → Int64)) => (k = 0 ∧ ∃ r : Int32, Q1 r u.1 ∧ u.2 = vp_updL f 0 r.toInt64) ∨ (k = 1 ∧ X1 xIA u.1 ∧ u.2 = f)) := by
  refine hwI_of (by decide) (Nat.le_of_ble_eq_true rfl) ?_
  intro p e s m below meth c S hr hlk htab hK A hA tx I ls hl
  have hl : lv_has ls 4 [(0, .ref (ac 0)), (1, .int x1), (2, .ref ao)] := hl
  refine lv_aload_n S.1 S.2.1 d_Lw_least_0 rfl (lv_at hl 2 rfl) ?_
  refine lv_iconst (v := (0 : Int32)) S.1 S.2.1 d_Lw_least_1 rfl ?_
  refine lv_aload_n S.1 S.2.1 d_Lw_least_2 rfl (lv_at hl 0 rfl) ?_
  refine lv_iload_n S.1 S.2.1 d_Lw_least_3 rfl (lv_at hl 1 rfl) ?_
  refine callF_tw (w0 := []) (w2 := wM am cA mo ++ oW ao cA f) (wf := wC ac cA) S (c_Gr_least l D ac cA te ru au re la sp le x1 Q1 X1 hlt h) ml_Lw_42 k_Gr_least rfl rfl ⟨Nat.le_of_ble_eq_true rfl, Nat.le_of_ble_eq_true rfl⟩ (rv_Gr hK (ap_P1 I.1)) hK hA tx I hl.1 rfl rfl (Nat.le_of_ble_eq_true rfl) d_Lw_least_4 ⟨Nat.le_of_ble_eq_true rfl, Nat.le_of_ble_eq_true rfl⟩ (fun r u H locs h I => ?_) (fun E u q ce H locs h I hce hcv hcl => ?_)
  · -- it has answered
    refine lv_i2l S.1 S.2.1 d_Lw_least_7 rfl ?_
    refine s_out (f := f) S hK I out_in d_Lw_least_8 (fun H locs I => ?_)
    refine lv_goto (tgt := 15) S.1 S.2.1 d_Lw_least_9 (by decide) ?_
    refine lv_iconst (v := (0 : Int32)) S.1 S.2.1 d_Lw_least_15 rfl ?_
    exact ret_hwi (u := (u, vp_updL f 0 r.toInt64)) S hr hlk hK I (Or.inl ⟨rfl, r, h, rfl⟩) d_Lw_least_16
  · -- it has thrown
    have hE := hX _ _ h
    rcases hE with rfl
    · refine ct_first (own := R_Lw) (x := ⟨0, 9, 12, 13⟩) (suf := []) (name := xIA) S.2.2.2.1 htab (by decide) (by decide) (S.2.2.2.2 _ cl_Lw_13) (va_Nw.use rfl (tx.1 (.castable xIA xIA) (by simp [xl]))) hce hcv hcl ?_
      refine lv_astore_n (lv' := [(3, .ref q), (0, .ref (ac 0)), (1, .int x1), (2, .ref ao)]) S.1 S.2.1 d_Lw_least_12 rfl hl (by decide) rfl (fun ls hl => ?_)
      refine lv_iconst (v := (1 : Int32)) S.1 S.2.1 d_Lw_least_13 rfl ?_
      exact ret_hwi (u := (u, f)) S hr hlk hK I (Or.inr ⟨rfl, h, rfl⟩) d_Lw_least_14
set_option maxHeartbeats 4000000 in
set_option maxRecDepth 100000 in
theorem c_Lw_lightest (l : Launch) (hlt : l.stackTraces = false) (D : va_G) (ac am : Nat → Nat) (ao : Nat) (cA : ClassId × ClassId × ClassId) (te : Te) (ru : Ru) (au : Au) (re : Re) (la : La) (sp : Sp) (le : Le) (mo : Mo) (f : Nat → Int64) (x1 : Int32) (Q1 : Int32 → Au → Prop) (X1 : String → Au → Prop) (hX : ∀ (E : String) (u0 : Au), X1 E u0 → E = xIA) (h : p_Gr_lightest x1 te au Q1 X1) : hwI l y_Lw_lightest b_Lw_lightest 4 hh_Lw_lightest rm_Lw_lightest D (tyA cA) (wA ac am ao cA) [.ref (ac 0), .int x1, .ref ao] ((te, ru, au, re, la, sp, le), mo, f) (fun u : (Au) × (Nat → Int64) => ((te, ru, u.1, re, la, sp, le), mo, u.2)) (fun (k : Int32) (u : (Au) × (Nat → Int64)) => (k = 0 ∧ ∃ r : Int32, Q1 r u.1 ∧ u.2 = vp_updL f 0 r.toInt64) ∨ (k = 1 ∧ X1 xIA u.1 ∧ u.2 = f)) := by
  refine hwI_of (by decide) (Nat.le_of_ble_eq_true rfl) ?_
  intro p e s m below meth c S hr hlk htab hK A hA tx I ls hl
  have hl : lv_has ls 4 [(0, .ref (ac 0)), (1, .int x1), (2, .ref ao)] := hl
  refine lv_aload_n S.1 S.2.1 d_Lw_lightest_0 rfl (lv_at hl 2 rfl) ?_
  refine lv_iconst (v := (0 : Int32)) S.1 S.2.1 d_Lw_lightest_1 rfl ?_
  refine lv_aload_n S.1 S.2.1 d_Lw_lightest_2 rfl (lv_at hl 0 rfl) ?_
  refine lv_iload_n S.1 S.2.1 d_Lw_lightest_3 rfl (lv_at hl 1 rfl) ?_
  refine callF_tw (w0 := []) (w2 := wM am cA mo ++ oW ao cA f) (wf := wC ac cA) S (c_Gr_lightest l D ac cA te ru au re la sp le x1 Q1 X1 hlt h) ml_Lw_46 k_Gr_lightest rfl rfl ⟨Nat.le_of_ble_eq_true rfl, Nat.le_of_ble_eq_true rfl⟩ (rv_Gr hK (ap_P1 I.1)) hK hA tx I hl.1 rfl rfl (Nat.le_of_ble_eq_true rfl) d_Lw_lightest_4 ⟨Nat.le_of_ble_eq_true rfl, Nat.le_of_ble_eq_true rfl⟩ (fun r u H locs h I => ?_) (fun E u q ce H locs h I hce hcv hcl => ?_)
  · -- it has answered
    refine lv_i2l S.1 S.2.1 d_Lw_lightest_7 rfl ?_
    refine s_out (f := f) S hK I out_in d_Lw_lightest_8 (fun H locs I => ?_)
    refine lv_goto (tgt := 15) S.1 S.2.1 d_Lw_lightest_9 (by decide) ?_
    refine lv_iconst (v := (0 : Int32)) S.1 S.2.1 d_Lw_lightest_15 rfl ?_
    exact ret_hwi (u := (u, vp_updL f 0 r.toInt64)) S hr hlk hK I (Or.inl ⟨rfl, r, h, rfl⟩) d_Lw_lightest_16
  · -- it has thrown
    have hE := hX _ _ h
    rcases hE with rfl
    · refine ct_first (own := R_Lw) (x := ⟨0, 9, 12, 13⟩) (suf := []) (name := xIA) S.2.2.2.1 htab (by decide) (by decide) (S.2.2.2.2 _ cl_Lw_13) (va_Nw.use rfl (tx.1 (.castable xIA xIA) (by simp [xl]))) hce hcv hcl ?_
      refine lv_astore_n (lv' := [(3, .ref q), (0, .ref (ac 0)), (1, .int x1), (2, .ref ao)]) S.1 S.2.1 d_Lw_lightest_12 rfl hl (by decide) rfl (fun ls hl => ?_)
      refine lv_iconst (v := (1 : Int32)) S.1 S.2.1 d_Lw_lightest_13 rfl ?_
      exact ret_hwi (u := (u, f)) S hr hlk hK I (Or.inr ⟨rfl, h, rfl⟩) d_Lw_lightest_14
set_option maxHeartbeats 4000000 in
set_option maxRecDepth 100000 in
theorem c_Lw_step (l : Launch) (hlt : l.stackTraces = false) (D : va_G) (ac am : Nat → Nat) (ao : Nat) (cA : ClassId × ClassId × ClassId) (te : Te) (ru : Ru) (au : Au) (re : Re) (la : La) (sp : Sp) (le : Le) (mo : Mo) (f : Nat → Int64) (x1 : Int32) (x2 : Int32) (Q1 : Int32 → Te → Sp → Prop) (X1 : String → Te → Sp → Prop) (hX : ∀ (E : String) (u0 : Te) (u1 : Sp), X1 E u0 u1 → E = xIB ∨ E = xIS) (h : p_Gr_step x1 x2 te ru sp Q1 X1) : hwI l y_Lw_step b_Lw_step 5 hh_Lw_step rm_Lw_step D (tyA cA) (wA ac am ao cA) [.ref (ac 0), .int x1, .int x2, .ref ao] ((te, ru, au, re, la, sp, le), mo, f) (fun u : (Te × Sp) × (Nat → Int64) => ((u.1.1, ru, au, re, la, u.1.2, le), mo, u.2)) (fun (k : Int32) (u : (Te × Sp) × (Nat → Int64)) => (k = 0 ∧ ∃ r : Int32, Q1 r u.1.1 u.1.2 ∧ u.2 = vp_updL f 0 r.toInt64) ∨ (k = 1 ∧ X1 xIB u.1.1 u.1.2 ∧ u.2 = f) ∨ (k = 2 ∧ X1 xIS u.1.1 u.1.2 ∧ u.2 = f)) := by
  refine hwI_of (by decide) (Nat.le_of_ble_eq_true rfl) ?_
  intro p e s m below meth c S hr hlk htab hK A hA tx I ls hl
  have hl : lv_has ls 5 [(0, .ref (ac 0)), (1, .int x1), (2, .int x2), (3, .ref ao)] := hl
  refine lv_aload_n S.1 S.2.1 d_Lw_step_0 rfl (lv_at hl 3 rfl) ?_
  refine lv_iconst (v := (0 : Int32)) S.1 S.2.1 d_Lw_step_1 rfl ?_
  refine lv_aload_n S.1 S.2.1 d_Lw_step_2 rfl (lv_at hl 0 rfl) ?_
  refine lv_iload_n S.1 S.2.1 d_Lw_step_3 rfl (lv_at hl 1 rfl) ?_
  refine lv_iload_n S.1 S.2.1 d_Lw_step_4 rfl (lv_at hl 2 rfl) ?_
  refine callF_tw (w0 := []) (w2 := wM am cA mo ++ oW ao cA f) (wf := wC ac cA) S (c_Gr_step l D ac cA te ru au re la sp le x1 x2 Q1 X1 hlt h) ml_Lw_49 k_Gr_step rfl rfl ⟨Nat.le_of_ble_eq_true rfl, Nat.le_of_ble_eq_true rfl⟩ (rv_Gr hK (ap_P1 I.1)) hK hA tx I hl.1 rfl rfl (Nat.le_of_ble_eq_true rfl) d_Lw_step_5 ⟨Nat.le_of_ble_eq_true rfl, Nat.le_of_ble_eq_true rfl⟩ (fun r u H locs h I => ?_) (fun E u q ce H locs h I hce hcv hcl => ?_)
  · -- it has answered
    refine lv_i2l S.1 S.2.1 d_Lw_step_8 rfl ?_
    refine s_out (f := f) S hK I out_in d_Lw_step_9 (fun H locs I => ?_)
    refine lv_goto (tgt := 21) S.1 S.2.1 d_Lw_step_10 (by decide) ?_
    refine lv_iconst (v := (0 : Int32)) S.1 S.2.1 d_Lw_step_21 rfl ?_
    exact ret_hwi (u := (u, vp_updL f 0 r.toInt64)) S hr hlk hK I (Or.inl ⟨rfl, r, h, rfl⟩) d_Lw_step_22
  · -- it has thrown
    have hE := hX _ _ _ h
    rcases hE with rfl | rfl
    · refine ct_first (own := R_Lw) (x := ⟨0, 10, 13, 52⟩) (suf := [⟨0, 10, 17, 15⟩]) (name := xIB) S.2.2.2.1 htab (by decide) (by decide) (S.2.2.2.2 _ cl_Lw_52) (va_Nw.use rfl (tx.1 (.castable xIB xIB) (by simp [xl]))) hce hcv hcl ?_
      refine lv_astore (lv' := [(4, .ref q), (0, .ref (ac 0)), (1, .int x1), (2, .int x2), (3, .ref ao)]) S.1 S.2.1 d_Lw_step_13 hl (by decide) rfl (fun ls hl => ?_)
      refine lv_iconst (v := (1 : Int32)) S.1 S.2.1 d_Lw_step_15 rfl ?_
      exact ret_hwi (u := (u, f)) S hr hlk hK I (Or.inr (Or.inl ⟨rfl, h, rfl⟩)) d_Lw_step_16
    · refine ct_second (own := R_Lw) (x1 := ⟨0, 10, 13, 52⟩) (x := ⟨0, 10, 17, 15⟩) (suf := []) (nm1 := xIB) (name := xIS) S.2.2.2.1 htab (by decide) (by decide) (by decide) (by decide) (S.2.2.2.2 _ cl_Lw_52) tx.2.2.2.2 (S.2.2.2.2 _ cl_Lw_15) (va_Nw.use rfl (tx.1 (.castable xIS xIS) (by simp [xl]))) hce hcv hcl ?_
      refine lv_astore (lv' := [(4, .ref q), (0, .ref (ac 0)), (1, .int x1), (2, .int x2), (3, .ref ao)]) S.1 S.2.1 d_Lw_step_17 hl (by decide) rfl (fun ls hl => ?_)
      refine lv_iconst (v := (2 : Int32)) S.1 S.2.1 d_Lw_step_19 rfl ?_
      exact ret_hwi (u := (u, f)) S hr hlk hK I (Or.inr (Or.inr ⟨rfl, h, rfl⟩)) d_Lw_step_20
set_option maxHeartbeats 4000000 in
set_option maxRecDepth 100000 in
theorem c_Lw_distance (l : Launch) (hlt : l.stackTraces = false) (D : va_G) (ac am : Nat → Nat) (ao : Nat) (cA : ClassId × ClassId × ClassId) (te : Te) (ru : Ru) (au : Au) (re : Re) (la : La) (sp : Sp) (le : Le) (mo : Mo) (f : Nat → Int64) (x1 : Int32) (x2 : Int32) (Q1 : Int32 → Te → Re → Le → Prop) (X1 : String → Te → Re → Le → Prop) (hX : ∀ (E : String) (u0 : Te) (u1 : Re) (u2 : Le), X1 E u0 u1 u2 → E = xIA) (h : p_Gr_distance x1 x2 te ru re le Q1 X1) : hwI l y_Lw_distance b_Lw_distance 5 hh_Lw_distance rm_Lw_distance D (tyA cA) (wA ac am ao cA) [.ref (ac 0), .int x1, .int x2, .ref ao] ((te, ru, au, re, la, sp, le), mo, f) (fun u : (Te × Re × Le) × (Nat → Int64) => ((u.1.1, ru, au, u.1.2.1, la, sp, u.1.2.2), mo, u.2)) (fun (k : Int32) (u : (Te × Re × Le) × (Nat → Int64)) => (k = 0 ∧ ∃ r : Int32, Q1 r u.1.1 u.1.2.1 u.1.2.2 ∧ u.2 = vp_updL f 0 r.toInt64) ∨ (k = 1 ∧ X1 xIA u.1.1 u.1.2.1 u.1.2.2 ∧ u.2 = f)) := by
  refine hwI_of (by decide) (Nat.le_of_ble_eq_true rfl) ?_
  intro p e s m below meth c S hr hlk htab hK A hA tx I ls hl
  have hl : lv_has ls 5 [(0, .ref (ac 0)), (1, .int x1), (2, .int x2), (3, .ref ao)] := hl
  refine lv_aload_n S.1 S.2.1 d_Lw_distance_0 rfl (lv_at hl 3 rfl) ?_
  refine lv_iconst (v := (0 : Int32)) S.1 S.2.1 d_Lw_distance_1 rfl ?_
  refine lv_aload_n S.1 S.2.1 d_Lw_distance_2 rfl (lv_at hl 0 rfl) ?_
  refine lv_iload_n S.1 S.2.1 d_Lw_distance_3 rfl (lv_at hl 1 rfl) ?_
  refine lv_iload_n S.1 S.2.1 d_Lw_distance_4 rfl (lv_at hl 2 rfl) ?_
  refine callF_tw (w0 := []) (w2 := wM am cA mo ++ oW ao cA f) (wf := wC ac cA) S (c_Gr_distance l D ac cA te ru au re la sp le x1 x2 Q1 X1 hlt h) ml_Lw_54 k_Gr_distance rfl rfl ⟨Nat.le_of_ble_eq_true rfl, Nat.le_of_ble_eq_true rfl⟩ (rv_Gr hK (ap_P1 I.1)) hK hA tx I hl.1 rfl rfl (Nat.le_of_ble_eq_true rfl) d_Lw_distance_5 ⟨Nat.le_of_ble_eq_true rfl, Nat.le_of_ble_eq_true rfl⟩ (fun r u H locs h I => ?_) (fun E u q ce H locs h I hce hcv hcl => ?_)
  · -- it has answered
    refine lv_i2l S.1 S.2.1 d_Lw_distance_8 rfl ?_
    refine s_out (f := f) S hK I out_in d_Lw_distance_9 (fun H locs I => ?_)
    refine lv_goto (tgt := 17) S.1 S.2.1 d_Lw_distance_10 (by decide) ?_
    refine lv_iconst (v := (0 : Int32)) S.1 S.2.1 d_Lw_distance_17 rfl ?_
    exact ret_hwi (u := (u, vp_updL f 0 r.toInt64)) S hr hlk hK I (Or.inl ⟨rfl, r, h, rfl⟩) d_Lw_distance_18
  · -- it has thrown
    have hE := hX _ _ _ _ h
    rcases hE with rfl
    · refine ct_first (own := R_Lw) (x := ⟨0, 10, 13, 13⟩) (suf := []) (name := xIA) S.2.2.2.1 htab (by decide) (by decide) (S.2.2.2.2 _ cl_Lw_13) (va_Nw.use rfl (tx.1 (.castable xIA xIA) (by simp [xl]))) hce hcv hcl ?_
      refine lv_astore (lv' := [(4, .ref q), (0, .ref (ac 0)), (1, .int x1), (2, .int x2), (3, .ref ao)]) S.1 S.2.1 d_Lw_distance_13 hl (by decide) rfl (fun ls hl => ?_)
      refine lv_iconst (v := (1 : Int32)) S.1 S.2.1 d_Lw_distance_15 rfl ?_
      exact ret_hwi (u := (u, f)) S hr hlk hK I (Or.inr ⟨rfl, h, rfl⟩) d_Lw_distance_16
