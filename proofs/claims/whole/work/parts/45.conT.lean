set_option maxHeartbeats 4000000 in
set_option maxRecDepth 100000 in
theorem c_Gr_term (l : Launch) (D : va_G) (ad : Nat → Nat) (cA : ClassId × ClassId × ClassId) (te : Te) (ru : Ru) (au : Au) (re : Re) (la : La) (sp : Sp) (le : Le) (x1 : Int32) (x2 : Int32) (x3 : Int32) (Q : Int32 → Te → Prop) (X : String → Te → Prop) (hlt : l.stackTraces = false) (h : p_Gr_term x1 x2 x3 te Q X) : twI l y_Gr_term (wsOf y_Gr_term b_Gr_term 5 (some .int)) rm_Gr_term D (tyA cA) (wC ad cA) [.ref (ad 0), .int x1, .int x2, .int x3] (te, ru, au, re, la, sp, le) (fun u : Te => (u, ru, au, re, la, sp, le)) (fun (r : Int32) (u : Te) => Q r u) (fun (E : String) (u : Te) => X E u) := by
  refine twI_of (by decide) (Nat.le_of_ble_eq_true rfl) ?_
  intro p e s m below meth c S hr hlk hne hK A hA tx I ls hl
  have hl : lv_has ls 5 [(0, .ref (ad 0)), (1, .int x1), (2, .int x2), (3, .int x3)] := hl
  refine lv_aload_n S.1 S.2.1 d_Gr_term_0 rfl (lv_at hl 0 rfl) ?_
  refine g_Gr_terms S hK I.1 d_Gr_term_1 ?_
  refine lv_iload_n S.1 S.2.1 d_Gr_term_4 rfl (lv_at hl 1 rfl) ?_
  refine lv_iload_n S.1 S.2.1 d_Gr_term_5 rfl (lv_at hl 2 rfl) ?_
  refine lv_iload_n S.1 S.2.1 d_Gr_term_6 rfl (lv_at hl 3 rfl) ?_
  refine callV_roi S (c_Te_canStand l D ad cA _ _ _ _ _ _ _ _ _ _ _ h) (mkV S.2.2.2.2 ml_Gr_66 k_Te_canStand rfl rfl ⟨Nat.le_of_ble_eq_true rfl, Nat.le_of_ble_eq_true rfl⟩) (rv_Te hK I.1) hK I.1 hl.1 rfl rfl (Nat.le_of_ble_eq_true rfl) d_Gr_term_7 ⟨Nat.zero_le _, Nat.zero_le _⟩ (fun r7 h => ?_)
  refine lv_if_ne (tgt := 21) S.1 S.2.1 d_Gr_term_10 (by decide) (fun hc => ?_) (fun hc => ?_)
  · have h := h.1 hc
    refine lv_aload_n S.1 S.2.1 d_Gr_term_21 rfl (lv_at hl 0 rfl) ?_
    refine g_Gr_terms S hK I.1 d_Gr_term_22 ?_
    refine lv_iload_n S.1 S.2.1 d_Gr_term_25 rfl (lv_at hl 1 rfl) ?_
    refine lv_iload_n S.1 S.2.1 d_Gr_term_26 rfl (lv_at hl 2 rfl) ?_
    refine lv_iload_n S.1 S.2.1 d_Gr_term_27 rfl (lv_at hl 3 rfl) ?_
    refine callV_rwi S (c_Te_findOrAppend l D ad cA _ _ _ _ _ _ _ _ _ _ _ h) (mkV S.2.2.2.2 ml_Gr_73 k_Te_findOrAppend rfl rfl ⟨Nat.le_of_ble_eq_true rfl, Nat.le_of_ble_eq_true rfl⟩) (rv_Te hK I.1) hK hA I hl.1 rfl rfl (Nat.le_of_ble_eq_true rfl) d_Gr_term_28 ⟨Nat.zero_le _, Nat.zero_le _⟩ (fun r28 te28 H locs h I => ?_)
    refine lv_istore (lv' := [(4, .int r28), (0, .ref (ad 0)), (1, .int x1), (2, .int x2), (3, .int x3)]) S.1 S.2.1 d_Gr_term_31 hl (by decide) rfl (fun ls hl => ?_)
    refine lv_iload S.1 S.2.1 d_Gr_term_33 (lv_at hl 0 rfl) ?_
    refine lv_iconst (v := (-1 : Int32)) S.1 S.2.1 d_Gr_term_35 rfl ?_
    refine lv_icmp_ne (tgt := 47) S.1 S.2.1 d_Gr_term_36 (by decide) (fun hc => ?_) (fun hc => ?_)
    · have h := h.1 hc
      refine lv_iload S.1 S.2.1 d_Gr_term_47 (lv_at hl 0 rfl) ?_
      exact ret_twi S hr hlk hK I h d_Gr_term_49
    · have h := h.2 hc
      exact w_throw S hlt hlk hne hK tx (by decide) xAll_IS cl_IS in_IS is_IS I hl.1 h d_Gr_term_39 d_Gr_term_42 d_Gr_term_43 d_Gr_term_46 ⟨Nat.le_of_ble_eq_true rfl, Nat.le_of_ble_eq_true rfl, Nat.le_of_ble_eq_true rfl, Nat.le_of_ble_eq_true rfl⟩
  · have h := h.2 hc
    exact w_throw S hlt hlk hne hK tx (by decide) xAll_IA cl_IA in_IA is_IA I hl.1 h d_Gr_term_13 d_Gr_term_16 d_Gr_term_17 d_Gr_term_20 ⟨Nat.le_of_ble_eq_true rfl, Nat.le_of_ble_eq_true rfl, Nat.le_of_ble_eq_true rfl, Nat.le_of_ble_eq_true rfl⟩

set_option maxHeartbeats 4000000 in
set_option maxRecDepth 100000 in
theorem c_Gr_rule (l : Launch) (D : va_G) (ad : Nat → Nat) (cA : ClassId × ClassId × ClassId) (te : Te) (ru : Ru) (au : Au) (re : Re) (la : La) (sp : Sp) (le : Le) (x1 : Int32) (x2 : Int32) (Q : Int32 → Ru → Prop) (X : String → Ru → Prop) (hlt : l.stackTraces = false) (h : p_Gr_rule x1 x2 te ru Q X) : twI l y_Gr_rule (wsOf y_Gr_rule b_Gr_rule 4 (some .int)) rm_Gr_rule D (tyA cA) (wC ad cA) [.ref (ad 0), .int x1, .int x2] (te, ru, au, re, la, sp, le) (fun u : Ru => (te, u, au, re, la, sp, le)) (fun (r : Int32) (u : Ru) => Q r u) (fun (E : String) (u : Ru) => X E u) := by
  refine twI_of (by decide) (Nat.le_of_ble_eq_true rfl) ?_
  intro p e s m below meth c S hr hlk hne hK A hA tx I ls hl
  have hl : lv_has ls 4 [(0, .ref (ad 0)), (1, .int x1), (2, .int x2)] := hl
  refine lv_aload_n S.1 S.2.1 d_Gr_rule_0 rfl (lv_at hl 0 rfl) ?_
  refine g_Gr_terms S hK I.1 d_Gr_rule_1 ?_
  refine lv_iload_n S.1 S.2.1 d_Gr_rule_4 rfl (lv_at hl 1 rfl) ?_
  refine callV_roi S (c_Te_isMade l D ad cA _ _ _ _ _ _ _ _ _ h) (mkV S.2.2.2.2 ml_Gr_80 k_Te_isMade rfl rfl ⟨Nat.le_of_ble_eq_true rfl, Nat.le_of_ble_eq_true rfl⟩) (rv_Te hK I.1) hK I.1 hl.1 rfl rfl (Nat.le_of_ble_eq_true rfl) d_Gr_rule_5 ⟨Nat.zero_le _, Nat.zero_le _⟩ (fun r5 h => ?_)
  refine lv_if_eq (tgt := 27) S.1 S.2.1 d_Gr_rule_8 (by decide) (fun hc => ?_) (fun hc => ?_)
  · have h := h.1 hc
    exact w_throw S hlt hlk hne hK tx (by decide) xAll_IA cl_IA in_IA is_IA I hl.1 h d_Gr_rule_27 d_Gr_rule_30 d_Gr_rule_31 d_Gr_rule_34 ⟨Nat.le_of_ble_eq_true rfl, Nat.le_of_ble_eq_true rfl, Nat.le_of_ble_eq_true rfl, Nat.le_of_ble_eq_true rfl⟩
  · have h := h.2 hc
    refine lv_aload_n S.1 S.2.1 d_Gr_rule_11 rfl (lv_at hl 0 rfl) ?_
    refine g_Gr_terms S hK I.1 d_Gr_rule_12 ?_
    refine lv_iload_n S.1 S.2.1 d_Gr_rule_15 rfl (lv_at hl 2 rfl) ?_
    refine callV_roi S (c_Te_isMade l D ad cA _ _ _ _ _ _ _ _ _ h) (mkV S.2.2.2.2 ml_Gr_80 k_Te_isMade rfl rfl ⟨Nat.le_of_ble_eq_true rfl, Nat.le_of_ble_eq_true rfl⟩) (rv_Te hK I.1) hK I.1 hl.1 rfl rfl (Nat.le_of_ble_eq_true rfl) d_Gr_rule_16 ⟨Nat.zero_le _, Nat.zero_le _⟩ (fun r16 h => ?_)
    refine lv_if_eq (tgt := 27) S.1 S.2.1 d_Gr_rule_19 (by decide) (fun hc => ?_) (fun hc => ?_)
    · have h := h.1 hc
      exact w_throw S hlt hlk hne hK tx (by decide) xAll_IA cl_IA in_IA is_IA I hl.1 h d_Gr_rule_27 d_Gr_rule_30 d_Gr_rule_31 d_Gr_rule_34 ⟨Nat.le_of_ble_eq_true rfl, Nat.le_of_ble_eq_true rfl, Nat.le_of_ble_eq_true rfl, Nat.le_of_ble_eq_true rfl⟩
    · have h := h.2 hc
      refine lv_iload_n S.1 S.2.1 d_Gr_rule_22 rfl (lv_at hl 1 rfl) ?_
      refine lv_iload_n S.1 S.2.1 d_Gr_rule_23 rfl (lv_at hl 2 rfl) ?_
      refine lv_icmp_ne (tgt := 35) S.1 S.2.1 d_Gr_rule_24 (by decide) (fun hc => ?_) (fun hc => ?_)
      · have h := h.1 hc
        refine lv_aload_n S.1 S.2.1 d_Gr_rule_35 rfl (lv_at hl 0 rfl) ?_
        refine g_Gr_rules S hK I.1 d_Gr_rule_36 ?_
        refine lv_iload_n S.1 S.2.1 d_Gr_rule_39 rfl (lv_at hl 1 rfl) ?_
        refine lv_iload_n S.1 S.2.1 d_Gr_rule_40 rfl (lv_at hl 2 rfl) ?_
        refine callV_rwi S (c_Ru_append l D ad cA _ _ _ _ _ _ _ _ _ _ h) (mkV S.2.2.2.2 ml_Gr_100 k_Ru_append rfl rfl ⟨Nat.le_of_ble_eq_true rfl, Nat.le_of_ble_eq_true rfl⟩) (rv_Ru hK I.1) hK hA I hl.1 rfl rfl (Nat.le_of_ble_eq_true rfl) d_Gr_rule_41 ⟨Nat.zero_le _, Nat.zero_le _⟩ (fun r41 ru41 H locs h I => ?_)
        refine lv_istore_n (lv' := [(3, .int r41), (0, .ref (ad 0)), (1, .int x1), (2, .int x2)]) S.1 S.2.1 d_Gr_rule_44 rfl hl (by decide) rfl (fun ls hl => ?_)
        refine lv_iload_n S.1 S.2.1 d_Gr_rule_45 rfl (lv_at hl 0 rfl) ?_
        refine lv_iconst (v := (-1 : Int32)) S.1 S.2.1 d_Gr_rule_46 rfl ?_
        refine lv_icmp_ne (tgt := 58) S.1 S.2.1 d_Gr_rule_47 (by decide) (fun hc => ?_) (fun hc => ?_)
        · have h := h.1 hc
          refine lv_iload_n S.1 S.2.1 d_Gr_rule_58 rfl (lv_at hl 0 rfl) ?_
          exact ret_twi S hr hlk hK I h d_Gr_rule_59
        · have h := h.2 hc
          exact w_throw S hlt hlk hne hK tx (by decide) xAll_IS cl_IS in_IS is_IS I hl.1 h d_Gr_rule_50 d_Gr_rule_53 d_Gr_rule_54 d_Gr_rule_57 ⟨Nat.le_of_ble_eq_true rfl, Nat.le_of_ble_eq_true rfl, Nat.le_of_ble_eq_true rfl, Nat.le_of_ble_eq_true rfl⟩
      · have h := h.2 hc
        exact w_throw S hlt hlk hne hK tx (by decide) xAll_IA cl_IA in_IA is_IA I hl.1 h d_Gr_rule_27 d_Gr_rule_30 d_Gr_rule_31 d_Gr_rule_34 ⟨Nat.le_of_ble_eq_true rfl, Nat.le_of_ble_eq_true rfl, Nat.le_of_ble_eq_true rfl, Nat.le_of_ble_eq_true rfl⟩

set_option maxHeartbeats 4000000 in
set_option maxRecDepth 100000 in
theorem c_Gr_edge (l : Launch) (D : va_G) (ad : Nat → Nat) (cA : ClassId × ClassId × ClassId) (te : Te) (ru : Ru) (au : Au) (re : Re) (la : La) (sp : Sp) (le : Le) (x1 : Int32) (x2 : Int32) (x3 : Int32) (x4 : Int32) (Q : Int32 → Au → Prop) (X : String → Au → Prop) (hlt : l.stackTraces = false) (h : p_Gr_edge x1 x2 x3 x4 te au Q X) : twI l y_Gr_edge (wsOf y_Gr_edge b_Gr_edge 5 (some .boolean)) rm_Gr_edge D (tyA cA) (wC ad cA) [.ref (ad 0), .int x1, .int x2, .int x3, .int x4] (te, ru, au, re, la, sp, le) (fun u : Au => (te, ru, u, re, la, sp, le)) (fun (r : Int32) (u : Au) => Q r u) (fun (E : String) (u : Au) => X E u) := by
  refine twI_of (by decide) (Nat.le_of_ble_eq_true rfl) ?_
  intro p e s m below meth c S hr hlk hne hK A hA tx I ls hl
  have hl : lv_has ls 5 [(0, .ref (ad 0)), (1, .int x1), (2, .int x2), (3, .int x3), (4, .int x4)] := hl
  refine lv_aload_n S.1 S.2.1 d_Gr_edge_0 rfl (lv_at hl 0 rfl) ?_
  refine g_Gr_automaton S hK I.1 d_Gr_edge_1 ?_
  refine lv_iload_n S.1 S.2.1 d_Gr_edge_4 rfl (lv_at hl 1 rfl) ?_
  refine lv_iload_n S.1 S.2.1 d_Gr_edge_5 rfl (lv_at hl 2 rfl) ?_
  refine lv_iload_n S.1 S.2.1 d_Gr_edge_6 rfl (lv_at hl 3 rfl) ?_
  refine lv_iload S.1 S.2.1 d_Gr_edge_7 (lv_at hl 4 rfl) ?_
  refine callV_roi S (c_Au_canStand l D ad cA _ _ _ _ _ _ _ _ _ _ _ _ h) (mkV S.2.2.2.2 ml_Gr_108 k_Au_canStand rfl rfl ⟨Nat.le_of_ble_eq_true rfl, Nat.le_of_ble_eq_true rfl⟩) (rv_Au hK I.1) hK I.1 hl.1 rfl rfl (Nat.le_of_ble_eq_true rfl) d_Gr_edge_9 ⟨Nat.zero_le _, Nat.zero_le _⟩ (fun r9 h => ?_)
  refine lv_if_ne (tgt := 23) S.1 S.2.1 d_Gr_edge_12 (by decide) (fun hc => ?_) (fun hc => ?_)
  · have h := h.1 hc
    refine lv_aload_n S.1 S.2.1 d_Gr_edge_23 rfl (lv_at hl 0 rfl) ?_
    refine g_Gr_automaton S hK I.1 d_Gr_edge_24 ?_
    refine lv_iload_n S.1 S.2.1 d_Gr_edge_27 rfl (lv_at hl 1 rfl) ?_
    refine lv_iload_n S.1 S.2.1 d_Gr_edge_28 rfl (lv_at hl 2 rfl) ?_
    refine lv_iload_n S.1 S.2.1 d_Gr_edge_29 rfl (lv_at hl 3 rfl) ?_
    refine lv_iload S.1 S.2.1 d_Gr_edge_30 (lv_at hl 4 rfl) ?_
    refine callV_roi S (c_Au_holds l D ad cA _ _ _ _ _ _ _ _ _ _ _ _ h) (mkV S.2.2.2.2 ml_Gr_111 k_Au_holds rfl rfl ⟨Nat.le_of_ble_eq_true rfl, Nat.le_of_ble_eq_true rfl⟩) (rv_Au hK I.1) hK I.1 hl.1 rfl rfl (Nat.le_of_ble_eq_true rfl) d_Gr_edge_32 ⟨Nat.zero_le _, Nat.zero_le _⟩ (fun r32 h => ?_)
    refine lv_if_eq (tgt := 40) S.1 S.2.1 d_Gr_edge_35 (by decide) (fun hc => ?_) (fun hc => ?_)
    · have h := h.1 hc
      refine lv_aload_n S.1 S.2.1 d_Gr_edge_40 rfl (lv_at hl 0 rfl) ?_
      refine g_Gr_automaton S hK I.1 d_Gr_edge_41 ?_
      refine lv_iload_n S.1 S.2.1 d_Gr_edge_44 rfl (lv_at hl 1 rfl) ?_
      refine lv_iload_n S.1 S.2.1 d_Gr_edge_45 rfl (lv_at hl 2 rfl) ?_
      refine lv_iload_n S.1 S.2.1 d_Gr_edge_46 rfl (lv_at hl 3 rfl) ?_
      refine lv_iload S.1 S.2.1 d_Gr_edge_47 (lv_at hl 4 rfl) ?_
      refine callV_rwi S (c_Au_append l D ad cA _ _ _ _ _ _ _ _ _ _ _ _ h) (mkV S.2.2.2.2 ml_Gr_114 k_Au_append rfl rfl ⟨Nat.le_of_ble_eq_true rfl, Nat.le_of_ble_eq_true rfl⟩) (rv_Au hK I.1) hK hA I hl.1 rfl rfl (Nat.le_of_ble_eq_true rfl) d_Gr_edge_49 ⟨Nat.zero_le _, Nat.zero_le _⟩ (fun r49 au49 H locs h I => ?_)
      refine lv_if_ne (tgt := 63) S.1 S.2.1 d_Gr_edge_52 (by decide) (fun hc => ?_) (fun hc => ?_)
      · have h := h.1 hc
        refine lv_iconst (v := (1 : Int32)) S.1 S.2.1 d_Gr_edge_63 rfl ?_
        exact ret_twz S hr hlk hK (by decide) I h d_Gr_edge_64
      · have h := h.2 hc
        exact w_throw S hlt hlk hne hK tx (by decide) xAll_IS cl_IS in_IS is_IS I hl.1 h d_Gr_edge_55 d_Gr_edge_58 d_Gr_edge_59 d_Gr_edge_62 ⟨Nat.le_of_ble_eq_true rfl, Nat.le_of_ble_eq_true rfl, Nat.le_of_ble_eq_true rfl, Nat.le_of_ble_eq_true rfl⟩
    · have h := h.2 hc
      refine lv_iconst (v := (0 : Int32)) S.1 S.2.1 d_Gr_edge_38 rfl ?_
      exact ret_twz S hr hlk hK (by decide) I h d_Gr_edge_39
  · have h := h.2 hc
    exact w_throw S hlt hlk hne hK tx (by decide) xAll_IA cl_IA in_IA is_IA I hl.1 h d_Gr_edge_15 d_Gr_edge_18 d_Gr_edge_19 d_Gr_edge_22 ⟨Nat.le_of_ble_eq_true rfl, Nat.le_of_ble_eq_true rfl, Nat.le_of_ble_eq_true rfl, Nat.le_of_ble_eq_true rfl⟩

set_option maxHeartbeats 4000000 in
set_option maxRecDepth 100000 in
theorem c_Gr_reaches (l : Launch) (D : va_G) (ad : Nat → Nat) (cA : ClassId × ClassId × ClassId) (te : Te) (ru : Ru) (au : Au) (re : Re) (la : La) (sp : Sp) (le : Le) (x1 : Int32) (x2 : Int32) (Q : Int32 → Re → Prop) (X : String → Re → Prop) (hlt : l.stackTraces = false) (h : p_Gr_reaches x1 x2 te ru re Q X) : twI l y_Gr_reaches (wsOf y_Gr_reaches b_Gr_reaches 3 (some .boolean)) rm_Gr_reaches D (tyA cA) (wC ad cA) [.ref (ad 0), .int x1, .int x2] (te, ru, au, re, la, sp, le) (fun u : Re => (te, ru, au, u, la, sp, le)) (fun (r : Int32) (u : Re) => Q r u) (fun (E : String) (u : Re) => X E u) := by
  refine twI_of (by decide) (Nat.le_of_ble_eq_true rfl) ?_
  intro p e s m below meth c S hr hlk hne hK A hA tx I ls hl
  have hl : lv_has ls 3 [(0, .ref (ad 0)), (1, .int x1), (2, .int x2)] := hl
  refine lv_aload_n S.1 S.2.1 d_Gr_reaches_0 rfl (lv_at hl 0 rfl) ?_
  refine g_Gr_terms S hK I.1 d_Gr_reaches_1 ?_
  refine lv_iload_n S.1 S.2.1 d_Gr_reaches_4 rfl (lv_at hl 1 rfl) ?_
  refine callV_roi S (c_Te_isMade l D ad cA _ _ _ _ _ _ _ _ _ h) (mkV S.2.2.2.2 ml_Gr_80 k_Te_isMade rfl rfl ⟨Nat.le_of_ble_eq_true rfl, Nat.le_of_ble_eq_true rfl⟩) (rv_Te hK I.1) hK I.1 hl.1 rfl rfl (Nat.le_of_ble_eq_true rfl) d_Gr_reaches_5 ⟨Nat.zero_le _, Nat.zero_le _⟩ (fun r5 h => ?_)
  refine lv_if_eq (tgt := 22) S.1 S.2.1 d_Gr_reaches_8 (by decide) (fun hc => ?_) (fun hc => ?_)
  · have h := h.1 hc
    exact w_throw S hlt hlk hne hK tx (by decide) xAll_IA cl_IA in_IA is_IA I hl.1 h d_Gr_reaches_22 d_Gr_reaches_25 d_Gr_reaches_26 d_Gr_reaches_29 ⟨Nat.le_of_ble_eq_true rfl, Nat.le_of_ble_eq_true rfl, Nat.le_of_ble_eq_true rfl, Nat.le_of_ble_eq_true rfl⟩
  · have h := h.2 hc
    refine lv_aload_n S.1 S.2.1 d_Gr_reaches_11 rfl (lv_at hl 0 rfl) ?_
    refine g_Gr_terms S hK I.1 d_Gr_reaches_12 ?_
    refine lv_iload_n S.1 S.2.1 d_Gr_reaches_15 rfl (lv_at hl 2 rfl) ?_
    refine callV_roi S (c_Te_isMade l D ad cA _ _ _ _ _ _ _ _ _ h) (mkV S.2.2.2.2 ml_Gr_80 k_Te_isMade rfl rfl ⟨Nat.le_of_ble_eq_true rfl, Nat.le_of_ble_eq_true rfl⟩) (rv_Te hK I.1) hK I.1 hl.1 rfl rfl (Nat.le_of_ble_eq_true rfl) d_Gr_reaches_16 ⟨Nat.zero_le _, Nat.zero_le _⟩ (fun r16 h => ?_)
    refine lv_if_ne (tgt := 30) S.1 S.2.1 d_Gr_reaches_19 (by decide) (fun hc => ?_) (fun hc => ?_)
    · have h := h.1 hc
      refine lv_aload_n S.1 S.2.1 d_Gr_reaches_30 rfl (lv_at hl 0 rfl) ?_
      refine g_Gr_relations S hK I.1 d_Gr_reaches_31 ?_
      refine callV_rwv S (c_Re_renew l D ad cA _ _ _ _ _ _ _ _ h) (mkV S.2.2.2.2 ml_Gr_123 k_Re_renew rfl rfl ⟨Nat.le_of_ble_eq_true rfl, Nat.le_of_ble_eq_true rfl⟩) (rv_Re hK I.1) hK hA I hl.1 rfl rfl (Nat.le_of_ble_eq_true rfl) d_Gr_reaches_34 ⟨Nat.zero_le _, Nat.zero_le _⟩ (fun re34 H locs h I => ?_)
      refine lv_aload_n S.1 S.2.1 d_Gr_reaches_37 rfl (lv_at hl 0 rfl) ?_
      refine g_Gr_relations S hK I.1 d_Gr_reaches_38 ?_
      refine lv_iload_n S.1 S.2.1 d_Gr_reaches_41 rfl (lv_at hl 1 rfl) ?_
      refine lv_iload_n S.1 S.2.1 d_Gr_reaches_42 rfl (lv_at hl 2 rfl) ?_
      refine callV_roi S (c_Re_leads l D ad cA _ _ _ _ _ _ _ _ _ _ h) (mkV S.2.2.2.2 ml_Gr_126 k_Re_leads rfl rfl ⟨Nat.le_of_ble_eq_true rfl, Nat.le_of_ble_eq_true rfl⟩) (rv_Re hK I.1) hK I.1 hl.1 rfl rfl (Nat.le_of_ble_eq_true rfl) d_Gr_reaches_43 ⟨Nat.zero_le _, Nat.zero_le _⟩ (fun r43 h => ?_)
      obtain ⟨hz, h⟩ := h
      exact ret_twz S hr hlk hK (isB_n hz) I h d_Gr_reaches_46
    · have h := h.2 hc
      exact w_throw S hlt hlk hne hK tx (by decide) xAll_IA cl_IA in_IA is_IA I hl.1 h d_Gr_reaches_22 d_Gr_reaches_25 d_Gr_reaches_26 d_Gr_reaches_29 ⟨Nat.le_of_ble_eq_true rfl, Nat.le_of_ble_eq_true rfl, Nat.le_of_ble_eq_true rfl, Nat.le_of_ble_eq_true rfl⟩

set_option maxHeartbeats 4000000 in
set_option maxRecDepth 100000 in
theorem c_Gr_meet (l : Launch) (D : va_G) (ad : Nat → Nat) (cA : ClassId × ClassId × ClassId) (te : Te) (ru : Ru) (au : Au) (re : Re) (la : La) (sp : Sp) (le : Le) (x1 : Int32) (x2 : Int32) (Q : Int32 → Re → Prop) (X : String → Re → Prop) (hlt : l.stackTraces = false) (h : p_Gr_meet x1 x2 te ru re Q X) : twI l y_Gr_meet (wsOf y_Gr_meet b_Gr_meet 3 (some .boolean)) rm_Gr_meet D (tyA cA) (wC ad cA) [.ref (ad 0), .int x1, .int x2] (te, ru, au, re, la, sp, le) (fun u : Re => (te, ru, au, u, la, sp, le)) (fun (r : Int32) (u : Re) => Q r u) (fun (E : String) (u : Re) => X E u) := by
  refine twI_of (by decide) (Nat.le_of_ble_eq_true rfl) ?_
  intro p e s m below meth c S hr hlk hne hK A hA tx I ls hl
  have hl : lv_has ls 3 [(0, .ref (ad 0)), (1, .int x1), (2, .int x2)] := hl
  refine lv_aload_n S.1 S.2.1 d_Gr_meet_0 rfl (lv_at hl 0 rfl) ?_
  refine g_Gr_terms S hK I.1 d_Gr_meet_1 ?_
  refine lv_iload_n S.1 S.2.1 d_Gr_meet_4 rfl (lv_at hl 1 rfl) ?_
  refine callV_roi S (c_Te_isMade l D ad cA _ _ _ _ _ _ _ _ _ h) (mkV S.2.2.2.2 ml_Gr_80 k_Te_isMade rfl rfl ⟨Nat.le_of_ble_eq_true rfl, Nat.le_of_ble_eq_true rfl⟩) (rv_Te hK I.1) hK I.1 hl.1 rfl rfl (Nat.le_of_ble_eq_true rfl) d_Gr_meet_5 ⟨Nat.zero_le _, Nat.zero_le _⟩ (fun r5 h => ?_)
  refine lv_if_eq (tgt := 22) S.1 S.2.1 d_Gr_meet_8 (by decide) (fun hc => ?_) (fun hc => ?_)
  · have h := h.1 hc
    exact w_throw S hlt hlk hne hK tx (by decide) xAll_IA cl_IA in_IA is_IA I hl.1 h d_Gr_meet_22 d_Gr_meet_25 d_Gr_meet_26 d_Gr_meet_29 ⟨Nat.le_of_ble_eq_true rfl, Nat.le_of_ble_eq_true rfl, Nat.le_of_ble_eq_true rfl, Nat.le_of_ble_eq_true rfl⟩
  · have h := h.2 hc
    refine lv_aload_n S.1 S.2.1 d_Gr_meet_11 rfl (lv_at hl 0 rfl) ?_
    refine g_Gr_terms S hK I.1 d_Gr_meet_12 ?_
    refine lv_iload_n S.1 S.2.1 d_Gr_meet_15 rfl (lv_at hl 2 rfl) ?_
    refine callV_roi S (c_Te_isMade l D ad cA _ _ _ _ _ _ _ _ _ h) (mkV S.2.2.2.2 ml_Gr_80 k_Te_isMade rfl rfl ⟨Nat.le_of_ble_eq_true rfl, Nat.le_of_ble_eq_true rfl⟩) (rv_Te hK I.1) hK I.1 hl.1 rfl rfl (Nat.le_of_ble_eq_true rfl) d_Gr_meet_16 ⟨Nat.zero_le _, Nat.zero_le _⟩ (fun r16 h => ?_)
    refine lv_if_ne (tgt := 30) S.1 S.2.1 d_Gr_meet_19 (by decide) (fun hc => ?_) (fun hc => ?_)
    · have h := h.1 hc
      refine lv_aload_n S.1 S.2.1 d_Gr_meet_30 rfl (lv_at hl 0 rfl) ?_
      refine g_Gr_relations S hK I.1 d_Gr_meet_31 ?_
      refine callV_rwv S (c_Re_renew l D ad cA _ _ _ _ _ _ _ _ h) (mkV S.2.2.2.2 ml_Gr_123 k_Re_renew rfl rfl ⟨Nat.le_of_ble_eq_true rfl, Nat.le_of_ble_eq_true rfl⟩) (rv_Re hK I.1) hK hA I hl.1 rfl rfl (Nat.le_of_ble_eq_true rfl) d_Gr_meet_34 ⟨Nat.zero_le _, Nat.zero_le _⟩ (fun re34 H locs h I => ?_)
      refine lv_aload_n S.1 S.2.1 d_Gr_meet_37 rfl (lv_at hl 0 rfl) ?_
      refine g_Gr_relations S hK I.1 d_Gr_meet_38 ?_
      refine lv_iload_n S.1 S.2.1 d_Gr_meet_41 rfl (lv_at hl 1 rfl) ?_
      refine lv_iload_n S.1 S.2.1 d_Gr_meet_42 rfl (lv_at hl 2 rfl) ?_
      refine callV_rwi S (c_Re_joins l D ad cA _ _ _ _ _ _ _ _ _ _ h) (mkV S.2.2.2.2 ml_Gr_130 k_Re_joins rfl rfl ⟨Nat.le_of_ble_eq_true rfl, Nat.le_of_ble_eq_true rfl⟩) (rv_Re hK I.1) hK hA I hl.1 rfl rfl (Nat.le_of_ble_eq_true rfl) d_Gr_meet_43 ⟨Nat.zero_le _, Nat.zero_le _⟩ (fun r43 re43 H locs h I => ?_)
      obtain ⟨hz, h⟩ := h
      exact ret_twz S hr hlk hK (isB_n hz) I h d_Gr_meet_46
    · have h := h.2 hc
      exact w_throw S hlt hlk hne hK tx (by decide) xAll_IA cl_IA in_IA is_IA I hl.1 h d_Gr_meet_22 d_Gr_meet_25 d_Gr_meet_26 d_Gr_meet_29 ⟨Nat.le_of_ble_eq_true rfl, Nat.le_of_ble_eq_true rfl, Nat.le_of_ble_eq_true rfl, Nat.le_of_ble_eq_true rfl⟩

set_option maxHeartbeats 4000000 in
set_option maxRecDepth 100000 in
theorem c_Gr_has (l : Launch) (D : va_G) (ad : Nat → Nat) (cA : ClassId × ClassId × ClassId) (te : Te) (ru : Ru) (au : Au) (re : Re) (la : La) (sp : Sp) (le : Le) (x1 : Int32) (Q : Int32 → La → Prop) (X : String → La → Prop) (hlt : l.stackTraces = false) (h : p_Gr_has x1 te au la Q X) : twI l y_Gr_has (wsOf y_Gr_has b_Gr_has 2 (some .boolean)) rm_Gr_has D (tyA cA) (wC ad cA) [.ref (ad 0), .int x1] (te, ru, au, re, la, sp, le) (fun u : La => (te, ru, au, re, u, sp, le)) (fun (r : Int32) (u : La) => Q r u) (fun (E : String) (u : La) => X E u) := by
  refine twI_of (by decide) (Nat.le_of_ble_eq_true rfl) ?_
  intro p e s m below meth c S hr hlk hne hK A hA tx I ls hl
  have hl : lv_has ls 2 [(0, .ref (ad 0)), (1, .int x1)] := hl
  refine lv_aload_n S.1 S.2.1 d_Gr_has_0 rfl (lv_at hl 0 rfl) ?_
  refine g_Gr_terms S hK I.1 d_Gr_has_1 ?_
  refine lv_iload_n S.1 S.2.1 d_Gr_has_4 rfl (lv_at hl 1 rfl) ?_
  refine callV_roi S (c_Te_isMade l D ad cA _ _ _ _ _ _ _ _ _ h) (mkV S.2.2.2.2 ml_Gr_80 k_Te_isMade rfl rfl ⟨Nat.le_of_ble_eq_true rfl, Nat.le_of_ble_eq_true rfl⟩) (rv_Te hK I.1) hK I.1 hl.1 rfl rfl (Nat.le_of_ble_eq_true rfl) d_Gr_has_5 ⟨Nat.zero_le _, Nat.zero_le _⟩ (fun r5 h => ?_)
  refine lv_if_ne (tgt := 19) S.1 S.2.1 d_Gr_has_8 (by decide) (fun hc => ?_) (fun hc => ?_)
  · have h := h.1 hc
    refine lv_aload_n S.1 S.2.1 d_Gr_has_19 rfl (lv_at hl 0 rfl) ?_
    refine g_Gr_automaton S hK I.1 d_Gr_has_20 ?_
    refine lv_aload_n S.1 S.2.1 d_Gr_has_23 rfl (lv_at hl 0 rfl) ?_
    refine g_Gr_languages S hK I.1 d_Gr_has_24 ?_
    refine lv_iload_n S.1 S.2.1 d_Gr_has_27 rfl (lv_at hl 1 rfl) ?_
    refine callV_rwi S (c_La_statesAt l D ad cA _ _ _ _ _ _ _ _ _ h) (mkV S.2.2.2.2 ml_Gr_133 k_La_statesAt rfl rfl ⟨Nat.le_of_ble_eq_true rfl, Nat.le_of_ble_eq_true rfl⟩) (rv_La hK I.1) hK hA I hl.1 rfl rfl (Nat.le_of_ble_eq_true rfl) d_Gr_has_28 ⟨Nat.zero_le _, Nat.zero_le _⟩ (fun r28 la28 H locs h I => ?_)
    refine callV_roi S (c_Au_anyFinal l D ad cA _ _ _ _ _ _ _ _ _ h) (mkV S.2.2.2.2 ml_Gr_136 k_Au_anyFinal rfl rfl ⟨Nat.le_of_ble_eq_true rfl, Nat.le_of_ble_eq_true rfl⟩) (rv_Au hK I.1) hK I.1 hl.1 rfl rfl (Nat.le_of_ble_eq_true rfl) d_Gr_has_31 ⟨Nat.zero_le _, Nat.zero_le _⟩ (fun r31 h => ?_)
    obtain ⟨hz, h⟩ := h
    exact ret_twz S hr hlk hK (isB_n hz) I h d_Gr_has_34
  · have h := h.2 hc
    exact w_throw S hlt hlk hne hK tx (by decide) xAll_IA cl_IA in_IA is_IA I hl.1 h d_Gr_has_11 d_Gr_has_14 d_Gr_has_15 d_Gr_has_18 ⟨Nat.le_of_ble_eq_true rfl, Nat.le_of_ble_eq_true rfl, Nat.le_of_ble_eq_true rfl, Nat.le_of_ble_eq_true rfl⟩

set_option maxHeartbeats 4000000 in
set_option maxRecDepth 100000 in
theorem c_Gr_from (l : Launch) (D : va_G) (ad : Nat → Nat) (cA : ClassId × ClassId × ClassId) (te : Te) (ru : Ru) (au : Au) (re : Re) (la : La) (sp : Sp) (le : Le) (x1 : Int32) (Q : Int32 → Re → La → Prop) (X : String → Re → La → Prop) (hlt : l.stackTraces = false) (h : p_Gr_from x1 te ru au re la Q X) : twI l y_Gr_from (wsOf y_Gr_from b_Gr_from 2 (some .boolean)) rm_Gr_from D (tyA cA) (wC ad cA) [.ref (ad 0), .int x1] (te, ru, au, re, la, sp, le) (fun u : Re × La => (te, ru, au, u.1, u.2, sp, le)) (fun (r : Int32) (u : Re × La) => Q r u.1 u.2) (fun (E : String) (u : Re × La) => X E u.1 u.2) := by
  refine twI_of (by decide) (Nat.le_of_ble_eq_true rfl) ?_
  intro p e s m below meth c S hr hlk hne hK A hA tx I ls hl
  have hl : lv_has ls 2 [(0, .ref (ad 0)), (1, .int x1)] := hl
  refine lv_aload_n S.1 S.2.1 d_Gr_from_0 rfl (lv_at hl 0 rfl) ?_
  refine g_Gr_terms S hK I.1 d_Gr_from_1 ?_
  refine lv_iload_n S.1 S.2.1 d_Gr_from_4 rfl (lv_at hl 1 rfl) ?_
  refine callV_roi S (c_Te_isMade l D ad cA _ _ _ _ _ _ _ _ _ h) (mkV S.2.2.2.2 ml_Gr_80 k_Te_isMade rfl rfl ⟨Nat.le_of_ble_eq_true rfl, Nat.le_of_ble_eq_true rfl⟩) (rv_Te hK I.1) hK I.1 hl.1 rfl rfl (Nat.le_of_ble_eq_true rfl) d_Gr_from_5 ⟨Nat.zero_le _, Nat.zero_le _⟩ (fun r5 h => ?_)
  refine lv_if_ne (tgt := 19) S.1 S.2.1 d_Gr_from_8 (by decide) (fun hc => ?_) (fun hc => ?_)
  · have h := h.1 hc
    refine lv_aload_n S.1 S.2.1 d_Gr_from_19 rfl (lv_at hl 0 rfl) ?_
    refine g_Gr_relations S hK I.1 d_Gr_from_20 ?_
    refine callV_rwv S (c_Re_renew l D ad cA _ _ _ _ _ _ _ _ h) (mkV S.2.2.2.2 ml_Gr_123 k_Re_renew rfl rfl ⟨Nat.le_of_ble_eq_true rfl, Nat.le_of_ble_eq_true rfl⟩) (rv_Re hK I.1) hK hA I hl.1 rfl rfl (Nat.le_of_ble_eq_true rfl) d_Gr_from_23 ⟨Nat.zero_le _, Nat.zero_le _⟩ (fun re23 H locs h I => ?_)
    refine lv_aload_n S.1 S.2.1 d_Gr_from_26 rfl (lv_at hl 0 rfl) ?_
    refine g_Gr_automaton S hK I.1 d_Gr_from_27 ?_
    refine lv_aload_n S.1 S.2.1 d_Gr_from_30 rfl (lv_at hl 0 rfl) ?_
    refine g_Gr_languages S hK I.1 d_Gr_from_31 ?_
    refine lv_iload_n S.1 S.2.1 d_Gr_from_34 rfl (lv_at hl 1 rfl) ?_
    refine callV_rwi S (c_La_statesBefore l D ad cA _ _ _ _ _ _ _ _ _ h) (mkV S.2.2.2.2 ml_Gr_139 k_La_statesBefore rfl rfl ⟨Nat.le_of_ble_eq_true rfl, Nat.le_of_ble_eq_true rfl⟩) (rv_La hK I.1) hK hA I hl.1 rfl rfl (Nat.le_of_ble_eq_true rfl) d_Gr_from_35 ⟨Nat.zero_le _, Nat.zero_le _⟩ (fun r35 la35 H locs h I => ?_)
    refine callV_roi S (c_Au_anyFinal l D ad cA _ _ _ _ _ _ _ _ _ h) (mkV S.2.2.2.2 ml_Gr_136 k_Au_anyFinal rfl rfl ⟨Nat.le_of_ble_eq_true rfl, Nat.le_of_ble_eq_true rfl⟩) (rv_Au hK I.1) hK I.1 hl.1 rfl rfl (Nat.le_of_ble_eq_true rfl) d_Gr_from_38 ⟨Nat.zero_le _, Nat.zero_le _⟩ (fun r38 h => ?_)
    obtain ⟨hz, h⟩ := h
    exact ret_twz (u := (_, _)) S hr hlk hK (isB_n hz) I h d_Gr_from_41
  · have h := h.2 hc
    exact w_throw (u := (_, _)) S hlt hlk hne hK tx (by decide) xAll_IA cl_IA in_IA is_IA I hl.1 h d_Gr_from_11 d_Gr_from_14 d_Gr_from_15 d_Gr_from_18 ⟨Nat.le_of_ble_eq_true rfl, Nat.le_of_ble_eq_true rfl, Nat.le_of_ble_eq_true rfl, Nat.le_of_ble_eq_true rfl⟩

set_option maxHeartbeats 4000000 in
set_option maxRecDepth 100000 in
theorem c_Gr_into (l : Launch) (D : va_G) (ad : Nat → Nat) (cA : ClassId × ClassId × ClassId) (te : Te) (ru : Ru) (au : Au) (re : Re) (la : La) (sp : Sp) (le : Le) (x1 : Int32) (Q : Int32 → Re → La → Prop) (X : String → Re → La → Prop) (hlt : l.stackTraces = false) (h : p_Gr_into x1 te ru au re la Q X) : twI l y_Gr_into (wsOf y_Gr_into b_Gr_into 2 (some .boolean)) rm_Gr_into D (tyA cA) (wC ad cA) [.ref (ad 0), .int x1] (te, ru, au, re, la, sp, le) (fun u : Re × La => (te, ru, au, u.1, u.2, sp, le)) (fun (r : Int32) (u : Re × La) => Q r u.1 u.2) (fun (E : String) (u : Re × La) => X E u.1 u.2) := by
  refine twI_of (by decide) (Nat.le_of_ble_eq_true rfl) ?_
  intro p e s m below meth c S hr hlk hne hK A hA tx I ls hl
  have hl : lv_has ls 2 [(0, .ref (ad 0)), (1, .int x1)] := hl
  refine lv_aload_n S.1 S.2.1 d_Gr_into_0 rfl (lv_at hl 0 rfl) ?_
  refine g_Gr_terms S hK I.1 d_Gr_into_1 ?_
  refine lv_iload_n S.1 S.2.1 d_Gr_into_4 rfl (lv_at hl 1 rfl) ?_
  refine callV_roi S (c_Te_isMade l D ad cA _ _ _ _ _ _ _ _ _ h) (mkV S.2.2.2.2 ml_Gr_80 k_Te_isMade rfl rfl ⟨Nat.le_of_ble_eq_true rfl, Nat.le_of_ble_eq_true rfl⟩) (rv_Te hK I.1) hK I.1 hl.1 rfl rfl (Nat.le_of_ble_eq_true rfl) d_Gr_into_5 ⟨Nat.zero_le _, Nat.zero_le _⟩ (fun r5 h => ?_)
  refine lv_if_ne (tgt := 19) S.1 S.2.1 d_Gr_into_8 (by decide) (fun hc => ?_) (fun hc => ?_)
  · have h := h.1 hc
    refine lv_aload_n S.1 S.2.1 d_Gr_into_19 rfl (lv_at hl 0 rfl) ?_
    refine g_Gr_relations S hK I.1 d_Gr_into_20 ?_
    refine callV_rwv S (c_Re_renew l D ad cA _ _ _ _ _ _ _ _ h) (mkV S.2.2.2.2 ml_Gr_123 k_Re_renew rfl rfl ⟨Nat.le_of_ble_eq_true rfl, Nat.le_of_ble_eq_true rfl⟩) (rv_Re hK I.1) hK hA I hl.1 rfl rfl (Nat.le_of_ble_eq_true rfl) d_Gr_into_23 ⟨Nat.zero_le _, Nat.zero_le _⟩ (fun re23 H locs h I => ?_)
    refine lv_aload_n S.1 S.2.1 d_Gr_into_26 rfl (lv_at hl 0 rfl) ?_
    refine g_Gr_automaton S hK I.1 d_Gr_into_27 ?_
    refine lv_aload_n S.1 S.2.1 d_Gr_into_30 rfl (lv_at hl 0 rfl) ?_
    refine g_Gr_languages S hK I.1 d_Gr_into_31 ?_
    refine lv_iload_n S.1 S.2.1 d_Gr_into_34 rfl (lv_at hl 1 rfl) ?_
    refine callV_rwi S (c_La_statesBehind l D ad cA _ _ _ _ _ _ _ _ _ h) (mkV S.2.2.2.2 ml_Gr_142 k_La_statesBehind rfl rfl ⟨Nat.le_of_ble_eq_true rfl, Nat.le_of_ble_eq_true rfl⟩) (rv_La hK I.1) hK hA I hl.1 rfl rfl (Nat.le_of_ble_eq_true rfl) d_Gr_into_35 ⟨Nat.zero_le _, Nat.zero_le _⟩ (fun r35 la35 H locs h I => ?_)
    refine callV_roi S (c_Au_anyFinal l D ad cA _ _ _ _ _ _ _ _ _ h) (mkV S.2.2.2.2 ml_Gr_136 k_Au_anyFinal rfl rfl ⟨Nat.le_of_ble_eq_true rfl, Nat.le_of_ble_eq_true rfl⟩) (rv_Au hK I.1) hK I.1 hl.1 rfl rfl (Nat.le_of_ble_eq_true rfl) d_Gr_into_38 ⟨Nat.zero_le _, Nat.zero_le _⟩ (fun r38 h => ?_)
    obtain ⟨hz, h⟩ := h
    exact ret_twz (u := (_, _)) S hr hlk hK (isB_n hz) I h d_Gr_into_41
  · have h := h.2 hc
    exact w_throw (u := (_, _)) S hlt hlk hne hK tx (by decide) xAll_IA cl_IA in_IA is_IA I hl.1 h d_Gr_into_11 d_Gr_into_14 d_Gr_into_15 d_Gr_into_18 ⟨Nat.le_of_ble_eq_true rfl, Nat.le_of_ble_eq_true rfl, Nat.le_of_ble_eq_true rfl, Nat.le_of_ble_eq_true rfl⟩

set_option maxHeartbeats 4000000 in
set_option maxRecDepth 100000 in
theorem c_Gr_least (l : Launch) (D : va_G) (ad : Nat → Nat) (cA : ClassId × ClassId × ClassId) (te : Te) (ru : Ru) (au : Au) (re : Re) (la : La) (sp : Sp) (le : Le) (x1 : Int32) (Q : Int32 → Re → Prop) (X : String → Re → Prop) (hlt : l.stackTraces = false) (h : p_Gr_least x1 te ru re Q X) : twI l y_Gr_least (wsOf y_Gr_least b_Gr_least 2 (some .int)) rm_Gr_least D (tyA cA) (wC ad cA) [.ref (ad 0), .int x1] (te, ru, au, re, la, sp, le) (fun u : Re => (te, ru, au, u, la, sp, le)) (fun (r : Int32) (u : Re) => Q r u) (fun (E : String) (u : Re) => X E u) := by
  refine twI_of (by decide) (Nat.le_of_ble_eq_true rfl) ?_
  intro p e s m below meth c S hr hlk hne hK A hA tx I ls hl
  have hl : lv_has ls 2 [(0, .ref (ad 0)), (1, .int x1)] := hl
  refine lv_aload_n S.1 S.2.1 d_Gr_least_0 rfl (lv_at hl 0 rfl) ?_
  refine g_Gr_terms S hK I.1 d_Gr_least_1 ?_
  refine lv_iload_n S.1 S.2.1 d_Gr_least_4 rfl (lv_at hl 1 rfl) ?_
  refine callV_roi S (c_Te_isMade l D ad cA _ _ _ _ _ _ _ _ _ h) (mkV S.2.2.2.2 ml_Gr_80 k_Te_isMade rfl rfl ⟨Nat.le_of_ble_eq_true rfl, Nat.le_of_ble_eq_true rfl⟩) (rv_Te hK I.1) hK I.1 hl.1 rfl rfl (Nat.le_of_ble_eq_true rfl) d_Gr_least_5 ⟨Nat.zero_le _, Nat.zero_le _⟩ (fun r5 h => ?_)
  refine lv_if_ne (tgt := 19) S.1 S.2.1 d_Gr_least_8 (by decide) (fun hc => ?_) (fun hc => ?_)
  · have h := h.1 hc
    refine lv_aload_n S.1 S.2.1 d_Gr_least_19 rfl (lv_at hl 0 rfl) ?_
    refine g_Gr_relations S hK I.1 d_Gr_least_20 ?_
    refine callV_rwv S (c_Re_renew l D ad cA _ _ _ _ _ _ _ _ h) (mkV S.2.2.2.2 ml_Gr_123 k_Re_renew rfl rfl ⟨Nat.le_of_ble_eq_true rfl, Nat.le_of_ble_eq_true rfl⟩) (rv_Re hK I.1) hK hA I hl.1 rfl rfl (Nat.le_of_ble_eq_true rfl) d_Gr_least_23 ⟨Nat.zero_le _, Nat.zero_le _⟩ (fun re23 H locs h I => ?_)
    refine lv_aload_n S.1 S.2.1 d_Gr_least_26 rfl (lv_at hl 0 rfl) ?_
    refine g_Gr_relations S hK I.1 d_Gr_least_27 ?_
    refine lv_iload_n S.1 S.2.1 d_Gr_least_30 rfl (lv_at hl 1 rfl) ?_
    refine callV_rwi S (c_Re_leastSize l D ad cA _ _ _ _ _ _ _ _ _ h) (mkV S.2.2.2.2 ml_Gr_145 k_Re_leastSize rfl rfl ⟨Nat.le_of_ble_eq_true rfl, Nat.le_of_ble_eq_true rfl⟩) (rv_Re hK I.1) hK hA I hl.1 rfl rfl (Nat.le_of_ble_eq_true rfl) d_Gr_least_31 ⟨Nat.zero_le _, Nat.zero_le _⟩ (fun r31 re31 H locs h I => ?_)
    exact ret_twi S hr hlk hK I h d_Gr_least_34
  · have h := h.2 hc
    exact w_throw S hlt hlk hne hK tx (by decide) xAll_IA cl_IA in_IA is_IA I hl.1 h d_Gr_least_11 d_Gr_least_14 d_Gr_least_15 d_Gr_least_18 ⟨Nat.le_of_ble_eq_true rfl, Nat.le_of_ble_eq_true rfl, Nat.le_of_ble_eq_true rfl, Nat.le_of_ble_eq_true rfl⟩

set_option maxHeartbeats 4000000 in
set_option maxRecDepth 100000 in
theorem c_Gr_lightest (l : Launch) (D : va_G) (ad : Nat → Nat) (cA : ClassId × ClassId × ClassId) (te : Te) (ru : Ru) (au : Au) (re : Re) (la : La) (sp : Sp) (le : Le) (x1 : Int32) (Q : Int32 → Au → Prop) (X : String → Au → Prop) (hlt : l.stackTraces = false) (h : p_Gr_lightest x1 te au Q X) : twI l y_Gr_lightest (wsOf y_Gr_lightest b_Gr_lightest 2 (some .int)) rm_Gr_lightest D (tyA cA) (wC ad cA) [.ref (ad 0), .int x1] (te, ru, au, re, la, sp, le) (fun u : Au => (te, ru, u, re, la, sp, le)) (fun (r : Int32) (u : Au) => Q r u) (fun (E : String) (u : Au) => X E u) := by
  refine twI_of (by decide) (Nat.le_of_ble_eq_true rfl) ?_
  intro p e s m below meth c S hr hlk hne hK A hA tx I ls hl
  have hl : lv_has ls 2 [(0, .ref (ad 0)), (1, .int x1)] := hl
  refine lv_iload_n S.1 S.2.1 d_Gr_lightest_0 rfl (lv_at hl 1 rfl) ?_
  refine callS_roi S (c_Gr_isState l D ad cA _ _ _ _ _ _ _ _ _ h) (mkS S.2.2.2.2 ml_Gr_116 k_Gr_isState rfl rfl ⟨Nat.le_of_ble_eq_true rfl, Nat.le_of_ble_eq_true rfl⟩) hK I.1 hl.1 rfl rfl (Nat.le_of_ble_eq_true rfl) d_Gr_lightest_1 ⟨Nat.zero_le _, Nat.zero_le _⟩ (fun r1 h => ?_)
  refine lv_if_ne (tgt := 15) S.1 S.2.1 d_Gr_lightest_4 (by decide) (fun hc => ?_) (fun hc => ?_)
  · have h := h.1 hc
    refine lv_aload_n S.1 S.2.1 d_Gr_lightest_15 rfl (lv_at hl 0 rfl) ?_
    refine g_Gr_automaton S hK I.1 d_Gr_lightest_16 ?_
    refine lv_iload_n S.1 S.2.1 d_Gr_lightest_19 rfl (lv_at hl 1 rfl) ?_
    refine callV_rwi S (c_Au_leastSize l D ad cA _ _ _ _ _ _ _ _ _ h) (mkV S.2.2.2.2 ml_Gr_148 k_Au_leastSize rfl rfl ⟨Nat.le_of_ble_eq_true rfl, Nat.le_of_ble_eq_true rfl⟩) (rv_Au hK I.1) hK hA I hl.1 rfl rfl (Nat.le_of_ble_eq_true rfl) d_Gr_lightest_20 ⟨Nat.zero_le _, Nat.zero_le _⟩ (fun r20 au20 H locs h I => ?_)
    exact ret_twi S hr hlk hK I h d_Gr_lightest_23
  · have h := h.2 hc
    exact w_throw S hlt hlk hne hK tx (by decide) xAll_IA cl_IA in_IA is_IA I hl.1 h d_Gr_lightest_7 d_Gr_lightest_10 d_Gr_lightest_11 d_Gr_lightest_14 ⟨Nat.le_of_ble_eq_true rfl, Nat.le_of_ble_eq_true rfl, Nat.le_of_ble_eq_true rfl, Nat.le_of_ble_eq_true rfl⟩

set_option maxHeartbeats 4000000 in
set_option maxRecDepth 100000 in
theorem c_Gr_step (l : Launch) (D : va_G) (ad : Nat → Nat) (cA : ClassId × ClassId × ClassId) (te : Te) (ru : Ru) (au : Au) (re : Re) (la : La) (sp : Sp) (le : Le) (x1 : Int32) (x2 : Int32) (Q : Int32 → Te → Sp → Prop) (X : String → Te → Sp → Prop) (hlt : l.stackTraces = false) (h : p_Gr_step x1 x2 te ru sp Q X) : twI l y_Gr_step (wsOf y_Gr_step b_Gr_step 4 (some .int)) rm_Gr_step D (tyA cA) (wC ad cA) [.ref (ad 0), .int x1, .int x2] (te, ru, au, re, la, sp, le) (fun u : Te × Sp => (u.1, ru, au, re, la, u.2, le)) (fun (r : Int32) (u : Te × Sp) => Q r u.1 u.2) (fun (E : String) (u : Te × Sp) => X E u.1 u.2) := by
  refine twI_of (by decide) (Nat.le_of_ble_eq_true rfl) ?_
  intro p e s m below meth c S hr hlk hne hK A hA tx I ls hl
  have hl : lv_has ls 4 [(0, .ref (ad 0)), (1, .int x1), (2, .int x2)] := hl
  refine lv_aload_n S.1 S.2.1 d_Gr_step_0 rfl (lv_at hl 0 rfl) ?_
  refine g_Gr_terms S hK I.1 d_Gr_step_1 ?_
  refine lv_iload_n S.1 S.2.1 d_Gr_step_4 rfl (lv_at hl 1 rfl) ?_
  refine callV_roi S (c_Te_isMade l D ad cA _ _ _ _ _ _ _ _ _ h) (mkV S.2.2.2.2 ml_Gr_80 k_Te_isMade rfl rfl ⟨Nat.le_of_ble_eq_true rfl, Nat.le_of_ble_eq_true rfl⟩) (rv_Te hK I.1) hK I.1 hl.1 rfl rfl (Nat.le_of_ble_eq_true rfl) d_Gr_step_5 ⟨Nat.zero_le _, Nat.zero_le _⟩ (fun r5 h => ?_)
  refine lv_if_eq (tgt := 34) S.1 S.2.1 d_Gr_step_8 (by decide) (fun hc => ?_) (fun hc => ?_)
  · have h := h.1 hc
    exact w_throw (u := (_, _)) S hlt hlk hne hK tx (by decide) xAll_IB cl_IB in_IB is_IB I hl.1 h d_Gr_step_34 d_Gr_step_37 d_Gr_step_38 d_Gr_step_41 ⟨Nat.le_of_ble_eq_true rfl, Nat.le_of_ble_eq_true rfl, Nat.le_of_ble_eq_true rfl, Nat.le_of_ble_eq_true rfl⟩
  · have h := h.2 hc
    refine lv_iload_n S.1 S.2.1 d_Gr_step_11 rfl (lv_at hl 2 rfl) ?_
    refine lv_if_lt (tgt := 34) S.1 S.2.1 d_Gr_step_12 (by decide) (fun hc => ?_) (fun hc => ?_)
    · have h := h.1 hc
      exact w_throw (u := (_, _)) S hlt hlk hne hK tx (by decide) xAll_IB cl_IB in_IB is_IB I hl.1 h d_Gr_step_34 d_Gr_step_37 d_Gr_step_38 d_Gr_step_41 ⟨Nat.le_of_ble_eq_true rfl, Nat.le_of_ble_eq_true rfl, Nat.le_of_ble_eq_true rfl, Nat.le_of_ble_eq_true rfl⟩
    · have h := h.2 hc
      refine lv_iload_n S.1 S.2.1 d_Gr_step_15 rfl (lv_at hl 2 rfl) ?_
      refine lv_sipush (v := (999 : Int32)) S.1 S.2.1 d_Gr_step_16 rfl ?_
      refine lv_icmp_gt (tgt := 34) S.1 S.2.1 d_Gr_step_19 (by decide) (fun hc => ?_) (fun hc => ?_)
      · have h := h.1 hc
        exact w_throw (u := (_, _)) S hlt hlk hne hK tx (by decide) xAll_IB cl_IB in_IB is_IB I hl.1 h d_Gr_step_34 d_Gr_step_37 d_Gr_step_38 d_Gr_step_41 ⟨Nat.le_of_ble_eq_true rfl, Nat.le_of_ble_eq_true rfl, Nat.le_of_ble_eq_true rfl, Nat.le_of_ble_eq_true rfl⟩
      · have h := h.2 hc
        refine lv_iload_n S.1 S.2.1 d_Gr_step_22 rfl (lv_at hl 2 rfl) ?_
        refine lv_aload_n S.1 S.2.1 d_Gr_step_23 rfl (lv_at hl 0 rfl) ?_
        refine g_Gr_steps S hK I.1 d_Gr_step_24 ?_
        refine lv_iload_n S.1 S.2.1 d_Gr_step_27 rfl (lv_at hl 1 rfl) ?_
        refine callV_rwi S (c_Sp_countOf l D ad cA _ _ _ _ _ _ _ _ _ h) (mkV S.2.2.2.2 ml_Gr_97 k_Sp_countOf rfl rfl ⟨Nat.le_of_ble_eq_true rfl, Nat.le_of_ble_eq_true rfl⟩) (rv_Sp hK I.1) hK hA I hl.1 rfl rfl (Nat.le_of_ble_eq_true rfl) d_Gr_step_28 ⟨Nat.zero_le _, Nat.zero_le _⟩ (fun r28 sp28 H locs h I => ?_)
        refine lv_icmp_lt (tgt := 42) S.1 S.2.1 d_Gr_step_31 (by decide) (fun hc => ?_) (fun hc => ?_)
        · have h := h.1 hc
          refine lv_aload_n S.1 S.2.1 d_Gr_step_42 rfl (lv_at hl 0 rfl) ?_
          refine g_Gr_steps S hK I.1 d_Gr_step_43 ?_
          refine lv_iload_n S.1 S.2.1 d_Gr_step_46 rfl (lv_at hl 1 rfl) ?_
          refine lv_iload_n S.1 S.2.1 d_Gr_step_47 rfl (lv_at hl 2 rfl) ?_
          refine callV_rwi S (c_Sp_targetOf l D ad cA _ _ _ _ _ _ _ _ _ _ h) (mkV S.2.2.2.2 ml_Gr_152 k_Sp_targetOf rfl rfl ⟨Nat.le_of_ble_eq_true rfl, Nat.le_of_ble_eq_true rfl⟩) (rv_Sp hK I.1) hK hA I hl.1 rfl rfl (Nat.le_of_ble_eq_true rfl) d_Gr_step_48 ⟨Nat.zero_le _, Nat.zero_le _⟩ (fun r48 u48 H locs h I => ?_)
          obtain ⟨te48, sp48⟩ := u48
          refine lv_istore_n (lv' := [(3, .int r48), (0, .ref (ad 0)), (1, .int x1), (2, .int x2)]) S.1 S.2.1 d_Gr_step_51 rfl hl (by decide) rfl (fun ls hl => ?_)
          refine lv_iload_n S.1 S.2.1 d_Gr_step_52 rfl (lv_at hl 0 rfl) ?_
          refine lv_iconst (v := (-1 : Int32)) S.1 S.2.1 d_Gr_step_53 rfl ?_
          refine lv_icmp_ne (tgt := 65) S.1 S.2.1 d_Gr_step_54 (by decide) (fun hc => ?_) (fun hc => ?_)
          · have h := h.1 hc
            refine lv_iload_n S.1 S.2.1 d_Gr_step_65 rfl (lv_at hl 0 rfl) ?_
            exact ret_twi (u := (_, _)) S hr hlk hK I h d_Gr_step_66
          · have h := h.2 hc
            exact w_throw (u := (_, _)) S hlt hlk hne hK tx (by decide) xAll_IS cl_IS in_IS is_IS I hl.1 h d_Gr_step_57 d_Gr_step_60 d_Gr_step_61 d_Gr_step_64 ⟨Nat.le_of_ble_eq_true rfl, Nat.le_of_ble_eq_true rfl, Nat.le_of_ble_eq_true rfl, Nat.le_of_ble_eq_true rfl⟩
        · have h := h.2 hc
          exact w_throw (u := (_, _)) S hlt hlk hne hK tx (by decide) xAll_IB cl_IB in_IB is_IB I hl.1 h d_Gr_step_34 d_Gr_step_37 d_Gr_step_38 d_Gr_step_41 ⟨Nat.le_of_ble_eq_true rfl, Nat.le_of_ble_eq_true rfl, Nat.le_of_ble_eq_true rfl, Nat.le_of_ble_eq_true rfl⟩

set_option maxHeartbeats 4000000 in
set_option maxRecDepth 100000 in
theorem c_Gr_distance (l : Launch) (D : va_G) (ad : Nat → Nat) (cA : ClassId × ClassId × ClassId) (te : Te) (ru : Ru) (au : Au) (re : Re) (la : La) (sp : Sp) (le : Le) (x1 : Int32) (x2 : Int32) (Q : Int32 → Te → Re → Le → Prop) (X : String → Te → Re → Le → Prop) (hlt : l.stackTraces = false) (h : p_Gr_distance x1 x2 te ru re le Q X) : twI l y_Gr_distance (wsOf y_Gr_distance b_Gr_distance 3 (some .int)) rm_Gr_distance D (tyA cA) (wC ad cA) [.ref (ad 0), .int x1, .int x2] (te, ru, au, re, la, sp, le) (fun u : Te × Re × Le => (u.1, ru, au, u.2.1, la, sp, u.2.2)) (fun (r : Int32) (u : Te × Re × Le) => Q r u.1 u.2.1 u.2.2) (fun (E : String) (u : Te × Re × Le) => X E u.1 u.2.1 u.2.2) := by
  refine twI_of (by decide) (Nat.le_of_ble_eq_true rfl) ?_
  intro p e s m below meth c S hr hlk hne hK A hA tx I ls hl
  have hl : lv_has ls 3 [(0, .ref (ad 0)), (1, .int x1), (2, .int x2)] := hl
  refine lv_aload_n S.1 S.2.1 d_Gr_distance_0 rfl (lv_at hl 0 rfl) ?_
  refine g_Gr_terms S hK I.1 d_Gr_distance_1 ?_
  refine lv_iload_n S.1 S.2.1 d_Gr_distance_4 rfl (lv_at hl 1 rfl) ?_
  refine callV_roi S (c_Te_isMade l D ad cA _ _ _ _ _ _ _ _ _ h) (mkV S.2.2.2.2 ml_Gr_80 k_Te_isMade rfl rfl ⟨Nat.le_of_ble_eq_true rfl, Nat.le_of_ble_eq_true rfl⟩) (rv_Te hK I.1) hK I.1 hl.1 rfl rfl (Nat.le_of_ble_eq_true rfl) d_Gr_distance_5 ⟨Nat.zero_le _, Nat.zero_le _⟩ (fun r5 h => ?_)
  refine lv_if_eq (tgt := 22) S.1 S.2.1 d_Gr_distance_8 (by decide) (fun hc => ?_) (fun hc => ?_)
  · have h := h.1 hc
    exact w_throw (u := (_, _, _)) S hlt hlk hne hK tx (by decide) xAll_IA cl_IA in_IA is_IA I hl.1 h d_Gr_distance_22 d_Gr_distance_25 d_Gr_distance_26 d_Gr_distance_29 ⟨Nat.le_of_ble_eq_true rfl, Nat.le_of_ble_eq_true rfl, Nat.le_of_ble_eq_true rfl, Nat.le_of_ble_eq_true rfl⟩
  · have h := h.2 hc
    refine lv_aload_n S.1 S.2.1 d_Gr_distance_11 rfl (lv_at hl 0 rfl) ?_
    refine g_Gr_terms S hK I.1 d_Gr_distance_12 ?_
    refine lv_iload_n S.1 S.2.1 d_Gr_distance_15 rfl (lv_at hl 2 rfl) ?_
    refine callV_roi S (c_Te_isMade l D ad cA _ _ _ _ _ _ _ _ _ h) (mkV S.2.2.2.2 ml_Gr_80 k_Te_isMade rfl rfl ⟨Nat.le_of_ble_eq_true rfl, Nat.le_of_ble_eq_true rfl⟩) (rv_Te hK I.1) hK I.1 hl.1 rfl rfl (Nat.le_of_ble_eq_true rfl) d_Gr_distance_16 ⟨Nat.zero_le _, Nat.zero_le _⟩ (fun r16 h => ?_)
    refine lv_if_ne (tgt := 30) S.1 S.2.1 d_Gr_distance_19 (by decide) (fun hc => ?_) (fun hc => ?_)
    · have h := h.1 hc
      refine lv_aload_n S.1 S.2.1 d_Gr_distance_30 rfl (lv_at hl 0 rfl) ?_
      refine g_Gr_relations S hK I.1 d_Gr_distance_31 ?_
      refine callV_rwv S (c_Re_renew l D ad cA _ _ _ _ _ _ _ _ h) (mkV S.2.2.2.2 ml_Gr_123 k_Re_renew rfl rfl ⟨Nat.le_of_ble_eq_true rfl, Nat.le_of_ble_eq_true rfl⟩) (rv_Re hK I.1) hK hA I hl.1 rfl rfl (Nat.le_of_ble_eq_true rfl) d_Gr_distance_34 ⟨Nat.zero_le _, Nat.zero_le _⟩ (fun re34 H locs h I => ?_)
      refine lv_aload_n S.1 S.2.1 d_Gr_distance_37 rfl (lv_at hl 0 rfl) ?_
      refine g_Gr_relations S hK I.1 d_Gr_distance_38 ?_
      refine lv_iload_n S.1 S.2.1 d_Gr_distance_41 rfl (lv_at hl 1 rfl) ?_
      refine lv_iload_n S.1 S.2.1 d_Gr_distance_42 rfl (lv_at hl 2 rfl) ?_
      refine callV_roi S (c_Re_leads l D ad cA _ _ _ _ _ _ _ _ _ _ h) (mkV S.2.2.2.2 ml_Gr_126 k_Re_leads rfl rfl ⟨Nat.le_of_ble_eq_true rfl, Nat.le_of_ble_eq_true rfl⟩) (rv_Re hK I.1) hK I.1 hl.1 rfl rfl (Nat.le_of_ble_eq_true rfl) d_Gr_distance_43 ⟨Nat.zero_le _, Nat.zero_le _⟩ (fun r43 h => ?_)
      refine lv_if_eq (tgt := 61) S.1 S.2.1 d_Gr_distance_46 (by decide) (fun hc => ?_) (fun hc => ?_)
      · have h := h.1 hc
        refine lv_iconst (v := (-1 : Int32)) S.1 S.2.1 d_Gr_distance_61 rfl ?_
        exact ret_twi (u := (_, _, _)) S hr hlk hK I h d_Gr_distance_62
      · have h := h.2 hc
        refine lv_aload_n S.1 S.2.1 d_Gr_distance_49 rfl (lv_at hl 0 rfl) ?_
        refine g_Gr_levels S hK I.1 d_Gr_distance_50 ?_
        refine lv_iload_n S.1 S.2.1 d_Gr_distance_53 rfl (lv_at hl 1 rfl) ?_
        refine lv_iload_n S.1 S.2.1 d_Gr_distance_54 rfl (lv_at hl 2 rfl) ?_
        refine callV_rwi S (c_Le_levelOf l D ad cA _ _ _ _ _ _ _ _ _ _ h) (mkV S.2.2.2.2 ml_Gr_155 k_Le_levelOf rfl rfl ⟨Nat.le_of_ble_eq_true rfl, Nat.le_of_ble_eq_true rfl⟩) (rv_Le hK I.1) hK hA I hl.1 rfl rfl (Nat.le_of_ble_eq_true rfl) d_Gr_distance_55 ⟨Nat.zero_le _, Nat.zero_le _⟩ (fun r55 u55 H locs h I => ?_)
        obtain ⟨te55, le55⟩ := u55
        refine lv_goto (tgt := 62) S.1 S.2.1 d_Gr_distance_58 (by decide) ?_
        exact ret_twi (u := (_, _, _)) S hr hlk hK I h d_Gr_distance_62
    · have h := h.2 hc
      exact w_throw (u := (_, _, _)) S hlt hlk hne hK tx (by decide) xAll_IA cl_IA in_IA is_IA I hl.1 h d_Gr_distance_22 d_Gr_distance_25 d_Gr_distance_26 d_Gr_distance_29 ⟨Nat.le_of_ble_eq_true rfl, Nat.le_of_ble_eq_true rfl, Nat.le_of_ble_eq_true rfl, Nat.le_of_ble_eq_true rfl⟩
