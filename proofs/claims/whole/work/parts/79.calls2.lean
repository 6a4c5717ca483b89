/-! the calls: rule, cut, mark, edge -/
def rAdd (R : Rul) (a b : Nat) : Rul := (rn R + 1, fun i => if i = rn R then a else rl R i, fun i => if i = rn R then b else rr R i)
def rCut (R : Rul) : Rul := (rn R - 1, rl R, rr R)
section
variable {j : Nat} {T : Tab} {R : Rul} {A : Aut} {F : Nat} {te : Te} {ru : Ru} {au : Au} {re : Re} {la : La} {sp : Sp} {le : Le} {mo : Mo} {a1 a2 a3 a4 : Int32}
/-- other rules: the cache is out of date -/
theorem cache.rul {R' : Rul} {ru' : Ru} (h : cache j T R ru re) (hj : j < 512) (e : Ru_changes ru' = Ru_changes ru + nI 1) : cache (j + 1) T R' ru' re := by
  obtain ⟨ch, h1, h2, h3, h4, h5⟩ := h
  rw [h2, nI_add] at e
  have ne : Re_changesThen re ≠ nI (ch + 1) := by
    rcases h3 with h3 | ⟨m, hm, h3⟩
    · rw [h3]; exact fun e => (mE2 (by omega)).mp e
    · rw [h3]; exact fun e => by have := (nI_eq (by omega) (by omega)).mp e; omega
  refine ⟨ch + 1, by omega, e, ?_, h4, fun _ e => absurd e ne⟩
  rcases h3 with h3 | ⟨m, hm, h3⟩
  · exact Or.inl h3
  · exact Or.inr ⟨m, by omega, h3⟩
theorem InvW.rul {R' : Rul} {ru' : Ru} {mo' : Mo} (h : InvW j T R A F (te, ru, au, re, la, sp, le) mo) (hj : j < 512) (ho : rOk T R') (h1 : rRu R' ru') (h2 : rMo R' mo') (e : Ru_changes ru' = Ru_changes ru + nI 1) (k : Mo_places mo' = Mo_places mo ∧ Mo_symbol mo' = Mo_symbol mo ∧ Mo_one mo' = Mo_one mo ∧ Mo_two mo' = Mo_two mo ∧ Mo_count mo' = Mo_count mo ∧ Mo_edges mo' = Mo_edges mo ∧ Mo_edge mo' = Mo_edge mo ∧ Mo_finals mo' = Mo_finals mo) : Inv (j + 1) (te, ru', au, re, la, sp, le) mo' := by
  obtain ⟨⟨g1, g2⟩, ⟨g3, g4, g5⟩, ⟨g6, g7, g8, g9⟩, g10⟩ := h
  obtain ⟨k1, k2, k3, k4, k5, k6, k7, k8⟩ := k
  refine ⟨T, R', A, F, ⟨g1, ?_⟩, ⟨ho, h1, h2⟩, ⟨g6, g7, g8, ?_⟩, cache.rul g10 hj e⟩
  · obtain ⟨h1, h2, h3, h4, h5, h6, h7⟩ := g2
    exact ⟨h1, h2, by rw [k5]; exact h3, by rw [k1]; exact h4, by rw [k2]; exact h5, by rw [k3]; exact h6, by rw [k4]; exact h7⟩
  · obtain ⟨h1, h2, h3, h4, h5, h6⟩ := g9
    exact ⟨by rw [k6]; exact h1, by rw [k7]; exact h2, by rw [k7]; exact h3, by rw [k7]; exact h4, by rw [k7]; exact h5, by rw [k8]; exact h6⟩
theorem s_ruleM {Q : Int32 → Mo → Prop} (hM : tMo T mo) {s t : Nat} (hs : s < tn T) (ht : t < tn T) (ne : s ≠ t) (hR : rMo R mo) (hr : rn R ≤ 8) (h8 : rn R = 8 → ∀ mo', mKp mo mo' → Mo_thrown mo' = nI 2 → Q (nI 0) mo') (h7 : rn R < 8 → Q (nI (rn R)) (Mo_rules_s (Mo_right_s (Mo_left_s (Mo_thrown_s mo 0) (upd (Mo_left mo) (rn R) (nI s))) (upd (Mo_right mo) (rn R) (nI t))) (nI (rn R + 1)))) : p_Mo_rule (nI s) (nI t) mo Q := by
  have hn := hM.2.1
  unfold p_Mo_rule
  rw [hR.1]
  simp (disch := omega) only [↓mI_e, litI, cLeT, cLeF, cLtT, cLtF, cEqF, cEqT, mE1, mE2, mL1, mL2, mL3, mL4, cIn, nI_clamp, nI_add, cMul, cSub, cM1, nar0, nar1, true_implies, false_implies, not_true_eq_false, not_false_eq_true, true_and, and_true, term_t hM]
  unfold p_Mo_rule_40
  by_cases h : rn R = 8
  · simp (disch := omega) only [↓mI_e, litI, cLeT, cLeF, cLtT, cLtF, cEqF, cEqT, mE1, mE2, mL1, mL2, mL3, mL4, cIn, nI_clamp, nI_add, cMul, cSub, cM1, nar0, nar1, true_implies, false_implies, not_true_eq_false, not_false_eq_true, true_and, and_true]
    refine nm_e ?_
    simp (disch := omega) only [↓mI_e, litI, cLeT, cLeF, cLtT, cLtF, cEqF, cEqT, mE1, mE2, mL1, mL2, mL3, mL4, cIn, nI_clamp, nI_add, cMul, cSub, cM1, nar0, nar1, true_implies, false_implies, not_true_eq_false, not_false_eq_true, true_and, and_true, thr_s]
    exact h8 h _ (thr_k mo _) rfl
  · simp (disch := omega) only [↓mI_e, litI, cLeT, cLeF, cLtT, cLtF, cEqF, cEqT, mE1, mE2, mL1, mL2, mL3, mL4, cIn, nI_clamp, nI_add, cMul, cSub, cM1, nar0, nar1, true_implies, false_implies, not_true_eq_false, not_false_eq_true, true_and, and_true]
    refine nm_e ?_
    simp (disch := omega) only [↓mI_e, litI, cLeT, cLeF, cLtT, cLtF, cEqF, cEqT, mE1, mE2, mL1, mL2, mL3, mL4, cIn, nI_clamp, nI_add, cMul, cSub, cM1, nar0, nar1, true_implies, false_implies, not_true_eq_false, not_false_eq_true, true_and, and_true, thr_s]
    rw [show Mo_rules (Mo_thrown_s mo (nI 0)) = nI (rn R) from hR.1]
    simp (disch := omega) only [↓mI_e, litI, cLeT, cLeF, cLtT, cLtF, cEqF, cEqT, mE1, mE2, mL1, mL2, mL3, mL4, cIn, nI_clamp, nI_add, cMul, cSub, cM1, nar0, nar1, true_implies, false_implies, not_true_eq_false, not_false_eq_true, true_and, and_true]
    refine nm_e ?_
    rw [show ∀ f, Mo_rules (Mo_left_s (Mo_thrown_s mo (nI 0)) f) = nI (rn R) from fun f => hR.1]
    simp (disch := omega) only [↓mI_e, litI, cLeT, cLeF, cLtT, cLtF, cEqF, cEqT, mE1, mE2, mL1, mL2, mL3, mL4, cIn, nI_clamp, nI_add, cMul, cSub, cM1, nar0, nar1, true_implies, false_implies, not_true_eq_false, not_false_eq_true, true_and, and_true]
    refine nm_e ?_
    refine nm_e ?_
    have h7' := h7 (by omega)
    have e1 : ∀ f g, Mo_rules (Mo_right_s (Mo_left_s (Mo_thrown_s mo (nI 0)) f) g) = nI (rn R) := fun f g => hR.1
    rw [e1]
    rw [show ∀ m : Mo, Mo_rules (Mo_rules_s m (nI (rn R) + nI 1)) = nI (rn R) + nI 1 from fun m => rfl]
    simp (disch := omega) only [↓mI_e, litI, cLeT, cLeF, cLtT, cLtF, cEqF, cEqT, mE1, mE2, mL1, mL2, mL3, mL4, cIn, nI_clamp, nI_add, cMul, cSub, cM1, nar0, nar1, true_implies, false_implies, not_true_eq_false, not_false_eq_true, true_and, and_true]
    exact h7'
theorem s_ruleM_bad {Q : Int32 → Mo → Prop} {x1 x2 : Int32} (hM : tMo T mo) (hb : (∀ t, t < tn T → x1 ≠ nI t) ∨ (∃ s, s < tn T ∧ x1 = nI s ∧ ((∀ t, t < tn T → x2 ≠ nI t) ∨ x1 = x2))) (h : ∀ mo', mKp mo mo' → Mo_thrown mo' = nI 1 → Q (nI 0) mo') : p_Mo_rule x1 x2 mo Q := by
  have hn := hM.2.1
  have k : p_Mo_rule_22 x1 x2 Q mo := by
    unfold p_Mo_rule_22 p_Mo_rule_40
    refine nm_e ?_
    simp (disch := omega) only [↓mI_e, litI, cLeT, cLeF, cLtT, cLtF, cEqF, cEqT, mE1, mE2, mL1, mL2, mL3, mL4, cIn, nI_clamp, nI_add, cMul, cSub, cM1, nar0, nar1, true_implies, false_implies, not_true_eq_false, not_false_eq_true, true_and, and_true, thr_s]
    exact h _ (thr_k mo _) rfl
  unfold p_Mo_rule
  rcases hb with hb | ⟨s, hs, rfl, hb | rfl⟩
  · rw [term_f hM hb]
    simp (disch := omega) only [↓mI_e, litI, cLeT, cLeF, cLtT, cLtF, cEqF, cEqT, mE1, mE2, mL1, mL2, mL3, mL4, cIn, nI_clamp, nI_add, cMul, cSub, cM1, nar0, nar1, true_implies, false_implies, not_true_eq_false, not_false_eq_true, true_and, and_true]
    exact k
  · rw [term_t hM hs, term_f hM hb]
    simp (disch := omega) only [↓mI_e, litI, cLeT, cLeF, cLtT, cLtF, cEqF, cEqT, mE1, mE2, mL1, mL2, mL3, mL4, cIn, nI_clamp, nI_add, cMul, cSub, cM1, nar0, nar1, true_implies, false_implies, not_true_eq_false, not_false_eq_true, true_and, and_true]
    exact k
  · simp (disch := omega) only [↓mI_e, litI, cLeT, cLeF, cLtT, cLtF, cEqF, cEqT, mE1, mE2, mL1, mL2, mL3, mL4, cIn, nI_clamp, nI_add, cMul, cSub, cM1, nar0, nar1, true_implies, false_implies, not_true_eq_false, not_false_eq_true, true_and, and_true, term_t hM]
    exact k
theorem q_2 (hj : j < 512) (h : InvW j T R A F (te, ru, au, re, la, sp, le) mo) : ls_2 a1 a2 a3 a4 te ru au re la sp le mo (Inv (j + 1)) := by
  have hT := h.t
  have hM := h.1.2
  have hn := hM.2.1
  obtain ⟨ho, hru, hrm⟩ := h.2.1
  have hr8 := ho.1
  unfold ls_2 p_Gr_rule
  have bad : ((∀ t, t < tn T → a1 ≠ nI t) ∨ (∃ s, s < tn T ∧ a1 = nI s ∧ ((∀ t, t < tn T → a2 ≠ nI t) ∨ a1 = a2))) ∨ ∃ s t, s < tn T ∧ t < tn T ∧ s ≠ t ∧ a1 = nI s ∧ a2 = nI t := by
    rcases ixc a1 (n := tn T) (by omega) with ⟨s, hs, e1⟩ | ⟨-, g⟩
    · rcases ixc a2 (n := tn T) (by omega) with ⟨t, ht, e2⟩ | ⟨-, g⟩
      · by_cases e : s = t
        · exact Or.inl (Or.inr ⟨s, hs, e1, Or.inr (by rw [e1, e2, e])⟩)
        · exact Or.inr ⟨s, t, hs, ht, e, e1, e2⟩
      · exact Or.inl (Or.inr ⟨s, hs, e1, Or.inl g⟩)
    · exact Or.inl (Or.inl g)
  rcases bad with hb | ⟨s, t, hs, ht, ne, rfl, rfl⟩
  · have k : (xIA = xIA ∨ xIA = xIS) ∧ p_Mo_rule a1 a2 mo (fun b mo' => p_Mo_thrown mo' (fun t => t = (if xIA = xIA then (1 : Int32) else 2) ∧ Inv (j + 1) (te, ru, au, re, la, sp, le) mo')) :=
      ⟨Or.inl rfl, s_ruleM_bad hM hb (fun mo' k e => ⟨by rw [if_pos rfl]; exact e, h.same k⟩)⟩
    rcases hb with hb | ⟨s, hs, rfl, hb | rfl⟩
    · rw [made_f hT hb]
      exact ⟨fun _ => k, fun h => absurd rfl h⟩
    · rw [made_t hT hs, made_f hT hb]
      exact ⟨fun h => absurd h (by decide), fun _ => ⟨fun _ => k, fun h => absurd rfl h⟩⟩
    · rw [made_t hT hs, made_t hT hs]
      exact ⟨fun h => absurd h (by decide), fun _ => ⟨fun h => absurd h (by decide), fun _ => ⟨fun h => absurd rfl h, fun _ => k⟩⟩⟩
  · simp (disch := omega) only [↓mI_e, litI, cLeT, cLeF, cLtT, cLtF, cEqF, cEqT, mE1, mE2, mL1, mL2, mL3, mL4, cIn, nI_clamp, nI_add, cMul, cSub, cM1, nar0, nar1, true_implies, false_implies, not_true_eq_false, not_false_eq_true, true_and, and_true, made_t hT]
    unfold p_Ru_append
    rw [hru.1]
    by_cases h8 : rn R = 8
    · simp (disch := omega) only [↓mI_e, litI, cLeT, cLeF, cLtT, cLtF, cEqF, cEqT, mE1, mE2, mL1, mL2, mL3, mL4, cIn, nI_clamp, nI_add, cMul, cSub, cM1, nar0, nar1, true_implies, false_implies, not_true_eq_false, not_false_eq_true, true_and, and_true]
      refine ⟨Or.inr trivial, s_ruleM hM hs ht ne hrm hr8 (fun _ mo' k e => ⟨?_, h.same k⟩) (fun h9 => by omega)⟩
      rw [if_neg xIS_ne]
      exact e
    · simp (disch := omega) only [↓mI_e, litI, cLeT, cLeF, cLtT, cLtF, cEqF, cEqT, mE1, mE2, mL1, mL2, mL3, mL4, cIn, nI_clamp, nI_add, cMul, cSub, cM1, nar0, nar1, true_implies, false_implies, not_true_eq_false, not_false_eq_true, true_and, and_true]
      refine nm_e ?_
      rw [show ∀ f, Ru_count (Ru_left_s ru f) = nI (rn R) from fun f => hru.1]
      simp (disch := omega) only [↓mI_e, litI, cLeT, cLeF, cLtT, cLtF, cEqF, cEqT, mE1, mE2, mL1, mL2, mL3, mL4, cIn, nI_clamp, nI_add, cMul, cSub, cM1, nar0, nar1, true_implies, false_implies, not_true_eq_false, not_false_eq_true, true_and, and_true]
      refine nm_e ?_
      refine nm_e ?_
      refine nm_e ?_
      rw [show ∀ f g y, Ru_count (Ru_changes_s (Ru_right_s (Ru_left_s ru f) g) y) = nI (rn R) from fun f g y => hru.1]
      simp (disch := omega) only [↓mI_e, litI, cLeT, cLeF, cLtT, cLtF, cEqF, cEqT, mE1, mE2, mL1, mL2, mL3, mL4, cIn, nI_clamp, nI_add, cMul, cSub, cM1, nar0, nar1, true_implies, false_implies, not_true_eq_false, not_false_eq_true, true_and, and_true]
      refine s_ruleM hM hs ht ne hrm hr8 (fun h9 => by omega) (fun _ => ⟨rfl, rfl, ?_⟩)
      refine h.rul (R' := rAdd R s t) hj ?_ ?_ ?_ ?_ ⟨rfl, rfl, rfl, rfl, rfl, rfl, rfl, rfl⟩
      · refine ⟨by show rn R + 1 ≤ 8; omega, fun i hi => ?_⟩
        have hi : i < rn R + 1 := hi
        show (if i = rn R then s else rl R i) < tn T ∧ (if i = rn R then t else rr R i) < tn T ∧ (if i = rn R then s else rl R i) ≠ (if i = rn R then t else rr R i)
        by_cases e : i = rn R
        · rw [if_pos e, if_pos e]; exact ⟨hs, ht, ne⟩
        · rw [if_neg e, if_neg e]; exact ho.2 i (by omega)
      · refine ⟨rfl, fun i hi => ?_, fun i hi => ?_⟩
        · have hi : i < rn R + 1 := hi
          show upd (Ru_left ru) (rn R) (nI s) i = nI (if i = rn R then s else rl R i)
          by_cases e : i = rn R
          · rw [if_pos e]; exact upd_s e
          · rw [if_neg e, upd_n e]; exact hru.2.1 i (by omega)
        · have hi : i < rn R + 1 := hi
          show upd (Ru_right ru) (rn R) (nI t) i = nI (if i = rn R then t else rr R i)
          by_cases e : i = rn R
          · rw [if_pos e]; exact upd_s e
          · rw [if_neg e, upd_n e]; exact hru.2.2 i (by omega)
      · refine ⟨rfl, fun i hi => ?_, fun i hi => ?_⟩
        · have hi : i < rn R + 1 := hi
          show upd (Mo_left mo) (rn R) (nI s) i = nI (if i = rn R then s else rl R i)
          by_cases e : i = rn R
          · rw [if_pos e]; exact upd_s e
          · rw [if_neg e, upd_n e]; exact hrm.2.1 i (by omega)
        · have hi : i < rn R + 1 := hi
          show upd (Mo_right mo) (rn R) (nI t) i = nI (if i = rn R then t else rr R i)
          by_cases e : i = rn R
          · rw [if_pos e]; exact upd_s e
          · rw [if_neg e, upd_n e]; exact hrm.2.2 i (by omega)
      · rfl
theorem q_3 (hj : j < 512) (h : InvW j T R A F (te, ru, au, re, la, sp, le) mo) : ls_3 a1 a2 a3 a4 te ru au re la sp le mo (Inv (j + 1)) := by
  obtain ⟨ho, hru, hrm⟩ := h.2.1
  have hr8 := ho.1
  unfold ls_3 p_Gr_cut p_Ru_dropLast
  have em : ∀ y, Mo_rules (Mo_thrown_s mo y) = nI (rn R) := fun y => hrm.1
  rw [hru.1]
  by_cases h0 : rn R = 0
  · refine ⟨fun h9 => absurd (by rw [h0]; rfl) h9, fun _ => ⟨Or.inl rfl, ?_⟩⟩
    unfold p_Mo_cut p_Mo_cut_17 p_Mo_cut_32
    refine nm_e ?_
    rw [em, h0]
    simp (disch := omega) only [↓mI_e, litI, cLeT, cLeF, cLtT, cLtF, cEqF, cEqT, mE1, mE2, mL1, mL2, mL3, mL4, cIn, nI_clamp, nI_add, cMul, cSub, cM1, nar0, nar1, true_implies, false_implies, not_true_eq_false, not_false_eq_true, true_and, and_true]
    refine nm_e ⟨Or.inl rfl, ?_⟩
    refine h.same ⟨rfl, rfl, rfl, rfl, rfl, ?_, rfl, rfl, rfl, rfl, rfl⟩
    show nI (0 - 0) = Mo_rules mo
    rw [hrm.1, h0]
  · refine ⟨fun _ => ?_, fun h9 => absurd h9 (nI_ne0 (by omega) (by omega))⟩
    refine nm_e ?_
    refine nm_e ⟨Or.inr rfl, ?_⟩
    unfold p_Mo_cut p_Mo_cut_17 p_Mo_cut_32
    refine nm_e ?_
    rw [em]
    simp (disch := omega) only [↓mI_e, litI, cLeT, cLeF, cLtT, cLtF, cEqF, cEqT, mE1, mE2, mL1, mL2, mL3, mL4, cIn, nI_clamp, nI_add, cMul, cSub, cM1, nar0, nar1, true_implies, false_implies, not_true_eq_false, not_false_eq_true, true_and, and_true]
    refine nm_e ⟨Or.inr rfl, ?_⟩
    refine h.rul (R' := rCut R) hj ⟨by show rn R - 1 ≤ 8; omega, fun i hi => ho.2 i (by have : i < rn R - 1 := hi; omega)⟩ ⟨rfl, fun i hi => hru.2.1 i (by have : i < rn R - 1 := hi; omega), fun i hi => hru.2.2 i (by have : i < rn R - 1 := hi; omega)⟩ ⟨rfl, fun i hi => hrm.2.1 i (by have : i < rn R - 1 := hi; omega), fun i hi => hrm.2.2 i (by have : i < rn R - 1 := hi; omega)⟩ rfl ⟨rfl, rfl, rfl, rfl, rfl, rfl, rfl, rfl⟩
theorem bi_ge {F : Nat} (hF : F < 64) {v : Nat} (hv : 6 ≤ v) : ¬ bi (nI F) v := by
  unfold bi
  show ¬ (BitVec.ofNat 32 F).getLsbD v = true
  rw [BitVec.getLsbD_ofNat]
  simp
  intro _
  exact Nat.testBit_lt_two_pow (Nat.lt_of_lt_of_le hF (Nat.pow_le_pow_right (by omega) hv : 2 ^ 6 ≤ 2 ^ v))
theorem lt64 {x : Int32} (h : ∀ v, bi x v → v < 6) : ∃ F, F < 64 ∧ x = nI F := by
  refine ⟨x.toBitVec.toNat, ?_, ?_⟩
  · exact (Nat.lt_pow_two_of_testBit (n := 6) _ (fun i hi => Bool.eq_false_iff.mpr (fun h9 => absurd (h i h9) (by omega))) : _ < 2 ^ 6)
  · exact Int32.toBitVec_inj.mp (by show _ = BitVec.ofNat 32 _; simp)
theorem InvW.fin {F' : Nat} {au' : Au} {mo' : Mo} (h : InvW j T R A F (te, ru, au, re, la, sp, le) mo) (hF : F' < 64) (ea : au' = Au_finals_s au (nI F')) (em : mo' = Mo_finals_s (Mo_thrown_s mo 0) (nI F')) : Inv (j + 1) (te, ru, au', re, la, sp, le) mo' := by
  subst ea em
  obtain ⟨⟨g1, g2⟩, ⟨g3, g4, g5⟩, ⟨g6, g7, g8, g9⟩, g10⟩ := h
  obtain ⟨a1, a2, a3, a4, a5, a6⟩ := g8
  obtain ⟨b1, b2, b3, b4, b5, b6⟩ := g9
  exact ⟨T, R, A, F', ⟨g1, g2⟩, ⟨g3, g4, g5⟩, ⟨g6, hF, ⟨a1, a2, a3, a4, a5, rfl⟩, ⟨b1, b2, b3, b4, b5, rfl⟩⟩, cache.nx g10⟩
theorem q_5 (h : InvW j T R A F (te, ru, au, re, la, sp, le) mo) : ls_5 a1 a2 a3 a4 te ru au re la sp le mo (Inv (j + 1)) := by
  obtain ⟨hao, hF, hau, ham⟩ := h.2.2.1
  have ef : Au_finals au = nI F := hau.2.2.2.2.2
  have em : ∀ y, Mo_finals (Mo_thrown_s mo y) = nI F := fun y => ham.2.2.2.2.2
  have key : ∀ on : Nat, on ≤ 1 → p_Gr_mark a1 (nI on) au (fun r au' => p_Mo_mark a1 (nI on) mo (fun b mo' => r = b ∧ Inv (j + 1) (te, ru, au', re, la, sp, le) mo')) := by
    intro on hon
    unfold p_Gr_mark p_Mo_mark
    rcases ixc a1 (n := 6) (by omega) with ⟨q, hq, rfl⟩ | ⟨-, g⟩
    · rw [state_t hq]
      unfold p_Au_setFinal p_Au_setFinal_25 p_Mo_mark_31 p_Mo_mark_58
      rw [ef]
      have k1 : ∀ v, bi (nI F ||| nI 1 <<< (nI q &&& nI 31)) v ↔ bi (nI F) v ∨ v = q := fun v => by rw [bi_or, bi_shl (by omega)]
      have k2 : ∀ v, v < 32 → (bi (nI F &&& ((nI 1 <<< (nI q &&& nI 31)) ^^^ mI)) v ↔ bi (nI F) v ∧ v ≠ q) := fun v hv => by rw [bi_and, bi_not _ hv, bi_shl (by omega)]
      have k3 : ((nI F >>> (nI q &&& nI 31)) &&& nI 1 = nI 1) ↔ bi (nI F) q := bi_shr1 (by omega) _
      rcases (by omega : on = 0 ∨ on = 1) with rfl | rfl
      · obtain ⟨F', hF', e'⟩ : ∃ F', F' < 64 ∧ (nI F &&& ((nI 1 <<< (nI q &&& nI 31)) ^^^ mI)) = nI F' := lt64 (fun v hv => by
          have h2 := ((k2 v (bi_big hv)).mp hv).1
          refine Classical.byContradiction (fun h9 => bi_ge hF (by omega) h2))
        by_cases hb : bi (nI F) q
        · have ne : ¬ nI F' = nI F := fun e => by
            rw [← e, ← e'] at hb
            exact ((k2 q (by omega)).mp hb).2 rfl
          simp (disch := omega) only [↓mI_e, litI, cLeT, cLeF, cLtT, cLtF, cEqF, cEqT, mE1, mE2, mL1, mL2, mL3, mL4, cIn, nI_clamp, nI_add, cMul, cSub, cM1, nar0, nar1, true_implies, false_implies, not_true_eq_false, not_false_eq_true, true_and, and_true, e', ne, forall_eq]
          rw [stateM_t hq]
          simp only [em]
          simp only [k3, hb]
          simp (disch := omega) only [↓mI_e, litI, cLeT, cLeF, cLtT, cLtF, cEqF, cEqT, mE1, mE2, mL1, mL2, mL3, mL4, cIn, nI_clamp, nI_add, cMul, cSub, cM1, nar0, nar1, true_implies, false_implies, not_true_eq_false, not_false_eq_true, true_and, and_true, e', forall_eq]
          exact h.fin hF' rfl rfl
        · have eq : nI F' = nI F := by
            rw [← e']
            refine bi_ext (fun v hv => ?_)
            rw [k2 v hv]
            exact ⟨fun h => h.1, fun h => ⟨h, fun e => hb (e ▸ h)⟩⟩
          simp (disch := omega) only [↓mI_e, litI, cLeT, cLeF, cLtT, cLtF, cEqF, cEqT, mE1, mE2, mL1, mL2, mL3, mL4, cIn, nI_clamp, nI_add, cMul, cSub, cM1, nar0, nar1, true_implies, false_implies, not_true_eq_false, not_false_eq_true, true_and, and_true, e', eq, forall_eq]
          rw [stateM_t hq]
          simp only [em]
          simp only [k3, hb]
          simp (disch := omega) only [↓mI_e, litI, cLeT, cLeF, cLtT, cLtF, cEqF, cEqT, mE1, mE2, mL1, mL2, mL3, mL4, cIn, nI_clamp, nI_add, cMul, cSub, cM1, nar0, nar1, true_implies, false_implies, not_true_eq_false, not_false_eq_true, true_and, and_true, e', eq, forall_eq]
          exact h.fin hF (by rw [← ef]) rfl
      · obtain ⟨F', hF', e'⟩ : ∃ F', F' < 64 ∧ (nI F ||| nI 1 <<< (nI q &&& nI 31)) = nI F' := lt64 (fun v hv => by
          rcases (k1 v).mp hv with h2 | h2
          · refine Classical.byContradiction (fun h9 => bi_ge hF (by omega) h2)
          · omega)
        by_cases hb : bi (nI F) q
        · have eq : nI F' = nI F := by
            rw [← e']
            refine bi_ext (fun v hv => ?_)
            rw [k1 v]
            exact ⟨fun h => h.elim id (fun e => e ▸ hb), fun h => Or.inl h⟩
          simp (disch := omega) only [↓mI_e, litI, cLeT, cLeF, cLtT, cLtF, cEqF, cEqT, mE1, mE2, mL1, mL2, mL3, mL4, cIn, nI_clamp, nI_add, cMul, cSub, cM1, nar0, nar1, true_implies, false_implies, not_true_eq_false, not_false_eq_true, true_and, and_true, e', eq, forall_eq]
          rw [stateM_t hq]
          simp only [em]
          simp only [k3, hb]
          simp (disch := omega) only [↓mI_e, litI, cLeT, cLeF, cLtT, cLtF, cEqF, cEqT, mE1, mE2, mL1, mL2, mL3, mL4, cIn, nI_clamp, nI_add, cMul, cSub, cM1, nar0, nar1, true_implies, false_implies, not_true_eq_false, not_false_eq_true, true_and, and_true, e', eq, forall_eq]
          exact h.fin hF (by rw [← ef]) rfl
        · have ne : ¬ nI F' = nI F := fun e => by
            rw [← e, ← e'] at hb
            exact hb ((k1 q).mpr (Or.inr rfl))
          simp (disch := omega) only [↓mI_e, litI, cLeT, cLeF, cLtT, cLtF, cEqF, cEqT, mE1, mE2, mL1, mL2, mL3, mL4, cIn, nI_clamp, nI_add, cMul, cSub, cM1, nar0, nar1, true_implies, false_implies, not_true_eq_false, not_false_eq_true, true_and, and_true, e', ne, forall_eq]
          rw [stateM_t hq]
          simp only [em]
          simp only [k3, hb]
          simp (disch := omega) only [↓mI_e, litI, cLeT, cLeF, cLtT, cLtF, cEqF, cEqT, mE1, mE2, mL1, mL2, mL3, mL4, cIn, nI_clamp, nI_add, cMul, cSub, cM1, nar0, nar1, true_implies, false_implies, not_true_eq_false, not_false_eq_true, true_and, and_true, e', forall_eq]
          exact h.fin hF' rfl rfl
    · rw [state_f g]
      simp (disch := omega) only [↓mI_e, litI, cLeT, cLeF, cLtT, cLtF, cEqF, cEqT, mE1, mE2, mL1, mL2, mL3, mL4, cIn, nI_clamp, nI_add, cMul, cSub, cM1, nar0, nar1, true_implies, false_implies, not_true_eq_false, not_false_eq_true, true_and, and_true, forall_eq]
      rw [stateM_f g]
      simp (disch := omega) only [↓mI_e, litI, cLeT, cLeF, cLtT, cLtF, cEqF, cEqT, mE1, mE2, mL1, mL2, mL3, mL4, cIn, nI_clamp, nI_add, cMul, cSub, cM1, nar0, nar1, true_implies, false_implies, not_true_eq_false, not_false_eq_true, true_and, and_true, forall_eq]
      exact h.same (thr_k mo _)
  unfold ls_5
  exact ⟨fun _ => key 0 (by omega), fun _ => key 1 (by omega)⟩
end
