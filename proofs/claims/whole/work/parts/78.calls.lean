/-! the calls: term, rule, cut, mark, look -/
theorem cache.grow {j : Nat} {T T' : Tab} {R : Rul} {ru : Ru} {re : Re} (h : cache j T R ru re) (hn : tn T < tn T') (hb : tn T' ≤ 520) : cache j T' R ru re := by
  obtain ⟨ch, h1, h2, h3, h4, h5⟩ := h
  have ne : Re_termsThen re ≠ nI (tn T') := by
    rcases h4 with h4 | ⟨m, hm, h4⟩
    · rw [h4]; exact fun e => (mE2 (by omega)).mp e
    · rw [h4]; exact fun e => by have := (nI_eq (by omega) (by omega)).mp e; omega
  refine ⟨ch, h1, h2, h3, ?_, fun e => absurd e ne⟩
  rcases h4 with h4 | ⟨m, hm, h4⟩
  · exact Or.inl h4
  · exact Or.inr ⟨m, by omega, h4⟩
theorem rOk.grow {T T' : Tab} {R : Rul} (h : rOk T R) (hn : tn T ≤ tn T') : rOk T' R := ⟨h.1, fun i hi => ⟨by have := (h.2 i hi).1; omega, by have := (h.2 i hi).2.1; omega, (h.2 i hi).2.2⟩⟩
theorem aOk.tp {T T' : Tab} {A : Aut} (h : aOk T A) (e : tp T' = tp T) : aOk T' A := by
  unfold aOk
  rw [e]
  exact h
theorem InvW.add {j : Nat} {T T' : Tab} {R : Rul} {A : Aut} {F : Nat} {te te' : Te} {ru : Ru} {au : Au} {re : Re} {la : La} {sp sp' : Sp} {le : Le} {mo mo' : Mo} (h : InvW j T R A F (te, ru, au, re, la, sp, le) mo) (hte : tTe T' te') (hmo : tMo T' mo') (hn : tn T < tn T') (e : tp T' = tp T) (k : mKr mo mo') : Inv (j + 1) (te', ru, au, re, la, sp', le) mo' := by
  obtain ⟨⟨h1, h2⟩, ⟨h3, h4, h5⟩, ⟨h6, h7, h8, h9⟩, h10⟩ := h
  exact ⟨T', R, A, F, ⟨hte, hmo⟩, ⟨h3.grow (by omega), h4, h5.kr k⟩, ⟨h6.tp e, h7, h8, h9.kr k e⟩, (h10.nx).grow hn hte.1.1⟩
section
variable {j : Nat} {T : Tab} {R : Rul} {A : Aut} {F : Nat} {te : Te} {ru : Ru} {au : Au} {re : Re} {la : La} {sp : Sp} {le : Le} {mo : Mo} {a1 a2 a3 a4 : Int32}
theorem InvW.c (h : InvW j T R A F (te, ru, au, re, la, sp, le) mo) : cache j T R ru re := h.2.2.2
theorem InvW.t (h : InvW j T R A F (te, ru, au, re, la, sp, le) mo) : tTe T te := h.1.1
theorem InvW.a (h : InvW j T R A F (te, ru, au, re, la, sp, le) mo) : aAu A F au := h.2.2.1.2.2.1
theorem InvW.same (h : InvW j T R A F (te, ru, au, re, la, sp, le) mo) {la' : La} {sp' : Sp} {le' : Le} {mo' : Mo} (k : mKp mo mo') : Inv (j + 1) (te, ru, au, re, la', sp', le') mo' := h.kp k h.t h.a h.c
theorem xIS_ne : ¬ xIS = xIA := by decide
theorem xIS_neB : ¬ xIS = xIB := by decide
theorem q_0 (h : InvW j T R A F (te, ru, au, re, la, sp, le) mo) : ls_0 a1 a2 a3 a4 te ru au re la sp le mo (Inv (j + 1)) := by
  have hT := h.1.1
  have hM := h.1.2
  have hn := hM.2.1
  unfold ls_0 p_Gr_term
  rcases tGd_or T (by omega) a1 a2 a3 with ⟨s, a, b, g⟩ | g
  · have f := g.2.1
    have hc : p_Te_canStand a1 a2 a3 te = fun Q => Q 1 := by
      funext Q
      apply propext
      obtain ⟨rfl, f, g2, g3⟩ := g
      have hs := f.1
      have hp2 := hT.1.2.1 s
      unfold p_Te_canStand p_Te_canStand_26 p_Te_canStand_44
      simp only [litI, symb_t hs]
      rw [nI_clamp (by omega), hT.2.2.2.1 s hs]
      by_cases h1 : 1 ≤ tp T s
      · have ha := f.2.2.2.1 h1
        rw [g2 h1]
        by_cases h2 : 2 ≤ tp T s
        · have hb := f.2.2.2.2 h2
          rw [g3 h2]
          simp (disch := omega) only [↓mI_e, litI, cLeT, cLeF, cLtT, cLtF, cEqF, cEqT, mE1, mE2, mL1, mL2, mL3, mL4, cIn, nI_clamp, nI_add, cMul, cSub, cM1, nar0, nar1, true_implies, false_implies, not_true_eq_false, not_false_eq_true, true_and, and_true, made_t hT]
        · simp (disch := omega) only [↓mI_e, litI, cLeT, cLeF, cLtT, cLtF, cEqF, cEqT, mE1, mE2, mL1, mL2, mL3, mL4, cIn, nI_clamp, nI_add, cMul, cSub, cM1, nar0, nar1, true_implies, false_implies, not_true_eq_false, not_false_eq_true, true_and, and_true, made_t hT]
      · simp (disch := omega) only [↓mI_e, litI, cLeT, cLeF, cLtT, cLtF, cEqF, cEqT, mE1, mE2, mL1, mL2, mL3, mL4, cIn, nI_clamp, nI_add, cMul, cSub, cM1, nar0, nar1, true_implies, false_implies, not_true_eq_false, not_false_eq_true, true_and, and_true, made_t hT]
    rw [hc]
    dsimp only
    simp (disch := omega) only [↓mI_e, litI, cLeT, cLeF, cLtT, cLtF, cEqF, cEqT, mE1, mE2, mL1, mL2, mL3, mL4, cIn, nI_clamp, nI_add, cMul, cSub, cM1, nar0, nar1, true_implies, false_implies, not_true_eq_false, not_false_eq_true, true_and, and_true]
    refine s_foa hT g (fun t i => ?_) (fun no h48 => ?_) (fun no h48 te' hte' => ?_)
    · have := i.1
      simp (disch := omega) only [↓mI_e, litI, cLeT, cLeF, cLtT, cLtF, cEqF, cEqT, mE1, mE2, mL1, mL2, mL3, mL4, cIn, nI_clamp, nI_add, cMul, cSub, cM1, nar0, nar1, true_implies, false_implies, not_true_eq_false, not_false_eq_true, true_and, and_true]
      refine s_termM hM g (fun u iu mo' k e => ?_) (fun no _ => absurd i (no t)) (fun no _ => absurd i (no t))
      rw [i.uniq hT.1 iu]
      exact ⟨e, rfl, h.same k⟩
    · simp (disch := omega) only [↓mI_e, litI, cLeT, cLeF, cLtT, cLtF, cEqF, cEqT, mE1, mE2, mL1, mL2, mL3, mL4, cIn, nI_clamp, nI_add, cMul, cSub, cM1, nar0, nar1, true_implies, false_implies, not_true_eq_false, not_false_eq_true, true_and, and_true]
      refine ⟨Or.inr trivial, s_termM hM g (fun u iu => absurd iu (no u)) (fun _ h9 mo' k e => ⟨?_, h.same k⟩) (fun _ h9 => by omega)⟩
      rw [if_neg xIS_ne]
      exact e
    · simp (disch := omega) only [↓mI_e, litI, cLeT, cLeF, cLtT, cLtF, cEqF, cEqT, mE1, mE2, mL1, mL2, mL3, mL4, cIn, nI_clamp, nI_add, cMul, cSub, cM1, nar0, nar1, true_implies, false_implies, not_true_eq_false, not_false_eq_true, true_and, and_true]
      exact s_termM hM g (fun u iu => absurd iu (no u)) (fun _ h9 => by omega) (fun _ _ mo' hm kr e => ⟨e, rfl, h.add hte' hm (by rw [tn_add]; omega) rfl kr⟩)
  · have hc : p_Te_canStand a1 a2 a3 te = fun Q => Q 0 := by
      funext Q
      apply propext
      unfold p_Te_canStand p_Te_canStand_26 p_Te_canStand_44
      rcases g with g | ⟨s, hs, rfl, h1, g⟩ | ⟨s, a, hs, rfl, h1, ha, rfl, g⟩
      · rw [symb_f g]
        simp (disch := omega) only [↓mI_e, litI, cLeT, cLeF, cLtT, cLtF, cEqF, cEqT, mE1, mE2, mL1, mL2, mL3, mL4, cIn, nI_clamp, nI_add, cMul, cSub, cM1, nar0, nar1, true_implies, false_implies, not_true_eq_false, not_false_eq_true, true_and, and_true]
      · have hp2 := hT.1.2.1 s
        simp only [litI, symb_t hs]
        rw [nI_clamp (by omega), hT.2.2.2.1 s hs]
        simp (disch := omega) only [↓mI_e, litI, cLeT, cLeF, cLtT, cLtF, cEqF, cEqT, mE1, mE2, mL1, mL2, mL3, mL4, cIn, nI_clamp, nI_add, cMul, cSub, cM1, nar0, nar1, true_implies, false_implies, not_true_eq_false, not_false_eq_true, true_and, and_true]
        rw [made_f hT g]
        simp (disch := omega) only [↓mI_e, litI, cLeT, cLeF, cLtT, cLtF, cEqF, cEqT, mE1, mE2, mL1, mL2, mL3, mL4, cIn, nI_clamp, nI_add, cMul, cSub, cM1, nar0, nar1, true_implies, false_implies, not_true_eq_false, not_false_eq_true, true_and, and_true]
      · have hp2 := hT.1.2.1 s
        simp only [litI, symb_t hs]
        rw [nI_clamp (by omega), hT.2.2.2.1 s hs]
        simp (disch := omega) only [↓mI_e, litI, cLeT, cLeF, cLtT, cLtF, cEqF, cEqT, mE1, mE2, mL1, mL2, mL3, mL4, cIn, nI_clamp, nI_add, cMul, cSub, cM1, nar0, nar1, true_implies, false_implies, not_true_eq_false, not_false_eq_true, true_and, and_true, made_t hT]
        rw [made_f hT g]
        simp (disch := omega) only [↓mI_e, litI, cLeT, cLeF, cLtT, cLtF, cEqF, cEqT, mE1, mE2, mL1, mL2, mL3, mL4, cIn, nI_clamp, nI_add, cMul, cSub, cM1, nar0, nar1, true_implies, false_implies, not_true_eq_false, not_false_eq_true, true_and, and_true]
    rw [hc]
    dsimp only
    simp (disch := omega) only [↓mI_e, litI, cLeT, cLeF, cLtT, cLtF, cEqF, cEqT, mE1, mE2, mL1, mL2, mL3, mL4, cIn, nI_clamp, nI_add, cMul, cSub, cM1, nar0, nar1, true_implies, false_implies, not_true_eq_false, not_false_eq_true, true_and, and_true]
    refine ⟨Or.inl trivial, s_termM_bad hM g (fun mo' k e => ⟨?_, h.same k⟩)⟩
    rw [if_pos trivial]
    exact e
theorem q_15 (h : InvW j T R A F (te, ru, au, re, la, sp, le) mo) : ls_15 a1 a2 a3 a4 te ru au re la sp le mo (Inv (j + 1)) := by
  have hT := h.1.1
  have hM := h.1.2
  have hR := h.2.1
  have hA := h.2.2.1
  have hk : ∀ x, mKp mo (Mo_thrown_s mo x) := fun x => thr_k mo x
  unfold ls_15 p_Gr_look p_Te_count p_Ru_count p_Au_count p_Au_finals p_Mo_look p_Te_placesOf
  rcases ixc a1 (n := 10) (by omega) with ⟨t, ht, rfl⟩ | ⟨g, gn⟩
  · rcases (by omega : t = 0 ∨ t = 1 ∨ t = 2 ∨ t = 3 ∨ (4 ≤ t ∧ t < 10)) with rfl | rfl | rfl | rfl | ⟨h4, h5⟩
    · rw [nI_toInt (by omega)]
      simp (disch := omega) only [↓mI_e, litI, cLeT, cLeF, cLtT, cLtF, cEqF, cEqT, mE1, mE2, mL1, mL2, mL3, mL4, cIn, nI_clamp, nI_add, cMul, cSub, cM1, nar0, nar1, true_implies, false_implies, not_true_eq_false, not_false_eq_true, true_and, and_true]
      simp only [show ¬ ((0 : Nat) : Int) < 0 by omega, show ¬ (3 : Int) < ((0 : Nat) : Int) by omega, or_self, false_implies, true_and, forall_eq]
      exact ⟨hT.2.2.1.trans hM.2.2.1.symm, h.same (hk _)⟩
    · rw [nI_toInt (by omega)]
      simp (disch := omega) only [↓mI_e, litI, cLeT, cLeF, cLtT, cLtF, cEqF, cEqT, mE1, mE2, mL1, mL2, mL3, mL4, cIn, nI_clamp, nI_add, cMul, cSub, cM1, nar0, nar1, true_implies, false_implies, not_true_eq_false, not_false_eq_true, true_and, and_true]
      simp only [show ¬ ((1 : Nat) : Int) < 0 by omega, show ¬ (3 : Int) < ((1 : Nat) : Int) by omega, or_self, false_implies, true_and, forall_eq]
      exact ⟨hR.2.1.1.trans hR.2.2.1.symm, h.same (hk _)⟩
    · rw [nI_toInt (by omega)]
      simp (disch := omega) only [↓mI_e, litI, cLeT, cLeF, cLtT, cLtF, cEqF, cEqT, mE1, mE2, mL1, mL2, mL3, mL4, cIn, nI_clamp, nI_add, cMul, cSub, cM1, nar0, nar1, true_implies, false_implies, not_true_eq_false, not_false_eq_true, true_and, and_true]
      simp only [show ¬ ((2 : Nat) : Int) < 0 by omega, show ¬ (3 : Int) < ((2 : Nat) : Int) by omega, or_self, false_implies, true_and, forall_eq]
      exact ⟨hA.2.2.1.1.trans hA.2.2.2.1.symm, h.same (hk _)⟩
    · rw [nI_toInt (by omega)]
      simp (disch := omega) only [↓mI_e, litI, cLeT, cLeF, cLtT, cLtF, cEqF, cEqT, mE1, mE2, mL1, mL2, mL3, mL4, cIn, nI_clamp, nI_add, cMul, cSub, cM1, nar0, nar1, true_implies, false_implies, not_true_eq_false, not_false_eq_true, true_and, and_true]
      simp only [show ¬ ((3 : Nat) : Int) < 0 by omega, show ¬ (3 : Int) < ((3 : Nat) : Int) by omega, or_self, false_implies, true_and, forall_eq]
      exact ⟨hA.2.2.1.2.2.2.2.2.trans hA.2.2.2.2.2.2.2.2.symm, h.same (hk _)⟩
    · rw [nI_toInt (by omega)]
      simp (disch := omega) only [↓mI_e, litI, cLeT, cLeF, cLtT, cLtF, cEqF, cEqT, mE1, mE2, mL1, mL2, mL3, mL4, cIn, nI_clamp, nI_add, cMul, cSub, cM1, nar0, nar1, true_implies, false_implies, not_true_eq_false, not_false_eq_true, true_and, and_true]
      simp only [forall_eq, implies_true, and_true]
      intro _
      exact ⟨(hT.2.2.2.1 (t - 4) (by omega)).trans (hM.2.2.2.1 (t - 4) (by omega)).symm, h.same (hk _)⟩
  · have ne : ∀ k, k < 10 → (a1 = nI k) = False := fun k hk => eq_false (gn k hk)
    simp only [litI, ne 0 (by omega), ne 1 (by omega), ne 2 (by omega), ne 3 (by omega), false_implies, and_true, not_false_eq_true, true_implies, forall_eq]
    have big : nI 10 ≤ a1 → ¬ a1 < nI 4 ∧ ¬ a1 ≤ nI 3 := by
      intro h
      rw [Int32.le_iff_toInt_le, nI_toInt (by omega)] at h
      constructor
      · rw [Int32.lt_iff_toInt_lt, nI_toInt (by omega)]; omega
      · rw [Int32.le_iff_toInt_le, nI_toInt (by omega)]; omega
    have small : a1 < nI 0 → a1 < nI 4 ∧ a1 ≤ nI 3 := by
      intro h
      rw [Int32.lt_iff_toInt_lt, nI_toInt (by omega)] at h
      constructor
      · rw [Int32.lt_iff_toInt_lt, nI_toInt (by omega)]; omega
      · rw [Int32.le_iff_toInt_le, nI_toInt (by omega)]; omega
    intro _
    rcases g with g | g
    · have s2 := small g
      simp only [s2.1, s2.2, not_true_eq_false, false_implies, and_true, true_implies]
      exact ⟨trivial, h.same (hk _)⟩
    · have s2 := big g
      simp only [s2.1, s2.2, g, not_true_eq_false, false_implies, and_true, true_implies, not_false_eq_true, true_and]
      exact h.same (hk _)
end
