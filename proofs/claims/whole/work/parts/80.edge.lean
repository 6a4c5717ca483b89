/-! edge -/
def aAdd (A : Aut) (s p q to : Nat) : Aut := (an A + 1, fun e => if e = an A then s else as' A e, fun e => if e = an A then p else a1' A e, fun e => if e = an A then q else a2' A e, fun e => if e = an A then to else at' A e)
def isA (A : Aut) (s p q to e : Nat) : Prop := e < an A ∧ as' A e = s ∧ a1' A e = p ∧ a2' A e = q ∧ at' A e = to
def eGd (T : Tab) (x1 x2 x3 x4 : Int32) (s p q to : Nat) : Prop := x1 = nI s ∧ x4 = nI to ∧ s < 6 ∧ to < 6 ∧ p < 6 ∧ q < 6 ∧ (tp T s < 1 → p = 0) ∧ (tp T s < 2 → q = 0) ∧ (1 ≤ tp T s → x2 = nI p) ∧ (2 ≤ tp T s → x3 = nI q)
def eBad (T : Tab) (x1 x2 x3 x4 : Int32) : Prop := (∀ t, t < 6 → x1 ≠ nI t) ∨ (∃ s, s < 6 ∧ x1 = nI s ∧ ∀ t, t < 6 → x4 ≠ nI t) ∨ (∃ s to, s < 6 ∧ to < 6 ∧ x1 = nI s ∧ x4 = nI to ∧ 1 ≤ tp T s ∧ ∀ t, t < 6 → x2 ≠ nI t) ∨ (∃ s to p, s < 6 ∧ to < 6 ∧ p < 6 ∧ x1 = nI s ∧ x4 = nI to ∧ x2 = nI p ∧ 2 ≤ tp T s ∧ ∀ t, t < 6 → x3 ≠ nI t)
theorem eGd_or (T : Tab) (x1 x2 x3 x4 : Int32) : (∃ s p q to, eGd T x1 x2 x3 x4 s p q to) ∨ eBad T x1 x2 x3 x4 := by
  rcases ixc x1 (n := 6) (by omega) with ⟨s, hs, e1⟩ | ⟨-, h⟩
  · rcases ixc x4 (n := 6) (by omega) with ⟨to, hto, e4⟩ | ⟨-, h⟩
    · by_cases h1 : 1 ≤ tp T s
      · rcases ixc x2 (n := 6) (by omega) with ⟨a, ha, e2⟩ | ⟨-, h⟩
        · by_cases h2 : 2 ≤ tp T s
          · rcases ixc x3 (n := 6) (by omega) with ⟨b, hb, e3⟩ | ⟨-, h⟩
            · exact Or.inl ⟨s, a, b, to, e1, e4, hs, hto, ha, hb, by omega, by omega, fun _ => e2, fun _ => e3⟩
            · exact Or.inr (Or.inr (Or.inr (Or.inr ⟨s, to, a, hs, hto, ha, e1, e4, e2, h2, h⟩)))
          · exact Or.inl ⟨s, a, 0, to, e1, e4, hs, hto, ha, by omega, by omega, fun _ => rfl, fun _ => e2, by omega⟩
        · exact Or.inr (Or.inr (Or.inr (Or.inl ⟨s, to, hs, hto, e1, e4, h1, h⟩)))
      · exact Or.inl ⟨s, 0, 0, to, e1, e4, hs, hto, by omega, by omega, fun _ => rfl, fun _ => rfl, by omega, by omega⟩
    · exact Or.inr (Or.inr (Or.inl ⟨s, hs, e1, h⟩))
  · exact Or.inr (Or.inl h)
section
variable {j : Nat} {T : Tab} {R : Rul} {A : Aut} {F : Nat} {te : Te} {ru : Ru} {au : Au} {re : Re} {la : La} {sp : Sp} {le : Le} {mo : Mo} {a1 a2 a3 a4 : Int32} {s p q to : Nat}
theorem places_t {Q : Int32 → Prop} (hT : tTe T te) (hs : s < 6) : p_Te_placesOf (nI s) te Q ↔ Q (nI (tp T s)) := by
  unfold p_Te_placesOf
  rw [nI_clamp (by omega), hT.2.2.2.1 s hs]
  simp (disch := omega) only [↓mI_e, litI, cLeT, cLeF, cLtT, cLtF, cEqF, cEqT, mE1, mE2, mL1, mL2, mL3, mL4, cIn, nI_clamp, nI_add, cMul, cSub, cM1, nar0, nar1, true_implies, false_implies, not_true_eq_false, not_false_eq_true, true_and, and_true]
theorem s_eStand {Q : Int32 → Prop} (hT : tTe T te) (g : eGd T a1 a2 a3 a4 s p q to) : p_Au_canStand a1 a2 a3 a4 te Q ↔ Q 1 := by
  obtain ⟨rfl, rfl, hs, hto, hp, hq, -, -, g2, g3⟩ := g
  have hp2 := hT.1.2.1 s
  unfold p_Au_canStand p_Au_canStand_38 p_Au_canStand_57
  simp (disch := omega) only [↓mI_e, litI, cLeT, cLeF, cLtT, cLtF, cEqF, cEqT, mE1, mE2, mL1, mL2, mL3, mL4, cIn, nI_clamp, nI_add, cMul, cSub, cM1, nar0, nar1, true_implies, false_implies, not_true_eq_false, not_false_eq_true, true_and, and_true, symb_t, state_t, places_t hT]
  by_cases h1 : 1 ≤ tp T s
  · rw [g2 h1]
    by_cases h2 : 2 ≤ tp T s
    · rw [g3 h2]
      simp (disch := omega) only [↓mI_e, litI, cLeT, cLeF, cLtT, cLtF, cEqF, cEqT, mE1, mE2, mL1, mL2, mL3, mL4, cIn, nI_clamp, nI_add, cMul, cSub, cM1, nar0, nar1, true_implies, false_implies, not_true_eq_false, not_false_eq_true, true_and, and_true, state_t]
    · simp (disch := omega) only [↓mI_e, litI, cLeT, cLeF, cLtT, cLtF, cEqF, cEqT, mE1, mE2, mL1, mL2, mL3, mL4, cIn, nI_clamp, nI_add, cMul, cSub, cM1, nar0, nar1, true_implies, false_implies, not_true_eq_false, not_false_eq_true, true_and, and_true, state_t]
  · simp (disch := omega) only [↓mI_e, litI, cLeT, cLeF, cLtT, cLtF, cEqF, cEqT, mE1, mE2, mL1, mL2, mL3, mL4, cIn, nI_clamp, nI_add, cMul, cSub, cM1, nar0, nar1, true_implies, false_implies, not_true_eq_false, not_false_eq_true, true_and, and_true, state_t]
theorem s_eStand_bad {Q : Int32 → Prop} (hT : tTe T te) (g : eBad T a1 a2 a3 a4) : p_Au_canStand a1 a2 a3 a4 te Q ↔ Q 0 := by
  unfold p_Au_canStand p_Au_canStand_38 p_Au_canStand_57
  rcases g with g | ⟨s, hs, rfl, g⟩ | ⟨s, to, hs, hto, rfl, rfl, h1, g⟩ | ⟨s, to, p, hs, hto, hp, rfl, rfl, rfl, h1, g⟩
  · rw [symb_f g]
    simp (disch := omega) only [↓mI_e, litI, cLeT, cLeF, cLtT, cLtF, cEqF, cEqT, mE1, mE2, mL1, mL2, mL3, mL4, cIn, nI_clamp, nI_add, cMul, cSub, cM1, nar0, nar1, true_implies, false_implies, not_true_eq_false, not_false_eq_true, true_and, and_true]
  · simp (disch := omega) only [↓mI_e, litI, cLeT, cLeF, cLtT, cLtF, cEqF, cEqT, mE1, mE2, mL1, mL2, mL3, mL4, cIn, nI_clamp, nI_add, cMul, cSub, cM1, nar0, nar1, true_implies, false_implies, not_true_eq_false, not_false_eq_true, true_and, and_true, symb_t]
    rw [state_f g]
    simp (disch := omega) only [↓mI_e, litI, cLeT, cLeF, cLtT, cLtF, cEqF, cEqT, mE1, mE2, mL1, mL2, mL3, mL4, cIn, nI_clamp, nI_add, cMul, cSub, cM1, nar0, nar1, true_implies, false_implies, not_true_eq_false, not_false_eq_true, true_and, and_true]
  · have hp2 := hT.1.2.1 s
    simp (disch := omega) only [↓mI_e, litI, cLeT, cLeF, cLtT, cLtF, cEqF, cEqT, mE1, mE2, mL1, mL2, mL3, mL4, cIn, nI_clamp, nI_add, cMul, cSub, cM1, nar0, nar1, true_implies, false_implies, not_true_eq_false, not_false_eq_true, true_and, and_true, symb_t, state_t, places_t hT]
    rw [state_f g]
    simp (disch := omega) only [↓mI_e, litI, cLeT, cLeF, cLtT, cLtF, cEqF, cEqT, mE1, mE2, mL1, mL2, mL3, mL4, cIn, nI_clamp, nI_add, cMul, cSub, cM1, nar0, nar1, true_implies, false_implies, not_true_eq_false, not_false_eq_true, true_and, and_true]
  · have hp2 := hT.1.2.1 s
    simp (disch := omega) only [↓mI_e, litI, cLeT, cLeF, cLtT, cLtF, cEqF, cEqT, mE1, mE2, mL1, mL2, mL3, mL4, cIn, nI_clamp, nI_add, cMul, cSub, cM1, nar0, nar1, true_implies, false_implies, not_true_eq_false, not_false_eq_true, true_and, and_true, symb_t, state_t, places_t hT]
    rw [state_f g]
    simp (disch := omega) only [↓mI_e, litI, cLeT, cLeF, cLtT, cLtF, cEqF, cEqT, mE1, mE2, mL1, mL2, mL3, mL4, cIn, nI_clamp, nI_add, cMul, cSub, cM1, nar0, nar1, true_implies, false_implies, not_true_eq_false, not_false_eq_true, true_and, and_true]
theorem s_eHolds {Q : Int32 → Prop} (hT : tTe T te) (ho : aOk T A) (ha : aAu A F au) (g : eGd T a1 a2 a3 a4 s p q to) (h1 : (∃ e, isA A s p q to e) → Q (nI 1)) (h0 : (∀ e, ¬ isA A s p q to e) → Q (nI 0)) : p_Au_holds a1 a2 a3 a4 te au Q := by
  obtain ⟨rfl, rfl, hs, hto, hp, hq, gp, gq, g2, g3⟩ := g
  have hp2 := hT.1.2.1 s
  have h20 := ho.1
  obtain ⟨c0, c1, c2, c3, c4, -⟩ := ha
  unfold p_Au_holds
  refine forN (fun f i (_ : Unit) => p_Au_holds_3 (nI s) a2 a3 (nI to) te au Q f i) (fun i _ => ∀ e, e < i → ¬ isA A s p q to e) (an A) 0 () (by omega) (fun e he => by omega) ?_ ?_
  · intro m _ hno
    unfold p_Au_holds_3
    rw [c0]
    simp (disch := omega) only [↓mI_e, litI, cLeT, cLeF, cLtT, cLtF, cEqF, cEqT, mE1, mE2, mL1, mL2, mL3, mL4, cIn, nI_clamp, nI_add, cMul, cSub, cM1, nar0, nar1, true_implies, false_implies, not_true_eq_false, not_false_eq_true, true_and, and_true]
    exact h0 (fun e i => hno e i.1 i)
  · intro m i _ hi hno ih
    have oi := ho.2 i hi
    unfold p_Au_holds_3 p_Au_holds_58
    rw [c0]
    simp (disch := omega) only [↓mI_e, litI, cLeT, cLeF, cLtT, cLtF, cEqF, cEqT, mE1, mE2, mL1, mL2, mL3, mL4, cIn, nI_clamp, nI_add, cMul, cSub, cM1, nar0, nar1, true_implies, false_implies, not_true_eq_false, not_false_eq_true, true_and, and_true]
    rw [c1 i hi, c2 i hi, c3 i hi, c4 i hi]
    simp (disch := omega) only [↓mI_e, litI, cLeT, cLeF, cLtT, cLtF, cEqF, cEqT, mE1, mE2, mL1, mL2, mL3, mL4, cIn, nI_clamp, nI_add, cMul, cSub, cM1, nar0, nar1, true_implies, false_implies, not_true_eq_false, not_false_eq_true, true_and, and_true, places_t hT]
    have nx : ¬ isA A s p q to i → p_Au_holds_3 (nI s) a2 a3 (nI to) te au Q m (nI (i + 1)) := fun hn => ih () (fun e he => by
      by_cases e9 : e = i
      · exact e9 ▸ hn
      · exact hno e (by omega))
    have nx := fun hn => nx hn
    by_cases e1 : as' A i = s
    · by_cases e4 : at' A i = to
      · rw [e1] at oi
        by_cases t1 : 1 ≤ tp T s
        · rw [g2 t1] at nx ⊢
          by_cases e2 : a1' A i = p
          · by_cases t2 : 2 ≤ tp T s
            · rw [g3 t2] at nx ⊢
              by_cases e3 : a2' A i = q
              · simp (disch := omega) only [↓mI_e, litI, cLeT, cLeF, cLtT, cLtF, cEqF, cEqT, mE1, mE2, mL1, mL2, mL3, mL4, cIn, nI_clamp, nI_add, cMul, cSub, cM1, nar0, nar1, true_implies, false_implies, not_true_eq_false, not_false_eq_true, true_and, and_true]
                exact h1 ⟨i, hi, e1, e2, e3, e4⟩
              · simp (disch := omega) only [↓mI_e, litI, cLeT, cLeF, cLtT, cLtF, cEqF, cEqT, mE1, mE2, mL1, mL2, mL3, mL4, cIn, nI_clamp, nI_add, cMul, cSub, cM1, nar0, nar1, true_implies, false_implies, not_true_eq_false, not_false_eq_true, true_and, and_true]
                exact nx (fun k => e3 k.2.2.2.1)
            · simp (disch := omega) only [↓mI_e, litI, cLeT, cLeF, cLtT, cLtF, cEqF, cEqT, mE1, mE2, mL1, mL2, mL3, mL4, cIn, nI_clamp, nI_add, cMul, cSub, cM1, nar0, nar1, true_implies, false_implies, not_true_eq_false, not_false_eq_true, true_and, and_true]
              exact h1 ⟨i, hi, e1, e2, by omega, e4⟩
          · simp (disch := omega) only [↓mI_e, litI, cLeT, cLeF, cLtT, cLtF, cEqF, cEqT, mE1, mE2, mL1, mL2, mL3, mL4, cIn, nI_clamp, nI_add, cMul, cSub, cM1, nar0, nar1, true_implies, false_implies, not_true_eq_false, not_false_eq_true, true_and, and_true]
            exact nx (fun k => e2 k.2.2.1)
        · simp (disch := omega) only [↓mI_e, litI, cLeT, cLeF, cLtT, cLtF, cEqF, cEqT, mE1, mE2, mL1, mL2, mL3, mL4, cIn, nI_clamp, nI_add, cMul, cSub, cM1, nar0, nar1, true_implies, false_implies, not_true_eq_false, not_false_eq_true, true_and, and_true]
          exact h1 ⟨i, hi, e1, by omega, by omega, e4⟩
      · simp (disch := omega) only [↓mI_e, litI, cLeT, cLeF, cLtT, cLtF, cEqF, cEqT, mE1, mE2, mL1, mL2, mL3, mL4, cIn, nI_clamp, nI_add, cMul, cSub, cM1, nar0, nar1, true_implies, false_implies, not_true_eq_false, not_false_eq_true, true_and, and_true]
        exact nx (fun k => e4 k.2.2.2.2)
    · simp (disch := omega) only [↓mI_e, litI, cLeT, cLeF, cLtT, cLtF, cEqF, cEqT, mE1, mE2, mL1, mL2, mL3, mL4, cIn, nI_clamp, nI_add, cMul, cSub, cM1, nar0, nar1, true_implies, false_implies, not_true_eq_false, not_false_eq_true, true_and, and_true]
      exact nx (fun k => e1 k.2.1)
theorem aOk_add (ho : aOk T A) (hn : an A < 20) (g : eGd T a1 a2 a3 a4 s p q to) : aOk T (aAdd A s p q to) := by
  obtain ⟨rfl, rfl, hs, hto, hp, hq, gp, gq, g2, g3⟩ := g
  refine ⟨by show an A + 1 ≤ 20; omega, fun e he => ?_⟩
  have he : e < an A + 1 := he
  show (if e = an A then s else as' A e) < 6 ∧ (if e = an A then p else a1' A e) < 6 ∧ (if e = an A then q else a2' A e) < 6 ∧ (if e = an A then to else at' A e) < 6 ∧ (tp T (if e = an A then s else as' A e) < 1 → (if e = an A then p else a1' A e) = 0) ∧ (tp T (if e = an A then s else as' A e) < 2 → (if e = an A then q else a2' A e) = 0)
  by_cases e9 : e = an A
  · simp only [if_pos e9]
    exact ⟨hs, hp, hq, hto, gp, gq⟩
  · simp only [if_neg e9]
    exact ho.2 e (by omega)
theorem s_eAppend {Q : Int32 → Au → Prop} (hT : tTe T te) (ho : aOk T A) (ha : aAu A F au) (g : eGd T a1 a2 a3 a4 s p q to) (h20 : an A = 20 → Q (nI 0) au) (h19 : an A < 20 → ∀ au', aAu (aAdd A s p q to) F au' → Q (nI 1) au') : p_Au_append a1 a2 a3 a4 te au Q := by
  obtain ⟨rfl, rfl, hs, hto, hp, hq, gp, gq, g2, g3⟩ := g
  have hp2 := hT.1.2.1 s
  have hn := ho.1
  obtain ⟨c0, c1, c2, c3, c4, c5⟩ := ha
  obtain ⟨sy, f1, f2, tg, w, c, fi⟩ := au
  dsimp only [Au_symbol, Au_first, Au_second, Au_target, Au_count, Au_finals] at c0 c1 c2 c3 c4 c5
  subst c0 c5
  unfold p_Au_append
  by_cases h : an A = 20
  · dsimp only [Au_count]
    simp (disch := omega) only [↓mI_e, litI, cLeT, cLeF, cLtT, cLtF, cEqF, cEqT, mE1, mE2, mL1, mL2, mL3, mL4, cIn, nI_clamp, nI_add, cMul, cSub, cM1, nar0, nar1, true_implies, false_implies, not_true_eq_false, not_false_eq_true, true_and, and_true]
    exact h20 h
  · have hn : an A < 20 := by omega
    have fin : Q (nI 1) (upd sy (an A) (nI s), upd f1 (an A) (nI p), upd f2 (an A) (nI q), upd tg (an A) (nI to), w, nI (an A + 1), nI F) := by
      refine h19 hn _ ⟨rfl, fun e he => ?_, fun e he => ?_, fun e he => ?_, fun e he => ?_, rfl⟩
      · have he : e < an A + 1 := he
        show upd sy (an A) (nI s) e = nI (if e = an A then s else as' A e)
        by_cases e9 : e = an A
        · rw [if_pos e9]; exact upd_s e9
        · rw [if_neg e9, upd_n e9]; exact c1 e (by omega)
      · have he : e < an A + 1 := he
        show upd f1 (an A) (nI p) e = nI (if e = an A then p else a1' A e)
        by_cases e9 : e = an A
        · rw [if_pos e9]; exact upd_s e9
        · rw [if_neg e9, upd_n e9]; exact c2 e (by omega)
      · have he : e < an A + 1 := he
        show upd f2 (an A) (nI q) e = nI (if e = an A then q else a2' A e)
        by_cases e9 : e = an A
        · rw [if_pos e9]; exact upd_s e9
        · rw [if_neg e9, upd_n e9]; exact c3 e (by omega)
      · have he : e < an A + 1 := he
        show upd tg (an A) (nI to) e = nI (if e = an A then to else at' A e)
        by_cases e9 : e = an A
        · rw [if_pos e9]; exact upd_s e9
        · rw [if_neg e9, upd_n e9]; exact c4 e (by omega)
    have k72 : p_Au_append_72 (nI s) a2 a3 (nI to) te Q (nI q) (nI (an A)) (upd sy (an A) (nI s), upd f1 (an A) (nI p), f2, tg, w, nI (an A), nI F) := by
      unfold p_Au_append_72
      dsimp only [Au_symbol, Au_first, Au_second, Au_target, Au_count, Au_finals, Au_symbol_s, Au_first_s, Au_second_s, Au_target_s, Au_count_s]
      simp (disch := omega) only [↓mI_e, litI, cLeT, cLeF, cLtT, cLtF, cEqF, cEqT, mE1, mE2, mL1, mL2, mL3, mL4, cIn, nI_clamp, nI_add, cMul, cSub, cM1, nar0, nar1, true_implies, false_implies, not_true_eq_false, not_false_eq_true, true_and, and_true, forall_eq]
      exact fin
    have k46 : p_Au_append_46 (nI s) a2 a3 (nI to) te Q (nI p) (nI (an A)) (upd sy (an A) (nI s), f1, f2, tg, w, nI (an A), nI F) := by
      unfold p_Au_append_46
      dsimp only [Au_symbol, Au_first, Au_second, Au_target, Au_count, Au_finals, Au_symbol_s, Au_first_s, Au_second_s, Au_target_s, Au_count_s]
      simp (disch := omega) only [↓mI_e, litI, cLeT, cLeF, cLtT, cLtF, cEqF, cEqT, mE1, mE2, mL1, mL2, mL3, mL4, cIn, nI_clamp, nI_add, cMul, cSub, cM1, nar0, nar1, true_implies, false_implies, not_true_eq_false, not_false_eq_true, true_and, and_true, forall_eq, places_t hT]
      by_cases h2 : 2 ≤ tp T s
      · rw [← g3 h2] at k72
        simp (disch := omega) only [↓mI_e, litI, cLeT, cLeF, cLtT, cLtF, cEqF, cEqT, mE1, mE2, mL1, mL2, mL3, mL4, cIn, nI_clamp, nI_add, cMul, cSub, cM1, nar0, nar1, true_implies, false_implies, not_true_eq_false, not_false_eq_true, true_and, and_true]
        exact k72
      · rw [gq (by omega)] at k72
        simp (disch := omega) only [↓mI_e, litI, cLeT, cLeF, cLtT, cLtF, cEqF, cEqT, mE1, mE2, mL1, mL2, mL3, mL4, cIn, nI_clamp, nI_add, cMul, cSub, cM1, nar0, nar1, true_implies, false_implies, not_true_eq_false, not_false_eq_true, true_and, and_true]
        exact k72
    dsimp only [Au_symbol, Au_first, Au_second, Au_target, Au_count, Au_finals, Au_symbol_s, Au_first_s, Au_second_s, Au_target_s, Au_count_s]
    simp (disch := omega) only [↓mI_e, litI, cLeT, cLeF, cLtT, cLtF, cEqF, cEqT, mE1, mE2, mL1, mL2, mL3, mL4, cIn, nI_clamp, nI_add, cMul, cSub, cM1, nar0, nar1, true_implies, false_implies, not_true_eq_false, not_false_eq_true, true_and, and_true, forall_eq, places_t hT]
    by_cases h1 : 1 ≤ tp T s
    · rw [← g2 h1] at k46
      simp (disch := omega) only [↓mI_e, litI, cLeT, cLeF, cLtT, cLtF, cEqF, cEqT, mE1, mE2, mL1, mL2, mL3, mL4, cIn, nI_clamp, nI_add, cMul, cSub, cM1, nar0, nar1, true_implies, false_implies, not_true_eq_false, not_false_eq_true, true_and, and_true]
      exact k46
    · rw [gp (by omega)] at k46
      simp (disch := omega) only [↓mI_e, litI, cLeT, cLeF, cLtT, cLtF, cEqF, cEqT, mE1, mE2, mL1, mL2, mL3, mL4, cIn, nI_clamp, nI_add, cMul, cSub, cM1, nar0, nar1, true_implies, false_implies, not_true_eq_false, not_false_eq_true, true_and, and_true]
      exact k46
theorem pc_iff {k q a b : Nat} (ha : a < 2 ^ 31) (hb : b < 2 ^ 31) (h1 : q < k → a = 0) (h2 : q < k → b = 0) : (pc k q a = pc k q b) ↔ a = b := by
  constructor
  · intro e
    by_cases h : q < k
    · rw [h1 h, h2 h]
    · exact pc_inj ha hb (by omega) e
  · intro e; rw [e]
theorem s_edgeM {Q : Int32 → Mo → Prop} (hM : tMo T mo) (ho : aOk T A) (ha : aMo T A F mo) (g : eGd T a1 a2 a3 a4 s p q to) (h0 : (∃ e, isA A s p q to e) → ∀ mo', mKp mo mo' → Mo_thrown mo' = nI 0 → Q (nI 0) mo') (h20 : (∀ e, ¬ isA A s p q to e) → an A = 20 → ∀ mo', mKp mo mo' → Mo_thrown mo' = nI 2 → Q (nI 0) mo') (h19 : (∀ e, ¬ isA A s p q to e) → an A < 20 → ∀ mo', aMo T (aAdd A s p q to) F mo' → Mo_thrown mo' = nI 0 → (tMo T mo' ∧ ∀ R, rMo R mo → rMo R mo') → Q (nI 1) mo') : p_Mo_edge a1 a2 a3 a4 mo Q := by
  obtain ⟨rfl, rfl, hs, hto, hp, hq, gp, gq, g2, g3⟩ := g
  have hp2 := hM.1.2.1 s
  have hn := ho.1
  -- the end: all transitions have been looked at
  have k215 : (∀ e, ¬ isA A s p q to e) → an A < 20 → ∀ m, mKp mo m → Mo_thrown m = nI 0 → p_Mo_edge_215 (nI s) a2 a3 (nI to) Q (pc 1 (tp T s) p) (pc 2 (tp T s) q) (nI 0) m := by
    intro no hlt m km et
    have hm := hM.kp km
    obtain ⟨d0, d1, d2, d3, d4, d5⟩ := ha.kp km
    unfold p_Mo_edge_215
    refine nm_e ?_
    simp (disch := omega) only [↓mI_e, litI, cLeT, cLeF, cLtT, cLtF, cEqF, cEqT, mE1, mE2, mL1, mL2, mL3, mL4, cIn, nI_clamp, nI_add, cMul, cSub, cM1, nar0, nar1, true_implies, false_implies, not_true_eq_false, not_false_eq_true, true_and, and_true, thr_s]
    have ee : ∀ f, Mo_edges (Mo_edge_s (Mo_thrown_s m (nI 0)) f) = nI (an A) := fun f => d0
    rw [show Mo_edges (Mo_thrown_s m (nI 0)) = nI (an A) from d0]
    simp (disch := omega) only [↓mI_e, litI, cLeT, cLeF, cLtT, cLtF, cEqF, cEqT, mE1, mE2, mL1, mL2, mL3, mL4, cIn, nI_clamp, nI_add, cMul, cSub, cM1, nar0, nar1, true_implies, false_implies, not_true_eq_false, not_false_eq_true, true_and, and_true]
    refine nm_e ?_
    rw [ee]
    simp (disch := omega) only [↓mI_e, litI, cLeT, cLeF, cLtT, cLtF, cEqF, cEqT, mE1, mE2, mL1, mL2, mL3, mL4, cIn, nI_clamp, nI_add, cMul, cSub, cM1, nar0, nar1, true_implies, false_implies, not_true_eq_false, not_false_eq_true, true_and, and_true]
    refine nm_e ?_
    have ee2 : ∀ f g, Mo_edges (Mo_edge_s (Mo_edge_s (Mo_thrown_s m (nI 0)) f) g) = nI (an A) := fun f g => d0
    rw [ee2]
    simp (disch := omega) only [↓mI_e, litI, cLeT, cLeF, cLtT, cLtF, cEqF, cEqT, mE1, mE2, mL1, mL2, mL3, mL4, cIn, nI_clamp, nI_add, cMul, cSub, cM1, nar0, nar1, true_implies, false_implies, not_true_eq_false, not_false_eq_true, true_and, and_true]
    refine nm_e ?_
    have ee3 : ∀ f g h, Mo_edges (Mo_edge_s (Mo_edge_s (Mo_edge_s (Mo_thrown_s m (nI 0)) f) g) h) = nI (an A) := fun f g h => d0
    rw [ee3]
    simp (disch := omega) only [↓mI_e, litI, cLeT, cLeF, cLtT, cLtF, cEqF, cEqT, mE1, mE2, mL1, mL2, mL3, mL4, cIn, nI_clamp, nI_add, cMul, cSub, cM1, nar0, nar1, true_implies, false_implies, not_true_eq_false, not_false_eq_true, true_and, and_true]
    refine nm_e ?_
    have ee4 : ∀ f g h i, Mo_edges (Mo_edge_s (Mo_edge_s (Mo_edge_s (Mo_edge_s (Mo_thrown_s m (nI 0)) f) g) h) i) = nI (an A) := fun f g h i => d0
    rw [ee4]
    simp (disch := omega) only [↓mI_e, litI, cLeT, cLeF, cLtT, cLtF, cEqF, cEqT, mE1, mE2, mL1, mL2, mL3, mL4, cIn, nI_clamp, nI_add, cMul, cSub, cM1, nar0, nar1, true_implies, false_implies, not_true_eq_false, not_false_eq_true, true_and, and_true]
    refine nm_e ?_
    refine h19 no hlt _ ⟨rfl, fun e he => ?_, fun e he => ?_, fun e he => ?_, fun e he => ?_, d5⟩ rfl ⟨hm, fun R' hR => (show rMo R' m from hR.kp km)⟩
    · have he : e < an A + 1 := he
      show upd (upd (upd (upd (Mo_edge m) (4 * an A) (nI s)) (4 * an A + 1) (pc 1 (tp T s) p)) (4 * an A + 2) (pc 2 (tp T s) q)) (4 * an A + 3) (nI to) (4 * e) = nI (if e = an A then s else as' A e)
      rw [upd_n (by omega), upd_n (by omega), upd_n (by omega)]
      by_cases e9 : e = an A
      · rw [if_pos e9]; exact upd_s (by omega)
      · rw [if_neg e9, upd_n (by omega)]; exact d1 e (by omega)
    · have he : e < an A + 1 := he
      show upd (upd (upd (upd (Mo_edge m) (4 * an A) (nI s)) (4 * an A + 1) (pc 1 (tp T s) p)) (4 * an A + 2) (pc 2 (tp T s) q)) (4 * an A + 3) (nI to) (4 * e + 1) = pc 1 (tp T (if e = an A then s else as' A e)) (if e = an A then p else a1' A e)
      rw [upd_n (by omega), upd_n (by omega)]
      by_cases e9 : e = an A
      · rw [if_pos e9, if_pos e9]; exact upd_s (by omega)
      · rw [if_neg e9, if_neg e9, upd_n (by omega), upd_n (by omega)]; exact d2 e (by omega)
    · have he : e < an A + 1 := he
      show upd (upd (upd (upd (Mo_edge m) (4 * an A) (nI s)) (4 * an A + 1) (pc 1 (tp T s) p)) (4 * an A + 2) (pc 2 (tp T s) q)) (4 * an A + 3) (nI to) (4 * e + 2) = pc 2 (tp T (if e = an A then s else as' A e)) (if e = an A then q else a2' A e)
      rw [upd_n (by omega)]
      by_cases e9 : e = an A
      · rw [if_pos e9, if_pos e9]; exact upd_s (by omega)
      · rw [if_neg e9, if_neg e9, upd_n (by omega), upd_n (by omega), upd_n (by omega)]; exact d3 e (by omega)
    · have he : e < an A + 1 := he
      show upd (upd (upd (upd (Mo_edge m) (4 * an A) (nI s)) (4 * an A + 1) (pc 1 (tp T s) p)) (4 * an A + 2) (pc 2 (tp T s) q)) (4 * an A + 3) (nI to) (4 * e + 3) = nI (if e = an A then to else at' A e)
      by_cases e9 : e = an A
      · rw [if_pos e9]; exact upd_s (by omega)
      · rw [if_neg e9, upd_n (by omega), upd_n (by omega), upd_n (by omega), upd_n (by omega)]; exact d4 e (by omega)
  have k122 : ∀ m, mKp mo m → Mo_thrown m = nI 0 → ∃ f, p_Mo_edge_122 (nI s) a2 a3 (nI to) Q f (pc 1 (tp T s) p) (pc 2 (tp T s) q) (0 : Int32) m := by
    intro m km et
    obtain ⟨d0, d1, d2, d3, d4, d5⟩ := ha.kp km
    refine forN (fun f i (_ : Unit) => p_Mo_edge_122 (nI s) a2 a3 (nI to) Q f (pc 1 (tp T s) p) (pc 2 (tp T s) q) i m) (fun i _ => ∀ e, e < i → ¬ isA A s p q to e) (an A) 0 () (by omega) (fun e he => by omega) ?_ ?_
    · intro n _ hno
      have no : ∀ e, ¬ isA A s p q to e := fun e i => hno e i.1 i
      unfold p_Mo_edge_122
      rw [d0]
      by_cases h9 : an A = 20
      · simp (disch := omega) only [↓mI_e, litI, cLeT, cLeF, cLtT, cLtF, cEqF, cEqT, mE1, mE2, mL1, mL2, mL3, mL4, cIn, nI_clamp, nI_add, cMul, cSub, cM1, nar0, nar1, true_implies, false_implies, not_true_eq_false, not_false_eq_true, true_and, and_true]
        unfold p_Mo_edge_215
        refine nm_e ?_
        simp (disch := omega) only [↓mI_e, litI, cLeT, cLeF, cLtT, cLtF, cEqF, cEqT, mE1, mE2, mL1, mL2, mL3, mL4, cIn, nI_clamp, nI_add, cMul, cSub, cM1, nar0, nar1, true_implies, false_implies, not_true_eq_false, not_false_eq_true, true_and, and_true, thr_s]
        exact h20 no h9 _ (thr_kk km _) rfl
      · simp (disch := omega) only [↓mI_e, litI, cLeT, cLeF, cLtT, cLtF, cEqF, cEqT, mE1, mE2, mL1, mL2, mL3, mL4, cIn, nI_clamp, nI_add, cMul, cSub, cM1, nar0, nar1, true_implies, false_implies, not_true_eq_false, not_false_eq_true, true_and, and_true]
        exact k215 no (by omega) m km et
    · intro n i _ hi hno ih
      have oi := ho.2 i hi
      unfold p_Mo_edge_122
      rw [d0]
      simp (disch := omega) only [↓mI_e, litI, cLeT, cLeF, cLtT, cLtF, cEqF, cEqT, mE1, mE2, mL1, mL2, mL3, mL4, cIn, nI_clamp, nI_add, cMul, cSub, cM1, nar0, nar1, true_implies, false_implies, not_true_eq_false, not_false_eq_true, true_and, and_true]
      rw [d1 i hi, d2 i hi, d3 i hi, d4 i hi]
      have nx : ¬ isA A s p q to i → p_Mo_edge_122 (nI s) a2 a3 (nI to) Q n (pc 1 (tp T s) p) (pc 2 (tp T s) q) (nI (i + 1)) m := fun hn => ih () (fun e he => by
        by_cases e9 : e = i
        · exact e9 ▸ hn
        · exact hno e (by omega))
      by_cases e1 : as' A i = s
      · rw [e1] at oi ⊢
        rw [pc_iff (k := 1) (by omega) (by omega) oi.2.2.2.2.1 gp, pc_iff (k := 2) (by omega) (by omega) oi.2.2.2.2.2 gq]
        by_cases e2 : a1' A i = p
        · by_cases e3 : a2' A i = q
          · by_cases e4 : at' A i = to
            · simp (disch := omega) only [↓mI_e, litI, cLeT, cLeF, cLtT, cLtF, cEqF, cEqT, mE1, mE2, mL1, mL2, mL3, mL4, cIn, nI_clamp, nI_add, cMul, cSub, cM1, nar0, nar1, true_implies, false_implies, not_true_eq_false, not_false_eq_true, true_and, and_true, e2, e3]
              exact h0 ⟨i, hi, e1, e2, e3, e4⟩ m km et
            · simp (disch := omega) only [↓mI_e, litI, cLeT, cLeF, cLtT, cLtF, cEqF, cEqT, mE1, mE2, mL1, mL2, mL3, mL4, cIn, nI_clamp, nI_add, cMul, cSub, cM1, nar0, nar1, true_implies, false_implies, not_true_eq_false, not_false_eq_true, true_and, and_true, e2, e3]
              exact nx (fun k => e4 k.2.2.2.2)
          · simp (disch := omega) only [↓mI_e, litI, cLeT, cLeF, cLtT, cLtF, cEqF, cEqT, mE1, mE2, mL1, mL2, mL3, mL4, cIn, nI_clamp, nI_add, cMul, cSub, cM1, nar0, nar1, true_implies, false_implies, not_true_eq_false, not_false_eq_true, true_and, and_true, e2, e3]
            exact nx (fun k => e3 k.2.2.2.1)
        · simp (disch := omega) only [↓mI_e, litI, cLeT, cLeF, cLtT, cLtF, cEqF, cEqT, mE1, mE2, mL1, mL2, mL3, mL4, cIn, nI_clamp, nI_add, cMul, cSub, cM1, nar0, nar1, true_implies, false_implies, not_true_eq_false, not_false_eq_true, true_and, and_true, e2]
          exact nx (fun k => e2 k.2.2.1)
      · simp (disch := omega) only [↓mI_e, litI, cLeT, cLeF, cLtT, cLtF, cEqF, cEqT, mE1, mE2, mL1, mL2, mL3, mL4, cIn, nI_clamp, nI_add, cMul, cSub, cM1, nar0, nar1, true_implies, false_implies, not_true_eq_false, not_false_eq_true, true_and, and_true]
        exact nx (fun k => e1 k.2.1)
  have k100 : ∀ m, mKp mo m → Mo_thrown m = nI 0 → p_Mo_edge_100 (nI s) a2 a3 (nI to) Q (pc 1 (tp T s) p) m := by
    intro m km et
    have k := k122 m km et
    unfold p_Mo_edge_100
    rw [nI_clamp (by omega), (hM.kp km).2.2.2.1 s hs]
    by_cases h : 2 ≤ tp T s
    · rw [pc_n (k := 2) h, ← g3 h] at k
      simp (disch := omega) only [↓mI_e, litI, cLeT, cLeF, cLtT, cLtF, cEqF, cEqT, mE1, mE2, mL1, mL2, mL3, mL4, cIn, nI_clamp, nI_add, cMul, cSub, cM1, nar0, nar1, true_implies, false_implies, not_true_eq_false, not_false_eq_true, true_and, and_true]
      exact k
    · rw [pc_m (k := 2) (by omega)] at k
      simp (disch := omega) only [↓mI_e, litI, cLeT, cLeF, cLtT, cLtF, cEqF, cEqT, mE1, mE2, mL1, mL2, mL3, mL4, cIn, nI_clamp, nI_add, cMul, cSub, cM1, nar0, nar1, true_implies, false_implies, not_true_eq_false, not_false_eq_true, true_and, and_true]
      exact k
  have k73 : ∀ m, mKp mo m → p_Mo_edge_73 (nI s) a2 a3 (nI to) Q m := by
    intro m km
    unfold p_Mo_edge_73 p_Mo_edge_74
    refine nm_e ?_
    have k := k100 (Mo_thrown_s m 0) (thr_kk km _) rfl
    simp (disch := omega) only [↓mI_e, litI, cLeT, cLeF, cLtT, cLtF, cEqF, cEqT, mE1, mE2, mL1, mL2, mL3, mL4, cIn, nI_clamp, nI_add, cMul, cSub, cM1, nar0, nar1, true_implies, false_implies, not_true_eq_false, not_false_eq_true, true_and, and_true, thr_s]
    rw [(hM.kp (thr_kk km _)).2.2.2.1 s hs]
    by_cases h : 1 ≤ tp T s
    · rw [pc_n h, ← g2 h] at k
      simp (disch := omega) only [↓mI_e, litI, cLeT, cLeF, cLtT, cLtF, cEqF, cEqT, mE1, mE2, mL1, mL2, mL3, mL4, cIn, nI_clamp, nI_add, cMul, cSub, cM1, nar0, nar1, true_implies, false_implies, not_true_eq_false, not_false_eq_true, true_and, and_true]
      exact k
    · rw [pc_m (by omega)] at k
      simp (disch := omega) only [↓mI_e, litI, cLeT, cLeF, cLtT, cLtF, cEqF, cEqT, mE1, mE2, mL1, mL2, mL3, mL4, cIn, nI_clamp, nI_add, cMul, cSub, cM1, nar0, nar1, true_implies, false_implies, not_true_eq_false, not_false_eq_true, true_and, and_true]
      exact k
  have k52 : ∀ m, mKp mo m → p_Mo_edge_52 (nI s) a2 a3 (nI to) Q m := by
    intro m km
    have k := k73 m km
    unfold p_Mo_edge_52
    rw [nI_clamp (by omega), (hM.kp km).2.2.2.1 s hs]
    by_cases h : 2 ≤ tp T s
    · rw [g3 h] at k ⊢
      simp (disch := omega) only [↓mI_e, litI, cLeT, cLeF, cLtT, cLtF, cEqF, cEqT, mE1, mE2, mL1, mL2, mL3, mL4, cIn, nI_clamp, nI_add, cMul, cSub, cM1, nar0, nar1, true_implies, false_implies, not_true_eq_false, not_false_eq_true, true_and, and_true, stateM_t]
      exact k
    · simp (disch := omega) only [↓mI_e, litI, cLeT, cLeF, cLtT, cLtF, cEqF, cEqT, mE1, mE2, mL1, mL2, mL3, mL4, cIn, nI_clamp, nI_add, cMul, cSub, cM1, nar0, nar1, true_implies, false_implies, not_true_eq_false, not_false_eq_true, true_and, and_true]
      exact k
  unfold p_Mo_edge
  simp (disch := omega) only [↓mI_e, litI, cLeT, cLeF, cLtT, cLtF, cEqF, cEqT, mE1, mE2, mL1, mL2, mL3, mL4, cIn, nI_clamp, nI_add, cMul, cSub, cM1, nar0, nar1, true_implies, false_implies, not_true_eq_false, not_false_eq_true, true_and, and_true, stateM_t]
  unfold p_Mo_edge_23
  refine nm_e ?_
  have k := k52 _ (thr_k mo (nI 0))
  simp (disch := omega) only [↓mI_e, litI, cLeT, cLeF, cLtT, cLtF, cEqF, cEqT, mE1, mE2, mL1, mL2, mL3, mL4, cIn, nI_clamp, nI_add, cMul, cSub, cM1, nar0, nar1, true_implies, false_implies, not_true_eq_false, not_false_eq_true, true_and, and_true, thr_s]
  rw [(hM.kp (thr_k mo (nI 0))).2.2.2.1 s hs]
  by_cases h : 1 ≤ tp T s
  · rw [g2 h] at k ⊢
    simp (disch := omega) only [↓mI_e, litI, cLeT, cLeF, cLtT, cLtF, cEqF, cEqT, mE1, mE2, mL1, mL2, mL3, mL4, cIn, nI_clamp, nI_add, cMul, cSub, cM1, nar0, nar1, true_implies, false_implies, not_true_eq_false, not_false_eq_true, true_and, and_true, stateM_t]
    exact k
  · simp (disch := omega) only [↓mI_e, litI, cLeT, cLeF, cLtT, cLtF, cEqF, cEqT, mE1, mE2, mL1, mL2, mL3, mL4, cIn, nI_clamp, nI_add, cMul, cSub, cM1, nar0, nar1, true_implies, false_implies, not_true_eq_false, not_false_eq_true, true_and, and_true]
    exact k
theorem s_edgeM_bad {Q : Int32 → Mo → Prop} (hM : tMo T mo) (g : eBad T a1 a2 a3 a4) (h : ∀ mo', mKp mo mo' → Mo_thrown mo' = nI 1 → Q (nI 0) mo') : p_Mo_edge a1 a2 a3 a4 mo Q := by
  have hM0 := hM.kp (thr_k mo (nI 0))
  have k18 : p_Mo_edge_18 a1 a2 a3 a4 Q mo := by
    unfold p_Mo_edge_18 p_Mo_edge_23
    refine nm_e ?_
    simp (disch := omega) only [↓mI_e, litI, cLeT, cLeF, cLtT, cLtF, cEqF, cEqT, mE1, mE2, mL1, mL2, mL3, mL4, cIn, nI_clamp, nI_add, cMul, cSub, cM1, nar0, nar1, true_implies, false_implies, not_true_eq_false, not_false_eq_true, true_and, and_true, thr_s]
    exact h _ (thr_k mo _) rfl
  have k69 : ∀ m, mKp mo m → p_Mo_edge_69 a1 a2 a3 a4 Q m := by
    intro m km
    unfold p_Mo_edge_69 p_Mo_edge_74
    refine nm_e ?_
    simp (disch := omega) only [↓mI_e, litI, cLeT, cLeF, cLtT, cLtF, cEqF, cEqT, mE1, mE2, mL1, mL2, mL3, mL4, cIn, nI_clamp, nI_add, cMul, cSub, cM1, nar0, nar1, true_implies, false_implies, not_true_eq_false, not_false_eq_true, true_and, and_true, thr_s]
    exact h _ (thr_kk km _) rfl
  unfold p_Mo_edge
  rcases g with g | ⟨s, hs, rfl, g⟩ | ⟨s, to, hs, hto, rfl, rfl, h1, g⟩ | ⟨s, to, p, hs, hto, hp, rfl, rfl, rfl, h1, g⟩
  · refine ⟨fun _ => k18, fun g0 => ⟨fun _ => k18, fun g1 => ?_⟩⟩
    have g2 : a1 ≤ 5 := by
      rw [Int32.lt_iff_toInt_lt] at g1
      rw [Int32.le_iff_toInt_le]
      omega
    obtain ⟨j, hj, e⟩ := nI_of2 (M := 5) (n := 5) (by decide) g0 g2
    exact absurd e (g j (by omega))
  · simp (disch := omega) only [↓mI_e, litI, cLeT, cLeF, cLtT, cLtF, cEqF, cEqT, mE1, mE2, mL1, mL2, mL3, mL4, cIn, nI_clamp, nI_add, cMul, cSub, cM1, nar0, nar1, true_implies, false_implies, not_true_eq_false, not_false_eq_true, true_and, and_true]
    rw [stateM_f g]
    simp (disch := omega) only [↓mI_e, litI, cLeT, cLeF, cLtT, cLtF, cEqF, cEqT, mE1, mE2, mL1, mL2, mL3, mL4, cIn, nI_clamp, nI_add, cMul, cSub, cM1, nar0, nar1, true_implies, false_implies, not_true_eq_false, not_false_eq_true, true_and, and_true]
    exact k18
  · have hp2 := hM.1.2.1 s
    simp (disch := omega) only [↓mI_e, litI, cLeT, cLeF, cLtT, cLtF, cEqF, cEqT, mE1, mE2, mL1, mL2, mL3, mL4, cIn, nI_clamp, nI_add, cMul, cSub, cM1, nar0, nar1, true_implies, false_implies, not_true_eq_false, not_false_eq_true, true_and, and_true, stateM_t]
    unfold p_Mo_edge_23
    refine nm_e ?_
    simp (disch := omega) only [↓mI_e, litI, cLeT, cLeF, cLtT, cLtF, cEqF, cEqT, mE1, mE2, mL1, mL2, mL3, mL4, cIn, nI_clamp, nI_add, cMul, cSub, cM1, nar0, nar1, true_implies, false_implies, not_true_eq_false, not_false_eq_true, true_and, and_true, thr_s]
    rw [hM0.2.2.2.1 s hs]
    simp (disch := omega) only [↓mI_e, litI, cLeT, cLeF, cLtT, cLtF, cEqF, cEqT, mE1, mE2, mL1, mL2, mL3, mL4, cIn, nI_clamp, nI_add, cMul, cSub, cM1, nar0, nar1, true_implies, false_implies, not_true_eq_false, not_false_eq_true, true_and, and_true]
    rw [stateM_f g]
    simp (disch := omega) only [↓mI_e, litI, cLeT, cLeF, cLtT, cLtF, cEqF, cEqT, mE1, mE2, mL1, mL2, mL3, mL4, cIn, nI_clamp, nI_add, cMul, cSub, cM1, nar0, nar1, true_implies, false_implies, not_true_eq_false, not_false_eq_true, true_and, and_true]
    exact k69 _ (thr_k mo _)
  · have hp2 := hM.1.2.1 s
    simp (disch := omega) only [↓mI_e, litI, cLeT, cLeF, cLtT, cLtF, cEqF, cEqT, mE1, mE2, mL1, mL2, mL3, mL4, cIn, nI_clamp, nI_add, cMul, cSub, cM1, nar0, nar1, true_implies, false_implies, not_true_eq_false, not_false_eq_true, true_and, and_true, stateM_t]
    unfold p_Mo_edge_23
    refine nm_e ?_
    simp (disch := omega) only [↓mI_e, litI, cLeT, cLeF, cLtT, cLtF, cEqF, cEqT, mE1, mE2, mL1, mL2, mL3, mL4, cIn, nI_clamp, nI_add, cMul, cSub, cM1, nar0, nar1, true_implies, false_implies, not_true_eq_false, not_false_eq_true, true_and, and_true, thr_s]
    rw [hM0.2.2.2.1 s hs]
    simp (disch := omega) only [↓mI_e, litI, cLeT, cLeF, cLtT, cLtF, cEqF, cEqT, mE1, mE2, mL1, mL2, mL3, mL4, cIn, nI_clamp, nI_add, cMul, cSub, cM1, nar0, nar1, true_implies, false_implies, not_true_eq_false, not_false_eq_true, true_and, and_true, stateM_t]
    unfold p_Mo_edge_52
    rw [nI_clamp (by omega), hM0.2.2.2.1 s hs]
    simp (disch := omega) only [↓mI_e, litI, cLeT, cLeF, cLtT, cLtF, cEqF, cEqT, mE1, mE2, mL1, mL2, mL3, mL4, cIn, nI_clamp, nI_add, cMul, cSub, cM1, nar0, nar1, true_implies, false_implies, not_true_eq_false, not_false_eq_true, true_and, and_true]
    rw [stateM_f g]
    simp (disch := omega) only [↓mI_e, litI, cLeT, cLeF, cLtT, cLtF, cEqF, cEqT, mE1, mE2, mL1, mL2, mL3, mL4, cIn, nI_clamp, nI_add, cMul, cSub, cM1, nar0, nar1, true_implies, false_implies, not_true_eq_false, not_false_eq_true, true_and, and_true]
    exact k69 _ (thr_k mo _)
theorem q_4 (h : InvW j T R A F (te, ru, au, re, la, sp, le) mo) : ls_4 a1 a2 a3 a4 te ru au re la sp le mo (Inv (j + 1)) := by
  have hT := h.t
  have hM := h.1.2
  obtain ⟨ho, hF, ha, hm⟩ := h.2.2.1
  unfold ls_4 p_Gr_edge
  rcases eGd_or T a1 a2 a3 a4 with ⟨s, p, q, to, g⟩ | g
  · rw [s_eStand hT g]
    refine ⟨fun _ => ?_, fun h => absurd h (by decide)⟩
    refine s_eHolds hT ho ha g (fun ⟨e, i⟩ => ⟨fun h => absurd h (by decide), fun _ => ?_⟩) (fun no => ⟨fun _ => ?_, fun h => absurd rfl h⟩)
    · exact s_edgeM hM ho hm g (fun _ mo' k e => ⟨e, rfl, h.same k⟩) (fun no => absurd i (no e)) (fun no => absurd i (no e))
    · refine s_eAppend hT ho ha g (fun h20 => ⟨fun h => absurd rfl h, fun _ => ⟨Or.inr rfl, ?_⟩⟩) (fun h19 au' hau => ⟨fun _ => ?_, fun h => absurd h (by decide)⟩)
      · refine s_edgeM hM ho hm g (fun ⟨e, i⟩ => absurd i (no e)) (fun _ _ mo' k e => ⟨?_, h.same k⟩) (fun _ h9 => by omega)
        rw [if_neg xIS_ne]
        exact e
      · refine s_edgeM hM ho hm g (fun ⟨e, i⟩ => absurd i (no e)) (fun _ h9 => by omega) (fun _ _ mo' hm' e hk => ⟨e, rfl, ?_⟩)
        exact ⟨T, R, aAdd A s p q to, F, ⟨hT, hk.1⟩, ⟨h.2.1.1, h.2.1.2.1, hk.2 R h.2.1.2.2⟩, ⟨aOk_add ho h19 g, hF, hau, hm'⟩, h.c.nx⟩
  · rw [s_eStand_bad hT g]
    refine ⟨fun h => absurd rfl h, fun _ => ⟨Or.inl rfl, s_edgeM_bad hM g (fun mo' k e => ⟨?_, h.same k⟩)⟩⟩
    rw [if_pos rfl]
    exact e
end
