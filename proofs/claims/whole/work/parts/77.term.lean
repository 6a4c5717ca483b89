/-! term -/
theorem thr_s (mo : Mo) (y : Int32) : Mo_thrown (Mo_thrown_s mo y) = y := rfl
def mKr (mo mo' : Mo) : Prop := Mo_rules mo' = Mo_rules mo ∧ Mo_left mo' = Mo_left mo ∧ Mo_right mo' = Mo_right mo ∧ Mo_edges mo' = Mo_edges mo ∧ Mo_edge mo' = Mo_edge mo ∧ Mo_finals mo' = Mo_finals mo
theorem mKp.r {mo mo' : Mo} (h : mKp mo mo') : mKr mo mo' := h.2.2.2.2.2
theorem mKr.trans {a b c : Mo} (h : mKr a b) (g : mKr b c) : mKr a c := by
  obtain ⟨h6, h7, h8, h9, h10, h11⟩ := h
  obtain ⟨g6, g7, g8, g9, g10, g11⟩ := g
  exact ⟨g6.trans h6, g7.trans h7, g8.trans h8, g9.trans h9, g10.trans h10, g11.trans h11⟩
theorem rMo.kr {R : Rul} {mo mo' : Mo} (h : rMo R mo) (k : mKr mo mo') : rMo R mo' := by
  obtain ⟨h1, h2, h3⟩ := h
  obtain ⟨g6, g7, g8, -⟩ := k
  exact ⟨by rw [g6]; exact h1, by rw [g7]; exact h2, by rw [g8]; exact h3⟩
theorem aMo.kr {T T' : Tab} {A : Aut} {F : Nat} {mo mo' : Mo} (h : aMo T A F mo) (k : mKr mo mo') (e : tp T' = tp T) : aMo T' A F mo' := by
  obtain ⟨h1, h2, h3, h4, h5, h6⟩ := h
  obtain ⟨-, -, -, g9, g10, g11⟩ := k
  exact ⟨by rw [g9]; exact h1, by rw [g10]; exact h2, by rw [g10, e]; exact h3, by rw [g10, e]; exact h4, by rw [g10]; exact h5, by rw [g11]; exact h6⟩
theorem thr_k (mo : Mo) (y : Int32) : mKp mo (Mo_thrown_s mo y) := ⟨rfl, rfl, rfl, rfl, rfl, rfl, rfl, rfl, rfl, rfl, rfl⟩
theorem thr_kk {mo mo' : Mo} (h : mKp mo mo') (y : Int32) : mKp mo (Mo_thrown_s mo' y) := h
section
variable {T : Tab} {te : Te} {mo : Mo} {Q : Int32 → Prop} {x : Int32} {t : Nat}
theorem made_t (hT : tTe T te) (ht : t < tn T) : p_Te_isMade (nI t) te Q ↔ Q (nI 1) := by
  unfold p_Te_isMade
  have := hT.2.1
  rw [hT.2.2.1]
  simp (disch := omega) only [↓mI_e, litI, cLeT, cLeF, cLtT, cLtF, cEqF, cEqT, mE1, mE2, mL1, mL2, mL3, mL4, cIn, nI_clamp, nI_add, cMul, cSub, cM1, nar0, nar1, true_implies, false_implies, not_true_eq_false, not_false_eq_true, true_and, and_true]
theorem made_f (hT : tTe T te) (hx : ∀ t, t < tn T → x ≠ nI t) : p_Te_isMade x te Q ↔ Q (nI 0) := by
  constructor
  · intro h
    unfold p_Te_isMade at h
    have := hT.2.1
    rw [hT.2.2.1] at h
    rcases ixc x (n := tn T) (by omega) with ⟨t, ht, e⟩ | ⟨g | g, -⟩
    · exact absurd e (hx t ht)
    · exact h.1 g
    · by_cases g0 : x < 0
      · exact h.1 g0
      · exact (h.2 g0).1 g
  · exact fun h => s_isMade hT (fun t ht e => absurd e (hx t ht)) (fun _ => h)
theorem term_t (hT : tMo T mo) (ht : t < tn T) : p_Mo_isTerm (nI t) mo Q ↔ Q (nI 1) := by
  unfold p_Mo_isTerm
  have := hT.2.1
  rw [hT.2.2.1]
  simp (disch := omega) only [↓mI_e, litI, cLeT, cLeF, cLtT, cLtF, cEqF, cEqT, mE1, mE2, mL1, mL2, mL3, mL4, cIn, nI_clamp, nI_add, cMul, cSub, cM1, nar0, nar1, true_implies, false_implies, not_true_eq_false, not_false_eq_true, true_and, and_true]
theorem term_f (hT : tMo T mo) (hx : ∀ t, t < tn T → x ≠ nI t) : p_Mo_isTerm x mo Q ↔ Q (nI 0) := by
  constructor
  · intro h
    unfold p_Mo_isTerm at h
    have := hT.2.1
    rw [hT.2.2.1] at h
    rcases ixc x (n := tn T) (by omega) with ⟨t, ht, e⟩ | ⟨g | g, -⟩
    · exact absurd e (hx t ht)
    · exact h.1 g
    · by_cases g0 : x < 0
      · exact h.1 g0
      · exact (h.2 g0).1 g
  · exact fun h => s_isTerm hT (fun t ht e => absurd e (hx t ht)) (fun _ => h)
theorem state_t (ht : t < 6) : p_Gr_isState (nI t) Q ↔ Q (nI 1) := by
  unfold p_Gr_isState
  simp (disch := omega) only [↓mI_e, litI, cLeT, cLeF, cLtT, cLtF, cEqF, cEqT, mE1, mE2, mL1, mL2, mL3, mL4, cIn, nI_clamp, nI_add, cMul, cSub, cM1, nar0, nar1, true_implies, false_implies, not_true_eq_false, not_false_eq_true, true_and, and_true]
theorem state_f (hx : ∀ t, t < 6 → x ≠ nI t) : p_Gr_isState x Q ↔ Q (nI 0) := by
  constructor
  · intro h
    unfold p_Gr_isState at h
    rcases ixc x (n := 6) (by omega) with ⟨t, ht, e⟩ | ⟨g | g, -⟩
    · exact absurd e (hx t ht)
    · exact h.1 g
    · by_cases g0 : x < 0
      · exact h.1 g0
      · exact (h.2 g0).1 g
  · exact fun h => s_isState (fun t ht e => absurd e (hx t ht)) (fun _ => h)
theorem stateM_t (ht : t < 6) : p_Mo_isState (nI t) Q ↔ Q (nI 1) := state_t ht
theorem stateM_f (hx : ∀ t, t < 6 → x ≠ nI t) : p_Mo_isState x Q ↔ Q (nI 0) := state_f hx
theorem symb_t (ht : t < 6) : p_Te_isSymbol (nI t) Q ↔ Q (nI 1) := state_t ht
theorem symb_f (hx : ∀ t, t < 6 → x ≠ nI t) : p_Te_isSymbol x Q ↔ Q (nI 0) := state_f hx
end
/-- what term takes -/
def tGd (T : Tab) (x1 x2 x3 : Int32) (s a b : Nat) : Prop := x1 = nI s ∧ tFit T s a b ∧ (1 ≤ tp T s → x2 = nI a) ∧ (2 ≤ tp T s → x3 = nI b)
theorem tGd_or (T : Tab) (hn : tn T ≤ 520) (x1 x2 x3 : Int32) : (∃ s a b, tGd T x1 x2 x3 s a b) ∨ (∀ t, t < 6 → x1 ≠ nI t) ∨ (∃ s, s < 6 ∧ x1 = nI s ∧ 1 ≤ tp T s ∧ ∀ t, t < tn T → x2 ≠ nI t) ∨ (∃ s a, s < 6 ∧ x1 = nI s ∧ 2 ≤ tp T s ∧ a < tn T ∧ x2 = nI a ∧ ∀ t, t < tn T → x3 ≠ nI t) := by
  rcases ixc x1 (n := 6) (by omega) with ⟨s, hs, e1⟩ | ⟨-, h⟩
  · by_cases h1 : 1 ≤ tp T s
    · rcases ixc x2 (n := tn T) (by omega) with ⟨a, ha, e2⟩ | ⟨-, h⟩
      · by_cases h2 : 2 ≤ tp T s
        · rcases ixc x3 (n := tn T) (by omega) with ⟨b, hb, e3⟩ | ⟨-, h⟩
          · exact Or.inl ⟨s, a, b, e1, ⟨hs, by omega, by omega, fun _ => ha, fun _ => hb⟩, fun _ => e2, fun _ => e3⟩
          · exact Or.inr (Or.inr (Or.inr ⟨s, a, hs, e1, h2, ha, e2, h⟩))
        · exact Or.inl ⟨s, a, 0, e1, ⟨hs, by omega, fun _ => rfl, fun _ => ha, by omega⟩, fun _ => e2, by omega⟩
      · exact Or.inr (Or.inr (Or.inl ⟨s, hs, e1, h1, h⟩))
    · exact Or.inl ⟨s, 0, 0, e1, ⟨hs, fun _ => rfl, fun _ => rfl, by omega, by omega⟩, by omega, by omega⟩
  · exact Or.inr (Or.inl h)
section
variable {T : Tab} {te : Te} {mo : Mo} {x1 x2 x3 : Int32} {s a b : Nat}
theorem s_foa {Q : Int32 → Te → Prop} (hT : tTe T te) (g : tGd T x1 x2 x3 s a b) (h1 : ∀ t, isT T s a b t → Q (nI t) te) (h2 : (∀ t, ¬ isT T s a b t) → 48 ≤ tn T → Q mI te) (h3 : (∀ t, ¬ isT T s a b t) → tn T < 48 → ∀ te', tTe (tAdd T s a b) te' → Q (nI (tn T)) te') : p_Te_findOrAppend x1 x2 x3 te Q := by
  obtain ⟨rfl, f, g2, g3⟩ := g
  have hn := hT.2.1
  have hl := f.lt hT.1
  unfold p_Te_findOrAppend
  refine s_find hT f.1 f.2.1 f.2.2.1 (by omega) (by omega) g2 g3 (fun r hr => ?_)
  rcases hr with ⟨t, i, rfl⟩ | ⟨rfl, no⟩
  · have := i.1
    simp (disch := omega) only [↓mI_e, litI, cLeT, cLeF, cLtT, cLtF, cEqF, cEqT, mE1, mE2, mL1, mL2, mL3, mL4, cIn, nI_clamp, nI_add, cMul, cSub, cM1, nar0, nar1, true_implies, false_implies, not_true_eq_false, not_false_eq_true, true_and, and_true, p_Te_findOrAppend_24]
    exact h1 t i
  · rw [hT.2.2.1]
    by_cases h : 48 ≤ tn T
    · simp (disch := omega) only [↓mI_e, litI, cLeT, cLeF, cLtT, cLtF, cEqF, cEqT, mE1, mE2, mL1, mL2, mL3, mL4, cIn, nI_clamp, nI_add, cMul, cSub, cM1, nar0, nar1, true_implies, false_implies, not_true_eq_false, not_false_eq_true, true_and, and_true, p_Te_findOrAppend_24]
      exact h2 no h
    · simp (disch := omega) only [↓mI_e, litI, cLeT, cLeF, cLtT, cLtF, cEqF, cEqT, mE1, mE2, mL1, mL2, mL3, mL4, cIn, nI_clamp, nI_add, cMul, cSub, cM1, nar0, nar1, true_implies, false_implies, not_true_eq_false, not_false_eq_true, true_and, and_true, p_Te_findOrAppend_24]
      exact s_append hT (by omega) f no g2 g3 (fun te' h' => h3 no (by omega) te' h')
theorem s_make {Q : Int32 → Mo → Prop} (hT : tMo T mo) (f : tFit T s a b) (g2 : x2 = pc 1 (tp T s) a) (g3 : x3 = pc 2 (tp T s) b) (h1 : ∀ t, isT T s a b t → Q (nI t) mo) (h3 : (∀ t, ¬ isT T s a b t) → tn T < 48 ∧ ∀ mo', tMo (tAdd T s a b) mo' → mKr mo mo' → Mo_thrown mo' = Mo_thrown mo → Mo_path mo' = Mo_path mo → Mo_side mo' = Mo_side mo → Q (nI (tn T)) mo') : p_Mo_make (nI s) x2 x3 mo Q := by
  have hn := hT.2.1
  have hl := f.lt hT.1
  unfold p_Mo_make
  refine s_known hT f.1 f.2.1 f.2.2.1 (by omega) (by omega) g2 g3 (fun r hr => ?_)
  rcases hr with ⟨t, i, rfl⟩ | ⟨rfl, no⟩
  · have := i.1
    simp (disch := omega) only [↓mI_e, litI, cLeT, cLeF, cLtT, cLtF, cEqF, cEqT, mE1, mE2, mL1, mL2, mL3, mL4, cIn, nI_clamp, nI_add, cMul, cSub, cM1, nar0, nar1, true_implies, false_implies, not_true_eq_false, not_false_eq_true, true_and, and_true]
    exact h1 t i
  · obtain ⟨h4, h5⟩ := h3 no
    have hc := hT.2.2.1
    have g := tAg_add T s a b
    have ok' := tOk_add hT.1 (by omega) f no
    simp (disch := omega) only [↓mI_e, litI, cLeT, cLeF, cLtT, cLtF, cEqF, cEqT, mE1, mE2, mL1, mL2, mL3, mL4, cIn, nI_clamp, nI_add, cMul, cSub, cM1, nar0, nar1, true_implies, false_implies, not_true_eq_false, not_false_eq_true, true_and, and_true]
    rw [hc]
    simp (disch := omega) only [↓mI_e, litI, cLeT, cLeF, cLtT, cLtF, cEqF, cEqT, mE1, mE2, mL1, mL2, mL3, mL4, cIn, nI_clamp, nI_add, cMul, cSub, cM1, nar0, nar1, true_implies, false_implies, not_true_eq_false, not_false_eq_true, true_and, and_true]
    refine nm_e ?_
    rw [show Mo_count (Mo_symbol_s mo (upd (Mo_symbol mo) (tn T) (nI s))) = nI (tn T) from hc]
    simp (disch := omega) only [↓mI_e, litI, cLeT, cLeF, cLtT, cLtF, cEqF, cEqT, mE1, mE2, mL1, mL2, mL3, mL4, cIn, nI_clamp, nI_add, cMul, cSub, cM1, nar0, nar1, true_implies, false_implies, not_true_eq_false, not_false_eq_true, true_and, and_true]
    refine nm_e ?_
    rw [show Mo_count (Mo_one_s (Mo_symbol_s mo (upd (Mo_symbol mo) (tn T) (nI s))) (upd (Mo_one (Mo_symbol_s mo (upd (Mo_symbol mo) (tn T) (nI s)))) (tn T) x2)) = nI (tn T) from hc]
    simp (disch := omega) only [↓mI_e, litI, cLeT, cLeF, cLtT, cLtF, cEqF, cEqT, mE1, mE2, mL1, mL2, mL3, mL4, cIn, nI_clamp, nI_add, cMul, cSub, cM1, nar0, nar1, true_implies, false_implies, not_true_eq_false, not_false_eq_true, true_and, and_true]
    refine nm_e ?_
    refine nm_e ?_
    have e9 : ∀ m : Mo, Mo_count m = nI (tn T) → Mo_count (Mo_count_s m (Mo_count m + nI 1)) - nI 1 = nI (tn T) := by
      intro m hm
      show Mo_count m + nI 1 - nI 1 = nI (tn T)
      rw [hm]
      simp (disch := omega) only [↓mI_e, litI, cLeT, cLeF, cLtT, cLtF, cEqF, cEqT, mE1, mE2, mL1, mL2, mL3, mL4, cIn, nI_clamp, nI_add, cMul, cSub, cM1, nar0, nar1, true_implies, false_implies, not_true_eq_false, not_false_eq_true, true_and, and_true]
    rw [e9 _ hc]
    refine h5 _ ?_ ⟨rfl, rfl, rfl, rfl, rfl, rfl⟩ rfl rfl rfl
    refine ⟨ok', by rw [tn_add]; omega, ?_, hT.2.2.2.1, fun t ht => ?_, fun t ht => ?_, fun t ht => ?_⟩
    · show Mo_count mo + nI 1 = _
      rw [hc, nI_add]; rfl
    · rw [tn_add] at ht
      by_cases e : t = tn T
      · subst e; rw [ts_add]; exact pk_us
      · rw [← (g.2 t (by omega)).1]
        exact (pk_un e).trans (hT.2.2.2.2.1 t (by omega))
    · rw [tn_add] at ht
      by_cases e : t = tn T
      · subst e; rw [ta_add, tq_add]; exact pk_us.trans g2
      · rw [← (g.2 t (by omega)).2.1, ← g.q (by omega)]
        exact (pk_un e).trans (hT.2.2.2.2.2.1 t (by omega))
    · rw [tn_add] at ht
      by_cases e : t = tn T
      · subst e; rw [tb_add, tq_add]; exact pk_us.trans g3
      · rw [← (g.2 t (by omega)).2.2, ← g.q (by omega)]
        exact (pk_un e).trans (hT.2.2.2.2.2.2 t (by omega))
theorem s_termM {Q : Int32 → Mo → Prop} (hT : tMo T mo) (g : tGd T x1 x2 x3 s a b) (h1 : ∀ t, isT T s a b t → ∀ mo', mKp mo mo' → Mo_thrown mo' = nI 0 → Q (nI t) mo') (h2 : (∀ t, ¬ isT T s a b t) → tn T = 48 → ∀ mo', mKp mo mo' → Mo_thrown mo' = nI 2 → Q (nI 0) mo') (h3 : (∀ t, ¬ isT T s a b t) → tn T < 48 → ∀ mo', tMo (tAdd T s a b) mo' → mKr mo mo' → Mo_thrown mo' = nI 0 → Q (nI (tn T)) mo') : p_Mo_term x1 x2 x3 mo Q := by
  obtain ⟨rfl, f, g2, g3⟩ := g
  have hs := f.1
  have hn := hT.2.1
  have hl := f.lt hT.1
  have hp2 := hT.1.2.1 s
  have hp := hT.2.2.2.1
  have k140 : ∀ m, mKp mo m → p_Mo_term_111 (nI s) x2 x3 Q (pc 1 (tp T s) a) (pc 2 (tp T s) b) m := by
    intro m km
    have hM := hT.kp km
    unfold p_Mo_term_111
    refine s_known hM f.1 f.2.1 f.2.2.1 (by omega) (by omega) rfl rfl (fun r hr => ?_)
    have kk : p_Mo_term_139 (nI s) x2 x3 Q (pc 1 (tp T s) a) (pc 2 (tp T s) b) m ∨ ((∀ t, ¬ isT T s a b t) ∧ tn T = 48) := by
      by_cases h : (∀ t, ¬ isT T s a b t) ∧ tn T = 48
      · exact Or.inr h
      · refine Or.inl ?_
        unfold p_Mo_term_139 p_Mo_term_140
        refine nm_e ?_
        simp (disch := omega) only [↓mI_e, litI, cLeT, cLeF, cLtT, cLtF, cEqF, cEqT, mE1, mE2, mL1, mL2, mL3, mL4, cIn, nI_clamp, nI_add, cMul, cSub, cM1, nar0, nar1, true_implies, false_implies, not_true_eq_false, not_false_eq_true, true_and, and_true, thr_s]
        refine s_make (hM.kp (thr_k m _)) f rfl rfl (fun t i => h1 t i _ (thr_kk km _) rfl) (fun no => ⟨?_, fun mo' hm' kr e _ _ => h3 no ?_ mo' hm' (km.r.trans kr) e⟩)
        · have : tn T ≠ 48 := fun e => h ⟨no, e⟩
          omega
        · have : tn T ≠ 48 := fun e => h ⟨no, e⟩
          omega
    rcases hr with ⟨t, i, rfl⟩ | ⟨rfl, no⟩
    · have := i.1
      simp (disch := omega) only [↓mI_e, litI, cLeT, cLeF, cLtT, cLtF, cEqF, cEqT, mE1, mE2, mL1, mL2, mL3, mL4, cIn, nI_clamp, nI_add, cMul, cSub, cM1, nar0, nar1, true_implies, false_implies, not_true_eq_false, not_false_eq_true, true_and, and_true]
      rcases kk with kk | kk
      · exact kk
      · exact absurd i (kk.1 t)
    · rw [hM.2.2.1]
      by_cases h : tn T = 48
      · simp (disch := omega) only [↓mI_e, litI, cLeT, cLeF, cLtT, cLtF, cEqF, cEqT, mE1, mE2, mL1, mL2, mL3, mL4, cIn, nI_clamp, nI_add, cMul, cSub, cM1, nar0, nar1, true_implies, false_implies, not_true_eq_false, not_false_eq_true, true_and, and_true]
        unfold p_Mo_term_140
        refine nm_e ?_
        simp (disch := omega) only [↓mI_e, litI, cLeT, cLeF, cLtT, cLtF, cEqF, cEqT, mE1, mE2, mL1, mL2, mL3, mL4, cIn, nI_clamp, nI_add, cMul, cSub, cM1, nar0, nar1, true_implies, false_implies, not_true_eq_false, not_false_eq_true, true_and, and_true, thr_s]
        exact h2 no h _ (thr_kk km _) rfl
      · simp (disch := omega) only [↓mI_e, litI, cLeT, cLeF, cLtT, cLtF, cEqF, cEqT, mE1, mE2, mL1, mL2, mL3, mL4, cIn, nI_clamp, nI_add, cMul, cSub, cM1, nar0, nar1, true_implies, false_implies, not_true_eq_false, not_false_eq_true, true_and, and_true]
        rcases kk with kk | kk
        · exact kk
        · exact absurd kk.2 h
  have k94 : ∀ m, mKp mo m → p_Mo_term_94 (nI s) x2 x3 Q (pc 1 (tp T s) a) m := by
    intro m km
    unfold p_Mo_term_94
    have k := k140 m km
    rw [nI_clamp (by omega), (hT.kp km).2.2.2.1 s hs]
    by_cases h : 2 ≤ tp T s
    · rw [pc_n (k := 2) h, ← g3 h] at k
      simp (disch := omega) only [↓mI_e, litI, cLeT, cLeF, cLtT, cLtF, cEqF, cEqT, mE1, mE2, mL1, mL2, mL3, mL4, cIn, nI_clamp, nI_add, cMul, cSub, cM1, nar0, nar1, true_implies, false_implies, not_true_eq_false, not_false_eq_true, true_and, and_true]
      exact k
    · rw [pc_m (k := 2) (by omega)] at k
      simp (disch := omega) only [↓mI_e, litI, cLeT, cLeF, cLtT, cLtF, cEqF, cEqT, mE1, mE2, mL1, mL2, mL3, mL4, cIn, nI_clamp, nI_add, cMul, cSub, cM1, nar0, nar1, true_implies, false_implies, not_true_eq_false, not_false_eq_true, true_and, and_true]
      exact k
  have k68 : ∀ m, mKp mo m → p_Mo_term_67 (nI s) x2 x3 Q m := by
    intro m km
    unfold p_Mo_term_67 p_Mo_term_68
    refine nm_e ?_
    have k := k94 (Mo_thrown_s m 0) (thr_kk km _)
    simp (disch := omega) only [↓mI_e, litI, cLeT, cLeF, cLtT, cLtF, cEqF, cEqT, mE1, mE2, mL1, mL2, mL3, mL4, cIn, nI_clamp, nI_add, cMul, cSub, cM1, nar0, nar1, true_implies, false_implies, not_true_eq_false, not_false_eq_true, true_and, and_true, thr_s]
    rw [(hT.kp (thr_kk km _)).2.2.2.1 s hs]
    by_cases h : 1 ≤ tp T s
    · rw [pc_n h, ← g2 h] at k
      simp (disch := omega) only [↓mI_e, litI, cLeT, cLeF, cLtT, cLtF, cEqF, cEqT, mE1, mE2, mL1, mL2, mL3, mL4, cIn, nI_clamp, nI_add, cMul, cSub, cM1, nar0, nar1, true_implies, false_implies, not_true_eq_false, not_false_eq_true, true_and, and_true]
      exact k
    · rw [pc_m (by omega)] at k
      simp (disch := omega) only [↓mI_e, litI, cLeT, cLeF, cLtT, cLtF, cEqF, cEqT, mE1, mE2, mL1, mL2, mL3, mL4, cIn, nI_clamp, nI_add, cMul, cSub, cM1, nar0, nar1, true_implies, false_implies, not_true_eq_false, not_false_eq_true, true_and, and_true]
      exact k
  have k45 : ∀ m, mKp mo m → p_Mo_term_45 (nI s) x2 x3 Q m := by
    intro m km
    have hM := hT.kp km
    have k := k68 m km
    unfold p_Mo_term_45
    rw [nI_clamp (by omega), hM.2.2.2.1 s hs]
    by_cases h : 2 ≤ tp T s
    · have hb := f.2.2.2.2 h
      rw [g3 h] at k ⊢
      simp (disch := omega) only [↓mI_e, litI, cLeT, cLeF, cLtT, cLtF, cEqF, cEqT, mE1, mE2, mL1, mL2, mL3, mL4, cIn, nI_clamp, nI_add, cMul, cSub, cM1, nar0, nar1, true_implies, false_implies, not_true_eq_false, not_false_eq_true, true_and, and_true, term_t hM]
      exact k
    · simp (disch := omega) only [↓mI_e, litI, cLeT, cLeF, cLtT, cLtF, cEqF, cEqT, mE1, mE2, mL1, mL2, mL3, mL4, cIn, nI_clamp, nI_add, cMul, cSub, cM1, nar0, nar1, true_implies, false_implies, not_true_eq_false, not_false_eq_true, true_and, and_true]
      exact k
  unfold p_Mo_term
  simp (disch := omega) only [↓mI_e, litI, cLeT, cLeF, cLtT, cLtF, cEqF, cEqT, mE1, mE2, mL1, mL2, mL3, mL4, cIn, nI_clamp, nI_add, cMul, cSub, cM1, nar0, nar1, true_implies, false_implies, not_true_eq_false, not_false_eq_true, true_and, and_true]
  unfold p_Mo_term_15
  refine nm_e ?_
  have hM := hT.kp (thr_k mo (nI 0))
  simp (disch := omega) only [↓mI_e, litI, cLeT, cLeF, cLtT, cLtF, cEqF, cEqT, mE1, mE2, mL1, mL2, mL3, mL4, cIn, nI_clamp, nI_add, cMul, cSub, cM1, nar0, nar1, true_implies, false_implies, not_true_eq_false, not_false_eq_true, true_and, and_true, thr_s]
  rw [hM.2.2.2.1 s hs]
  have k := k45 _ (thr_k mo (nI 0))
  by_cases h : 1 ≤ tp T s
  · have ha := f.2.2.2.1 h
    rw [g2 h] at k ⊢
    simp (disch := omega) only [↓mI_e, litI, cLeT, cLeF, cLtT, cLtF, cEqF, cEqT, mE1, mE2, mL1, mL2, mL3, mL4, cIn, nI_clamp, nI_add, cMul, cSub, cM1, nar0, nar1, true_implies, false_implies, not_true_eq_false, not_false_eq_true, true_and, and_true, term_t hM]
    exact k
  · simp (disch := omega) only [↓mI_e, litI, cLeT, cLeF, cLtT, cLtF, cEqF, cEqT, mE1, mE2, mL1, mL2, mL3, mL4, cIn, nI_clamp, nI_add, cMul, cSub, cM1, nar0, nar1, true_implies, false_implies, not_true_eq_false, not_false_eq_true, true_and, and_true]
    exact k
theorem s_termM_bad {Q : Int32 → Mo → Prop} (hT : tMo T mo) (g : (∀ t, t < 6 → x1 ≠ nI t) ∨ (∃ s, s < 6 ∧ x1 = nI s ∧ 1 ≤ tp T s ∧ ∀ t, t < tn T → x2 ≠ nI t) ∨ (∃ s a, s < 6 ∧ x1 = nI s ∧ 2 ≤ tp T s ∧ a < tn T ∧ x2 = nI a ∧ ∀ t, t < tn T → x3 ≠ nI t)) (h : ∀ mo', mKp mo mo' → Mo_thrown mo' = nI 1 → Q (nI 0) mo') : p_Mo_term x1 x2 x3 mo Q := by
  have hM := hT.kp (thr_k mo (nI 0))
  have k10 : p_Mo_term_10 x1 x2 x3 Q mo := by
    unfold p_Mo_term_10 p_Mo_term_15
    refine nm_e ?_
    simp (disch := omega) only [↓mI_e, litI, cLeT, cLeF, cLtT, cLtF, cEqF, cEqT, mE1, mE2, mL1, mL2, mL3, mL4, cIn, nI_clamp, nI_add, cMul, cSub, cM1, nar0, nar1, true_implies, false_implies, not_true_eq_false, not_false_eq_true, true_and, and_true, thr_s]
    exact h _ (thr_k mo _) rfl
  have k63 : ∀ m, mKp mo m → p_Mo_term_63 x1 x2 x3 Q m := by
    intro m km
    unfold p_Mo_term_63 p_Mo_term_68
    refine nm_e ?_
    simp (disch := omega) only [↓mI_e, litI, cLeT, cLeF, cLtT, cLtF, cEqF, cEqT, mE1, mE2, mL1, mL2, mL3, mL4, cIn, nI_clamp, nI_add, cMul, cSub, cM1, nar0, nar1, true_implies, false_implies, not_true_eq_false, not_false_eq_true, true_and, and_true, thr_s]
    exact h _ (thr_kk km _) rfl
  have hn := hT.2.1
  unfold p_Mo_term
  rcases g with g | ⟨s, hs, rfl, h1, g⟩ | ⟨s, a, hs, rfl, h1, ha, rfl, g⟩
  · refine ⟨fun _ => k10, fun g0 => ⟨fun g1 => ?_, fun _ => k10⟩⟩
    obtain ⟨j, hj, e⟩ := nI_of2 (M := 5) (n := 5) (by decide) g0 g1
    exact absurd e (g j (by omega))
  · have hp2 := hT.1.2.1 s
    simp (disch := omega) only [↓mI_e, litI, cLeT, cLeF, cLtT, cLtF, cEqF, cEqT, mE1, mE2, mL1, mL2, mL3, mL4, cIn, nI_clamp, nI_add, cMul, cSub, cM1, nar0, nar1, true_implies, false_implies, not_true_eq_false, not_false_eq_true, true_and, and_true]
    unfold p_Mo_term_15
    refine nm_e ?_
    simp (disch := omega) only [↓mI_e, litI, cLeT, cLeF, cLtT, cLtF, cEqF, cEqT, mE1, mE2, mL1, mL2, mL3, mL4, cIn, nI_clamp, nI_add, cMul, cSub, cM1, nar0, nar1, true_implies, false_implies, not_true_eq_false, not_false_eq_true, true_and, and_true, thr_s]
    rw [hM.2.2.2.1 s hs]
    simp (disch := omega) only [↓mI_e, litI, cLeT, cLeF, cLtT, cLtF, cEqF, cEqT, mE1, mE2, mL1, mL2, mL3, mL4, cIn, nI_clamp, nI_add, cMul, cSub, cM1, nar0, nar1, true_implies, false_implies, not_true_eq_false, not_false_eq_true, true_and, and_true]
    rw [term_f hM g]
    simp (disch := omega) only [↓mI_e, litI, cLeT, cLeF, cLtT, cLtF, cEqF, cEqT, mE1, mE2, mL1, mL2, mL3, mL4, cIn, nI_clamp, nI_add, cMul, cSub, cM1, nar0, nar1, true_implies, false_implies, not_true_eq_false, not_false_eq_true, true_and, and_true]
    exact k63 _ (thr_k mo _)
  · have hp2 := hT.1.2.1 s
    simp (disch := omega) only [↓mI_e, litI, cLeT, cLeF, cLtT, cLtF, cEqF, cEqT, mE1, mE2, mL1, mL2, mL3, mL4, cIn, nI_clamp, nI_add, cMul, cSub, cM1, nar0, nar1, true_implies, false_implies, not_true_eq_false, not_false_eq_true, true_and, and_true]
    unfold p_Mo_term_15
    refine nm_e ?_
    simp (disch := omega) only [↓mI_e, litI, cLeT, cLeF, cLtT, cLtF, cEqF, cEqT, mE1, mE2, mL1, mL2, mL3, mL4, cIn, nI_clamp, nI_add, cMul, cSub, cM1, nar0, nar1, true_implies, false_implies, not_true_eq_false, not_false_eq_true, true_and, and_true, thr_s]
    rw [hM.2.2.2.1 s hs]
    simp (disch := omega) only [↓mI_e, litI, cLeT, cLeF, cLtT, cLtF, cEqF, cEqT, mE1, mE2, mL1, mL2, mL3, mL4, cIn, nI_clamp, nI_add, cMul, cSub, cM1, nar0, nar1, true_implies, false_implies, not_true_eq_false, not_false_eq_true, true_and, and_true, term_t hM]
    unfold p_Mo_term_45
    rw [nI_clamp (by omega), hM.2.2.2.1 s hs]
    simp (disch := omega) only [↓mI_e, litI, cLeT, cLeF, cLtT, cLtF, cEqF, cEqT, mE1, mE2, mL1, mL2, mL3, mL4, cIn, nI_clamp, nI_add, cMul, cSub, cM1, nar0, nar1, true_implies, false_implies, not_true_eq_false, not_false_eq_true, true_and, and_true]
    rw [term_f hM g]
    simp (disch := omega) only [↓mI_e, litI, cLeT, cLeF, cLtT, cLtF, cEqF, cEqT, mE1, mE2, mL1, mL2, mL3, mL4, cIn, nI_clamp, nI_add, cMul, cSub, cM1, nar0, nar1, true_implies, false_implies, not_true_eq_false, not_false_eq_true, true_and, and_true]
    exact k63 _ (thr_k mo _)
end
