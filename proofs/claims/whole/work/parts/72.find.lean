/-! finding a term -/
section
variable {T : Tab} {te : Te} {mo : Mo}
theorem s_isMade {x : Int32} {Q : Int32 → Prop} (hT : tTe T te) (h1 : ∀ t, t < tn T → x = nI t → Q 1) (h0 : (∀ t, t < tn T → x ≠ nI t) → Q 0) : p_Te_isMade x te Q := by
  obtain ⟨o, hn, hc, -⟩ := hT
  unfold p_Te_isMade
  rw [hc]
  rcases ixc x (n := tn T) (by omega) with ⟨t, ht, rfl⟩ | ⟨h, hx⟩
  · simp (disch := omega) only [↓mI_e, litI, cLeT, cLeF, cLtT, cLtF, cEqF, cEqT, mE1, mE2, mL1, mL2, mL3, mL4, cIn, nI_clamp, nI_add, cMul, cSub, cM1, nar0, nar1, true_implies, false_implies, not_true_eq_false, not_false_eq_true, true_and, and_true]
    exact h1 t ht rfl
  · refine ⟨fun _ => h0 hx, fun h3 => ⟨fun _ => h0 hx, fun h4 => ?_⟩⟩
    exact absurd h (by rintro (h | h) <;> contradiction)
theorem s_isTerm {x : Int32} {Q : Int32 → Prop} (hT : tMo T mo) (h1 : ∀ t, t < tn T → x = nI t → Q 1) (h0 : (∀ t, t < tn T → x ≠ nI t) → Q 0) : p_Mo_isTerm x mo Q := by
  obtain ⟨o, hn, hc, -⟩ := hT
  unfold p_Mo_isTerm
  rw [hc]
  rcases ixc x (n := tn T) (by omega) with ⟨t, ht, rfl⟩ | ⟨h, hx⟩
  · simp (disch := omega) only [↓mI_e, litI, cLeT, cLeF, cLtT, cLtF, cEqF, cEqT, mE1, mE2, mL1, mL2, mL3, mL4, cIn, nI_clamp, nI_add, cMul, cSub, cM1, nar0, nar1, true_implies, false_implies, not_true_eq_false, not_false_eq_true, true_and, and_true]
    exact h1 t ht rfl
  · refine ⟨fun _ => h0 hx, fun h3 => ⟨fun _ => h0 hx, fun h4 => ?_⟩⟩
    exact absurd h (by rintro (h | h) <;> contradiction)
theorem s_isState {x : Int32} {Q : Int32 → Prop} (h1 : ∀ t, t < 6 → x = nI t → Q 1) (h0 : (∀ t, t < 6 → x ≠ nI t) → Q 0) : p_Gr_isState x Q := by
  unfold p_Gr_isState
  rcases ixc x (n := 6) (by omega) with ⟨t, ht, rfl⟩ | ⟨h, hx⟩
  · simp (disch := omega) only [↓mI_e, litI, cLeT, cLeF, cLtT, cLtF, cEqF, cEqT, mE1, mE2, mL1, mL2, mL3, mL4, cIn, nI_clamp, nI_add, cMul, cSub, cM1, nar0, nar1, true_implies, false_implies, not_true_eq_false, not_false_eq_true, true_and, and_true]
    exact h1 t ht rfl
  · refine ⟨fun _ => h0 hx, fun h3 => ⟨fun _ => h0 hx, fun h4 => ?_⟩⟩
    exact absurd h (by rintro (h | h) <;> contradiction)
theorem s_isStateM {x : Int32} {Q : Int32 → Prop} (h1 : ∀ t, t < 6 → x = nI t → Q 1) (h0 : (∀ t, t < 6 → x ≠ nI t) → Q 0) : p_Mo_isState x Q := s_isState h1 h0
theorem s_isSymbol {x : Int32} {Q : Int32 → Prop} (h1 : ∀ t, t < 6 → x = nI t → Q 1) (h0 : (∀ t, t < 6 → x ≠ nI t) → Q 0) : p_Te_isSymbol x Q := s_isState h1 h0
/-- the codes of a term fit what is sought -/
theorem code_iff (o : tOk T) {t s a b : Nat} (ht : t < tn T) (ha : tp T s < 1 → a = 0) (hb : tp T s < 2 → b = 0) (ha' : a < 2 ^ 31) (hb' : b < 2 ^ 31) : isT T s a b t ↔ (nI (ts T t) = nI s ∧ s < 6 ∧ pc 1 (tq T t) (ta T t) = pc 1 (tp T s) a ∧ pc 2 (tq T t) (tb T t) = pc 2 (tp T s) b) ∨ (¬ s < 6 ∧ isT T s a b t) := by
  have h := o.2.2 t ht
  have hl := o.le ht
  have hn := o.1
  constructor
  · intro i
    obtain ⟨i1, i2, i3, i4⟩ := i
    refine Or.inl ⟨by rw [i2], by omega, ?_, ?_⟩
    · show pc 1 (tp T (ts T t)) _ = _
      rw [i2, i3]
    · show pc 2 (tp T (ts T t)) _ = _
      rw [i2, i4]
  · rintro (⟨h1, h2, h3, h4⟩ | ⟨h1, h2⟩)
    · have e : ts T t = s := (nI_eq (by omega) (by omega)).mp h1
      have eq : tq T t = tp T s := by show tp T (ts T t) = _; rw [e]
      rw [eq] at h3 h4 h
      refine ⟨ht, e, ?_, ?_⟩
      · by_cases hq : tp T s < 1
        · rw [h.2.1 hq, ha hq]
        · exact pc_inj (by omega) ha' (by omega) h3
      · by_cases hq : tp T s < 2
        · rw [h.2.2.1 hq, hb hq]
        · exact pc_inj (by omega) hb' (by omega) h4
    · exact h2
theorem s_find {x2 x3 : Int32} {s a b : Nat} {Q : Int32 → Prop} (hT : tTe T te) (hs : s < 6) (ha : tp T s < 1 → a = 0) (hb : tp T s < 2 → b = 0) (ha' : a < 2 ^ 31) (hb' : b < 2 ^ 31) (hx2 : 1 ≤ tp T s → x2 = nI a) (hx3 : 2 ≤ tp T s → x3 = nI b) (hQ : ∀ r, tFd T s a b r → Q r) : p_Te_find (nI s) x2 x3 te Q := by
  obtain ⟨o, hn, hc, hp, hsy, h1, h2, hz, hN, hO⟩ := hT
  have hp2 := o.2.1 s
  -- once both codes are known
  have key : p_Te_find_32 (nI s) x2 x3 te Q (pc 1 (tp T s) a) (pc 2 (tp T s) b) := by
    unfold p_Te_find_32 p_Te_bucketOf
    obtain ⟨j, hj, e1, e2⟩ := bkI_lt (nI s) (pc 1 (tp T s) a) (pc 2 (tp T s) b)
    rw [e1]
    refine ⟨vp_in_nI hj (by omega), ?_⟩
    rw [nI_clamp (by omega), hN j hj]
    have bk : ∀ t, isT T s a b t → bkt T t = j := by
      intro t i
      rcases (code_iff o i.1 ha hb ha' hb').mp i with ⟨i1, -, i3, i4⟩ | ⟨i1, -⟩
      · unfold bkt
        rw [i1, i3, i4, e2]
      · exact absurd hs i1
    -- m: all from m on have been looked at
    refine lp4 (fun f (y4 y5 y6 y7 : Int32) => p_Te_find_52 (nI s) x2 x3 te Q f y4 y5 y6 y7) (fun y4 y5 y6 y7 => y4 = pc 1 (tp T s) a ∧ y5 = pc 2 (tp T s) b ∧ ∃ m k, m ≤ tn T ∧ k + m ≤ tn T ∧ y7 = nI k ∧ y6 = lastB (bkt T) j m ∧ ∀ t, m ≤ t → ¬ isT T s a b t) (fun _ _ _ y7 => 500 - y7.toNatClampNeg) ?_ _ _ _ _ ⟨rfl, rfl, tn T, 0, by omega, by omega, rfl, rfl, fun t h i => absurd i.1 (by omega)⟩
    rintro f y4 y5 y6 y7 ⟨rfl, rfl, m, k, hm, hk, rfl, rfl, hno⟩ ih
    rcases lastB_or (bkt T) j m with ⟨l1, l2⟩ | ⟨t, l1, l2, l3, l4⟩
    · have hQ' : Q mI := hQ mI (Or.inr ⟨rfl, fun t i => by
        by_cases h : m ≤ t
        · exact hno t h i
        · exact l2 t (by omega) (bk t i)⟩)
      rw [l1]
      unfold p_Te_find_52
      simp (disch := omega) only [↓mI_e, litI, cLeT, cLeF, cLtT, cLtF, cEqF, cEqT, mE1, mE2, mL1, mL2, mL3, mL4, cIn, nI_clamp, nI_add, cMul, cSub, cM1, nar0, nar1, true_implies, false_implies, not_true_eq_false, not_false_eq_true, true_and, and_true]
      by_cases h : 448 ≤ k
      · simp (disch := omega) only [↓mI_e, litI, cLeT, cLeF, cLtT, cLtF, cEqF, cEqT, mE1, mE2, mL1, mL2, mL3, mL4, cIn, nI_clamp, nI_add, cMul, cSub, cM1, nar0, nar1, true_implies, false_implies, not_true_eq_false, not_false_eq_true, true_and, and_true]
        exact hQ'
      · simp (disch := omega) only [↓mI_e, litI, cLeT, cLeF, cLtT, cLtF, cEqF, cEqT, mE1, mE2, mL1, mL2, mL3, mL4, cIn, nI_clamp, nI_add, cMul, cSub, cM1, nar0, nar1, true_implies, false_implies, not_true_eq_false, not_false_eq_true, true_and, and_true]
        exact hQ'
    · rw [l3]
      have ht : t < tn T := by omega
      have ho := hO t ht
      rw [l2] at ho
      have nx : p_Te_find_104 (nI s) x2 x3 te Q (fun a0 a1 a2 a3 => p_Te_find_52 (nI s) x2 x3 te Q f a0 a1 a2 a3) (pc 1 (tp T s) a) (pc 2 (tp T s) b) (nI t) (nI k) ∨ isT T s a b t := by
        by_cases hi : isT T s a b t
        · exact Or.inr hi
        · refine Or.inl ?_
          unfold p_Te_find_104
          simp (disch := omega) only [↓mI_e, litI, cLeT, cLeF, cLtT, cLtF, cEqF, cEqT, mE1, mE2, mL1, mL2, mL3, mL4, cIn, nI_clamp, nI_add, cMul, cSub, cM1, nar0, nar1, true_implies, false_implies, not_true_eq_false, not_false_eq_true, true_and, and_true]
          rw [ho]
          refine ih _ _ _ _ ⟨rfl, rfl, t, k + 1, by omega, by omega, rfl, rfl, fun u hu i => ?_⟩ ?_
          · by_cases hu2 : u = t
            · exact hi (hu2 ▸ i)
            · by_cases hu3 : u < m
              · exact l4 u (by omega) hu3 (bk u i)
              · exact hno u (by omega) i
          · rw [nI_clamp (by omega), nI_clamp (by omega)]; omega
      unfold p_Te_find_52
      simp (disch := omega) only [↓mI_e, litI, cLeT, cLeF, cLtT, cLtF, cEqF, cEqT, mE1, mE2, mL1, mL2, mL3, mL4, cIn, nI_clamp, nI_add, cMul, cSub, cM1, nar0, nar1, true_implies, false_implies, not_true_eq_false, not_false_eq_true, true_and, and_true]
      rw [hsy t ht, h1 t ht, h2 t ht]
      have ci := code_iff o ht ha hb ha' hb'
      refine ⟨fun g1 => ?_, fun g1 => ⟨fun g2 => ?_, fun g2 => ⟨fun g3 => ?_, fun g3 => ?_⟩⟩⟩
      · rcases nx with nx | nx
        · exact nx
        · rcases ci.mp nx with ⟨i1, i2, i3, i4⟩ | ⟨i1, -⟩
          · exact absurd i1 g1
          · exact absurd hs i1
      · rcases nx with nx | nx
        · exact nx
        · rcases ci.mp nx with ⟨i1, i2, i3, i4⟩ | ⟨i1, -⟩
          · exact absurd i3 g2
          · exact absurd hs i1
      · rcases nx with nx | nx
        · exact nx
        · rcases ci.mp nx with ⟨i1, i2, i3, i4⟩ | ⟨i1, -⟩
          · exact absurd i4 g3
          · exact absurd hs i1
      · exact hQ _ (Or.inl ⟨t, ci.mpr (Or.inl ⟨g1, hs, g2, g3⟩), rfl⟩)
  have k15 : p_Te_find_15 (nI s) x2 x3 te Q (pc 1 (tp T s) a) := by
    unfold p_Te_find_15
    simp (disch := omega) only [↓mI_e, litI, cLeT, cLeF, cLtT, cLtF, cEqF, cEqT, mE1, mE2, mL1, mL2, mL3, mL4, cIn, nI_clamp, nI_add, cMul, cSub, cM1, nar0, nar1, true_implies, false_implies, not_true_eq_false, not_false_eq_true, true_and, and_true, hp]
    by_cases h : 2 ≤ tp T s
    · rw [hx3 h]
      rw [pc_n h] at key
      simp (disch := omega) only [↓mI_e, litI, cLeT, cLeF, cLtT, cLtF, cEqF, cEqT, mE1, mE2, mL1, mL2, mL3, mL4, cIn, nI_clamp, nI_add, cMul, cSub, cM1, nar0, nar1, true_implies, false_implies, not_true_eq_false, not_false_eq_true, true_and, and_true]
      rw [hx3 h] at key
      exact key
    · rw [pc_m (k := 2) (by omega)] at key
      simp (disch := omega) only [↓mI_e, litI, cLeT, cLeF, cLtT, cLtF, cEqF, cEqT, mE1, mE2, mL1, mL2, mL3, mL4, cIn, nI_clamp, nI_add, cMul, cSub, cM1, nar0, nar1, true_implies, false_implies, not_true_eq_false, not_false_eq_true, true_and, and_true]
      exact key
  unfold p_Te_find
  simp (disch := omega) only [↓mI_e, litI, cLeT, cLeF, cLtT, cLtF, cEqF, cEqT, mE1, mE2, mL1, mL2, mL3, mL4, cIn, nI_clamp, nI_add, cMul, cSub, cM1, nar0, nar1, true_implies, false_implies, not_true_eq_false, not_false_eq_true, true_and, and_true, hp]
  by_cases h : 1 ≤ tp T s
  · rw [pc_n h] at k15
    rw [← hx2 h] at k15
    simp (disch := omega) only [↓mI_e, litI, cLeT, cLeF, cLtT, cLtF, cEqF, cEqT, mE1, mE2, mL1, mL2, mL3, mL4, cIn, nI_clamp, nI_add, cMul, cSub, cM1, nar0, nar1, true_implies, false_implies, not_true_eq_false, not_false_eq_true, true_and, and_true]
    exact k15
  · rw [pc_m (k := 1) (by omega)] at k15
    simp (disch := omega) only [↓mI_e, litI, cLeT, cLeF, cLtT, cLtF, cEqF, cEqT, mE1, mE2, mL1, mL2, mL3, mL4, cIn, nI_clamp, nI_add, cMul, cSub, cM1, nar0, nar1, true_implies, false_implies, not_true_eq_false, not_false_eq_true, true_and, and_true]
    exact k15
theorem s_known {s a b : Nat} {x2 x3 : Int32} {Q : Int32 → Prop} (hT : tMo T mo) (hs : s < 6) (ha : tp T s < 1 → a = 0) (hb : tp T s < 2 → b = 0) (ha' : a < 2 ^ 31) (hb' : b < 2 ^ 31) (hx2 : x2 = pc 1 (tp T s) a) (hx3 : x3 = pc 2 (tp T s) b) (hQ : ∀ r, tFd T s a b r → Q r) : p_Mo_known (nI s) x2 x3 mo Q := by
  obtain ⟨o, hn, hc, hp, hsy, h1, h2⟩ := hT
  subst hx2 hx3
  unfold p_Mo_known
  refine forN (fun f i x => p_Mo_known_6 (nI s) (pc 1 (tp T s) a) (pc 2 (tp T s) b) mo Q f x i) (fun i x => (∃ t, t < i ∧ isT T s a b t ∧ x = nI t) ∨ (x = mI ∧ ∀ t, t < i → ¬ isT T s a b t)) (tn T) 0 _ (by omega) (Or.inr ⟨rfl, fun t ht => by omega⟩) ?_ ?_
  · intro f x hx
    unfold p_Mo_known_6
    rw [hc]
    simp (disch := omega) only [↓mI_e, litI, cLeT, cLeF, cLtT, cLtF, cEqF, cEqT, mE1, mE2, mL1, mL2, mL3, mL4, cIn, nI_clamp, nI_add, cMul, cSub, cM1, nar0, nar1, true_implies, false_implies, not_true_eq_false, not_false_eq_true, true_and, and_true]
    rcases hx with ⟨t, -, h4, h5⟩ | ⟨h4, h5⟩
    · exact hQ _ (Or.inl ⟨t, h4, h5⟩)
    · exact hQ _ (Or.inr ⟨h4, fun t i => h5 t i.1 i⟩)
  · intro f i x hi hx ih
    unfold p_Mo_known_6
    rw [hc]
    simp (disch := omega) only [↓mI_e, litI, cLeT, cLeF, cLtT, cLtF, cEqF, cEqT, mE1, mE2, mL1, mL2, mL3, mL4, cIn, nI_clamp, nI_add, cMul, cSub, cM1, nar0, nar1, true_implies, false_implies, not_true_eq_false, not_false_eq_true, true_and, and_true]
    rw [hsy i hi, h1 i hi, h2 i hi]
    have ci := code_iff o hi ha hb ha' hb'
    have no : ¬ isT T s a b i → p_Mo_known_6 (nI s) (pc 1 (tp T s) a) (pc 2 (tp T s) b) mo Q f x (nI (i + 1)) := by
      intro g
      refine ih x ?_
      rcases hx with ⟨t, h3, h4, h5⟩ | ⟨h4, h5⟩
      · exact Or.inl ⟨t, by omega, h4, h5⟩
      · refine Or.inr ⟨h4, fun t ht k => ?_⟩
        by_cases e : t = i
        · exact g (e ▸ k)
        · exact h5 t (by omega) k
    refine ⟨fun g1 => no (fun k => ?_), fun g1 => ⟨fun g2 => no (fun k => ?_), fun g2 => ⟨fun g3 => no (fun k => ?_), fun g3 => ih _ (Or.inl ⟨i, by omega, ci.mpr (Or.inl ⟨g1, hs, g2, g3⟩), rfl⟩)⟩⟩⟩
    · rcases ci.mp k with ⟨i1, i2, i3, i4⟩ | ⟨i1, -⟩
      · exact g1 i1
      · exact i1 hs
    · rcases ci.mp k with ⟨i1, i2, i3, i4⟩ | ⟨i1, -⟩
      · exact g2 i3
      · exact i1 hs
    · rcases ci.mp k with ⟨i1, i2, i3, i4⟩ | ⟨i1, -⟩
      · exact g3 i4
      · exact i1 hs
end
