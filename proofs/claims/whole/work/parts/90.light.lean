/-! the lightest term of a state -/
def wI (c : Nat) : Int32 := if c = 0 then mI else nI c
theorem wI_0 : wI 0 = mI := rfl
theorem wI_n {c : Nat} (h : c ≠ 0) : wI c = nI c := if_neg h
def lze (T : Tab) (A : Aut) (f : Nat → Nat) (e : Nat) : Nat := 1 + (if 1 ≤ tp T (as' A e) then f (a1' A e) else 0) + (if 2 ≤ tp T (as' A e) then f (a2' A e) else 0)
/-- a transition whose states are known -/
def apE (T : Tab) (A : Aut) (f : Nat → Nat) (e : Nat) : Prop := (1 ≤ tp T (as' A e) → f (a1' A e) ≠ 0) ∧ (2 ≤ tp T (as' A e) → f (a2' A e) ≠ 0)
def Ac6 (T : Tab) (A : Aut) (q c : Nat) : Prop := ∀ X : Nat → Nat → Prop, (∀ e f, e < an A → (1 ≤ tp T (as' A e) → X (a1' A e) (f (a1' A e))) → (2 ≤ tp T (as' A e) → X (a2' A e) (f (a2' A e))) → X (at' A e) (lze T A f e)) → X q c
def st6' (T : Tab) (A : Aut) (f : Nat → Nat) (q : Nat) : Prop := ∀ c, Ac6 T A q c → f q ≠ 0 ∧ f q ≤ c
section
variable {T : Tab} {A : Aut}
theorem Ac6.mk {e : Nat} {f : Nat → Nat} (he : e < an A) (h1 : 1 ≤ tp T (as' A e) → Ac6 T A (a1' A e) (f (a1' A e))) (h2 : 2 ≤ tp T (as' A e) → Ac6 T A (a2' A e) (f (a2' A e))) : Ac6 T A (at' A e) (lze T A f e) :=
  fun X hX => hX e f he (fun h => h1 h X hX) (fun h => h2 h X hX)
theorem Ac6.inv {q c : Nat} (h : Ac6 T A q c) : ∃ e f, e < an A ∧ (1 ≤ tp T (as' A e) → Ac6 T A (a1' A e) (f (a1' A e))) ∧ (2 ≤ tp T (as' A e) → Ac6 T A (a2' A e) (f (a2' A e))) ∧ q = at' A e ∧ c = lze T A f e := by
  have := h (fun q c => Ac6 T A q c ∧ ∃ e f, e < an A ∧ (1 ≤ tp T (as' A e) → Ac6 T A (a1' A e) (f (a1' A e))) ∧ (2 ≤ tp T (as' A e) → Ac6 T A (a2' A e) (f (a2' A e))) ∧ q = at' A e ∧ c = lze T A f e) (fun e f he h1 h2 => ⟨Ac6.mk he (fun k => (h1 k).1) (fun k => (h2 k).1), e, f, he, fun k => (h1 k).1, fun k => (h2 k).1, rfl, rfl⟩)
  exact this.2
theorem lze_le {f g : Nat → Nat} {e : Nat} (h1 : 1 ≤ tp T (as' A e) → f (a1' A e) ≤ g (a1' A e)) (h2 : 2 ≤ tp T (as' A e) → f (a2' A e) ≤ g (a2' A e)) : lze T A f e ≤ lze T A g e := by
  unfold lze
  by_cases t1 : 1 ≤ tp T (as' A e)
  · have := h1 t1
    rw [if_pos t1, if_pos t1]
    by_cases t2 : 2 ≤ tp T (as' A e)
    · have := h2 t2
      rw [if_pos t2, if_pos t2]; omega
    · rw [if_neg t2, if_neg t2]; omega
  · rw [if_neg t1, if_neg t1, if_neg (by omega), if_neg (by omega)]
    exact Nat.le_refl _
theorem lze_pos (f : Nat → Nat) (e : Nat) : 1 ≤ lze T A f e := by unfold lze; omega
/-- known things stay known, and get no heavier -/
def bet (f g : Nat → Nat) : Prop := ∀ q, q < 6 → f q ≠ 0 → g q ≠ 0 ∧ g q ≤ f q
theorem st6_bet {f g : Nat → Nat} (h : bet f g) {q : Nat} (hq : q < 6) (s : st6' T A f q) : st6' T A g q := fun c hc => by
  have h1 := s c hc
  have h2 := h q hq h1.1
  exact ⟨h2.1, by omega⟩
theorem st6_round (ho : aOk T A) {f g : Nat → Nat} (hb : bet f g) (hr : ∀ e, e < an A → apE T A f e → g (at' A e) ≠ 0 ∧ g (at' A e) ≤ lze T A f e) : (∀ q, q < 6 → st6' T A f q) ∨ cN (st6' T A f) 6 < cN (st6' T A g) 6 := by
  by_cases all : ∀ q, q < 6 → st6' T A f q
  · exact Or.inl all
  · refine Or.inr ?_
    have ex : ∃ c, ∃ q, q < 6 ∧ Ac6 T A q c ∧ ¬ (f q ≠ 0 ∧ f q ≤ c) := by
      refine Classical.byContradiction (fun no => all (fun q hq c hc => ?_))
      exact Classical.byContradiction (fun no2 => no ⟨c, q, hq, hc, no2⟩)
    obtain ⟨c, ⟨q, hq, hu, hlt⟩, hmin⟩ := pk_least _ ex
    obtain ⟨e, k, he, r2, r3, e1, e2⟩ := hu.inv
    have oe := ho.2 e he
    have part : ∀ p, p < 6 → Ac6 T A p (k p) → k p < c → f p ≠ 0 ∧ f p ≤ k p := fun p hp hk hkc => Classical.byContradiction (fun no => hmin (k p) hkc ⟨p, hp, hk, no⟩)
    have lt1 : 1 ≤ tp T (as' A e) → k (a1' A e) < c := fun t1 => by
      rw [e2]; unfold lze; rw [if_pos t1]; omega
    have lt2 : 2 ≤ tp T (as' A e) → k (a2' A e) < c := fun t2 => by
      rw [e2]; unfold lze; rw [if_pos t2]; omega
    have ap : apE T A f e := ⟨fun t1 => (part _ oe.2.1 (r2 t1) (lt1 t1)).1, fun t2 => (part _ oe.2.2.1 (r3 t2) (lt2 t2)).1⟩
    have le : lze T A f e ≤ c := by
      rw [e2]
      exact lze_le (fun t1 => (part _ oe.2.1 (r2 t1) (lt1 t1)).2) (fun t2 => (part _ oe.2.2.1 (r3 t2) (lt2 t2)).2)
    have g1 := hr e he ap
    rw [← e1] at g1
    refine cN_lt (j := q) (fun s => hlt (s c hu)) (fun c' hc' => ?_) 6 hq (fun p hp s => st6_bet hb hp s)
    refine ⟨g1.1, ?_⟩
    refine Classical.byContradiction (fun no => ?_)
    have h9 : f q ≠ 0 ∧ f q ≤ c' := Classical.byContradiction (fun no2 => hmin c' (by omega) ⟨q, hq, hc', no2⟩)
    exact hlt ⟨h9.1, by omega⟩
theorem st6_all {f : Nat → Nat} (h : 6 ≤ cN (st6' T A f) 6) : ∀ q, q < 6 → st6' T A f q := by
  intro q hq
  refine Classical.byContradiction (fun no => ?_)
  have h1 := cN_lt (p := st6' T A f) (q := fun _ => True) (j := q) no trivial 6 hq (fun _ _ _ => trivial)
  have h2 := cN_le (fun _ => True) 6
  omega
theorem st6_closed (ho : aOk T A) {f : Nat → Nat} (h : ∀ e, e < an A → apE T A f e → f (at' A e) ≠ 0 ∧ f (at' A e) ≤ lze T A f e) (q : Nat) : st6' T A f q := by
  intro c hc
  refine hc (fun q c => f q ≠ 0 ∧ f q ≤ c) (fun e k he h1 h2 => ?_)
  have h3 := h e he ⟨fun t1 => (h1 t1).1, fun t2 => (h2 t2).1⟩
  exact ⟨h3.1, Nat.le_trans h3.2 (lze_le (fun t1 => (h1 t1).2) (fun t2 => (h2 t2).2))⟩
/-- no more than 2^k - 1 while k states are known -/
def bd6 (g : Nat → Nat) : Prop := ∀ q, q < 6 → g q + 1 ≤ 2 ^ (cN (fun q => g q ≠ 0) 6)
theorem bd6_63 {g : Nat → Nat} (h : bd6 g) {q : Nat} (hq : q < 6) : g q ≤ 63 := by
  have h1 := h q hq
  have h2 : 2 ^ (cN (fun q => g q ≠ 0) 6) ≤ 2 ^ 6 := Nat.pow_le_pow_right (by omega) (cN_le _ 6)
  omega
theorem bd6_upd {g : Nat → Nat} (h : bd6 g) {p v : Nat} (hp : p < 6) (hv0 : v ≠ 0) (hv : v + 1 ≤ 2 * 2 ^ (cN (fun q => g q ≠ 0) 6)) (hc : g p = 0 ∨ v < g p) : bd6 (fun q => if q = p then v else g q) := by
  have imp : ∀ k, k < 6 → g k ≠ 0 → (if k = p then v else g k) ≠ 0 := fun k _ hk => by
    by_cases e : k = p
    · rw [if_pos e]; exact hv0
    · rw [if_neg e]; exact hk
  intro q hq
  rcases hc with hc | hc
  · have h1 := cN_lt (p := fun q => g q ≠ 0) (q := fun q => (if q = p then v else g q) ≠ 0) (j := p) (fun k => k hc) (by rw [if_pos rfl]; exact hv0) 6 hp imp
    have h2 : 2 ^ (cN (fun q => g q ≠ 0) 6 + 1) ≤ 2 ^ (cN (fun q => (if q = p then v else g q) ≠ 0) 6) := Nat.pow_le_pow_right (by omega) h1
    rw [Nat.pow_succ] at h2
    have h3 := h q hq
    show (if q = p then v else g q) + 1 ≤ 2 ^ (cN (fun q => (if q = p then v else g q) ≠ 0) 6)
    by_cases e : q = p
    · rw [if_pos e]; omega
    · rw [if_neg e]; omega
  · have h1 := cN_mono (p := fun q => g q ≠ 0) (q := fun q => (if q = p then v else g q) ≠ 0) 6 imp
    have h2 : 2 ^ (cN (fun q => g q ≠ 0) 6) ≤ 2 ^ (cN (fun q => (if q = p then v else g q) ≠ 0) 6) := Nat.pow_le_pow_right (by omega) h1
    have h3 := h q hq
    have h4 := h p hp
    show (if q = p then v else g q) + 1 ≤ 2 ^ (cN (fun q => (if q = p then v else g q) ≠ 0) 6)
    by_cases e : q = p
    · rw [if_pos e]; omega
    · rw [if_neg e]; omega
end
section
variable {T : Tab} {A : Aut} {F : Nat} {te : Te} {au : Au}
def rep6 (w : Nat → Int32) (f : Nat → Nat) : Prop := ∀ q, q < 6 → w q = wI (f q)
def upE (T : Tab) (A : Aut) (f : Nat → Nat) (e : Nat) : Prop := apE T A f e ∧ (f (at' A e) = 0 ∨ lze T A f e < f (at' A e))
theorem s_lighten {e : Nat} {w : Nat → Int32} {f : Nat → Nat} {Q : Au → Prop} (hT : tTe T te) (ho : aOk T A) (ha : aAu A F au) (he : e < an A) (hw : rep6 w f) (hb : ∀ q, q < 6 → f q ≤ 63) (h0 : ¬ upE T A f e → Q (Au_weight_s au w)) (h1 : upE T A f e → Q (Au_weight_s au (upd w (at' A e) (nI (lze T A f e))))) : p_Au_lighten (nI e) te (Au_weight_s au w) Q := by
  have h20 := ho.1
  have oe := ho.2 e he
  have hp2 := hT.1.2.1 (as' A e)
  obtain ⟨c0, c1, c2, c3, c4, -⟩ := ha
  have c1 : ∀ w, Au_symbol (Au_weight_s au w) e = nI (as' A e) := fun _ => c1 e he
  have c2 : ∀ w, Au_first (Au_weight_s au w) e = nI (a1' A e) := fun _ => c2 e he
  have c3 : ∀ w, Au_second (Au_weight_s au w) e = nI (a2' A e) := fun _ => c3 e he
  have c4 : ∀ w, Au_target (Au_weight_s au w) e = nI (at' A e) := fun _ => c4 e he
  have cw : ∀ q, q < 6 → Au_weight (Au_weight_s au w) q = wI (f q) := fun q hq => hw q hq
  have b1 := hb (a1' A e) oe.2.1
  have b2 := hb (a2' A e) oe.2.2.1
  have b3 := hb (at' A e) oe.2.2.2.1
  have k106 : ∀ ya yb : Nat, 1 + ya + yb = lze T A f e → upE T A f e → p_Au_lighten_106 (nI e) te Q (nI ya) (nI yb) (Au_weight_s au w) := by
    intro ya yb h2 h3
    unfold p_Au_lighten_106
    simp (disch := omega) only [↓mI_e, litI, cLeT, cLeF, cLtT, cLtF, cEqF, cEqT, mE1, mE2, mL1, mL2, mL3, mL4, cIn, nI_clamp, nI_add, cMul, cSub, cM1, nar0, nar1, true_implies, false_implies, not_true_eq_false, not_false_eq_true, true_and, and_true, c4]
    rw [h2]
    exact nm_e (h1 h3)
  -- both known
  have k65 : ∀ ya yb : Nat, ya ≤ 63 → yb ≤ 63 → apE T A f e → 1 + ya + yb = lze T A f e → p_Au_lighten_65 (nI e) te Q (nI ya) (nI yb) (Au_weight_s au w) := by
    intro ya yb l1 l2 ap h2
    unfold p_Au_lighten_65
    simp (disch := omega) only [↓mI_e, litI, cLeT, cLeF, cLtT, cLtF, cEqF, cEqT, mE1, mE2, mL1, mL2, mL3, mL4, cIn, nI_clamp, nI_add, cMul, cSub, cM1, nar0, nar1, true_implies, false_implies, not_true_eq_false, not_false_eq_true, true_and, and_true, c4]
    rw [cw _ oe.2.2.2.1]
    by_cases z : f (at' A e) = 0
    · rw [z, wI_0]
      simp (disch := omega) only [↓mI_e, litI, cLeT, cLeF, cLtT, cLtF, cEqF, cEqT, mE1, mE2, mL1, mL2, mL3, mL4, cIn, nI_clamp, nI_add, cMul, cSub, cM1, nar0, nar1, true_implies, false_implies, not_true_eq_false, not_false_eq_true, true_and, and_true]
      exact k106 ya yb h2 ⟨ap, Or.inl z⟩
    · rw [wI_n z]
      by_cases y : f (at' A e) ≤ 1 + ya + yb
      · simp (disch := omega) only [↓mI_e, litI, cLeT, cLeF, cLtT, cLtF, cEqF, cEqT, mE1, mE2, mL1, mL2, mL3, mL4, cIn, nI_clamp, nI_add, cMul, cSub, cM1, nar0, nar1, true_implies, false_implies, not_true_eq_false, not_false_eq_true, true_and, and_true]
        exact h0 (fun u => by rcases u.2 with u | u <;> omega)
      · simp (disch := omega) only [↓mI_e, litI, cLeT, cLeF, cLtT, cLtF, cEqF, cEqT, mE1, mE2, mL1, mL2, mL3, mL4, cIn, nI_clamp, nI_add, cMul, cSub, cM1, nar0, nar1, true_implies, false_implies, not_true_eq_false, not_false_eq_true, true_and, and_true]
        exact k106 ya yb h2 ⟨ap, Or.inr (by omega)⟩
  have k65n : ∀ y : Int32, ¬ apE T A f e → p_Au_lighten_65 (nI e) te Q y mI (Au_weight_s au w) := by
    intro y no
    have := h0 (fun u => no u.1)
    unfold p_Au_lighten_65
    simp (disch := omega) only [↓mI_e, litI, cLeT, cLeF, cLtT, cLtF, cEqF, cEqT, mE1, mE2, mL1, mL2, mL3, mL4, cIn, nI_clamp, nI_add, cMul, cSub, cM1, nar0, nar1, true_implies, false_implies, not_true_eq_false, not_false_eq_true, true_and, and_true]
    exact ⟨fun _ => this, fun _ => this⟩
  have k65m : ∀ y : Int32, ¬ apE T A f e → p_Au_lighten_65 (nI e) te Q mI y (Au_weight_s au w) := by
    intro y no
    have := h0 (fun u => no u.1)
    unfold p_Au_lighten_65
    simp (disch := omega) only [↓mI_e, litI, cLeT, cLeF, cLtT, cLtF, cEqF, cEqT, mE1, mE2, mL1, mL2, mL3, mL4, cIn, nI_clamp, nI_add, cMul, cSub, cM1, nar0, nar1, true_implies, false_implies, not_true_eq_false, not_false_eq_true, true_and, and_true]
    exact this
  have k32 : ∀ ya : Nat, ya ≤ 63 → (1 ≤ tp T (as' A e) → f (a1' A e) ≠ 0) → ya = (if 1 ≤ tp T (as' A e) then f (a1' A e) else 0) → p_Au_lighten_32 (nI e) te Q (nI ya) (Au_weight_s au w) := by
    intro ya l1 ap1 hy
    unfold p_Au_lighten_32
    simp (disch := omega) only [↓mI_e, litI, cLeT, cLeF, cLtT, cLtF, cEqF, cEqT, mE1, mE2, mL1, mL2, mL3, mL4, cIn, nI_clamp, nI_add, cMul, cSub, cM1, nar0, nar1, true_implies, false_implies, not_true_eq_false, not_false_eq_true, true_and, and_true, c1, places_t hT]
    by_cases t2 : 2 ≤ tp T (as' A e)
    · simp (disch := omega) only [↓mI_e, litI, cLeT, cLeF, cLtT, cLtF, cEqF, cEqT, mE1, mE2, mL1, mL2, mL3, mL4, cIn, nI_clamp, nI_add, cMul, cSub, cM1, nar0, nar1, true_implies, false_implies, not_true_eq_false, not_false_eq_true, true_and, and_true, c3]
      rw [cw _ oe.2.2.1]
      by_cases z : f (a2' A e) = 0
      · rw [z, wI_0]
        exact k65n _ (fun ap => ap.2 t2 z)
      · rw [wI_n z]
        refine k65 ya _ l1 b2 ⟨ap1, fun _ => z⟩ ?_
        unfold lze
        rw [if_pos t2, ← hy]
    · simp (disch := omega) only [↓mI_e, litI, cLeT, cLeF, cLtT, cLtF, cEqF, cEqT, mE1, mE2, mL1, mL2, mL3, mL4, cIn, nI_clamp, nI_add, cMul, cSub, cM1, nar0, nar1, true_implies, false_implies, not_true_eq_false, not_false_eq_true, true_and, and_true]
      refine k65 ya 0 l1 (by omega) ⟨ap1, fun h => absurd h t2⟩ ?_
      unfold lze
      rw [if_neg t2, ← hy]
  unfold p_Au_lighten
  simp (disch := omega) only [↓mI_e, litI, cLeT, cLeF, cLtT, cLtF, cEqF, cEqT, mE1, mE2, mL1, mL2, mL3, mL4, cIn, nI_clamp, nI_add, cMul, cSub, cM1, nar0, nar1, true_implies, false_implies, not_true_eq_false, not_false_eq_true, true_and, and_true, c1, places_t hT]
  by_cases t1 : 1 ≤ tp T (as' A e)
  · simp (disch := omega) only [↓mI_e, litI, cLeT, cLeF, cLtT, cLtF, cEqF, cEqT, mE1, mE2, mL1, mL2, mL3, mL4, cIn, nI_clamp, nI_add, cMul, cSub, cM1, nar0, nar1, true_implies, false_implies, not_true_eq_false, not_false_eq_true, true_and, and_true, c2]
    rw [cw _ oe.2.1]
    by_cases z : f (a1' A e) = 0
    · rw [z, wI_0]
      have no : ¬ apE T A f e := fun ap => ap.1 t1 z
      unfold p_Au_lighten_32
      simp (disch := omega) only [↓mI_e, litI, cLeT, cLeF, cLtT, cLtF, cEqF, cEqT, mE1, mE2, mL1, mL2, mL3, mL4, cIn, nI_clamp, nI_add, cMul, cSub, cM1, nar0, nar1, true_implies, false_implies, not_true_eq_false, not_false_eq_true, true_and, and_true, c1, places_t hT]
      by_cases t2 : 2 ≤ tp T (as' A e)
      · simp (disch := omega) only [↓mI_e, litI, cLeT, cLeF, cLtT, cLtF, cEqF, cEqT, mE1, mE2, mL1, mL2, mL3, mL4, cIn, nI_clamp, nI_add, cMul, cSub, cM1, nar0, nar1, true_implies, false_implies, not_true_eq_false, not_false_eq_true, true_and, and_true, c3]
        exact k65m _ no
      · simp (disch := omega) only [↓mI_e, litI, cLeT, cLeF, cLtT, cLtF, cEqF, cEqT, mE1, mE2, mL1, mL2, mL3, mL4, cIn, nI_clamp, nI_add, cMul, cSub, cM1, nar0, nar1, true_implies, false_implies, not_true_eq_false, not_false_eq_true, true_and, and_true]
        exact k65m _ no
    · rw [wI_n z]
      exact k32 _ b1 (fun _ => z) (by rw [if_pos t1])
  · simp (disch := omega) only [↓mI_e, litI, cLeT, cLeF, cLtT, cLtF, cEqF, cEqT, mE1, mE2, mL1, mL2, mL3, mL4, cIn, nI_clamp, nI_add, cMul, cSub, cM1, nar0, nar1, true_implies, false_implies, not_true_eq_false, not_false_eq_true, true_and, and_true]
    exact k32 0 (by omega) (fun h => absurd h t1) (by rw [if_neg t1])
theorem s_leastS {q : Nat} {Q : Int32 → Au → Prop} (hT : tTe T te) (ho : aOk T A) (ha : aAu A F au) (hq : q < 6) (hQ : ∀ f w, (∀ p, p < 6 → st6' T A f p) → (∀ p, p < 6 → f p ≠ 0 → Ac6 T A p (f p)) → (∀ p, p < 6 → f p ≤ 63) → Q (wI (f q)) (Au_weight_s au w)) : p_Au_leastSize (nI q) te au Q := by
  have h20 := ho.1
  have hcn : ∀ w, Au_count (Au_weight_s au w) = nI (an A) := fun w => ha.1
  have k10 : ∀ w, rep6 w (fun _ => 0) → ∃ n, p_Au_leastSize_10 (nI q) te Q n (0 : Int32) (Au_weight_s au w) := by
    intro w hw
    refine forN (fun n i (w : Nat → Int32) => p_Au_leastSize_10 (nI q) te Q n i (Au_weight_s au w)) (fun i w => ∃ f, rep6 w f ∧ bd6 f ∧ (∀ p, p < 6 → f p ≠ 0 → Ac6 T A p (f p)) ∧ ((∀ p, p < 6 → st6' T A f p) ∨ i ≤ cN (st6' T A f) 6)) 6 0 w (by omega) ⟨fun _ => 0, hw, fun p _ => Nat.one_le_two_pow, fun p _ h => absurd rfl h, Or.inr (by omega)⟩ ?_ ?_
    · rintro n w ⟨f, h1, h2, h3, h4⟩
      unfold p_Au_leastSize_10
      simp (disch := omega) only [↓mI_e, litI, cLeT, cLeF, cLtT, cLtF, cEqF, cEqT, mE1, mE2, mL1, mL2, mL3, mL4, cIn, nI_clamp, nI_add, cMul, cSub, cM1, nar0, nar1, true_implies, false_implies, not_true_eq_false, not_false_eq_true, true_and, and_true]
      rw [show Au_weight (Au_weight_s au w) q = wI (f q) from h1 q hq]
      refine hQ f w ?_ h3 (fun p hp => bd6_63 h2 hp)
      rcases h4 with h4 | h4
      · exact h4
      · exact st6_all h4
    · rintro n i w hi ⟨f, h1, h2, h3, h4⟩ ih
      unfold p_Au_leastSize_10
      simp (disch := omega) only [↓mI_e, litI, cLeT, cLeF, cLtT, cLtF, cEqF, cEqT, mE1, mE2, mL1, mL2, mL3, mL4, cIn, nI_clamp, nI_add, cMul, cSub, cM1, nar0, nar1, true_implies, false_implies, not_true_eq_false, not_false_eq_true, true_and, and_true]
      refine forN (fun m e (w : Nat → Int32) => p_Au_leastSize_18 (nI q) te Q (fun a0 a1 => p_Au_leastSize_10 (nI q) te Q n a0 a1) m (nI i) e (Au_weight_s au w)) (fun k w => ∃ g, rep6 w g ∧ bd6 g ∧ (∀ p, p < 6 → g p ≠ 0 → Ac6 T A p (g p)) ∧ bet f g ∧ ∀ e, e < k → apE T A f e → g (at' A e) ≠ 0 ∧ g (at' A e) ≤ lze T A f e) (an A) 0 w (by omega) ⟨f, h1, h2, h3, fun p _ h => ⟨h, Nat.le_refl _⟩, fun e h => by omega⟩ ?_ ?_
      · rintro m w ⟨g, d1, d2, d3, d4, d5⟩
        unfold p_Au_leastSize_18
        rw [hcn]
        simp (disch := omega) only [↓mI_e, litI, cLeT, cLeF, cLtT, cLtF, cEqF, cEqT, mE1, mE2, mL1, mL2, mL3, mL4, cIn, nI_clamp, nI_add, cMul, cSub, cM1, nar0, nar1, true_implies, false_implies, not_true_eq_false, not_false_eq_true, true_and, and_true]
        refine ih w ⟨g, d1, d2, d3, ?_⟩
        rcases st6_round ho d4 d5 with z | z
        · exact Or.inl (fun p hp => st6_bet d4 hp (z p hp))
        · rcases h4 with h4 | h4
          · exact Or.inl (fun p hp => st6_bet d4 hp (h4 p hp))
          · exact Or.inr (by omega)
      · rintro m e w he ⟨g, d1, d2, d3, d4, d5⟩ ih2
        have oe := ho.2 e he
        unfold p_Au_leastSize_18
        rw [hcn]
        simp (disch := omega) only [↓mI_e, litI, cLeT, cLeF, cLtT, cLtF, cEqF, cEqT, mE1, mE2, mL1, mL2, mL3, mL4, cIn, nI_clamp, nI_add, cMul, cSub, cM1, nar0, nar1, true_implies, false_implies, not_true_eq_false, not_false_eq_true, true_and, and_true]
        have apg : apE T A f e → apE T A g e ∧ lze T A g e ≤ lze T A f e := fun ap => ⟨⟨fun t1 => (d4 _ oe.2.1 (ap.1 t1)).1, fun t2 => (d4 _ oe.2.2.1 (ap.2 t2)).1⟩, lze_le (fun t1 => (d4 _ oe.2.1 (ap.1 t1)).2) (fun t2 => (d4 _ oe.2.2.1 (ap.2 t2)).2)⟩
        refine s_lighten hT ho ha he d1 (fun p hp => bd6_63 d2 hp) (fun no => ?_) (fun up => ?_)
        · refine ih2 w ⟨g, d1, d2, d3, d4, fun e' he' ap => ?_⟩
          by_cases e9 : e' = e
          · subst e9
            have h9 := apg ap
            have h8 : ¬ (g (at' A e') = 0 ∨ lze T A g e' < g (at' A e')) := fun z => no ⟨h9.1, z⟩
            exact ⟨fun z => h8 (Or.inl z), by omega⟩
          · exact d5 e' (by omega) ap
        · have v0 := lze_pos (T := T) (A := A) g e
          have g1 := d2 (a1' A e) oe.2.1
          have g2 := d2 (a2' A e) oe.2.2.1
          have vb : lze T A g e + 1 ≤ 2 * 2 ^ (cN (fun q => g q ≠ 0) 6) := by
            have h1 : 1 ≤ 2 ^ (cN (fun q => g q ≠ 0) 6) := Nat.one_le_two_pow
            unfold lze
            by_cases t1 : 1 ≤ tp T (as' A e)
            · rw [if_pos t1]
              by_cases t2 : 2 ≤ tp T (as' A e)
              · rw [if_pos t2]; omega
              · rw [if_neg t2]; omega
            · rw [if_neg t1, if_neg (by omega)]; omega
          refine ih2 _ ⟨fun p => if p = at' A e then lze T A g e else g p, fun p hp => ?_, bd6_upd d2 oe.2.2.2.1 (by omega) vb up.2, fun p hp h => ?_, fun p hp h => ?_, fun e' he' ap => ?_⟩
          · dsimp only
            by_cases e9 : p = at' A e
            · rw [if_pos e9, upd_s e9, wI_n (by omega)]
            · rw [if_neg e9, upd_n e9]; exact d1 p hp
          · dsimp only at h ⊢
            by_cases e9 : p = at' A e
            · rw [if_pos e9, e9]
              exact Ac6.mk he (fun t1 => d3 _ oe.2.1 (up.1.1 t1)) (fun t2 => d3 _ oe.2.2.1 (up.1.2 t2))
            · rw [if_neg e9] at h ⊢; exact d3 p hp h
          · have h9 := d4 p hp h
            dsimp only
            by_cases e9 : p = at' A e
            · rw [if_pos e9]
              refine ⟨by omega, ?_⟩
              rcases up.2 with z | z
              · exact absurd (e9 ▸ z) h9.1
              · rw [← e9] at z; omega
            · rw [if_neg e9]; exact h9
          · dsimp only
            by_cases e9 : at' A e' = at' A e
            · rw [if_pos e9]
              refine ⟨by omega, ?_⟩
              by_cases e8 : e' = e
              · subst e8; exact (apg ap).2
              · have h9 := d5 e' (by omega) ap
                rw [e9] at h9
                rcases up.2 with z | z
                · exact absurd z h9.1
                · omega
            · rw [if_neg e9]
              by_cases e8 : e' = e
              · exact absurd (by rw [e8]) e9
              · exact d5 e' (by omega) ap
  unfold p_Au_leastSize p_Ar_fillI_weight
  refine forN (fun n i (w : Nat → Int32) => p_Ar_fillI_weight_5 (-1 : Int32) (fun au5 => ∃ f, p_Au_leastSize_10 (nI q) te Q f (0 : Int32) au5) n i (6 : Int32) (Au_weight_s au w)) (fun i w => ∀ p, p < i → w p = mI) 6 0 (Au_weight au) (by omega) (fun p hp => by omega) ?_ ?_
  · intro n w hw
    unfold p_Ar_fillI_weight_5
    simp (disch := omega) only [↓mI_e, litI, cLeT, cLeF, cLtT, cLtF, cEqF, cEqT, mE1, mE2, mL1, mL2, mL3, mL4, cIn, nI_clamp, nI_add, cMul, cSub, cM1, nar0, nar1, true_implies, false_implies, not_true_eq_false, not_false_eq_true, true_and, and_true]
    exact k10 w hw
  · intro n i w hi hw ih
    unfold p_Ar_fillI_weight_5
    simp (disch := omega) only [↓mI_e, litI, cLeT, cLeF, cLtT, cLtF, cEqF, cEqT, mE1, mE2, mL1, mL2, mL3, mL4, cIn, nI_clamp, nI_add, cMul, cSub, cM1, nar0, nar1, true_implies, false_implies, not_true_eq_false, not_false_eq_true, true_and, and_true]
    refine nm_e (ih _ (fun p hp => ?_))
    show upd w i mI p = mI
    by_cases e : p = i
    · exact upd_s e
    · rw [upd_n e]; exact hw p (by omega)
end
