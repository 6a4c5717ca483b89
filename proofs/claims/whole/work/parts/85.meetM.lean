/-! what meets what, as the reference finds it -/
section
variable {T : Tab} {R : Rul} {mo : Mo}
theorem s_partsJM {s t : Nat} {Q : Int32 → Prop} {g : Nat → Int32} (hM : tMo T (Mo_joins_s mo g)) (hs : s < tn T) (ht : t < tn T) (h1 : cg T (gG g) s t → Q (nI 1)) (h0 : ¬ cg T (gG g) s t → Q (nI 0)) : p_Mo_parts_joins (nI s) (nI t) (Mo_joins_s mo g) Q := by
  have hn := hM.2.1
  have o := hM.1
  have os := o.2.2 s hs
  have ot := o.2.2 t ht
  have q2 : tq T s ≤ 2 := o.2.1 _
  obtain ⟨-, -, -, -, c1, c2, c3⟩ := hM
  unfold p_Mo_parts_joins
  simp (disch := omega) only [↓mI_e, litI, cLeT, cLeF, cLtT, cLtF, cEqF, cEqT, mE1, mE2, mL1, mL2, mL3, mL4, cIn, nI_clamp, nI_add, cMul, cSub, cM1, nar0, nar1, true_implies, false_implies, not_true_eq_false, not_false_eq_true, true_and, and_true]
  rw [c1 s hs, c1 t ht]
  by_cases es : ts T s = ts T t
  · have eq : tq T s = tq T t := by unfold tq; rw [es]
    have k47 : (1 ≤ tq T s → gG g (ta T s) (ta T t)) → p_Mo_parts_joins_47 (nI s) (nI t) (Mo_joins_s mo g) Q := by
      intro k1
      unfold p_Mo_parts_joins_47 p_Mo_parts_joins_77
      simp (disch := omega) only [↓mI_e, litI, cLeT, cLeF, cLtT, cLtF, cEqF, cEqT, mE1, mE2, mL1, mL2, mL3, mL4, cIn, nI_clamp, nI_add, cMul, cSub, cM1, nar0, nar1, true_implies, false_implies, not_true_eq_false, not_false_eq_true, true_and, and_true]
      rw [c3 s hs, c3 t ht]
      by_cases t2 : 2 ≤ tq T s
      · simp (disch := omega) only [↓mI_e, litI, cLeT, cLeF, cLtT, cLtF, cEqF, cEqT, mE1, mE2, mL1, mL2, mL3, mL4, cIn, nI_clamp, nI_add, cMul, cSub, cM1, nar0, nar1, true_implies, false_implies, not_true_eq_false, not_false_eq_true, true_and, and_true, pcNf]
        rw [pc_n t2, pc_n (by omega)]
        simp (disch := omega) only [↓mI_e, litI, cLeT, cLeF, cLtT, cLtF, cEqF, cEqT, mE1, mE2, mL1, mL2, mL3, mL4, cIn, nI_clamp, nI_add, cMul, cSub, cM1, nar0, nar1, true_implies, false_implies, not_true_eq_false, not_false_eq_true, true_and, and_true]
        refine ⟨fun k => h0 (fun c => c.2.2 t2 k), fun k => h1 ⟨es, k1, fun _ => k⟩⟩
      · simp (disch := omega) only [↓mI_e, litI, cLeT, cLeF, cLtT, cLtF, cEqF, cEqT, mE1, mE2, mL1, mL2, mL3, mL4, cIn, nI_clamp, nI_add, cMul, cSub, cM1, nar0, nar1, true_implies, false_implies, not_true_eq_false, not_false_eq_true, true_and, and_true, pcNt]
        exact h1 ⟨es, k1, fun h => by omega⟩
    rw [c2 s hs, c2 t ht]
    by_cases t1 : 1 ≤ tq T s
    · simp (disch := omega) only [↓mI_e, litI, cLeT, cLeF, cLtT, cLtF, cEqF, cEqT, mE1, mE2, mL1, mL2, mL3, mL4, cIn, nI_clamp, nI_add, cMul, cSub, cM1, nar0, nar1, true_implies, false_implies, not_true_eq_false, not_false_eq_true, true_and, and_true, pcNf]
      rw [pc_n t1, pc_n (by omega)]
      simp (disch := omega) only [↓mI_e, litI, cLeT, cLeF, cLtT, cLtF, cEqF, cEqT, mE1, mE2, mL1, mL2, mL3, mL4, cIn, nI_clamp, nI_add, cMul, cSub, cM1, nar0, nar1, true_implies, false_implies, not_true_eq_false, not_false_eq_true, true_and, and_true]
      exact ⟨fun k => h0 (fun c => c.2.1 t1 k), fun k => k47 (fun _ => k)⟩
    · simp (disch := omega) only [↓mI_e, litI, cLeT, cLeF, cLtT, cLtF, cEqF, cEqT, mE1, mE2, mL1, mL2, mL3, mL4, cIn, nI_clamp, nI_add, cMul, cSub, cM1, nar0, nar1, true_implies, false_implies, not_true_eq_false, not_false_eq_true, true_and, and_true, pcNt]
      exact k47 (fun h => by omega)
  · simp (disch := omega) only [↓mI_e, litI, cLeT, cLeF, cLtT, cLtF, cEqF, cEqT, mE1, mE2, mL1, mL2, mL3, mL4, cIn, nI_clamp, nI_add, cMul, cSub, cM1, nar0, nar1, true_implies, false_implies, not_true_eq_false, not_false_eq_true, true_and, and_true]
    exact h0 (fun c => es c.1)

theorem s_byRuleJ {s t : Nat} {Q : Int32 → Prop} {g : Nat → Int32} (hn : tn T ≤ 48) (hr : rMo R (Mo_joins_s mo g)) (ho : rOk T R) (hs : s < tn T) (ht : t < tn T) (h1 : byR R (gG (Mo_goes mo)) (gG g) s t → Q (nI 1)) (h0 : ¬ byR R (gG (Mo_goes mo)) (gG g) s t → Q (nI 0)) : p_Mo_byRule_joins (nI s) (nI t) (Mo_joins_s mo g) Q := by
  have h8 := ho.1
  obtain ⟨c0, c1, c2⟩ := hr
  unfold p_Mo_byRule_joins
  refine forN (fun f i x => p_Mo_byRule_joins_6 (nI s) (nI t) (Mo_joins_s mo g) Q f x i) (fun i x => (x = nI 1 ∧ byR R (gG (Mo_goes mo)) (gG g) s t) ∨ (x = nI 0 ∧ ∀ k, k < i → ¬ (gG (Mo_goes mo) s (rl R k) ∧ gG g (rr R k) t))) (rn R) 0 _ (by omega) (Or.inr ⟨rfl, fun k hk => by omega⟩) ?_ ?_
  · intro f x hx
    unfold p_Mo_byRule_joins_6
    rw [c0]
    simp (disch := omega) only [↓mI_e, litI, cLeT, cLeF, cLtT, cLtF, cEqF, cEqT, mE1, mE2, mL1, mL2, mL3, mL4, cIn, nI_clamp, nI_add, cMul, cSub, cM1, nar0, nar1, true_implies, false_implies, not_true_eq_false, not_false_eq_true, true_and, and_true]
    rcases hx with ⟨rfl, hx⟩ | ⟨rfl, hx⟩
    · exact ⟨Or.inr rfl, h1 hx⟩
    · exact ⟨Or.inl rfl, h0 (fun ⟨i, hi, k⟩ => hx i hi k)⟩
  · intro f i x hi hx ih
    have oi := ho.2 i hi
    unfold p_Mo_byRule_joins_6 p_Mo_byRule_joins_57
    rw [c0]
    rcases hx with ⟨rfl, hx⟩ | ⟨rfl, hx⟩
    · simp (disch := omega) only [↓mI_e, litI, cLeT, cLeF, cLtT, cLtF, cEqF, cEqT, mE1, mE2, mL1, mL2, mL3, mL4, cIn, nI_clamp, nI_add, cMul, cSub, cM1, nar0, nar1, true_implies, false_implies, not_true_eq_false, not_false_eq_true, true_and, and_true]
      exact ih _ (Or.inl ⟨rfl, hx⟩)
    · simp (disch := omega) only [↓mI_e, litI, cLeT, cLeF, cLtT, cLtF, cEqF, cEqT, mE1, mE2, mL1, mL2, mL3, mL4, cIn, nI_clamp, nI_add, cMul, cSub, cM1, nar0, nar1, true_implies, false_implies, not_true_eq_false, not_false_eq_true, true_and, and_true]
      rw [c1 i hi, c2 i hi]
      simp (disch := omega) only [↓mI_e, litI, cLeT, cLeF, cLtT, cLtF, cEqF, cEqT, mE1, mE2, mL1, mL2, mL3, mL4, cIn, nI_clamp, nI_add, cMul, cSub, cM1, nar0, nar1, true_implies, false_implies, not_true_eq_false, not_false_eq_true, true_and, and_true]
      have no : ¬ (gG (Mo_goes mo) s (rl R i) ∧ gG g (rr R i) t) → ∀ k, k < i + 1 → ¬ (gG (Mo_goes mo) s (rl R k) ∧ gG g (rr R k) t) := fun q k hk => by
        by_cases e : k = i
        · exact e ▸ q
        · exact hx k (by omega)
      exact ⟨fun k => ih _ (Or.inr ⟨rfl, no (fun q => q.1 k)⟩), fun k => ⟨fun k2 => ih _ (Or.inr ⟨rfl, no (fun q => q.2 k2)⟩), fun k2 => ih _ (Or.inl ⟨rfl, i, hi, k, k2⟩)⟩⟩
/-- what the reference adds -/
def jAdd (T : Tab) (R : Rul) (G g : Nat → Int32) (s t : Nat) : Prop := gG g t s ∨ cg T (gG g) s t ∨ byR R (gG G) (gG g) s t
theorem s_passJ {x1 x2 : Int32} {Q : Int32 → Mo → Prop} {k40 : Int32 → Mo → Prop} {g : Nat → Int32} (hM : tMo T mo) (hr : rMo R mo) (ho : rOk T R) (hG : ∀ s t, s < tn T → t < tn T → (gG (Mo_goes mo) s t ↔ Rch T R s t)) (hB : ∀ k, k < 2304 → isB (g k)) (hS : ∀ s t, s < tn T → t < tn T → gG g s t → Jn T R s t) (hQ : ∀ x g', (∀ k, k < 2304 → isB (g' k)) → (∀ s t, s < tn T → t < tn T → gG g' s t → Jn T R s t) → incM (tn T) g g' → ((x = nI 0 ∧ g' = g ∧ ∀ s t, s < tn T → t < tn T → jAdd T R (Mo_goes mo) g s t → gG g s t) ∨ (x = nI 1 ∧ cN (prsM (tn T) g) 2304 < cN (prsM (tn T) g') 2304)) → k40 x (Mo_joins_s mo g')) : ∃ f, p_Mo_meet_49 x1 x2 Q k40 f (0 : Int32) (0 : Int32) (Mo_joins_s mo g) := by
  have hn := hM.2.1
  have hMg : ∀ g, tMo T (Mo_joins_s mo g) := fun g => hM
  have hrg : ∀ g, rMo R (Mo_joins_s mo g) := fun g => hr
  have hcg : ∀ g, Mo_count (Mo_joins_s mo g) = nI (tn T) := fun g => hM.2.2.1
  refine forN (fun f i (s : Int32 × (Nat → Int32)) => p_Mo_meet_49 x1 x2 Q k40 f s.1 i (Mo_joins_s mo s.2)) (fun i s => (∀ k, k < 2304 → isB (s.2 k)) ∧ (∀ u v, u < tn T → v < tn T → gG s.2 u v → Jn T R u v) ∧ incM (tn T) g s.2 ∧ ((s.1 = nI 0 ∧ s.2 = g ∧ ∀ u v, u < i → v < tn T → jAdd T R (Mo_goes mo) g u v → gG g u v) ∨ (s.1 = nI 1 ∧ cN (prsM (tn T) g) 2304 < cN (prsM (tn T) s.2) 2304))) (tn T) 0 (0, g) (by omega) ⟨hB, hS, incM.rf _ g, Or.inl ⟨rfl, rfl, fun u v h => by omega⟩⟩ ?_ ?_
  · rintro f ⟨x, g'⟩ ⟨h0, h1, h2, h3⟩
    dsimp only at h0 h1 h2 h3 ⊢
    unfold p_Mo_meet_49
    rw [hcg]
    simp (disch := omega) only [↓mI_e, litI, cLeT, cLeF, cLtT, cLtF, cEqF, cEqT, mE1, mE2, mL1, mL2, mL3, mL4, cIn, nI_clamp, nI_add, cMul, cSub, cM1, nar0, nar1, true_implies, false_implies, not_true_eq_false, not_false_eq_true, true_and, and_true]
    exact hQ x g' h0 h1 h2 h3
  · rintro f i ⟨x, g'⟩ hi ⟨h0, h1, h2, h3⟩ ih
    dsimp only at h0 h1 h2 h3 ⊢
    unfold p_Mo_meet_49
    rw [hcg]
    simp (disch := omega) only [↓mI_e, litI, cLeT, cLeF, cLtT, cLtF, cEqF, cEqT, mE1, mE2, mL1, mL2, mL3, mL4, cIn, nI_clamp, nI_add, cMul, cSub, cM1, nar0, nar1, true_implies, false_implies, not_true_eq_false, not_false_eq_true, true_and, and_true]
    refine forN (fun f' k (s : Int32 × (Nat → Int32)) => p_Mo_meet_61 x1 x2 Q k40 (fun a0 a1 a2 => p_Mo_meet_49 x1 x2 Q k40 f a0 a1 a2) f' s.1 (nI i) k (Mo_joins_s mo s.2)) (fun k s => (∀ k, k < 2304 → isB (s.2 k)) ∧ (∀ u v, u < tn T → v < tn T → gG s.2 u v → Jn T R u v) ∧ incM (tn T) g s.2 ∧ ((s.1 = nI 0 ∧ s.2 = g ∧ (∀ u v, u < i → v < tn T → jAdd T R (Mo_goes mo) g u v → gG g u v) ∧ ∀ v, v < k → jAdd T R (Mo_goes mo) g i v → gG g i v) ∨ (s.1 = nI 1 ∧ cN (prsM (tn T) g) 2304 < cN (prsM (tn T) s.2) 2304))) (tn T) 0 (x, g') (by omega) ⟨h0, h1, h2, h3.imp (fun k => ⟨k.1, k.2.1, k.2.2, fun v h => by omega⟩) id⟩ ?_ ?_
    · rintro f' ⟨x, g'⟩ ⟨h0, h1, h2, h3⟩
      dsimp only at h0 h1 h2 h3 ⊢
      unfold p_Mo_meet_61
      rw [hcg]
      simp (disch := omega) only [↓mI_e, litI, cLeT, cLeF, cLtT, cLtF, cEqF, cEqT, mE1, mE2, mL1, mL2, mL3, mL4, cIn, nI_clamp, nI_add, cMul, cSub, cM1, nar0, nar1, true_implies, false_implies, not_true_eq_false, not_false_eq_true, true_and, and_true]
      refine ih (x, g') ⟨h0, h1, h2, h3.imp (fun k => ⟨k.1, k.2.1, fun u v hu hv c => ?_⟩) id⟩
      by_cases e : u = i
      · subst e; exact k.2.2.2 v hv c
      · exact k.2.2.1 u v (by omega) hv c
    · rintro f' k ⟨x, g'⟩ hk ⟨h0, h1, h2, h3⟩ ih2
      dsimp only at h0 h1 h2 h3 ⊢
      unfold p_Mo_meet_61
      rw [hcg]
      simp (disch := omega) only [↓mI_e, litI, cLeT, cLeF, cLtT, cLtF, cEqF, cEqT, mE1, mE2, mL1, mL2, mL3, mL4, cIn, nI_clamp, nI_add, cMul, cSub, cM1, nar0, nar1, true_implies, false_implies, not_true_eq_false, not_false_eq_true, true_and, and_true]
      have skip : (x = nI 0 → g' = g → jAdd T R (Mo_goes mo) g i k → gG g i k) → p_Mo_meet_61 x1 x2 Q k40 (fun a0 a1 a2 => p_Mo_meet_49 x1 x2 Q k40 f a0 a1 a2) f' x (nI i) (nI (k + 1)) (Mo_joins_s mo g') := by
        intro hs
        refine ih2 (x, g') ⟨h0, h1, h2, h3.imp (fun q => ⟨q.1, q.2.1, q.2.2.1, fun v hv c => ?_⟩) id⟩
        by_cases e : v = k
        · subst e; exact hs q.1 q.2.1 c
        · exact q.2.2.2 v (by omega) c
      have put : jAdd T R (Mo_goes mo) g' i k → p_Mo_meet_116 x1 x2 Q k40 (fun a0 a1 a2 => p_Mo_meet_49 x1 x2 Q k40 f a0 a1 a2) (fun a0 a1 a2 a3 => p_Mo_meet_61 x1 x2 Q k40 (fun a0 a1 a2 => p_Mo_meet_49 x1 x2 Q k40 f a0 a1 a2) f' a0 a1 a2 a3) x (nI i) (nI k) (Mo_joins_s mo g') := by
        intro c
        unfold p_Mo_meet_116 p_Mo_meet_121
        simp (disch := omega) only [↓mI_e, litI, cLeT, cLeF, cLtT, cLtF, cEqF, cEqT, mE1, mE2, mL1, mL2, mL3, mL4, cIn, nI_clamp, nI_add, cMul, cSub, cM1, nar0, nar1, true_implies, false_implies, not_true_eq_false, not_false_eq_true, true_and, and_true]
        refine ⟨fun hyes => skip (fun _ e _ => e ▸ hyes), fun hno => ?_⟩
        have hno : ¬ gG g' i k := fun q => q hno
        refine nm_e (ih2 (nI 1, upd g' (48 * i + k) (nI 1)) ?_)
        have i1 : incM (tn T) g' (upd g' (48 * i + k) (nI 1)) := fun u v hu hv q => (gG_upd (by omega) (by omega)).mpr (Or.inl q)
        refine ⟨fun k9 hk9 => ?_, fun u v hu hv q => ?_, h2.tr i1, Or.inr ⟨rfl, ?_⟩⟩
        · show isB (upd g' (48 * i + k) (nI 1) k9)
          by_cases e : k9 = 48 * i + k
          · rw [upd_s e]; exact Or.inr rfl
          · rw [upd_n e]; exact h0 k9 hk9
        · rcases (gG_upd (by omega) (by omega)).mp q with q | ⟨q1, q2⟩
          · exact h1 u v hu hv q
          · subst q1 q2
            have oi := hM.1.2.2 u hu
            have ok := hM.1.2.2 v hv
            rcases c with c | c | ⟨r, hr', c1, c2⟩
            · exact (h1 _ _ hv hu c).sy
            · have eq := c.q
              exact Jn.cn hu hv ⟨c.1, fun h => h1 _ _ (by omega) (by omega) (c.2.1 h), fun h => h1 _ _ (by omega) (by omega) (c.2.2 h)⟩
            · exact Jn.ru hr' ((hG _ _ hu (ho.2 r hr').1).mp c1) (h1 _ _ (ho.2 r hr').2.1 hv c2)
        · have l1 : cN (prsM (tn T) g) 2304 ≤ cN (prsM (tn T) g') 2304 := cN_mono _ (fun k _ hk => ⟨hk.1, hk.2.1, h2 _ _ hk.1 hk.2.1 hk.2.2⟩)
          have l2 := prsM_lt hn i1 hi hk hno ((gG_upd (by omega) (by omega)).mpr (Or.inr ⟨rfl, rfl⟩))
          dsimp only
          omega
      refine ⟨fun hyes => put (Or.inl hyes), fun hno1 => ?_⟩
      have hno1 : ¬ gG g' k i := fun q => q hno1
      refine s_partsJM (hMg g') hi hk (fun c => ?_) (fun c => ?_)
      · simp (disch := omega) only [↓mI_e, litI, cLeT, cLeF, cLtT, cLtF, cEqF, cEqT, mE1, mE2, mL1, mL2, mL3, mL4, cIn, nI_clamp, nI_add, cMul, cSub, cM1, nar0, nar1, true_implies, false_implies, not_true_eq_false, not_false_eq_true, true_and, and_true]
        exact put (Or.inr (Or.inl c))
      · simp (disch := omega) only [↓mI_e, litI, cLeT, cLeF, cLtT, cLtF, cEqF, cEqT, mE1, mE2, mL1, mL2, mL3, mL4, cIn, nI_clamp, nI_add, cMul, cSub, cM1, nar0, nar1, true_implies, false_implies, not_true_eq_false, not_false_eq_true, true_and, and_true]
        refine s_byRuleJ hn (hrg g') ho hi hk (fun c => ?_) (fun c2 => ?_)
        · simp (disch := omega) only [↓mI_e, litI, cLeT, cLeF, cLtT, cLtF, cEqF, cEqT, mE1, mE2, mL1, mL2, mL3, mL4, cIn, nI_clamp, nI_add, cMul, cSub, cM1, nar0, nar1, true_implies, false_implies, not_true_eq_false, not_false_eq_true, true_and, and_true]
          exact put (Or.inr (Or.inr c))
        · unfold p_Mo_meet_121
          simp (disch := omega) only [↓mI_e, litI, cLeT, cLeF, cLtT, cLtF, cEqF, cEqT, mE1, mE2, mL1, mL2, mL3, mL4, cIn, nI_clamp, nI_add, cMul, cSub, cM1, nar0, nar1, true_implies, false_implies, not_true_eq_false, not_false_eq_true, true_and, and_true]
          have sk := skip (fun _ e q => by
            subst e
            rcases q with q | q | q
            · exact absurd q hno1
            · exact absurd q c
            · exact absurd q c2)
          exact ⟨fun _ => sk, fun _ => sk⟩
theorem s_meetM {s t : Nat} {Q : Int32 → Mo → Prop} (hM : tMo T mo) (hr : rMo R mo) (ho : rOk T R) (hs : s < tn T) (ht : t < tn T) (h1 : Jn T R s t → ∀ G g, Q (nI 1) (Mo_joins_s (Mo_goes_s (Mo_thrown_s mo 0) G) g)) (h0 : ¬ Jn T R s t → ∀ G g, Q (nI 0) (Mo_joins_s (Mo_goes_s (Mo_thrown_s mo 0) G) g)) : p_Mo_meet (nI s) (nI t) mo Q := by
  have hn := hM.2.1
  unfold p_Mo_meet
  refine s_ask hM hr ho hs ht (fun G hG => ?_)
  simp (disch := omega) only [↓mI_e, litI, cLeT, cLeF, cLtT, cLtF, cEqF, cEqT, mE1, mE2, mL1, mL2, mL3, mL4, cIn, nI_clamp, nI_add, cMul, cSub, cM1, nar0, nar1, true_implies, false_implies, not_true_eq_false, not_false_eq_true, true_and, and_true]
  obtain ⟨hG1, hG2⟩ := hG
  have hM' : tMo T (Mo_goes_s (Mo_thrown_s mo 0) G) := hM.kp (goes_k (thr_k mo _) G)
  have hr' : rMo R (Mo_goes_s (Mo_thrown_s mo 0) G) := hr.kp (goes_k (thr_k mo _) G)
  have k40 : ∀ g, (∀ k, k < 2304 → g k = G k) → ∃ f, p_Mo_meet_40 (nI s) (nI t) Q f (1 : Int32) (Mo_joins_s (Mo_goes_s (Mo_thrown_s mo 0) G) g) := by
    intro g hg
    have eg : ∀ u v, u < tn T → v < tn T → (gG g u v ↔ Rch T R u v) := fun u v hu hv => by
      unfold gG
      rw [hg _ (by omega)]
      exact hG1 u v hu hv
    refine loop_m (fun f (y : Int32 × (Nat → Int32)) => p_Mo_meet_40 (nI s) (nI t) Q f y.1 (Mo_joins_s (Mo_goes_s (Mo_thrown_s mo 0) G) y.2)) (fun y => (∀ k, k < 2304 → isB (y.2 k)) ∧ (∀ u v, u < tn T → v < tn T → gG y.2 u v → Jn T R u v) ∧ incM (tn T) g y.2 ∧ (y.1 = nI 1 ∨ (y.1 = nI 0 ∧ ∀ u v, u < tn T → v < tn T → jAdd T R G y.2 u v → gG y.2 u v))) (fun y => if y.1 = nI 0 then 0 else 1 + (2304 - cN (prsM (tn T) y.2) 2304)) ?_ (1, g) ⟨fun k hk => by dsimp only; rw [hg k hk]; exact hG2 k hk, fun u v hu hv q => Jn.go ((eg u v hu hv).mp q), incM.rf _ _, Or.inl rfl⟩
    rintro f ⟨x, g'⟩ ⟨e0, e1, e2, e3⟩ ih
    dsimp only at e0 e1 e2 e3 ⊢
    unfold p_Mo_meet_40
    rcases e3 with rfl | ⟨rfl, e3⟩
    · simp (disch := omega) only [↓mI_e, litI, cLeT, cLeF, cLtT, cLtF, cEqF, cEqT, mE1, mE2, mL1, mL2, mL3, mL4, cIn, nI_clamp, nI_add, cMul, cSub, cM1, nar0, nar1, true_implies, false_implies, not_true_eq_false, not_false_eq_true, true_and, and_true]
      refine s_passJ hM' hr' ho hG1 e0 e1 (fun x2 g2 d0 d1 d2 d3 => ?_)
      refine ih (x2, g2) ⟨d0, d1, e2.tr d2, ?_⟩ ?_
      · rcases d3 with ⟨rfl, rfl, d4⟩ | ⟨rfl, d4⟩
        · exact Or.inr ⟨rfl, d4⟩
        · exact Or.inl rfl
      · dsimp only
        rw [if_neg (show ¬ nI 1 = nI 0 by decide)]
        rcases d3 with ⟨rfl, rfl, d4⟩ | ⟨rfl, d4⟩
        · rw [if_pos rfl]; omega
        · rw [if_neg (by decide)]
          have := cN_le (prsM (tn T) g2) 2304
          omega
    · simp (disch := omega) only [↓mI_e, litI, cLeT, cLeF, cLtT, cLtF, cEqF, cEqT, mE1, mE2, mL1, mL2, mL3, mL4, cIn, nI_clamp, nI_add, cMul, cSub, cM1, nar0, nar1, true_implies, false_implies, not_true_eq_false, not_false_eq_true, true_and, and_true]
      show isB (g' (48 * s + t)) ∧ Q (g' (48 * s + t)) _
      have all : ∀ u v, Jn T R u v → gG g' u v := by
        intro u v q
        have := q.2.2 (fun u v => u < tn T → v < tn T → gG g' u v) ⟨fun u v q hu hv => e2 u v hu hv ((eg u v hu hv).mpr q), fun u v hu hv z _ _ => e3 v u hv hu (Or.inl (z hu hv)), fun u v hu hv c _ _ => ?_, fun i u v hi hv k1 k2 _ _ => ?_⟩
        · exact this q.1 q.2.1
        · have os := hM.1.2.2 u hu
          have ot := hM.1.2.2 v hv
          have eq := c.q
          exact e3 u v hu hv (Or.inr (Or.inl ⟨c.1, fun h => c.2.1 h (by omega) (by omega), fun h => c.2.2 h (by omega) (by omega)⟩))
        · exact e3 u v k1.1 hv (Or.inr (Or.inr ⟨i, hi, (hG1 _ _ k1.1 (ho.2 i hi).1).mpr k1, k2 (ho.2 i hi).2.1 hv⟩))
      have hb := e0 (48 * s + t) (by omega)
      refine ⟨hb, ?_⟩
      by_cases q : Jn T R s t
      · have := all s t q
        rcases hb with hb | hb
        · exact absurd hb this
        · rw [hb]; exact h1 q _ _
      · rcases hb with hb | hb
        · rw [hb]; exact h0 q _ _
        · have : gG g' s t := by unfold gG; rw [hb]; decide
          exact absurd (e1 s t hs ht this) q
  refine forN (fun f i (g : Nat → Int32) => p_Mo_meet_13 (nI s) (nI t) Q f i (Mo_joins_s (Mo_goes_s (Mo_thrown_s mo 0) G) g)) (fun i g => ∀ k, k < i → g k = G k) 2304 0 (Mo_joins (Mo_goes_s (Mo_thrown_s mo 0) G)) (by omega) (fun k hk => by omega) ?_ ?_
  · intro f g hg
    unfold p_Mo_meet_13
    simp (disch := omega) only [↓mI_e, litI, cLeT, cLeF, cLtT, cLtF, cEqF, cEqT, mE1, mE2, mL1, mL2, mL3, mL4, cIn, nI_clamp, nI_add, cMul, cSub, cM1, nar0, nar1, true_implies, false_implies, not_true_eq_false, not_false_eq_true, true_and, and_true]
    exact k40 g hg
  · intro f i g hi hg ih
    unfold p_Mo_meet_13
    simp (disch := omega) only [↓mI_e, litI, cLeT, cLeF, cLtT, cLtF, cEqF, cEqT, mE1, mE2, mL1, mL2, mL3, mL4, cIn, nI_clamp, nI_add, cMul, cSub, cM1, nar0, nar1, true_implies, false_implies, not_true_eq_false, not_false_eq_true, true_and, and_true]
    have e9 : vp_nar .boolean (G i) = G i := by
      rcases hG2 i hi with e | e
      · rw [e]; exact nar0
      · rw [e]; exact nar1
    refine nm_e (ih _ (fun k hk => ?_))
    show upd g i (vp_nar .boolean (G i)) k = G k
    rw [e9]
    by_cases e : k = i
    · rw [upd_s e, e]
    · rw [upd_n e]; exact hg k (by omega)
end
section
variable {j : Nat} {T : Tab} {R : Rul} {A : Aut} {F : Nat} {te : Te} {ru : Ru} {au : Au} {re : Re} {la : La} {sp : Sp} {le : Le} {mo : Mo} {a1 a2 a3 a4 : Int32}
theorem joins_k {mo mo' : Mo} (h : mKp mo mo') (g : Nat → Int32) : mKp mo (Mo_joins_s mo' g) := ⟨h.1, h.2.1, h.2.2.1, h.2.2.2.1, h.2.2.2.2.1, h.2.2.2.2.2.1, h.2.2.2.2.2.2.1, h.2.2.2.2.2.2.2.1, h.2.2.2.2.2.2.2.2.1, h.2.2.2.2.2.2.2.2.2.1, h.2.2.2.2.2.2.2.2.2.2⟩
theorem q_7 (h : InvW j T R A F (te, ru, au, re, la, sp, le) mo) : ls_7 a1 a2 a3 a4 te ru au re la sp le mo (Inv (j + 1)) := by
  have hT := h.t
  have hM := h.1.2
  have hn := hM.2.1
  obtain ⟨ho, hru, hrm⟩ := h.2.1
  unfold ls_7 p_Gr_meet
  rcases two_or (n := tn T) (by omega) a1 a2 with ⟨s, t, hs, ht, rfl, rfl⟩ | hb
  · simp (disch := omega) only [↓mI_e, litI, cLeT, cLeF, cLtT, cLtF, cEqF, cEqT, mE1, mE2, mL1, mL2, mL3, mL4, cIn, nI_clamp, nI_add, cMul, cSub, cM1, nar0, nar1, true_implies, false_implies, not_true_eq_false, not_false_eq_true, true_and, and_true, made_t hT]
    refine s_renew hT hn hru ho h.c (fun re' hg hj hc _ _ => ?_)
    have hI : ∀ re'', cache j T R ru re'' → ∀ G g, Inv (j + 1) (te, ru, au, re'', la, sp, le) (Mo_joins_s (Mo_goes_s (Mo_thrown_s mo 0) G) g) := fun re'' hc G g => h.kp (joins_k (goes_k (thr_k mo _) G) g) hT h.a hc
    refine s_joins hT hn ho hs ht hg hj hc (fun q re'' hc'' => ⟨Or.inr rfl, ?_⟩) (fun q re'' hc'' => ⟨Or.inl rfl, ?_⟩)
    · exact s_meetM hM hrm ho hs ht (fun _ G g => ⟨rfl, rfl, hI re'' hc'' G g⟩) (fun q2 => absurd q q2)
    · exact s_meetM hM hrm ho hs ht (fun q2 => absurd q2 q) (fun _ G g => ⟨rfl, rfl, hI re'' hc'' G g⟩)
  · have k : (xIA = xIA) ∧ p_Mo_meet a1 a2 mo (fun b mo' => p_Mo_thrown mo' (fun t => t = (1 : Int32) ∧ Inv (j + 1) (te, ru, au, re, la, sp, le) mo')) := by
      refine ⟨rfl, ?_⟩
      unfold p_Mo_meet
      refine s_ask_bad hM hb ?_
      simp (disch := omega) only [↓mI_e, litI, cLeT, cLeF, cLtT, cLtF, cEqF, cEqT, mE1, mE2, mL1, mL2, mL3, mL4, cIn, nI_clamp, nI_add, cMul, cSub, cM1, nar0, nar1, true_implies, false_implies, not_true_eq_false, not_false_eq_true, true_and, and_true]
      exact ⟨rfl, h.same (thr_k mo _)⟩
    rcases hb with hb | ⟨s, hs, rfl, hb⟩
    · rw [made_f hT hb]
      exact ⟨fun _ => k, fun h => absurd rfl h⟩
    · rw [made_t hT hs, made_f hT hb]
      exact ⟨fun h => absurd h (by decide), fun _ => ⟨fun h => absurd rfl h, fun _ => k⟩⟩
end
