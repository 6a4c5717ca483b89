/-! what reaches what, as the reference finds it -/
def gG (g : Nat → Int32) (s t : Nat) : Prop := ¬ g (48 * s + t) = nI 0
theorem pcNt {k q a : Nat} (h : q < k) : (pc k q a < nI 0) = True := by rw [pc_m h]; exact mL1 (by omega)
theorem pcNf {k q a : Nat} (h : k ≤ q) (ha : a < 2 ^ 31) : (pc k q a < nI 0) = False := by rw [pc_n h]; exact cLtF (by omega) ha
def incM (n : Nat) (g g' : Nat → Int32) : Prop := ∀ s t, s < n → t < n → gG g s t → gG g' s t
theorem incM.rf (n : Nat) (g : Nat → Int32) : incM n g g := fun _ _ _ _ h => h
theorem incM.tr {n : Nat} {a b c : Nat → Int32} (h : incM n a b) (h' : incM n b c) : incM n a c := fun u v hu hv h1 => h' u v hu hv (h u v hu hv h1)
def prsM (n : Nat) (g : Nat → Int32) (k : Nat) : Prop := k / 48 < n ∧ k % 48 < n ∧ gG g (k / 48) (k % 48)
theorem prsM_lt {n : Nat} {g g' : Nat → Int32} (hn : n ≤ 48) (h : incM n g g') {u v : Nat} (hu : u < n) (hv : v < n) (h1 : ¬ gG g u v) (h2 : gG g' u v) : cN (prsM n g) 2304 < cN (prsM n g') 2304 := by
  have e1 : (48 * u + v) / 48 = u := by omega
  have e2 : (48 * u + v) % 48 = v := by omega
  refine cN_lt (j := 48 * u + v) ?_ ?_ 2304 (by omega) (fun k _ hk => ⟨hk.1, hk.2.1, h _ _ hk.1 hk.2.1 hk.2.2⟩)
  · intro hk
    unfold prsM at hk
    rw [e1, e2] at hk
    exact h1 hk.2.2
  · unfold prsM
    rw [e1, e2]
    exact ⟨hu, hv, h2⟩
theorem gG_upd {g : Nat → Int32} {i k u v : Nat} (hv : v < 48) (hk : k < 48) : gG (upd g (48 * i + k) (nI 1)) u v ↔ gG g u v ∨ (u = i ∧ v = k) := by
  unfold gG
  by_cases e : 48 * u + v = 48 * i + k
  · have e1 : u = i := by omega
    have e2 : v = k := by omega
    rw [upd_s e]
    exact ⟨fun _ => Or.inr ⟨e1, e2⟩, fun _ => by decide⟩
  · rw [upd_n e]
    exact ⟨Or.inl, fun q => q.elim id (fun q => absurd (by rw [q.1, q.2]) e)⟩
/-- s goes to the left of a rule whose right is related to t -/
def byR (R : Rul) (G X : Nat → Nat → Prop) (s t : Nat) : Prop := ∃ i, i < rn R ∧ G s (rl R i) ∧ X (rr R i) t
section
variable {T : Tab} {R : Rul} {mo : Mo}
--BEGIN goes
theorem s_partsG {s t : Nat} {Q : Int32 → Prop} {g : Nat → Int32} (hM : tMo T (Mo_goes_s mo g)) (hs : s < tn T) (ht : t < tn T) (h1 : cg T (gG g) s t → Q (nI 1)) (h0 : ¬ cg T (gG g) s t → Q (nI 0)) : p_Mo_parts_goes (nI s) (nI t) (Mo_goes_s mo g) Q := by
  have hn := hM.2.1
  have o := hM.1
  have os := o.2.2 s hs
  have ot := o.2.2 t ht
  have q2 : tq T s ≤ 2 := o.2.1 _
  obtain ⟨-, -, -, -, c1, c2, c3⟩ := hM
  unfold p_Mo_parts_goes
  simp (disch := omega) only [↓mI_e, litI, cLeT, cLeF, cLtT, cLtF, cEqF, cEqT, mE1, mE2, mL1, mL2, mL3, mL4, cIn, nI_clamp, nI_add, cMul, cSub, cM1, nar0, nar1, true_implies, false_implies, not_true_eq_false, not_false_eq_true, true_and, and_true]
  rw [c1 s hs, c1 t ht]
  by_cases es : ts T s = ts T t
  · have eq : tq T s = tq T t := by unfold tq; rw [es]
    have k47 : (1 ≤ tq T s → gG g (ta T s) (ta T t)) → p_Mo_parts_goes_47 (nI s) (nI t) (Mo_goes_s mo g) Q := by
      intro k1
      unfold p_Mo_parts_goes_47 p_Mo_parts_goes_77
      simp (disch := omega) only [↓mI_e, litI, cLeT, cLeF, cLtT, cLtF, cEqF, cEqT, mE1, mE2, mL1, mL2, mL3, mL4, cIn, nI_clamp, nI_add, cMul, cSub, cM1, nar0, nar1, true_implies, false_implies, not_true_eq_false, not_false_eq_true, true_and, and_true]
      rw [c3 s hs, c3 t ht]
      by_cases t2 : 2 ≤ tq T s
      · simp (disch := omega) only [↓mI_e, litI, cLeT, cLeF, cLtT, cLtF, cEqF, cEqT, mE1, mE2, mL1, mL2, mL3, mL4, cIn, nI_clamp, nI_add, cMul, cSub, cM1, nar0, nar1, true_implies, false_implies, not_true_eq_false, not_false_eq_true, true_and, and_true, pcNf]
        rw [pc_n t2, pc_n (by omega)]
        simp (disch := omega) only [↓mI_e, litI, cLeT, cLeF, cLtT, cLtF, cEqF, cEqT, mE1, mE2, mL1, mL2, mL3, mL4, cIn, nI_clamp, nI_add, cMul, cSub, cM1, nar0, nar1, true_implies, false_implies, not_true_eq_false, not_false_eq_true, true_and, and_true]
        refine ⟨fun k => h0 (fun c => c.2.2 t2 k), fun k => h1 ⟨es, k1, fun _ => k⟩⟩
      · simp (disch := omega) only [↓mI_e, litI, cLeT, cLeF, cLtT, cLtF, cEqF, cEqT, mE1, mE2, mL1, mL2, mL3, mL4, cIn, nI_clamp, nI_add, cMul, cSub, cM1, nar0, nar1, true_implies, false_implies, not_true_eq_false, not_false_eq_true, true_and, and_true, pcNt]
        exact h1 ⟨es, k1, fun h => by omega⟩
    rw [c2 s hs, c2 t ht]
    by_cases t1 : 1 ≤ tq T s
    · simp (disch := omega) only [↓mI_e, litI, cLeT, cLeF, cLtT, cLtF, cEqF, cEqT, mE1, mE2, mL1, mL2, mL3, mL4, cIn, nI_clamp, nI_add, cMul, cSub, cM1, nar0, nar1, true_implies, false_implies, not_true_eq_false, not_false_eq_true, true_and, and_true, pcNf]
      rw [pc_n t1, pc_n (by omega)]
      simp (disch := omega) only [↓mI_e, litI, cLeT, cLeF, cLtT, cLtF, cEqF, cEqT, mE1, mE2, mL1, mL2, mL3, mL4, cIn, nI_clamp, nI_add, cMul, cSub, cM1, nar0, nar1, true_implies, false_implies, not_true_eq_false, not_false_eq_true, true_and, and_true]
      exact ⟨fun k => h0 (fun c => c.2.1 t1 k), fun k => k47 (fun _ => k)⟩
    · simp (disch := omega) only [↓mI_e, litI, cLeT, cLeF, cLtT, cLtF, cEqF, cEqT, mE1, mE2, mL1, mL2, mL3, mL4, cIn, nI_clamp, nI_add, cMul, cSub, cM1, nar0, nar1, true_implies, false_implies, not_true_eq_false, not_false_eq_true, true_and, and_true, pcNt]
      exact k47 (fun h => by omega)
  · simp (disch := omega) only [↓mI_e, litI, cLeT, cLeF, cLtT, cLtF, cEqF, cEqT, mE1, mE2, mL1, mL2, mL3, mL4, cIn, nI_clamp, nI_add, cMul, cSub, cM1, nar0, nar1, true_implies, false_implies, not_true_eq_false, not_false_eq_true, true_and, and_true]
    exact h0 (fun c => es c.1)
--END
theorem s_byRuleG {s t : Nat} {Q : Int32 → Prop} {g : Nat → Int32} (hn : tn T ≤ 48) (hr : rMo R (Mo_goes_s mo g)) (ho : rOk T R) (hs : s < tn T) (ht : t < tn T) (h1 : byR R (gG g) (gG g) s t → Q (nI 1)) (h0 : ¬ byR R (gG g) (gG g) s t → Q (nI 0)) : p_Mo_byRule_goes (nI s) (nI t) (Mo_goes_s mo g) Q := by
  have h8 := ho.1
  obtain ⟨c0, c1, c2⟩ := hr
  unfold p_Mo_byRule_goes
  refine forN (fun f i x => p_Mo_byRule_goes_6 (nI s) (nI t) (Mo_goes_s mo g) Q f x i) (fun i x => (x = nI 1 ∧ byR R (gG g) (gG g) s t) ∨ (x = nI 0 ∧ ∀ k, k < i → ¬ (gG g s (rl R k) ∧ gG g (rr R k) t))) (rn R) 0 _ (by omega) (Or.inr ⟨rfl, fun k hk => by omega⟩) ?_ ?_
  · intro f x hx
    unfold p_Mo_byRule_goes_6
    rw [c0]
    simp (disch := omega) only [↓mI_e, litI, cLeT, cLeF, cLtT, cLtF, cEqF, cEqT, mE1, mE2, mL1, mL2, mL3, mL4, cIn, nI_clamp, nI_add, cMul, cSub, cM1, nar0, nar1, true_implies, false_implies, not_true_eq_false, not_false_eq_true, true_and, and_true]
    rcases hx with ⟨rfl, hx⟩ | ⟨rfl, hx⟩
    · exact ⟨Or.inr rfl, h1 hx⟩
    · exact ⟨Or.inl rfl, h0 (fun ⟨i, hi, k⟩ => hx i hi k)⟩
  · intro f i x hi hx ih
    have oi := ho.2 i hi
    unfold p_Mo_byRule_goes_6 p_Mo_byRule_goes_57
    rw [c0]
    rcases hx with ⟨rfl, hx⟩ | ⟨rfl, hx⟩
    · simp (disch := omega) only [↓mI_e, litI, cLeT, cLeF, cLtT, cLtF, cEqF, cEqT, mE1, mE2, mL1, mL2, mL3, mL4, cIn, nI_clamp, nI_add, cMul, cSub, cM1, nar0, nar1, true_implies, false_implies, not_true_eq_false, not_false_eq_true, true_and, and_true]
      exact ih _ (Or.inl ⟨rfl, hx⟩)
    · simp (disch := omega) only [↓mI_e, litI, cLeT, cLeF, cLtT, cLtF, cEqF, cEqT, mE1, mE2, mL1, mL2, mL3, mL4, cIn, nI_clamp, nI_add, cMul, cSub, cM1, nar0, nar1, true_implies, false_implies, not_true_eq_false, not_false_eq_true, true_and, and_true]
      rw [c1 i hi, c2 i hi]
      simp (disch := omega) only [↓mI_e, litI, cLeT, cLeF, cLtT, cLtF, cEqF, cEqT, mE1, mE2, mL1, mL2, mL3, mL4, cIn, nI_clamp, nI_add, cMul, cSub, cM1, nar0, nar1, true_implies, false_implies, not_true_eq_false, not_false_eq_true, true_and, and_true]
      have no : ¬ (gG g s (rl R i) ∧ gG g (rr R i) t) → ∀ k, k < i + 1 → ¬ (gG g s (rl R k) ∧ gG g (rr R k) t) := fun q k hk => by
        by_cases e : k = i
        · exact e ▸ q
        · exact hx k (by omega)
      exact ⟨fun k => ih _ (Or.inr ⟨rfl, no (fun q => q.1 k)⟩), fun k => ⟨fun k2 => ih _ (Or.inr ⟨rfl, no (fun q => q.2 k2)⟩), fun k2 => ih _ (Or.inl ⟨rfl, i, hi, k, k2⟩)⟩⟩
/-- one passage of the reference -/
theorem s_passG {Q : Mo → Prop} {k39 : Int32 → Mo → Prop} {g : Nat → Int32} (hM : tMo T mo) (hr : rMo R mo) (ho : rOk T R) (hB : ∀ k, k < 2304 → isB (g k)) (hS : ∀ s t, s < tn T → t < tn T → gG g s t → Rch T R s t) (hQ : ∀ x g', (∀ k, k < 2304 → isB (g' k)) → (∀ s t, s < tn T → t < tn T → gG g' s t → Rch T R s t) → incM (tn T) g g' → ((x = nI 0 ∧ g' = g ∧ ∀ s t, s < tn T → t < tn T → (cg T (gG g) s t ∨ byR R (gG g) (gG g) s t) → gG g s t) ∨ (x = nI 1 ∧ cN (prsM (tn T) g) 2304 < cN (prsM (tn T) g') 2304)) → k39 x (Mo_goes_s mo g')) : ∃ f, p_Mo_reachAll_47 Q k39 f (0 : Int32) (0 : Int32) (Mo_goes_s mo g) := by
  have hn := hM.2.1
  have hMg : ∀ g, tMo T (Mo_goes_s mo g) := fun g => hM
  have hrg : ∀ g, rMo R (Mo_goes_s mo g) := fun g => hr
  have hcg : ∀ g, Mo_count (Mo_goes_s mo g) = nI (tn T) := fun g => hM.2.2.1
  refine forN (fun f i (s : Int32 × (Nat → Int32)) => p_Mo_reachAll_47 Q k39 f s.1 i (Mo_goes_s mo s.2)) (fun i s => (∀ k, k < 2304 → isB (s.2 k)) ∧ (∀ u v, u < tn T → v < tn T → gG s.2 u v → Rch T R u v) ∧ incM (tn T) g s.2 ∧ ((s.1 = nI 0 ∧ s.2 = g ∧ ∀ u v, u < i → v < tn T → (cg T (gG g) u v ∨ byR R (gG g) (gG g) u v) → gG g u v) ∨ (s.1 = nI 1 ∧ cN (prsM (tn T) g) 2304 < cN (prsM (tn T) s.2) 2304))) (tn T) 0 (0, g) (by omega) ⟨hB, hS, incM.rf _ g, Or.inl ⟨rfl, rfl, fun u v h => by omega⟩⟩ ?_ ?_
  · rintro f ⟨x, g'⟩ ⟨h0, h1, h2, h3⟩
    dsimp only at h0 h1 h2 h3 ⊢
    unfold p_Mo_reachAll_47
    rw [hcg]
    simp (disch := omega) only [↓mI_e, litI, cLeT, cLeF, cLtT, cLtF, cEqF, cEqT, mE1, mE2, mL1, mL2, mL3, mL4, cIn, nI_clamp, nI_add, cMul, cSub, cM1, nar0, nar1, true_implies, false_implies, not_true_eq_false, not_false_eq_true, true_and, and_true]
    exact hQ x g' h0 h1 h2 h3
  · rintro f i ⟨x, g'⟩ hi ⟨h0, h1, h2, h3⟩ ih
    dsimp only at h0 h1 h2 h3 ⊢
    unfold p_Mo_reachAll_47
    rw [hcg]
    simp (disch := omega) only [↓mI_e, litI, cLeT, cLeF, cLtT, cLtF, cEqF, cEqT, mE1, mE2, mL1, mL2, mL3, mL4, cIn, nI_clamp, nI_add, cMul, cSub, cM1, nar0, nar1, true_implies, false_implies, not_true_eq_false, not_false_eq_true, true_and, and_true]
    refine forN (fun f' k (s : Int32 × (Nat → Int32)) => p_Mo_reachAll_57 Q k39 (fun a0 a1 a2 => p_Mo_reachAll_47 Q k39 f a0 a1 a2) f' s.1 (nI i) k (Mo_goes_s mo s.2)) (fun k s => (∀ k, k < 2304 → isB (s.2 k)) ∧ (∀ u v, u < tn T → v < tn T → gG s.2 u v → Rch T R u v) ∧ incM (tn T) g s.2 ∧ ((s.1 = nI 0 ∧ s.2 = g ∧ (∀ u v, u < i → v < tn T → (cg T (gG g) u v ∨ byR R (gG g) (gG g) u v) → gG g u v) ∧ ∀ v, v < k → (cg T (gG g) i v ∨ byR R (gG g) (gG g) i v) → gG g i v) ∨ (s.1 = nI 1 ∧ cN (prsM (tn T) g) 2304 < cN (prsM (tn T) s.2) 2304))) (tn T) 0 (x, g') (by omega) ⟨h0, h1, h2, h3.imp (fun k => ⟨k.1, k.2.1, k.2.2, fun v h => by omega⟩) id⟩ ?_ ?_
    · rintro f' ⟨x, g'⟩ ⟨h0, h1, h2, h3⟩
      dsimp only at h0 h1 h2 h3 ⊢
      unfold p_Mo_reachAll_57
      rw [hcg]
      simp (disch := omega) only [↓mI_e, litI, cLeT, cLeF, cLtT, cLtF, cEqF, cEqT, mE1, mE2, mL1, mL2, mL3, mL4, cIn, nI_clamp, nI_add, cMul, cSub, cM1, nar0, nar1, true_implies, false_implies, not_true_eq_false, not_false_eq_true, true_and, and_true]
      refine ih (x, g') ⟨h0, h1, h2, h3.imp (fun k => ⟨k.1, k.2.1, fun u v hu hv c => ?_⟩) id⟩
      by_cases e : u = i
      · subst e; exact k.2.2.2 v hv c
      · exact k.2.2.1 u v (by omega) hv c
    · rintro f' k ⟨x, g'⟩ hk ⟨h0, h1, h2, h3⟩ ih2
      dsimp only at h0 h1 h2 h3 ⊢
      unfold p_Mo_reachAll_57
      rw [hcg]
      simp (disch := omega) only [↓mI_e, litI, cLeT, cLeF, cLtT, cLtF, cEqF, cEqT, mE1, mE2, mL1, mL2, mL3, mL4, cIn, nI_clamp, nI_add, cMul, cSub, cM1, nar0, nar1, true_implies, false_implies, not_true_eq_false, not_false_eq_true, true_and, and_true]
      have skip : (x = nI 0 → g' = g → (cg T (gG g) i k ∨ byR R (gG g) (gG g) i k) → gG g i k) → p_Mo_reachAll_57 Q k39 (fun a0 a1 a2 => p_Mo_reachAll_47 Q k39 f a0 a1 a2) f' x (nI i) (nI (k + 1)) (Mo_goes_s mo g') := by
        intro hs
        refine ih2 (x, g') ⟨h0, h1, h2, h3.imp (fun q => ⟨q.1, q.2.1, q.2.2.1, fun v hv c => ?_⟩) id⟩
        by_cases e : v = k
        · subst e; exact hs q.1 q.2.1 c
        · exact q.2.2.2 v (by omega) c
      have put : ¬ gG g' i k → (cg T (gG g') i k ∨ byR R (gG g') (gG g') i k) → p_Mo_reachAll_105 Q k39 (fun a0 a1 a2 => p_Mo_reachAll_47 Q k39 f a0 a1 a2) (fun a0 a1 a2 a3 => p_Mo_reachAll_57 Q k39 (fun a0 a1 a2 => p_Mo_reachAll_47 Q k39 f a0 a1 a2) f' a0 a1 a2 a3) (nI i) (nI k) (Mo_goes_s mo g') := by
        intro hno c
        unfold p_Mo_reachAll_105
        simp (disch := omega) only [↓mI_e, litI, cLeT, cLeF, cLtT, cLtF, cEqF, cEqT, mE1, mE2, mL1, mL2, mL3, mL4, cIn, nI_clamp, nI_add, cMul, cSub, cM1, nar0, nar1, true_implies, false_implies, not_true_eq_false, not_false_eq_true, true_and, and_true]
        refine nm_e (ih2 (nI 1, upd g' (48 * i + k) (nI 1)) ?_)
        have i1 : incM (tn T) g' (upd g' (48 * i + k) (nI 1)) := fun u v hu hv q => (gG_upd (by omega) (by omega)).mpr (Or.inl q)
        refine ⟨fun k9 hk9 => ?_, fun u v hu hv q => ?_, h2.tr i1, Or.inr ⟨rfl, ?_⟩⟩
        · show isB (upd g' (48 * i + k) (nI 1) k9)
          by_cases e : k9 = 48 * i + k
          · rw [upd_s e]; exact Or.inr rfl
          · rw [upd_n e]; exact h0 k9 hk9
        · rcases (gG_upd (by omega) (by omega)).mp q with q | ⟨q1, q2⟩
          · exact h1 u v hu hv q
          · subst q1 q2
            have oi := hM.1.2.2 u hu
            have ok := hM.1.2.2 v hv
            rcases c with c | ⟨r, hr', c1, c2⟩
            · have eq := c.q
              exact Rch.cn hu hv ⟨c.1, fun h => h1 _ _ (by omega) (by omega) (c.2.1 h), fun h => h1 _ _ (by omega) (by omega) (c.2.2 h)⟩
            · exact Rch.ru hr' (h1 _ _ hu (ho.2 r hr').1 c1) (h1 _ _ (ho.2 r hr').2.1 hv c2)
        · have l1 : cN (prsM (tn T) g) 2304 ≤ cN (prsM (tn T) g') 2304 := cN_mono _ (fun k _ hk => ⟨hk.1, hk.2.1, h2 _ _ hk.1 hk.2.1 hk.2.2⟩)
          have l2 := prsM_lt hn i1 hi hk hno ((gG_upd (by omega) (by omega)).mpr (Or.inr ⟨rfl, rfl⟩))
          dsimp only
          omega
      refine ⟨fun hyes => skip (fun _ e _ => e ▸ hyes), fun hno => ?_⟩
      have hno : ¬ gG g' i k := fun q => q hno
      refine s_partsG (hMg g') hi hk (fun c => ?_) (fun c => ?_)
      · simp (disch := omega) only [↓mI_e, litI, cLeT, cLeF, cLtT, cLtF, cEqF, cEqT, mE1, mE2, mL1, mL2, mL3, mL4, cIn, nI_clamp, nI_add, cMul, cSub, cM1, nar0, nar1, true_implies, false_implies, not_true_eq_false, not_false_eq_true, true_and, and_true]
        exact put hno (Or.inl c)
      · simp (disch := omega) only [↓mI_e, litI, cLeT, cLeF, cLtT, cLtF, cEqF, cEqT, mE1, mE2, mL1, mL2, mL3, mL4, cIn, nI_clamp, nI_add, cMul, cSub, cM1, nar0, nar1, true_implies, false_implies, not_true_eq_false, not_false_eq_true, true_and, and_true]
        refine s_byRuleG hn (hrg g') ho hi hk (fun c => ?_) (fun c2 => ?_)
        · simp (disch := omega) only [↓mI_e, litI, cLeT, cLeF, cLtT, cLtF, cEqF, cEqT, mE1, mE2, mL1, mL2, mL3, mL4, cIn, nI_clamp, nI_add, cMul, cSub, cM1, nar0, nar1, true_implies, false_implies, not_true_eq_false, not_false_eq_true, true_and, and_true]
          exact put hno (Or.inr c)
        · simp (disch := omega) only [↓mI_e, litI, cLeT, cLeF, cLtT, cLtF, cEqF, cEqT, mE1, mE2, mL1, mL2, mL3, mL4, cIn, nI_clamp, nI_add, cMul, cSub, cM1, nar0, nar1, true_implies, false_implies, not_true_eq_false, not_false_eq_true, true_and, and_true]
          refine skip (fun _ e q => ?_)
          subst e
          rcases q with q | q
          · exact absurd q c
          · exact absurd q c2
theorem s_reachAll {Q : Mo → Prop} (hM : tMo T mo) (hr : rMo R mo) (ho : rOk T R) (hQ : ∀ g, (∀ s t, s < tn T → t < tn T → (gG g s t ↔ Rch T R s t)) → (∀ k, k < 2304 → isB (g k)) → Q (Mo_goes_s mo g)) : p_Mo_reachAll mo Q := by
  have hn := hM.2.1
  have k39 : ∀ g, (∀ k, k < 2304 → isB (g k)) → (∀ s t, s < tn T → t < tn T → (gG g s t ↔ s = t)) → ∃ f, p_Mo_reachAll_39 Q f (1 : Int32) (Mo_goes_s mo g) := by
    intro g hB hg
    refine loop_m (fun f (s : Int32 × (Nat → Int32)) => p_Mo_reachAll_39 Q f s.1 (Mo_goes_s mo s.2)) (fun s => (∀ k, k < 2304 → isB (s.2 k)) ∧ (∀ u v, u < tn T → v < tn T → gG s.2 u v → Rch T R u v) ∧ incM (tn T) g s.2 ∧ (s.1 = nI 1 ∨ (s.1 = nI 0 ∧ ∀ u v, u < tn T → v < tn T → (cg T (gG s.2) u v ∨ byR R (gG s.2) (gG s.2) u v) → gG s.2 u v))) (fun s => if s.1 = nI 0 then 0 else 1 + (2304 - cN (prsM (tn T) s.2) 2304)) ?_ (1, g) ⟨hB, fun u v hu hv q => by rw [(hg u v hu hv).mp q]; exact Rch.rf hv, incM.rf _ _, Or.inl rfl⟩
    rintro f ⟨x, g'⟩ ⟨h0, h1, h2, h3⟩ ih
    dsimp only at h0 h1 h2 h3 ⊢
    unfold p_Mo_reachAll_39
    rcases h3 with rfl | ⟨rfl, h3⟩
    · simp (disch := omega) only [↓mI_e, litI, cLeT, cLeF, cLtT, cLtF, cEqF, cEqT, mE1, mE2, mL1, mL2, mL3, mL4, cIn, nI_clamp, nI_add, cMul, cSub, cM1, nar0, nar1, true_implies, false_implies, not_true_eq_false, not_false_eq_true, true_and, and_true]
      refine s_passG hM hr ho h0 h1 (fun x2 g2 e0 e1 e2 e3 => ?_)
      refine ih (x2, g2) ⟨e0, e1, h2.tr e2, ?_⟩ ?_
      · rcases e3 with ⟨rfl, rfl, e4⟩ | ⟨rfl, e4⟩
        · exact Or.inr ⟨rfl, e4⟩
        · exact Or.inl rfl
      · dsimp only
        rw [if_neg (show ¬ nI 1 = nI 0 by decide)]
        rcases e3 with ⟨rfl, rfl, e4⟩ | ⟨rfl, e4⟩
        · rw [if_pos rfl]; omega
        · rw [if_neg (by decide)]
          have := cN_le (prsM (tn T) g2) 2304
          omega
    · simp (disch := omega) only [↓mI_e, litI, cLeT, cLeF, cLtT, cLtF, cEqF, cEqT, mE1, mE2, mL1, mL2, mL3, mL4, cIn, nI_clamp, nI_add, cMul, cSub, cM1, nar0, nar1, true_implies, false_implies, not_true_eq_false, not_false_eq_true, true_and, and_true]
      refine hQ g' (fun s t hs ht => ⟨h1 s t hs ht, fun q => ?_⟩) h0
      have := q.2.2 (fun s t => s < tn T → t < tn T → gG g' s t) ⟨fun s hs _ _ => h2 s s hs hs ((hg s s hs hs).mpr rfl), fun s t hs ht c _ _ => ?_, fun i s t hi hs ht k1 k2 _ _ => ?_⟩
      · exact this hs ht
      · have os := hM.1.2.2 s hs
        have ot := hM.1.2.2 t ht
        have eq := c.q
        exact h3 s t hs ht (Or.inl ⟨c.1, fun h => c.2.1 h (by omega) (by omega), fun h => c.2.2 h (by omega) (by omega)⟩)
      · exact h3 s t hs ht (Or.inr ⟨i, hi, k1 hs (ho.2 i hi).1, k2 (ho.2 i hi).2.1 ht⟩)
  unfold p_Mo_reachAll
  refine forN (fun f i (g : Nat → Int32) => p_Mo_reachAll_2 Q f i (Mo_goes_s mo g)) (fun i g => ∀ k, k < i → g k = (if k / 48 = k % 48 then nI 1 else nI 0)) 2304 0 (Mo_goes mo) (by omega) (fun k hk => by omega) ?_ ?_
  · intro f g hg
    unfold p_Mo_reachAll_2
    simp (disch := omega) only [↓mI_e, litI, cLeT, cLeF, cLtT, cLtF, cEqF, cEqT, mE1, mE2, mL1, mL2, mL3, mL4, cIn, nI_clamp, nI_add, cMul, cSub, cM1, nar0, nar1, true_implies, false_implies, not_true_eq_false, not_false_eq_true, true_and, and_true]
    refine k39 g (fun k hk => ?_) (fun s t hs ht => ?_)
    · rw [hg k hk]
      by_cases e : k / 48 = k % 48
      · rw [if_pos e]; exact Or.inr rfl
      · rw [if_neg e]; exact Or.inl rfl
    · unfold gG
      rw [hg _ (by omega)]
      by_cases e : s = t
      · rw [if_pos (by omega)]
        exact ⟨fun _ => e, fun _ => by decide⟩
      · rw [if_neg (by omega)]
        exact ⟨fun q => absurd rfl q, fun q => absurd q e⟩
  · intro f i g hi hg ih
    unfold p_Mo_reachAll_2 p_Mo_reachAll_30
    have put : ∀ y, y = (if i / 48 = i % 48 then nI 1 else nI 0) → p_Mo_reachAll_2 Q f (nI (i + 1)) (Mo_goes_s mo (upd g i y)) := by
      intro y hy
      refine ih _ (fun k hk => ?_)
      by_cases e : k = i
      · rw [upd_s e, hy, e]
      · rw [upd_n e]; exact hg k (by omega)
    by_cases e : i / 48 = i % 48
    · simp (disch := omega) only [↓mI_e, litI, cLeT, cLeF, cLtT, cLtF, cEqF, cEqT, mE1, mE2, mL1, mL2, mL3, mL4, cIn, nI_clamp, nI_add, cMul, cSub, cM1, nar0, nar1, true_implies, false_implies, not_true_eq_false, not_false_eq_true, true_and, and_true, pk_div]
      exact nm_e (put _ (by rw [if_pos e]))
    · simp (disch := omega) only [↓mI_e, litI, cLeT, cLeF, cLtT, cLtF, cEqF, cEqT, mE1, mE2, mL1, mL2, mL3, mL4, cIn, nI_clamp, nI_add, cMul, cSub, cM1, nar0, nar1, true_implies, false_implies, not_true_eq_false, not_false_eq_true, true_and, and_true, pk_div]
      exact nm_e (put _ (by rw [if_neg e]))
/-- the goes that ask leaves -/
def goesOk (T : Tab) (R : Rul) (g : Nat → Int32) : Prop := (∀ s t, s < tn T → t < tn T → (gG g s t ↔ Rch T R s t)) ∧ (∀ k, k < 2304 → isB (g k))
theorem s_ask {Q : Int32 → Mo → Prop} {s t : Nat} (hM : tMo T mo) (hr : rMo R mo) (ho : rOk T R) (hs : s < tn T) (ht : t < tn T) (hQ : ∀ g, goesOk T R g → Q (nI 1) (Mo_goes_s (Mo_thrown_s mo 0) g)) : p_Mo_ask (nI s) (nI t) mo Q := by
  unfold p_Mo_ask
  simp (disch := omega) only [↓mI_e, litI, cLeT, cLeF, cLtT, cLtF, cEqF, cEqT, mE1, mE2, mL1, mL2, mL3, mL4, cIn, nI_clamp, nI_add, cMul, cSub, cM1, nar0, nar1, true_implies, false_implies, not_true_eq_false, not_false_eq_true, true_and, and_true, term_t hM]
  unfold p_Mo_ask_22
  refine nm_e ?_
  simp (disch := omega) only [↓mI_e, litI, cLeT, cLeF, cLtT, cLtF, cEqF, cEqT, mE1, mE2, mL1, mL2, mL3, mL4, cIn, nI_clamp, nI_add, cMul, cSub, cM1, nar0, nar1, true_implies, false_implies, not_true_eq_false, not_false_eq_true, true_and, and_true, thr_s]
  refine s_reachAll (hM.kp (thr_k mo _)) (hr.kp (thr_k mo _)) ho (fun g h1 h2 => ?_)
  unfold p_Mo_ask_36
  rw [show Mo_thrown (Mo_goes_s (Mo_thrown_s mo (nI 0)) g) = nI 0 from rfl]
  simp (disch := omega) only [↓mI_e, litI, cLeT, cLeF, cLtT, cLtF, cEqF, cEqT, mE1, mE2, mL1, mL2, mL3, mL4, cIn, nI_clamp, nI_add, cMul, cSub, cM1, nar0, nar1, true_implies, false_implies, not_true_eq_false, not_false_eq_true, true_and, and_true]
  exact hQ g ⟨h1, h2⟩
theorem s_ask_bad {Q : Int32 → Mo → Prop} {x1 x2 : Int32} (hM : tMo T mo) (hb : (∀ t, t < tn T → x1 ≠ nI t) ∨ (∃ s, s < tn T ∧ x1 = nI s ∧ ∀ t, t < tn T → x2 ≠ nI t)) (hQ : Q (nI 0) (Mo_thrown_s mo (nI 1))) : p_Mo_ask x1 x2 mo Q := by
  have k : p_Mo_ask_21 x1 x2 Q mo := by
    unfold p_Mo_ask_21 p_Mo_ask_22 p_Mo_ask_36
    refine nm_e ?_
    simp (disch := omega) only [↓mI_e, litI, cLeT, cLeF, cLtT, cLtF, cEqF, cEqT, mE1, mE2, mL1, mL2, mL3, mL4, cIn, nI_clamp, nI_add, cMul, cSub, cM1, nar0, nar1, true_implies, false_implies, not_true_eq_false, not_false_eq_true, true_and, and_true, thr_s]
    exact hQ
  unfold p_Mo_ask
  rcases hb with hb | ⟨s, hs, rfl, hb⟩
  · rw [term_f hM hb]
    simp (disch := omega) only [↓mI_e, litI, cLeT, cLeF, cLtT, cLtF, cEqF, cEqT, mE1, mE2, mL1, mL2, mL3, mL4, cIn, nI_clamp, nI_add, cMul, cSub, cM1, nar0, nar1, true_implies, false_implies, not_true_eq_false, not_false_eq_true, true_and, and_true]
    exact k
  · rw [term_t hM hs, term_f hM hb]
    simp (disch := omega) only [↓mI_e, litI, cLeT, cLeF, cLtT, cLtF, cEqF, cEqT, mE1, mE2, mL1, mL2, mL3, mL4, cIn, nI_clamp, nI_add, cMul, cSub, cM1, nar0, nar1, true_implies, false_implies, not_true_eq_false, not_false_eq_true, true_and, and_true]
    exact k
end
/-- two made terms, or not -/
theorem two_or {n : Nat} (hn : n ≤ 520) (x1 x2 : Int32) : (∃ s t, s < n ∧ t < n ∧ x1 = nI s ∧ x2 = nI t) ∨ ((∀ t, t < n → x1 ≠ nI t) ∨ (∃ s, s < n ∧ x1 = nI s ∧ ∀ t, t < n → x2 ≠ nI t)) := by
  rcases ixc x1 (n := n) (by omega) with ⟨s, hs, e1⟩ | ⟨-, g⟩
  · rcases ixc x2 (n := n) (by omega) with ⟨t, ht, e2⟩ | ⟨-, g⟩
    · exact Or.inl ⟨s, t, hs, ht, e1, e2⟩
    · exact Or.inr (Or.inr ⟨s, hs, e1, g⟩)
  · exact Or.inr (Or.inl g)
section
variable {j : Nat} {T : Tab} {R : Rul} {A : Aut} {F : Nat} {te : Te} {ru : Ru} {au : Au} {re : Re} {la : La} {sp : Sp} {le : Le} {mo : Mo} {a1 a2 a3 a4 : Int32}
theorem goes_k {mo mo' : Mo} (h : mKp mo mo') (g : Nat → Int32) : mKp mo (Mo_goes_s mo' g) := ⟨h.1, h.2.1, h.2.2.1, h.2.2.2.1, h.2.2.2.2.1, h.2.2.2.2.2.1, h.2.2.2.2.2.2.1, h.2.2.2.2.2.2.2.1, h.2.2.2.2.2.2.2.2.1, h.2.2.2.2.2.2.2.2.2.1, h.2.2.2.2.2.2.2.2.2.2⟩
theorem s_leads {s t : Nat} {Q : Int32 → Prop} (hs : s < 48) (ht : t < 48) : p_Re_leads (nI s) (nI t) re Q ↔ ((¬ bl (Re_reached re s) t → Q (nI 0)) ∧ (bl (Re_reached re s) t → Q (nI 1))) := by
  unfold p_Re_leads
  rw [show re = Re_reached_s re (Re_reached re) from rfl, isInR hs (by omega)]
  exact ⟨fun h => ⟨fun k => (h.1 k).2, fun k => (h.2 k).2⟩, fun h => ⟨fun k => ⟨Or.inl rfl, h.1 k⟩, fun k => ⟨Or.inr rfl, h.2 k⟩⟩⟩
theorem q_6 (h : InvW j T R A F (te, ru, au, re, la, sp, le) mo) : ls_6 a1 a2 a3 a4 te ru au re la sp le mo (Inv (j + 1)) := by
  have hT := h.t
  have hM := h.1.2
  have hn := hM.2.1
  obtain ⟨ho, hru, hrm⟩ := h.2.1
  unfold ls_6 p_Gr_reaches
  rcases two_or (n := tn T) (by omega) a1 a2 with ⟨s, t, hs, ht, rfl, rfl⟩ | hb
  · simp (disch := omega) only [↓mI_e, litI, cLeT, cLeF, cLtT, cLtF, cEqF, cEqT, mE1, mE2, mL1, mL2, mL3, mL4, cIn, nI_clamp, nI_add, cMul, cSub, cM1, nar0, nar1, true_implies, false_implies, not_true_eq_false, not_false_eq_true, true_and, and_true, made_t hT]
    refine s_renew hT hn hru ho h.c (fun re' hg hj hc _ _ => ?_)
    rw [s_leads (by omega) (by omega)]
    have kk : ∀ r : Nat, r ≤ 1 → (r = 1 ↔ Rch T R s t) → (isB (nI r) ∧ p_Mo_reaches (nI s) (nI t) mo (fun b mo' => p_Mo_thrown mo' (fun t => t = nI 0 ∧ (if nI r = nI 0 then (0 : Int64) else 1) = (if b = nI 0 then (0 : Int64) else 1) ∧ Inv (j + 1) (te, ru, au, re', la, sp, le) mo'))) := by
      intro r hr e
      refine ⟨?_, ?_⟩
      · rcases (by omega : r = 0 ∨ r = 1) with rfl | rfl
        · exact Or.inl rfl
        · exact Or.inr rfl
      · unfold p_Mo_reaches
        refine s_ask hM hrm ho hs ht (fun g hgo => ?_)
        have hI : Inv (j + 1) (te, ru, au, re', la, sp, le) (Mo_goes_s (Mo_thrown_s mo 0) g) := h.kp (goes_k (thr_k mo _) g) hT h.a hc
        simp (disch := omega) only [↓mI_e, litI, cLeT, cLeF, cLtT, cLtF, cEqF, cEqT, mE1, mE2, mL1, mL2, mL3, mL4, cIn, nI_clamp, nI_add, cMul, cSub, cM1, nar0, nar1, true_implies, false_implies, not_true_eq_false, not_false_eq_true, true_and, and_true]
        refine ⟨fun k => ⟨rfl, ?_, hI⟩, fun k => ⟨rfl, ?_, hI⟩⟩
        · have : ¬ Rch T R s t := fun q => (hgo.1 s t hs ht).mpr q k
          rw [show r = 0 by have : r ≠ 1 := fun q => this (e.mp q); omega]
          rfl
        · have : Rch T R s t := (hgo.1 s t hs ht).mp k
          rw [e.mpr this]
          rfl
    refine ⟨fun k => kk 0 (by omega) ⟨fun q => by omega, fun q => absurd ((hg s t hs).mpr ⟨ht, q⟩) k⟩, fun k => kk 1 (by omega) ⟨fun _ => ((hg s t hs).mp k).2, fun _ => rfl⟩⟩
  · have k : (xIA = xIA) ∧ p_Mo_reaches a1 a2 mo (fun b mo' => p_Mo_thrown mo' (fun t => t = (1 : Int32) ∧ Inv (j + 1) (te, ru, au, re, la, sp, le) mo')) := by
      refine ⟨rfl, ?_⟩
      unfold p_Mo_reaches
      refine s_ask_bad hM hb ?_
      simp (disch := omega) only [↓mI_e, litI, cLeT, cLeF, cLtT, cLtF, cEqF, cEqT, mE1, mE2, mL1, mL2, mL3, mL4, cIn, nI_clamp, nI_add, cMul, cSub, cM1, nar0, nar1, true_implies, false_implies, not_true_eq_false, not_false_eq_true, true_and, and_true]
      exact ⟨rfl, h.same (thr_k mo _)⟩
    rcases hb with hb | ⟨s, hs, rfl, hb⟩
    · rw [made_f hT hb]
      exact ⟨fun _ => k, fun h => absurd rfl h⟩
    · rw [made_t hT hs, made_f hT hb]
      exact ⟨fun h => absurd h (by decide), fun _ => ⟨fun h => absurd rfl h, fun _ => k⟩⟩
end
