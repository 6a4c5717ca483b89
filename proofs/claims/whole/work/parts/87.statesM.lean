/-! states of terms, as the reference finds them -/
def mS (h : Nat → Int32) (t q : Nat) : Prop := ¬ h (6 * t + q) = nI 0
def incT (n : Nat) (a b : Nat → Int32) : Prop := ∀ t q, t < n → q < 6 → mS a t q → mS b t q
theorem incT.rf (n : Nat) (a : Nat → Int32) : incT n a a := fun _ _ _ _ h => h
theorem incT.tr {n : Nat} {a b c : Nat → Int32} (h : incT n a b) (h' : incT n b c) : incT n a c := fun t q ht hq h1 => h' t q ht hq (h t q ht hq h1)
def prsT (n : Nat) (la : Nat → Int32) (k : Nat) : Prop := k / 6 < n ∧ mS la (k / 6) (k % 6)
theorem prsT_lt {n : Nat} {a b : Nat → Int32} (hn : n ≤ 48) (h : incT n a b) {t q : Nat} (ht : t < n) (hq : q < 6) (h1 : ¬ mS a t q) (h2 : mS b t q) : cN (prsT n a) 288 < cN (prsT n b) 288 := by
  have e1 : (6 * t + q) / 6 = t := by omega
  have e2 : (6 * t + q) % 6 = q := by omega
  refine cN_lt (j := 6 * t + q) ?_ ?_ 288 (by omega) (fun k _ hk => ⟨hk.1, h _ _ hk.1 (by omega) hk.2⟩)
  · intro hk
    unfold prsT at hk
    rw [e1, e2] at hk
    exact h1 hk.2
  · unfold prsT
    rw [e1, e2]
    exact ⟨ht, h2⟩
theorem prsT_le {n : Nat} {a b : Nat → Int32} (h : incT n a b) : cN (prsT n a) 288 ≤ cN (prsT n b) 288 := cN_mono _ (fun k _ hk => ⟨hk.1, h _ _ hk.1 (by omega) hk.2⟩)
theorem mS_upd {g : Nat → Int32} {i k u v : Nat} (hv : v < 6) (hk : k < 6) : mS (upd g (6 * i + k) (nI 1)) u v ↔ mS g u v ∨ (u = i ∧ v = k) := by
  unfold mS
  by_cases e : 6 * u + v = 6 * i + k
  · have e1 : u = i := by omega
    have e2 : v = k := by omega
    rw [upd_s e]
    exact ⟨fun _ => Or.inr ⟨e1, e2⟩, fun _ => by decide⟩
  · rw [upd_n e]
    exact ⟨Or.inl, fun q => q.elim id (fun q => absurd (by rw [q.1, q.2]) e)⟩
/-- why t stands for q -/
def stA (T : Tab) (R : Rul) (A : Aut) (how : Nat) (G h : Nat → Int32) (t q : Nat) : Prop := (∃ e, e < an A ∧ at' A e = q ∧ byE T A (mS h) t e) ∨ (∃ i, i < rn R ∧ ((how = 1 ∧ mS h (rl R i) q ∧ gG G (rr R i) t) ∨ (how = 2 ∧ gG G t (rl R i) ∧ mS h (rr R i) q)))
section
variable {T : Tab} {R : Rul} {A : Aut} {F : Nat} {mo : Mo}
theorem s_byEdge {t e : Nat} {h : Nat → Int32} {Q : Int32 → Prop} (hM : tMo T (Mo_states_s mo h)) (ho : aOk T A) (ha : aMo T A F (Mo_states_s mo h)) (ht : t < tn T) (he : e < an A) (h1 : byE T A (mS h) t e → Q (nI 1)) (h0 : ¬ byE T A (mS h) t e → Q (nI 0)) : p_Mo_byEdge (nI t) (nI e) (Mo_states_s mo h) Q := by
  have hn := hM.2.1
  have o := hM.1
  have ot := o.2.2 t ht
  have q2 : tq T t ≤ 2 := o.2.1 _
  have h20 := ho.1
  have oe := ho.2 e he
  obtain ⟨-, -, -, -, c1, c2, c3⟩ := hM
  obtain ⟨d0, d1, d2, d3, d4, -⟩ := ha
  unfold p_Mo_byEdge
  simp (disch := omega) only [↓mI_e, litI, cLeT, cLeF, cLtT, cLtF, cEqF, cEqT, mE1, mE2, mL1, mL2, mL3, mL4, cIn, nI_clamp, nI_add, cMul, cSub, cM1, nar0, nar1, true_implies, false_implies, not_true_eq_false, not_false_eq_true, true_and, and_true]
  rw [c1 t ht, d1 e he]
  by_cases es : as' A e = ts T t
  · have eq : tp T (as' A e) = tq T t := by unfold tq; rw [es]
    have k56 : (1 ≤ tq T t → mS h (ta T t) (a1' A e)) → p_Mo_byEdge_56 (nI t) (nI e) (Mo_states_s mo h) Q := by
      intro k1
      unfold p_Mo_byEdge_56 p_Mo_byEdge_93
      simp (disch := omega) only [↓mI_e, litI, cLeT, cLeF, cLtT, cLtF, cEqF, cEqT, mE1, mE2, mL1, mL2, mL3, mL4, cIn, nI_clamp, nI_add, cMul, cSub, cM1, nar0, nar1, true_implies, false_implies, not_true_eq_false, not_false_eq_true, true_and, and_true]
      rw [c3 t ht, d3 e he, eq]
      by_cases t2 : 2 ≤ tq T t
      · simp (disch := omega) only [↓mI_e, litI, cLeT, cLeF, cLtT, cLtF, cEqF, cEqT, mE1, mE2, mL1, mL2, mL3, mL4, cIn, nI_clamp, nI_add, cMul, cSub, cM1, nar0, nar1, true_implies, false_implies, not_true_eq_false, not_false_eq_true, true_and, and_true, pcNf]
        rw [pc_n t2, pc_n t2]
        simp (disch := omega) only [↓mI_e, litI, cLeT, cLeF, cLtT, cLtF, cEqF, cEqT, mE1, mE2, mL1, mL2, mL3, mL4, cIn, nI_clamp, nI_add, cMul, cSub, cM1, nar0, nar1, true_implies, false_implies, not_true_eq_false, not_false_eq_true, true_and, and_true]
        refine ⟨fun k => h0 (fun c => c.2.2 t2 k), fun k => h1 ⟨es, k1, fun _ => k⟩⟩
      · simp (disch := omega) only [↓mI_e, litI, cLeT, cLeF, cLtT, cLtF, cEqF, cEqT, mE1, mE2, mL1, mL2, mL3, mL4, cIn, nI_clamp, nI_add, cMul, cSub, cM1, nar0, nar1, true_implies, false_implies, not_true_eq_false, not_false_eq_true, true_and, and_true, pcNt]
        exact h1 ⟨es, k1, fun h => by omega⟩
    rw [c2 t ht, d2 e he, eq]
    by_cases t1 : 1 ≤ tq T t
    · simp (disch := omega) only [↓mI_e, litI, cLeT, cLeF, cLtT, cLtF, cEqF, cEqT, mE1, mE2, mL1, mL2, mL3, mL4, cIn, nI_clamp, nI_add, cMul, cSub, cM1, nar0, nar1, true_implies, false_implies, not_true_eq_false, not_false_eq_true, true_and, and_true, pcNf]
      rw [pc_n t1, pc_n t1]
      simp (disch := omega) only [↓mI_e, litI, cLeT, cLeF, cLtT, cLtF, cEqF, cEqT, mE1, mE2, mL1, mL2, mL3, mL4, cIn, nI_clamp, nI_add, cMul, cSub, cM1, nar0, nar1, true_implies, false_implies, not_true_eq_false, not_false_eq_true, true_and, and_true]
      exact ⟨fun k => h0 (fun c => c.2.1 t1 k), fun k => k56 (fun _ => k)⟩
    · simp (disch := omega) only [↓mI_e, litI, cLeT, cLeF, cLtT, cLtF, cEqF, cEqT, mE1, mE2, mL1, mL2, mL3, mL4, cIn, nI_clamp, nI_add, cMul, cSub, cM1, nar0, nar1, true_implies, false_implies, not_true_eq_false, not_false_eq_true, true_and, and_true, pcNt]
      exact k56 (fun h => by omega)
  · simp (disch := omega) only [↓mI_e, litI, cLeT, cLeF, cLtT, cLtF, cEqF, cEqT, mE1, mE2, mL1, mL2, mL3, mL4, cIn, nI_clamp, nI_add, cMul, cSub, cM1, nar0, nar1, true_implies, false_implies, not_true_eq_false, not_false_eq_true, true_and, and_true]
    exact h0 (fun c => es c.1)
theorem s_stands {t q how : Nat} {h : Nat → Int32} {Q : Int32 → Prop} (hM : tMo T (Mo_states_s mo h)) (hr : rMo R (Mo_states_s mo h)) (hro : rOk T R) (ho : aOk T A) (ha : aMo T A F (Mo_states_s mo h)) (ht : t < tn T) (hq : q < 6) (hh : how ≤ 2) (h1 : stA T R A how (Mo_goes mo) h t q → Q (nI 1)) (h0 : ¬ stA T R A how (Mo_goes mo) h t q → Q (nI 0)) : p_Mo_stands (nI t) (nI q) (nI how) (Mo_states_s mo h) Q := by
  have hn := hM.2.1
  have h20 := ho.1
  have h8 := hro.1
  obtain ⟨r0, r1, r2⟩ := hr
  -- the rules
  have k61 : ∀ x, ((x = nI 1 ∧ stA T R A how (Mo_goes mo) h t q) ∨ (x = nI 0 ∧ ∀ e, e < an A → ¬ (at' A e = q ∧ byE T A (mS h) t e))) → ∃ f, p_Mo_stands_61 (nI t) (nI q) (nI how) (Mo_states_s mo h) Q f x (0 : Int32) := by
    intro x hx
    refine forN (fun f i x => p_Mo_stands_61 (nI t) (nI q) (nI how) (Mo_states_s mo h) Q f x i) (fun i x => (x = nI 1 ∧ stA T R A how (Mo_goes mo) h t q) ∨ (x = nI 0 ∧ (∀ e, e < an A → ¬ (at' A e = q ∧ byE T A (mS h) t e)) ∧ ∀ k, k < i → ¬ ((how = 1 ∧ mS h (rl R k) q ∧ gG (Mo_goes mo) (rr R k) t) ∨ (how = 2 ∧ gG (Mo_goes mo) t (rl R k) ∧ mS h (rr R k) q)))) (rn R) 0 x (by omega) (hx.imp id (fun z => ⟨z.1, z.2, fun k hk => by omega⟩)) ?_ ?_
    · intro f x hx
      unfold p_Mo_stands_61
      rw [r0]
      simp (disch := omega) only [↓mI_e, litI, cLeT, cLeF, cLtT, cLtF, cEqF, cEqT, mE1, mE2, mL1, mL2, mL3, mL4, cIn, nI_clamp, nI_add, cMul, cSub, cM1, nar0, nar1, true_implies, false_implies, not_true_eq_false, not_false_eq_true, true_and, and_true]
      rcases hx with ⟨rfl, hx⟩ | ⟨rfl, hx, hx2⟩
      · exact ⟨Or.inr rfl, h1 hx⟩
      · refine ⟨Or.inl rfl, h0 (fun z => ?_)⟩
        rcases z with ⟨e, he, z1, z2⟩ | ⟨i, hi, z⟩
        · exact hx e he ⟨z1, z2⟩
        · exact hx2 i hi z
    · intro f i x hi hx ih
      have oi := hro.2 i hi
      unfold p_Mo_stands_61 p_Mo_stands_124 p_Mo_stands_120 p_Mo_stands_125 p_Mo_stands_177
      rw [r0]
      rcases hx with ⟨rfl, hx⟩ | ⟨rfl, hx, hx2⟩
      · simp (disch := omega) only [↓mI_e, litI, cLeT, cLeF, cLtT, cLtF, cEqF, cEqT, mE1, mE2, mL1, mL2, mL3, mL4, cIn, nI_clamp, nI_add, cMul, cSub, cM1, nar0, nar1, true_implies, false_implies, not_true_eq_false, not_false_eq_true, true_and, and_true]
        exact ih _ (Or.inl ⟨rfl, hx⟩)
      · simp (disch := omega) only [↓mI_e, litI, cLeT, cLeF, cLtT, cLtF, cEqF, cEqT, mE1, mE2, mL1, mL2, mL3, mL4, cIn, nI_clamp, nI_add, cMul, cSub, cM1, nar0, nar1, true_implies, false_implies, not_true_eq_false, not_false_eq_true, true_and, and_true]
        rw [r1 i hi, r2 i hi]
        simp (disch := omega) only [↓mI_e, litI, cLeT, cLeF, cLtT, cLtF, cEqF, cEqT, mE1, mE2, mL1, mL2, mL3, mL4, cIn, nI_clamp, nI_add, cMul, cSub, cM1, nar0, nar1, true_implies, false_implies, not_true_eq_false, not_false_eq_true, true_and, and_true]
        have no : ¬ ((how = 1 ∧ mS h (rl R i) q ∧ gG (Mo_goes mo) (rr R i) t) ∨ (how = 2 ∧ gG (Mo_goes mo) t (rl R i) ∧ mS h (rr R i) q)) → p_Mo_stands_61 (nI t) (nI q) (nI how) (Mo_states_s mo h) Q f (nI 0) (nI (i + 1)) := fun z => ih _ (Or.inr ⟨rfl, hx, fun k hk => by
          by_cases e : k = i
          · exact e ▸ z
          · exact hx2 k (by omega)⟩)
        have yes : ((how = 1 ∧ mS h (rl R i) q ∧ gG (Mo_goes mo) (rr R i) t) ∨ (how = 2 ∧ gG (Mo_goes mo) t (rl R i) ∧ mS h (rr R i) q)) → p_Mo_stands_61 (nI t) (nI q) (nI how) (Mo_states_s mo h) Q f (nI 1) (nI (i + 1)) := fun z => ih _ (Or.inl ⟨rfl, Or.inr ⟨i, hi, z⟩⟩)
        rcases (by omega : how = 0 ∨ how = 1 ∨ how = 2) with rfl | rfl | rfl
        · simp (disch := omega) only [↓mI_e, litI, cLeT, cLeF, cLtT, cLtF, cEqF, cEqT, mE1, mE2, mL1, mL2, mL3, mL4, cIn, nI_clamp, nI_add, cMul, cSub, cM1, nar0, nar1, true_implies, false_implies, not_true_eq_false, not_false_eq_true, true_and, and_true]
          exact no (fun z => by omega)
        · simp (disch := omega) only [↓mI_e, litI, cLeT, cLeF, cLtT, cLtF, cEqF, cEqT, mE1, mE2, mL1, mL2, mL3, mL4, cIn, nI_clamp, nI_add, cMul, cSub, cM1, nar0, nar1, true_implies, false_implies, not_true_eq_false, not_false_eq_true, true_and, and_true]
          refine ⟨fun k => no (fun z => ?_), fun k => ⟨fun k2 => no (fun z => ?_), fun k2 => yes (Or.inl ⟨rfl, k, k2⟩)⟩⟩
          · rcases z with z | z
            · exact z.2.1 k
            · omega
          · rcases z with z | z
            · exact z.2.2 k2
            · omega
        · simp (disch := omega) only [↓mI_e, litI, cLeT, cLeF, cLtT, cLtF, cEqF, cEqT, mE1, mE2, mL1, mL2, mL3, mL4, cIn, nI_clamp, nI_add, cMul, cSub, cM1, nar0, nar1, true_implies, false_implies, not_true_eq_false, not_false_eq_true, true_and, and_true]
          refine ⟨fun k => no (fun z => ?_), fun k => ⟨fun k2 => no (fun z => ?_), fun k2 => yes (Or.inr ⟨rfl, k, k2⟩)⟩⟩
          · rcases z with z | z
            · omega
            · exact z.2.1 k
          · rcases z with z | z
            · omega
            · exact z.2.2 k2
  unfold p_Mo_stands
  have d0 := ha.1
  have d4 := ha.2.2.2.2.1
  refine forN (fun f i x => p_Mo_stands_6 (nI t) (nI q) (nI how) (Mo_states_s mo h) Q f x i) (fun i x => (x = nI 1 ∧ stA T R A how (Mo_goes mo) h t q) ∨ (x = nI 0 ∧ ∀ e, e < i → ¬ (at' A e = q ∧ byE T A (mS h) t e))) (an A) 0 _ (by omega) (Or.inr ⟨rfl, fun k hk => by omega⟩) ?_ ?_
  · intro f x hx
    unfold p_Mo_stands_6
    rw [d0]
    simp (disch := omega) only [↓mI_e, litI, cLeT, cLeF, cLtT, cLtF, cEqF, cEqT, mE1, mE2, mL1, mL2, mL3, mL4, cIn, nI_clamp, nI_add, cMul, cSub, cM1, nar0, nar1, true_implies, false_implies, not_true_eq_false, not_false_eq_true, true_and, and_true]
    exact k61 x hx
  · intro f i x hi hx ih
    have oi := ho.2 i hi
    unfold p_Mo_stands_6 p_Mo_stands_45
    rw [d0]
    rcases hx with ⟨rfl, hx⟩ | ⟨rfl, hx⟩
    · simp (disch := omega) only [↓mI_e, litI, cLeT, cLeF, cLtT, cLtF, cEqF, cEqT, mE1, mE2, mL1, mL2, mL3, mL4, cIn, nI_clamp, nI_add, cMul, cSub, cM1, nar0, nar1, true_implies, false_implies, not_true_eq_false, not_false_eq_true, true_and, and_true]
      exact ih _ (Or.inl ⟨rfl, hx⟩)
    · simp (disch := omega) only [↓mI_e, litI, cLeT, cLeF, cLtT, cLtF, cEqF, cEqT, mE1, mE2, mL1, mL2, mL3, mL4, cIn, nI_clamp, nI_add, cMul, cSub, cM1, nar0, nar1, true_implies, false_implies, not_true_eq_false, not_false_eq_true, true_and, and_true]
      rw [d4 i hi]
      have no : ¬ (at' A i = q ∧ byE T A (mS h) t i) → p_Mo_stands_6 (nI t) (nI q) (nI how) (Mo_states_s mo h) Q f (nI 0) (nI (i + 1)) := fun z => ih _ (Or.inr ⟨rfl, fun k hk => by
        by_cases e : k = i
        · exact e ▸ z
        · exact hx k (by omega)⟩)
      by_cases e1 : at' A i = q
      · simp (disch := omega) only [↓mI_e, litI, cLeT, cLeF, cLtT, cLtF, cEqF, cEqT, mE1, mE2, mL1, mL2, mL3, mL4, cIn, nI_clamp, nI_add, cMul, cSub, cM1, nar0, nar1, true_implies, false_implies, not_true_eq_false, not_false_eq_true, true_and, and_true]
        refine s_byEdge hM ho ha ht hi (fun c => ?_) (fun c => ?_)
        · simp (disch := omega) only [↓mI_e, litI, cLeT, cLeF, cLtT, cLtF, cEqF, cEqT, mE1, mE2, mL1, mL2, mL3, mL4, cIn, nI_clamp, nI_add, cMul, cSub, cM1, nar0, nar1, true_implies, false_implies, not_true_eq_false, not_false_eq_true, true_and, and_true]
          exact ih _ (Or.inl ⟨rfl, Or.inl ⟨i, hi, e1, c⟩⟩)
        · simp (disch := omega) only [↓mI_e, litI, cLeT, cLeF, cLtT, cLtF, cEqF, cEqT, mE1, mE2, mL1, mL2, mL3, mL4, cIn, nI_clamp, nI_add, cMul, cSub, cM1, nar0, nar1, true_implies, false_implies, not_true_eq_false, not_false_eq_true, true_and, and_true]
          exact no (fun z => c z.2)
      · simp (disch := omega) only [↓mI_e, litI, cLeT, cLeF, cLtT, cLtF, cEqF, cEqT, mE1, mE2, mL1, mL2, mL3, mL4, cIn, nI_clamp, nI_add, cMul, cSub, cM1, nar0, nar1, true_implies, false_implies, not_true_eq_false, not_false_eq_true, true_and, and_true]
        exact no (fun z => e1 z.1)
theorem s_stand {how : Nat} {Q : Mo → Prop} (hM : tMo T mo) (hr : rMo R mo) (hro : rOk T R) (ho : aOk T A) (ha : aMo T A F mo) (hh : how ≤ 2) (hG : ∀ s t, s < tn T → t < tn T → (gG (Mo_goes mo) s t ↔ Rch T R s t)) (hQ : ∀ h, (∀ t q, t < tn T → q < 6 → (mS h t q ↔ Stt T R A how t q)) → Q (Mo_states_s mo h)) : p_Mo_stand (nI how) mo Q := by
  have hn := hM.2.1
  have hMg : ∀ g, tMo T (Mo_states_s mo g) := fun g => hM
  have hrg : ∀ g, rMo R (Mo_states_s mo g) := fun g => hr
  have hag : ∀ g, aMo T A F (Mo_states_s mo g) := fun g => ha
  have hcg : ∀ g, Mo_count (Mo_states_s mo g) = nI (tn T) := fun g => hM.2.2.1
  have snd : ∀ h : Nat → Int32, (∀ t q, t < tn T → q < 6 → mS h t q → Stt T R A how t q) → ∀ t q, t < tn T → q < 6 → stA T R A how (Mo_goes mo) h t q → Stt T R A how t q := by
    intro h hS t q ht hq z
    have ot := hM.1.2.2 t ht
    rcases z with ⟨e, he, z1, z2⟩ | ⟨i, hi, ⟨z1, z2, z3⟩ | ⟨z1, z2, z3⟩⟩
    · have oe := ho.2 e he
      subst z1
      exact Stt.ed ho he ht ⟨z2.1, fun h => hS _ _ (by omega) oe.2.1 (z2.2.1 h), fun h => hS _ _ (by omega) oe.2.2.1 (z2.2.2 h)⟩
    · exact Stt.r1 z1 hi ((hG _ _ (hro.2 i hi).2.1 ht).mp z3) (hS _ _ (hro.2 i hi).1 hq z2)
    · exact Stt.r2 z1 hi ((hG _ _ ht (hro.2 i hi).1).mp z2) (hS _ _ (hro.2 i hi).2.1 hq z3)
  -- one passage
  have pass : ∀ (k24 : Int32 → Mo → Prop) (g : Nat → Int32), (∀ t q, t < tn T → q < 6 → mS g t q → Stt T R A how t q) → (∀ x g', (∀ t q, t < tn T → q < 6 → mS g' t q → Stt T R A how t q) → incT (tn T) g g' → ((x = nI 0 ∧ g' = g ∧ ∀ t q, t < tn T → q < 6 → stA T R A how (Mo_goes mo) g t q → mS g t q) ∨ (x = nI 1 ∧ cN (prsT (tn T) g) 288 < cN (prsT (tn T) g') 288)) → k24 x (Mo_states_s mo g')) → ∃ f, p_Mo_stand_32 (nI how) Q k24 f (0 : Int32) (0 : Int32) (Mo_states_s mo g) := by
    intro k24 g hS hK
    refine forN (fun f i (s : Int32 × (Nat → Int32)) => p_Mo_stand_32 (nI how) Q k24 f s.1 i (Mo_states_s mo s.2)) (fun i s => (∀ t q, t < tn T → q < 6 → mS s.2 t q → Stt T R A how t q) ∧ incT (tn T) g s.2 ∧ ((s.1 = nI 0 ∧ s.2 = g ∧ ∀ t q, t < i → q < 6 → stA T R A how (Mo_goes mo) g t q → mS g t q) ∨ (s.1 = nI 1 ∧ cN (prsT (tn T) g) 288 < cN (prsT (tn T) s.2) 288))) (tn T) 0 (0, g) (by omega) ⟨hS, incT.rf _ _, Or.inl ⟨rfl, rfl, fun t q h => by omega⟩⟩ ?_ ?_
    · rintro f ⟨x, g'⟩ ⟨h1, h2, h3⟩
      dsimp only at h1 h2 h3 ⊢
      unfold p_Mo_stand_32
      rw [hcg]
      simp (disch := omega) only [↓mI_e, litI, cLeT, cLeF, cLtT, cLtF, cEqF, cEqT, mE1, mE2, mL1, mL2, mL3, mL4, cIn, nI_clamp, nI_add, cMul, cSub, cM1, nar0, nar1, true_implies, false_implies, not_true_eq_false, not_false_eq_true, true_and, and_true]
      exact hK x g' h1 h2 h3
    · rintro f i ⟨x, g'⟩ hi ⟨h1, h2, h3⟩ ih
      dsimp only at h1 h2 h3 ⊢
      unfold p_Mo_stand_32
      rw [hcg]
      simp (disch := omega) only [↓mI_e, litI, cLeT, cLeF, cLtT, cLtF, cEqF, cEqT, mE1, mE2, mL1, mL2, mL3, mL4, cIn, nI_clamp, nI_add, cMul, cSub, cM1, nar0, nar1, true_implies, false_implies, not_true_eq_false, not_false_eq_true, true_and, and_true]
      refine forN (fun f' k (s : Int32 × (Nat → Int32)) => p_Mo_stand_43 (nI how) Q k24 (fun a0 a1 a2 => p_Mo_stand_32 (nI how) Q k24 f a0 a1 a2) f' s.1 (nI i) k (Mo_states_s mo s.2)) (fun k s => (∀ t q, t < tn T → q < 6 → mS s.2 t q → Stt T R A how t q) ∧ incT (tn T) g s.2 ∧ ((s.1 = nI 0 ∧ s.2 = g ∧ (∀ t q, t < i → q < 6 → stA T R A how (Mo_goes mo) g t q → mS g t q) ∧ ∀ q, q < k → stA T R A how (Mo_goes mo) g i q → mS g i q) ∨ (s.1 = nI 1 ∧ cN (prsT (tn T) g) 288 < cN (prsT (tn T) s.2) 288))) 6 0 (x, g') (by omega) ⟨h1, h2, h3.imp (fun k => ⟨k.1, k.2.1, k.2.2, fun v h => by omega⟩) id⟩ ?_ ?_
      · rintro f' ⟨x, g'⟩ ⟨h1, h2, h3⟩
        dsimp only at h1 h2 h3 ⊢
        unfold p_Mo_stand_43
        simp (disch := omega) only [↓mI_e, litI, cLeT, cLeF, cLtT, cLtF, cEqF, cEqT, mE1, mE2, mL1, mL2, mL3, mL4, cIn, nI_clamp, nI_add, cMul, cSub, cM1, nar0, nar1, true_implies, false_implies, not_true_eq_false, not_false_eq_true, true_and, and_true]
        refine ih (x, g') ⟨h1, h2, h3.imp (fun k => ⟨k.1, k.2.1, fun u v hu hv c => ?_⟩) id⟩
        by_cases e : u = i
        · subst e; exact k.2.2.2 v hv c
        · exact k.2.2.1 u v (by omega) hv c
      · rintro f' k ⟨x, g'⟩ hk ⟨h1, h2, h3⟩ ih2
        dsimp only at h1 h2 h3 ⊢
        unfold p_Mo_stand_43
        simp (disch := omega) only [↓mI_e, litI, cLeT, cLeF, cLtT, cLtF, cEqF, cEqT, mE1, mE2, mL1, mL2, mL3, mL4, cIn, nI_clamp, nI_add, cMul, cSub, cM1, nar0, nar1, true_implies, false_implies, not_true_eq_false, not_false_eq_true, true_and, and_true]
        have skip : (x = nI 0 → g' = g → stA T R A how (Mo_goes mo) g i k → mS g i k) → p_Mo_stand_43 (nI how) Q k24 (fun a0 a1 a2 => p_Mo_stand_32 (nI how) Q k24 f a0 a1 a2) f' x (nI i) (nI (k + 1)) (Mo_states_s mo g') := by
          intro hs
          refine ih2 (x, g') ⟨h1, h2, h3.imp (fun q => ⟨q.1, q.2.1, q.2.2.1, fun v hv c => ?_⟩) id⟩
          by_cases e : v = k
          · subst e; exact hs q.1 q.2.1 c
          · exact q.2.2.2 v (by omega) c
        refine ⟨fun hyes => skip (fun _ e _ => e ▸ hyes), fun hno => ?_⟩
        have hno : ¬ mS g' i k := fun q => q hno
        refine s_stands (hMg g') (hrg g') hro ho (hag g') hi hk hh (fun c => ?_) (fun c => ?_)
        · simp (disch := omega) only [↓mI_e, litI, cLeT, cLeF, cLtT, cLtF, cEqF, cEqT, mE1, mE2, mL1, mL2, mL3, mL4, cIn, nI_clamp, nI_add, cMul, cSub, cM1, nar0, nar1, true_implies, false_implies, not_true_eq_false, not_false_eq_true, true_and, and_true]
          refine nm_e (ih2 (nI 1, upd g' (6 * i + k) (nI 1)) ?_)
          have i1 : incT (tn T) g' (upd g' (6 * i + k) (nI 1)) := fun u v hu hv q => (mS_upd (by omega) (by omega)).mpr (Or.inl q)
          refine ⟨fun u v hu hv q => ?_, h2.tr i1, Or.inr ⟨rfl, ?_⟩⟩
          · rcases (mS_upd (by omega) (by omega)).mp q with q | ⟨q1, q2⟩
            · exact h1 u v hu hv q
            · subst q1 q2
              exact snd g' h1 _ _ hu hv c
          · have l1 := prsT_le h2
            have l2 := prsT_lt hn i1 hi hk hno ((mS_upd (by omega) (by omega)).mpr (Or.inr ⟨rfl, rfl⟩))
            dsimp only
            omega
        · simp (disch := omega) only [↓mI_e, litI, cLeT, cLeF, cLtT, cLtF, cEqF, cEqT, mE1, mE2, mL1, mL2, mL3, mL4, cIn, nI_clamp, nI_add, cMul, cSub, cM1, nar0, nar1, true_implies, false_implies, not_true_eq_false, not_false_eq_true, true_and, and_true]
          exact skip (fun _ e q => by subst e; exact absurd q c)
  have k24 : ∀ g, (∀ k, k < 288 → g k = nI 0) → ∃ f, p_Mo_stand_24 (nI how) Q f (1 : Int32) (Mo_states_s mo g) := by
    intro g hg
    refine loop_m (fun f (y : Int32 × (Nat → Int32)) => p_Mo_stand_24 (nI how) Q f y.1 (Mo_states_s mo y.2)) (fun y => (∀ t q, t < tn T → q < 6 → mS y.2 t q → Stt T R A how t q) ∧ (y.1 = nI 1 ∨ (y.1 = nI 0 ∧ ∀ t q, t < tn T → q < 6 → stA T R A how (Mo_goes mo) y.2 t q → mS y.2 t q))) (fun y => if y.1 = nI 0 then 0 else 1 + (288 - cN (prsT (tn T) y.2) 288)) ?_ (1, g) ⟨fun t q ht hq z => absurd (hg _ (by omega)) z, Or.inl rfl⟩
    rintro f ⟨x, g'⟩ ⟨e1, e3⟩ ih
    dsimp only at e1 e3 ⊢
    unfold p_Mo_stand_24
    rcases e3 with rfl | ⟨rfl, e3⟩
    · simp (disch := omega) only [↓mI_e, litI, cLeT, cLeF, cLtT, cLtF, cEqF, cEqT, mE1, mE2, mL1, mL2, mL3, mL4, cIn, nI_clamp, nI_add, cMul, cSub, cM1, nar0, nar1, true_implies, false_implies, not_true_eq_false, not_false_eq_true, true_and, and_true]
      refine pass _ g' e1 (fun x2 g2 d1 d2 d3 => ?_)
      refine ih (x2, g2) ⟨d1, ?_⟩ ?_
      · rcases d3 with ⟨rfl, rfl, d4⟩ | ⟨rfl, d4⟩
        · exact Or.inr ⟨rfl, d4⟩
        · exact Or.inl rfl
      · dsimp only
        rw [if_neg (show ¬ nI 1 = nI 0 by decide)]
        rcases d3 with ⟨rfl, rfl, d4⟩ | ⟨rfl, d4⟩
        · rw [if_pos rfl]; omega
        · rw [if_neg (by decide)]
          have := cN_le (prsT (tn T) g2) 288
          omega
    · simp (disch := omega) only [↓mI_e, litI, cLeT, cLeF, cLtT, cLtF, cEqF, cEqT, mE1, mE2, mL1, mL2, mL3, mL4, cIn, nI_clamp, nI_add, cMul, cSub, cM1, nar0, nar1, true_implies, false_implies, not_true_eq_false, not_false_eq_true, true_and, and_true]
      refine hQ g' (fun t q ht hq => ⟨e1 t q ht hq, fun z => ?_⟩)
      have := z.2.2 (fun t q => t < tn T → q < 6 → mS g' t q) ⟨fun e t he ht b _ hq => ?_, fun h1 i t q hi hq r s _ _ => ?_, fun h1 i t q hi hq r s _ _ => ?_⟩
      · exact this ht hq
      · have ot := hM.1.2.2 t ht
        have oe := ho.2 e he
        exact e3 t _ ht hq (Or.inl ⟨e, he, rfl, b.1, fun h => b.2.1 h (by omega) oe.2.1, fun h => b.2.2 h (by omega) oe.2.2.1⟩)
      · exact e3 t q r.2.1 hq (Or.inr ⟨i, hi, Or.inl ⟨h1, s (hro.2 i hi).1 hq, (hG _ _ r.1 r.2.1).mpr r⟩⟩)
      · exact e3 t q r.1 hq (Or.inr ⟨i, hi, Or.inr ⟨h1, (hG _ _ r.1 r.2.1).mpr r, s (hro.2 i hi).2.1 hq⟩⟩)
  unfold p_Mo_stand
  refine forN (fun f i (g : Nat → Int32) => p_Mo_stand_2 (nI how) Q f i (Mo_states_s mo g)) (fun i g => ∀ k, k < i → g k = nI 0) 288 0 (Mo_states mo) (by omega) (fun k hk => by omega) ?_ ?_
  · intro f g hg
    unfold p_Mo_stand_2
    simp (disch := omega) only [↓mI_e, litI, cLeT, cLeF, cLtT, cLtF, cEqF, cEqT, mE1, mE2, mL1, mL2, mL3, mL4, cIn, nI_clamp, nI_add, cMul, cSub, cM1, nar0, nar1, true_implies, false_implies, not_true_eq_false, not_false_eq_true, true_and, and_true]
    exact k24 g hg
  · intro f i g hi hg ih
    unfold p_Mo_stand_2
    simp (disch := omega) only [↓mI_e, litI, cLeT, cLeF, cLtT, cLtF, cEqF, cEqT, mE1, mE2, mL1, mL2, mL3, mL4, cIn, nI_clamp, nI_add, cMul, cSub, cM1, nar0, nar1, true_implies, false_implies, not_true_eq_false, not_false_eq_true, true_and, and_true]
    refine nm_e (ih _ (fun k hk => ?_))
    show upd g i (nI 0) k = nI 0
    by_cases e : k = i
    · exact upd_s e
    · rw [upd_n e]; exact hg k (by omega)
theorem s_isFinal {t how : Nat} {Q : Int32 → Mo → Prop} (hM : tMo T mo) (hr : rMo R mo) (hro : rOk T R) (ho : aOk T A) (ha : aMo T A F mo) (hF : F < 64) (hh : how ≤ 2) (ht : t < tn T) (h1 : (∃ q, Stt T R A how t q ∧ bi (nI F) q) → ∀ G h, Q (nI 1) (Mo_states_s (Mo_goes_s (Mo_thrown_s mo 0) G) h)) (h0 : ¬ (∃ q, Stt T R A how t q ∧ bi (nI F) q) → ∀ G h, Q (nI 0) (Mo_states_s (Mo_goes_s (Mo_thrown_s mo 0) G) h)) : p_Mo_isFinal (nI t) (nI how) mo Q := by
  have hn := hM.2.1
  unfold p_Mo_isFinal
  refine s_ask hM hr hro ht ht (fun G hG => ?_)
  simp (disch := omega) only [↓mI_e, litI, cLeT, cLeF, cLtT, cLtF, cEqF, cEqT, mE1, mE2, mL1, mL2, mL3, mL4, cIn, nI_clamp, nI_add, cMul, cSub, cM1, nar0, nar1, true_implies, false_implies, not_true_eq_false, not_false_eq_true, true_and, and_true]
  have hk := goes_k (thr_k mo 0) G
  refine s_stand (hM.kp hk) (hr.kp hk) hro ho (ha.kp hk) hh hG.1 (fun h hh2 => ?_)
  have ef : Mo_finals (Mo_states_s (Mo_goes_s (Mo_thrown_s mo 0) G) h) = nI F := ha.2.2.2.2.2
  refine forN (fun f i x => p_Mo_isFinal_21 (nI t) (nI how) Q f x i (Mo_states_s (Mo_goes_s (Mo_thrown_s mo 0) G) h)) (fun i x => (x = nI 1 ∧ ∃ q, Stt T R A how t q ∧ bi (nI F) q) ∨ (x = nI 0 ∧ ∀ q, q < i → ¬ (Stt T R A how t q ∧ bi (nI F) q))) 6 0 _ (by omega) (Or.inr ⟨rfl, fun k hk => by omega⟩) ?_ ?_
  · intro f x hx
    unfold p_Mo_isFinal_21
    simp (disch := omega) only [↓mI_e, litI, cLeT, cLeF, cLtT, cLtF, cEqF, cEqT, mE1, mE2, mL1, mL2, mL3, mL4, cIn, nI_clamp, nI_add, cMul, cSub, cM1, nar0, nar1, true_implies, false_implies, not_true_eq_false, not_false_eq_true, true_and, and_true]
    rcases hx with ⟨rfl, hx⟩ | ⟨rfl, hx⟩
    · exact ⟨Or.inr rfl, h1 hx _ _⟩
    · exact ⟨Or.inl rfl, h0 (fun ⟨q, z⟩ => hx q z.1.2.1 z) _ _⟩
  · intro f i x hi hx ih
    unfold p_Mo_isFinal_21 p_Mo_isFinal_60
    rw [ef]
    rcases hx with ⟨rfl, hx⟩ | ⟨rfl, hx⟩
    · simp (disch := omega) only [↓mI_e, litI, cLeT, cLeF, cLtT, cLtF, cEqF, cEqT, mE1, mE2, mL1, mL2, mL3, mL4, cIn, nI_clamp, nI_add, cMul, cSub, cM1, nar0, nar1, true_implies, false_implies, not_true_eq_false, not_false_eq_true, true_and, and_true]
      exact ih _ (Or.inl ⟨rfl, hx⟩)
    · simp (disch := omega) only [↓mI_e, litI, cLeT, cLeF, cLtT, cLtF, cEqF, cEqT, mE1, mE2, mL1, mL2, mL3, mL4, cIn, nI_clamp, nI_add, cMul, cSub, cM1, nar0, nar1, true_implies, false_implies, not_true_eq_false, not_false_eq_true, true_and, and_true]
      rw [bi_shr1 (by omega)]
      have no : ¬ (Stt T R A how t i ∧ bi (nI F) i) → p_Mo_isFinal_21 (nI t) (nI how) Q f (nI 0) (nI (i + 1)) (Mo_states_s (Mo_goes_s (Mo_thrown_s mo 0) G) h) := fun z => ih _ (Or.inr ⟨rfl, fun k hk => by
        by_cases e : k = i
        · exact e ▸ z
        · exact hx k (by omega)⟩)
      refine ⟨fun k => no (fun z => k z.2), fun k => ⟨fun k2 => no (fun z => (hh2 t i ht hi).mpr z.1 k2), fun k2 => ih _ (Or.inl ⟨rfl, i, (hh2 t i ht hi).mp k2, k⟩)⟩⟩
end
section
variable {j : Nat} {T : Tab} {R : Rul} {A : Aut} {F : Nat} {te : Te} {ru : Ru} {au : Au} {re : Re} {la : La} {sp : Sp} {le : Le} {mo : Mo} {a1 a2 a3 a4 : Int32}
theorem states_k {mo mo' : Mo} (h : mKp mo mo') (g : Nat → Int32) : mKp mo (Mo_states_s mo' g) := ⟨h.1, h.2.1, h.2.2.1, h.2.2.2.1, h.2.2.2.2.1, h.2.2.2.2.2.1, h.2.2.2.2.2.2.1, h.2.2.2.2.2.2.2.1, h.2.2.2.2.2.2.2.2.1, h.2.2.2.2.2.2.2.2.2.1, h.2.2.2.2.2.2.2.2.2.2⟩
theorem isFinal_bad {how : Nat} {Q : Int32 → Mo → Prop} {x : Int32} (hM : tMo T mo) (hb : ∀ t, t < tn T → x ≠ nI t) (hQ : Q (nI 0) (Mo_thrown_s mo (nI 1))) : p_Mo_isFinal x (nI how) mo Q := by
  unfold p_Mo_isFinal
  refine s_ask_bad hM (Or.inl hb) ?_
  simp (disch := omega) only [↓mI_e, litI, cLeT, cLeF, cLtT, cLtF, cEqF, cEqT, mE1, mE2, mL1, mL2, mL3, mL4, cIn, nI_clamp, nI_add, cMul, cSub, cM1, nar0, nar1, true_implies, false_implies, not_true_eq_false, not_false_eq_true, true_and, and_true]
  exact hQ
theorem q_8 (h : InvW j T R A F (te, ru, au, re, la, sp, le) mo) : ls_8 a1 a2 a3 a4 te ru au re la sp le mo (Inv (j + 1)) := by
  have hT := h.t
  have hM := h.1.2
  have hn := hM.2.1
  obtain ⟨ho, hru, hrm⟩ := h.2.1
  obtain ⟨hao, hF, hau, ham⟩ := h.2.2.1
  unfold ls_8 p_Gr_has p_Mo_has
  rcases ixc a1 (n := tn T) (by omega) with ⟨t, ht, rfl⟩ | ⟨-, g⟩
  · simp (disch := omega) only [↓mI_e, litI, cLeT, cLeF, cLtT, cLtF, cEqF, cEqT, mE1, mE2, mL1, mL2, mL3, mL4, cIn, nI_clamp, nI_add, cMul, cSub, cM1, nar0, nar1, true_implies, false_implies, not_true_eq_false, not_false_eq_true, true_and, and_true, made_t hT]
    refine s_statesAt (R := R) hT hn hao hau ht (fun r la' hr => ?_)
    have hI : ∀ G g, Inv (j + 1) (te, ru, au, re, la', sp, le) (Mo_states_s (Mo_goes_s (Mo_thrown_s mo 0) G) g) := fun G g => h.same (states_k (goes_k (thr_k mo _) G) g)
    have ex : (∃ q, bi r q ∧ bi (nI F) q) ↔ (∃ q, Stt T R A 0 t q ∧ bi (nI F) q) := ⟨fun ⟨q, z⟩ => ⟨q, (hr q).mp z.1, z.2⟩, fun ⟨q, z⟩ => ⟨q, (hr q).mpr z.1, z.2⟩⟩
    refine s_anyFinal hau (fun z => ⟨Or.inr rfl, ?_⟩) (fun z => ⟨Or.inl rfl, ?_⟩)
    · exact s_isFinal (how := 0) hM hrm ho hao ham hF (by omega) ht (fun _ G g => ⟨Or.inr rfl, rfl, rfl, hI G g⟩) (fun z2 => absurd (ex.mp z) z2)
    · exact s_isFinal (how := 0) hM hrm ho hao ham hF (by omega) ht (fun z2 => absurd (ex.mpr z2) z) (fun _ G g => ⟨Or.inl rfl, rfl, rfl, hI G g⟩)
  · rw [made_f hT g]
    exact ⟨fun h => absurd rfl h, fun _ => ⟨rfl, isFinal_bad (how := 0) hM g ⟨Or.inl rfl, rfl, h.same (thr_k mo _)⟩⟩⟩
theorem q_9 (h : InvW j T R A F (te, ru, au, re, la, sp, le) mo) : ls_9 a1 a2 a3 a4 te ru au re la sp le mo (Inv (j + 1)) := by
  have hT := h.t
  have hM := h.1.2
  have hn := hM.2.1
  obtain ⟨ho, hru, hrm⟩ := h.2.1
  obtain ⟨hao, hF, hau, ham⟩ := h.2.2.1
  unfold ls_9 p_Gr_from p_Mo_from
  rcases ixc a1 (n := tn T) (by omega) with ⟨t, ht, rfl⟩ | ⟨-, g⟩
  · simp (disch := omega) only [↓mI_e, litI, cLeT, cLeF, cLtT, cLtF, cEqF, cEqT, mE1, mE2, mL1, mL2, mL3, mL4, cIn, nI_clamp, nI_add, cMul, cSub, cM1, nar0, nar1, true_implies, false_implies, not_true_eq_false, not_false_eq_true, true_and, and_true, made_t hT]
    refine s_renew hT hn hru ho h.c (fun re' hg hj hc _ _ => ?_)
    unfold p_La_statesBefore
    refine s_spread (how := 1) (T := T) (R := R) (A := A) (F := F) hT hn ho hao hau (Or.inl rfl) hg (fun la' hla => ?_)
    simp (disch := omega) only [↓mI_e, litI, cLeT, cLeF, cLtT, cLtF, cEqF, cEqT, mE1, mE2, mL1, mL2, mL3, mL4, cIn, nI_clamp, nI_add, cMul, cSub, cM1, nar0, nar1, true_implies, false_implies, not_true_eq_false, not_false_eq_true, true_and, and_true]
    have hI : ∀ G g, Inv (j + 1) (te, ru, au, re', la', sp, le) (Mo_states_s (Mo_goes_s (Mo_thrown_s mo 0) G) g) := fun G g => h.kp (states_k (goes_k (thr_k mo _) G) g) hT h.a hc
    have ex : (∃ q, bi (la' t) q ∧ bi (nI F) q) ↔ (∃ q, Stt T R A 1 t q ∧ bi (nI F) q) := ⟨fun ⟨q, z⟩ => ⟨q, (hla t q ht).mp z.1, z.2⟩, fun ⟨q, z⟩ => ⟨q, (hla t q ht).mpr z.1, z.2⟩⟩
    refine s_anyFinal hau (fun z => ⟨Or.inr rfl, ?_⟩) (fun z => ⟨Or.inl rfl, ?_⟩)
    · exact s_isFinal (how := 1) hM hrm ho hao ham hF (by omega) ht (fun _ G g => ⟨Or.inr rfl, rfl, rfl, hI G g⟩) (fun z2 => absurd (ex.mp z) z2)
    · exact s_isFinal (how := 1) hM hrm ho hao ham hF (by omega) ht (fun z2 => absurd (ex.mpr z2) z) (fun _ G g => ⟨Or.inl rfl, rfl, rfl, hI G g⟩)
  · rw [made_f hT g]
    exact ⟨fun h => absurd rfl h, fun _ => ⟨rfl, isFinal_bad (how := 1) hM g ⟨Or.inl rfl, rfl, h.same (thr_k mo _)⟩⟩⟩
theorem q_10 (h : InvW j T R A F (te, ru, au, re, la, sp, le) mo) : ls_10 a1 a2 a3 a4 te ru au re la sp le mo (Inv (j + 1)) := by
  have hT := h.t
  have hM := h.1.2
  have hn := hM.2.1
  obtain ⟨ho, hru, hrm⟩ := h.2.1
  obtain ⟨hao, hF, hau, ham⟩ := h.2.2.1
  unfold ls_10 p_Gr_into p_Mo_into
  rcases ixc a1 (n := tn T) (by omega) with ⟨t, ht, rfl⟩ | ⟨-, g⟩
  · simp (disch := omega) only [↓mI_e, litI, cLeT, cLeF, cLtT, cLtF, cEqF, cEqT, mE1, mE2, mL1, mL2, mL3, mL4, cIn, nI_clamp, nI_add, cMul, cSub, cM1, nar0, nar1, true_implies, false_implies, not_true_eq_false, not_false_eq_true, true_and, and_true, made_t hT]
    refine s_renew hT hn hru ho h.c (fun re' hg hj hc _ _ => ?_)
    unfold p_La_statesBehind
    refine s_spread (how := 2) (T := T) (R := R) (A := A) (F := F) hT hn ho hao hau (Or.inr rfl) hg (fun la' hla => ?_)
    simp (disch := omega) only [↓mI_e, litI, cLeT, cLeF, cLtT, cLtF, cEqF, cEqT, mE1, mE2, mL1, mL2, mL3, mL4, cIn, nI_clamp, nI_add, cMul, cSub, cM1, nar0, nar1, true_implies, false_implies, not_true_eq_false, not_false_eq_true, true_and, and_true]
    have hI : ∀ G g, Inv (j + 1) (te, ru, au, re', la', sp, le) (Mo_states_s (Mo_goes_s (Mo_thrown_s mo 0) G) g) := fun G g => h.kp (states_k (goes_k (thr_k mo _) G) g) hT h.a hc
    have ex : (∃ q, bi (la' t) q ∧ bi (nI F) q) ↔ (∃ q, Stt T R A 2 t q ∧ bi (nI F) q) := ⟨fun ⟨q, z⟩ => ⟨q, (hla t q ht).mp z.1, z.2⟩, fun ⟨q, z⟩ => ⟨q, (hla t q ht).mpr z.1, z.2⟩⟩
    refine s_anyFinal hau (fun z => ⟨Or.inr rfl, ?_⟩) (fun z => ⟨Or.inl rfl, ?_⟩)
    · exact s_isFinal (how := 2) hM hrm ho hao ham hF (by omega) ht (fun _ G g => ⟨Or.inr rfl, rfl, rfl, hI G g⟩) (fun z2 => absurd (ex.mp z) z2)
    · exact s_isFinal (how := 2) hM hrm ho hao ham hF (by omega) ht (fun z2 => absurd (ex.mpr z2) z) (fun _ G g => ⟨Or.inl rfl, rfl, rfl, hI G g⟩)
  · rw [made_f hT g]
    exact ⟨fun h => absurd rfl h, fun _ => ⟨rfl, isFinal_bad (how := 2) hM g ⟨Or.inl rfl, rfl, h.same (thr_k mo _)⟩⟩⟩
end
