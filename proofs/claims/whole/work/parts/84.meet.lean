/-! what meets what -/
theorem or01 : ∀ a, a < 2 → ∀ b, b < 2 → (nI a ||| nI b) = nI (if a = 1 ∨ b = 1 then 1 else 0) := by decide
section
variable {T : Tab} {R : Rul} {te : Te} {ru : Ru} {re : Re}
theorem s_partsJ {u v : Nat} {Q : Int32 → Prop} (hT : tTe T te) (hn : tn T ≤ 48) (hu : u < tn T) (hv : v < tn T) {g : Nat → Int64} (h1 : cg T (fun a b => bl (g a) b) u v → Q (nI 1)) (h0 : ¬ cg T (fun a b => bl (g a) b) u v → Q (nI 0)) : p_Re_partsRelated_joined (nI u) (nI v) te (Re_joined_s re g) Q := by
  have o := hT.1
  have ou := o.2.2 u hu
  have ov := o.2.2 v hv
  have q2 : tq T u ≤ 2 := o.2.1 _
  unfold p_Re_partsRelated_joined
  simp (disch := omega) only [↓mI_e, litI, cLeT, cLeF, cLtT, cLtF, cEqF, cEqT, mE1, mE2, mL1, mL2, mL3, mL4, cIn, nI_clamp, nI_add, cMul, cSub, cM1, nar0, nar1, true_implies, false_implies, not_true_eq_false, not_false_eq_true, true_and, and_true, symbol_t hT]
  by_cases es : ts T u = ts T v
  · have eq : tq T u = tq T v := by unfold tq; rw [es]
    have k67 : (1 ≤ tq T u → bl (g (ta T u)) (ta T v)) → p_Re_partsRelated_joined_67 (nI u) (nI v) te (Re_joined_s re g) Q (nI (tq T u)) := by
      intro k1
      unfold p_Re_partsRelated_joined_67 p_Re_partsRelated_joined_96
      by_cases t2 : 2 ≤ tq T u
      · simp (disch := omega) only [↓mI_e, litI, cLeT, cLeF, cLtT, cLtF, cEqF, cEqT, mE1, mE2, mL1, mL2, mL3, mL4, cIn, nI_clamp, nI_add, cMul, cSub, cM1, nar0, nar1, true_implies, false_implies, not_true_eq_false, not_false_eq_true, true_and, and_true, second_t hT]
        rw [pc_n t2, pc_n (by omega), isInJ (by omega) (by omega)]
        refine ⟨fun k => ?_, fun k => ?_⟩
        · simp (disch := omega) only [↓mI_e, litI, cLeT, cLeF, cLtT, cLtF, cEqF, cEqT, mE1, mE2, mL1, mL2, mL3, mL4, cIn, nI_clamp, nI_add, cMul, cSub, cM1, nar0, nar1, true_implies, false_implies, not_true_eq_false, not_false_eq_true, true_and, and_true]
          exact h0 (fun c => k (c.2.2 t2))
        · simp (disch := omega) only [↓mI_e, litI, cLeT, cLeF, cLtT, cLtF, cEqF, cEqT, mE1, mE2, mL1, mL2, mL3, mL4, cIn, nI_clamp, nI_add, cMul, cSub, cM1, nar0, nar1, true_implies, false_implies, not_true_eq_false, not_false_eq_true, true_and, and_true]
          exact h1 ⟨es, k1, fun _ => k⟩
      · simp (disch := omega) only [↓mI_e, litI, cLeT, cLeF, cLtT, cLtF, cEqF, cEqT, mE1, mE2, mL1, mL2, mL3, mL4, cIn, nI_clamp, nI_add, cMul, cSub, cM1, nar0, nar1, true_implies, false_implies, not_true_eq_false, not_false_eq_true, true_and, and_true]
        exact h1 ⟨es, k1, fun h => by omega⟩
    rw [es]
    simp (disch := omega) only [↓mI_e, litI, cLeT, cLeF, cLtT, cLtF, cEqF, cEqT, mE1, mE2, mL1, mL2, mL3, mL4, cIn, nI_clamp, nI_add, cMul, cSub, cM1, nar0, nar1, true_implies, false_implies, not_true_eq_false, not_false_eq_true, true_and, and_true, placesS_t hT]
    rw [← eq]
    by_cases t1 : 1 ≤ tq T u
    · simp (disch := omega) only [↓mI_e, litI, cLeT, cLeF, cLtT, cLtF, cEqF, cEqT, mE1, mE2, mL1, mL2, mL3, mL4, cIn, nI_clamp, nI_add, cMul, cSub, cM1, nar0, nar1, true_implies, false_implies, not_true_eq_false, not_false_eq_true, true_and, and_true, first_t hT]
      rw [pc_n t1, pc_n (by omega), isInJ (by omega) (by omega)]
      refine ⟨fun k => ?_, fun k => ?_⟩
      · simp (disch := omega) only [↓mI_e, litI, cLeT, cLeF, cLtT, cLtF, cEqF, cEqT, mE1, mE2, mL1, mL2, mL3, mL4, cIn, nI_clamp, nI_add, cMul, cSub, cM1, nar0, nar1, true_implies, false_implies, not_true_eq_false, not_false_eq_true, true_and, and_true]
        exact h0 (fun c => k (c.2.1 t1))
      · simp (disch := omega) only [↓mI_e, litI, cLeT, cLeF, cLtT, cLtF, cEqF, cEqT, mE1, mE2, mL1, mL2, mL3, mL4, cIn, nI_clamp, nI_add, cMul, cSub, cM1, nar0, nar1, true_implies, false_implies, not_true_eq_false, not_false_eq_true, true_and, and_true]
        exact k67 (fun _ => k)
    · simp (disch := omega) only [↓mI_e, litI, cLeT, cLeF, cLtT, cLtF, cEqF, cEqT, mE1, mE2, mL1, mL2, mL3, mL4, cIn, nI_clamp, nI_add, cMul, cSub, cM1, nar0, nar1, true_implies, false_implies, not_true_eq_false, not_false_eq_true, true_and, and_true]
      exact k67 (fun h => by omega)
  · simp (disch := omega) only [↓mI_e, litI, cLeT, cLeF, cLtT, cLtF, cEqF, cEqT, mE1, mE2, mL1, mL2, mL3, mL4, cIn, nI_clamp, nI_add, cMul, cSub, cM1, nar0, nar1, true_implies, false_implies, not_true_eq_false, not_false_eq_true, true_and, and_true]
    exact h0 (fun c => es c.1)
/-- one passage of lifting -/
theorem s_liftJ {Q : Int32 → Re → Prop} {g : Nat → Int64} (hT : tTe T te) (hn : tn T ≤ 48) (hb : below (tn T) g) (hQ : ∀ x g', below (tn T) g' → inc (tn T) g g' → (∀ S : Nat → Nat → Prop, (∀ u v, u < tn T → v < tn T → cg T S u v → S u v) → (∀ u v, u < tn T → bl (g u) v → S u v) → ∀ u v, u < tn T → bl (g' u) v → S u v) → ((x = nI 0 ∧ g' = g ∧ ∀ u v, u < tn T → v < tn T → cg T (fun a b => bl (g a) b) u v → bl (g u) v) ∨ (x = nI 1 ∧ ∃ u v, u < tn T ∧ v < tn T ∧ ¬ bl (g u) v ∧ bl (g' u) v)) → Q x (Re_joined_s re g')) : p_Re_liftFromParts_joined (nI (tn T)) te (Re_joined_s re g) Q := by
  have o := hT.1
  unfold p_Re_liftFromParts_joined
  refine forN (fun f i (s : Int32 × (Nat → Int64)) => p_Re_liftFromParts_joined_5 (nI (tn T)) te Q f s.1 i (Re_joined_s re s.2)) (fun i s => below (tn T) s.2 ∧ inc (tn T) g s.2 ∧ (∀ S : Nat → Nat → Prop, (∀ u v, u < tn T → v < tn T → cg T S u v → S u v) → (∀ u v, u < tn T → bl (g u) v → S u v) → ∀ u v, u < tn T → bl (s.2 u) v → S u v) ∧ ((s.1 = nI 0 ∧ s.2 = g ∧ ∀ u v, u < i → v < tn T → cg T (fun a b => bl (g a) b) u v → bl (g u) v) ∨ (s.1 = nI 1 ∧ ∃ u v, u < tn T ∧ v < tn T ∧ ¬ bl (g u) v ∧ bl (s.2 u) v))) (tn T) 0 (0, g) (by omega) ⟨hb, inc.rf _ g, fun S _ h => h, Or.inl ⟨rfl, rfl, fun u v h => by omega⟩⟩ ?_ ?_
  · rintro f ⟨x, g'⟩ ⟨h1, h2, h3, h4⟩
    dsimp only at h1 h2 h3 h4 ⊢
    unfold p_Re_liftFromParts_joined_5
    simp (disch := omega) only [↓mI_e, litI, cLeT, cLeF, cLtT, cLtF, cEqF, cEqT, mE1, mE2, mL1, mL2, mL3, mL4, cIn, nI_clamp, nI_add, cMul, cSub, cM1, nar0, nar1, true_implies, false_implies, not_true_eq_false, not_false_eq_true, true_and, and_true]
    refine ⟨?_, hQ x g' h1 h2 h3 h4⟩
    rcases h4 with h4 | h4
    · exact Or.inl h4.1
    · exact Or.inr h4.1
  · rintro f i ⟨x, g'⟩ hi ⟨h1, h2, h3, h4⟩ ih
    dsimp only at h1 h2 h3 h4 ⊢
    unfold p_Re_liftFromParts_joined_5
    simp (disch := omega) only [↓mI_e, litI, cLeT, cLeF, cLtT, cLtF, cEqF, cEqT, mE1, mE2, mL1, mL2, mL3, mL4, cIn, nI_clamp, nI_add, cMul, cSub, cM1, nar0, nar1, true_implies, false_implies, not_true_eq_false, not_false_eq_true, true_and, and_true]
    refine forN (fun f' k (s : Int32 × (Nat → Int64)) => p_Re_liftFromParts_joined_14 (nI (tn T)) te Q (fun a0 a1 a2 => p_Re_liftFromParts_joined_5 (nI (tn T)) te Q f a0 a1 a2) f' s.1 (nI i) k (Re_joined_s re s.2)) (fun k s => below (tn T) s.2 ∧ inc (tn T) g s.2 ∧ (∀ S : Nat → Nat → Prop, (∀ u v, u < tn T → v < tn T → cg T S u v → S u v) → (∀ u v, u < tn T → bl (g u) v → S u v) → ∀ u v, u < tn T → bl (s.2 u) v → S u v) ∧ ((s.1 = nI 0 ∧ s.2 = g ∧ (∀ u v, u < i → v < tn T → cg T (fun a b => bl (g a) b) u v → bl (g u) v) ∧ ∀ v, v < k → cg T (fun a b => bl (g a) b) i v → bl (g i) v) ∨ (s.1 = nI 1 ∧ ∃ u v, u < tn T ∧ v < tn T ∧ ¬ bl (g u) v ∧ bl (s.2 u) v))) (tn T) 0 (x, g') (by omega) ⟨h1, h2, h3, h4.imp (fun k => ⟨k.1, k.2.1, k.2.2, fun v h => by omega⟩) id⟩ ?_ ?_
    · rintro f' ⟨x, g'⟩ ⟨h1, h2, h3, h4⟩
      dsimp only at h1 h2 h3 h4 ⊢
      unfold p_Re_liftFromParts_joined_14
      simp (disch := omega) only [↓mI_e, litI, cLeT, cLeF, cLtT, cLtF, cEqF, cEqT, mE1, mE2, mL1, mL2, mL3, mL4, cIn, nI_clamp, nI_add, cMul, cSub, cM1, nar0, nar1, true_implies, false_implies, not_true_eq_false, not_false_eq_true, true_and, and_true]
      refine ih (x, g') ⟨h1, h2, h3, h4.imp (fun k => ⟨k.1, k.2.1, fun u v hu hv c => ?_⟩) id⟩
      by_cases e : u = i
      · subst e; exact k.2.2.2 v hv c
      · exact k.2.2.1 u v (by omega) hv c
    · rintro f' k ⟨x, g'⟩ hk ⟨h1, h2, h3, h4⟩ ih2
      dsimp only at h1 h2 h3 h4 ⊢
      unfold p_Re_liftFromParts_joined_14
      simp (disch := omega) only [↓mI_e, litI, cLeT, cLeF, cLtT, cLtF, cEqF, cEqT, mE1, mE2, mL1, mL2, mL3, mL4, cIn, nI_clamp, nI_add, cMul, cSub, cM1, nar0, nar1, true_implies, false_implies, not_true_eq_false, not_false_eq_true, true_and, and_true, isInJ]
      have skip : (x = nI 0 → cg T (fun a b => bl (g a) b) i k → g' = g → bl (g i) k) → p_Re_liftFromParts_joined_14 (nI (tn T)) te Q (fun a0 a1 a2 => p_Re_liftFromParts_joined_5 (nI (tn T)) te Q f a0 a1 a2) f' x (nI i) (nI (k + 1)) (Re_joined_s re g') := by
        intro hs
        refine ih2 (x, g') ⟨h1, h2, h3, h4.imp (fun q => ⟨q.1, q.2.1, q.2.2.1, fun v hv c => ?_⟩) id⟩
        by_cases e : v = k
        · subst e; exact hs q.1 c q.2.1
        · exact q.2.2.2 v (by omega) c
      refine ⟨fun hnot => s_partsJ hT hn hi hk (fun c => ?_) (fun c => ?_), fun hb' => skip (fun _ _ e => e ▸ hb')⟩
      · simp (disch := omega) only [↓mI_e, litI, cLeT, cLeF, cLtT, cLtF, cEqF, cEqT, mE1, mE2, mL1, mL2, mL3, mL4, cIn, nI_clamp, nI_add, cMul, cSub, cM1, nar0, nar1, true_implies, false_implies, not_true_eq_false, not_false_eq_true, true_and, and_true]
        refine nm_e (ih2 (nI 1, _) ?_)
        have up : ∀ u v, bl (vp_updL g' i (g' i ||| ((1 : Int64) <<< ((nI k).toInt64 &&& 63))) u) v ↔ bl (g' u) v ∨ (u = i ∧ v = k) := by
          intro u v
          by_cases e : u = i
          · subst e
            rw [updL_s rfl, bl_or, bl_shl (by omega)]
            exact ⟨fun q => q.imp id (fun q => ⟨rfl, q⟩), fun q => q.imp id (fun q => q.2)⟩
          · rw [updL_n e]
            exact ⟨Or.inl, fun q => q.elim id (fun q => absurd q.1 e)⟩
        refine ⟨fun u v hu q => ?_, fun u v hu q => (up u v).mpr (Or.inl (h2 u v hu q)), fun S hS hg u v hu q => ?_, Or.inr ⟨rfl, i, k, hi, hk, fun q => hnot (h2 i k hi q), (up i k).mpr (Or.inr ⟨rfl, rfl⟩)⟩⟩
        · rcases (up u v).mp q with q | q
          · exact h1 u v hu q
          · omega
        · rcases (up u v).mp q with q | ⟨q1, q2⟩
          · exact h3 S hS hg u v hu q
          · subst q1 q2
            have oi := o.2.2 u hu
            exact hS u v hu hk ⟨c.1, fun h => h3 S hS hg _ _ (by omega) (c.2.1 h), fun h => h3 S hS hg _ _ (by omega) (c.2.2 h)⟩
      · simp (disch := omega) only [↓mI_e, litI, cLeT, cLeF, cLtT, cLtF, cEqF, cEqT, mE1, mE2, mL1, mL2, mL3, mL4, cIn, nI_clamp, nI_add, cMul, cSub, cM1, nar0, nar1, true_implies, false_implies, not_true_eq_false, not_false_eq_true, true_and, and_true]
        exact skip (fun _ c' e => absurd (e ▸ c') c)

theorem isInRJ {u v : Nat} {Q : Int32 → Prop} (hu : u < 48) (hv : v < 64) {g : Nat → Int64} : p_Re_isIn_reached (nI u) (nI v) (Re_joined_s re g) Q ↔ ((¬ bl (Re_reached re u) v → Q (nI 0)) ∧ (bl (Re_reached re u) v → Q (nI 1))) := by
  rw [show Re_joined_s re g = Re_reached_s (Re_joined_s re g) (Re_reached re) from rfl, isInR hu hv]
theorem updL_self (g : Nat → Int64) (u : Nat) : vp_updL g u (g u) = g := by
  funext k
  by_cases e : k = u
  · rw [updL_s e, e]
  · rw [updL_n e]
/-- one passage of inheriting -/
theorem s_inhJ {Q : Int32 → Re → Prop} {g : Nat → Int64} (hn : tn T ≤ 48) (hR : rowsOf (tn T) (Rch T R) (Re_reached re)) (hb : below (tn T) g) (hS : ∀ u v, u < tn T → bl (g u) v → Jn T R u v) (hQ : ∀ x g', below (tn T) g' → inc (tn T) g g' → (∀ u v, u < tn T → bl (g' u) v → Jn T R u v) → ((x = nI 0 ∧ g' = g ∧ (∀ u v w, Rch T R u v → bl (g v) w → bl (g u) w) ∧ (∀ u w, u < tn T → w < tn T → bl (g w) u → bl (g u) w)) ∨ (x = nI 1 ∧ ∃ u v, u < tn T ∧ v < tn T ∧ ¬ bl (g u) v ∧ bl (g' u) v)) → Q x (Re_joined_s re g')) : p_Re_inheritJoined (nI (tn T)) (Re_joined_s re g) Q := by
  unfold p_Re_inheritJoined
  refine forN (fun f i (s : Int32 × (Nat → Int64)) => p_Re_inheritJoined_4 (nI (tn T)) Q f s.1 i (Re_joined_s re s.2)) (fun i s => below (tn T) s.2 ∧ inc (tn T) g s.2 ∧ (∀ u v, u < tn T → bl (s.2 u) v → Jn T R u v) ∧ ((s.1 = nI 0 ∧ s.2 = g ∧ (∀ u v w, u < i → Rch T R u v → bl (g v) w → bl (g u) w) ∧ (∀ u w, u < i → w < tn T → bl (g w) u → bl (g u) w)) ∨ (s.1 = nI 1 ∧ ∃ u v, u < tn T ∧ v < tn T ∧ ¬ bl (g u) v ∧ bl (s.2 u) v))) (tn T) 0 (0, g) (by omega) ⟨hb, inc.rf _ g, hS, Or.inl ⟨rfl, rfl, fun u v w h => by omega, fun u w h => by omega⟩⟩ ?_ ?_
  · rintro f ⟨x, g'⟩ ⟨h1, h2, h3, h4⟩
    dsimp only at h1 h2 h3 h4 ⊢
    unfold p_Re_inheritJoined_4
    simp (disch := omega) only [↓mI_e, litI, cLeT, cLeF, cLtT, cLtF, cEqF, cEqT, mE1, mE2, mL1, mL2, mL3, mL4, cIn, nI_clamp, nI_add, cMul, cSub, cM1, nar0, nar1, true_implies, false_implies, not_true_eq_false, not_false_eq_true, true_and, and_true]
    refine ⟨?_, hQ x g' h1 h2 h3 (h4.imp (fun k => ⟨k.1, k.2.1, fun u v w q => k.2.2.1 u v w q.1 q, k.2.2.2⟩) id)⟩
    rcases h4 with h4 | h4
    · exact Or.inl h4.1
    · exact Or.inr h4.1
  · rintro f u ⟨x, g'⟩ hu ⟨h1, h2, h3, h4⟩ ih
    dsimp only at h1 h2 h3 h4 ⊢
    unfold p_Re_inheritJoined_4
    simp (disch := omega) only [↓mI_e, litI, cLeT, cLeF, cLtT, cLtF, cEqF, cEqT, mE1, mE2, mL1, mL2, mL3, mL4, cIn, nI_clamp, nI_add, cMul, cSub, cM1, nar0, nar1, true_implies, false_implies, not_true_eq_false, not_false_eq_true, true_and, and_true]
    have x01 : ∃ a, a < 2 ∧ x = nI a := by
      rcases h4 with h4 | h4
      · exact ⟨0, by omega, h4.1⟩
      · exact ⟨1, by omega, h4.1⟩
    obtain ⟨a, ha, rfl⟩ := x01
    refine forN (fun f' k (row : Int64) => p_Re_inheritJoined_20 (nI (tn T)) Q (fun a0 a1 a2 => p_Re_inheritJoined_4 (nI (tn T)) Q f a0 a1 a2) f' (nI a) (nI u) row k (Re_joined_s re g')) (fun k row => ∀ w, bl row w ↔ bl (g' u) w ∨ (∃ v, v < k ∧ Rch T R u v ∧ bl (g' v) w) ∨ (w < k ∧ bl (g' w) u)) (tn T) 0 (g' u) (by omega) (fun w => ⟨Or.inl, fun q => q.elim id (fun q => q.elim (fun ⟨v, hv, _⟩ => by omega) (fun q => by omega))⟩) ?_ ?_
    · intro f' row hrow
      unfold p_Re_inheritJoined_20 p_Re_inheritJoined_97
      simp (disch := omega) only [↓mI_e, litI, cLeT, cLeF, cLtT, cLtF, cEqF, cEqT, mE1, mE2, mL1, mL2, mL3, mL4, cIn, nI_clamp, nI_add, cMul, cSub, cM1, nar0, nar1, true_implies, false_implies, not_true_eq_false, not_false_eq_true, true_and, and_true]
      show ((lg_cmp row (g' u) = nI 0 → _) ∧ (¬ lg_cmp row (g' u) = nI 0 → _))
      have er : (lg_cmp row (g' u) = nI 0) ↔ row = g' u := lg_cmp_eq _ _
      rw [er]
      have bel : ∀ w, bl row w → w < tn T := by
        intro w q
        rcases (hrow w).mp q with q | ⟨v, hv, q1, q2⟩ | q
        · exact h1 u w hu q
        · exact h1 v w hv q2
        · exact q.1
      have snd : ∀ w, bl row w → Jn T R u w := by
        intro w q
        rcases (hrow w).mp q with q | ⟨v, hv, q1, q2⟩ | q
        · exact h3 u w hu q
        · exact Jn.inh q1 (h3 v w hv q2)
        · exact (h3 w u q.1 q.2).sy
      refine ⟨fun e => nm_e ?_, fun e => nm_e ?_⟩
      · subst e
        rw [or01 a ha 0 (by omega)]
        have z : p_Re_inheritJoined_4 (nI (tn T)) Q f (nI (if a = 1 ∨ 0 = 1 then 1 else 0)) (nI (u + 1)) (Re_joined_s re g') := by
          refine ih (nI (if a = 1 ∨ 0 = 1 then 1 else 0), g') ?_
          refine ⟨h1, h2, h3, ?_⟩
          rcases h4 with ⟨e1, e2, e3, e4⟩ | ⟨e1, e2⟩
          · have ea : a = 0 := (nI_eq (by omega) (by omega)).mp e1
            subst ea
            subst e2
            refine Or.inl ⟨rfl, rfl, fun y v w hy q1 q2 => ?_, fun y w hy hw q => ?_⟩
            · by_cases ey : y = u
              · subst ey
                exact (hrow w).mpr (Or.inr (Or.inl ⟨v, q1.2.1, q1, q2⟩))
              · exact e3 y v w (by omega) q1 q2
            · by_cases ey : y = u
              · subst ey
                exact (hrow w).mpr (Or.inr (Or.inr ⟨hw, q⟩))
              · exact e4 y w (by omega) hw q
          · have ea : a = 1 := (nI_eq (by omega) (by omega)).mp e1
            subst ea
            exact Or.inr ⟨rfl, e2⟩
        show p_Re_inheritJoined_4 (nI (tn T)) Q f (nI (if a = 1 ∨ 0 = 1 then 1 else 0)) (nI (u + 1)) (Re_joined_s re (vp_updL g' u (g' u)))
        rw [updL_self]
        exact z
      · rw [or01 a ha 1 (by omega), if_pos (Or.inr rfl)]
        refine ih (nI 1, vp_updL g' u row) ?_
        have up : ∀ y w, bl (vp_updL g' u row y) w → (y = u ∧ bl row w) ∨ (y ≠ u ∧ bl (g' y) w) := by
          intro y w q
          by_cases ey : y = u
          · rw [updL_s ey] at q; exact Or.inl ⟨ey, q⟩
          · rw [updL_n ey] at q; exact Or.inr ⟨ey, q⟩
        refine ⟨fun y w hy q => ?_, fun y w hy q => ?_, fun y w hy q => ?_, Or.inr ⟨rfl, ?_⟩⟩
        · rcases up y w q with ⟨_, q⟩ | ⟨_, q⟩
          · exact bel w q
          · exact h1 y w hy q
        · dsimp only
          by_cases ey : y = u
          · rw [updL_s ey, hrow w]
            subst ey
            exact Or.inl (h2 y w hy q)
          · rw [updL_n ey]; exact h2 y w hy q
        · rcases up y w q with ⟨ey, q⟩ | ⟨_, q⟩
          · rw [ey]; exact snd w q
          · exact h3 y w hy q
        · have : ∃ w, bl row w ∧ ¬ bl (g' u) w := by
            refine Classical.byContradiction (fun no => e (bl_ext (fun w _ => ⟨fun q => ?_, fun q => (hrow w).mpr (Or.inl q)⟩)))
            exact Classical.byContradiction (fun no2 => no ⟨w, q, no2⟩)
          obtain ⟨w, q1, q2⟩ := this
          exact ⟨u, w, hu, bel w q1, fun q => q2 (h2 u w hu q), by dsimp only; rw [updL_s rfl]; exact q1⟩
    · intro f' k row hk hrow ih2
      unfold p_Re_inheritJoined_20 p_Re_inheritJoined_51
      simp (disch := omega) only [↓mI_e, litI, cLeT, cLeF, cLtT, cLtF, cEqF, cEqT, mE1, mE2, mL1, mL2, mL3, mL4, cIn, nI_clamp, nI_add, cMul, cSub, cM1, nar0, nar1, true_implies, false_implies, not_true_eq_false, not_false_eq_true, true_and, and_true, isInRJ, isInJ]
      have hR1 : bl (Re_reached re u) k ↔ Rch T R u k := (hR u k hu).trans ⟨fun q => q.2, fun q => ⟨hk, q⟩⟩
      have fin : ∀ row', (∀ w, bl row' w ↔ bl row w ∨ (Rch T R u k ∧ bl (g' k) w)) → ((¬ bl (g' k) u → p_Re_inheritJoined_20 (nI (tn T)) Q (fun a0 a1 a2 => p_Re_inheritJoined_4 (nI (tn T)) Q f a0 a1 a2) f' (nI a) (nI u) row' (nI (k + 1)) (Re_joined_s re g')) ∧ (bl (g' k) u → p_Re_inheritJoined_20 (nI (tn T)) Q (fun a0 a1 a2 => p_Re_inheritJoined_4 (nI (tn T)) Q f a0 a1 a2) f' (nI a) (nI u) (row' ||| ((1 : Int64) <<< ((nI k).toInt64 &&& 63))) (nI (k + 1)) (Re_joined_s re g'))) := by
        intro row' e
        refine ⟨fun q => ih2 _ (fun w => ?_), fun q => ih2 _ (fun w => ?_)⟩
        · rw [e w, hrow w]
          constructor
          · rintro ((z | ⟨v, hv, z⟩ | z) | z)
            · exact Or.inl z
            · exact Or.inr (Or.inl ⟨v, by omega, z⟩)
            · exact Or.inr (Or.inr ⟨by omega, z.2⟩)
            · exact Or.inr (Or.inl ⟨k, by omega, z⟩)
          · rintro (z | ⟨v, hv, z⟩ | z)
            · exact Or.inl (Or.inl z)
            · by_cases ev : v = k
              · subst ev; exact Or.inr z
              · exact Or.inl (Or.inr (Or.inl ⟨v, by omega, z⟩))
            · by_cases ew : w = k
              · subst ew; exact absurd z.2 q
              · exact Or.inl (Or.inr (Or.inr ⟨by omega, z.2⟩))
        · rw [bl_or, bl_shl (by omega), e w, hrow w]
          constructor
          · rintro (((z | ⟨v, hv, z⟩ | z) | z) | z)
            · exact Or.inl z
            · exact Or.inr (Or.inl ⟨v, by omega, z⟩)
            · exact Or.inr (Or.inr ⟨by omega, z.2⟩)
            · exact Or.inr (Or.inl ⟨k, by omega, z⟩)
            · subst z; exact Or.inr (Or.inr ⟨by omega, q⟩)
          · rintro (z | ⟨v, hv, z⟩ | z)
            · exact Or.inl (Or.inl (Or.inl z))
            · by_cases ev : v = k
              · subst ev; exact Or.inl (Or.inr z)
              · exact Or.inl (Or.inl (Or.inr (Or.inl ⟨v, by omega, z⟩)))
            · by_cases ew : w = k
              · exact Or.inr ew
              · exact Or.inl (Or.inl (Or.inr (Or.inr ⟨by omega, z.2⟩)))
      refine ⟨fun q => ?_, fun q => ?_⟩
      · exact fin row (fun w => ⟨Or.inl, fun z => z.elim id (fun z => absurd (hR1.mpr z.1) q)⟩)
      · exact fin _ (fun w => by
          rw [bl_or]
          exact ⟨fun z => z.imp id (fun z => ⟨hR1.mp q, z⟩), fun z => z.imp id (fun z => z.2)⟩)
theorem s_findJoined {Q : Re → Prop} (hT : tTe T te) (hn : tn T ≤ 48) (ho : rOk T R) (hR : rowsOf (tn T) (Rch T R) (Re_reached re)) (hQ : ∀ g, rowsOf (tn T) (Jn T R) g → Q (Re_joined_s re g)) : p_Re_findJoined te re Q := by
  have o := hT.1
  unfold p_Re_findJoined p_Te_count
  rw [hT.2.2.1]
  have k34 : ∀ g, (∀ u v, u < tn T → (bl (g u) v ↔ v = u)) → ∃ f, p_Re_findJoined_34 te Q f (nI (tn T)) (1 : Int32) (0 : Int32) (Re_joined_s re g) := by
    intro g hg
    have fin : ∀ g', below (tn T) g' → inc (tn T) g g' → (∀ u v, u < tn T → bl (g' u) v → Jn T R u v) → (∀ u v w, Rch T R u v → bl (g' v) w → bl (g' u) w) → (∀ u w, u < tn T → w < tn T → bl (g' w) u → bl (g' u) w) → (∀ u v, u < tn T → v < tn T → cg T (fun a b => bl (g' a) b) u v → bl (g' u) v) → Q (Re_joined_s re g') := by
      intro g' h1 h2 h3 h5 h6 h7
      refine hQ g' (fun u v hu => ⟨fun q => ⟨h1 u v hu q, h3 u v hu q⟩, fun q => ?_⟩)
      exact Jn.cls (J := fun a b => bl (g' a) b) ho (fun s hs => h2 s s hs ((hg s s hs).mpr rfl)) (fun u v w q _ q2 => h5 u v w q q2) (fun s t hs ht q => h6 t s ht hs q) (fun s t hs ht c => h7 s t hs ht c) q.2
    refine forN (fun f i (s : Int32 × (Nat → Int64)) => p_Re_findJoined_34 te Q f (nI (tn T)) s.1 i (Re_joined_s re s.2)) (fun i s => below (tn T) s.2 ∧ inc (tn T) g s.2 ∧ (∀ u v, u < tn T → bl (s.2 u) v → Jn T R u v) ∧ ((s.1 = nI 0 ∧ (∀ u v w, Rch T R u v → bl (s.2 v) w → bl (s.2 u) w) ∧ (∀ u w, u < tn T → w < tn T → bl (s.2 w) u → bl (s.2 u) w) ∧ (∀ u v, u < tn T → v < tn T → cg T (fun a b => bl (s.2 a) b) u v → bl (s.2 u) v)) ∨ (s.1 = nI 1 ∧ i ≤ cN (prs (tn T) s.2) 2304))) 2305 0 (1, g) (by omega) ⟨fun u v hu q => by rw [(hg u v hu).mp q]; exact hu, inc.rf _ g, fun u v hu q => by rw [(hg u v hu).mp q]; exact Jn.go (Rch.rf hu), Or.inr ⟨rfl, by omega⟩⟩ ?_ ?_
    · rintro f ⟨x, g'⟩ ⟨h1, h2, h3, h4⟩
      dsimp only at h1 h2 h3 h4 ⊢
      unfold p_Re_findJoined_34
      simp (disch := omega) only [↓mI_e, litI, cLeT, cLeF, cLtT, cLtF, cEqF, cEqT, mE1, mE2, mL1, mL2, mL3, mL4, cIn, nI_clamp, nI_add, cMul, cSub, cM1, nar0, nar1, true_implies, false_implies, not_true_eq_false, not_false_eq_true, true_and, and_true]
      rcases h4 with ⟨_, h5, h6, h7⟩ | ⟨_, h5⟩
      · exact fin g' h1 h2 h3 h5 h6 h7
      · have := cN_le (prs (tn T) g') 2304
        omega
    · rintro f i ⟨x, g'⟩ hi ⟨h1, h2, h3, h4⟩ ih
      dsimp only at h1 h2 h3 h4 ⊢
      unfold p_Re_findJoined_34
      rcases h4 with ⟨rfl, h5, h6, h7⟩ | ⟨rfl, h5⟩
      · simp (disch := omega) only [↓mI_e, litI, cLeT, cLeF, cLtT, cLtF, cEqF, cEqT, mE1, mE2, mL1, mL2, mL3, mL4, cIn, nI_clamp, nI_add, cMul, cSub, cM1, nar0, nar1, true_implies, false_implies, not_true_eq_false, not_false_eq_true, true_and, and_true]
        exact fin g' h1 h2 h3 h5 h6 h7
      · simp (disch := omega) only [↓mI_e, litI, cLeT, cLeF, cLtT, cLtF, cEqF, cEqT, mE1, mE2, mL1, mL2, mL3, mL4, cIn, nI_clamp, nI_add, cMul, cSub, cM1, nar0, nar1, true_implies, false_implies, not_true_eq_false, not_false_eq_true, true_and, and_true]
        refine s_inhJ hn hR h1 h3 (fun x1 g1 d1 d2 d3 d4 => ?_)
        refine s_liftJ hT hn d1 (fun x2 g2 e1 e2 e3 e4 => ?_)
        have e5 := e3 (Jn T R) (fun u v hu hv c => Jn.cn hu hv c) d3
        have l2 : cN (prs (tn T) g') 2304 ≤ cN (prs (tn T) g1) 2304 := cN_mono _ (fun k _ hk => ⟨hk.1, d2 _ _ hk.1 hk.2⟩)
        rcases e4 with ⟨rfl, rfl, f3⟩ | ⟨rfl, u, v, f2, f3, f4, f5⟩
        · simp (disch := omega) only [↓mI_e, litI, cLeT, cLeF, cLtT, cLtF, cEqF, cEqT, mE1, mE2, mL1, mL2, mL3, mL4, cIn, nI_clamp, nI_add, cMul, cSub, cM1, nar0, nar1, true_implies, false_implies, not_true_eq_false, not_false_eq_true, true_and, and_true]
          refine ih (x1, g2) ⟨e1, h2.tr d2, e5, ?_⟩
          rcases d4 with ⟨rfl, rfl, p1, p2⟩ | ⟨rfl, u, v, p1, p2, p3, p4⟩
          · exact Or.inl ⟨rfl, p1, p2, f3⟩
          · refine Or.inr ⟨rfl, ?_⟩
            have l1 := prs_lt hn d2 p1 p2 p3 p4
            dsimp only
            omega
        · simp (disch := omega) only [↓mI_e, litI, cLeT, cLeF, cLtT, cLtF, cEqF, cEqT, mE1, mE2, mL1, mL2, mL3, mL4, cIn, nI_clamp, nI_add, cMul, cSub, cM1, nar0, nar1, true_implies, false_implies, not_true_eq_false, not_false_eq_true, true_and, and_true]
          refine ih (nI 1, g2) ⟨e1, h2.tr (d2.tr e2), e5, Or.inr ⟨rfl, ?_⟩⟩
          have l1 := prs_lt hn e2 f2 f3 f4 f5
          dsimp only
          omega
  refine forN (fun f i (h : Nat → Int64) => p_Re_findJoined_10 te Q f (nI (tn T)) i (Re_joined_s re h)) (fun i h => ∀ u v, u < i → (bl (h u) v ↔ v = u)) (tn T) 0 (Re_joined re) (by omega) (fun u v hu => by omega) ?_ ?_
  · intro f h e
    unfold p_Re_findJoined_10
    simp (disch := omega) only [↓mI_e, litI, cLeT, cLeF, cLtT, cLtF, cEqF, cEqT, mE1, mE2, mL1, mL2, mL3, mL4, cIn, nI_clamp, nI_add, cMul, cSub, cM1, nar0, nar1, true_implies, false_implies, not_true_eq_false, not_false_eq_true, true_and, and_true]
    exact k34 h e
  · intro f i h hi e ih
    unfold p_Re_findJoined_10
    simp (disch := omega) only [↓mI_e, litI, cLeT, cLeF, cLtT, cLtF, cEqF, cEqT, mE1, mE2, mL1, mL2, mL3, mL4, cIn, nI_clamp, nI_add, cMul, cSub, cM1, nar0, nar1, true_implies, false_implies, not_true_eq_false, not_false_eq_true, true_and, and_true]
    refine nm_e (ih _ (fun u v hu => ?_))
    by_cases eu : u = i
    · rw [updL_s eu, bl_shl (by omega), eu]
    · rw [updL_n eu]; exact e u v (by omega)
theorem s_joins {s t : Nat} {j : Nat} {Q : Int32 → Re → Prop} (hT : tTe T te) (hn : tn T ≤ 48) (ho : rOk T R) (hs : s < tn T) (ht : t < tn T) (hR : rowsOf (tn T) (Rch T R) (Re_reached re)) (hJ : ¬ Re_joinedKnown re = 0 → rowsOf (tn T) (Jn T R) (Re_joined re)) (hc : cache j T R ru re) (h1 : Jn T R s t → ∀ re', cache j T R ru re' → Q (nI 1) re') (h0 : ¬ Jn T R s t → ∀ re', cache j T R ru re' → Q (nI 0) re') : p_Re_joins (nI s) (nI t) te re Q := by
  have k16 : ∀ re', cache j T R ru re' → rowsOf (tn T) (Jn T R) (Re_joined re') → p_Re_joins_16 (nI s) (nI t) te Q re' := by
    intro re' hc' hj
    unfold p_Re_joins_16
    have e9 : p_Re_isIn_joined (nI s) (nI t) re' = p_Re_isIn_joined (nI s) (nI t) (Re_joined_s re' (Re_joined re')) := rfl
    rw [e9, isInJ (by omega) (by omega)]
    exact ⟨fun k => ⟨Or.inl rfl, h0 (fun q => k ((hj s t hs).mpr ⟨ht, q⟩)) re' hc'⟩, fun k => ⟨Or.inr rfl, h1 ((hj s t hs).mp k).2 re' hc'⟩⟩
  unfold p_Re_joins
  refine ⟨fun k => k16 re hc (hJ k), fun k => s_findJoined hT hn ho hR (fun g hg => nm_e (k16 _ ?_ hg))⟩
  obtain ⟨ch, c1, c2, c3, c4, c5⟩ := hc
  exact ⟨ch, c1, c2, c3, c4, fun _ _ => ⟨hR, fun _ => hg⟩⟩
end
