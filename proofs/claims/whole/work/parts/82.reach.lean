/-! what reaches what, as the class finds it -/
def below (n : Nat) (g : Nat → Int64) : Prop := ∀ u v, u < n → bl (g u) v → v < n
def inc (n : Nat) (g g' : Nat → Int64) : Prop := ∀ u v, u < n → bl (g u) v → bl (g' u) v
theorem inc.rf (n : Nat) (g : Nat → Int64) : inc n g g := fun _ _ _ h => h
theorem inc.tr {n : Nat} {a b c : Nat → Int64} (h : inc n a b) (h' : inc n b c) : inc n a c := fun u v hu h1 => h' u v hu (h u v hu h1)
/-- the pairs of the rows, numbered -/
def prs (n : Nat) (g : Nat → Int64) (k : Nat) : Prop := k / 48 < n ∧ bl (g (k / 48)) (k % 48)
theorem prs_lt {n : Nat} {g g' : Nat → Int64} (hn : n ≤ 48) (h : inc n g g') {u v : Nat} (hu : u < n) (hv : v < n) (h1 : ¬ bl (g u) v) (h2 : bl (g' u) v) : cN (prs n g) 2304 < cN (prs n g') 2304 := by
  have e1 : (48 * u + v) / 48 = u := by omega
  have e2 : (48 * u + v) % 48 = v := by omega
  refine cN_lt (j := 48 * u + v) ?_ ?_ 2304 (by omega) (fun k _ hk => ⟨hk.1, h _ _ hk.1 hk.2⟩)
  · intro hk
    unfold prs at hk
    rw [e1, e2] at hk
    exact h1 hk.2
  · unfold prs
    rw [e1, e2]
    exact ⟨hu, h2⟩
section
variable {T : Tab} {R : Rul} {te : Te} {ru : Ru} {re : Re}
theorem isInR {u v : Nat} {Q : Int32 → Prop} (hu : u < 48) (hv : v < 64) {g : Nat → Int64} : p_Re_isIn_reached (nI u) (nI v) (Re_reached_s re g) Q ↔ ((¬ bl (g u) v → Q (nI 0)) ∧ (bl (g u) v → Q (nI 1))) := by
  unfold p_Re_isIn_reached
  rw [nI_clamp (by omega)]
  have e : (lg_cmp ((g u >>> ((nI v).toInt64 &&& 63)) &&& (1 : Int64)) (0 : Int64) = 0) ↔ ¬ bl (g u) v := bl_tst hv (g u)
  show (vp_in (nI u) 48 ∧ ((lg_cmp ((g u >>> ((nI v).toInt64 &&& 63)) &&& (1 : Int64)) (0 : Int64) = 0 → Q 0) ∧ (¬ lg_cmp ((g u >>> ((nI v).toInt64 &&& 63)) &&& (1 : Int64)) (0 : Int64) = 0 → Q 1))) ↔ _
  rw [e, Classical.not_not]
  simp (disch := omega) only [↓mI_e, litI, cLeT, cLeF, cLtT, cLtF, cEqF, cEqT, mE1, mE2, mL1, mL2, mL3, mL4, cIn, nI_clamp, nI_add, cMul, cSub, cM1, nar0, nar1, true_implies, false_implies, not_true_eq_false, not_false_eq_true, true_and, and_true]
theorem isInJ {u v : Nat} {Q : Int32 → Prop} (hu : u < 48) (hv : v < 64) {g : Nat → Int64} : p_Re_isIn_joined (nI u) (nI v) (Re_joined_s re g) Q ↔ ((¬ bl (g u) v → Q (nI 0)) ∧ (bl (g u) v → Q (nI 1))) := by
  unfold p_Re_isIn_joined
  rw [nI_clamp (by omega)]
  have e : (lg_cmp ((g u >>> ((nI v).toInt64 &&& 63)) &&& (1 : Int64)) (0 : Int64) = 0) ↔ ¬ bl (g u) v := bl_tst hv (g u)
  show (vp_in (nI u) 48 ∧ ((lg_cmp ((g u >>> ((nI v).toInt64 &&& 63)) &&& (1 : Int64)) (0 : Int64) = 0 → Q 0) ∧ (¬ lg_cmp ((g u >>> ((nI v).toInt64 &&& 63)) &&& (1 : Int64)) (0 : Int64) = 0 → Q 1))) ↔ _
  rw [e, Classical.not_not]
  simp (disch := omega) only [↓mI_e, litI, cLeT, cLeF, cLtT, cLtF, cEqF, cEqT, mE1, mE2, mL1, mL2, mL3, mL4, cIn, nI_clamp, nI_add, cMul, cSub, cM1, nar0, nar1, true_implies, false_implies, not_true_eq_false, not_false_eq_true, true_and, and_true]
/-- Warshall's way -/
theorem s_chain {n : Nat} {Q : Re → Prop} {g : Nat → Int64} (hn : n ≤ 48) (hb : below n g) (hQ : ∀ g', below n g' → inc n g g' → (∀ u a v, u < n → a < n → bl (g' u) a → bl (g' a) v → bl (g' u) v) → (∀ S : Nat → Nat → Prop, (∀ a b c, S a b → S b c → S a c) → (∀ u v, u < n → bl (g u) v → S u v) → ∀ u v, u < n → bl (g' u) v → S u v) → Q (Re_reached_s re g')) : p_Re_chain (nI n) (Re_reached_s re g) Q := by
  unfold p_Re_chain
  refine forN (fun f i (h : Nat → Int64) => p_Re_chain_2 (nI n) Q f i (Re_reached_s re h)) (fun m h => below n h ∧ inc n g h ∧ (∀ u a v, u < n → a < n → a < m → bl (h u) a → bl (h a) v → bl (h u) v) ∧ (∀ S : Nat → Nat → Prop, (∀ a b c, S a b → S b c → S a c) → (∀ u v, u < n → bl (g u) v → S u v) → ∀ u v, u < n → bl (h u) v → S u v)) n 0 g (by omega) ⟨hb, inc.rf n g, fun _ _ _ _ _ h => by omega, fun S _ h => h⟩ ?_ ?_
  · rintro m h ⟨h1, h2, h3, h4⟩
    unfold p_Re_chain_2
    simp (disch := omega) only [↓mI_e, litI, cLeT, cLeF, cLtT, cLtF, cEqF, cEqT, mE1, mE2, mL1, mL2, mL3, mL4, cIn, nI_clamp, nI_add, cMul, cSub, cM1, nar0, nar1, true_implies, false_implies, not_true_eq_false, not_false_eq_true, true_and, and_true]
    exact hQ h h1 h2 (fun u a v hu ha => h3 u a v hu ha ha) h4
  · rintro f m h hm ⟨h1, h2, h3, h4⟩ ih
    unfold p_Re_chain_2
    simp (disch := omega) only [↓mI_e, litI, cLeT, cLeF, cLtT, cLtF, cEqF, cEqT, mE1, mE2, mL1, mL2, mL3, mL4, cIn, nI_clamp, nI_add, cMul, cSub, cM1, nar0, nar1, true_implies, false_implies, not_true_eq_false, not_false_eq_true, true_and, and_true]
    refine forN (fun f' i (h' : Nat → Int64) => p_Re_chain_9 (nI n) Q (fun a0 a1 => p_Re_chain_2 (nI n) Q f a0 a1) f' (nI m) i (Re_reached_s re h')) (fun i h' => ∀ u v, u < n → (bl (h' u) v ↔ bl (h u) v ∨ (u < i ∧ bl (h u) m ∧ bl (h m) v))) n 0 h (by omega) (fun u v hu => ⟨Or.inl, fun k => k.elim id (fun k => by omega)⟩) ?_ ?_
    · intro f' h' e
      unfold p_Re_chain_9
      simp (disch := omega) only [↓mI_e, litI, cLeT, cLeF, cLtT, cLtF, cEqF, cEqT, mE1, mE2, mL1, mL2, mL3, mL4, cIn, nI_clamp, nI_add, cMul, cSub, cM1, nar0, nar1, true_implies, false_implies, not_true_eq_false, not_false_eq_true, true_and, and_true]
      refine ih h' ⟨fun u v hu k => ?_, fun u v hu k => (e u v hu).mpr (Or.inl (h2 u v hu k)), fun u a v hu ha ham k1 k2 => ?_, fun S hS hg u v hu k => ?_⟩
      · rcases (e u v hu).mp k with k | k
        · exact h1 u v hu k
        · exact h1 m v hm k.2.2
      · rw [e u v hu]
        rw [e u a hu] at k1
        rw [e a v ha] at k2
        by_cases ea : a = m
        · subst ea
          rcases k1 with k1 | k1
          · rcases k2 with k2 | k2
            · exact Or.inr ⟨hu, k1, k2⟩
            · exact Or.inr ⟨hu, k1, k2.2.2⟩
          · rcases k2 with k2 | k2
            · exact Or.inr ⟨hu, k1.2.1, k2⟩
            · exact Or.inr ⟨hu, k1.2.1, k2.2.2⟩
        · have ham : a < m := by omega
          rcases k1 with k1 | k1
          · rcases k2 with k2 | k2
            · exact Or.inl (h3 u a v hu ha ham k1 k2)
            · exact Or.inr ⟨hu, h3 u a m hu ha ham k1 k2.2.1, k2.2.2⟩
          · rcases k2 with k2 | k2
            · exact Or.inr ⟨hu, k1.2.1, h3 m a v hm ha ham k1.2.2 k2⟩
            · exact Or.inr ⟨hu, k1.2.1, k2.2.2⟩
      · rcases (e u v hu).mp k with k | k
        · exact h4 S hS hg u v hu k
        · exact hS u m v (h4 S hS hg u m hu k.2.1) (h4 S hS hg m v hm k.2.2)
    · intro f' i h' hi e ih2
      unfold p_Re_chain_9
      simp (disch := omega) only [↓mI_e, litI, cLeT, cLeF, cLtT, cLtF, cEqF, cEqT, mE1, mE2, mL1, mL2, mL3, mL4, cIn, nI_clamp, nI_add, cMul, cSub, cM1, nar0, nar1, true_implies, false_implies, not_true_eq_false, not_false_eq_true, true_and, and_true, isInR]
      have ei : bl (h' i) m ↔ bl (h i) m := by
        rw [e i m hi]
        exact ⟨fun k => k.elim id (fun k => by omega), Or.inl⟩
      have em : ∀ v, bl (h' m) v ↔ bl (h m) v := by
        intro v
        rw [e m v hm]
        exact ⟨fun k => k.elim id (fun k => k.2.2), Or.inl⟩
      refine ⟨fun k => ih2 h' (fun u v hu => ?_), fun k => nm_e (ih2 _ (fun u v hu => ?_))⟩
      · rw [e u v hu]
        constructor
        · rintro (k2 | k2)
          · exact Or.inl k2
          · exact Or.inr ⟨by omega, k2.2⟩
        · rintro (k2 | k2)
          · exact Or.inl k2
          · by_cases eu : u = i
            · subst eu
              exact absurd (ei.mpr k2.2.1) k
            · exact Or.inr ⟨by omega, k2.2⟩
      · by_cases eu : u = i
        · subst eu
          rw [updL_s rfl, bl_or]
          show bl (h' u) v ∨ bl (h' m) v ↔ _
          rw [em v, e u v hu]
          constructor
          · rintro ((k2 | k2) | k2)
            · exact Or.inl k2
            · exact Or.inr ⟨by omega, k2.2⟩
            · exact Or.inr ⟨by omega, ei.mp k, k2⟩
          · rintro (k2 | k2)
            · exact Or.inl (Or.inl k2)
            · exact Or.inr k2.2.2
        · rw [updL_n eu]
          show bl (h' u) v ↔ _
          rw [e u v hu]
          constructor
          · rintro (k2 | k2)
            · exact Or.inl k2
            · exact Or.inr ⟨by omega, k2.2⟩
          · rintro (k2 | k2)
            · exact Or.inl k2
            · exact Or.inr ⟨by omega, k2.2⟩
--BEGIN reached
theorem s_partsR {u v : Nat} {Q : Int32 → Prop} (hT : tTe T te) (hn : tn T ≤ 48) (hu : u < tn T) (hv : v < tn T) {g : Nat → Int64} (h1 : cg T (fun a b => bl (g a) b) u v → Q (nI 1)) (h0 : ¬ cg T (fun a b => bl (g a) b) u v → Q (nI 0)) : p_Re_partsRelated_reached (nI u) (nI v) te (Re_reached_s re g) Q := by
  have o := hT.1
  have ou := o.2.2 u hu
  have ov := o.2.2 v hv
  have q2 : tq T u ≤ 2 := o.2.1 _
  unfold p_Re_partsRelated_reached
  simp (disch := omega) only [↓mI_e, litI, cLeT, cLeF, cLtT, cLtF, cEqF, cEqT, mE1, mE2, mL1, mL2, mL3, mL4, cIn, nI_clamp, nI_add, cMul, cSub, cM1, nar0, nar1, true_implies, false_implies, not_true_eq_false, not_false_eq_true, true_and, and_true, symbol_t hT]
  by_cases es : ts T u = ts T v
  · have eq : tq T u = tq T v := by unfold tq; rw [es]
    have k67 : (1 ≤ tq T u → bl (g (ta T u)) (ta T v)) → p_Re_partsRelated_reached_67 (nI u) (nI v) te (Re_reached_s re g) Q (nI (tq T u)) := by
      intro k1
      unfold p_Re_partsRelated_reached_67 p_Re_partsRelated_reached_96
      by_cases t2 : 2 ≤ tq T u
      · simp (disch := omega) only [↓mI_e, litI, cLeT, cLeF, cLtT, cLtF, cEqF, cEqT, mE1, mE2, mL1, mL2, mL3, mL4, cIn, nI_clamp, nI_add, cMul, cSub, cM1, nar0, nar1, true_implies, false_implies, not_true_eq_false, not_false_eq_true, true_and, and_true, second_t hT]
        rw [pc_n t2, pc_n (by omega), isInR (by omega) (by omega)]
        refine ⟨fun k => ?_, fun k => ?_⟩
        · simp (disch := omega) only [↓mI_e, litI, cLeT, cLeF, cLtT, cLtF, cEqF, cEqT, mE1, mE2, mL1, mL2, mL3, mL4, cIn, nI_clamp, nI_add, cMul, cSub, cM1, nar0, nar1, true_implies, false_implies, not_true_eq_false, not_false_eq_true, true_and, and_true]
          exact h0 (fun c => k (c.2.2 t2))
        · simp (disch := omega) only [↓mI_e, litI, cLeT, cLeF, cLtT, cLtF, cEqF, cEqT, mE1, mE2, mL1, mL2, mL3, mL4, cIn, nI_clamp, nI_add, cMul, cSub, cM1, nar0, nar1, true_implies, false_implies, not_true_eq_false, not_false_eq_true, true_and, and_true]
          exact h1 ⟨es, k1, fun _ => k⟩
      · simp (disch := omega) only [↓mI_e, litI, cLeT, cLeF, cLtT, cLtF, cEqF, cEqT, mE1, mE2, mL1, mL2, mL3, mL4, cIn, nI_clamp, nI_add, cMul, cSub, cM1, nar0, nar1, true_implies, false_implies, not_true_eq_false, not_false_eq_true, true_and, and_true]
        exact h1 ⟨es, k1, fun h => by omega⟩
    rw [es]
    simp (disch := omega) only [↓mI_e, litI, cLeT, cLeF, cLtT, cLtF, cEqF, cEqT, mE1, mE2, mL1, mL2, mL3, mL4, cIn, nI_clamp, nI_add, cMul, cSub, cM1, nar0, nar1, true_implies, false_implies, not_true_eq_false, not_false_eq_true, true_and, and_true, placesS_t hT]
    rw [← eq]
    by_cases t1 : 1 ≤ tq T u
    · simp (disch := omega) only [↓mI_e, litI, cLeT, cLeF, cLtT, cLtF, cEqF, cEqT, mE1, mE2, mL1, mL2, mL3, mL4, cIn, nI_clamp, nI_add, cMul, cSub, cM1, nar0, nar1, true_implies, false_implies, not_true_eq_false, not_false_eq_true, true_and, and_true, first_t hT]
      rw [pc_n t1, pc_n (by omega), isInR (by omega) (by omega)]
      refine ⟨fun k => ?_, fun k => ?_⟩
      · simp (disch := omega) only [↓mI_e, litI, cLeT, cLeF, cLtT, cLtF, cEqF, cEqT, mE1, mE2, mL1, mL2, mL3, mL4, cIn, nI_clamp, nI_add, cMul, cSub, cM1, nar0, nar1, true_implies, false_implies, not_true_eq_false, not_false_eq_true, true_and, and_true]
        exact h0 (fun c => k (c.2.1 t1))
      · simp (disch := omega) only [↓mI_e, litI, cLeT, cLeF, cLtT, cLtF, cEqF, cEqT, mE1, mE2, mL1, mL2, mL3, mL4, cIn, nI_clamp, nI_add, cMul, cSub, cM1, nar0, nar1, true_implies, false_implies, not_true_eq_false, not_false_eq_true, true_and, and_true]
        exact k67 (fun _ => k)
    · simp (disch := omega) only [↓mI_e, litI, cLeT, cLeF, cLtT, cLtF, cEqF, cEqT, mE1, mE2, mL1, mL2, mL3, mL4, cIn, nI_clamp, nI_add, cMul, cSub, cM1, nar0, nar1, true_implies, false_implies, not_true_eq_false, not_false_eq_true, true_and, and_true]
      exact k67 (fun h => by omega)
  · simp (disch := omega) only [↓mI_e, litI, cLeT, cLeF, cLtT, cLtF, cEqF, cEqT, mE1, mE2, mL1, mL2, mL3, mL4, cIn, nI_clamp, nI_add, cMul, cSub, cM1, nar0, nar1, true_implies, false_implies, not_true_eq_false, not_false_eq_true, true_and, and_true]
    exact h0 (fun c => es c.1)
/-- one passage of lifting -/
theorem s_liftR {Q : Int32 → Re → Prop} {g : Nat → Int64} (hT : tTe T te) (hn : tn T ≤ 48) (hb : below (tn T) g) (hQ : ∀ x g', below (tn T) g' → inc (tn T) g g' → (∀ S : Nat → Nat → Prop, (∀ u v, u < tn T → v < tn T → cg T S u v → S u v) → (∀ u v, u < tn T → bl (g u) v → S u v) → ∀ u v, u < tn T → bl (g' u) v → S u v) → ((x = nI 0 ∧ g' = g ∧ ∀ u v, u < tn T → v < tn T → cg T (fun a b => bl (g a) b) u v → bl (g u) v) ∨ (x = nI 1 ∧ ∃ u v, u < tn T ∧ v < tn T ∧ ¬ bl (g u) v ∧ bl (g' u) v)) → Q x (Re_reached_s re g')) : p_Re_liftFromParts_reached (nI (tn T)) te (Re_reached_s re g) Q := by
  have o := hT.1
  unfold p_Re_liftFromParts_reached
  refine forN (fun f i (s : Int32 × (Nat → Int64)) => p_Re_liftFromParts_reached_5 (nI (tn T)) te Q f s.1 i (Re_reached_s re s.2)) (fun i s => below (tn T) s.2 ∧ inc (tn T) g s.2 ∧ (∀ S : Nat → Nat → Prop, (∀ u v, u < tn T → v < tn T → cg T S u v → S u v) → (∀ u v, u < tn T → bl (g u) v → S u v) → ∀ u v, u < tn T → bl (s.2 u) v → S u v) ∧ ((s.1 = nI 0 ∧ s.2 = g ∧ ∀ u v, u < i → v < tn T → cg T (fun a b => bl (g a) b) u v → bl (g u) v) ∨ (s.1 = nI 1 ∧ ∃ u v, u < tn T ∧ v < tn T ∧ ¬ bl (g u) v ∧ bl (s.2 u) v))) (tn T) 0 (0, g) (by omega) ⟨hb, inc.rf _ g, fun S _ h => h, Or.inl ⟨rfl, rfl, fun u v h => by omega⟩⟩ ?_ ?_
  · rintro f ⟨x, g'⟩ ⟨h1, h2, h3, h4⟩
    dsimp only at h1 h2 h3 h4 ⊢
    unfold p_Re_liftFromParts_reached_5
    simp (disch := omega) only [↓mI_e, litI, cLeT, cLeF, cLtT, cLtF, cEqF, cEqT, mE1, mE2, mL1, mL2, mL3, mL4, cIn, nI_clamp, nI_add, cMul, cSub, cM1, nar0, nar1, true_implies, false_implies, not_true_eq_false, not_false_eq_true, true_and, and_true]
    refine ⟨?_, hQ x g' h1 h2 h3 h4⟩
    rcases h4 with h4 | h4
    · exact Or.inl h4.1
    · exact Or.inr h4.1
  · rintro f i ⟨x, g'⟩ hi ⟨h1, h2, h3, h4⟩ ih
    dsimp only at h1 h2 h3 h4 ⊢
    unfold p_Re_liftFromParts_reached_5
    simp (disch := omega) only [↓mI_e, litI, cLeT, cLeF, cLtT, cLtF, cEqF, cEqT, mE1, mE2, mL1, mL2, mL3, mL4, cIn, nI_clamp, nI_add, cMul, cSub, cM1, nar0, nar1, true_implies, false_implies, not_true_eq_false, not_false_eq_true, true_and, and_true]
    refine forN (fun f' k (s : Int32 × (Nat → Int64)) => p_Re_liftFromParts_reached_14 (nI (tn T)) te Q (fun a0 a1 a2 => p_Re_liftFromParts_reached_5 (nI (tn T)) te Q f a0 a1 a2) f' s.1 (nI i) k (Re_reached_s re s.2)) (fun k s => below (tn T) s.2 ∧ inc (tn T) g s.2 ∧ (∀ S : Nat → Nat → Prop, (∀ u v, u < tn T → v < tn T → cg T S u v → S u v) → (∀ u v, u < tn T → bl (g u) v → S u v) → ∀ u v, u < tn T → bl (s.2 u) v → S u v) ∧ ((s.1 = nI 0 ∧ s.2 = g ∧ (∀ u v, u < i → v < tn T → cg T (fun a b => bl (g a) b) u v → bl (g u) v) ∧ ∀ v, v < k → cg T (fun a b => bl (g a) b) i v → bl (g i) v) ∨ (s.1 = nI 1 ∧ ∃ u v, u < tn T ∧ v < tn T ∧ ¬ bl (g u) v ∧ bl (s.2 u) v))) (tn T) 0 (x, g') (by omega) ⟨h1, h2, h3, h4.imp (fun k => ⟨k.1, k.2.1, k.2.2, fun v h => by omega⟩) id⟩ ?_ ?_
    · rintro f' ⟨x, g'⟩ ⟨h1, h2, h3, h4⟩
      dsimp only at h1 h2 h3 h4 ⊢
      unfold p_Re_liftFromParts_reached_14
      simp (disch := omega) only [↓mI_e, litI, cLeT, cLeF, cLtT, cLtF, cEqF, cEqT, mE1, mE2, mL1, mL2, mL3, mL4, cIn, nI_clamp, nI_add, cMul, cSub, cM1, nar0, nar1, true_implies, false_implies, not_true_eq_false, not_false_eq_true, true_and, and_true]
      refine ih (x, g') ⟨h1, h2, h3, h4.imp (fun k => ⟨k.1, k.2.1, fun u v hu hv c => ?_⟩) id⟩
      by_cases e : u = i
      · subst e; exact k.2.2.2 v hv c
      · exact k.2.2.1 u v (by omega) hv c
    · rintro f' k ⟨x, g'⟩ hk ⟨h1, h2, h3, h4⟩ ih2
      dsimp only at h1 h2 h3 h4 ⊢
      unfold p_Re_liftFromParts_reached_14
      simp (disch := omega) only [↓mI_e, litI, cLeT, cLeF, cLtT, cLtF, cEqF, cEqT, mE1, mE2, mL1, mL2, mL3, mL4, cIn, nI_clamp, nI_add, cMul, cSub, cM1, nar0, nar1, true_implies, false_implies, not_true_eq_false, not_false_eq_true, true_and, and_true, isInR]
      have skip : (x = nI 0 → cg T (fun a b => bl (g a) b) i k → g' = g → bl (g i) k) → p_Re_liftFromParts_reached_14 (nI (tn T)) te Q (fun a0 a1 a2 => p_Re_liftFromParts_reached_5 (nI (tn T)) te Q f a0 a1 a2) f' x (nI i) (nI (k + 1)) (Re_reached_s re g') := by
        intro hs
        refine ih2 (x, g') ⟨h1, h2, h3, h4.imp (fun q => ⟨q.1, q.2.1, q.2.2.1, fun v hv c => ?_⟩) id⟩
        by_cases e : v = k
        · subst e; exact hs q.1 c q.2.1
        · exact q.2.2.2 v (by omega) c
      refine ⟨fun hnot => s_partsR hT hn hi hk (fun c => ?_) (fun c => ?_), fun hb' => skip (fun _ _ e => e ▸ hb')⟩
      · simp (disch := omega) only [↓mI_e, litI, cLeT, cLeF, cLtT, cLtF, cEqF, cEqT, mE1, mE2, mL1, mL2, mL3, mL4, cIn, nI_clamp, nI_add, cMul, cSub, cM1, nar0, nar1, true_implies, false_implies, not_true_eq_false, not_false_eq_true, true_and, and_true]
        refine nm_e (ih2 (nI 1, _) ?_)
        have up : ∀ u v, bl (vp_updL g' i (g' i ||| ((1 : Int64) <<< ((nI k).toInt64 &&& 63))) u) v ↔ bl (g' u) v ∨ (u = i ∧ v = k) := by
          intro u v
          by_cases e : u = i
          · subst e
            rw [updL_s rfl, bl_or, bl_shl (by omega)]
            exact ⟨fun q => q.imp id (fun q => ⟨rfl, q⟩), fun q => q.imp id (fun q => q.2)⟩
          · rw [updL_n e]
            exact ⟨Or.inl, fun q => q.elim id (fun q => absurd q.1 e)⟩
        refine ⟨fun u v hu q => ?_, fun u v hu q => (up u v).mpr (Or.inl (h2 u v hu q)), fun S hS hg u v hu q => ?_, Or.inr ⟨rfl, i, k, hi, hk, fun q => hnot (h2 i k hi q), (up i k).mpr (Or.inr ⟨rfl, rfl⟩)⟩⟩
        · rcases (up u v).mp q with q | q
          · exact h1 u v hu q
          · omega
        · rcases (up u v).mp q with q | ⟨q1, q2⟩
          · exact h3 S hS hg u v hu q
          · subst q1 q2
            have oi := o.2.2 u hu
            exact hS u v hu hk ⟨c.1, fun h => h3 S hS hg _ _ (by omega) (c.2.1 h), fun h => h3 S hS hg _ _ (by omega) (c.2.2 h)⟩
      · simp (disch := omega) only [↓mI_e, litI, cLeT, cLeF, cLtT, cLtF, cEqF, cEqT, mE1, mE2, mL1, mL2, mL3, mL4, cIn, nI_clamp, nI_add, cMul, cSub, cM1, nar0, nar1, true_implies, false_implies, not_true_eq_false, not_false_eq_true, true_and, and_true]
        exact skip (fun _ c' e => absurd (e ▸ c') c)
--END
theorem s_findReached {Q : Re → Prop} (hT : tTe T te) (hn : tn T ≤ 48) (hr : rRu R ru) (ho : rOk T R) (hQ : ∀ g, rowsOf (tn T) (Rch T R) g → Q (Re_reached_s re g)) : p_Re_findReached te ru re Q := by
  have o := hT.1
  have h8 := ho.1
  obtain ⟨c0, c1, c2⟩ := hr
  unfold p_Re_findReached p_Te_count
  rw [hT.2.2.1]
  -- the rounds
  have k79 : ∀ g, below (tn T) g → (∀ u, u < tn T → bl (g u) u) → (∀ i, i < rn R → bl (g (rl R i)) (rr R i)) → (∀ u v, u < tn T → bl (g u) v → Rch T R u v) → ∃ f, p_Re_findReached_79 te ru Q f (nI (tn T)) (1 : Int32) (0 : Int32) (Re_reached_s re g) := by
    intro g b1 b2 b3 b4
    refine forN (fun f i (s : Int32 × (Nat → Int64)) => p_Re_findReached_79 te ru Q f (nI (tn T)) s.1 i (Re_reached_s re s.2)) (fun i s => below (tn T) s.2 ∧ inc (tn T) g s.2 ∧ (∀ u v, u < tn T → bl (s.2 u) v → Rch T R u v) ∧ ((s.1 = nI 0 ∧ (∀ u a v, u < tn T → a < tn T → bl (s.2 u) a → bl (s.2 a) v → bl (s.2 u) v) ∧ ∀ u v, u < tn T → v < tn T → cg T (fun a b => bl (s.2 a) b) u v → bl (s.2 u) v) ∨ (s.1 = nI 1 ∧ i ≤ cN (prs (tn T) s.2) 2304))) 2305 0 (1, g) (by omega) ⟨b1, inc.rf _ g, b4, Or.inr ⟨rfl, by omega⟩⟩ ?_ ?_
    · rintro f ⟨x, g'⟩ ⟨h1, h2, h3, h4⟩
      dsimp only at h1 h2 h3 h4 ⊢
      unfold p_Re_findReached_79
      simp (disch := omega) only [↓mI_e, litI, cLeT, cLeF, cLtT, cLtF, cEqF, cEqT, mE1, mE2, mL1, mL2, mL3, mL4, cIn, nI_clamp, nI_add, cMul, cSub, cM1, nar0, nar1, true_implies, false_implies, not_true_eq_false, not_false_eq_true, true_and, and_true]
      rcases h4 with ⟨_, h5, h6⟩ | ⟨_, h5⟩
      · refine hQ g' (fun u v hu => ⟨fun q => ⟨h1 u v hu q, h3 u v hu q⟩, fun q => ?_⟩)
        exact q.2.2.2 (fun a b => bl (g' a) b) ⟨fun s hs => h2 s s hs (b2 s hs), fun s t hs ht c => h6 s t hs ht c, fun i s t hi hs ht k1 k2 => h5 s _ t hs (ho.2 i hi).1 k1 (h5 _ _ t (ho.2 i hi).1 (ho.2 i hi).2.1 (h2 _ _ (ho.2 i hi).1 (b3 i hi)) k2)⟩
      · have := cN_le (prs (tn T) g') 2304
        omega
    · rintro f i ⟨x, g'⟩ hi ⟨h1, h2, h3, h4⟩ ih
      dsimp only at h1 h2 h3 h4 ⊢
      unfold p_Re_findReached_79
      rcases h4 with ⟨rfl, h5, h6⟩ | ⟨rfl, h5⟩
      · simp (disch := omega) only [↓mI_e, litI, cLeT, cLeF, cLtT, cLtF, cEqF, cEqT, mE1, mE2, mL1, mL2, mL3, mL4, cIn, nI_clamp, nI_add, cMul, cSub, cM1, nar0, nar1, true_implies, false_implies, not_true_eq_false, not_false_eq_true, true_and, and_true]
        refine hQ g' (fun u v hu => ⟨fun q => ⟨h1 u v hu q, h3 u v hu q⟩, fun q => ?_⟩)
        exact q.2.2.2 (fun a b => bl (g' a) b) ⟨fun s hs => h2 s s hs (b2 s hs), fun s t hs ht c => h6 s t hs ht c, fun i s t hi hs ht k1 k2 => h5 s _ t hs (ho.2 i hi).1 k1 (h5 _ _ t (ho.2 i hi).1 (ho.2 i hi).2.1 (h2 _ _ (ho.2 i hi).1 (b3 i hi)) k2)⟩
      · simp (disch := omega) only [↓mI_e, litI, cLeT, cLeF, cLtT, cLtF, cEqF, cEqT, mE1, mE2, mL1, mL2, mL3, mL4, cIn, nI_clamp, nI_add, cMul, cSub, cM1, nar0, nar1, true_implies, false_implies, not_true_eq_false, not_false_eq_true, true_and, and_true]
        refine s_chain hn h1 (fun g1 d1 d2 d3 d4 => ?_)
        have d5 := d4 (Rch T R) (fun a b c => Rch.trans) h3
        refine s_liftR hT hn d1 (fun x' g2 e1 e2 e3 e4 => ?_)
        have e5 := e3 (Rch T R) (fun u v hu hv c => Rch.cn hu hv c) d5
        refine ih (x', g2) ⟨e1, h2.tr (d2.tr e2), e5, ?_⟩
        rcases e4 with ⟨f1, f2, f3⟩ | ⟨f1, u, v, f2, f3, f4, f5⟩
        · dsimp only
          subst f2
          exact Or.inl ⟨f1, d3, f3⟩
        · refine Or.inr ⟨f1, ?_⟩
          have l1 : cN (prs (tn T) g1) 2304 < cN (prs (tn T) g2) 2304 := prs_lt hn e2 f2 f3 f4 f5
          have l2 : cN (prs (tn T) g') 2304 ≤ cN (prs (tn T) g1) 2304 := cN_mono _ (fun k _ hk => ⟨hk.1, d2 _ _ hk.1 hk.2⟩)
          dsimp only
          omega
  -- the rules
  have k32 : ∀ g, (∀ u v, u < tn T → (bl (g u) v ↔ v = u)) → ∃ f, p_Re_findReached_32 te ru Q f (nI (tn T)) (0 : Int32) (Re_reached_s re g) := by
    intro g hg
    refine forN (fun f i (h : Nat → Int64) => p_Re_findReached_32 te ru Q f (nI (tn T)) i (Re_reached_s re h)) (fun i h => ∀ u v, u < tn T → (bl (h u) v ↔ v = u ∨ ∃ k, k < i ∧ rl R k = u ∧ rr R k = v)) (rn R) 0 g (by omega) (fun u v hu => (hg u v hu).trans ⟨Or.inl, fun q => q.elim id (fun ⟨k, hk, _⟩ => by omega)⟩) ?_ ?_
    · intro f h e
      unfold p_Re_findReached_32 p_Ru_count
      rw [c0]
      simp (disch := omega) only [↓mI_e, litI, cLeT, cLeF, cLtT, cLtF, cEqF, cEqT, mE1, mE2, mL1, mL2, mL3, mL4, cIn, nI_clamp, nI_add, cMul, cSub, cM1, nar0, nar1, true_implies, false_implies, not_true_eq_false, not_false_eq_true, true_and, and_true]
      refine k79 h (fun u v hu q => ?_) (fun u hu => (e u u hu).mpr (Or.inl rfl)) (fun i hi => (e _ _ (ho.2 i hi).1).mpr (Or.inr ⟨i, hi, rfl, rfl⟩)) (fun u v hu q => ?_)
      · rcases (e u v hu).mp q with q | ⟨k, hk, q1, q2⟩
        · omega
        · have := (ho.2 k hk).2.1; omega
      · rcases (e u v hu).mp q with q | ⟨k, hk, q1, q2⟩
        · subst q; exact Rch.rf hu
        · subst q1 q2; exact Rch.rule ho hk
    · intro f i h hi e ih
      have oi := ho.2 i hi
      unfold p_Re_findReached_32 p_Ru_count p_Ru_leftOf p_Ru_rightOf
      rw [c0]
      simp (disch := omega) only [↓mI_e, litI, cLeT, cLeF, cLtT, cLtF, cEqF, cEqT, mE1, mE2, mL1, mL2, mL3, mL4, cIn, nI_clamp, nI_add, cMul, cSub, cM1, nar0, nar1, true_implies, false_implies, not_true_eq_false, not_false_eq_true, true_and, and_true]
      rw [c1 i hi, c2 i hi]
      simp (disch := omega) only [↓mI_e, litI, cLeT, cLeF, cLtT, cLtF, cEqF, cEqT, mE1, mE2, mL1, mL2, mL3, mL4, cIn, nI_clamp, nI_add, cMul, cSub, cM1, nar0, nar1, true_implies, false_implies, not_true_eq_false, not_false_eq_true, true_and, and_true]
      refine nm_e (ih _ (fun u v hu => ?_))
      show bl (vp_updL h (rl R i) (h (rl R i) ||| ((1 : Int64) <<< ((nI (rr R i)).toInt64 &&& 63))) u) v ↔ _
      by_cases eu : u = rl R i
      · rw [updL_s eu, bl_or, bl_shl (by omega), ← eu, e u v hu]
        constructor
        · rintro ((q | ⟨k, hk, q1, q2⟩) | q)
          · exact Or.inl q
          · exact Or.inr ⟨k, by omega, q1, q2⟩
          · exact Or.inr ⟨i, by omega, eu.symm, q.symm⟩
        · rintro (q | ⟨k, hk, q1, q2⟩)
          · exact Or.inl (Or.inl q)
          · by_cases ek : k = i
            · subst ek; exact Or.inr q2.symm
            · exact Or.inl (Or.inr ⟨k, by omega, q1, q2⟩)
      · rw [updL_n eu, e u v hu]
        constructor
        · rintro (q | ⟨k, hk, q1, q2⟩)
          · exact Or.inl q
          · exact Or.inr ⟨k, by omega, q1, q2⟩
        · rintro (q | ⟨k, hk, q1, q2⟩)
          · exact Or.inl q
          · by_cases ek : k = i
            · subst ek; exact absurd q1.symm eu
            · exact Or.inr ⟨k, by omega, q1, q2⟩
  -- each reaches itself
  refine forN (fun f i (h : Nat → Int64) => p_Re_findReached_10 te ru Q f (nI (tn T)) i (Re_reached_s re h)) (fun i h => ∀ u v, u < i → (bl (h u) v ↔ v = u)) (tn T) 0 (Re_reached re) (by omega) (fun u v hu => by omega) ?_ ?_
  · intro f h e
    unfold p_Re_findReached_10
    simp (disch := omega) only [↓mI_e, litI, cLeT, cLeF, cLtT, cLtF, cEqF, cEqT, mE1, mE2, mL1, mL2, mL3, mL4, cIn, nI_clamp, nI_add, cMul, cSub, cM1, nar0, nar1, true_implies, false_implies, not_true_eq_false, not_false_eq_true, true_and, and_true]
    exact k32 h e
  · intro f i h hi e ih
    unfold p_Re_findReached_10
    simp (disch := omega) only [↓mI_e, litI, cLeT, cLeF, cLtT, cLtF, cEqF, cEqT, mE1, mE2, mL1, mL2, mL3, mL4, cIn, nI_clamp, nI_add, cMul, cSub, cM1, nar0, nar1, true_implies, false_implies, not_true_eq_false, not_false_eq_true, true_and, and_true]
    refine nm_e (ih _ (fun u v hu => ?_))
    by_cases eu : u = i
    · rw [updL_s eu, bl_shl (by omega), eu]
    · rw [updL_n eu]; exact e u v (by omega)
theorem s_renew {j : Nat} {Q : Re → Prop} (hT : tTe T te) (hn : tn T ≤ 48) (hr : rRu R ru) (ho : rOk T R) (hc : cache j T R ru re) (hQ : ∀ re', rowsOf (tn T) (Rch T R) (Re_reached re') → (¬ Re_joinedKnown re' = 0 → rowsOf (tn T) (Jn T R) (Re_joined re')) → cache j T R ru re' → Re_termsThen re' = nI (tn T) → Re_changesThen re' = Ru_changes ru → Q re') : p_Re_renew te ru re Q := by
  obtain ⟨ch, h1, h2, h3, h4, h5⟩ := hc
  have k29 : p_Re_renew_29 te ru Q re := by
    unfold p_Re_renew_29 p_Te_count p_Ru_changes
    refine nm_e ?_
    refine nm_e ?_
    refine nm_e ?_
    refine s_findReached hT hn hr ho (fun g hg => hQ _ hg (fun h => absurd rfl h) ?_ hT.2.2.1 rfl)
    exact ⟨ch, h1, h2, Or.inr ⟨ch, by omega, h2⟩, Or.inr ⟨tn T, by omega, hT.2.2.1⟩, fun _ _ => ⟨hg, fun h => absurd rfl h⟩⟩
  unfold p_Re_renew p_Te_count p_Ru_changes
  rw [hT.2.2.1, h2]
  refine ⟨fun _ => k29, fun e1 => ⟨fun _ => k29, fun e2 => ?_⟩⟩
  have h6 := h5 e1 e2
  exact hQ re h6.1 h6.2 ⟨ch, h1, h2, h3, h4, h5⟩ e1 (e2.trans h2.symm)
end
