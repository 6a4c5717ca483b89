/-! the lightest term of a state, as the reference finds it -/
section
variable {T : Tab} {A : Aut} {F : Nat} {mo : Mo}
/-- what the reference knows is something, cut -/
def kn6 (T : Tab) (A : Aut) (f : Nat → Nat) : Prop := ∀ p, p < 6 → f p ≠ 0 → ∃ c, Ac6 T A p c ∧ f p = min 1000000000 c
def rk (f : Nat → Nat) (q : Nat) : Nat := if f q = 0 then 1000000001 else f q
def upM (T : Tab) (A : Aut) (f : Nat → Nat) (e : Nat) : Prop := apE T A f e ∧ (f (at' A e) = 0 ∨ min 1000000000 (lze T A f e) < f (at' A e))
theorem kn6_le {f : Nat → Nat} (h : kn6 T A f) {p : Nat} (hp : p < 6) : f p ≤ 1000000000 := by
  by_cases z : f p = 0
  · omega
  · obtain ⟨c, -, e⟩ := h p hp z
    omega
theorem s_edgeL {e : Nat} {x1 x2 : Int32} {Q : Int32 → Mo → Prop} {k48 : Int32 → Mo → Prop} {k56 : Int32 → Int32 → Mo → Prop} {w : Nat → Int32} {f : Nat → Nat} (hM : tMo T mo) (ho : aOk T A) (ha : aMo T A F mo) (he : e < an A) (hw : rep6 w f) (hb : ∀ q, q < 6 → f q ≤ 1000000000) (h0 : ¬ upM T A f e → k56 x2 (nI (e + 1)) (Mo_stateLight_s mo w)) (h1 : upM T A f e → k56 (nI 1) (nI (e + 1)) (Mo_stateLight_s mo (upd w (at' A e) (nI (min 1000000000 (lze T A f e)))))) : (vp_in (((4 : Int32) * nI e) + (1 : Int32)) 80 ∧ ((0 ≤ (Mo_edge (Mo_stateLight_s mo w) (((4 : Int32) * nI e) + (1 : Int32)).toNatClampNeg) → (vp_in (((4 : Int32) * nI e) + (1 : Int32)) 80 ∧ (vp_in (Mo_edge (Mo_stateLight_s mo w) (((4 : Int32) * nI e) + (1 : Int32)).toNatClampNeg) 6 ∧ p_Mo_lightest_96 x1 Q k48 k56 x2 (nI e) (Mo_stateLight (Mo_stateLight_s mo w) (Mo_edge (Mo_stateLight_s mo w) (((4 : Int32) * nI e) + (1 : Int32)).toNatClampNeg).toNatClampNeg) (Mo_stateLight_s mo w)))) ∧
      (¬ 0 ≤ (Mo_edge (Mo_stateLight_s mo w) (((4 : Int32) * nI e) + (1 : Int32)).toNatClampNeg) → p_Mo_lightest_96 x1 Q k48 k56 x2 (nI e) (0 : Int32) (Mo_stateLight_s mo w)))) := by
  have h20 := ho.1
  have oe := ho.2 e he
  have hp2 := hM.1.2.1 (as' A e)
  obtain ⟨d0, d1, d2, d3, d4, -⟩ := ha
  have d2 : ∀ w, Mo_edge (Mo_stateLight_s mo w) (4 * e + 1) = pc 1 (tp T (as' A e)) (a1' A e) := fun _ => d2 e he
  have d3 : ∀ w, Mo_edge (Mo_stateLight_s mo w) (4 * e + 2) = pc 2 (tp T (as' A e)) (a2' A e) := fun _ => d3 e he
  have d4 : ∀ w, Mo_edge (Mo_stateLight_s mo w) (4 * e + 3) = nI (at' A e) := fun _ => d4 e he
  have cw : ∀ q, q < 6 → Mo_stateLight (Mo_stateLight_s mo w) q = wI (f q) := fun q hq => hw q hq
  have b1 := hb (a1' A e) oe.2.1
  have b2 := hb (a2' A e) oe.2.2.1
  have b3 := hb (at' A e) oe.2.2.2.1
  have k199 : upM T A f e → p_Mo_lightest_199 x1 Q k48 k56 (nI e) (nI (at' A e)) (nI (min 1000000000 (lze T A f e))) (Mo_stateLight_s mo w) := by
    intro u
    unfold p_Mo_lightest_199
    simp (disch := omega) only [↓mI_e, litI, cLeT, cLeF, cLtT, cLtF, cEqF, cEqT, mE1, mE2, mL1, mL2, mL3, mL4, cIn, nI_clamp, nI_add, cMul, cSub, cM1, nar0, nar1, true_implies, false_implies, not_true_eq_false, not_false_eq_true, true_and, and_true]
    exact nm_e (h1 u)
  have k154 : ¬ apE T A f e → p_Mo_lightest_154 x1 Q k48 k56 x2 (nI e) (nI (at' A e)) (Mo_stateLight_s mo w) := by
    intro no
    unfold p_Mo_lightest_154 p_Mo_lightest_170
    simp (disch := omega) only [↓mI_e, litI, cLeT, cLeF, cLtT, cLtF, cEqF, cEqT, mE1, mE2, mL1, mL2, mL3, mL4, cIn, nI_clamp, nI_add, cMul, cSub, cM1, nar0, nar1, true_implies, false_implies, not_true_eq_false, not_false_eq_true, true_and, and_true]
    exact h0 (fun u => no u.1)
  have k170 : apE T A f e → p_Mo_lightest_170 x1 Q k48 k56 x2 (nI e) (nI (at' A e)) (nI (min 1000000000 (lze T A f e))) (Mo_stateLight_s mo w) := by
    intro ap
    have lm : min 1000000000 (lze T A f e) ≤ 1000000000 := Nat.min_le_left _ _
    unfold p_Mo_lightest_170
    simp (disch := omega) only [↓mI_e, litI, cLeT, cLeF, cLtT, cLtF, cEqF, cEqT, mE1, mE2, mL1, mL2, mL3, mL4, cIn, nI_clamp, nI_add, cMul, cSub, cM1, nar0, nar1, true_implies, false_implies, not_true_eq_false, not_false_eq_true, true_and, and_true]
    rw [cw _ oe.2.2.2.1]
    by_cases z : f (at' A e) = 0
    · rw [z, wI_0]
      simp (disch := omega) only [↓mI_e, litI, cLeT, cLeF, cLtT, cLtF, cEqF, cEqT, mE1, mE2, mL1, mL2, mL3, mL4, cIn, nI_clamp, nI_add, cMul, cSub, cM1, nar0, nar1, true_implies, false_implies, not_true_eq_false, not_false_eq_true, true_and, and_true]
      exact k199 ⟨ap, Or.inl z⟩
    · rw [wI_n z]
      by_cases y : f (at' A e) ≤ min 1000000000 (lze T A f e)
      · simp (disch := omega) only [↓mI_e, litI, cLeT, cLeF, cLtT, cLtF, cEqF, cEqT, mE1, mE2, mL1, mL2, mL3, mL4, cIn, nI_clamp, nI_add, cMul, cSub, cM1, nar0, nar1, true_implies, false_implies, not_true_eq_false, not_false_eq_true, true_and, and_true]
        exact h0 (fun u => by rcases u.2 with u | u <;> omega)
      · simp (disch := omega) only [↓mI_e, litI, cLeT, cLeF, cLtT, cLtF, cEqF, cEqT, mE1, mE2, mL1, mL2, mL3, mL4, cIn, nI_clamp, nI_add, cMul, cSub, cM1, nar0, nar1, true_implies, false_implies, not_true_eq_false, not_false_eq_true, true_and, and_true]
        exact k199 ⟨ap, Or.inr (by omega)⟩
  have k130 : ∀ ya yb : Nat, ya ≤ 1000000000 → yb ≤ 1000000000 → apE T A f e → 1 + ya + yb = lze T A f e → p_Mo_lightest_130 x1 Q k48 k56 x2 (nI e) (nI ya) (nI yb) (Mo_stateLight_s mo w) := by
    intro ya yb l1 l2 ap h2
    unfold p_Mo_lightest_130
    rw [nI_l (by omega), nI_l (by omega), show (1 : Int64) = lN 1 from rfl, lN_add, lN_add, capped_t (by omega), h2]
    simp (disch := omega) only [↓mI_e, litI, cLeT, cLeF, cLtT, cLtF, cEqF, cEqT, mE1, mE2, mL1, mL2, mL3, mL4, cIn, nI_clamp, nI_add, cMul, cSub, cM1, nar0, nar1, true_implies, false_implies, not_true_eq_false, not_false_eq_true, true_and, and_true, d4]
    exact k170 ap
  have k130n : ∀ y, (y = mI ∨ ∃ c, c ≤ 1000000000 ∧ y = nI c) → ¬ apE T A f e → p_Mo_lightest_130 x1 Q k48 k56 x2 (nI e) y mI (Mo_stateLight_s mo w) := by
    intro y hy no
    unfold p_Mo_lightest_130
    rcases hy with rfl | ⟨c, hc, rfl⟩
    · simp (disch := omega) only [↓mI_e, litI, cLeT, cLeF, cLtT, cLtF, cEqF, cEqT, mE1, mE2, mL1, mL2, mL3, mL4, cIn, nI_clamp, nI_add, cMul, cSub, cM1, nar0, nar1, true_implies, false_implies, not_true_eq_false, not_false_eq_true, true_and, and_true, d4]
      exact k154 no
    · simp (disch := omega) only [↓mI_e, litI, cLeT, cLeF, cLtT, cLtF, cEqF, cEqT, mE1, mE2, mL1, mL2, mL3, mL4, cIn, nI_clamp, nI_add, cMul, cSub, cM1, nar0, nar1, true_implies, false_implies, not_true_eq_false, not_false_eq_true, true_and, and_true, d4]
      exact k154 no
  have k130m : ∀ y, ¬ apE T A f e → p_Mo_lightest_130 x1 Q k48 k56 x2 (nI e) mI y (Mo_stateLight_s mo w) := by
    intro y no
    unfold p_Mo_lightest_130
    simp (disch := omega) only [↓mI_e, litI, cLeT, cLeF, cLtT, cLtF, cEqF, cEqT, mE1, mE2, mL1, mL2, mL3, mL4, cIn, nI_clamp, nI_add, cMul, cSub, cM1, nar0, nar1, true_implies, false_implies, not_true_eq_false, not_false_eq_true, true_and, and_true, d4]
    exact k154 no
  have k96 : ∀ ya : Nat, ya ≤ 1000000000 → (1 ≤ tp T (as' A e) → f (a1' A e) ≠ 0) → ya = (if 1 ≤ tp T (as' A e) then f (a1' A e) else 0) → p_Mo_lightest_96 x1 Q k48 k56 x2 (nI e) (nI ya) (Mo_stateLight_s mo w) := by
    intro ya l1 ap1 hy
    unfold p_Mo_lightest_96
    simp (disch := omega) only [↓mI_e, litI, cLeT, cLeF, cLtT, cLtF, cEqF, cEqT, mE1, mE2, mL1, mL2, mL3, mL4, cIn, nI_clamp, nI_add, cMul, cSub, cM1, nar0, nar1, true_implies, false_implies, not_true_eq_false, not_false_eq_true, true_and, and_true, d3]
    by_cases t2 : 2 ≤ tp T (as' A e)
    · rw [pc_n t2]
      simp (disch := omega) only [↓mI_e, litI, cLeT, cLeF, cLtT, cLtF, cEqF, cEqT, mE1, mE2, mL1, mL2, mL3, mL4, cIn, nI_clamp, nI_add, cMul, cSub, cM1, nar0, nar1, true_implies, false_implies, not_true_eq_false, not_false_eq_true, true_and, and_true]
      rw [cw _ oe.2.2.1]
      by_cases z : f (a2' A e) = 0
      · rw [z, wI_0]
        exact k130n _ (Or.inr ⟨ya, l1, rfl⟩) (fun ap => ap.2 t2 z)
      · rw [wI_n z]
        refine k130 ya _ l1 b2 ⟨ap1, fun _ => z⟩ ?_
        unfold lze
        rw [if_pos t2, ← hy]
    · rw [pc_m (by omega)]
      simp (disch := omega) only [↓mI_e, litI, cLeT, cLeF, cLtT, cLtF, cEqF, cEqT, mE1, mE2, mL1, mL2, mL3, mL4, cIn, nI_clamp, nI_add, cMul, cSub, cM1, nar0, nar1, true_implies, false_implies, not_true_eq_false, not_false_eq_true, true_and, and_true]
      refine k130 ya 0 l1 (by omega) ⟨ap1, fun h => absurd h t2⟩ ?_
      unfold lze
      rw [if_neg t2, ← hy]
  simp (disch := omega) only [↓mI_e, litI, cLeT, cLeF, cLtT, cLtF, cEqF, cEqT, mE1, mE2, mL1, mL2, mL3, mL4, cIn, nI_clamp, nI_add, cMul, cSub, cM1, nar0, nar1, true_implies, false_implies, not_true_eq_false, not_false_eq_true, true_and, and_true, d2]
  by_cases t1 : 1 ≤ tp T (as' A e)
  · rw [pc_n t1]
    simp (disch := omega) only [↓mI_e, litI, cLeT, cLeF, cLtT, cLtF, cEqF, cEqT, mE1, mE2, mL1, mL2, mL3, mL4, cIn, nI_clamp, nI_add, cMul, cSub, cM1, nar0, nar1, true_implies, false_implies, not_true_eq_false, not_false_eq_true, true_and, and_true]
    rw [cw _ oe.2.1]
    by_cases z : f (a1' A e) = 0
    · rw [z, wI_0]
      have no : ¬ apE T A f e := fun ap => ap.1 t1 z
      unfold p_Mo_lightest_96
      simp (disch := omega) only [↓mI_e, litI, cLeT, cLeF, cLtT, cLtF, cEqF, cEqT, mE1, mE2, mL1, mL2, mL3, mL4, cIn, nI_clamp, nI_add, cMul, cSub, cM1, nar0, nar1, true_implies, false_implies, not_true_eq_false, not_false_eq_true, true_and, and_true, d3]
      by_cases t2 : 2 ≤ tp T (as' A e)
      · rw [pc_n t2]
        simp (disch := omega) only [↓mI_e, litI, cLeT, cLeF, cLtT, cLtF, cEqF, cEqT, mE1, mE2, mL1, mL2, mL3, mL4, cIn, nI_clamp, nI_add, cMul, cSub, cM1, nar0, nar1, true_implies, false_implies, not_true_eq_false, not_false_eq_true, true_and, and_true]
        exact k130m _ no
      · rw [pc_m (by omega)]
        simp (disch := omega) only [↓mI_e, litI, cLeT, cLeF, cLtT, cLtF, cEqF, cEqT, mE1, mE2, mL1, mL2, mL3, mL4, cIn, nI_clamp, nI_add, cMul, cSub, cM1, nar0, nar1, true_implies, false_implies, not_true_eq_false, not_false_eq_true, true_and, and_true]
        exact k130m _ no
    · rw [wI_n z]
      exact k96 _ b1 (fun _ => z) (by rw [if_pos t1])
  · rw [pc_m (by omega)]
    simp (disch := omega) only [↓mI_e, litI, cLeT, cLeF, cLtT, cLtF, cEqF, cEqT, mE1, mE2, mL1, mL2, mL3, mL4, cIn, nI_clamp, nI_add, cMul, cSub, cM1, nar0, nar1, true_implies, false_implies, not_true_eq_false, not_false_eq_true, true_and, and_true]
    exact k96 0 (by omega) (fun h => absurd h t1) (by rw [if_neg t1])
theorem s_passS {x1 : Int32} {Q : Int32 → Mo → Prop} {k48 : Int32 → Mo → Prop} {w : Nat → Int32} {f : Nat → Nat} (hM : tMo T mo) (ho : aOk T A) (ha : aMo T A F mo) (hw : rep6 w f) (hk : kn6 T A f) (hQ : ∀ x w' f', rep6 w' f' → kn6 T A f' → ((x = nI 0 ∧ (∀ e, e < an A → apE T A f' e → f' (at' A e) ≠ 0 ∧ f' (at' A e) ≤ lze T A f' e)) ∨ (x = nI 1 ∧ sN (rk f') 6 < sN (rk f) 6)) → k48 x (Mo_stateLight_s mo w')) : ∃ n, p_Mo_lightest_56 x1 Q k48 n (0 : Int32) (0 : Int32) (Mo_stateLight_s mo w) := by
  have h20 := ho.1
  have hcn : ∀ w, Mo_edges (Mo_stateLight_s mo w) = nI (an A) := fun w => ha.1
  refine forN (fun n i (s : Int32 × (Nat → Int32)) => p_Mo_lightest_56 x1 Q k48 n s.1 i (Mo_stateLight_s mo s.2)) (fun i s => ∃ g, rep6 s.2 g ∧ kn6 T A g ∧ ((s.1 = nI 0 ∧ g = f ∧ ∀ e, e < i → apE T A f e → f (at' A e) ≠ 0 ∧ f (at' A e) ≤ lze T A f e) ∨ (s.1 = nI 1 ∧ sN (rk g) 6 < sN (rk f) 6))) (an A) 0 (0, w) (by omega) ⟨f, hw, hk, Or.inl ⟨rfl, rfl, fun e h => by omega⟩⟩ ?_ ?_
  · rintro n ⟨x, w'⟩ ⟨g, h1, h2, h3⟩
    dsimp only at h1 h3 ⊢
    unfold p_Mo_lightest_56
    rw [hcn]
    simp (disch := omega) only [↓mI_e, litI, cLeT, cLeF, cLtT, cLtF, cEqF, cEqT, mE1, mE2, mL1, mL2, mL3, mL4, cIn, nI_clamp, nI_add, cMul, cSub, cM1, nar0, nar1, true_implies, false_implies, not_true_eq_false, not_false_eq_true, true_and, and_true]
    refine hQ x w' g h1 h2 (h3.imp (fun z => ⟨z.1, ?_⟩) id)
    rw [z.2.1]
    exact z.2.2
  · rintro n e ⟨x, w'⟩ he ⟨g, h1, h2, h3⟩ ih
    dsimp only at h1 h3 ⊢
    have oe := ho.2 e he
    unfold p_Mo_lightest_56
    rw [hcn]
    refine ⟨fun h9 => absurd h9 (nI_ge he (by omega)), fun _ => ?_⟩
    refine s_edgeL hM ho ha he h1 (fun q hq => kn6_le h2 hq) (fun no => ?_) (fun up => ?_)
    · refine ih (x, w') ⟨g, h1, h2, h3.imp (fun z => ⟨z.1, z.2.1, fun e' he' ap => ?_⟩) id⟩
      obtain ⟨_, z2, z3⟩ := z
      by_cases e9 : e' = e
      · subst e9
        subst z2
        have h8 : ¬ (g (at' A e') = 0 ∨ min 1000000000 (lze T A g e') < g (at' A e')) := fun z => no ⟨ap, z⟩
        exact ⟨fun z => h8 (Or.inl z), by omega⟩
      · exact z3 e' (by omega) ap
    · have v0 := lze_pos (T := T) (A := A) g e
      refine ih (nI 1, upd w' (at' A e) (nI (min 1000000000 (lze T A g e)))) ⟨fun p => if p = at' A e then min 1000000000 (lze T A g e) else g p, fun p hp => ?_, fun p hp h => ?_, Or.inr ⟨rfl, ?_⟩⟩
      · dsimp only
        by_cases e9 : p = at' A e
        · rw [if_pos e9, upd_s e9, wI_n (by omega)]
        · rw [if_neg e9, upd_n e9]; exact h1 p hp
      · dsimp only at h ⊢
        by_cases e9 : p = at' A e
        · rw [if_pos e9, e9]
          -- the true weights
          obtain ⟨k, hk⟩ := Classical.axiomOfChoice (r := fun p c => p < 6 → g p ≠ 0 → Ac6 T A p c ∧ g p = min 1000000000 c) (fun p => by
            by_cases z : p < 6 ∧ g p ≠ 0
            · obtain ⟨c, z2⟩ := h2 p z.1 z.2; exact ⟨c, fun _ _ => z2⟩
            · exact ⟨0, fun z1 z2 => absurd ⟨z1, z2⟩ z⟩)
          refine ⟨lze T A k e, Ac6.mk he (fun t1 => (hk _ oe.2.1 (up.1.1 t1)).1) (fun t2 => (hk _ oe.2.2.1 (up.1.2 t2)).1), ?_⟩
          unfold lze
          by_cases t1 : 1 ≤ tp T (as' A e)
          · rw [if_pos t1, if_pos t1, (hk _ oe.2.1 (up.1.1 t1)).2]
            by_cases t2 : 2 ≤ tp T (as' A e)
            · rw [if_pos t2, if_pos t2, (hk _ oe.2.2.1 (up.1.2 t2)).2]; omega
            · rw [if_neg t2, if_neg t2]; omega
          · rw [if_neg t1, if_neg t1, if_neg (by omega), if_neg (by omega)]
        · rw [if_neg e9] at h ⊢; exact h2 p hp h
      · have lt : sN (rk (fun p => if p = at' A e then min 1000000000 (lze T A g e) else g p)) 6 < sN (rk g) 6 := by
          refine sN_lt (j := at' A e) ?_ 6 oe.2.2.2.1 (fun k hk => ?_)
          · unfold rk
            dsimp only
            simp only [if_true]
            rw [if_neg (by omega)]
            rcases up.2 with z | z
            · rw [if_pos z]; omega
            · rw [if_neg (by omega)]; exact z
          · unfold rk
            dsimp only
            by_cases e9 : k = at' A e
            · have e8 : (if k = at' A e then min 1000000000 (lze T A g e) else g k) = min 1000000000 (lze T A g e) := if_pos e9
              simp only [e8]
              rw [if_neg (by omega), e9]
              rcases up.2 with z | z
              · rw [if_pos z]; omega
              · rw [if_neg (by omega)]; omega
            · have e8 : (if k = at' A e then min 1000000000 (lze T A g e) else g k) = g k := if_neg e9
              simp only [e8]
              exact Nat.le_refl _
        rcases h3 with ⟨_, z, _⟩ | ⟨_, z⟩
        · subst z; exact lt
        · exact Nat.lt_trans lt z
theorem stateLight_k {mo mo' : Mo} (h : mKp mo mo') (g : Nat → Int32) : mKp mo (Mo_stateLight_s mo' g) := ⟨h.1, h.2.1, h.2.2.1, h.2.2.2.1, h.2.2.2.2.1, h.2.2.2.2.2.1, h.2.2.2.2.2.2.1, h.2.2.2.2.2.2.2.1, h.2.2.2.2.2.2.2.2.1, h.2.2.2.2.2.2.2.2.2.1, h.2.2.2.2.2.2.2.2.2.2⟩
theorem s_lightM {q : Nat} {Q : Int32 → Mo → Prop} (hM : tMo T mo) (ho : aOk T A) (ha : aMo T A F mo) (hq : q < 6) (hQ : ∀ f m, (∀ p, st6' T A f p) → kn6 T A f → mKp mo m → Mo_thrown m = nI 0 → Q (wI (f q)) m) : p_Mo_lightest (nI q) mo Q := by
  unfold p_Mo_lightest p_Mo_lightest_13
  rw [stateM_t hq]
  refine ⟨fun h => absurd h (by decide), fun _ => ?_⟩
  intro m1 em1
  have km1 : mKp mo m1 := by rw [em1]; exact thr_k mo _
  have tm1 : Mo_thrown m1 = nI 0 := by subst em1; rfl
  clear em1
  rw [tm1]
  refine ⟨fun _ => ?_, fun h => absurd (show (nI 0) ≤ 0 by decide) h⟩
  have hM' := hM.kp km1
  have ha' := ha.kp km1
  have k48 : ∀ w, rep6 w (fun _ => 0) → ∃ n, p_Mo_lightest_48 (nI q) Q n (1 : Int32) (Mo_stateLight_s m1 w) := by
    intro w hw
    refine loop_m (fun n (y : Int32 × (Nat → Int32)) => p_Mo_lightest_48 (nI q) Q n y.1 (Mo_stateLight_s m1 y.2)) (fun y => ∃ f, rep6 y.2 f ∧ kn6 T A f ∧ (y.1 = nI 1 ∨ (y.1 = nI 0 ∧ ∀ p, st6' T A f p))) (fun y => if y.1 = nI 0 then 0 else 1 + sN (fun k => if y.2 k = mI then 1000000001 else (y.2 k).toNatClampNeg) 6) ?_ (1, w) ⟨fun _ => 0, hw, fun p _ h => absurd rfl h, Or.inl rfl⟩
    rintro n ⟨x, w'⟩ ⟨f, h1, h2, h4⟩ ih
    dsimp only at h1 h4 ih ⊢
    unfold p_Mo_lightest_48
    rcases h4 with rfl | ⟨rfl, h4⟩
    · simp (disch := omega) only [↓mI_e, litI, cLeT, cLeF, cLtT, cLtF, cEqF, cEqT, mE1, mE2, mL1, mL2, mL3, mL4, cIn, nI_clamp, nI_add, cMul, cSub, cM1, nar0, nar1, true_implies, false_implies, not_true_eq_false, not_false_eq_true, true_and, and_true]
      refine s_passS hM' ho ha' h1 h2 (fun x2 w2 f2 e1 e2 e3 => ?_)
      refine ih (x2, w2) ⟨f2, e1, e2, ?_⟩ ?_
      · rcases e3 with ⟨rfl, d1⟩ | ⟨rfl, d1⟩
        · exact Or.inr ⟨rfl, fun p => st6_closed ho d1 p⟩
        · exact Or.inl rfl
      · dsimp only
        rw [if_neg (show ¬ nI 1 = nI 0 by decide)]
        rcases e3 with ⟨rfl, d1⟩ | ⟨rfl, d1⟩
        · rw [if_pos rfl]; omega
        · rw [if_neg (by decide)]
          have val : ∀ (w : Nat → Int32) (f : Nat → Nat), rep6 w f → kn6 T A f → ∀ k, k < 6 → (if w k = mI then 1000000001 else (w k).toNatClampNeg) = rk f k := by
            intro w f hw hk k hk6
            have hle := kn6_le hk hk6
            unfold rk
            rw [hw k hk6]
            by_cases z : f k = 0
            · rw [z, wI_0, if_pos rfl, if_pos rfl]
            · rw [wI_n z, if_neg (fun e => (mE1 (by omega)).mp e), if_neg z, nI_clamp (by omega)]
          have v1 : sN (fun k => if w2 k = mI then 1000000001 else (w2 k).toNatClampNeg) 6 ≤ sN (rk f2) 6 := sN_le 6 (fun k hk => by rw [val w2 f2 e1 e2 k hk]; exact Nat.le_refl _)
          have v2 : sN (rk f) 6 ≤ sN (fun k => if w' k = mI then 1000000001 else (w' k).toNatClampNeg) 6 := sN_le 6 (fun k hk => by rw [val w' f h1 h2 k hk]; exact Nat.le_refl _)
          omega
    · simp (disch := omega) only [↓mI_e, litI, cLeT, cLeF, cLtT, cLtF, cEqF, cEqT, mE1, mE2, mL1, mL2, mL3, mL4, cIn, nI_clamp, nI_add, cMul, cSub, cM1, nar0, nar1, true_implies, false_implies, not_true_eq_false, not_false_eq_true, true_and, and_true]
      rw [show Mo_stateLight (Mo_stateLight_s m1 w') q = wI (f q) from h1 q hq]
      exact hQ f _ h4 h2 (stateLight_k km1 w') tm1
  refine forN (fun n i (w : Nat → Int32) => p_Mo_lightest_27 (nI q) Q n i (Mo_stateLight_s m1 w)) (fun i w => ∀ p, p < i → w p = mI) 6 0 (Mo_stateLight m1) (by omega) (fun p hp => by omega) ?_ ?_
  · intro n w hw
    unfold p_Mo_lightest_27
    simp (disch := omega) only [↓mI_e, litI, cLeT, cLeF, cLtT, cLtF, cEqF, cEqT, mE1, mE2, mL1, mL2, mL3, mL4, cIn, nI_clamp, nI_add, cMul, cSub, cM1, nar0, nar1, true_implies, false_implies, not_true_eq_false, not_false_eq_true, true_and, and_true]
    exact k48 w hw
  · intro n i w hi hw ih
    unfold p_Mo_lightest_27
    simp (disch := omega) only [↓mI_e, litI, cLeT, cLeF, cLtT, cLtF, cEqF, cEqT, mE1, mE2, mL1, mL2, mL3, mL4, cIn, nI_clamp, nI_add, cMul, cSub, cM1, nar0, nar1, true_implies, false_implies, not_true_eq_false, not_false_eq_true, true_and, and_true]
    refine nm_e (ih (upd w i mI) (fun p hp => ?_))
    by_cases e : p = i
    · exact upd_s e
    · rw [upd_n e]; exact hw p (by omega)
end
section
variable {j : Nat} {T : Tab} {R : Rul} {A : Aut} {F : Nat} {te : Te} {ru : Ru} {au : Au} {re : Re} {la : La} {sp : Sp} {le : Le} {mo : Mo} {a1 a2 a3 a4 : Int32}
theorem q_12 (h : InvW j T R A F (te, ru, au, re, la, sp, le) mo) : ls_12 a1 a2 a3 a4 te ru au re la sp le mo (Inv (j + 1)) := by
  have hT := h.t
  have hM := h.1.2
  obtain ⟨hao, hF, hau, ham⟩ := h.2.2.1
  unfold ls_12 p_Gr_lightest
  rcases ixc a1 (n := 6) (by omega) with ⟨q, hq, rfl⟩ | ⟨-, g⟩
  · rw [state_t hq]
    refine ⟨fun _ => ?_, fun h => absurd h (by decide)⟩
    refine s_leastS hT hao hau hq (fun f w c1 c2 c3 => ?_)
    refine s_lightM hM hao ham hq (fun f' m' d1 d2 d3 d4 => ?_)
    have e : f q = f' q := by
      by_cases z : f q = 0
      · refine Classical.byContradiction (fun no => ?_)
        obtain ⟨c, e1, -⟩ := d2 q hq (by omega)
        exact (c1 q hq c e1).1 z
      · have e1 := d1 q (f q) (c2 q hq z)
        obtain ⟨c, e2, e3⟩ := d2 q hq e1.1
        have e4 := c1 q hq c e2
        have e5 := c3 q hq
        omega
    rw [e]
    exact ⟨d4, rfl, h.kp d3 hT hau h.c⟩
  · rw [state_f g]
    refine ⟨fun h => absurd rfl h, fun _ => ⟨rfl, ?_⟩⟩
    unfold p_Mo_lightest p_Mo_lightest_13
    rw [stateM_f g]
    exact ⟨fun _ => nm_e ⟨fun h => absurd (show nI 1 ≤ nI 0 from h) (nI_ge (by omega) (by omega)), fun _ => ⟨rfl, h.same (thr_k mo _)⟩⟩, fun h => absurd rfl h⟩
end
