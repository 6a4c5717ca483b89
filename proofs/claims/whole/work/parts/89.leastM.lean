/-! the least size, as the reference finds it -/
section
variable {T : Tab} {R : Rul} {mo : Mo}
theorem s_passL {x1 : Int32} {Q : Int32 → Mo → Prop} {k40 : Int32 → Mo → Prop} {g : Nat → Int32} {f : Nat → Nat} (hM : tMo T mo) (hr : rMo R mo) (ho : rOk T R) (hG : ∀ s t, s < tn T → t < tn T → (gG (Mo_goes mo) s t ↔ Rch T R s t)) (hg : repN (tn T) g f) (hA : ∀ u, u < tn T → Ach T R u (f u)) (hc : ∀ u, u < tn T → f u ≤ 1000000000) (hQ : ∀ x g' f', repN (tn T) g' f' → (∀ u, u < tn T → Ach T R u (f' u)) → (∀ u, u < tn T → f' u ≤ f u) → ((x = nI 0 ∧ (∀ u, u < tn T → f' u = f u) ∧ (∀ u, u < tn T → f u ≤ lsz T f u) ∧ (∀ i u, i < rn R → Rch T R u (rl R i) → f u ≤ f (rr R i))) ∨ (x = nI 1 ∧ ∃ u, u < tn T ∧ f' u < f u)) → k40 x (Mo_light_s mo g')) : ∃ n, p_Mo_least_48 x1 Q k40 n (0 : Int32) (0 : Int32) (Mo_light_s mo g) := by
  have hn := hM.2.1
  have o := hM.1
  have h8 := ho.1
  have hcg : ∀ g, Mo_count (Mo_light_s mo g) = nI (tn T) := fun g => hM.2.2.1
  have h1g : ∀ g t, t < tn T → Mo_one (Mo_light_s mo g) t = pc 1 (tq T t) (ta T t) := fun g => hM.2.2.2.2.2.1
  have h2g : ∀ g t, t < tn T → Mo_two (Mo_light_s mo g) t = pc 2 (tq T t) (tb T t) := fun g => hM.2.2.2.2.2.2
  have r0 : ∀ g, Mo_rules (Mo_light_s mo g) = nI (rn R) := fun g => hr.1
  have r1 : ∀ g i, i < rn R → Mo_left (Mo_light_s mo g) i = nI (rl R i) := fun g => hr.2.1
  have r2 : ∀ g i, i < rn R → Mo_right (Mo_light_s mo g) i = nI (rr R i) := fun g => hr.2.2
  refine forN (fun n i (s : Int32 × (Nat → Int32)) => p_Mo_least_48 x1 Q k40 n s.1 i (Mo_light_s mo s.2)) (fun i s => ∃ f', repN (tn T) s.2 f' ∧ (∀ u, u < tn T → Ach T R u (f' u)) ∧ (∀ u, u < tn T → f' u ≤ f u) ∧ ((s.1 = nI 0 ∧ (∀ u, u < tn T → f' u = f u) ∧ (∀ u, u < i → f u ≤ lsz T f u) ∧ (∀ i' u, i' < rn R → u < i → Rch T R u (rl R i') → f u ≤ f (rr R i'))) ∨ (s.1 = nI 1 ∧ ∃ u, u < tn T ∧ f' u < f u))) (tn T) 0 (0, g) (by omega) ⟨f, hg, hA, fun u _ => Nat.le_refl _, Or.inl ⟨rfl, fun u _ => rfl, fun u h => by omega, fun i u _ h => by omega⟩⟩ ?_ ?_
  · rintro n ⟨x, g'⟩ ⟨f', h1, h2, h3, h4⟩
    dsimp only at h1 h2 h3 h4 ⊢
    unfold p_Mo_least_48
    rw [hcg]
    simp (disch := omega) only [↓mI_e, litI, cLeT, cLeF, cLtT, cLtF, cEqF, cEqT, mE1, mE2, mL1, mL2, mL3, mL4, cIn, nI_clamp, nI_add, cMul, cSub, cM1, nar0, nar1, true_implies, false_implies, not_true_eq_false, not_false_eq_true, true_and, and_true]
    exact hQ x g' f' h1 h2 h3 (h4.imp (fun z => ⟨z.1, z.2.1, z.2.2.1, fun i u hi r => z.2.2.2 i u hi r.1 r⟩) id)
  · rintro n k ⟨x, g'⟩ hk ⟨f', h1, h2, h3, h4⟩ ih
    dsimp only at h1 h2 h3 h4 ⊢
    have ok := o.2.2 k hk
    have hc' : ∀ u, u < tn T → f' u ≤ 1000000000 := fun u hu => Nat.le_trans (h3 u hu) (hc u hu)
    have ck := hc' k hk
    have x01 : x = nI 0 ∨ x = nI 1 := h4.imp (fun z => z.1) (fun z => z.1)
    -- the rules, and the end
    have k117 : ∀ w, w = lsz T f' k → ∃ m, p_Mo_least_117 x1 Q k40 (fun a0 a1 a2 => p_Mo_least_48 x1 Q k40 n a0 a1 a2) m x (nI k) (nI w) (0 : Int32) (Mo_light_s mo g') := by
      intro w hw
      refine forN (fun m i (y : Int32) => p_Mo_least_117 x1 Q k40 (fun a0 a1 a2 => p_Mo_least_48 x1 Q k40 n a0 a1 a2) m x (nI k) y i (Mo_light_s mo g')) (fun i y => ∃ w, y = nI w ∧ w ≤ lsz T f' k ∧ Ach T R k w ∧ ∀ i', i' < i → Rch T R k (rl R i') → w ≤ f' (rr R i')) (rn R) 0 (nI w) (by omega) ⟨w, rfl, by omega, by rw [hw]; exact Ach.mk o (Rch.rf hk) (fun y hy => h2 y (by omega)), fun i' h => by omega⟩ ?_ ?_
      · rintro m y ⟨w, rfl, d1, d2, d3⟩
        have lc := lsz_le (T := T) f' k
        unfold p_Mo_least_117
        rw [r0]
        simp (disch := omega) only [↓mI_e, litI, cLeT, cLeF, cLtT, cLtF, cEqF, cEqT, mE1, mE2, mL1, mL2, mL3, mL4, cIn, nI_clamp, nI_add, cMul, cSub, cM1, nar0, nar1, true_implies, false_implies, not_true_eq_false, not_false_eq_true, true_and, and_true]
        rw [show Mo_light (Mo_light_s mo g') k = nI (f' k) from h1 k hk]
        by_cases hle : f' k ≤ w
        · simp (disch := omega) only [↓mI_e, litI, cLeT, cLeF, cLtT, cLtF, cEqF, cEqT, mE1, mE2, mL1, mL2, mL3, mL4, cIn, nI_clamp, nI_add, cMul, cSub, cM1, nar0, nar1, true_implies, false_implies, not_true_eq_false, not_false_eq_true, true_and, and_true]
          refine ih (x, g') ⟨f', h1, h2, h3, h4.imp (fun z => ⟨z.1, z.2.1, fun u hu => ?_, fun i' u hi' hu r => ?_⟩) id⟩
          · by_cases e : u = k
            · subst e
              have e1 := z.2.1 u hk
              have e2 := lsz_mono o h3 hk
              omega
            · exact z.2.2.1 u (by omega)
          · by_cases e : u = k
            · subst e
              have e1 := z.2.1 u hk
              have e2 := d3 i' hi' r
              rw [z.2.1 _ (ho.2 i' hi').2.1] at e2
              omega
            · exact z.2.2.2 i' u hi' (by omega) r
        · simp (disch := omega) only [↓mI_e, litI, cLeT, cLeF, cLtT, cLtF, cEqF, cEqT, mE1, mE2, mL1, mL2, mL3, mL4, cIn, nI_clamp, nI_add, cMul, cSub, cM1, nar0, nar1, true_implies, false_implies, not_true_eq_false, not_false_eq_true, true_and, and_true]
          refine nm_e (ih (nI 1, upd g' k (nI w)) ⟨fun u => if u = k then w else f' u, fun u hu => ?_, fun u hu => ?_, fun u hu => ?_, Or.inr ⟨rfl, k, hk, ?_⟩⟩)
          · dsimp only
            by_cases e : u = k
            · rw [if_pos e, upd_s e]
            · rw [if_neg e, upd_n e]; exact h1 u hu
          · dsimp only
            by_cases e : u = k
            · rw [if_pos e, e]; exact d2
            · rw [if_neg e]; exact h2 u hu
          · dsimp only
            have := h3 u hu
            by_cases e : u = k
            · rw [if_pos e]; rw [e] at this ⊢; omega
            · rw [if_neg e]; exact this
          · dsimp only
            rw [if_pos rfl]
            have := h3 k hk
            omega
      · rintro m i y hi ⟨w, rfl, d1, d2, d3⟩ ih2
        have oi := ho.2 i hi
        have lc := lsz_le (T := T) f' k
        unfold p_Mo_least_117
        rw [r0]
        simp (disch := omega) only [↓mI_e, litI, cLeT, cLeF, cLtT, cLtF, cEqF, cEqT, mE1, mE2, mL1, mL2, mL3, mL4, cIn, nI_clamp, nI_add, cMul, cSub, cM1, nar0, nar1, true_implies, false_implies, not_true_eq_false, not_false_eq_true, true_and, and_true]
        rw [r1 g' i hi, r2 g' i hi]
        simp (disch := omega) only [↓mI_e, litI, cLeT, cLeF, cLtT, cLtF, cEqF, cEqT, mE1, mE2, mL1, mL2, mL3, mL4, cIn, nI_clamp, nI_add, cMul, cSub, cM1, nar0, nar1, true_implies, false_implies, not_true_eq_false, not_false_eq_true, true_and, and_true]
        rw [show Mo_light (Mo_light_s mo g') (rr R i) = nI (f' (rr R i)) from h1 _ oi.2.1]
        have hG1 : (Mo_goes (Mo_light_s mo g') (48 * k + rl R i) = nI 0) ↔ ¬ Rch T R k (rl R i) := by
          rw [← hG k (rl R i) hk oi.1]
          unfold gG
          exact Classical.not_not.symm
        rw [hG1]
        have cr := hc' (rr R i) oi.2.1
        have nx : ∀ w', w' ≤ w → Ach T R k w' → (Rch T R k (rl R i) → w' ≤ f' (rr R i)) → p_Mo_least_117 x1 Q k40 (fun a0 a1 a2 => p_Mo_least_48 x1 Q k40 n a0 a1 a2) m x (nI k) (nI w') (nI (i + 1)) (Mo_light_s mo g') := by
          intro w' e1 e2 e3
          refine ih2 (nI w') ⟨w', rfl, by omega, e2, fun i' hi' r => ?_⟩
          by_cases e : i' = i
          · subst e; exact e3 r
          · have := d3 i' (by omega) r
            omega
        refine ⟨fun q => nx w (Nat.le_refl _) d2 (fun r => absurd r q), fun q => ?_⟩
        have q := Classical.not_not.mp q
        by_cases hle : w ≤ f' (rr R i)
        · simp (disch := omega) only [↓mI_e, litI, cLeT, cLeF, cLtT, cLtF, cEqF, cEqT, mE1, mE2, mL1, mL2, mL3, mL4, cIn, nI_clamp, nI_add, cMul, cSub, cM1, nar0, nar1, true_implies, false_implies, not_true_eq_false, not_false_eq_true, true_and, and_true]
          exact nx w (Nat.le_refl _) d2 (fun _ => hle)
        · simp (disch := omega) only [↓mI_e, litI, cLeT, cLeF, cLtT, cLtF, cEqF, cEqT, mE1, mE2, mL1, mL2, mL3, mL4, cIn, nI_clamp, nI_add, cMul, cSub, cM1, nar0, nar1, true_implies, false_implies, not_true_eq_false, not_false_eq_true, true_and, and_true]
          exact nx _ (by omega) (Ach.pre (q.trans (Rch.rule ho hi)) (h2 _ oi.2.1)) (fun _ => Nat.le_refl _)
    have k107 : ∀ ya yb : Nat, ya ≤ 1000000000 → yb ≤ 1000000000 → lsz T f' k = min 1000000000 (1 + ya + yb) → p_Mo_least_107 x1 Q k40 (fun a0 a1 a2 => p_Mo_least_48 x1 Q k40 n a0 a1 a2) x (nI k) (nI yb) ((1 : Int64) + (nI ya).toInt64) (Mo_light_s mo g') := by
      intro ya yb hya hyb e
      unfold p_Mo_least_107
      rw [nI_l (by omega), nI_l (by omega), show (1 : Int64) = lN 1 from rfl, lN_add, lN_add, capped_t (by omega), ← e]
      exact k117 _ rfl
    have k81 : ∀ ya : Nat, ya ≤ 1000000000 → lsz T f' k = min 1000000000 (1 + ya + (if 2 ≤ tq T k then f' (tb T k) else 0)) → p_Mo_least_81 x1 Q k40 (fun a0 a1 a2 => p_Mo_least_48 x1 Q k40 n a0 a1 a2) x (nI k) (nI ya) (1 : Int64) (Mo_light_s mo g') := by
      intro ya hya e
      unfold p_Mo_least_81
      rw [nI_clamp (by omega), h2g g' k hk]
      by_cases h : 2 ≤ tq T k
      · rw [if_pos h] at e
        simp (disch := omega) only [↓mI_e, litI, cLeT, cLeF, cLtT, cLtF, cEqF, cEqT, mE1, mE2, mL1, mL2, mL3, mL4, cIn, nI_clamp, nI_add, cMul, cSub, cM1, nar0, nar1, true_implies, false_implies, not_true_eq_false, not_false_eq_true, true_and, and_true, pc0]
        rw [pc_n h]
        simp (disch := omega) only [↓mI_e, litI, cLeT, cLeF, cLtT, cLtF, cEqF, cEqT, mE1, mE2, mL1, mL2, mL3, mL4, cIn, nI_clamp, nI_add, cMul, cSub, cM1, nar0, nar1, true_implies, false_implies, not_true_eq_false, not_false_eq_true, true_and, and_true]
        rw [show Mo_light (Mo_light_s mo g') (tb T k) = nI (f' (tb T k)) from h1 _ (by omega)]
        exact k107 ya _ hya (hc' _ (by omega)) e
      · rw [if_neg h] at e
        simp (disch := omega) only [↓mI_e, litI, cLeT, cLeF, cLtT, cLtF, cEqF, cEqT, mE1, mE2, mL1, mL2, mL3, mL4, cIn, nI_clamp, nI_add, cMul, cSub, cM1, nar0, nar1, true_implies, false_implies, not_true_eq_false, not_false_eq_true, true_and, and_true, pc0']
        exact k107 ya 0 hya (by omega) e
    unfold p_Mo_least_48
    rw [hcg]
    simp (disch := omega) only [↓mI_e, litI, cLeT, cLeF, cLtT, cLtF, cEqF, cEqT, mE1, mE2, mL1, mL2, mL3, mL4, cIn, nI_clamp, nI_add, cMul, cSub, cM1, nar0, nar1, true_implies, false_implies, not_true_eq_false, not_false_eq_true, true_and, and_true]
    rw [h1g g' k hk]
    by_cases h : 1 ≤ tq T k
    · simp (disch := omega) only [↓mI_e, litI, cLeT, cLeF, cLtT, cLtF, cEqF, cEqT, mE1, mE2, mL1, mL2, mL3, mL4, cIn, nI_clamp, nI_add, cMul, cSub, cM1, nar0, nar1, true_implies, false_implies, not_true_eq_false, not_false_eq_true, true_and, and_true, pc0]
      rw [pc_n h]
      simp (disch := omega) only [↓mI_e, litI, cLeT, cLeF, cLtT, cLtF, cEqF, cEqT, mE1, mE2, mL1, mL2, mL3, mL4, cIn, nI_clamp, nI_add, cMul, cSub, cM1, nar0, nar1, true_implies, false_implies, not_true_eq_false, not_false_eq_true, true_and, and_true]
      rw [show Mo_light (Mo_light_s mo g') (ta T k) = nI (f' (ta T k)) from h1 _ (by omega)]
      refine k81 _ (hc' _ (by omega)) ?_
      unfold lsz
      rw [if_pos h]
    · simp (disch := omega) only [↓mI_e, litI, cLeT, cLeF, cLtT, cLtF, cEqF, cEqT, mE1, mE2, mL1, mL2, mL3, mL4, cIn, nI_clamp, nI_add, cMul, cSub, cM1, nar0, nar1, true_implies, false_implies, not_true_eq_false, not_false_eq_true, true_and, and_true, pc0']
      refine k81 0 (by omega) ?_
      unfold lsz
      rw [if_neg h]
theorem light_k {mo mo' : Mo} (h : mKp mo mo') (g : Nat → Int32) : mKp mo (Mo_light_s mo' g) := ⟨h.1, h.2.1, h.2.2.1, h.2.2.2.1, h.2.2.2.2.1, h.2.2.2.2.2.1, h.2.2.2.2.2.2.1, h.2.2.2.2.2.2.2.1, h.2.2.2.2.2.2.2.2.1, h.2.2.2.2.2.2.2.2.2.1, h.2.2.2.2.2.2.2.2.2.2⟩
set_option maxHeartbeats 200000 in
theorem s_leastM1 {t : Nat} {Q : Int32 → Mo → Prop} {g : Nat → Int32} (hM : tMo T mo) (hr : rMo R mo) (ho : rOk T R) (hG : ∀ s t, s < tn T → t < tn T → (gG (Mo_goes mo) s t ↔ Rch T R s t)) (ht : t < tn T) (hg : repN (tn T) g (szT T)) (hQ : ∀ c l, Ach T R t c → (∀ c', Ach T R t c' → c ≤ c') → Q (nI c) (Mo_light_s mo l)) : ∃ n, p_Mo_least_40 (nI t) Q n (1 : Int32) (Mo_light_s mo g) := by
  have hn := hM.2.1
  have o := hM.1
  refine loop_m (fun n (y : Int32 × (Nat → Int32)) => p_Mo_least_40 (nI t) Q n y.1 (Mo_light_s mo y.2)) (fun y => ∃ f, repN (tn T) y.2 f ∧ (∀ u, u < tn T → Ach T R u (f u)) ∧ (∀ u, u < tn T → f u ≤ 1000000000) ∧ (y.1 = nI 1 ∨ (y.1 = nI 0 ∧ ∀ u, stl T R f u))) (fun y => if y.1 = nI 0 then 0 else 1 + sN (fun k => (y.2 k).toNatClampNeg) (tn T)) ?_ (1, g) ⟨szT T, hg, Ach.sz o, fun u _ => wt_le _ _ _ _, Or.inl rfl⟩
  rintro n ⟨x, g'⟩ ⟨f, h1, h2, h3, h4⟩ ih
  dsimp only at h1 h2 h3 h4 ih ⊢
  unfold p_Mo_least_40
  rcases h4 with rfl | ⟨rfl, h4⟩
  · simp (disch := omega) only [↓mI_e, litI, cLeT, cLeF, cLtT, cLtF, cEqF, cEqT, mE1, mE2, mL1, mL2, mL3, mL4, cIn, nI_clamp, nI_add, cMul, cSub, cM1, nar0, nar1, true_implies, false_implies, not_true_eq_false, not_false_eq_true, true_and, and_true]
    refine s_passL hM hr ho hG h1 h2 h3 (fun x2 g2 f2 e1 e2 e3 e4 => ?_)
    refine ih (x2, g2) ⟨f2, e1, e2, fun u hu => Nat.le_trans (e3 u hu) (h3 u hu), ?_⟩ ?_
    · rcases e4 with ⟨rfl, d1, d2, d3⟩ | ⟨rfl, d1⟩
      · refine Or.inr ⟨rfl, fun u c hc => ?_⟩
        rw [d1 u hc.1]
        exact stl_ref o d2 d3 u c hc
      · exact Or.inl rfl
    · dsimp only
      rw [if_neg (show ¬ nI 1 = nI 0 by decide)]
      rcases e4 with ⟨rfl, d1⟩ | ⟨rfl, u, hu, d1⟩
      · rw [if_pos rfl]; omega
      · rw [if_neg (by decide)]
        have v1 : ∀ k, k < tn T → (g2 k).toNatClampNeg = f2 k := fun k hk => by
          have c1 := h3 k hk
          have c2 := e3 k hk
          rw [e1 k hk, nI_clamp (by omega)]
        have v2 : ∀ k, k < tn T → (g' k).toNatClampNeg = f k := fun k hk => by
          have c1 := h3 k hk
          rw [h1 k hk, nI_clamp (by omega)]
        have := sN_lt (f := fun k => (g2 k).toNatClampNeg) (g := fun k => (g' k).toNatClampNeg) (j := u) (by rw [v1 u hu, v2 u hu]; exact d1) (tn T) hu (fun k hk => by rw [v1 k hk, v2 k hk]; exact e3 k hk)
        omega
  · simp (disch := omega) only [↓mI_e, litI, cLeT, cLeF, cLtT, cLtF, cEqF, cEqT, mE1, mE2, mL1, mL2, mL3, mL4, cIn, nI_clamp, nI_add, cMul, cSub, cM1, nar0, nar1, true_implies, false_implies, not_true_eq_false, not_false_eq_true, true_and, and_true]
    rw [show Mo_light (Mo_light_s mo g') t = nI (f t) from h1 t ht]
    exact hQ (f t) g' (h2 t ht) (h4 t)
set_option maxHeartbeats 200000 in
theorem s_leastM0 {t : Nat} {Q : Int32 → Mo → Prop} (hM : tMo T mo) (hr : rMo R mo) (ho : rOk T R) (hG : ∀ s t, s < tn T → t < tn T → (gG (Mo_goes mo) s t ↔ Rch T R s t)) (ht : t < tn T) (hQ : ∀ c mo', Ach T R t c → (∀ c', Ach T R t c' → c ≤ c') → mKp mo mo' → Mo_thrown mo' = Mo_thrown mo → Q (nI c) mo') : ∃ n, p_Mo_least_13 (nI t) Q n (0 : Int32) mo := by
  have hn := hM.2.1
  refine forN (fun n i (m : Mo) => p_Mo_least_13 (nI t) Q n i m) (fun i m => mKp mo m ∧ Mo_thrown m = Mo_thrown mo ∧ Mo_goes m = Mo_goes mo ∧ ∀ u, u < i → Mo_light m u = nI (szT T u)) (tn T) 0 mo (by omega) ⟨mKp.rf mo, rfl, rfl, fun u hu => by omega⟩ ?_ ?_
  · rintro n m ⟨hk, h1, h2, hg⟩
    have hM' := hM.kp hk
    unfold p_Mo_least_13
    rw [hM'.2.2.1]
    simp (disch := omega) only [↓mI_e, litI, cLeT, cLeF, cLtT, cLtF, cEqF, cEqT, mE1, mE2, mL1, mL2, mL3, mL4, cIn, nI_clamp, nI_add, cMul, cSub, cM1, nar0, nar1, true_implies, false_implies, not_true_eq_false, not_false_eq_true, true_and, and_true]
    exact s_leastM1 (g := Mo_light m) hM' (hr.kp hk) ho (by rw [h2]; exact hG) ht hg (fun c l c1 c2 => hQ c _ c1 c2 (light_k hk l) h1)
  · rintro n i m hi ⟨hk, h1, h2, hg⟩ ih
    have hM' := hM.kp hk
    unfold p_Mo_least_13
    rw [hM'.2.2.1]
    simp (disch := omega) only [↓mI_e, litI, cLeT, cLeF, cLtT, cLtF, cEqF, cEqT, mE1, mE2, mL1, mL2, mL3, mL4, cIn, nI_clamp, nI_add, cMul, cSub, cM1, nar0, nar1, true_implies, false_implies, not_true_eq_false, not_false_eq_true, true_and, and_true]
    refine s_size hM' hi (fun m2 _ => ?_)
    refine nm_e ?_
    refine ih _ ⟨light_k (many_k hk m2) _, h1, h2, fun u hu => ?_⟩
    show upd (Mo_light m) i (nI (szT T i)) u = _
    by_cases e : u = i
    · rw [upd_s e, e]
    · rw [upd_n e]; exact hg u (by omega)
set_option maxHeartbeats 200000 in
theorem s_leastM {t : Nat} {Q : Int32 → Mo → Prop} (hM : tMo T mo) (hr : rMo R mo) (ho : rOk T R) (ht : t < tn T) (hQ : ∀ c mo', Ach T R t c → (∀ c', Ach T R t c' → c ≤ c') → mKp mo mo' → Mo_thrown mo' = nI 0 → Q (nI c) mo') : p_Mo_least (nI t) mo Q := by
  unfold p_Mo_least
  refine s_ask hM hr ho ht ht (fun G hG => ⟨fun _ => ?_, fun h => absurd h (by decide)⟩)
  have hk := goes_k (thr_k mo 0) G
  exact s_leastM0 (hM.kp hk) (hr.kp hk) ho hG.1 ht (fun c m c1 c2 k1 k2 => hQ c m c1 c2 (hk.trans k1) k2)
end
section
variable {j : Nat} {T : Tab} {R : Rul} {A : Aut} {F : Nat} {te : Te} {ru : Ru} {au : Au} {re : Re} {la : La} {sp : Sp} {le : Le} {mo : Mo} {a1 a2 a3 a4 : Int32}
set_option maxHeartbeats 200000 in
theorem q_11 (h : InvW j T R A F (te, ru, au, re, la, sp, le) mo) : ls_11 a1 a2 a3 a4 te ru au re la sp le mo (Inv (j + 1)) := by
  have hT := h.t
  have hM := h.1.2
  have hn := hM.2.1
  obtain ⟨ho, hru, hrm⟩ := h.2.1
  unfold ls_11 p_Gr_least
  rcases ixc a1 (n := tn T) (by omega) with ⟨t, ht, rfl⟩ | ⟨-, g⟩
  · simp (disch := omega) only [↓mI_e, litI, cLeT, cLeF, cLtT, cLtF, cEqF, cEqT, mE1, mE2, mL1, mL2, mL3, mL4, cIn, nI_clamp, nI_add, cMul, cSub, cM1, nar0, nar1, true_implies, false_implies, not_true_eq_false, not_false_eq_true, true_and, and_true, made_t hT]
    refine s_renew hT hn hru ho h.c (fun re' hg hj hc _ _ => ?_)
    refine s_leastSize hT hn hg ht (fun c gl c1 c2 => ?_)
    refine s_leastM hM hrm ho ht (fun c' m d1 d2 d3 d4 => ?_)
    have e : c = c' := Nat.le_antisymm (c2 c' d1) (d2 c c1)
    rw [e]
    exact ⟨d4, rfl, h.kp d3 hT h.a hc⟩
  · rw [made_f hT g]
    refine ⟨fun h => absurd rfl h, fun _ => ⟨rfl, ?_⟩⟩
    unfold p_Mo_least
    refine s_ask_bad hM (Or.inl g) ?_
    exact ⟨fun h => absurd rfl h, fun _ => ⟨rfl, h.same (thr_k mo _)⟩⟩
end
