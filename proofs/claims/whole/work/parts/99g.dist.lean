/-! distance -/
section
variable {T E : Tab} {R : Rul} {te : Te}
theorem s_levelOf {Q : Int32 → Te → Le → Prop} {ru : Ru} {a t : Nat} (hT48 : tn T ≤ 48) (hT : tTe T te) (hr : rRu R ru) (ho : rOk T R) (ha : a < tn T) (ht : t < tn T) (hR : Rch T R a t) (le : Le) (hQ : ∀ r te' le', dsp T R (den T a) (den T t) r → tTe T te' → Q r te' le') : p_Le_levelOf (nI a) (nI t) te ru le Q := by
  have o := hT.1
  have hL := lvl_of o hR
  unfold p_Le_levelOf p_Te_count
  rw [hT.2.2.1]
  refine s_start (R := R) hT48 hT ha le (fun af il nw cm ct ex wa C hH => ?_)
  -- the answer
  have out : ∀ (r : Int32) (x4 : Int32) (E : Tab) (te' : Te) (af' il' nw' cm' : Nat → Int64) (ct' ex' wa' : Nat → Int32) (C' : Int32), tTe E te' → ext T E → ((∃ l, x4 = nI l ∧ CI T E R (den T a) l te' af' il' nw' ct' ex' C' ∧ ((b0 il' t ∧ dsp T R (den T a) (den T t) (nI l)) ∨ (¬ b0 il' t ∧ False))) ∨ (∃ N, BI T E te' ct' C' N ∧ N < 2 ^ 31 ∧ dsp T R (den T a) (den T t) (-2))) → p_Le_levelOf_111 (nI a) (nI t) ru Q (nI (tn T)) x4 te' (af', ct', ex', il', nw', cm', wa', C') := by
    intro r x4 E te' af' il' nw' cm' ct' ex' wa' C' hE hx hm
    unfold p_Le_levelOf_111
    refine s_keepFirst hE hx.2.1 (fun te2 h2 => ?_)
    have hT2 : tTe T te2 := h2.ag rfl ((tAg_cut E (tn T) (tn T)).symm.trans hx.2.2.symm)
    rcases hm with ⟨l, e1, hC, hd⟩ | ⟨N, hB, hN, hd⟩
    · have c6 := hC.2.2.2.2.2.1
      have c7 := hC.2.2.2.2.2.2.1
      subst c6
      try dsimp only [Le_after, Le_counted, Le_expanded, Le_inLevels, Le_newest, Le_coming, Le_waiting, Le_countedTerms, Le_after_s, Le_counted_s, Le_expanded_s, Le_inLevels_s, Le_newest_s, Le_coming_s, Le_waiting_s, Le_countedTerms_s]
      try simp (disch := omega) only [↓mI_e, litI, cLeT, cLeF, cLtT, cLtF, cEqF, cEqT, mE1, mE2, mL1, mL2, mL3, mL4, cIn, nI_clamp, nI_add, cMul, cSub, cM1, nar0, nar1, true_implies, false_implies, not_true_eq_false, not_false_eq_true, true_and, and_true]
      rw [isIn_il (by omega)]
      rcases hd with ⟨d1, d2⟩ | ⟨-, d2⟩
      · refine ⟨fun q => absurd d1 q, fun _ => ?_⟩
        try simp (disch := omega) only [↓mI_e, litI, cLeT, cLeF, cLtT, cLtF, cEqF, cEqT, mE1, mE2, mL1, mL2, mL3, mL4, cIn, nI_clamp, nI_add, cMul, cSub, cM1, nar0, nar1, true_implies, false_implies, not_true_eq_false, not_false_eq_true, true_and, and_true]
        rw [e1]
        exact hQ _ te2 _ d2 hT2
      · exact d2.elim
    · obtain ⟨c, e1, e2, e3⟩ := hB.2.2.2.2
      subst e1
      try dsimp only [Le_after, Le_counted, Le_expanded, Le_inLevels, Le_newest, Le_coming, Le_waiting, Le_countedTerms, Le_after_s, Le_counted_s, Le_expanded_s, Le_inLevels_s, Le_newest_s, Le_coming_s, Le_waiting_s, Le_countedTerms_s]
      try simp (disch := omega) only [↓mI_e, litI, cLeT, cLeF, cLtT, cLtF, cEqF, cEqT, mE1, mE2, mL1, mL2, mL3, mL4, cIn, nI_clamp, nI_add, cMul, cSub, cM1, nar0, nar1, true_implies, false_implies, not_true_eq_false, not_false_eq_true, true_and, and_true]
      exact hQ _ te2 _ hd hT2
  refine loop_m (fun f (y : Int32 × Te × (Nat → Int64) × (Nat → Int32) × (Nat → Int32) × (Nat → Int64) × (Nat → Int64) × (Nat → Int64) × (Nat → Int32) × Int32) => p_Le_levelOf_16 (nI a) (nI t) ru Q f (nI (tn T)) y.1 y.2.1 y.2.2) (fun y => ∃ l E, y.1 = nI l ∧ l ≤ 400 ∧ (∀ k, k < l → ¬ lvl T R (den T a) k (den T t)) ∧ (HC T E R (den T a) l y.2.1 y.2.2.1 y.2.2.2.2.2.1 y.2.2.2.2.2.2.1 y.2.2.2.1 y.2.2.2.2.1 y.2.2.2.2.2.2.2.2.2 ∨ (BI T E y.2.1 y.2.2.2.1 y.2.2.2.2.2.2.2.2.2 (2 ^ 28) ∧ big (pcl (lvl T R (den T a) l))))) (fun y => 1000 - y.1.toNatClampNeg) ?_ (0, te, af, ct, ex, il, nw, cm, wa, C) ⟨0, T, rfl, by omega, fun k hk => by omega, Or.inl hH⟩
  rintro f ⟨x4, te1, af1, ct1, ex1, il1, nw1, cm1, wa1, C1⟩ ⟨l, E, e1, hl, hno, hm⟩ ih
  dsimp only at e1 hm ih ⊢
  subst e1
  rcases hm with hH1 | ⟨hB, hbig⟩
  · -- so far not too many
    obtain ⟨hC, hs⟩ := hH1
    have hC0 := hC
    obtain ⟨k1, k2, k3, k4, k5, k6, k7, k8, k9, k10, k11, k12, k13⟩ := hC
    have hn := k1.2.1
    have nb := hC0.nb
    have hTE := k2.2.1
    have dtE := den_ext k2 ht
    have inl : b0 il1 t ↔ lvl T R (den T a) l (den T t) := by
      constructor
      · intro q
        have := (k12.1 t (by omega) q).2
        rw [dtE] at this
        exact this
      · intro q
        obtain ⟨k, q1, q2, q3⟩ := k12.2 _ q
        have : k = t := den_inj k1.1 q1 (by omega) (by rw [q3, dtE])
        subst this
        exact q2
    have yes : b0 il1 t → dsp T R (den T a) (den T t) (nI l) := fun q => Or.inl ⟨l, inl.mp q, hno, nb, rfl⟩
    have no : ¬ b0 il1 t → l + 1 ≤ 400 := fun q => lvl_lt hL (fun k => q (inl.mpr k)) nb
    unfold p_Le_levelOf_16
    by_cases h400 : l = 400
    · subst h400
      try simp (disch := omega) only [↓mI_e, litI, cLeT, cLeF, cLtT, cLtF, cEqF, cEqT, mE1, mE2, mL1, mL2, mL3, mL4, cIn, nI_clamp, nI_add, cMul, cSub, cM1, nar0, nar1, true_implies, false_implies, not_true_eq_false, not_false_eq_true, true_and, and_true]
      refine out (nI 0) _ E te1 af1 il1 nw1 cm1 ct1 ex1 wa1 C1 k1 k2 (Or.inl ⟨400, rfl, hC0, ?_⟩)
      by_cases q : b0 il1 t
      · exact Or.inl ⟨q, yes q⟩
      · have := no q
        omega
    · subst k6
      try dsimp only [Le_after, Le_counted, Le_expanded, Le_inLevels, Le_newest, Le_coming, Le_waiting, Le_countedTerms, Le_after_s, Le_counted_s, Le_expanded_s, Le_inLevels_s, Le_newest_s, Le_coming_s, Le_waiting_s, Le_countedTerms_s]
      try simp (disch := omega) only [↓mI_e, litI, cLeT, cLeF, cLtT, cLtF, cEqF, cEqT, mE1, mE2, mL1, mL2, mL3, mL4, cIn, nI_clamp, nI_add, cMul, cSub, cM1, nar0, nar1, true_implies, false_implies, not_true_eq_false, not_false_eq_true, true_and, and_true]
      rw [isIn_il (by omega)]
      refine ⟨fun q => ?_, fun q => ?_⟩
      · try simp (disch := omega) only [↓mI_e, litI, cLeT, cLeF, cLtT, cLtF, cEqF, cEqT, mE1, mE2, mL1, mL2, mL3, mL4, cIn, nI_clamp, nI_add, cMul, cSub, cM1, nar0, nar1, true_implies, false_implies, not_true_eq_false, not_false_eq_true, true_and, and_true]
        have hl1 := no q
        have hnl : ¬ lvl T R (den T a) l (den T t) := fun k => q (inl.mpr k)
        have hno' : ∀ k, k < l + 1 → ¬ lvl T R (den T a) k (den T t) := fun k hk r => hnl (lvl_up (by omega) r)
        refine s_wait k1 (fun m wa' w1 w2 w3 w4 => ?_)
        -- the terms that wait, one behind the other
        refine forN (fun f' i (y : Te × (Nat → Int64) × (Nat → Int32) × (Nat → Int32) × Int32) => p_Le_levelOf_54 (nI a) (nI t) ru Q (fun a0 a1 a2 a3 => p_Le_levelOf_16 (nI a) (nI t) ru Q f a0 a1 a2 a3) f' (nI (tn T)) (nI l) (nI m) i y.1 (y.2.1, y.2.2.1, y.2.2.2.1, il1, nw1, cm1, wa', y.2.2.2.2)) (fun i y => ∃ V, ((ext E V ∧ CI T V R (den T a) l y.1 y.2.1 il1 nw1 y.2.2.1 y.2.2.2.1 y.2.2.2.2 ∧ (∀ k, gc ct1 k → gc y.2.2.1 k) ∧ (∀ k, gc ex1 k → gc y.2.2.2.1 k) ∧ ∀ q v, q < i → wa' q = nI v → v < 448 → gc y.2.2.2.1 v) ∨ (BI T V y.1 y.2.2.1 y.2.2.2.2 (2 ^ 28) ∧ big (pcl (lvl T R (den T a) (l + 1)))))) m 0 (te1, af1, ct1, ex1, nI (cN (gc ct1) (tn E))) (by omega) ⟨E, Or.inl ⟨ext.rf k1.1, hC0, fun k b => b, fun k b => b, fun q v hq => by omega⟩⟩ ?_ ?_
        · rintro f' ⟨te2, af2, ct2, ex2, C2⟩ ⟨V, hm⟩
          dsimp only at hm ⊢
          unfold p_Le_levelOf_54 p_Le_levelOf_101
          try simp (disch := omega) only [↓mI_e, litI, cLeT, cLeF, cLtT, cLtF, cEqF, cEqT, mE1, mE2, mL1, mL2, mL3, mL4, cIn, nI_clamp, nI_add, cMul, cSub, cM1, nar0, nar1, true_implies, false_implies, not_true_eq_false, not_false_eq_true, true_and, and_true]
          rcases hm with ⟨hV, m1, m2, m3, m4⟩ | ⟨m1, m2⟩
          · refine s_goOn m1.1 (fun il' nw' cm' g1 g2 => ?_)
            have hx : ∀ i, i < tn V → pcl (lvl T R (den T a) l) (den V i) → gc ex2 i := by
              intro i hi hp
              obtain ⟨i', a1, a2, a3⟩ := hC0.cov hp
              rw [← den_ext hV a1] at a3
              have hVn := hV.2.1
              have e : i' = i := den_inj m1.1.1 (by omega) hi a3
              subst e
              by_cases hex : gc ex1 i'
              · exact m3 i' hex
              · obtain ⟨q, q1, q2⟩ := w4 i' a1 a2 hex
                exact m4 q i' q1 q2 (by omega)
            refine ih (nI (l + 1), te2, af2, ct2, ex2, il', nw', cm', wa', C2) ⟨l + 1, V, rfl, hl1, hno', Or.inl (m1.nxt hx g1 g2)⟩ ?_
            try dsimp only [Le_after, Le_counted, Le_expanded, Le_inLevels, Le_newest, Le_coming, Le_waiting, Le_countedTerms, Le_after_s, Le_counted_s, Le_expanded_s, Le_inLevels_s, Le_newest_s, Le_coming_s, Le_waiting_s, Le_countedTerms_s]
            rw [nI_clamp (by omega), nI_clamp (by omega)]
            omega
          · refine s_goOn m1.1 (fun il' nw' cm' g1 g2 => ?_)
            refine ih (nI (l + 1), te2, af2, ct2, ex2, il', nw', cm', wa', C2) ⟨l + 1, V, rfl, hl1, hno', Or.inr ⟨m1, m2⟩⟩ ?_
            try dsimp only [Le_after, Le_counted, Le_expanded, Le_inLevels, Le_newest, Le_coming, Le_waiting, Le_countedTerms, Le_after_s, Le_counted_s, Le_expanded_s, Le_inLevels_s, Le_newest_s, Le_coming_s, Le_waiting_s, Le_countedTerms_s]
            rw [nI_clamp (by omega), nI_clamp (by omega)]
            omega
        · rintro f' i ⟨te2, af2, ct2, ex2, C2⟩ hi ⟨V, hm⟩ ih2
          dsimp only at hm ih2 ⊢
          unfold p_Le_levelOf_54
          try simp (disch := omega) only [↓mI_e, litI, cLeT, cLeF, cLtT, cLtF, cEqF, cEqT, mE1, mE2, mL1, mL2, mL3, mL4, cIn, nI_clamp, nI_add, cMul, cSub, cM1, nar0, nar1, true_implies, false_implies, not_true_eq_false, not_false_eq_true, true_and, and_true]
          rcases hm with ⟨hV, m1, m2, m3, m4⟩ | ⟨m1, m2⟩
          · have m10 := m1
            have d6 := m1.2.2.2.2.2.1
            have d7 := m1.2.2.2.2.2.2.1
            subst d6
            obtain ⟨v, v1, v2, v3, v4⟩ := w2 i hi
            have hVn := hV.2.1
            have V448 := m1.1.2.1
            obtain ⟨u1, u2, u3, u4⟩ := hV.f v2
            have ov := k1.1.2.2 v v2
            -- its parts have been dealt with
            have prt0 : ∀ p, p < v → gc ct1 p → gc ex2 p := by
              intro p hp hc
              by_cases hex : gc ex1 p
              · exact m3 p hex
              · obtain ⟨q, q1, q2⟩ := w4 p (by omega) hc hex
                have hqi : q < i := by
                  refine Classical.byContradiction (fun hq => ?_)
                  by_cases eq : q = i
                  · subst eq
                    rw [q2] at v1
                    have := (nI_eq (by omega) (by omega)).mp v1
                    omega
                  · have := w3 i q (by omega) q1
                    rw [v1, q2, nI_clamp (by omega), nI_clamp (by omega)] at this
                    omega
                exact m4 q p hqi q2 (by omega)
            try dsimp only [Le_after, Le_counted, Le_expanded, Le_inLevels, Le_newest, Le_coming, Le_waiting, Le_countedTerms, Le_after_s, Le_counted_s, Le_expanded_s, Le_inLevels_s, Le_newest_s, Le_coming_s, Le_waiting_s, Le_countedTerms_s]
            try simp (disch := omega) only [↓mI_e, litI, cLeT, cLeF, cLtT, cLtF, cEqF, cEqT, mE1, mE2, mL1, mL2, mL3, mL4, cIn, nI_clamp, nI_add, cMul, cSub, cM1, nar0, nar1, true_implies, false_implies, not_true_eq_false, not_false_eq_true, true_and, and_true]
            rw [v1]
            refine s_expand hT48 hr ho m10 (show v < tn V by omega) (m2 v v3) (by rw [den_ext hV v2]; exact hs v v2 v3) ⟨fun b => ?_, fun b => ?_⟩ (fun W te3 af3 ct3 C3 z1 z2 z3 z4 => ?_) (fun W te3 af3 ct3 C3 z1 z2 => ?_)
            · rw [u3]
              exact prt0 _ (by omega) ((k3 v v2 v3).1 (by omega))
            · rw [u4]
              exact prt0 _ (by omega) ((k3 v v2 v3).2 (by omega))
            · dsimp only
              rw [v1]
              try simp (disch := omega) only [↓mI_e, litI, cLeT, cLeF, cLtT, cLtF, cEqF, cEqT, mE1, mE2, mL1, mL2, mL3, mL4, cIn, nI_clamp, nI_add, cMul, cSub, cM1, nar0, nar1, true_implies, false_implies, not_true_eq_false, not_false_eq_true, true_and, and_true]
              refine nm_e ?_
              try dsimp only [Le_after, Le_counted, Le_expanded, Le_inLevels, Le_newest, Le_coming, Le_waiting, Le_countedTerms, Le_after_s, Le_counted_s, Le_expanded_s, Le_inLevels_s, Le_newest_s, Le_coming_s, Le_waiting_s, Le_countedTerms_s]
              have hW := z2.2.1
              refine ih2 (te3, af3, ct3, upd ex2 v (nI 1), C3) ⟨W, Or.inl ⟨hV.tr z2, z1.exp (by omega) (z3 v (m2 v v3)) z4, fun k b => z3 k (m2 k b), fun k b => gc_upd.mpr (Or.inl (m3 k b)), fun q w hq hw hw4 => ?_⟩⟩
              by_cases eq : q = i
              · subst eq
                rw [v1] at hw
                have := (nI_eq (by omega) (by omega)).mp hw
                exact gc_upd.mpr (Or.inr this.symm)
              · exact gc_upd.mpr (Or.inl (m4 q w (by omega) hw hw4))
            · dsimp only
              rw [v1]
              try simp (disch := omega) only [↓mI_e, litI, cLeT, cLeF, cLtT, cLtF, cEqF, cEqT, mE1, mE2, mL1, mL2, mL3, mL4, cIn, nI_clamp, nI_add, cMul, cSub, cM1, nar0, nar1, true_implies, false_implies, not_true_eq_false, not_false_eq_true, true_and, and_true]
              refine nm_e ?_
              try dsimp only [Le_after, Le_counted, Le_expanded, Le_inLevels, Le_newest, Le_coming, Le_waiting, Le_countedTerms, Le_after_s, Le_counted_s, Le_expanded_s, Le_inLevels_s, Le_newest_s, Le_coming_s, Le_waiting_s, Le_countedTerms_s]
              exact ih2 (te3, af3, ct3, upd ex2 v (nI 1), C3) ⟨W, Or.inr ⟨z1, z2⟩⟩
          · obtain ⟨c, d1, d2, d3⟩ := m1.2.2.2.2
            subst d1
            try dsimp only [Le_after, Le_counted, Le_expanded, Le_inLevels, Le_newest, Le_coming, Le_waiting, Le_countedTerms, Le_after_s, Le_counted_s, Le_expanded_s, Le_inLevels_s, Le_newest_s, Le_coming_s, Le_waiting_s, Le_countedTerms_s]
            try simp (disch := omega) only [↓mI_e, litI, cLeT, cLeF, cLtT, cLtF, cEqF, cEqT, mE1, mE2, mL1, mL2, mL3, mL4, cIn, nI_clamp, nI_add, cMul, cSub, cM1, nar0, nar1, true_implies, false_implies, not_true_eq_false, not_false_eq_true, true_and, and_true]
            unfold p_Le_levelOf_101
            try simp (disch := omega) only [↓mI_e, litI, cLeT, cLeF, cLtT, cLtF, cEqF, cEqT, mE1, mE2, mL1, mL2, mL3, mL4, cIn, nI_clamp, nI_add, cMul, cSub, cM1, nar0, nar1, true_implies, false_implies, not_true_eq_false, not_false_eq_true, true_and, and_true]
            refine s_goOn m1.1 (fun il' nw' cm' g1 g2 => ?_)
            refine ih (nI (l + 1), te2, af2, ct2, ex2, il', nw', cm', wa', nI c) ⟨l + 1, V, rfl, hl1, hno', Or.inr ⟨m1, m2⟩⟩ ?_
            try dsimp only [Le_after, Le_counted, Le_expanded, Le_inLevels, Le_newest, Le_coming, Le_waiting, Le_countedTerms, Le_after_s, Le_counted_s, Le_expanded_s, Le_inLevels_s, Le_newest_s, Le_coming_s, Le_waiting_s, Le_countedTerms_s]
            rw [nI_clamp (by omega), nI_clamp (by omega)]
            omega
      · try simp (disch := omega) only [↓mI_e, litI, cLeT, cLeF, cLtT, cLtF, cEqF, cEqT, mE1, mE2, mL1, mL2, mL3, mL4, cIn, nI_clamp, nI_add, cMul, cSub, cM1, nar0, nar1, true_implies, false_implies, not_true_eq_false, not_false_eq_true, true_and, and_true]
        exact out (nI 0) _ E te1 af1 il1 nw1 cm1 ct1 ex1 wa1 _ k1 k2 (Or.inl ⟨l, rfl, hC0, Or.inl ⟨q, yes q⟩⟩)
  · -- too many
    have fin : p_Le_levelOf_111 (nI a) (nI t) ru Q (nI (tn T)) (nI l) te1 (af1, ct1, ex1, il1, nw1, cm1, wa1, C1) := out (nI 0) _ E te1 af1 il1 nw1 cm1 ct1 ex1 wa1 C1 hB.1 hB.2.1 (Or.inr ⟨2 ^ 28, hB, by omega, Or.inr ⟨rfl, l, hno, hbig⟩⟩)
    obtain ⟨c, d1, d2, d3⟩ := hB.2.2.2.2
    subst d1
    unfold p_Le_levelOf_16
    try dsimp only [Le_after, Le_counted, Le_expanded, Le_inLevels, Le_newest, Le_coming, Le_waiting, Le_countedTerms, Le_after_s, Le_counted_s, Le_expanded_s, Le_inLevels_s, Le_newest_s, Le_coming_s, Le_waiting_s, Le_countedTerms_s]
    try simp (disch := omega) only [↓mI_e, litI, cLeT, cLeF, cLtT, cLtF, cEqF, cEqT, mE1, mE2, mL1, mL2, mL3, mL4, cIn, nI_clamp, nI_add, cMul, cSub, cM1, nar0, nar1, true_implies, false_implies, not_true_eq_false, not_false_eq_true, true_and, and_true]
    exact ⟨fun _ => fin, fun _ => fin⟩
end
theorem InvW.updR {j : Nat} {T : Tab} {R : Rul} {A : Aut} {F : Nat} {te te' : Te} {ru : Ru} {au : Au} {re re' : Re} {la : La} {sp : Sp} {le le' : Le} {mo mo' : Mo} (h : InvW j T R A F (te, ru, au, re, la, sp, le) mo) (hte : tTe T te') (hmo : tMo T mo') (k : mKr mo mo') (hc : cache j T R ru re') : Inv (j + 1) (te', ru, au, re', la, sp, le') mo' := by
  obtain ⟨⟨h1, h2⟩, ⟨h3, h4, h5⟩, ⟨h6, h7, h8, h9⟩, h10⟩ := h
  exact ⟨T, R, A, F, ⟨hte, hmo⟩, ⟨h3, h4, h5.kr k⟩, ⟨h6, h7, h8, h9.kr k rfl⟩, hc.nx⟩
section
variable {j : Nat} {T : Tab} {R : Rul} {A : Aut} {F : Nat} {te : Te} {ru : Ru} {au : Au} {re : Re} {la : La} {sp : Sp} {le : Le} {mo : Mo} {a1 a2 a3 a4 : Int32}
theorem q_14 (h : InvW j T R A F (te, ru, au, re, la, sp, le) mo) : ls_14 a1 a2 a3 a4 te ru au re la sp le mo (Inv (j + 1)) := by
  have hT := h.t
  have hM := h.1.2
  have hn := hM.2.1
  obtain ⟨ho, hru, hrm⟩ := h.2.1
  unfold ls_14 p_Gr_distance
  rcases two_or (n := tn T) (by omega) a1 a2 with ⟨s, t, hs, ht, rfl, rfl⟩ | hb
  · try simp (disch := omega) only [↓mI_e, litI, cLeT, cLeF, cLtT, cLtF, cEqF, cEqT, mE1, mE2, mL1, mL2, mL3, mL4, cIn, nI_clamp, nI_add, cMul, cSub, cM1, nar0, nar1, true_implies, false_implies, not_true_eq_false, not_false_eq_true, true_and, and_true, made_t hT]
    refine s_renew hT hn hru ho h.c (fun re' hg hj hc _ _ => ?_)
    rw [s_leads (by omega) (by omega)]
    refine ⟨fun k => ?_, fun k => ?_⟩
    · have hR : ¬ Rch T R s t := fun q => k ((hg s t hs).mpr ⟨ht, q⟩)
      try simp (disch := omega) only [↓mI_e, litI, cLeT, cLeF, cLtT, cLtF, cEqF, cEqT, mE1, mE2, mL1, mL2, mL3, mL4, cIn, nI_clamp, nI_add, cMul, cSub, cM1, nar0, nar1, true_implies, false_implies, not_true_eq_false, not_false_eq_true, true_and, and_true]
      refine s_distM hM hrm ho hs ht (fun q => absurd q hR) (fun _ m m1 m2 m3 => ⟨m3, rfl, h.updR hT m1 m2 hc⟩)
    · have hR : Rch T R s t := ((hg s t hs).mp k).2
      try simp (disch := omega) only [↓mI_e, litI, cLeT, cLeF, cLtT, cLtF, cEqF, cEqT, mE1, mE2, mL1, mL2, mL3, mL4, cIn, nI_clamp, nI_add, cMul, cSub, cM1, nar0, nar1, true_implies, false_implies, not_true_eq_false, not_false_eq_true, true_and, and_true]
      refine s_levelOf hn hT hru ho hs ht hR le (fun r te' le' hd hte' => ?_)
      refine s_distM hM hrm ho hs ht (fun _ r' m hd' m1 m2 m3 => ⟨m3, ?_, h.updR hte' m1 m2 hc⟩) (fun q => absurd hR q)
      rw [hd.uniq hd']
  · have k : (xIA = xIA) ∧ p_Mo_distance a1 a2 mo (fun b mo' => p_Mo_thrown mo' (fun t => t = (1 : Int32) ∧ Inv (j + 1) (te, ru, au, re, la, sp, le) mo')) := by
      refine ⟨rfl, ?_⟩
      unfold p_Mo_distance
      refine s_ask_bad hM hb ?_
      try simp (disch := omega) only [↓mI_e, litI, cLeT, cLeF, cLtT, cLtF, cEqF, cEqT, mE1, mE2, mL1, mL2, mL3, mL4, cIn, nI_clamp, nI_add, cMul, cSub, cM1, nar0, nar1, true_implies, false_implies, not_true_eq_false, not_false_eq_true, true_and, and_true]
      exact ⟨rfl, h.same (thr_k mo _)⟩
    rcases hb with hb | ⟨s, hs, rfl, hb⟩
    · rw [made_f hT hb]
      exact ⟨fun _ => k, fun h => absurd rfl h⟩
    · rw [made_t hT hs, made_f hT hb]
      exact ⟨fun h => absurd h (by decide), fun _ => ⟨fun h => absurd rfl h, fun _ => k⟩⟩
end
