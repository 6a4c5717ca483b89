/-! level after level -/
section
variable {T E : Tab} {R : Rul} {s l : Nat} {te : Te} {af il nw cm : Nat → Int64} {ct ex wa : Nat → Int32} {C : Int32}
theorem s_wait {Q : Int32 → Le → Prop} (hT : tTe E te) (hQ : ∀ m wa', m ≤ tn E → (∀ q, q < m → ∃ v, wa' q = nI v ∧ v < tn E ∧ gc ct v ∧ ¬ gc ex v) → (∀ q q', q < q' → q' < m → (wa' q).toNatClampNeg < (wa' q').toNatClampNeg) → (∀ v, v < tn E → gc ct v → ¬ gc ex v → ∃ q, q < m ∧ wa' q = nI v) → Q (nI m) (af, ct, ex, il, nw, cm, wa', C)) : p_Le_findWaiting te (af, ct, ex, il, nw, cm, wa, C) Q := by
  have hn := hT.2.1
  unfold p_Le_findWaiting
  refine forN (fun f i (y : Int32 × (Nat → Int32)) => p_Le_findWaiting_4 te Q f y.1 i (af, ct, ex, il, nw, cm, y.2, C)) (fun i y => ∃ m, y.1 = nI m ∧ m ≤ i ∧ (∀ q, q < m → ∃ v, y.2 q = nI v ∧ v < i ∧ gc ct v ∧ ¬ gc ex v) ∧ (∀ q q', q < q' → q' < m → (y.2 q).toNatClampNeg < (y.2 q').toNatClampNeg) ∧ (∀ v, v < i → gc ct v → ¬ gc ex v → ∃ q, q < m ∧ y.2 q = nI v)) (tn E) 0 (0, wa) (by omega) ⟨0, rfl, by omega, fun q hq => by omega, fun q q' _ hq => by omega, fun v hv => by omega⟩ ?_ ?_
  · rintro f ⟨x1, wa'⟩ ⟨m, e, h1, h2, h3, h4⟩
    dsimp only at e h2 h3 h4 ⊢
    subst e
    unfold p_Le_findWaiting_4 p_Te_count
    rw [hT.2.2.1]
    try simp (disch := omega) only [↓mI_e, litI, cLeT, cLeF, cLtT, cLtF, cEqF, cEqT, mE1, mE2, mL1, mL2, mL3, mL4, cIn, nI_clamp, nI_add, cMul, cSub, cM1, nar0, nar1, true_implies, false_implies, not_true_eq_false, not_false_eq_true, true_and, and_true]
    exact hQ m wa' h1 h2 h3 h4
  · rintro f i ⟨x1, wa'⟩ hi ⟨m, e, h1, h2, h3, h4⟩ ih
    dsimp only at e h2 h3 h4 ih ⊢
    subst e
    unfold p_Le_findWaiting_4 p_Te_count
    rw [hT.2.2.1]
    try simp (disch := omega) only [↓mI_e, litI, cLeT, cLeF, cLtT, cLtF, cEqF, cEqT, mE1, mE2, mL1, mL2, mL3, mL4, cIn, nI_clamp, nI_add, cMul, cSub, cM1, nar0, nar1, true_implies, false_implies, not_true_eq_false, not_false_eq_true, true_and, and_true]
    have skip : ¬ (gc ct i ∧ ¬ gc ex i) → p_Le_findWaiting_4 te Q f (nI m) (nI (i + 1)) (af, ct, ex, il, nw, cm, wa', C) := by
      intro hs
      refine ih (nI m, wa') ⟨m, rfl, by omega, fun q hq => ?_, h3, fun v hv a b => ?_⟩
      · obtain ⟨v, a1, a2, a3⟩ := h2 q hq
        exact ⟨v, a1, by omega, a3⟩
      · by_cases e : v = i
        · subst e; exact absurd ⟨a, b⟩ hs
        · exact h4 v (by omega) a b
    refine ⟨fun a => skip (fun k => k.1 a), fun a => ⟨fun b => skip (fun k => k.2 b), fun b => ?_⟩⟩
    refine nm_e ?_
    try dsimp only [Le_after, Le_counted, Le_expanded, Le_inLevels, Le_newest, Le_coming, Le_waiting, Le_countedTerms, Le_after_s, Le_counted_s, Le_expanded_s, Le_inLevels_s, Le_newest_s, Le_coming_s, Le_waiting_s, Le_countedTerms_s]
    refine ih (nI (m + 1), upd wa' m (nI i)) ⟨m + 1, rfl, by omega, fun q hq => ?_, fun q q' hq hq' => ?_, fun v hv c d => ?_⟩
    · dsimp only
      by_cases e : q = m
      · rw [upd_s e]
        exact ⟨i, rfl, by omega, a, fun k => k b⟩
      · rw [upd_n e]
        obtain ⟨v, a1, a2, a3⟩ := h2 q (by omega)
        exact ⟨v, a1, by omega, a3⟩
    · dsimp only
      by_cases e : q' = m
      · rw [upd_n (show q ≠ m by omega), upd_s e]
        obtain ⟨v, a1, a2, a3⟩ := h2 q (by omega)
        rw [a1, nI_clamp (by omega), nI_clamp (by omega)]
        exact a2
      · rw [upd_n (show q ≠ m by omega), upd_n e]
        exact h3 q q' hq (by omega)
    · dsimp only
      by_cases e : v = i
      · exact ⟨m, by omega, by rw [upd_s rfl, e]⟩
      · obtain ⟨q, q1, q2⟩ := h4 v (by omega) c d
        exact ⟨q, by omega, by rw [upd_n (by omega)]; exact q2⟩
theorem s_goOn {Q : Le → Prop} (hT : tTe E te) (hQ : ∀ il' nw' cm', (∀ k, k < 448 → (b0 nw' k ↔ (∃ t, t < tn E ∧ b0 nw t ∧ bt af t k) ∧ ¬ b0 il k)) → (∀ k, k < 448 → (b0 il' k ↔ b0 il k ∨ b0 nw' k)) → Q (af, ct, ex, il', nw', cm', wa, C)) : p_Le_goOn te (af, ct, ex, il, nw, cm, wa, C) Q := by
  have hn := hT.2.1
  unfold p_Le_goOn p_Ar_fillJ_coming
  -- the end: new ones, and all
  have at74 : ∀ cm1 : Nat → Int64, (∀ v, v < 7 → ∀ j, (bl (cm1 v) j ↔ ∃ t, t < tn E ∧ b0 nw t ∧ bl (af (t * 7 + v)) j)) → ∃ f, p_Le_goOn_74 te Q f (0 : Int32) (af, ct, ex, il, nw, cm1, wa, C) := by
    intro cm1 hcm
    refine forN (fun f i (y : (Nat → Int64) × (Nat → Int64)) => p_Le_goOn_74 te Q f i (af, ct, ex, y.1, y.2, cm1, wa, C)) (fun i y => (∀ v, i ≤ v → y.1 v = il v) ∧ ∀ v, v < i → ∀ j, j < 64 → (bl (y.2 v) j ↔ bl (cm1 v) j ∧ ¬ bl (il v) j) ∧ (bl (y.1 v) j ↔ bl (il v) j ∨ bl (y.2 v) j)) 7 0 (il, nw) (by omega) ⟨fun v _ => rfl, fun v hv => by omega⟩ ?_ ?_
    · rintro f ⟨il', nw'⟩ ⟨h1, h2⟩
      dsimp only at h1 h2 ⊢
      unfold p_Le_goOn_74
      try simp (disch := omega) only [↓mI_e, litI, cLeT, cLeF, cLtT, cLtF, cEqF, cEqT, mE1, mE2, mL1, mL2, mL3, mL4, cIn, nI_clamp, nI_add, cMul, cSub, cM1, nar0, nar1, true_implies, false_implies, not_true_eq_false, not_false_eq_true, true_and, and_true]
      refine hQ il' nw' cm1 (fun k hk => ?_) (fun k hk => ?_)
      · unfold b0
        rw [(h2 (k / 64) (by omega) (k % 64) (by omega)).1, hcm (k / 64) (by omega)]
        exact Iff.rfl
      · exact (h2 (k / 64) (by omega) (k % 64) (by omega)).2
    · rintro f i ⟨il', nw'⟩ hi ⟨h1, h2⟩ ih
      dsimp only at h1 h2 ih ⊢
      unfold p_Le_goOn_74
      try simp (disch := omega) only [↓mI_e, litI, cLeT, cLeF, cLtT, cLtF, cEqF, cEqT, mE1, mE2, mL1, mL2, mL3, mL4, cIn, nI_clamp, nI_add, cMul, cSub, cM1, nar0, nar1, true_implies, false_implies, not_true_eq_false, not_false_eq_true, true_and, and_true]
      refine nm_e ?_
      try dsimp only [Le_after, Le_counted, Le_expanded, Le_inLevels, Le_newest, Le_coming, Le_waiting, Le_countedTerms, Le_after_s, Le_counted_s, Le_expanded_s, Le_inLevels_s, Le_newest_s, Le_coming_s, Le_waiting_s, Le_countedTerms_s]
      refine nm_e ?_
      try dsimp only [Le_after, Le_counted, Le_expanded, Le_inLevels, Le_newest, Le_coming, Le_waiting, Le_countedTerms, Le_after_s, Le_counted_s, Le_expanded_s, Le_inLevels_s, Le_newest_s, Le_coming_s, Le_waiting_s, Le_countedTerms_s]
      refine ih (vp_updL il' i (il' i ||| vp_updL nw' i (cm1 i &&& (il' i ^^^ (-1 : Int64))) i), vp_updL nw' i (cm1 i &&& (il' i ^^^ (-1 : Int64)))) ⟨fun v hv => ?_, fun v hv j hj => ?_⟩
      · dsimp only
        rw [updL_n (by omega)]
        exact h1 v (by omega)
      · dsimp only
        by_cases e : v = i
        · subst e
          rw [updL_s rfl, updL_s rfl, bl_or, bl_and, bl_not _ hj, h1 v (Nat.le_refl _)]
          exact ⟨Iff.rfl, Iff.rfl⟩
        · rw [updL_n e, updL_n e]
          exact h2 v (by omega) j hj
  -- the rows of the newest ones
  have at10 : ∀ cm0 : Nat → Int64, (∀ v, v < 7 → cm0 v = 0) → ∃ f, p_Le_goOn_10 te Q f (0 : Int32) (af, ct, ex, il, nw, cm0, wa, C) := by
    intro cm0 hz
    refine forN (fun f i (y : Nat → Int64) => p_Le_goOn_10 te Q f i (af, ct, ex, il, nw, y, wa, C)) (fun i y => ∀ v, v < 7 → ∀ j, (bl (y v) j ↔ ∃ t, t < i ∧ b0 nw t ∧ bl (af (t * 7 + v)) j)) (tn E) 0 cm0 (by omega) (fun v hv j => ?_) ?_ ?_
    · rw [hz v hv]
      exact ⟨fun k => absurd k (bl_0 j), fun ⟨t, h, _⟩ => by omega⟩
    · intro f y hy
      unfold p_Le_goOn_10 p_Te_count
      rw [hT.2.2.1]
      try simp (disch := omega) only [↓mI_e, litI, cLeT, cLeF, cLtT, cLtF, cEqF, cEqT, mE1, mE2, mL1, mL2, mL3, mL4, cIn, nI_clamp, nI_add, cMul, cSub, cM1, nar0, nar1, true_implies, false_implies, not_true_eq_false, not_false_eq_true, true_and, and_true]
      exact at74 y hy
    · intro f i y hi hy ih
      unfold p_Le_goOn_10 p_Te_count
      rw [hT.2.2.1]
      try simp (disch := omega) only [↓mI_e, litI, cLeT, cLeF, cLtT, cLtF, cEqF, cEqT, mE1, mE2, mL1, mL2, mL3, mL4, cIn, nI_clamp, nI_add, cMul, cSub, cM1, nar0, nar1, true_implies, false_implies, not_true_eq_false, not_false_eq_true, true_and, and_true]
      refine forN (fun f' w (y2 : Nat → Int64) => p_Le_goOn_23 te Q (fun a0 a1 => p_Le_goOn_10 te Q f a0 a1) f' (nI i) w (af, ct, ex, il, nw, y2, wa, C)) (fun w y2 => (w = 0 ∨ b0 nw i) ∧ ∀ v, v < 7 → ∀ j, (bl (y2 v) j ↔ bl (y v) j ∨ (v < w ∧ bl (af (i * 7 + v)) j))) 7 0 y (by omega) ⟨Or.inl rfl, fun v hv j => ⟨Or.inl, fun k => k.elim id (fun k => by omega)⟩⟩ ?_ ?_
      · rintro f' y2 ⟨h0, h1⟩
        unfold p_Le_goOn_23
        try simp (disch := omega) only [↓mI_e, litI, cLeT, cLeF, cLtT, cLtF, cEqF, cEqT, mE1, mE2, mL1, mL2, mL3, mL4, cIn, nI_clamp, nI_add, cMul, cSub, cM1, nar0, nar1, true_implies, false_implies, not_true_eq_false, not_false_eq_true, true_and, and_true]
        refine ih y2 (fun v hv j => ?_)
        rw [h1 v hv j, hy v hv j]
        have hb : b0 nw i := h0.elim (fun k => by omega) id
        constructor
        · rintro (⟨t, a1, a2⟩ | ⟨a1, a2⟩)
          · exact ⟨t, by omega, a2⟩
          · exact ⟨i, by omega, hb, a2⟩
        · rintro ⟨t, a1, a2, a3⟩
          by_cases e : t = i
          · subst e; exact Or.inr ⟨hv, a3⟩
          · exact Or.inl ⟨t, by omega, a2, a3⟩
      · rintro f' w y2 hw ⟨h0, h1⟩ ih2
        unfold p_Le_goOn_23
        try simp (disch := omega) only [↓mI_e, litI, cLeT, cLeF, cLtT, cLtF, cEqF, cEqT, mE1, mE2, mL1, mL2, mL3, mL4, cIn, nI_clamp, nI_add, cMul, cSub, cM1, nar0, nar1, true_implies, false_implies, not_true_eq_false, not_false_eq_true, true_and, and_true]
        rw [isIn_nw (by omega)]
        refine ⟨fun hb => ?_, fun hb => ?_⟩
        · try simp (disch := omega) only [↓mI_e, litI, cLeT, cLeF, cLtT, cLtF, cEqF, cEqT, mE1, mE2, mL1, mL2, mL3, mL4, cIn, nI_clamp, nI_add, cMul, cSub, cM1, nar0, nar1, true_implies, false_implies, not_true_eq_false, not_false_eq_true, true_and, and_true]
          have hw0 : w = 0 := h0.elim id (fun k => absurd k hb)
          subst hw0
          refine ih y2 (fun v hv j => ?_)
          rw [h1 v hv j, hy v hv j]
          constructor
          · rintro (⟨t, a1, a2⟩ | ⟨a1, a2⟩)
            · exact ⟨t, by omega, a2⟩
            · omega
          · rintro ⟨t, a1, a2, a3⟩
            by_cases e : t = i
            · subst e; exact absurd a2 hb
            · exact Or.inl ⟨t, by omega, a2, a3⟩
        · try simp (disch := omega) only [↓mI_e, litI, cLeT, cLeF, cLtT, cLtF, cEqF, cEqT, mE1, mE2, mL1, mL2, mL3, mL4, cIn, nI_clamp, nI_add, cMul, cSub, cM1, nar0, nar1, true_implies, false_implies, not_true_eq_false, not_false_eq_true, true_and, and_true]
          refine nm_e ?_
          try dsimp only [Le_after, Le_counted, Le_expanded, Le_inLevels, Le_newest, Le_coming, Le_waiting, Le_countedTerms, Le_after_s, Le_counted_s, Le_expanded_s, Le_inLevels_s, Le_newest_s, Le_coming_s, Le_waiting_s, Le_countedTerms_s]
          refine ih2 _ ⟨Or.inr hb, fun v hv j => ?_⟩
          by_cases e : v = w
          · subst e
            rw [updL_s rfl, bl_or, h1 v hv j]
            constructor
            · rintro ((a | a) | a)
              · exact Or.inl a
              · omega
              · exact Or.inr ⟨by omega, a⟩
            · rintro (a | a)
              · exact Or.inl (Or.inl a)
              · exact Or.inr a.2
          · rw [updL_n e, h1 v hv j]
            constructor
            · rintro (a | a)
              · exact Or.inl a
              · exact Or.inr ⟨by omega, a.2⟩
            · rintro (a | a)
              · exact Or.inl a
              · exact Or.inr ⟨by omega, a.2⟩
  refine forN (fun f i (y : Nat → Int64) => p_Ar_fillJ_coming_6 (0 : Int64) (fun le5 => (∃ f, p_Le_goOn_10 te Q f (0 : Int32) le5)) f i (7 : Int32) (af, ct, ex, il, nw, y, wa, C)) (fun i y => ∀ v, v < i → y v = 0) 7 0 cm (by omega) (fun v hv => by omega) ?_ ?_
  · intro f y hy
    unfold p_Ar_fillJ_coming_6
    try simp (disch := omega) only [↓mI_e, litI, cLeT, cLeF, cLtT, cLtF, cEqF, cEqT, mE1, mE2, mL1, mL2, mL3, mL4, cIn, nI_clamp, nI_add, cMul, cSub, cM1, nar0, nar1, true_implies, false_implies, not_true_eq_false, not_false_eq_true, true_and, and_true]
    exact at10 y hy
  · intro f i y hi hy ih
    unfold p_Ar_fillJ_coming_6
    try simp (disch := omega) only [↓mI_e, litI, cLeT, cLeF, cLtT, cLtF, cEqF, cEqT, mE1, mE2, mL1, mL2, mL3, mL4, cIn, nI_clamp, nI_add, cMul, cSub, cM1, nar0, nar1, true_implies, false_implies, not_true_eq_false, not_false_eq_true, true_and, and_true]
    refine nm_e ?_
    try dsimp only [Le_after, Le_counted, Le_expanded, Le_inLevels, Le_newest, Le_coming, Le_waiting, Le_countedTerms, Le_after_s, Le_counted_s, Le_expanded_s, Le_inLevels_s, Le_newest_s, Le_coming_s, Le_waiting_s, Le_countedTerms_s]
    refine ih _ (fun v hv => ?_)
    by_cases e : v = i
    · exact updL_s e
    · rw [updL_n e]; exact hy v (by omega)
/-- at the head of level l -/
def HC (T E : Tab) (R : Rul) (s l : Nat) (te : Te) (af il nw : Nat → Int64) (ct ex : Nat → Int32) (C : Int32) : Prop := CI T E R s l te af il nw ct ex C ∧ ∀ i, i < tn E → gc ct i → pcl (lvl T R s l) (den E i)
theorem CI.cov (h : CI T E R s l te af il nw ct ex C) {y : Nat} (hy : pcl (lvl T R s l) y) : ∃ i, i < tn E ∧ gc ct i ∧ den E i = y := by
  obtain ⟨k1, k2, k3, k4, k5, k6, k7, k8, k9, -⟩ := h
  refine hy (fun y => ∃ i, i < tn E ∧ gc ct i ∧ den E i = y) k9 (fun x z hx hp => ?_)
  obtain ⟨i, i1, i2, i3⟩ := hx
  have oi := k1.1.2.2 i i1
  rw [← i3] at hp
  rcases (prt_den k1.1 i1).mp hp with ⟨q, e⟩ | ⟨q, e⟩
  · exact ⟨ta E i, by omega, (k3 i i1 i2).1 q, e.symm⟩
  · exact ⟨tb E i, by omega, (k3 i i1 i2).2 q, e.symm⟩
theorem CI.nb (h : CI T E R s l te af il nw ct ex C) : ¬ big (pcl (lvl T R s l)) := nbig_of (f := den E) (n := tn E) (p := gc ct) (fun _ hy => h.cov hy) h.2.2.2.2.2.2.1
theorem CI.exp (h : CI T E R s l te af il nw ct ex C) {t : Nat} (ht : t < tn E) (hc : gc ct t) (hz : ∀ z, stp T R (den E t) z → ∃ k, k < tn E ∧ bt af t k ∧ den E k = z) : CI T E R s l te af il nw ct (upd ex t (nI 1)) C := by
  obtain ⟨k1, k2, k3, k4, k5, k6, k7, k8, k9, k10, k11, k12, k13⟩ := h
  refine ⟨k1, k2, k3, k4, k5, k6, k7, fun i hi hi2 => ⟨?_, (k8 i hi hi2).2⟩, k9, k10, fun i hi a => ?_, k12, k13⟩
  · rw [upd_n (by omega)]; exact (k8 i hi hi2).1
  · rcases gc_upd.mp a with a | a
    · exact k11 i hi a
    · subst a; exact ⟨hc, hz⟩
/-- from a whole level to the next -/
theorem CI.nxt (h : CI T E R s l te af il nw ct ex C) (hx : ∀ i, i < tn E → pcl (lvl T R s l) (den E i) → gc ex i) {il' nw' : Nat → Int64} (h1 : ∀ k, k < 448 → (b0 nw' k ↔ (∃ t, t < tn E ∧ b0 nw t ∧ bt af t k) ∧ ¬ b0 il k)) (h2 : ∀ k, k < 448 → (b0 il' k ↔ b0 il k ∨ b0 nw' k)) : HC T E R s (l + 1) te af il' nw' ct ex C := by
  obtain ⟨k1, k2, k3, k4, k5, k6, k7, k8, k9, k10, k11, k12, k13⟩ := h
  have hn := k1.2.1
  -- the steps of a term of level l are in its row
  have row : ∀ z y, lvl T R s l z → stp T R z y → ∃ i k, i < tn E ∧ k < tn E ∧ den E i = z ∧ bt af i k ∧ den E k = y ∧ gc ct k := by
    intro z y hz hs
    obtain ⟨i, a1, a2, a3⟩ := k9 z hz
    have e := hx i a1 (by rw [a3]; exact pcl.i hz)
    obtain ⟨k, b1, b2, b3⟩ := (k11 i a1 e).2 y (by rw [a3]; exact hs)
    exact ⟨i, k, a1, b1, a3, b2, b3, (k10 i k a1 (by omega) b2).2.1⟩
  have snw : ∀ k, k < 448 → b0 nw' k → k < tn E ∧ lvl T R s (l + 1) (den E k) := by
    intro k hk a
    obtain ⟨⟨t, t1, t2, t3⟩, -⟩ := (h1 k hk).mp a
    obtain ⟨b1, b2, b3⟩ := k10 t k t1 hk t3
    exact ⟨b1, lvl_s (k13.1 t (by omega) t2).2 b3⟩
  have cil : ∀ y, lvl T R s (l + 1) y → ∃ k, k < tn E ∧ b0 il' k ∧ den E k = y := by
    rintro y (hy | ⟨z, hz, hs⟩)
    · obtain ⟨k, a1, a2, a3⟩ := k12.2 y hy
      exact ⟨k, a1, (h2 k (by omega)).mpr (Or.inl a2), a3⟩
    · rcases k13.2 z hz with ⟨q, q1, q2, q3⟩ | hall
      · obtain ⟨i, k, a1, a2, a3, a4, a5, -⟩ := row z y hz hs
        have e : i = q := den_inj k1.1 a1 q1 (by rw [a3, q3])
        subst e
        refine ⟨k, a2, (h2 k (by omega)).mpr ?_, a5⟩
        by_cases hk : b0 il k
        · exact Or.inl hk
        · exact Or.inr ((h1 k (by omega)).mpr ⟨⟨i, a1, q2, a4⟩, hk⟩)
      · obtain ⟨k, a1, a2, a3⟩ := k12.2 y (hall y hs)
        exact ⟨k, a1, (h2 k (by omega)).mpr (Or.inl a2), a3⟩
  refine ⟨⟨k1, k2, k3, k4, fun i hi a => xl_up (by omega) (k5 i hi a), k6, k7, k8, ?_, k10, k11, ⟨fun k hk a => ?_, cil⟩, ⟨fun k hk a => ?_, fun y hy => ?_⟩⟩, k5⟩
  · rintro y (hy | ⟨z, hz, hs⟩)
    · exact k9 y hy
    · obtain ⟨i, k, a1, a2, a3, a4, a5, a6⟩ := row z y hz hs
      exact ⟨k, a2, a6, a5⟩
  · rcases (h2 k hk).mp a with a | a
    · exact ⟨(k12.1 k hk a).1, Or.inl (k12.1 k hk a).2⟩
    · exact snw k hk a
  · exact snw k hk a
  · by_cases hl : lvl T R s l y
    · exact Or.inr (fun z hz => lvl_s hl hz)
    · obtain ⟨k, a1, a2, a3⟩ := cil y hy
      rcases (h2 k (by omega)).mp a2 with a | a
      · have := (k12.1 k (by omega) a).2
        rw [a3] at this
        exact absurd this hl
      · exact Or.inl ⟨k, a1, a, a3⟩
theorem s_start {Q : Le → Prop} {te : Te} {a : Nat} (hT48 : tn T ≤ 48) (hT : tTe T te) (ha : a < tn T) (le : Le) (hQ : ∀ af il nw cm ct ex wa C, HC T T R (den T a) 0 te af il nw ct ex C → Q (af, ct, ex, il, nw, cm, wa, C)) : p_Le_start (nI a) te le Q := by
  obtain ⟨af, ct, ex, il, nw, cm, wa, C⟩ := le
  have o := hT.1
  unfold p_Le_start p_Ar_fillJ_after p_Ar_fillJ_inLevels p_Ar_fillJ_newest
  have at26 : ∀ af1 il1 nw1 : Nat → Int64, (∀ v, v < 3136 → af1 v = 0) → (∀ v, v < 7 → il1 v = 0) → (∀ v, v < 7 → nw1 v = 0) → ∃ f, p_Le_start_26 (nI a) te Q f (0 : Int32) (af1, ct, ex, il1, nw1, cm, wa, C) := by
    intro af1 il1 nw1 z1 z2 z3
    refine forN (fun f i (y : (Nat → Int32) × (Nat → Int32)) => p_Le_start_26 (nI a) te Q f i (af1, y.1, y.2, il1, nw1, cm, wa, C)) (fun i y => ∀ v, v < i → y.1 v = nI 0 ∧ y.2 v = nI 0) 448 0 (ct, ex) (by omega) (fun v hv => by omega) ?_ ?_
    · rintro f ⟨ct1, ex1⟩ hz
      dsimp only at hz ⊢
      have n0 : ∀ i, i < 448 → ¬ gc ct1 i := fun i hi q => q (hz i hi).1
      have cz : cN (gc ct1) (tn T) = 0 := cN_cut (n := 0) (Nat.zero_le _) (fun i _ hi => n0 i (by omega))
      unfold p_Le_start_26
      try simp (disch := omega) only [↓mI_e, litI, cLeT, cLeF, cLtT, cLtF, cEqF, cEqT, mE1, mE2, mL1, mL2, mL3, mL4, cIn, nI_clamp, nI_add, cMul, cSub, cM1, nar0, nar1, true_implies, false_implies, not_true_eq_false, not_false_eq_true, true_and, and_true]
      refine nm_e ?_
      try dsimp only [Le_after, Le_counted, Le_expanded, Le_inLevels, Le_newest, Le_coming, Le_waiting, Le_countedTerms, Le_after_s, Le_counted_s, Le_expanded_s, Le_inLevels_s, Le_newest_s, Le_coming_s, Le_waiting_s, Le_countedTerms_s]
      refine s_cwp (X := pcl (lvl T R (den T a) 0)) (c0 := 0) hT ha (fun i hi _ => by omega) (fun i hi b => absurd b (n0 i (by omega))) (fun i hi b => absurd b (n0 i (by omega))) (pcl.i rfl) (fun x z a b => a.p b) (by omega) (fun ct2 g1 g2 g3 g4 g5 => ?_)
      rw [cz, inc_il (by omega), inc_nw (by omega), show 0 + (cN (gc ct2) (tn T) - 0) = cN (gc ct2) (tn T) by omega]
      have cl := cN_le (gc ct2) (tn T)
      have nb : ∀ k, k < 448 → ∀ i, i < 448 → ¬ bt af1 i k := by
        intro k hk i hi q
        unfold bt at q
        rw [z1 _ (by omega)] at q
        exact bl_0 _ q
      have ni : ∀ k, k < 448 → (b0 (sb il1 0 a) k ↔ k = a) := by
        intro k hk
        rw [b0_sb]
        refine ⟨fun q => q.elim (fun q => ?_) id, Or.inr⟩
        unfold b0 at q
        rw [z2 _ (by omega)] at q
        exact absurd q (bl_0 _)
      have nn : ∀ k, k < 448 → (b0 (sb nw1 0 a) k ↔ k = a) := by
        intro k hk
        rw [b0_sb]
        refine ⟨fun q => q.elim (fun q => ?_) id, Or.inr⟩
        unfold b0 at q
        rw [z3 _ (by omega)] at q
        exact absurd q (bl_0 _)
      refine hQ _ _ _ _ _ _ _ _ ⟨⟨hT, ext.rf o, g1, fun i b c => by omega, fun i hi b => xl_up (by omega) (g2 i hi b), rfl, by omega, fun i b c => ⟨(hz i c).2, fun k hk => nb k hk i c⟩, fun y hy => ⟨a, ha, g5, hy.symm⟩, fun i k hi hk b => absurd b (nb k hk i (by omega)), fun i hi b => absurd (hz i (by omega)).2 b, ⟨fun k hk b => ?_, fun y hy => ⟨a, ha, (ni a (by omega)).mpr rfl, hy.symm⟩⟩, ⟨fun k hk b => ?_, fun y hy => Or.inl ⟨a, ha, (nn a (by omega)).mpr rfl, hy.symm⟩⟩⟩, g2⟩
      · rw [(ni k hk).mp b]; exact ⟨ha, rfl⟩
      · rw [(nn k hk).mp b]; exact ⟨ha, rfl⟩
    · rintro f i ⟨ct1, ex1⟩ hi hz ih
      dsimp only at hz ih ⊢
      unfold p_Le_start_26
      try simp (disch := omega) only [↓mI_e, litI, cLeT, cLeF, cLtT, cLtF, cEqF, cEqT, mE1, mE2, mL1, mL2, mL3, mL4, cIn, nI_clamp, nI_add, cMul, cSub, cM1, nar0, nar1, true_implies, false_implies, not_true_eq_false, not_false_eq_true, true_and, and_true]
      refine nm_e ?_
      try dsimp only [Le_after, Le_counted, Le_expanded, Le_inLevels, Le_newest, Le_coming, Le_waiting, Le_countedTerms, Le_after_s, Le_counted_s, Le_expanded_s, Le_inLevels_s, Le_newest_s, Le_coming_s, Le_waiting_s, Le_countedTerms_s]
      refine nm_e ?_
      try dsimp only [Le_after, Le_counted, Le_expanded, Le_inLevels, Le_newest, Le_coming, Le_waiting, Le_countedTerms, Le_after_s, Le_counted_s, Le_expanded_s, Le_inLevels_s, Le_newest_s, Le_coming_s, Le_waiting_s, Le_countedTerms_s]
      refine ih (upd ct1 i (nI 0), upd ex1 i (nI 0)) (fun v hv => ?_)
      try dsimp only [Le_after, Le_counted, Le_expanded, Le_inLevels, Le_newest, Le_coming, Le_waiting, Le_countedTerms, Le_after_s, Le_counted_s, Le_expanded_s, Le_inLevels_s, Le_newest_s, Le_coming_s, Le_waiting_s, Le_countedTerms_s]
      by_cases e : v = i
      · rw [upd_s e, upd_s e]; exact ⟨rfl, rfl⟩
      · rw [upd_n e, upd_n e]; exact hz v (by omega)
  have atN : ∀ af1 il1 : Nat → Int64, (∀ v, v < 3136 → af1 v = 0) → (∀ v, v < 7 → il1 v = 0) → ∃ f, p_Ar_fillJ_newest_6 (0 : Int64) (fun le21 => (∃ f, p_Le_start_26 (nI a) te Q f (0 : Int32) le21)) f (0 : Int32) (7 : Int32) (af1, ct, ex, il1, nw, cm, wa, C) := by
    intro af1 il1 z1 z2
    refine forN (fun f i (y : Nat → Int64) => p_Ar_fillJ_newest_6 (0 : Int64) (fun le21 => (∃ f, p_Le_start_26 (nI a) te Q f (0 : Int32) le21)) f i (7 : Int32) (af1, ct, ex, il1, y, cm, wa, C)) (fun i y => ∀ v, v < i → y v = 0) 7 0 nw (by omega) (fun v hv => by omega) ?_ ?_
    · intro f y hy
      unfold p_Ar_fillJ_newest_6
      try simp (disch := omega) only [↓mI_e, litI, cLeT, cLeF, cLtT, cLtF, cEqF, cEqT, mE1, mE2, mL1, mL2, mL3, mL4, cIn, nI_clamp, nI_add, cMul, cSub, cM1, nar0, nar1, true_implies, false_implies, not_true_eq_false, not_false_eq_true, true_and, and_true]
      exact at26 af1 il1 y z1 z2 hy
    · intro f i y hi hy ih
      unfold p_Ar_fillJ_newest_6
      try simp (disch := omega) only [↓mI_e, litI, cLeT, cLeF, cLtT, cLtF, cEqF, cEqT, mE1, mE2, mL1, mL2, mL3, mL4, cIn, nI_clamp, nI_add, cMul, cSub, cM1, nar0, nar1, true_implies, false_implies, not_true_eq_false, not_false_eq_true, true_and, and_true]
      refine nm_e ?_
      try dsimp only [Le_after, Le_counted, Le_expanded, Le_inLevels, Le_newest, Le_coming, Le_waiting, Le_countedTerms, Le_after_s, Le_counted_s, Le_expanded_s, Le_inLevels_s, Le_newest_s, Le_coming_s, Le_waiting_s, Le_countedTerms_s]
      refine ih _ (fun v hv => ?_)
      by_cases e : v = i
      · exact updL_s e
      · rw [updL_n e]; exact hy v (by omega)
  have atI : ∀ af1 : Nat → Int64, (∀ v, v < 3136 → af1 v = 0) → ∃ f, p_Ar_fillJ_inLevels_6 (0 : Int64) (fun le13 => ∃ f, p_Ar_fillJ_newest_6 (0 : Int64) (fun le21 => (∃ f, p_Le_start_26 (nI a) te Q f (0 : Int32) le21)) f (0 : Int32) (7 : Int32) le13) f (0 : Int32) (7 : Int32) (af1, ct, ex, il, nw, cm, wa, C) := by
    intro af1 z1
    refine forN (fun f i (y : Nat → Int64) => p_Ar_fillJ_inLevels_6 (0 : Int64) (fun le13 => ∃ f, p_Ar_fillJ_newest_6 (0 : Int64) (fun le21 => (∃ f, p_Le_start_26 (nI a) te Q f (0 : Int32) le21)) f (0 : Int32) (7 : Int32) le13) f i (7 : Int32) (af1, ct, ex, y, nw, cm, wa, C)) (fun i y => ∀ v, v < i → y v = 0) 7 0 il (by omega) (fun v hv => by omega) ?_ ?_
    · intro f y hy
      unfold p_Ar_fillJ_inLevels_6
      try simp (disch := omega) only [↓mI_e, litI, cLeT, cLeF, cLtT, cLtF, cEqF, cEqT, mE1, mE2, mL1, mL2, mL3, mL4, cIn, nI_clamp, nI_add, cMul, cSub, cM1, nar0, nar1, true_implies, false_implies, not_true_eq_false, not_false_eq_true, true_and, and_true]
      exact atN af1 y z1 hy
    · intro f i y hi hy ih
      unfold p_Ar_fillJ_inLevels_6
      try simp (disch := omega) only [↓mI_e, litI, cLeT, cLeF, cLtT, cLtF, cEqF, cEqT, mE1, mE2, mL1, mL2, mL3, mL4, cIn, nI_clamp, nI_add, cMul, cSub, cM1, nar0, nar1, true_implies, false_implies, not_true_eq_false, not_false_eq_true, true_and, and_true]
      refine nm_e ?_
      try dsimp only [Le_after, Le_counted, Le_expanded, Le_inLevels, Le_newest, Le_coming, Le_waiting, Le_countedTerms, Le_after_s, Le_counted_s, Le_expanded_s, Le_inLevels_s, Le_newest_s, Le_coming_s, Le_waiting_s, Le_countedTerms_s]
      refine ih _ (fun v hv => ?_)
      by_cases e : v = i
      · exact updL_s e
      · rw [updL_n e]; exact hy v (by omega)
  refine forN (fun f i (y : Nat → Int64) => p_Ar_fillJ_after_6 (0 : Int64) (fun le5 => ∃ f, p_Ar_fillJ_inLevels_6 (0 : Int64) (fun le13 => ∃ f, p_Ar_fillJ_newest_6 (0 : Int64) (fun le21 => (∃ f, p_Le_start_26 (nI a) te Q f (0 : Int32) le21)) f (0 : Int32) (7 : Int32) le13) f (0 : Int32) (7 : Int32) le5) f i (3136 : Int32) (y, ct, ex, il, nw, cm, wa, C)) (fun i y => ∀ v, v < i → y v = 0) 3136 0 af (by omega) (fun v hv => by omega) ?_ ?_
  · intro f y hy
    unfold p_Ar_fillJ_after_6
    try simp (disch := omega) only [↓mI_e, litI, cLeT, cLeF, cLtT, cLtF, cEqF, cEqT, mE1, mE2, mL1, mL2, mL3, mL4, cIn, nI_clamp, nI_add, cMul, cSub, cM1, nar0, nar1, true_implies, false_implies, not_true_eq_false, not_false_eq_true, true_and, and_true]
    exact atI y hy
  · intro f i y hi hy ih
    unfold p_Ar_fillJ_after_6
    try simp (disch := omega) only [↓mI_e, litI, cLeT, cLeF, cLtT, cLtF, cEqF, cEqT, mE1, mE2, mL1, mL2, mL3, mL4, cIn, nI_clamp, nI_add, cMul, cSub, cM1, nar0, nar1, true_implies, false_implies, not_true_eq_false, not_false_eq_true, true_and, and_true]
    refine nm_e ?_
    try dsimp only [Le_after, Le_counted, Le_expanded, Le_inLevels, Le_newest, Le_coming, Le_waiting, Le_countedTerms, Le_after_s, Le_counted_s, Le_expanded_s, Le_inLevels_s, Le_newest_s, Le_coming_s, Le_waiting_s, Le_countedTerms_s]
    refine ih _ (fun v hv => ?_)
    by_cases e : v = i
    · exact updL_s e
    · rw [updL_n e]; exact hy v (by omega)
end
