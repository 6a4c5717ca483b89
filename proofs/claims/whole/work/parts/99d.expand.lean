/-! what the program keeps while it makes level l + 1 -/
def BI (T E : Tab) (te : Te) (ct : Nat → Int32) (C : Int32) (N : Nat) : Prop := tTe E te ∧ ext T E ∧ pcd E (gc ct) (gc ct) ∧ (∀ i, tn T ≤ i → i < tn E → gc ct i) ∧ ∃ c, C = nI c ∧ 400 < c ∧ c ≤ N
def CI (T E : Tab) (R : Rul) (s l : Nat) (te : Te) (af il nw : Nat → Int64) (ct ex : Nat → Int32) (C : Int32) : Prop := tTe E te ∧ ext T E ∧ pcd E (gc ct) (gc ct) ∧ (∀ i, tn T ≤ i → i < tn E → gc ct i) ∧ (∀ i, i < tn E → gc ct i → pcl (lvl T R s (l + 1)) (den E i)) ∧ C = nI (cN (gc ct) (tn E)) ∧ cN (gc ct) (tn E) ≤ 400 ∧ (∀ i, tn E ≤ i → i < 448 → ex i = nI 0 ∧ ∀ k, k < 448 → ¬ bt af i k) ∧ (∀ y, lvl T R s l y → ∃ i, i < tn E ∧ gc ct i ∧ den E i = y) ∧ (∀ i k, i < tn E → k < 448 → bt af i k → k < tn E ∧ gc ct k ∧ stp T R (den E i) (den E k)) ∧ (∀ i, i < tn E → gc ex i → gc ct i ∧ ∀ z, stp T R (den E i) z → ∃ k, k < tn E ∧ bt af i k ∧ den E k = z) ∧ ((∀ k, k < 448 → b0 il k → k < tn E ∧ lvl T R s l (den E k)) ∧ ∀ y, lvl T R s l y → ∃ k, k < tn E ∧ b0 il k ∧ den E k = y) ∧ ((∀ k, k < 448 → b0 nw k → k < tn E ∧ lvl T R s l (den E k)) ∧ ∀ y, lvl T R s l y → (∃ k, k < tn E ∧ b0 nw k ∧ den E k = y) ∨ ∀ z, stp T R y z → lvl T R s l z)
section
variable {T E : Tab} {R : Rul} {s l : Nat} {te : Te} {af il nw cm : Nat → Int64} {ct ex wa : Nat → Int32} {C : Int32}
theorem CI.n (h : CI T E R s l te af il nw ct ex C) : tn E ≤ tn T + 400 := by
  obtain ⟨h1, h2, h3, h4, h5, h6, h7, -⟩ := h
  have a : cN (fun i => tn T ≤ i) (tn E) ≤ cN (gc ct) (tn E) := cN_mono _ (fun k hk a => h4 k a hk)
  rw [cN_ge h2.2.1] at a
  omega
/-- a bit more in row t -/
theorem CI.inc (h : CI T E R s l te af il nw ct ex C) {t u : Nat} (ht : t < tn E) (hu : u < tn E) (hc : gc ct u) (hs : stp T R (den E t) (den E u)) : CI T E R s l te (sb af (t * 7) u) il nw ct ex C := by
  obtain ⟨h1, h2, h3, h4, h5, h6, h7, h8, h9, h10, h11, h12, h13⟩ := h
  have hn := h1.2.1
  refine ⟨h1, h2, h3, h4, h5, h6, h7, fun i hi hi2 => ⟨(h8 i hi hi2).1, fun k hk a => ?_⟩, h9, fun i k hi hk a => ?_, fun i hi a => ⟨(h11 i hi a).1, fun z hz => ?_⟩, h12, h13⟩
  · rcases (bt_sb (by omega) hk).mp a with a | a
    · exact (h8 i hi hi2).2 k hk a
    · omega
  · rcases (bt_sb (by omega) hk).mp a with a | ⟨a, b⟩
    · exact h10 i k hi hk a
    · subst a b; exact ⟨hu, hc, hs⟩
  · obtain ⟨k, k1, k2, k3⟩ := (h11 i hi a).2 z hz
    exact ⟨k, k1, (bt_sb (by omega) (by omega)).mpr (Or.inl k2), k3⟩
/-- more of them counted -/
theorem CI.cnt (h : CI T E R s l te af il nw ct ex C) {ct' : Nat → Int32} (g1 : pcd E (gc ct') (gc ct')) (g2 : ∀ i, i < tn E → gc ct' i → pcl (lvl T R s (l + 1)) (den E i)) (g3 : ∀ i, gc ct i → gc ct' i) (g4 : cN (gc ct') (tn E) ≤ 400) : CI T E R s l te af il nw ct' ex (nI (cN (gc ct') (tn E))) := by
  obtain ⟨h1, h2, h3, h4, h5, h6, h7, h8, h9, h10, h11, h12, h13⟩ := h
  refine ⟨h1, h2, g1, fun i a b => g3 i (h4 i a b), g2, rfl, g4, h8, fun y hy => ?_, fun i k hi hk a => ?_, fun i hi a => ⟨g3 i (h11 i hi a).1, (h11 i hi a).2⟩, h12, h13⟩
  · obtain ⟨i, a1, a2, a3⟩ := h9 y hy
    exact ⟨i, a1, g3 i a2, a3⟩
  · obtain ⟨a1, a2, a3⟩ := h10 i k hi hk a
    exact ⟨a1, g3 k a2, a3⟩
/-- one term more -/
theorem CI.add (h : CI T E R s l te af il nw ct ex C) {y a b : Nat} {te' : Te} (f : tFit E y a b) (no : ∀ u, ¬ isT E y a b u) (hte : tTe (tAdd E y a b) te') (hX : pcl (lvl T R s (l + 1)) (den (tAdd E y a b) (tn E))) (hc : pcd (tAdd E y a b) (gc (upd ct (tn E) (nI 1))) (gc (upd ct (tn E) (nI 1)))) (h4c : cN (gc ct) (tn E) + 1 ≤ 400) (hn : tn E < 448) : CI T (tAdd E y a b) R s l te' af il nw (upd ct (tn E) (nI 1)) ex (nI (cN (gc ct) (tn E) + 1)) := by
  obtain ⟨h1, h2, h3, h4, h5, h6, h7, h8, h9, h10, h11, h12, h13⟩ := h
  have hx : ext E (tAdd E y a b) := ⟨hte.1, by rw [tn_add]; omega, tAg_add E y a b⟩
  have ce : cN (gc (upd ct (tn E) (nI 1))) (tn (tAdd E y a b)) = cN (gc ct) (tn E) + 1 := by
    rw [tn_add, cN_s1 (gc_upd.mpr (Or.inr rfl))]
    rw [cN_cg (q := gc ct) (fun i hi => ⟨fun a => (gc_upd.mp a).elim id (fun q => by omega), fun a => gc_upd.mpr (Or.inl a)⟩)]
  refine ⟨hte, h2.tr hx, hc, fun i a b => ?_, fun i hi a => ?_, by rw [ce], by rw [ce]; exact h4c, fun i hi hi2 => ?_, fun y hy => ?_, fun i k hi hk a => ?_, fun i hi a => ?_, ⟨fun k hk a => ?_, fun y hy => ?_⟩, ⟨fun k hk a => ?_, fun y hy => ?_⟩⟩
  · rw [tn_add] at b
    by_cases e : i = tn E
    · exact gc_upd.mpr (Or.inr e)
    · exact gc_upd.mpr (Or.inl (h4 i a (by omega)))
  · rw [tn_add] at hi
    by_cases e : i = tn E
    · subst e; exact hX
    · rw [den_ext hx (by omega)]
      exact h5 i (by omega) ((gc_upd.mp a).elim id (fun q => absurd q e))
  · rw [tn_add] at hi
    exact h8 i (by omega) hi2
  · obtain ⟨i, a1, a2, a3⟩ := h9 y hy
    exact ⟨i, by rw [tn_add]; omega, gc_upd.mpr (Or.inl a2), by rw [den_ext hx a1]; exact a3⟩
  · rw [tn_add] at hi ⊢
    by_cases e : i = tn E
    · subst e
      exact absurd a ((h8 (tn E) (Nat.le_refl _) hn).2 k hk)
    · obtain ⟨a1, a2, a3⟩ := h10 i k (by omega) hk a
      rw [den_ext hx (by omega), den_ext hx a1]
      exact ⟨by omega, gc_upd.mpr (Or.inl a2), a3⟩
  · rw [tn_add] at hi ⊢
    by_cases e : i = tn E
    · subst e
      exact absurd (h8 (tn E) (Nat.le_refl _) hn).1 a
    · obtain ⟨a1, a2⟩ := h11 i (by omega) a
      refine ⟨gc_upd.mpr (Or.inl a1), fun z hz => ?_⟩
      rw [den_ext hx (by omega)] at hz
      obtain ⟨k, k1, k2, k3⟩ := a2 z hz
      exact ⟨k, by omega, k2, by rw [den_ext hx k1]; exact k3⟩
  · rw [tn_add]
    obtain ⟨a1, a2⟩ := h12.1 k hk a
    rw [den_ext hx a1]
    exact ⟨by omega, a2⟩
  · rw [tn_add]
    obtain ⟨k, k1, k2, k3⟩ := h12.2 y hy
    exact ⟨k, by omega, k2, by rw [den_ext hx k1]; exact k3⟩
  · rw [tn_add]
    obtain ⟨a1, a2⟩ := h13.1 k hk a
    rw [den_ext hx a1]
    exact ⟨by omega, a2⟩
  · rw [tn_add]
    rcases h13.2 y hy with ⟨k, k1, k2, k3⟩ | k
    · exact Or.inl ⟨k, by omega, k2, by rw [den_ext hx k1]; exact k3⟩
    · exact Or.inr k
theorem CI.b (h : CI T E R s l te af il nw ct ex C) : pcd E (gc ct) (gc ct) ∧ ∀ i, i < tn E → ¬ gc ct i → i < tn T := ⟨h.2.2.1, fun i hi a => Classical.byContradiction (fun q => a (h.2.2.2.1 i (by omega) hi))⟩
/-- a term is sought, and counted -/
theorem s_fc {Q : Int32 → Te → Le → Prop} {x2 x3 : Int32} {y a b : Nat} (hT48 : tn T ≤ 48) (h : CI T E R s l te af il nw ct ex C) (f : tFit E y a b) (g2 : 1 ≤ tp E y → x2 = nI a) (g3 : 2 ≤ tp E y → x3 = nI b) (hX : pcl (lvl T R s (l + 1)) (co y (if 1 ≤ tp E y then den E a + 1 else 0) (if 2 ≤ tp E y then den E b + 1 else 0))) (hab : (1 ≤ tp E y → gc ct a) ∧ (2 ≤ tp E y → gc ct b)) (h1 : ∀ V te' ct' C' u, CI T V R s l te' af il nw ct' ex C' → ext E V → (∀ i, gc ct i → gc ct' i) → u < tn V → den V u = co y (if 1 ≤ tp E y then den E a + 1 else 0) (if 2 ≤ tp E y then den E b + 1 else 0) → gc ct' u → Q (nI u) te' (af, ct', ex, il, nw, cm, wa, C')) (h2 : ∀ r ct' C', (r = mI ∨ ∃ u, u < 448 ∧ r = nI u) → BI T E te ct' C' 900 → big (pcl (lvl T R s (l + 1))) → Q r te (af, ct', ex, il, nw, cm, wa, C')) : p_Le_findCounted (nI y) x2 x3 te (af, ct, ex, il, nw, cm, wa, C) Q := by
  have h0 := h
  have hcl := h.n
  obtain ⟨k1, k2, k3, k4, k5, k6, k7, k8, k9, k10, k11, k12, k13⟩ := h
  have hn := k1.2.1
  have o := k1.1
  have fl := f.lt o
  subst k6
  unfold p_Le_findCounted
  refine s_find k1 f.1 f.2.1 f.2.2.1 (by omega) (by omega) g2 g3 (fun r hr => ?_)
  have nd := fun (hb : tn (nx E y a b).1 ≤ 520) => nx_den o f hb
  rcases hr with ⟨u, hu, rfl⟩ | ⟨rfl, no⟩
  · have hul := hu.1
    have e1 := nx_t o hu
    rw [e1] at nd
    have nd2 := nd (by show tn E ≤ 520; omega)
    dsimp only at nd2
    try simp (disch := omega) only [↓mI_e, litI, cLeT, cLeF, cLtT, cLtF, cEqF, cEqT, mE1, mE2, mL1, mL2, mL3, mL4, cIn, nI_clamp, nI_add, cMul, cSub, cM1, nar0, nar1, true_implies, false_implies, not_true_eq_false, not_false_eq_true, true_and, and_true]
    refine s_cwp (X := pcl (lvl T R s (l + 1))) k1 hul (fun i hi q => by have := h0.b.2 i hi q; omega) k3 k5 (by rw [nd2]; exact hX) (fun x z a b => a.p b) (by omega) (fun ct' g1 g2 g3 g4 g5 => ?_)
    have cm1 : cN (gc ct) (tn E) ≤ cN (gc ct') (tn E) := cN_mono _ (fun k _ a => g3 k a)
    rw [show cN (gc ct) (tn E) + (cN (gc ct') (tn E) - cN (gc ct) (tn E)) = cN (gc ct') (tn E) by omega]
    by_cases h4 : cN (gc ct') (tn E) ≤ 400
    · exact h1 E te ct' _ u (h0.cnt g1 g2 g3 h4) (ext.rf o) g3 hul nd2 g5
    · have cl := cN_le (gc ct') (tn E)
      exact h2 _ ct' _ (Or.inr ⟨u, by omega, rfl⟩) ⟨k1, k2, g1, fun i a b => g3 i (k4 i a b), _, rfl, by omega, by omega⟩ (big_of o g2 (by omega))
  · have e1 := nx_f no
    rw [e1] at nd
    try simp (disch := omega) only [↓mI_e, litI, cLeT, cLeF, cLtT, cLtF, cEqF, cEqT, mE1, mE2, mL1, mL2, mL3, mL4, cIn, nI_clamp, nI_add, cMul, cSub, cM1, nar0, nar1, true_implies, false_implies, not_true_eq_false, not_false_eq_true, true_and, and_true]
    refine nm_e ?_
    try dsimp only [Le_after, Le_counted, Le_expanded, Le_inLevels, Le_newest, Le_coming, Le_waiting, Le_countedTerms, Le_after_s, Le_counted_s, Le_expanded_s, Le_inLevels_s, Le_newest_s, Le_coming_s, Le_waiting_s, Le_countedTerms_s]
    by_cases h4 : cN (gc ct) (tn E) + 1 ≤ 400
    · have hn2 : tn E < 448 := by
        have a : cN (fun i => tn T ≤ i) (tn E) ≤ cN (gc ct) (tn E) := cN_mono _ (fun k hk a => k4 k a hk)
        rw [cN_ge k2.2.1] at a
        omega
      try simp (disch := omega) only [↓mI_e, litI, cLeT, cLeF, cLtT, cLtF, cEqF, cEqT, mE1, mE2, mL1, mL2, mL3, mL4, cIn, nI_clamp, nI_add, cMul, cSub, cM1, nar0, nar1, true_implies, false_implies, not_true_eq_false, not_false_eq_true, true_and, and_true]
      refine s_append k1 hn2 f no g2 g3 (fun te' hte' => ?_)
      try simp (disch := omega) only [↓mI_e, litI, cLeT, cLeF, cLtT, cLtF, cEqF, cEqT, mE1, mE2, mL1, mL2, mL3, mL4, cIn, nI_clamp, nI_add, cMul, cSub, cM1, nar0, nar1, true_implies, false_implies, not_true_eq_false, not_false_eq_true, true_and, and_true]
      refine nm_e ?_
      try dsimp only [Le_after, Le_counted, Le_expanded, Le_inLevels, Le_newest, Le_coming, Le_waiting, Le_countedTerms, Le_after_s, Le_counted_s, Le_expanded_s, Le_inLevels_s, Le_newest_s, Le_coming_s, Le_waiting_s, Le_countedTerms_s]
      have nd2 := nd (by show tn E + 1 ≤ 520; omega)
      dsimp only at nd2
      have hx : ext E (tAdd E y a b) := ⟨hte'.1, by rw [tn_add]; omega, tAg_add E y a b⟩
      refine h1 (tAdd E y a b) te' _ _ (tn E) (h0.add f no hte' (by rw [nd2]; exact hX) (fun i hi c => ?_) h4 hn2) hx (fun i c => gc_upd.mpr (Or.inl c)) (by rw [tn_add]; omega) nd2 (gc_upd.mpr (Or.inr rfl))
      rw [tn_add] at hi
      by_cases e : i = tn E
      · subst e
        rw [tq_add, ta_add, tb_add]
        exact ⟨fun q => gc_upd.mpr (Or.inl (hab.1 q)), fun q => gc_upd.mpr (Or.inl (hab.2 q))⟩
      · have hi2 : i < tn E := by omega
        obtain ⟨q1, q2, q3, q4⟩ := hx.f hi2
        rw [q2, q3, q4]
        have c2 : gc ct i := (gc_upd.mp c).elim id (fun q => absurd q e)
        exact ⟨fun q => gc_upd.mpr (Or.inl ((k3 i hi2 c2).1 q)), fun q => gc_upd.mpr (Or.inl ((k3 i hi2 c2).2 q))⟩
    · try simp (disch := omega) only [↓mI_e, litI, cLeT, cLeF, cLtT, cLtF, cEqF, cEqT, mE1, mE2, mL1, mL2, mL3, mL4, cIn, nI_clamp, nI_add, cMul, cSub, cM1, nar0, nar1, true_implies, false_implies, not_true_eq_false, not_false_eq_true, true_and, and_true]
      refine h2 _ ct _ (Or.inl rfl) ⟨k1, k2, k3, k4, _, rfl, by omega, by omega⟩ (big_of1 o k5 hX (fun i hi c e => ?_) (by omega))
      -- it would be in the table
      rw [den_eq o hi] at e
      obtain ⟨e1, e2, e3⟩ := co_inj e
      have oi := o.2.2 i hi
      have eq : tq E i = tp E y := by unfold tq; rw [e1]
      refine no i ⟨hi, e1, ?_, ?_⟩
      · by_cases q : 1 ≤ tp E y
        · rw [if_pos q, pa_t (by omega)] at e2
          exact den_inj o (by omega) (f.2.2.2.1 q) (by omega)
        · have := f.2.1 (by omega)
          omega
      · by_cases q : 2 ≤ tp E y
        · rw [if_pos q, pb_t (by omega)] at e3
          exact den_inj o (by omega) (f.2.2.2.2 q) (by omega)
        · have := f.2.2.1 (by omega)
          omega
/-- the same when there are too many already -/
theorem s_fcB {Q : Int32 → Te → Le → Prop} {x2 x3 : Int32} {y a b N : Nat} (hT48 : tn T ≤ 48) (h : BI T E te ct C N) (hN : N < 2 ^ 29) (hy : y < 6) (ha : tp E y < 1 → a = 0) (hb : tp E y < 2 → b = 0) (ha' : a < 2 ^ 31) (hb' : b < 2 ^ 31) (g2 : 1 ≤ tp E y → x2 = nI a) (g3 : 2 ≤ tp E y → x3 = nI b) (h2 : ∀ r ct' C', (r = mI ∨ ∃ u, u < 448 ∧ r = nI u) → BI T E te ct' C' (N + 448) → Q r te (af, ct', ex, il, nw, cm, wa, C')) : p_Le_findCounted (nI y) x2 x3 te (af, ct, ex, il, nw, cm, wa, C) Q := by
  obtain ⟨k1, k2, k3, k4, c, rfl, c1, c2⟩ := h
  have hn := k1.2.1
  unfold p_Le_findCounted
  refine s_find k1 hy ha hb ha' hb' g2 g3 (fun r hr => ?_)
  rcases hr with ⟨u, hu, rfl⟩ | ⟨rfl, no⟩
  · have hul := hu.1
    try simp (disch := omega) only [↓mI_e, litI, cLeT, cLeF, cLtT, cLtF, cEqF, cEqT, mE1, mE2, mL1, mL2, mL3, mL4, cIn, nI_clamp, nI_add, cMul, cSub, cM1, nar0, nar1, true_implies, false_implies, not_true_eq_false, not_false_eq_true, true_and, and_true]
    refine s_cwp (X := fun _ => True) k1 hul (fun i hi q => ?_) k3 (fun _ _ _ => trivial) trivial (fun _ _ _ _ => trivial) (by omega) (fun ct' g1 g2 g3 g4 g5 => ?_)
    · refine Classical.byContradiction (fun p => q (k4 i (by omega) hi))
    · have cl := cN_le (gc ct') (tn E)
      exact h2 _ ct' _ (Or.inr ⟨u, by omega, rfl⟩) ⟨k1, k2, g1, fun i a b => g3 i (k4 i a b), _, rfl, by omega, by omega⟩
  · try simp (disch := omega) only [↓mI_e, litI, cLeT, cLeF, cLtT, cLtF, cEqF, cEqT, mE1, mE2, mL1, mL2, mL3, mL4, cIn, nI_clamp, nI_add, cMul, cSub, cM1, nar0, nar1, true_implies, false_implies, not_true_eq_false, not_false_eq_true, true_and, and_true]
    refine nm_e ?_
    try dsimp only [Le_after, Le_counted, Le_expanded, Le_inLevels, Le_newest, Le_coming, Le_waiting, Le_countedTerms, Le_after_s, Le_counted_s, Le_expanded_s, Le_inLevels_s, Le_newest_s, Le_coming_s, Le_waiting_s, Le_countedTerms_s]
    try simp (disch := omega) only [↓mI_e, litI, cLeT, cLeF, cLtT, cLtF, cEqF, cEqT, mE1, mE2, mL1, mL2, mL3, mL4, cIn, nI_clamp, nI_add, cMul, cSub, cM1, nar0, nar1, true_implies, false_implies, not_true_eq_false, not_false_eq_true, true_and, and_true]
    exact h2 _ ct _ (Or.inl rfl) ⟨k1, k2, k3, k4, _, rfl, by omega, by omega⟩
end
