/-! the reference's store -/
def fr (mo m : Mo) (sy on tw : Nat → Int32) (st df : Int32) (mk cm lv mn : Nat → Int32) : Prop := mKr mo m ∧ Mo_places m = Mo_places mo ∧ Mo_count m = Mo_count mo ∧ Mo_thrown m = Mo_thrown mo ∧ Mo_path m = Mo_path mo ∧ Mo_side m = Mo_side mo ∧ Mo_symbol m = sy ∧ Mo_one m = on ∧ Mo_two m = tw ∧ Mo_stored m = st ∧ Mo_different m = df ∧ Mo_marked m = mk ∧ Mo_came m = cm ∧ Mo_level m = lv ∧ Mo_many m = mn
section
variable {mo m m2 : Mo} {sy0 on0 tw0 mk0 cm0 lv0 mn0 f : Nat → Int32} {st0 df0 x : Int32}
theorem mKr.rf (mo : Mo) : mKr mo mo := ⟨rfl, rfl, rfl, rfl, rfl, rfl⟩
theorem fr.rf (mo : Mo) : fr mo mo (Mo_symbol mo) (Mo_one mo) (Mo_two mo) (Mo_stored mo) (Mo_different mo) (Mo_marked mo) (Mo_came mo) (Mo_level mo) (Mo_many mo) := ⟨mKr.rf mo, rfl, rfl, rfl, rfl, rfl, rfl, rfl, rfl, rfl, rfl, rfl, rfl, rfl, rfl⟩
theorem fr.sy (h : fr mo m sy0 on0 tw0 st0 df0 mk0 cm0 lv0 mn0) (e : m2 = Mo_symbol_s m f) : fr mo m2 f on0 tw0 st0 df0 mk0 cm0 lv0 mn0 := by
  subst e
  exact ⟨⟨h.1.1, h.1.2.1, h.1.2.2.1, h.1.2.2.2.1, h.1.2.2.2.2.1, h.1.2.2.2.2.2⟩, h.2.1, h.2.2.1, h.2.2.2.1, h.2.2.2.2.1, h.2.2.2.2.2.1, rfl, h.2.2.2.2.2.2.2.1, h.2.2.2.2.2.2.2.2.1, h.2.2.2.2.2.2.2.2.2.1, h.2.2.2.2.2.2.2.2.2.2.1, h.2.2.2.2.2.2.2.2.2.2.2.1, h.2.2.2.2.2.2.2.2.2.2.2.2.1, h.2.2.2.2.2.2.2.2.2.2.2.2.2.1, h.2.2.2.2.2.2.2.2.2.2.2.2.2.2⟩
theorem fr.on (h : fr mo m sy0 on0 tw0 st0 df0 mk0 cm0 lv0 mn0) (e : m2 = Mo_one_s m f) : fr mo m2 sy0 f tw0 st0 df0 mk0 cm0 lv0 mn0 := by
  subst e
  exact ⟨⟨h.1.1, h.1.2.1, h.1.2.2.1, h.1.2.2.2.1, h.1.2.2.2.2.1, h.1.2.2.2.2.2⟩, h.2.1, h.2.2.1, h.2.2.2.1, h.2.2.2.2.1, h.2.2.2.2.2.1, h.2.2.2.2.2.2.1, rfl, h.2.2.2.2.2.2.2.2.1, h.2.2.2.2.2.2.2.2.2.1, h.2.2.2.2.2.2.2.2.2.2.1, h.2.2.2.2.2.2.2.2.2.2.2.1, h.2.2.2.2.2.2.2.2.2.2.2.2.1, h.2.2.2.2.2.2.2.2.2.2.2.2.2.1, h.2.2.2.2.2.2.2.2.2.2.2.2.2.2⟩
theorem fr.tw (h : fr mo m sy0 on0 tw0 st0 df0 mk0 cm0 lv0 mn0) (e : m2 = Mo_two_s m f) : fr mo m2 sy0 on0 f st0 df0 mk0 cm0 lv0 mn0 := by
  subst e
  exact ⟨⟨h.1.1, h.1.2.1, h.1.2.2.1, h.1.2.2.2.1, h.1.2.2.2.2.1, h.1.2.2.2.2.2⟩, h.2.1, h.2.2.1, h.2.2.2.1, h.2.2.2.2.1, h.2.2.2.2.2.1, h.2.2.2.2.2.2.1, h.2.2.2.2.2.2.2.1, rfl, h.2.2.2.2.2.2.2.2.2.1, h.2.2.2.2.2.2.2.2.2.2.1, h.2.2.2.2.2.2.2.2.2.2.2.1, h.2.2.2.2.2.2.2.2.2.2.2.2.1, h.2.2.2.2.2.2.2.2.2.2.2.2.2.1, h.2.2.2.2.2.2.2.2.2.2.2.2.2.2⟩
theorem fr.st (h : fr mo m sy0 on0 tw0 st0 df0 mk0 cm0 lv0 mn0) (e : m2 = Mo_stored_s m x) : fr mo m2 sy0 on0 tw0 x df0 mk0 cm0 lv0 mn0 := by
  subst e
  exact ⟨⟨h.1.1, h.1.2.1, h.1.2.2.1, h.1.2.2.2.1, h.1.2.2.2.2.1, h.1.2.2.2.2.2⟩, h.2.1, h.2.2.1, h.2.2.2.1, h.2.2.2.2.1, h.2.2.2.2.2.1, h.2.2.2.2.2.2.1, h.2.2.2.2.2.2.2.1, h.2.2.2.2.2.2.2.2.1, rfl, h.2.2.2.2.2.2.2.2.2.2.1, h.2.2.2.2.2.2.2.2.2.2.2.1, h.2.2.2.2.2.2.2.2.2.2.2.2.1, h.2.2.2.2.2.2.2.2.2.2.2.2.2.1, h.2.2.2.2.2.2.2.2.2.2.2.2.2.2⟩
theorem fr.df (h : fr mo m sy0 on0 tw0 st0 df0 mk0 cm0 lv0 mn0) (e : m2 = Mo_different_s m x) : fr mo m2 sy0 on0 tw0 st0 x mk0 cm0 lv0 mn0 := by
  subst e
  exact ⟨⟨h.1.1, h.1.2.1, h.1.2.2.1, h.1.2.2.2.1, h.1.2.2.2.2.1, h.1.2.2.2.2.2⟩, h.2.1, h.2.2.1, h.2.2.2.1, h.2.2.2.2.1, h.2.2.2.2.2.1, h.2.2.2.2.2.2.1, h.2.2.2.2.2.2.2.1, h.2.2.2.2.2.2.2.2.1, h.2.2.2.2.2.2.2.2.2.1, rfl, h.2.2.2.2.2.2.2.2.2.2.2.1, h.2.2.2.2.2.2.2.2.2.2.2.2.1, h.2.2.2.2.2.2.2.2.2.2.2.2.2.1, h.2.2.2.2.2.2.2.2.2.2.2.2.2.2⟩
theorem fr.mk (h : fr mo m sy0 on0 tw0 st0 df0 mk0 cm0 lv0 mn0) (e : m2 = Mo_marked_s m f) : fr mo m2 sy0 on0 tw0 st0 df0 f cm0 lv0 mn0 := by
  subst e
  exact ⟨⟨h.1.1, h.1.2.1, h.1.2.2.1, h.1.2.2.2.1, h.1.2.2.2.2.1, h.1.2.2.2.2.2⟩, h.2.1, h.2.2.1, h.2.2.2.1, h.2.2.2.2.1, h.2.2.2.2.2.1, h.2.2.2.2.2.2.1, h.2.2.2.2.2.2.2.1, h.2.2.2.2.2.2.2.2.1, h.2.2.2.2.2.2.2.2.2.1, h.2.2.2.2.2.2.2.2.2.2.1, rfl, h.2.2.2.2.2.2.2.2.2.2.2.2.1, h.2.2.2.2.2.2.2.2.2.2.2.2.2.1, h.2.2.2.2.2.2.2.2.2.2.2.2.2.2⟩
theorem fr.cm (h : fr mo m sy0 on0 tw0 st0 df0 mk0 cm0 lv0 mn0) (e : m2 = Mo_came_s m f) : fr mo m2 sy0 on0 tw0 st0 df0 mk0 f lv0 mn0 := by
  subst e
  exact ⟨⟨h.1.1, h.1.2.1, h.1.2.2.1, h.1.2.2.2.1, h.1.2.2.2.2.1, h.1.2.2.2.2.2⟩, h.2.1, h.2.2.1, h.2.2.2.1, h.2.2.2.2.1, h.2.2.2.2.2.1, h.2.2.2.2.2.2.1, h.2.2.2.2.2.2.2.1, h.2.2.2.2.2.2.2.2.1, h.2.2.2.2.2.2.2.2.2.1, h.2.2.2.2.2.2.2.2.2.2.1, h.2.2.2.2.2.2.2.2.2.2.2.1, rfl, h.2.2.2.2.2.2.2.2.2.2.2.2.2.1, h.2.2.2.2.2.2.2.2.2.2.2.2.2.2⟩
theorem fr.lv (h : fr mo m sy0 on0 tw0 st0 df0 mk0 cm0 lv0 mn0) (e : m2 = Mo_level_s m f) : fr mo m2 sy0 on0 tw0 st0 df0 mk0 cm0 f mn0 := by
  subst e
  exact ⟨⟨h.1.1, h.1.2.1, h.1.2.2.1, h.1.2.2.2.1, h.1.2.2.2.2.1, h.1.2.2.2.2.2⟩, h.2.1, h.2.2.1, h.2.2.2.1, h.2.2.2.2.1, h.2.2.2.2.2.1, h.2.2.2.2.2.2.1, h.2.2.2.2.2.2.2.1, h.2.2.2.2.2.2.2.2.1, h.2.2.2.2.2.2.2.2.2.1, h.2.2.2.2.2.2.2.2.2.2.1, h.2.2.2.2.2.2.2.2.2.2.2.1, h.2.2.2.2.2.2.2.2.2.2.2.2.1, rfl, h.2.2.2.2.2.2.2.2.2.2.2.2.2.2⟩
theorem fr.mn (h : fr mo m sy0 on0 tw0 st0 df0 mk0 cm0 lv0 mn0) (e : m2 = Mo_many_s m f) : fr mo m2 sy0 on0 tw0 st0 df0 mk0 cm0 lv0 f := by
  subst e
  exact ⟨⟨h.1.1, h.1.2.1, h.1.2.2.1, h.1.2.2.2.1, h.1.2.2.2.2.1, h.1.2.2.2.2.2⟩, h.2.1, h.2.2.1, h.2.2.2.1, h.2.2.2.2.1, h.2.2.2.2.2.1, h.2.2.2.2.2.2.1, h.2.2.2.2.2.2.2.1, h.2.2.2.2.2.2.2.2.1, h.2.2.2.2.2.2.2.2.2.1, h.2.2.2.2.2.2.2.2.2.2.1, h.2.2.2.2.2.2.2.2.2.2.2.1, h.2.2.2.2.2.2.2.2.2.2.2.2.1, h.2.2.2.2.2.2.2.2.2.2.2.2.2.1, rfl⟩
theorem fr.op (h : fr mo m sy0 on0 tw0 st0 df0 mk0 cm0 lv0 mn0) (e : m2 = Mo_open_s m f) : fr mo m2 sy0 on0 tw0 st0 df0 mk0 cm0 lv0 mn0 ∧ Mo_open m2 = f := by
  subst e
  exact ⟨⟨⟨h.1.1, h.1.2.1, h.1.2.2.1, h.1.2.2.2.1, h.1.2.2.2.2.1, h.1.2.2.2.2.2⟩, h.2.1, h.2.2.1, h.2.2.2.1, h.2.2.2.2.1, h.2.2.2.2.2.1, h.2.2.2.2.2.2.1, h.2.2.2.2.2.2.2.1, h.2.2.2.2.2.2.2.2.1, h.2.2.2.2.2.2.2.2.2.1, h.2.2.2.2.2.2.2.2.2.2.1, h.2.2.2.2.2.2.2.2.2.2.2.1, h.2.2.2.2.2.2.2.2.2.2.2.2.1, h.2.2.2.2.2.2.2.2.2.2.2.2.2.1, h.2.2.2.2.2.2.2.2.2.2.2.2.2.2⟩, rfl⟩
end
/-- the store, and how many steps each of it has -/
def sX (T U : Tab) (R : Rul) (mo : Mo) : Prop := sMo T U mo ∧ Mo_stored mo = nI (48 + tn U - tn T) ∧ ∀ i, i < tn U → Mo_many mo (ix (tn T) i) = nI (wc U R i)
section
variable {T U : Tab} {R : Rul} {mo : Mo} {s a b : Nat}
theorem pc_eq {k q a b : Nat} (e : a = b) : pc k q a = pc k q b := by rw [e]
theorem codex (o : tOk U) (hn : tn T ≤ 48) {i : Nat} (hi : i < tn U) (f : tFit U s a b) : isT U s a b i ↔ (nI (ts U i) = nI s ∧ pc 1 (tq U i) (ix (tn T) (ta U i)) = pc 1 (tp U s) (ix (tn T) a) ∧ pc 2 (tq U i) (ix (tn T) (tb U i)) = pc 2 (tp U s) (ix (tn T) b)) := by
  have h := o.2.2 i hi
  have hl := o.le hi
  have fl := f.lt o
  have hn2 := o.1
  have f1 := f.1
  have b1 := ix_bd (n := tn T) (i := ta U i) (m := 521) (by omega)
  have b2 := ix_bd (n := tn T) (i := tb U i) (m := 521) (by omega)
  have b3 := ix_bd (n := tn T) (i := a) (m := 521) (by omega)
  have b4 := ix_bd (n := tn T) (i := b) (m := 521) (by omega)
  constructor
  · rintro ⟨i1, i2, i3, i4⟩
    have e : tq U i = tp U s := by unfold tq; rw [i2]
    rw [i2, e, i3, i4]
    exact ⟨rfl, rfl, rfl⟩
  · rintro ⟨h1, h2, h3⟩
    have e1 : ts U i = s := (nI_eq (by omega) (by omega)).mp h1
    have e : tq U i = tp U s := by unfold tq; rw [e1]
    rw [e] at h2 h3 h
    refine ⟨hi, e1, ?_, ?_⟩
    · by_cases q : tp U s < 1
      · rw [h.2.1 q, f.2.1 q]
      · exact ix_inj hn (pc_inj (k := 1) (by omega) (by omega) (by omega) h2)
    · by_cases q : tp U s < 2
      · rw [h.2.2.1 q, f.2.2.1 q]
      · exact ix_inj hn (pc_inj (k := 2) (by omega) (by omega) (by omega) h3)
theorem s_knownX {x2 x3 : Int32} {Q : Int32 → Prop} (hS : sMo T U mo) (f : tFit U s a b) (g2 : x2 = pc 1 (tp U s) (ix (tn T) a)) (g3 : x3 = pc 2 (tp U s) (ix (tn T) b)) (hQ : ∀ r, ((∃ u, u < tn T ∧ isT U s a b u ∧ r = nI u) ∨ (r = mI ∧ ∀ u, u < tn T → ¬ isT U s a b u)) → Q r) : p_Mo_known (nI s) x2 x3 mo Q := by
  obtain ⟨hM, hE, hb, c1, c2, c3⟩ := hS
  have hn := hM.2.1
  have hc := hM.2.2.1
  have hnE := hE.2.1
  unfold p_Mo_known
  refine forN (fun f i x => p_Mo_known_6 (nI s) x2 x3 mo Q f x i) (fun i x => (∃ u, u < i ∧ isT U s a b u ∧ x = nI u) ∨ (x = mI ∧ ∀ u, u < i → ¬ isT U s a b u)) (tn T) 0 _ (by omega) (Or.inr ⟨rfl, fun t ht => by omega⟩) ?_ ?_
  · intro f x hx
    unfold p_Mo_known_6
    rw [hc]
    try simp (disch := omega) only [↓mI_e, litI, cLeT, cLeF, cLtT, cLtF, cEqF, cEqT, mE1, mE2, mL1, mL2, mL3, mL4, cIn, nI_clamp, nI_add, cMul, cSub, cM1, nar0, nar1, true_implies, false_implies, not_true_eq_false, not_false_eq_true, true_and, and_true]
    exact hQ x hx
  · intro f' i x hi hx ih
    have ci := codex (T := T) hE.1 hn (show i < tn U by omega) f
    have d1 := c1 i (by omega)
    have d2 := c2 i (by omega)
    have d3 := c3 i (by omega)
    rw [ix_lt hi] at d1 d2 d3
    unfold p_Mo_known_6
    rw [hc]
    try simp (disch := omega) only [↓mI_e, litI, cLeT, cLeF, cLtT, cLtF, cEqF, cEqT, mE1, mE2, mL1, mL2, mL3, mL4, cIn, nI_clamp, nI_add, cMul, cSub, cM1, nar0, nar1, true_implies, false_implies, not_true_eq_false, not_false_eq_true, true_and, and_true]
    rw [d1, d2, d3, g2, g3]
    have no : ¬ isT U s a b i → p_Mo_known_6 (nI s) x2 x3 mo Q f' x (nI (i + 1)) := by
      intro g
      refine ih x ?_
      rcases hx with ⟨t, h3, h4, h5⟩ | ⟨h4, h5⟩
      · exact Or.inl ⟨t, by omega, h4, h5⟩
      · refine Or.inr ⟨h4, fun t ht k => ?_⟩
        by_cases e : t = i
        · exact g (e ▸ k)
        · exact h5 t (by omega) k
    rw [g2, g3] at no ih
    exact ⟨fun g1 => no (fun k => g1 (ci.mp k).1), fun g1 => ⟨fun g2 => no (fun k => g2 (ci.mp k).2.1), fun g2 => ⟨fun g3 => no (fun k => g3 (ci.mp k).2.2), fun g3 => ih _ (Or.inl ⟨i, by omega, ci.mpr ⟨g1, g2, g3⟩, rfl⟩)⟩⟩⟩
theorem s_tally {Q : Mo → Prop} {t q A B ya yb : Nat} (hr : rMo R mo) (ho : rOk T R) (hn : tn T ≤ 520) (ht : t < 520) (h1 : Mo_one mo t = pc 1 q A) (h2 : Mo_two mo t = pc 2 q B) (hA : 1 ≤ q → A < 520 ∧ Mo_many mo A = nI ya) (hB : 2 ≤ q → B < 520 ∧ Mo_many mo B = nI yb) (la : ya ≤ 1000000000) (lb : yb ≤ 1000000000) (hQ : ∀ m2, m2 = Mo_many_s mo (upd (Mo_many mo) t (nI (min 1000000000 (lc R t + (if 1 ≤ q then ya else 0) + (if 2 ≤ q then yb else 0))))) → Q m2) : p_Mo_tally (nI t) mo Q := by
  have l8 := lc_le ho t
  have k61 : ∀ ea eb : Nat, ea ≤ 1000000000 → eb ≤ 1000000000 → ea = (if 1 ≤ q then ya else 0) → eb = (if 2 ≤ q then yb else 0) → p_Mo_tally_61 (nI t) Q (nI eb) ((nI (lc R t)).toInt64 + (nI ea).toInt64) (nI t) mo := by
    intro ea eb h3 h4 e1 e2
    unfold p_Mo_tally_61
    rw [nI_l (by omega), nI_l (by omega), nI_l (by omega), lN_add, lN_add, capped_t (by omega), e1, e2]
    try simp (disch := omega) only [↓mI_e, litI, cLeT, cLeF, cLtT, cLtF, cEqF, cEqT, mE1, mE2, mL1, mL2, mL3, mL4, cIn, nI_clamp, nI_add, cMul, cSub, cM1, nar0, nar1, true_implies, false_implies, not_true_eq_false, not_false_eq_true, true_and, and_true]
    exact hQ
  have k35 : ∀ ea : Nat, ea ≤ 1000000000 → ea = (if 1 ≤ q then ya else 0) → p_Mo_tally_35 (nI t) Q (nI ea) (nI (lc R t)).toInt64 (nI t) mo := by
    intro ea h3 e1
    unfold p_Mo_tally_35
    try simp (disch := omega) only [↓mI_e, litI, cLeT, cLeF, cLtT, cLtF, cEqF, cEqT, mE1, mE2, mL1, mL2, mL3, mL4, cIn, nI_clamp, nI_add, cMul, cSub, cM1, nar0, nar1, true_implies, false_implies, not_true_eq_false, not_false_eq_true, true_and, and_true]
    rw [h2]
    by_cases h : 2 ≤ q
    · have hb := hB h
      have hb1 := hb.1
      try simp (disch := omega) only [↓mI_e, litI, cLeT, cLeF, cLtT, cLtF, cEqF, cEqT, mE1, mE2, mL1, mL2, mL3, mL4, cIn, nI_clamp, nI_add, cMul, cSub, cM1, nar0, nar1, true_implies, false_implies, not_true_eq_false, not_false_eq_true, true_and, and_true, pc0]
      rw [pc_n h]
      try simp (disch := omega) only [↓mI_e, litI, cLeT, cLeF, cLtT, cLtF, cEqF, cEqT, mE1, mE2, mL1, mL2, mL3, mL4, cIn, nI_clamp, nI_add, cMul, cSub, cM1, nar0, nar1, true_implies, false_implies, not_true_eq_false, not_false_eq_true, true_and, and_true]
      rw [hb.2]
      exact k61 ea yb h3 lb e1 (if_pos h).symm
    · try simp (disch := omega) only [↓mI_e, litI, cLeT, cLeF, cLtT, cLtF, cEqF, cEqT, mE1, mE2, mL1, mL2, mL3, mL4, cIn, nI_clamp, nI_add, cMul, cSub, cM1, nar0, nar1, true_implies, false_implies, not_true_eq_false, not_false_eq_true, true_and, and_true, pc0']
      exact k61 ea 0 h3 (by omega) e1 (if_neg h).symm
  unfold p_Mo_tally
  refine s_lefts hr ho hn (by omega) ?_
  try simp (disch := omega) only [↓mI_e, litI, cLeT, cLeF, cLtT, cLtF, cEqF, cEqT, mE1, mE2, mL1, mL2, mL3, mL4, cIn, nI_clamp, nI_add, cMul, cSub, cM1, nar0, nar1, true_implies, false_implies, not_true_eq_false, not_false_eq_true, true_and, and_true]
  rw [h1]
  by_cases h : 1 ≤ q
  · have ha := hA h
    have ha1 := ha.1
    try simp (disch := omega) only [↓mI_e, litI, cLeT, cLeF, cLtT, cLtF, cEqF, cEqT, mE1, mE2, mL1, mL2, mL3, mL4, cIn, nI_clamp, nI_add, cMul, cSub, cM1, nar0, nar1, true_implies, false_implies, not_true_eq_false, not_false_eq_true, true_and, and_true, pc0]
    rw [pc_n h]
    try simp (disch := omega) only [↓mI_e, litI, cLeT, cLeF, cLtT, cLtF, cEqF, cEqT, mE1, mE2, mL1, mL2, mL3, mL4, cIn, nI_clamp, nI_add, cMul, cSub, cM1, nar0, nar1, true_implies, false_implies, not_true_eq_false, not_false_eq_true, true_and, and_true]
    rw [ha.2]
    exact k35 ya la (if_pos h).symm
  · try simp (disch := omega) only [↓mI_e, litI, cLeT, cLeF, cLtT, cLtF, cEqF, cEqT, mE1, mE2, mL1, mL2, mL3, mL4, cIn, nI_clamp, nI_add, cMul, cSub, cM1, nar0, nar1, true_implies, false_implies, not_true_eq_false, not_false_eq_true, true_and, and_true, pc0']
    exact k35 0 (by omega) (if_neg h).symm
def fnd (T U : Tab) (s a b N : Nat) (x : Int32) : Prop := (∃ u, u < N ∧ isT U s a b u ∧ x = nI (ix (tn T) u)) ∨ (x = mI ∧ ∀ u, u < N → ¬ isT U s a b u)
theorem s_store {x2 x3 : Int32} {Q : Int32 → Mo → Prop} (hX : sX T U R mo) (hr : rMo R mo) (ho : rOk T R) (f : tFit U s a b) (g2 : x2 = pc 1 (tp U s) (ix (tn T) a)) (g3 : x3 = pc 2 (tp U s) (ix (tn T) b)) (h1 : ∀ u, isT U s a b u → Q (nI (ix (tn T) u)) mo) (h2 : (∀ u, ¬ isT U s a b u) → tn U + (48 - tn T) = 520 → Q mI mo) (h3 : (∀ u, ¬ isT U s a b u) → tn U + (48 - tn T) < 520 → ∀ m, sX T (tAdd U s a b) R m → fr mo m (Mo_symbol m) (Mo_one m) (Mo_two m) (Mo_stored m) (Mo_different mo) (upd (Mo_marked mo) (ix (tn T) (tn U)) (nI 0)) (upd (Mo_came mo) (ix (tn T) (tn U)) (nI 0)) (Mo_level mo) (Mo_many m) → Q (nI (ix (tn T) (tn U))) m) : p_Mo_store (nI s) x2 x3 mo Q := by
  obtain ⟨hS, hst, hmn⟩ := hX
  have hS0 := hS
  obtain ⟨hM, hE, hb, c1, c2, c3⟩ := hS0
  have hn := hM.2.1
  have o := hE.1
  have hnE := hE.2.1
  have fl := f.lt o
  have eN : ix (tn T) (tn U) = 48 + tn U - tn T := by rw [ix_ge (by omega)]; omega
  unfold p_Mo_store
  refine s_knownX hS f g2 g3 (fun r hr0 => ?_)
  have init : fnd T U s a b (tn T + (48 - 48)) r := by
    unfold fnd
    rw [Nat.sub_self, Nat.add_zero]
    rcases hr0 with ⟨u, u1, u2, u3⟩ | k
    · exact Or.inl ⟨u, u1, u2, by rw [ix_lt u1]; exact u3⟩
    · exact Or.inr k
  clear hr0
  refine forN (fun g i x => p_Mo_store_13 (nI s) x2 x3 Q g x i mo) (fun i x => 48 ≤ i ∧ fnd T U s a b (tn T + (i - 48)) x) (48 + tn U - tn T) 48 r (by omega) ⟨Nat.le_refl _, init⟩ ?_ ?_
  · rintro g x ⟨-, hx⟩
    rw [show tn T + (48 + tn U - tn T - 48) = tn U by omega] at hx
    unfold p_Mo_store_13
    rw [hst]
    rcases hx with ⟨u, u1, u2, rfl⟩ | ⟨rfl, no⟩
    · have := ix_bd (n := tn T) u1
      try simp (disch := omega) only [↓mI_e, litI, cLeT, cLeF, cLtT, cLtF, cEqF, cEqT, mE1, mE2, mL1, mL2, mL3, mL4, cIn, nI_clamp, nI_add, cMul, cSub, cM1, nar0, nar1, true_implies, false_implies, not_true_eq_false, not_false_eq_true, true_and, and_true]
      exact h1 u u2
    · have no' : ∀ u, ¬ isT U s a b u := fun u k => no u k.1 k
      by_cases h520 : tn U + (48 - tn T) = 520
      · rw [show 48 + tn U - tn T = 520 by omega]
        try simp (disch := omega) only [↓mI_e, litI, cLeT, cLeF, cLtT, cLtF, cEqF, cEqT, mE1, mE2, mL1, mL2, mL3, mL4, cIn, nI_clamp, nI_add, cMul, cSub, cM1, nar0, nar1, true_implies, false_implies, not_true_eq_false, not_false_eq_true, true_and, and_true]
        exact h2 no' h520
      · try simp (disch := omega) only [↓mI_e, litI, cLeT, cLeF, cLtT, cLtF, cEqF, cEqT, mE1, mE2, mL1, mL2, mL3, mL4, cIn, nI_clamp, nI_add, cMul, cSub, cM1, nar0, nar1, true_implies, false_implies, not_true_eq_false, not_false_eq_true, true_and, and_true]
        intro m1 e1
        have w1 := (fr.rf mo).sy e1
        clear e1
        rw [w1.2.2.2.2.2.2.2.2.2.1, hst]
        try simp (disch := omega) only [↓mI_e, litI, cLeT, cLeF, cLtT, cLtF, cEqF, cEqT, mE1, mE2, mL1, mL2, mL3, mL4, cIn, nI_clamp, nI_add, cMul, cSub, cM1, nar0, nar1, true_implies, false_implies, not_true_eq_false, not_false_eq_true, true_and, and_true]
        intro m3 e3
        have w2 := w1.on e3
        clear e3
        rw [w2.2.2.2.2.2.2.2.2.2.1, hst]
        try simp (disch := omega) only [↓mI_e, litI, cLeT, cLeF, cLtT, cLtF, cEqF, cEqT, mE1, mE2, mL1, mL2, mL3, mL4, cIn, nI_clamp, nI_add, cMul, cSub, cM1, nar0, nar1, true_implies, false_implies, not_true_eq_false, not_false_eq_true, true_and, and_true]
        intro m4 e4
        have w3 := w2.tw e4
        clear e4
        rw [w3.2.2.2.2.2.2.2.2.2.1, hst]
        have hp2 := o.2.1 s
        have ba := ix_bd (n := tn T) (i := a) (m := tn U)
        have bb := ix_bd (n := tn T) (i := b) (m := tn U)
        have hrm : rMo R m4 := hr.kr w3.1
        refine s_tally (q := tp U s) (A := ix (tn T) a) (B := ix (tn T) b) (ya := wc U R a) (yb := wc U R b) hrm ho (by omega) (by omega) ?_ ?_ (fun q => ⟨?_, ?_⟩) (fun q => ⟨?_, ?_⟩) (wc_le _ _ _) (wc_le _ _ _) (fun m5 e5 => ?_)
        · rw [w3.2.2.2.2.2.2.2.1, w1.2.2.2.2.2.2.2.1, upd_s rfl]
          exact g2
        · rw [w3.2.2.2.2.2.2.2.2.1, w2.2.2.2.2.2.2.2.2.1, upd_s rfl]
          exact g3
        · have := ba (f.2.2.2.1 q); omega
        · rw [w3.2.2.2.2.2.2.2.2.2.2.2.2.2.2]; exact hmn a (f.2.2.2.1 q)
        · have := bb (f.2.2.2.2 q); omega
        · rw [w3.2.2.2.2.2.2.2.2.2.2.2.2.2.2]; exact hmn b (f.2.2.2.2 q)
        have w4 := w3.mn e5
        clear e5
        rw [w4.2.2.2.2.2.2.2.2.2.1, hst]
        try simp (disch := omega) only [↓mI_e, litI, cLeT, cLeF, cLtT, cLtF, cEqF, cEqT, mE1, mE2, mL1, mL2, mL3, mL4, cIn, nI_clamp, nI_add, cMul, cSub, cM1, nar0, nar1, true_implies, false_implies, not_true_eq_false, not_false_eq_true, true_and, and_true]
        intro m6 e6
        have w5 := w4.cm e6
        clear e6
        rw [w5.2.2.2.2.2.2.2.2.2.1, hst]
        try simp (disch := omega) only [↓mI_e, litI, cLeT, cLeF, cLtT, cLtF, cEqF, cEqT, mE1, mE2, mL1, mL2, mL3, mL4, cIn, nI_clamp, nI_add, cMul, cSub, cM1, nar0, nar1, true_implies, false_implies, not_true_eq_false, not_false_eq_true, true_and, and_true]
        intro m7 e7
        have w6 := w5.mk e7
        clear e7
        intro m8 e8
        have w7 := w6.st e8
        clear e8
        rw [w7.2.2.2.2.2.2.2.2.2.1, w6.2.2.2.2.2.2.2.2.2.1, hst]
        try simp (disch := omega) only [↓mI_e, litI, cLeT, cLeF, cLtT, cLtF, cEqF, cEqT, mE1, mE2, mL1, mL2, mL3, mL4, cIn, nI_clamp, nI_add, cMul, cSub, cM1, nar0, nar1, true_implies, false_implies, not_true_eq_false, not_false_eq_true, true_and, and_true]
        rw [show 48 + tn U - tn T + 1 - 1 = ix (tn T) (tn U) by omega]
        have ok' := tOk_add o (by omega) f no'
        have ag := tAg_add U s a b
        have xE : ext U (tAdd U s a b) := ⟨ok', by rw [tn_add]; omega, ag⟩
        have oth : ∀ i, i < tn U → ix (tn T) i ≠ 48 + tn U - tn T := by
          intro i hi e
          rw [← eN] at e
          have := ix_inj hn e
          omega
        obtain ⟨v1, v2, v3, v4, v5, v6, v7, v8, v9, v10, v11, v12, v13, v14, v15⟩ := w7
        refine h3 no' (by omega) m8 ⟨⟨?_, hE.tr xE, by rw [tn_add]; omega, fun i hi => ?_, fun i hi => ?_, fun i hi => ?_⟩, ?_, fun i hi => ?_⟩ ?_
        · refine ⟨hM.1, hn, by rw [v3]; exact hM.2.2.1, by rw [v2]; exact hM.2.2.2.1, fun t ht => ?_, fun t ht => ?_, fun t ht => ?_⟩
          · rw [v7, upd_n (by omega)]; exact hM.2.2.2.2.1 t ht
          · rw [v8, w1.2.2.2.2.2.2.2.1, upd_n (by omega)]; exact hM.2.2.2.2.2.1 t ht
          · rw [v9, w2.2.2.2.2.2.2.2.2.1, upd_n (by omega)]; exact hM.2.2.2.2.2.2 t ht
        · rw [tn_add] at hi
          rw [v7]
          by_cases e : i = tn U
          · subst e; rw [ts_add, upd_s eN]
          · rw [← (ag.2 i (by omega)).1, upd_n (oth i (by omega))]
            exact c1 i (by omega)
        · rw [tn_add] at hi
          rw [v8, w1.2.2.2.2.2.2.2.1]
          by_cases e : i = tn U
          · subst e; rw [ta_add, tq_add, upd_s eN]; exact g2
          · rw [← (ag.2 i (by omega)).2.1, ← ag.q (by omega), upd_n (oth i (by omega))]
            exact c2 i (by omega)
        · rw [tn_add] at hi
          rw [v9, w2.2.2.2.2.2.2.2.2.1]
          by_cases e : i = tn U
          · subst e; rw [tb_add, tq_add, upd_s eN]; exact g3
          · rw [← (ag.2 i (by omega)).2.2, ← ag.q (by omega), upd_n (oth i (by omega))]
            exact c3 i (by omega)
        · rw [v10, w6.2.2.2.2.2.2.2.2.2.1, hst, nI_add, tn_add]
          exact congrArg nI (by omega)
        · rw [tn_add] at hi
          rw [v15, w3.2.2.2.2.2.2.2.2.2.2.2.2.2.2]
          by_cases e : i = tn U
          · subst e
            rw [upd_s eN, wc_eq ok' (by rw [tn_add]; omega), tq_add, ta_add, tb_add, ← eN, lc_ix ho hn]
            refine congrArg nI ?_
            by_cases q1 : 1 ≤ tp U s
            · have a1 := f.2.2.2.1 q1
              have e1 : wc (tAdd U s a b) R a = wc U R a := (ag.wte o (by omega) (fun _ _ => rfl) a1).symm
              rw [if_pos q1, if_pos q1, e1]
              by_cases q2 : 2 ≤ tp U s
              · have a2 := f.2.2.2.2 q2
                have e2 : wc (tAdd U s a b) R b = wc U R b := (ag.wte o (by omega) (fun _ _ => rfl) a2).symm
                rw [if_pos q2, if_pos q2, e2]
              · rw [if_neg q2, if_neg q2]
            · rw [if_neg q1, if_neg q1, if_neg (by omega), if_neg (by omega)]
          · rw [upd_n (oth i (by omega)), hmn i (by omega)]
            exact congrArg nI (ag.wte o (by omega) (fun _ _ => rfl) (by omega))
        · rw [eN]
          refine ⟨v1, v2, v3, v4, v5, v6, rfl, rfl, rfl, rfl, v11, ?_, ?_, v14, rfl⟩
          · rw [v12, w5.2.2.2.2.2.2.2.2.2.2.2.1]
          · rw [v13, w4.2.2.2.2.2.2.2.2.2.2.2.2.1]
  · rintro g i x hi ⟨h48, hx⟩ ih
    · obtain ⟨k, rfl⟩ : ∃ k, i = 48 + k := ⟨i - 48, by omega⟩
      have ek : ix (tn T) (tn T + k) = 48 + k := by rw [ix_ge (by omega)]; omega
      have hk : tn T + k < tn U := by omega
      rw [show 48 + k - 48 = k by omega] at hx
      have d1 := c1 _ hk
      have d2 := c2 _ hk
      have d3 := c3 _ hk
      rw [ek] at d1 d2 d3
      have ci := codex (T := T) o hn hk f
      unfold p_Mo_store_13
      rw [hst]
      try simp (disch := omega) only [↓mI_e, litI, cLeT, cLeF, cLtT, cLtF, cEqF, cEqT, mE1, mE2, mL1, mL2, mL3, mL4, cIn, nI_clamp, nI_add, cMul, cSub, cM1, nar0, nar1, true_implies, false_implies, not_true_eq_false, not_false_eq_true, true_and, and_true]
      rw [d1, d2, d3, g2, g3]
      have no : ¬ isT U s a b (tn T + k) → p_Mo_store_13 (nI s) x2 x3 Q g x (nI (48 + k + 1)) mo := by
        intro gg
        refine ih x ⟨by omega, ?_⟩
        rw [show 48 + k + 1 - 48 = k + 1 by omega]
        rcases hx with ⟨t, h3, h4, h5⟩ | ⟨h4, h5⟩
        · exact Or.inl ⟨t, by omega, h4, h5⟩
        · refine Or.inr ⟨h4, fun t ht k' => ?_⟩
          by_cases e : t = tn T + k
          · exact gg (e ▸ k')
          · exact h5 t (by omega) k'
      have yes : isT U s a b (tn T + k) → p_Mo_store_13 (nI s) x2 x3 Q g (nI (48 + k)) (nI (48 + k + 1)) mo := by
        intro gg
        exact ih _ ⟨by omega, Or.inl ⟨tn T + k, by omega, gg, by rw [ek]⟩⟩
      rw [g2, g3] at no yes
      exact ⟨fun g1 => no (fun k => g1 (ci.mp k).1), fun g1 => ⟨fun g2 => no (fun k => g2 (ci.mp k).2.1), fun g2 => ⟨fun g3 => no (fun k => g3 (ci.mp k).2.2), fun g3 => yes (ci.mpr ⟨g1, g2, g3⟩)⟩⟩⟩
end
