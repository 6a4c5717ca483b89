/-! a step inside a part -/
def lf (E : Tab) (t b x : Nat) : Nat := if b = 1 then co (ts E t) (x + 1) (pb E t) else co (ts E t) (pa E t) (x + 1)
theorem lf_ext {E V : Tab} (h : ext E V) {t b x : Nat} (ht : t < tn E) : lf V t b x = lf E t b x := by
  unfold lf
  rw [(h.f ht).1, (den_q h ht).1, (den_q h ht).2]
theorem BI.mono {T E : Tab} {te : Te} {ct : Nat → Int32} {C : Int32} {N M : Nat} (h : BI T E te ct C N) (hN : N ≤ M) : BI T E te ct C M := by
  obtain ⟨h1, h2, h3, h4, c, h5, h6, h7⟩ := h
  exact ⟨h1, h2, h3, h4, c, h5, h6, by omega⟩
section
variable {T E : Tab} {R : Rul} {s l : Nat} {te : Te} {af il nw cm : Nat → Int64} {ct ex wa : Nat → Int32} {C : Int32}
theorem inc_B {Q : Le → Prop} {r : Int32} {t : Nat} (ht : t < 448) (hr : r = mI ∨ ∃ u, u < 448 ∧ r = nI u) (h : ∀ af', Q (af', ct, ex, il, nw, cm, wa, C)) : p_Le_include_after (nI (t * 7)) r (af, ct, ex, il, nw, cm, wa, C) Q := by
  rcases hr with rfl | ⟨u, hu, rfl⟩
  · unfold p_Le_include_after
    try simp (disch := omega) only [↓mI_e, litI, cLeT, cLeF, cLtT, cLtF, cEqF, cEqT, mE1, mE2, mL1, mL2, mL3, mL4, cIn, nI_clamp, nI_add, cMul, cSub, cM1, nar0, nar1, true_implies, false_implies, not_true_eq_false, not_false_eq_true, true_and, and_true]
    exact h af
  · rw [inc_af hu (by omega)]
    exact h _
theorem CI_BI {N : Nat} (h : CI T E R s l te af il nw ct ex C) (k : BI T E te ct C N) (hN : N < 2 ^ 31) : False := by
  obtain ⟨c, e1, e2, e3⟩ := k.2.2.2.2
  have a := h.2.2.2.2.2.1
  have b := h.2.2.2.2.2.2.1
  rw [e1] at a
  have := (nI_eq (by omega) (by omega)).mp a
  omega
/-- what is known of the part p of t whose steps are lifted -/
def sipH (T E : Tab) (R : Rul) (s l : Nat) (ex ct : Nat → Int32) (t p b : Nat) : Prop := t < tn E ∧ gc ct t ∧ pcl (lvl T R s l) (den E t) ∧ p < t ∧ gc ex p ∧ ((b = 1 ∧ 1 ≤ tq E t ∧ p = ta E t) ∨ (b = 0 ∧ 2 ≤ tq E t ∧ p = tb E t))
theorem s_sip {Q : Te → Le → Prop} {t p b N : Nat} (hT48 : tn T ≤ 48) (hN : 900 ≤ N) (hN2 : N < 2 ^ 28) (ht : t < tn E) (hp : p < 448) (hb : (b = 1 ∧ 1 ≤ tq E t) ∨ (b = 0 ∧ 2 ≤ tq E t)) (h : (CI T E R s l te af il nw ct ex C ∧ sipH T E R s l ex ct t p b) ∨ (BI T E te ct C N ∧ big (pcl (lvl T R s (l + 1))))) (h1 : CI T E R s l te af il nw ct ex C → ∀ V te' af' ct' C', CI T V R s l te' af' il nw ct' ex C' → ext E V → (∀ i, gc ct i → gc ct' i) → (∀ k, k < 448 → bt af t k → bt af' t k) → (∀ z, stp T R (den E p) z → ∃ k, k < tn V ∧ bt af' t k ∧ den V k = lf E t b z) → Q te' (af', ct', ex, il, nw, cm, wa, C')) (h2 : ∀ V te' af' ct' C', BI T V te' ct' C' (N + 448 * 448) → big (pcl (lvl T R s (l + 1))) → ext E V → Q te' (af', ct', ex, il, nw, cm, wa, C')) : p_Le_stepInPart (nI t) (nI p) (nI b) te (af, ct, ex, il, nw, cm, wa, C) Q := by
  have t448 : t < 448 := by
    rcases h with h | h
    · have := h.1.1.2.1; omega
    · have := h.1.1.2.1; omega
  have oE : tOk E := by
    rcases h with h | h
    · exact h.1.1.1
    · exact h.1.1.1
  have b01 : b = 0 ∨ b = 1 := by
    rcases hb with h | h
    · exact Or.inr h.1
    · exact Or.inl h.1
  unfold p_Le_stepInPart
  refine forN (fun f w (y : Te × (Nat → Int64) × (Nat → Int32) × Int32) => p_Le_stepInPart_3 (nI t) (nI p) (nI b) Q f w y.1 (y.2.1, y.2.2.1, ex, il, nw, cm, wa, y.2.2.2)) (fun w y => ∃ V, ext E V ∧ ((CI T V R s l y.1 y.2.1 il nw y.2.2.1 ex y.2.2.2 ∧ sipH T E R s l ex ct t p b ∧ CI T E R s l te af il nw ct ex C ∧ (∀ i, gc ct i → gc y.2.2.1 i) ∧ (∀ q v, q ≠ t → v < 7 → y.2.1 (q * 7 + v) = af (q * 7 + v)) ∧ (∀ k, k < 448 → bt af t k → bt y.2.1 t k) ∧ (∀ k, k < 448 → k < 64 * w → bt af p k → ∃ u, u < tn V ∧ bt y.2.1 t u ∧ den V u = lf E t b (den E k))) ∨ (BI T V y.1 y.2.2.1 y.2.2.2 (N + 448 * (64 * w)) ∧ big (pcl (lvl T R s (l + 1)))))) 7 0 (te, af, ct, C) (by omega) ⟨E, ext.rf oE, ?_⟩ ?_ ?_
  · rcases h with h | h
    · exact Or.inl ⟨h.1, h.2, h.1, fun i a => a, fun q v _ _ => rfl, fun k _ a => a, fun k _ hk => by omega⟩
    · exact Or.inr h
  · rintro f ⟨te', af', ct', C'⟩ ⟨V, hV, hJ⟩
    dsimp only at hJ ⊢
    unfold p_Le_stepInPart_3
    try simp (disch := omega) only [↓mI_e, litI, cLeT, cLeF, cLtT, cLtF, cEqF, cEqT, mE1, mE2, mL1, mL2, mL3, mL4, cIn, nI_clamp, nI_add, cMul, cSub, cM1, nar0, nar1, true_implies, false_implies, not_true_eq_false, not_false_eq_true, true_and, and_true]
    rcases hJ with ⟨j1, j2, j3, j4, j5, j6, j7⟩ | ⟨j1, j2⟩
    · refine h1 j3 V te' af' ct' C' j1 hV j4 j6 (fun z hz => ?_)
      obtain ⟨k, k1, k2, k3⟩ := (j3.2.2.2.2.2.2.2.2.2.2.1 p (by have := j2.2.2.2.1; omega) j2.2.2.2.2.1).2 z hz
      have hn := j3.1.2.1
      obtain ⟨u, u1, u2, u3⟩ := j7 k (by omega) (by omega) k2
      exact ⟨u, u1, u2, by rw [u3, k3]⟩
    · exact h2 V te' af' ct' C' j1 j2 hV
  · rintro f w ⟨te', af', ct', C'⟩ hw ⟨V0, hV0, hJ⟩ ih
    dsimp only at hJ ih ⊢
    unfold p_Le_stepInPart_3
    try simp (disch := omega) only [↓mI_e, litI, cLeT, cLeF, cLtT, cLtF, cEqF, cEqT, mE1, mE2, mL1, mL2, mL3, mL4, cIn, nI_clamp, nI_add, cMul, cSub, cM1, nar0, nar1, true_implies, false_implies, not_true_eq_false, not_false_eq_true, true_and, and_true]
    refine forN (fun f' i (y : Int64 × Te × (Nat → Int64) × (Nat → Int32) × Int32) => p_Le_stepInPart_27 (nI t) (nI p) (nI b) Q (fun a0 a1 a2 => p_Le_stepInPart_3 (nI t) (nI p) (nI b) Q f a0 a1 a2) f' (nI w) y.1 i y.2.1 (y.2.2.1, y.2.2.2.1, ex, il, nw, cm, wa, y.2.2.2.2)) (fun i y => ∃ V, ext E V ∧ ((CI T V R s l y.2.1 y.2.2.1 il nw y.2.2.2.1 ex y.2.2.2.2 ∧ sipH T E R s l ex ct t p b ∧ CI T E R s l te af il nw ct ex C ∧ (∀ i, gc ct i → gc y.2.2.2.1 i) ∧ (∀ q v, q ≠ t → v < 7 → y.2.2.1 (q * 7 + v) = af (q * 7 + v)) ∧ (∀ k, k < 448 → bt af t k → bt y.2.2.1 t k) ∧ (∀ k, k < 448 → k < 64 * w + i → bt af p k → ∃ u, u < tn V ∧ bt y.2.2.1 t u ∧ den V u = lf E t b (den E k)) ∧ (∀ v, bl y.1 v ↔ bl (af (p * 7 + w)) (v + i))) ∨ (BI T V y.2.1 y.2.2.2.1 y.2.2.2.2 (N + 448 * (64 * w + i)) ∧ big (pcl (lvl T R s (l + 1)))))) 64 0 (af' (p * 7 + w), te', af', ct', C') (by omega) ⟨V0, hV0, ?_⟩ ?_ ?_
    · dsimp only
      rcases hJ with ⟨j1, j2, j3, j4, j5, j6, j7⟩ | hJ
      · refine Or.inl ⟨j1, j2, j3, j4, j5, j6, fun k a b => j7 k a (by omega), fun v => ?_⟩
        rw [j5 p w (by have := j2.2.2.2.1; omega) hw]
        exact Iff.rfl
      · exact Or.inr hJ
    · rintro f' ⟨x5, te2, af2, ct2, C2⟩ ⟨V, hV, hK⟩
      dsimp only at hK ⊢
      unfold p_Le_stepInPart_27
      try simp (disch := omega) only [↓mI_e, litI, cLeT, cLeF, cLtT, cLtF, cEqF, cEqT, mE1, mE2, mL1, mL2, mL3, mL4, cIn, nI_clamp, nI_add, cMul, cSub, cM1, nar0, nar1, true_implies, false_implies, not_true_eq_false, not_false_eq_true, true_and, and_true]
      refine ih (te2, af2, ct2, C2) ⟨V, hV, ?_⟩
      rcases hK with ⟨j1, j2, j3, j4, j5, j6, j7, j8⟩ | ⟨j1, j2⟩
      · exact Or.inl ⟨j1, j2, j3, j4, j5, j6, fun k a b => j7 k a (by omega)⟩
      · refine Or.inr ⟨BI.mono (N := N + 448 * (64 * w + 64)) (M := N + 448 * (64 * (w + 1))) j1 ?_, j2⟩
        rw [Nat.mul_succ]
        exact Nat.le_refl _
    · rintro f' i ⟨x5, te2, af2, ct2, C2⟩ hi ⟨V, hV, hK⟩ ih2
      dsimp only at hK ih2 ⊢
      have htV : t < tn V := by have := hV.2.1; omega
      obtain ⟨v1, v2, v3, v4⟩ := hV.f ht
      unfold p_Le_stepInPart_27
      try simp (disch := omega) only [↓mI_e, litI, cLeT, cLeF, cLtT, cLtF, cEqF, cEqT, mE1, mE2, mL1, mL2, mL3, mL4, cIn, nI_clamp, nI_add, cMul, cSub, cM1, nar0, nar1, true_implies, false_implies, not_true_eq_false, not_false_eq_true, true_and, and_true]
      refine ⟨fun hz => ?_, fun hnz => ⟨fun hz => ?_, fun hz => ?_⟩⟩
      · -- nothing is left in this word
        refine ih (te2, af2, ct2, C2) ⟨V, hV, ?_⟩
        rcases hK with ⟨j1, j2, j3, j4, j5, j6, j7, j8⟩ | ⟨j1, j2⟩
        · refine Or.inl ⟨j1, j2, j3, j4, j5, j6, fun k a b c => ?_⟩
          by_cases hk : k < 64 * w + i
          · exact j7 k a hk c
          · unfold bt at c
            rw [show k / 64 = w by omega] at c
            have := (j8 (k % 64 - i)).mpr (by rw [show k % 64 - i + i = k % 64 by omega]; exact c)
            exact absurd this (bl_nz hz _)
        · exact Or.inr ⟨j1.mono (by omega), j2⟩
      · -- not this one
        rw [bl_and1] at hz
        unfold p_Le_stepInPart_122
        try simp (disch := omega) only [↓mI_e, litI, cLeT, cLeF, cLtT, cLtF, cEqF, cEqT, mE1, mE2, mL1, mL2, mL3, mL4, cIn, nI_clamp, nI_add, cMul, cSub, cM1, nar0, nar1, true_implies, false_implies, not_true_eq_false, not_false_eq_true, true_and, and_true]
        refine ih2 ((x5.toUInt64 >>> ((nI 1).toInt64.toUInt64 &&& Int64.toUInt64 63)).toInt64, te2, af2, ct2, C2) ⟨V, hV, ?_⟩
        rcases hK with ⟨j1, j2, j3, j4, j5, j6, j7, j8⟩ | ⟨j1, j2⟩
        · refine Or.inl ⟨j1, j2, j3, j4, j5, j6, fun k a b c => ?_, fun v => ?_⟩
          · by_cases hk : k < 64 * w + i
            · exact j7 k a hk c
            · unfold bt at c
              rw [show k / 64 = w by omega, show k % 64 = 0 + i by omega] at c
              exact absurd ((j8 0).mpr c) hz
          · dsimp only
            rw [bl_ushr, j8, show v + 1 + i = v + (i + 1) by omega]
        · exact Or.inr ⟨j1.mono (by (try dsimp only); omega), j2⟩
      · rw [bl_and1, Classical.not_not] at hz
        -- what follows, the bit being dealt with
        have nextB : ∀ V te3 af3 ct3 C3, ext E V → BI T V te3 ct3 C3 (N + 448 * (64 * w + (i + 1))) → big (pcl (lvl T R s (l + 1))) → p_Le_stepInPart_27 (nI t) (nI p) (nI b) Q (fun a0 a1 a2 => p_Le_stepInPart_3 (nI t) (nI p) (nI b) Q f a0 a1 a2) f' (nI w) ((x5.toUInt64 >>> ((nI 1).toInt64.toUInt64 &&& Int64.toUInt64 63)).toInt64) (nI (i + 1)) te3 (af3, ct3, ex, il, nw, cm, wa, C3) := by
          intro V te3 af3 ct3 C3 q0 q1 q2
          exact ih2 ((x5.toUInt64 >>> ((nI 1).toInt64.toUInt64 &&& Int64.toUInt64 63)).toInt64, te3, af3, ct3, C3) ⟨V, q0, Or.inr ⟨q1, q2⟩⟩
        rcases hK with ⟨j1, j2, j3, j4, j5, j6, j7, j8⟩ | ⟨j1, j2⟩
        · have j10 := j1
          obtain ⟨d1, d2, d3, d4, d5, d6, d7, d8, d9, dr, d11, d12, d13⟩ := j1
          obtain ⟨s1, s2, s3, s4, s5, s6⟩ := j2
          have hVn := hV.2.1
          have hV448 := d1.2.1
          have oV := d1.1
          have ot := oV.2.2 t htV
          have hrow : af2 (p * 7 + w) = af (p * 7 + w) := j5 p w (by omega) hw
          have hbk : bt af2 p (64 * w + i) := by
            unfold bt
            rw [show (64 * w + i) / 64 = w by omega, show (64 * w + i) % 64 = 0 + i by omega, hrow]
            exact (j8 0).mp hz
          have hbk0 : bt af p (64 * w + i) := by
            unfold bt
            rw [show (64 * w + i) / 64 = w by omega, show (64 * w + i) % 64 = 0 + i by omega]
            exact (j8 0).mp hz
          obtain ⟨kE, -, -⟩ := j3.2.2.2.2.2.2.2.2.2.1 p (64 * w + i) (by omega) (by omega) hbk0
          obtain ⟨k1, k2, k3⟩ := dr p (64 * w + i) (by omega) (by omega) hbk
          have htc : gc ct2 t := j4 t s2
          have dt := den_ext hV ht
          have dpV := den_ext hV (show p < tn E by omega)
          have dkV := den_ext hV kE
          rw [dpV, dkV] at k3
          have hlk : stp T R (den V t) (lf E t b (den E (64 * w + i))) := by
            rw [dt, den_eq oE ht]
            unfold lf
            rcases s6 with ⟨e1, e2, e3⟩ | ⟨e1, e2, e3⟩
            · rw [if_pos e1, pa_t e2, ← e3]
              exact stp.a k3
            · rw [if_neg (by omega), pb_t e2, ← e3]
              exact stp.b k3
          have hXk : pcl (lvl T R s (l + 1)) (lf E t b (den E (64 * w + i))) := xl_stp (by rw [dt]; exact s3) hlk
          -- the answer of the search, counted
          have got : ∀ (V3 : Tab) (te3 : Te) (ct3 : Nat → Int32) (C3 : Int32) (u : Nat), CI T V3 R s l te3 af2 il nw ct3 ex C3 → ext V V3 → (∀ i, gc ct2 i → gc ct3 i) → u < tn V3 → den V3 u = lf E t b (den E (64 * w + i)) → gc ct3 u → p_Le_stepInPart_119 (nI t) (nI p) (nI b) Q (fun a0 a1 a2 => p_Le_stepInPart_3 (nI t) (nI p) (nI b) Q f a0 a1 a2) (fun a0 a1 a2 a3 a4 => p_Le_stepInPart_27 (nI t) (nI p) (nI b) Q (fun a0 a1 a2 => p_Le_stepInPart_3 (nI t) (nI p) (nI b) Q f a0 a1 a2) f' a0 a1 a2 a3 a4) (nI w) x5 (nI i) (nI u) (nI (t * 7)) te3 (af2, ct3, ex, il, nw, cm, wa, C3) := by
            intro V3 te3 ct3 C3 u c1 c2 c3 c4 c5 c6
            have n3 := c1.1.2.1
            have hV3 := c2.2.1
            unfold p_Le_stepInPart_119 p_Le_stepInPart_122
            rw [inc_af (by omega) (by omega)]
            try simp (disch := omega) only [↓mI_e, litI, cLeT, cLeF, cLtT, cLtF, cEqF, cEqT, mE1, mE2, mL1, mL2, mL3, mL4, cIn, nI_clamp, nI_add, cMul, cSub, cM1, nar0, nar1, true_implies, false_implies, not_true_eq_false, not_false_eq_true, true_and, and_true]
            have ci := c1.inc (t := t) (u := u) (by omega) c4 c6 (by rw [c5, den_ext c2 htV]; exact hlk)
            refine ih2 ((x5.toUInt64 >>> ((nI 1).toInt64.toUInt64 &&& Int64.toUInt64 63)).toInt64, te3, sb af2 (t * 7) u, ct3, C3) ⟨V3, hV.tr c2, Or.inl ⟨ci, ⟨s1, s2, s3, s4, s5, s6⟩, j3, fun q a => c3 q (j4 q a), fun q v a b => ?_, fun k a b => ?_, fun k a b c => ?_, fun v => ?_⟩⟩
            · dsimp only
              rw [sb_row (by omega) a b]
              exact j5 q v a b
            · exact (bt_sb (by omega) a).mpr (Or.inl (j6 k a b))
            · dsimp only at b ⊢
              by_cases hk : k < 64 * w + i
              · obtain ⟨u', u1, u2, u3⟩ := j7 k a hk c
                exact ⟨u', by omega, (bt_sb (by omega) (by omega)).mpr (Or.inl u2), by rw [den_ext c2 u1]; exact u3⟩
              · have ek : k = 64 * w + i := by omega
                subst ek
                exact ⟨u, c4, (bt_sb (by omega) (by omega)).mpr (Or.inr ⟨rfl, rfl⟩), c5⟩
            · dsimp only
              rw [bl_ushr, j8, show v + 1 + i = v + (i + 1) by omega]
          have bad : ∀ (r : Int32) (V3 : Tab) (te3 : Te) (ct3 : Nat → Int32) (C3 : Int32), (r = mI ∨ ∃ u, u < 448 ∧ r = nI u) → ext E V3 → BI T V3 te3 ct3 C3 900 → big (pcl (lvl T R s (l + 1))) → p_Le_stepInPart_119 (nI t) (nI p) (nI b) Q (fun a0 a1 a2 => p_Le_stepInPart_3 (nI t) (nI p) (nI b) Q f a0 a1 a2) (fun a0 a1 a2 a3 a4 => p_Le_stepInPart_27 (nI t) (nI p) (nI b) Q (fun a0 a1 a2 => p_Le_stepInPart_3 (nI t) (nI p) (nI b) Q f a0 a1 a2) f' a0 a1 a2 a3 a4) (nI w) x5 (nI i) r (nI (t * 7)) te3 (af2, ct3, ex, il, nw, cm, wa, C3) := by
            intro r V3 te3 ct3 C3 hr hV3 c1 c2
            unfold p_Le_stepInPart_119 p_Le_stepInPart_122
            refine inc_B t448 hr (fun af' => ?_)
            try simp (disch := omega) only [↓mI_e, litI, cLeT, cLeF, cLtT, cLtF, cEqF, cEqT, mE1, mE2, mL1, mL2, mL3, mL4, cIn, nI_clamp, nI_add, cMul, cSub, cM1, nar0, nar1, true_implies, false_implies, not_true_eq_false, not_false_eq_true, true_and, and_true]
            exact nextB V3 te3 af' ct3 C3 hV3 (c1.mono (by omega)) c2
          rcases s6 with ⟨e1, e2, e3⟩ | ⟨e1, e2, e3⟩
          · subst e1
            try simp (disch := omega) only [↓mI_e, litI, cLeT, cLeF, cLtT, cLtF, cEqF, cEqT, mE1, mE2, mL1, mL2, mL3, mL4, cIn, nI_clamp, nI_add, cMul, cSub, cM1, nar0, nar1, true_implies, false_implies, not_true_eq_false, not_false_eq_true, true_and, and_true, symbol_t d1, second_t d1]
            have hfit : tFit V (ts V t) (w * 64 + i) (tb V t) := by
              refine ⟨ot.1, ?_, ?_, ?_, ?_⟩
              · intro q; have : tq V t < 1 := q; omega
              · intro q; exact ot.2.2.1 q
              · intro _; omega
              · intro q; have := ot.2.2.2.2.1 q; omega
            have ecode : co (ts V t) (if 1 ≤ tp V (ts V t) then den V (w * 64 + i) + 1 else 0) (if 2 ≤ tp V (ts V t) then den V (tb V t) + 1 else 0) = lf E t 1 (den E (64 * w + i)) := by
              rw [if_pos (show 1 ≤ tp V (ts V t) by show 1 ≤ tq V t; omega), show w * 64 + i = 64 * w + i by omega, dkV]
              show co (ts V t) _ (pb V t) = _
              unfold lf
              rw [if_pos rfl, v1, (den_q hV ht).2]
            refine s_fc hT48 j10 hfit (fun _ => rfl) (fun q => pc_n (show 2 ≤ tq V t from q)) (by rw [ecode]; exact hXk) ⟨fun _ => by rw [show w * 64 + i = 64 * w + i by omega]; exact k2, fun q => (d3 t htV htc).2 q⟩ (fun V3 te3 ct3 C3 u c1 c2 c3 c4 c5 c6 => got V3 te3 ct3 C3 u c1 c2 c3 c4 (by rw [c5]; exact ecode) c6) (fun r ct3 C3 hr c1 c2 => bad r V te2 ct3 C3 hr hV c1 c2)
          · subst e1
            try simp (disch := omega) only [↓mI_e, litI, cLeT, cLeF, cLtT, cLtF, cEqF, cEqT, mE1, mE2, mL1, mL2, mL3, mL4, cIn, nI_clamp, nI_add, cMul, cSub, cM1, nar0, nar1, true_implies, false_implies, not_true_eq_false, not_false_eq_true, true_and, and_true, symbol_t d1, first_t d1]
            have hfit : tFit V (ts V t) (ta V t) (w * 64 + i) := by
              refine ⟨ot.1, ?_, ?_, ?_, ?_⟩
              · intro q; exact ot.2.1 q
              · intro q; have : tq V t < 2 := q; omega
              · intro q; have := ot.2.2.2.1 q; omega
              · intro _; omega
            have ecode : co (ts V t) (if 1 ≤ tp V (ts V t) then den V (ta V t) + 1 else 0) (if 2 ≤ tp V (ts V t) then den V (w * 64 + i) + 1 else 0) = lf E t 0 (den E (64 * w + i)) := by
              rw [if_pos (show 2 ≤ tp V (ts V t) by show 2 ≤ tq V t; omega), show w * 64 + i = 64 * w + i by omega, dkV]
              show co (ts V t) (pa V t) _ = _
              unfold lf
              rw [if_neg (by omega), v1, (den_q hV ht).1]
            exact s_fc hT48 j10 hfit (fun q => pc_n (show 1 ≤ tq V t from q)) (fun _ => rfl) (by rw [ecode]; exact hXk) ⟨fun q => (d3 t htV htc).1 q, fun _ => by rw [show w * 64 + i = 64 * w + i by omega]; exact k2⟩ (fun V3 te3 ct3 C3 u c1 c2 c3 c4 c5 c6 => got V3 te3 ct3 C3 u c1 c2 c3 c4 (by rw [c5]; exact ecode) c6) (fun r ct3 C3 hr c1 c2 => bad r V te2 ct3 C3 hr hV c1 c2)
        · have d1 := j1.1
          have ot := d1.1.2.2 t htV
          have hV448 := d1.2.1
          have bad : ∀ (r : Int32) (ct3 : Nat → Int32) (C3 : Int32), (r = mI ∨ ∃ u, u < 448 ∧ r = nI u) → BI T V te2 ct3 C3 (N + 448 * (64 * w + i) + 448) → p_Le_stepInPart_119 (nI t) (nI p) (nI b) Q (fun a0 a1 a2 => p_Le_stepInPart_3 (nI t) (nI p) (nI b) Q f a0 a1 a2) (fun a0 a1 a2 a3 a4 => p_Le_stepInPart_27 (nI t) (nI p) (nI b) Q (fun a0 a1 a2 => p_Le_stepInPart_3 (nI t) (nI p) (nI b) Q f a0 a1 a2) f' a0 a1 a2 a3 a4) (nI w) x5 (nI i) r (nI (t * 7)) te2 (af2, ct3, ex, il, nw, cm, wa, C3) := by
            intro r ct3 C3 hr c1
            unfold p_Le_stepInPart_119 p_Le_stepInPart_122
            refine inc_B t448 hr (fun af' => ?_)
            try simp (disch := omega) only [↓mI_e, litI, cLeT, cLeF, cLtT, cLtF, cEqF, cEqT, mE1, mE2, mL1, mL2, mL3, mL4, cIn, nI_clamp, nI_add, cMul, cSub, cM1, nar0, nar1, true_implies, false_implies, not_true_eq_false, not_false_eq_true, true_and, and_true]
            exact nextB V te2 af' ct3 C3 hV (c1.mono (by omega)) j2
          rcases hb with ⟨e1, e2⟩ | ⟨e1, e2⟩
          · subst e1
            try simp (disch := omega) only [↓mI_e, litI, cLeT, cLeF, cLtT, cLtF, cEqF, cEqT, mE1, mE2, mL1, mL2, mL3, mL4, cIn, nI_clamp, nI_add, cMul, cSub, cM1, nar0, nar1, true_implies, false_implies, not_true_eq_false, not_false_eq_true, true_and, and_true, symbol_t d1, second_t d1]
            refine s_fcB (a := w * 64 + i) (b := tb V t) hT48 j1 (by omega) ot.1 (fun q => ?_) (fun q => ot.2.2.1 q) (by omega) (by omega) (fun _ => rfl) (fun q => pc_n (show 2 ≤ tq V t from q)) bad
            have : tq V t < 1 := q
            omega
          · subst e1
            try simp (disch := omega) only [↓mI_e, litI, cLeT, cLeF, cLtT, cLtF, cEqF, cEqT, mE1, mE2, mL1, mL2, mL3, mL4, cIn, nI_clamp, nI_add, cMul, cSub, cM1, nar0, nar1, true_implies, false_implies, not_true_eq_false, not_false_eq_true, true_and, and_true, symbol_t d1, first_t d1]
            refine s_fcB (a := ta V t) (b := w * 64 + i) hT48 j1 (by omega) ot.1 (fun q => ot.2.1 q) (fun q => ?_) (by omega) (by omega) (fun q => pc_n (show 1 ≤ tq V t from q)) (fun _ => rfl) bad
            have : tq V t < 2 := q
            omega
/-- all steps of one term -/
theorem s_expand {Q : Te → Le → Prop} {ru : Ru} {t : Nat} (hT48 : tn T ≤ 48) (hr : rRu R ru) (ho : rOk T R) (h : CI T E R s l te af il nw ct ex C) (ht : t < tn E) (htc : gc ct t) (hX : pcl (lvl T R s l) (den E t)) (hpe : (1 ≤ tq E t → gc ex (ta E t)) ∧ (2 ≤ tq E t → gc ex (tb E t))) (h1 : ∀ V te' af' ct' C', CI T V R s l te' af' il nw ct' ex C' → ext E V → (∀ i, gc ct i → gc ct' i) → (∀ z, stp T R (den V t) z → ∃ k, k < tn V ∧ bt af' t k ∧ den V k = z) → Q te' (af', ct', ex, il, nw, cm, wa, C')) (h2 : ∀ V te' af' ct' C', BI T V te' ct' C' (2 ^ 28) → big (pcl (lvl T R s (l + 1))) → Q te' (af', ct', ex, il, nw, cm, wa, C')) : p_Le_expand (nI t) te ru (af, ct, ex, il, nw, cm, wa, C) Q := by
  have hn := h.1.2.1
  have oE := h.1.1
  have ot := oE.2.2 t ht
  have q2 : tq E t ≤ 2 := oE.2.1 _
  have h8 := ho.1
  have hnT := h.2.1.2.1
  obtain ⟨c0, c1, c2⟩ := hr
  -- the end, both parts being done
  have end1 : ∀ V te' af' ct' C', CI T V R s l te' af' il nw ct' ex C' → ext E V → (∀ i, gc ct i → gc ct' i) → (∀ r, r < rn R → rl R r = t → bt af' t (rr R r)) → (1 ≤ tq E t → ∀ z, stp T R (den E (ta E t)) z → ∃ k, k < tn V ∧ bt af' t k ∧ den V k = lf E t 1 z) → (2 ≤ tq E t → ∀ z, stp T R (den E (tb E t)) z → ∃ k, k < tn V ∧ bt af' t k ∧ den V k = lf E t 0 z) → Q te' (af', ct', ex, il, nw, cm, wa, C') := by
    intro V te' af' ct' C' k1 k2 k3 k4 k5 k6
    refine h1 V te' af' ct' C' k1 k2 k3 (fun z hz => ?_)
    rw [den_ext k2 ht] at hz
    have hVn := k2.2.1
    rcases (sl_mem oE ht).mp ((stp_sl ho h.2.1 ht).mp hz) with ⟨r, a1, a2, a3⟩ | ⟨a1, u, a2, a3⟩ | ⟨a1, u, a2, a3⟩
    · have orr := (ho.2 r a1).2.1
      exact ⟨rr R r, by omega, k4 r a1 a2, by rw [den_ext k2 (by omega), a3]⟩
    · obtain ⟨k, b1, b2, b3⟩ := k5 a1 u ((stp_sl ho h.2.1 (by omega)).mpr a2)
      exact ⟨k, b1, b2, by rw [b3, a3]; exact if_pos rfl⟩
    · obtain ⟨k, b1, b2, b3⟩ := k6 a1 u ((stp_sl ho h.2.1 (by omega)).mpr a2)
      exact ⟨k, b1, b2, by rw [b3, a3]; exact if_neg (by omega)⟩
  -- from the second part on
  have at96 : ∀ V te' af' ct' C', ext E V → ((CI T V R s l te' af' il nw ct' ex C' ∧ (∀ i, gc ct i → gc ct' i) ∧ (∀ r, r < rn R → rl R r = t → bt af' t (rr R r)) ∧ (1 ≤ tq E t → ∀ z, stp T R (den E (ta E t)) z → ∃ k, k < tn V ∧ bt af' t k ∧ den V k = lf E t 1 z)) ∨ (BI T V te' ct' C' (10000 + 448 * 448) ∧ big (pcl (lvl T R s (l + 1))))) → p_Le_expand_96 (nI t) ru Q (nI (tq E t)) te' (af', ct', ex, il, nw, cm, wa, C') := by
    intro V te' af' ct' C' hV hm
    have hVn := hV.2.1
    have tV : tTe V te' := by
      rcases hm with hm | hm
      · exact hm.1.1
      · exact hm.1.1
    obtain ⟨v1, v2, v3, v4⟩ := hV.f ht
    unfold p_Le_expand_96
    by_cases t2 : 2 ≤ tq E t
    · try simp (disch := omega) only [↓mI_e, litI, cLeT, cLeF, cLtT, cLtF, cEqF, cEqT, mE1, mE2, mL1, mL2, mL3, mL4, cIn, nI_clamp, nI_add, cMul, cSub, cM1, nar0, nar1, true_implies, false_implies, not_true_eq_false, not_false_eq_true, true_and, and_true]
      rw [second_t tV (by omega), v2, v4, pc_n t2]
      have hb2 : tb E t < t := by omega
      have V448 := tV.2.1
      refine s_sip (p := tb E t) (b := 0) (N := 10000 + 448 * 448) hT48 (by omega) (by omega) (show t < tn V by omega) (by omega) (Or.inr ⟨rfl, by omega⟩) (hm.imp (fun k => ⟨k.1, by omega, k.2.1 t htc, by rw [den_ext hV ht]; exact hX, hb2, hpe.2 t2, Or.inr ⟨rfl, by omega, v4.symm⟩⟩) (fun k => k)) (fun k0 W te3 af3 ct3 C3 k1 k2 k3 k4 k5 => ?_) (fun W te3 af3 ct3 C3 k1 k2 _ => ?_)
      · rcases hm with hm | hm
        · have hW := k2.2.1
          refine end1 W te3 af3 ct3 C3 k1 (hV.tr k2) (fun i a => k3 i (hm.2.1 i a)) (fun r a b => k4 _ (by have := (ho.2 r a).2.1; omega) (hm.2.2.1 r a b)) (fun a z hz => ?_) (fun a z hz => ?_)
          · obtain ⟨k, b1, b2, b3⟩ := hm.2.2.2 a z hz
            exact ⟨k, by omega, k4 k (by omega) b2, by rw [den_ext k2 b1]; exact b3⟩
          · rw [← den_ext hV (by omega)] at hz
            obtain ⟨k, b1, b2, b3⟩ := k5 z hz
            exact ⟨k, b1, b2, by rw [b3, lf_ext hV ht]⟩
        · exact (CI_BI k0 hm.1 (by omega)).elim
      · exact h2 W te3 af3 ct3 C3 (k1.mono (by omega)) k2
    · try simp (disch := omega) only [↓mI_e, litI, cLeT, cLeF, cLtT, cLtF, cEqF, cEqT, mE1, mE2, mL1, mL2, mL3, mL4, cIn, nI_clamp, nI_add, cMul, cSub, cM1, nar0, nar1, true_implies, false_implies, not_true_eq_false, not_false_eq_true, true_and, and_true]
      rcases hm with hm | hm
      · exact end1 V te' af' ct' C' hm.1 hV hm.2.1 hm.2.2.1 hm.2.2.2 (fun a => absurd a t2)
      · exact h2 V te' af' ct' C' (hm.1.mono (by omega)) hm.2
  unfold p_Le_expand
  refine forN (fun f i (y : (Nat → Int64) × (Nat → Int32) × Int32) => p_Le_expand_2 (nI t) ru Q f i te (y.1, y.2.1, ex, il, nw, cm, wa, y.2.2)) (fun i y => (CI T E R s l te y.1 il nw y.2.1 ex y.2.2 ∧ (∀ i, gc ct i → gc y.2.1 i) ∧ ∀ r, r < i → rl R r = t → bt y.1 t (rr R r)) ∨ (BI T E te y.2.1 y.2.2 (900 + 448 * i) ∧ big (pcl (lvl T R s (l + 1))))) (rn R) 0 (af, ct, C) (by omega) (Or.inl ⟨h, fun i a => a, fun r hr => by omega⟩) ?_ ?_
  · rintro f ⟨af', ct', C'⟩ hm
    dsimp only at hm ⊢
    unfold p_Le_expand_2 p_Ru_count
    rw [c0]
    try simp (disch := omega) only [↓mI_e, litI, cLeT, cLeF, cLtT, cLtF, cEqF, cEqT, mE1, mE2, mL1, mL2, mL3, mL4, cIn, nI_clamp, nI_add, cMul, cSub, cM1, nar0, nar1, true_implies, false_implies, not_true_eq_false, not_false_eq_true, true_and, and_true, symbol_t h.1]
    rw [placesS_t h.1 ht]
    by_cases t1 : 1 ≤ tq E t
    · try simp (disch := omega) only [↓mI_e, litI, cLeT, cLeF, cLtT, cLtF, cEqF, cEqT, mE1, mE2, mL1, mL2, mL3, mL4, cIn, nI_clamp, nI_add, cMul, cSub, cM1, nar0, nar1, true_implies, false_implies, not_true_eq_false, not_false_eq_true, true_and, and_true, first_t h.1]
      rw [pc_n t1]
      have ha2 : ta E t < t := by omega
      refine s_sip (p := ta E t) (b := 1) (N := 10000) hT48 (by omega) (by omega) ht (by omega) (Or.inl ⟨rfl, t1⟩) (hm.imp (fun k => ⟨k.1, ht, k.2.1 t htc, hX, ha2, hpe.1 t1, Or.inl ⟨rfl, t1, rfl⟩⟩) (fun k => ⟨k.1.mono (by omega), k.2⟩)) (fun k0 W te3 af3 ct3 C3 k1 k2 k3 k4 k5 => ?_) (fun W te3 af3 ct3 C3 k1 k2 k3 => at96 W te3 af3 ct3 C3 k3 (Or.inr ⟨k1, k2⟩))
      rcases hm with hm | hm
      · exact at96 W te3 af3 ct3 C3 k2 (Or.inl ⟨k1, fun i a => k3 i (hm.2.1 i a), fun r a b => k4 _ (by have := (ho.2 r a).2.1; omega) (hm.2.2 r a b), fun _ => k5⟩)
      · exact (CI_BI k0 hm.1 (by omega)).elim
    · try simp (disch := omega) only [↓mI_e, litI, cLeT, cLeF, cLtT, cLtF, cEqF, cEqT, mE1, mE2, mL1, mL2, mL3, mL4, cIn, nI_clamp, nI_add, cMul, cSub, cM1, nar0, nar1, true_implies, false_implies, not_true_eq_false, not_false_eq_true, true_and, and_true]
      refine at96 E te af' ct' C' (ext.rf oE) (hm.imp (fun k => ⟨k.1, k.2.1, k.2.2, fun a => absurd a t1⟩) (fun k => ⟨k.1.mono (by omega), k.2⟩))
  · rintro f r ⟨af', ct', C'⟩ hri hm ih
    dsimp only at hm ih ⊢
    have hl := (ho.2 r hri).1
    have hrr := (ho.2 r hri).2.1
    unfold p_Le_expand_2 p_Ru_count p_Ru_leftOf p_Ru_rightOf
    rw [c0]
    try simp (disch := omega) only [↓mI_e, litI, cLeT, cLeF, cLtT, cLtF, cEqF, cEqT, mE1, mE2, mL1, mL2, mL3, mL4, cIn, nI_clamp, nI_add, cMul, cSub, cM1, nar0, nar1, true_implies, false_implies, not_true_eq_false, not_false_eq_true, true_and, and_true]
    rw [c1 r hri, c2 r hri]
    by_cases er : rl R r = t
    · try simp (disch := omega) only [↓mI_e, litI, cLeT, cLeF, cLtT, cLtF, cEqF, cEqT, mE1, mE2, mL1, mL2, mL3, mL4, cIn, nI_clamp, nI_add, cMul, cSub, cM1, nar0, nar1, true_implies, false_implies, not_true_eq_false, not_false_eq_true, true_and, and_true]
      have hst : stp T R (den E t) (den E (rr R r)) := (stp_sl ho h.2.1 ht).mpr ((sl_mem oE ht).mpr (Or.inl ⟨r, hri, er, rfl⟩))
      rcases hm with ⟨m1, m2, m3⟩ | ⟨m1, m2⟩
      · have m10 := m1
        obtain ⟨d1, d2, d3, d4, d5, d6, d7, -⟩ := m1
        subst d6
        refine s_cwp (X := pcl (lvl T R s (l + 1))) d1 (show rr R r < tn E by omega) (fun i hi q => by have := m10.b.2 i hi q; omega) d3 d5 (xl_stp hX hst) (fun x z a b => a.p b) (by omega) (fun ct2 g1 g2 g3 g4 g5 => ?_)
        have cm1 : cN (gc ct') (tn E) ≤ cN (gc ct2) (tn E) := cN_mono _ (fun k _ a => g3 k a)
        rw [show cN (gc ct') (tn E) + (cN (gc ct2) (tn E) - cN (gc ct') (tn E)) = cN (gc ct2) (tn E) by omega]
        rw [inc_af (by omega) (by omega)]
        refine ih (sb af' (t * 7) (rr R r), ct2, nI (cN (gc ct2) (tn E))) ?_
        by_cases h4 : cN (gc ct2) (tn E) ≤ 400
        · refine Or.inl ⟨(m10.cnt g1 g2 g3 h4).inc ht (by omega) g5 hst, fun i a => g3 i (m2 i a), fun r' a b => ?_⟩
          by_cases e : r' = r
          · subst e; exact (bt_sb (by omega) (by omega)).mpr (Or.inr ⟨rfl, rfl⟩)
          · have := (ho.2 r' (by omega)).2.1
            exact (bt_sb (by omega) (by omega)).mpr (Or.inl (m3 r' (by omega) b))
        · have cl := cN_le (gc ct2) (tn E)
          exact Or.inr ⟨⟨d1, d2, g1, fun i a b => g3 i (d4 i a b), _, rfl, by omega, by (try dsimp only); omega⟩, big_of oE g2 (by omega)⟩
      · obtain ⟨d1, d2, d3, d4, c, e1, e2, e3⟩ := m1
        subst e1
        refine s_cwp (X := fun _ => True) d1 (show rr R r < tn E by omega) (fun i hi q => ?_) d3 (fun _ _ _ => trivial) trivial (fun _ _ _ _ => trivial) (by omega) (fun ct2 g1 g2 g3 g4 g5 => ?_)
        · have : i < tn T := Classical.byContradiction (fun p => q (d4 i (by omega) hi))
          omega
        · have cl := cN_le (gc ct2) (tn E)
          rw [inc_af (by omega) (by omega)]
          exact ih (_, ct2, _) (Or.inr ⟨⟨d1, d2, g1, fun i a b => g3 i (d4 i a b), _, rfl, by omega, by (try dsimp only); omega⟩, m2⟩)
    · try simp (disch := omega) only [↓mI_e, litI, cLeT, cLeF, cLtT, cLtF, cEqF, cEqT, mE1, mE2, mL1, mL2, mL3, mL4, cIn, nI_clamp, nI_add, cMul, cSub, cM1, nar0, nar1, true_implies, false_implies, not_true_eq_false, not_false_eq_true, true_and, and_true]
      refine ih (af', ct', C') (hm.imp (fun k => ⟨k.1, k.2.1, fun r' a b => ?_⟩) (fun k => ⟨k.1.mono (by omega), k.2⟩))
      by_cases e : r' = r
      · subst e; exact absurd b er
      · exact k.2.2 r' (by omega) b
end
