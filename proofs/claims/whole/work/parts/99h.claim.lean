/-! the beginning, every call, and the claim -/
def plc (x : Int32) (k : Nat) : Nat := min 2 ((x >>> (nI (2 * k) &&& nI 31)) &&& nI 3).toNatClampNeg
theorem plc_e (x : Int32) (k : Nat) : ∃ j, j < 4 ∧ (x >>> (nI (2 * k) &&& nI 31)) &&& nI 3 = nI j ∧ plc x k = min 2 j := by
  obtain ⟨j, h1, h2⟩ := pk_andE (x >>> (nI (2 * k) &&& nI 31)) (m := 3) 2 (by decide)
  have h3 : (x >>> (nI (2 * k) &&& nI 31)) &&& nI 3 = nI j := h2
  refine ⟨j, h1, h3, ?_⟩
  unfold plc
  rw [h3, nI_clamp (by omega)]
def tab0 (x : Int32) : Tab := (0, plc x, fun _ => 0, fun _ => 0, fun _ => 0)
theorem tab0_ok (x : Int32) : tOk (tab0 x) := ⟨by show 0 ≤ 520; omega, fun k => by show min 2 _ ≤ 2; omega, fun t ht => absurd ht (by show ¬ t < 0; omega)⟩
theorem s_initTe {x : Int32} {Q : Te → Prop} (hQ : ∀ te, tTe (tab0 x) te → Q te) : p_Te_initT x teZ Q := by
  unfold p_Te_initT
  have fill : ∀ f : Nat → Int32, (∀ k, k < 6 → f k = nI (plc x k)) → p_Ar_fillIT_newestIn (-1 : Int32) (f, fun _ => 0, fun _ => 0, fun _ => 0, fun _ => 0, fun _ => 0, fun _ => 0, 0) (fun te102 => Q te102) := by
    intro f hf
    unfold p_Ar_fillIT_newestIn
    refine forN (fun g i (y : Nat → Int32) => p_Ar_fillIT_newestIn_5 (-1 : Int32) (fun te102 => Q te102) g i (256 : Int32) (f, fun _ => 0, fun _ => 0, fun _ => 0, fun _ => 0, y, fun _ => 0, 0)) (fun i y => ∀ v, v < i → y v = mI) 256 0 (fun _ => 0) (by omega) (fun v hv => by omega) ?_ ?_
    · intro g y hy
      unfold p_Ar_fillIT_newestIn_5
      try simp (disch := omega) only [↓mI_e, litI, cLeT, cLeF, cLtT, cLtF, cEqF, cEqT, mE1, mE2, mL1, mL2, mL3, mL4, cIn, nI_clamp, nI_add, cMul, cSub, cM1, nar0, nar1, true_implies, false_implies, not_true_eq_false, not_false_eq_true, true_and, and_true]
      refine hQ _ ⟨tab0_ok x, by show 0 ≤ 448; omega, rfl, hf, fun t ht => absurd ht (by show ¬ t < 0; omega), fun t ht => absurd ht (by show ¬ t < 0; omega), fun t ht => absurd ht (by show ¬ t < 0; omega), fun t ht => absurd ht (by show ¬ t < 0; omega), fun b hb => hy b hb, fun t ht => absurd ht (by show ¬ t < 0; omega)⟩
    · intro g i y hi hy ih
      unfold p_Ar_fillIT_newestIn_5
      try simp (disch := omega) only [↓mI_e, litI, cLeT, cLeF, cLtT, cLtF, cEqF, cEqT, mE1, mE2, mL1, mL2, mL3, mL4, cIn, nI_clamp, nI_add, cMul, cSub, cM1, nar0, nar1, true_implies, false_implies, not_true_eq_false, not_false_eq_true, true_and, and_true]
      refine nm_e ?_
      dsimp only [Te_places, Te_symbol, Te_first, Te_second, Te_size, Te_newestIn, Te_olderInBucket, Te_count, Te_places_s, Te_symbol_s, Te_first_s, Te_second_s, Te_size_s, Te_newestIn_s, Te_olderInBucket_s, Te_count_s]
      refine ih _ (fun v hv => ?_)
      by_cases e : v = i
      · exact upd_s e
      · rw [upd_n e]; exact hy v (by omega)
  refine forN (fun f i (y : Nat → Int32) => p_Te_initT_68 x Q f i (y, fun _ => 0, fun _ => 0, fun _ => 0, fun _ => 0, fun _ => 0, fun _ => 0, 0)) (fun i y => ∀ k, k < i → y k = nI (plc x k)) 6 0 (fun _ => 0) (by omega) (fun v hv => by omega) ?_ ?_
  · intro f y hy
    unfold p_Te_initT_68
    refine ⟨fun _ => fill y hy, fun q => absurd (show (6 : Int32) ≤ nI 6 by decide) q⟩
  · intro f i y hi hy ih
    unfold p_Te_initT_68
    obtain ⟨j, j1, j2, j3⟩ := plc_e x i
    try simp (disch := omega) only [↓mI_e, litI, cLeT, cLeF, cLtT, cLtF, cEqF, cEqT, mE1, mE2, mL1, mL2, mL3, mL4, cIn, nI_clamp, nI_add, cMul, cSub, cM1, nar0, nar1, true_implies, false_implies, not_true_eq_false, not_false_eq_true, true_and, and_true]
    refine nm_e ?_
    dsimp only [Te_places, Te_symbol, Te_first, Te_second, Te_size, Te_newestIn, Te_olderInBucket, Te_count, Te_places_s, Te_symbol_s, Te_first_s, Te_second_s, Te_size_s, Te_newestIn_s, Te_olderInBucket_s, Te_count_s]
    rw [j2]
    refine ih _ (fun k hk => ?_)
    by_cases e : k = i
    · rw [upd_s e, e, j3]
      by_cases h2 : j < 2
      · rw [if_pos (nI_lt h2 (by omega)), show min 2 j = j by omega]
      · rw [if_neg (nI_nlt (by omega) (by omega)), show min 2 j = 2 by omega]
    · rw [upd_n e]; exact hy k (by omega)
theorem s_initMo {x : Int32} {Q : Mo → Prop} (hQ : ∀ f, (∀ k, k < 6 → f k = nI (plc x k)) → Q (Mo_places_s moZ f)) : p_Mo_initT x moZ Q := by
  unfold p_Mo_initT
  refine forN (fun g i (y : Nat → Int32) => p_Mo_initT_171 x Q g i (Mo_places_s moZ y)) (fun i y => ∀ k, k < i → y k = nI (plc x k)) 6 0 (fun _ => 0) (by omega) (fun v hv => by omega) ?_ ?_
  · intro f y hy
    unfold p_Mo_initT_171
    try simp (disch := omega) only [↓mI_e, litI, cLeT, cLeF, cLtT, cLtF, cEqF, cEqT, mE1, mE2, mL1, mL2, mL3, mL4, cIn, nI_clamp, nI_add, cMul, cSub, cM1, nar0, nar1, true_implies, false_implies, not_true_eq_false, not_false_eq_true, true_and, and_true]
    exact hQ y hy
  · intro f i y hi hy ih
    unfold p_Mo_initT_171 p_Mo_initT_200
    obtain ⟨j, j1, j2, j3⟩ := plc_e x i
    try simp (disch := omega) only [↓mI_e, litI, cLeT, cLeF, cLtT, cLtF, cEqF, cEqT, mE1, mE2, mL1, mL2, mL3, mL4, cIn, nI_clamp, nI_add, cMul, cSub, cM1, nar0, nar1, true_implies, false_implies, not_true_eq_false, not_false_eq_true, true_and, and_true]
    rw [j2]
    have put : ∀ v, v = nI (plc x i) → p_Mo_initT_171 x Q f (nI (i + 1)) (Mo_places_s moZ (upd y i v)) := by
      intro v hv
      refine ih _ (fun k hk => ?_)
      by_cases e : k = i
      · rw [upd_s e, e]; exact hv
      · rw [upd_n e]; exact hy k (by omega)
    by_cases h3 : j = 3
    · try simp (disch := omega) only [↓mI_e, litI, cLeT, cLeF, cLtT, cLtF, cEqF, cEqT, mE1, mE2, mL1, mL2, mL3, mL4, cIn, nI_clamp, nI_add, cMul, cSub, cM1, nar0, nar1, true_implies, false_implies, not_true_eq_false, not_false_eq_true, true_and, and_true]
      exact nm_e (put _ (by rw [j3, show min 2 j = 2 by omega]))
    · try simp (disch := omega) only [↓mI_e, litI, cLeT, cLeF, cLtT, cLtF, cEqF, cEqT, mE1, mE2, mL1, mL2, mL3, mL4, cIn, nI_clamp, nI_add, cMul, cSub, cM1, nar0, nar1, true_implies, false_implies, not_true_eq_false, not_false_eq_true, true_and, and_true]
      exact nm_e (put _ (by rw [j3, show min 2 j = j by omega]))
theorem hini : initAll Inv := by
  intro x
  refine s_initTe (fun te hte => s_initMo (fun f hf => ?_))
  refine ⟨tab0 x, (0, fun _ => 0, fun _ => 0), (0, fun _ => 0, fun _ => 0, fun _ => 0, fun _ => 0), 0, ⟨hte, ⟨tab0_ok x, by show 0 ≤ 48; omega, rfl, hf, fun t ht => absurd ht (by show ¬ t < 0; omega), fun t ht => absurd ht (by show ¬ t < 0; omega), fun t ht => absurd ht (by show ¬ t < 0; omega)⟩⟩, ⟨⟨by show 0 ≤ 8; omega, fun i hi => absurd hi (by show ¬ i < 0; omega)⟩, ⟨rfl, fun i hi => absurd hi (by show ¬ i < 0; omega), fun i hi => absurd hi (by show ¬ i < 0; omega)⟩, ⟨rfl, fun i hi => absurd hi (by show ¬ i < 0; omega), fun i hi => absurd hi (by show ¬ i < 0; omega)⟩⟩, ⟨⟨by show 0 ≤ 20; omega, fun i hi => absurd hi (by show ¬ i < 0; omega)⟩, by omega, ⟨rfl, fun i hi => absurd hi (by show ¬ i < 0; omega), fun i hi => absurd hi (by show ¬ i < 0; omega), fun i hi => absurd hi (by show ¬ i < 0; omega), fun i hi => absurd hi (by show ¬ i < 0; omega), rfl⟩, ⟨rfl, fun i hi => absurd hi (by show ¬ i < 0; omega), fun i hi => absurd hi (by show ¬ i < 0; omega), fun i hi => absurd hi (by show ¬ i < 0; omega), fun i hi => absurd hi (by show ¬ i < 0; omega), rfl⟩⟩, ⟨0, Nat.le_refl _, rfl, Or.inl rfl, Or.inl rfl, fun q => ?_⟩⟩
  have q2 : mI = nI 0 := q
  exact absurd q2 (by decide)
theorem hst : stepAll Inv := by
  rintro j hj a1 a2 a3 a4 te ru au re la sp le mo ⟨T, R, A, F, h⟩
  exact ⟨q_0 h, q_1 h, q_2 hj h, q_3 hj h, q_4 h, q_5 h, q_6 h, q_7 h, q_8 h, q_9 h, q_10 h, q_11 h, q_12 h, q_13 h, q_14 h, q_15 h⟩
theorem i_vc : Claimed_1_1 ∧ Claimed_1_2 := claim_from hini hst
