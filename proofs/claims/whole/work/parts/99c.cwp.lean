/-! the levels, as the program finds them: bits of the rows, counting a term with its parts -/
def b0 (g : Nat → Int64) (k : Nat) : Prop := bl (g (k / 64)) (k % 64)
def bt (g : Nat → Int64) (t k : Nat) : Prop := bl (g (t * 7 + k / 64)) (k % 64)
def sb (g : Nat → Int64) (c k : Nat) : Nat → Int64 := vp_updL g (c + k / 64) (g (c + k / 64) ||| ((1 : Int64) <<< ((nI (k % 64)).toInt64 &&& 63)))
theorem bt_sb {g : Nat → Int64} {t k t' k' : Nat} (hk : k < 448) (hk' : k' < 448) : bt (sb g (t * 7) k) t' k' ↔ bt g t' k' ∨ (t' = t ∧ k' = k) := by
  unfold bt sb
  by_cases e : t' * 7 + k' / 64 = t * 7 + k / 64
  · have e1 : t' = t := by omega
    have e2 : k' / 64 = k / 64 := by omega
    rw [updL_s e, bl_or, bl_shl (by omega), e]
    constructor
    · rintro (h | h)
      · exact Or.inl h
      · exact Or.inr ⟨e1, by omega⟩
    · rintro (h | h)
      · exact Or.inl h
      · exact Or.inr (by rw [h.2])
  · rw [updL_n e]
    exact ⟨Or.inl, fun h => h.elim id (fun h => absurd (by rw [h.1, h.2]) e)⟩
theorem b0_sb {g : Nat → Int64} {k k' : Nat} : b0 (sb g 0 k) k' ↔ b0 g k' ∨ k' = k := by
  unfold b0 sb
  by_cases e : k' / 64 = k / 64
  · rw [updL_s (show k' / 64 = 0 + k / 64 by omega), bl_or, bl_shl (by omega), Nat.zero_add, e]
    constructor
    · rintro (h | h)
      · exact Or.inl h
      · exact Or.inr (by omega)
    · rintro (h | h)
      · exact Or.inl h
      · exact Or.inr (by rw [h])
  · rw [updL_n (show k' / 64 ≠ 0 + k / 64 by omega)]
    exact ⟨Or.inl, fun h => h.elim id (fun h => absurd (by rw [h]) e)⟩
theorem sb_row {g : Nat → Int64} {t k q w : Nat} (hk : k < 448) (hq : q ≠ t) (hw : w < 7) : sb g (t * 7) k (q * 7 + w) = g (q * 7 + w) := by
  unfold sb
  exact updL_n (by omega)
section
variable {af il nw cm : Nat → Int64} {ct ex wa : Nat → Int32} {C : Int32} {Q : Le → Prop} {k c : Nat}
theorem inc_af (hk : k < 448) (hc : c + k / 64 < 3136) : p_Le_include_after (nI c) (nI k) (af, ct, ex, il, nw, cm, wa, C) Q ↔ Q (sb af c k, ct, ex, il, nw, cm, wa, C) := by
  unfold p_Le_include_after
  have e : k - k / 64 * 64 = k % 64 := by omega
  try simp (disch := omega) only [↓mI_e, litI, cLeT, cLeF, cLtT, cLtF, cEqF, cEqT, mE1, mE2, mL1, mL2, mL3, mL4, cIn, nI_clamp, nI_add, cMul, cSub, cM1, nar0, nar1, true_implies, false_implies, not_true_eq_false, not_false_eq_true, true_and, and_true, pk_div]
  rw [e]
  exact ⟨fun h => h _ rfl, fun h _ e9 => by rw [e9]; exact h⟩
theorem inc_il (hk : k < 448) : p_Le_include_inLevels (nI 0) (nI k) (af, ct, ex, il, nw, cm, wa, C) Q ↔ Q (af, ct, ex, sb il 0 k, nw, cm, wa, C) := by
  unfold p_Le_include_inLevels
  have e : k - k / 64 * 64 = k % 64 := by omega
  try simp (disch := omega) only [↓mI_e, litI, cLeT, cLeF, cLtT, cLtF, cEqF, cEqT, mE1, mE2, mL1, mL2, mL3, mL4, cIn, nI_clamp, nI_add, cMul, cSub, cM1, nar0, nar1, true_implies, false_implies, not_true_eq_false, not_false_eq_true, true_and, and_true, pk_div]
  rw [e]
  exact ⟨fun h => h _ rfl, fun h _ e9 => by rw [e9]; exact h⟩
theorem inc_nw (hk : k < 448) : p_Le_include_newest (nI 0) (nI k) (af, ct, ex, il, nw, cm, wa, C) Q ↔ Q (af, ct, ex, il, sb nw 0 k, cm, wa, C) := by
  unfold p_Le_include_newest
  have e : k - k / 64 * 64 = k % 64 := by omega
  try simp (disch := omega) only [↓mI_e, litI, cLeT, cLeF, cLtT, cLtF, cEqF, cEqT, mE1, mE2, mL1, mL2, mL3, mL4, cIn, nI_clamp, nI_add, cMul, cSub, cM1, nar0, nar1, true_implies, false_implies, not_true_eq_false, not_false_eq_true, true_and, and_true, pk_div]
  rw [e]
  exact ⟨fun h => h _ rfl, fun h _ e9 => by rw [e9]; exact h⟩
theorem isIn_il {Q : Int32 → Prop} (hk : k < 448) : p_Le_isIn_inLevels (nI k) (af, ct, ex, il, nw, cm, wa, C) Q ↔ ((¬ b0 il k → Q (nI 0)) ∧ (b0 il k → Q (nI 1))) := by
  unfold p_Le_isIn_inLevels
  have e : k - k / 64 * 64 = k % 64 := by omega
  try simp (disch := omega) only [↓mI_e, litI, cLeT, cLeF, cLtT, cLtF, cEqF, cEqT, mE1, mE2, mL1, mL2, mL3, mL4, cIn, nI_clamp, nI_add, cMul, cSub, cM1, nar0, nar1, true_implies, false_implies, not_true_eq_false, not_false_eq_true, true_and, and_true, pk_div]
  rw [e, bl_tst (by omega), Classical.not_not]
  exact Iff.rfl
theorem isIn_nw {Q : Int32 → Prop} (hk : k < 448) : p_Le_isIn_newest (nI k) (af, ct, ex, il, nw, cm, wa, C) Q ↔ ((¬ b0 nw k → Q (nI 0)) ∧ (b0 nw k → Q (nI 1))) := by
  unfold p_Le_isIn_newest
  have e : k - k / 64 * 64 = k % 64 := by omega
  try simp (disch := omega) only [↓mI_e, litI, cLeT, cLeF, cLtT, cLtF, cEqF, cEqT, mE1, mE2, mL1, mL2, mL3, mL4, cIn, nI_clamp, nI_add, cMul, cSub, cM1, nar0, nar1, true_implies, false_implies, not_true_eq_false, not_false_eq_true, true_and, and_true, pk_div]
  rw [e, bl_tst (by omega), Classical.not_not]
  exact Iff.rfl
end
theorem bl_ushr (x : Int64) (v : Nat) : bl ((x.toUInt64 >>> ((nI 1).toInt64.toUInt64 &&& Int64.toUInt64 63)).toInt64) v ↔ bl x (v + 1) := by
  have e : ((nI 1).toInt64.toUInt64 &&& Int64.toUInt64 63) = (1 : UInt64) := by decide
  rw [e]
  unfold bl
  have e2 : ((x.toUInt64 >>> (1 : UInt64)).toInt64).toBitVec = x.toBitVec >>> 1 := by
    show (x.toUInt64 >>> (1 : UInt64)).toBitVec = _
    rw [UInt64.toBitVec_shiftRight]
    rfl
  rw [e2, BitVec.getLsbD_ushiftRight, Nat.add_comm 1 v]
theorem bl_and1 (x : Int64) : (lg_cmp (x &&& (1 : Int64)) (0 : Int64) = nI 0) ↔ ¬ bl x 0 := by
  refine (lg_cmp_eq _ _).trans ⟨fun h g => ?_, fun h => bl_ext (fun v _ => ?_)⟩
  · have : bl (x &&& 1) 0 := (bl_and x 1 0).mpr ⟨g, bl_1.mpr rfl⟩
    rw [h] at this
    exact bl_0 0 this
  · rw [bl_and, bl_1]
    exact ⟨fun k => absurd (k.2 ▸ k.1) h, fun k => absurd k (bl_0 v)⟩
theorem bl_nz {x : Int64} (h : lg_cmp x (0 : Int64) = nI 0) (v : Nat) : ¬ bl x v := by
  rw [(lg_cmp_eq x 0).mp h]
  exact bl_0 v
/-- set in an array of flags -/
def gc (g : Nat → Int32) (i : Nat) : Prop := ¬ g i = nI 0
theorem gc_upd {g : Nat → Int32} {w i : Nat} : gc (upd g w (nI 1)) i ↔ gc g i ∨ i = w := by
  unfold gc
  by_cases e : i = w
  · subst e
    rw [upd_s rfl]
    exact ⟨fun _ => Or.inr rfl, fun _ => by decide⟩
  · rw [upd_n e]
    exact ⟨Or.inl, fun k => k.elim id (fun k => absurd k e)⟩
section
variable {E : Tab} {te : Te} {af il nw cm : Nat → Int64} {ct ex wa : Nat → Int32} {X : Nat → Prop}
theorem s_cwp {Q : Le → Prop} {t c0 : Nat} (hT : tTe E te) (ht : t < tn E) (h48 : ∀ i, i < tn E → ¬ gc ct i → i < 48) (hc : pcd E (gc ct) (gc ct)) (hs : ∀ i, i < tn E → gc ct i → X (den E i)) (hXt : X (den E t)) (hXp : ∀ x z, X x → prt x z → X z) (hc0 : c0 < 2 ^ 30) (hQ : ∀ ct', pcd E (gc ct') (gc ct') → (∀ i, i < tn E → gc ct' i → X (den E i)) → (∀ i, gc ct i → gc ct' i) → (∀ i, tn E ≤ i → ct' i = ct i) → gc ct' t → Q (af, ct', ex, il, nw, cm, wa, nI (c0 + (cN (gc ct') (tn E) - cN (gc ct) (tn E))))) : p_Le_countWithParts (nI t) te (af, ct, ex, il, nw, cm, wa, nI c0) Q := by
  have hn := hT.2.1
  have o := hT.1
  unfold p_Le_countWithParts
  try simp (disch := omega) only [↓mI_e, litI, cLeT, cLeF, cLtT, cLtF, cEqF, cEqT, mE1, mE2, mL1, mL2, mL3, mL4, cIn, nI_clamp, nI_add, cMul, cSub, cM1, nar0, nar1, true_implies, false_implies, not_true_eq_false, not_false_eq_true, true_and, and_true]
  refine ⟨fun hz => ?_, fun hz => ?_⟩
  · have ht48 := h48 t ht (fun q => q hz)
    have key := forD (fun f i (y : Int64 × (Nat → Int32) × Int32) => p_Le_countWithParts_17 (nI t) te Q f y.1 i (af, y.2.1, ex, il, nw, cm, wa, y.2.2)) (fun k y => (∀ i, gc ct i → gc y.2.1 i) ∧ (∀ i, i < tn E → gc y.2.1 i → X (den E i)) ∧ (∀ v, bl y.1 v → v < tn E ∧ X (den E v)) ∧ pcd E (gc y.2.1) (fun p => gc y.2.1 p ∨ (p < k ∧ bl y.1 p)) ∧ (gc y.2.1 t ∨ (t < k ∧ bl y.1 t)) ∧ y.2.2 = nI (c0 + (cN (gc y.2.1) (tn E) - cN (gc ct) (tn E))) ∧ (∀ i, tn E ≤ i → y.2.1 i = ct i)) (t + 1) ((1 : Int64) <<< ((nI t).toInt64 &&& 63), ct, nI c0) ⟨fun i h => h, hs, fun v hv => ?_, fun i hi a => ⟨fun b => Or.inl ((hc i hi a).1 b), fun b => Or.inl ((hc i hi a).2 b)⟩, Or.inr ⟨by omega, (bl_shl (by omega) t).mpr rfl⟩, by rw [Nat.sub_self]; rfl, fun i _ => rfl⟩ ?_ ?_
    · rw [cSub (by omega), show t + 1 - 1 = t from rfl] at key
      exact key
    · have := (bl_shl (by omega) v).mp hv
      subst this
      exact ⟨ht, hXt⟩
    · rintro f ⟨x2, ct', C'⟩ ⟨h1, h2, h3, h4, h5, h6, h7⟩
      dsimp only at h1 h2 h3 h4 h5 h6 h7 ⊢
      unfold p_Le_countWithParts_17
      try simp (disch := omega) only [↓mI_e, litI, cLeT, cLeF, cLtT, cLtF, cEqF, cEqT, mE1, mE2, mL1, mL2, mL3, mL4, cIn, nI_clamp, nI_add, cMul, cSub, cM1, nar0, nar1, true_implies, false_implies, not_true_eq_false, not_false_eq_true, true_and, and_true]
      rw [h6]
      refine hQ ct' (fun i hi a => ⟨fun b => ?_, fun b => ?_⟩) h2 h1 h7 ?_
      · rcases (h4 i hi a).1 b with q | q
        · exact q
        · omega
      · rcases (h4 i hi a).2 b with q | q
        · exact q
        · omega
      · rcases h5 with q | q
        · exact q
        · omega
    · rintro f i ⟨x2, ct', C'⟩ hi ⟨h1, h2, h3, h4, h5, h6, h7⟩ ih
      dsimp only at h1 h2 h3 h4 h5 h6 h7 ih ⊢
      have hiE : i < tn E := by omega
      have cm1 : cN (gc ct) (tn E) ≤ cN (gc ct') (tn E) := cN_mono _ (fun k _ a => h1 k a)
      have cl := cN_le (gc ct') (tn E)
      unfold p_Le_countWithParts_17 p_Le_countWithParts_104
      rw [show (nI i + (-1 : Int32)) = nI i + mI from rfl]
      generalize nI i + mI = x7 at ih ⊢
      try simp (disch := omega) only [↓mI_e, litI, cLeT, cLeF, cLtT, cLtF, cEqF, cEqT, mE1, mE2, mL1, mL2, mL3, mL4, cIn, nI_clamp, nI_add, cMul, cSub, cM1, nar0, nar1, true_implies, false_implies, not_true_eq_false, not_false_eq_true, true_and, and_true, bl_tst]
      have skip : (gc ct' i ∨ ¬ bl x2 i) → p_Le_countWithParts_17 (nI t) te Q f x2 x7 (af, ct', ex, il, nw, cm, wa, C') := by
        intro hsk
        have wk : ∀ p, (gc ct' p ∨ (p < i + 1 ∧ bl x2 p)) → (gc ct' p ∨ (p < i ∧ bl x2 p)) := by
          rintro p (a | ⟨a, b⟩)
          · exact Or.inl a
          · by_cases e : p = i
            · subst e
              rcases hsk with q | q
              · exact Or.inl q
              · exact absurd b q
            · exact Or.inr ⟨by omega, b⟩
        exact ih (x2, ct', C') ⟨h1, h2, h3, fun q hq a => ⟨fun b => wk _ ((h4 q hq a).1 b), fun b => wk _ ((h4 q hq a).2 b)⟩, wk _ h5, h6, h7⟩
      refine ⟨fun q => skip (Or.inr q), fun q => ?_⟩
      have q := Classical.not_not.mp q
      refine ⟨fun hci => ?_, fun hci => skip (Or.inl hci)⟩
      have nci : ¬ gc ct' i := fun k => k hci
      have ca : cN (gc (upd ct' i (nI 1))) (tn E) = cN (gc ct') (tn E) + 1 := cN_add1 hiE nci (fun k _ => gc_upd)
      have oi := o.2.2 i hiE
      have q2 : tq E i ≤ 2 := o.2.1 _
      refine nm_e ?_
      refine nm_e ?_
      try dsimp only [Le_after, Le_counted, Le_expanded, Le_inLevels, Le_newest, Le_coming, Le_waiting, Le_countedTerms, Le_after_s, Le_counted_s, Le_expanded_s, Le_inLevels_s, Le_newest_s, Le_coming_s, Le_waiting_s, Le_countedTerms_s]
      try simp (disch := omega) only [↓mI_e, litI, cLeT, cLeF, cLtT, cLtF, cEqF, cEqT, mE1, mE2, mL1, mL2, mL3, mL4, cIn, nI_clamp, nI_add, cMul, cSub, cM1, nar0, nar1, true_implies, false_implies, not_true_eq_false, not_false_eq_true, true_and, and_true, symbol_t hT]
      rw [placesS_t hT hiE]
      have fin : ∀ w : Int64, (∀ v, bl w v ↔ bl x2 v ∨ (1 ≤ tq E i ∧ v = ta E i) ∨ (2 ≤ tq E i ∧ v = tb E i)) → p_Le_countWithParts_17 (nI t) te Q f w x7 (af, upd ct' i (nI 1), ex, il, nw, cm, wa, C' + nI 1) := by
        intro w hw
        have wk : ∀ p, (gc ct' p ∨ (p < i + 1 ∧ bl x2 p)) → (gc (upd ct' i (nI 1)) p ∨ (p < i ∧ bl w p)) := by
          rintro p (a | ⟨a, b⟩)
          · exact Or.inl (gc_upd.mpr (Or.inl a))
          · by_cases e : p = i
            · exact Or.inl (gc_upd.mpr (Or.inr e))
            · exact Or.inr ⟨by omega, (hw p).mpr (Or.inl b)⟩
        have hXi : X (den E i) := (h3 i q).2
        refine ih (w, upd ct' i (nI 1), C' + nI 1) ⟨fun k a => gc_upd.mpr (Or.inl (h1 k a)), fun k hk a => ?_, fun v hv => ?_, fun k hk a => ?_, wk _ h5, ?_, fun k hk => ?_⟩
        · rcases gc_upd.mp a with a | a
          · exact h2 k hk a
          · subst a; exact hXi
        · rcases (hw v).mp hv with a | ⟨a, b⟩ | ⟨a, b⟩
          · exact h3 v a
          · subst b; exact ⟨by omega, hXp _ _ hXi ((prt_den o hiE).mpr (Or.inl ⟨a, rfl⟩))⟩
          · subst b; exact ⟨by omega, hXp _ _ hXi ((prt_den o hiE).mpr (Or.inr ⟨a, rfl⟩))⟩
        · rcases gc_upd.mp a with a | a
          · exact ⟨fun b => wk _ ((h4 k hk a).1 b), fun b => wk _ ((h4 k hk a).2 b)⟩
          · subst a
            exact ⟨fun b => Or.inr ⟨by omega, (hw _).mpr (Or.inr (Or.inl ⟨b, rfl⟩))⟩, fun b => Or.inr ⟨by omega, (hw _).mpr (Or.inr (Or.inr ⟨b, rfl⟩))⟩⟩
        · dsimp only
          rw [h6, nI_add, ca]
          exact congrArg nI (by omega)
        · dsimp only
          rw [upd_n (by omega)]
          exact h7 k hk
      have hta48 : 1 ≤ tq E i → ta E i < 64 := by omega
      have htb48 : 2 ≤ tq E i → tb E i < 64 := by omega
      by_cases q1 : 1 ≤ tq E i
      · try simp (disch := omega) only [↓mI_e, litI, cLeT, cLeF, cLtT, cLtF, cEqF, cEqT, mE1, mE2, mL1, mL2, mL3, mL4, cIn, nI_clamp, nI_add, cMul, cSub, cM1, nar0, nar1, true_implies, false_implies, not_true_eq_false, not_false_eq_true, true_and, and_true, first_t hT]
        rw [pc_n q1]
        by_cases q3 : 2 ≤ tq E i
        · try simp (disch := omega) only [↓mI_e, litI, cLeT, cLeF, cLtT, cLtF, cEqF, cEqT, mE1, mE2, mL1, mL2, mL3, mL4, cIn, nI_clamp, nI_add, cMul, cSub, cM1, nar0, nar1, true_implies, false_implies, not_true_eq_false, not_false_eq_true, true_and, and_true, second_t hT]
          rw [pc_n q3]
          refine fin _ (fun v => ?_)
          rw [bl_or, bl_or, bl_shl (hta48 q1), bl_shl (htb48 q3)]
          constructor
          · rintro ((a | a) | a)
            · exact Or.inl a
            · exact Or.inr (Or.inl ⟨q1, a⟩)
            · exact Or.inr (Or.inr ⟨q3, a⟩)
          · rintro (a | a | a)
            · exact Or.inl (Or.inl a)
            · exact Or.inl (Or.inr a.2)
            · exact Or.inr a.2
        · try simp (disch := omega) only [↓mI_e, litI, cLeT, cLeF, cLtT, cLtF, cEqF, cEqT, mE1, mE2, mL1, mL2, mL3, mL4, cIn, nI_clamp, nI_add, cMul, cSub, cM1, nar0, nar1, true_implies, false_implies, not_true_eq_false, not_false_eq_true, true_and, and_true]
          refine fin _ (fun v => ?_)
          rw [bl_or, bl_or, bl_shl (hta48 q1)]
          constructor
          · rintro ((a | a) | a)
            · exact Or.inl a
            · exact Or.inr (Or.inl ⟨q1, a⟩)
            · exact absurd a (bl_0 v)
          · rintro (a | a | a)
            · exact Or.inl (Or.inl a)
            · exact Or.inl (Or.inr a.2)
            · exact absurd a.1 q3
      · try simp (disch := omega) only [↓mI_e, litI, cLeT, cLeF, cLtT, cLtF, cEqF, cEqT, mE1, mE2, mL1, mL2, mL3, mL4, cIn, nI_clamp, nI_add, cMul, cSub, cM1, nar0, nar1, true_implies, false_implies, not_true_eq_false, not_false_eq_true, true_and, and_true]
        refine fin _ (fun v => ?_)
        rw [bl_or, bl_or]
        constructor
        · rintro ((a | a) | a)
          · exact Or.inl a
          · exact absurd a (bl_0 v)
          · exact absurd a (bl_0 v)
        · rintro (a | a | a)
          · exact Or.inl (Or.inl a)
          · exact absurd a.1 q1
          · exact absurd a.1 (by omega)
  · have := hQ ct hc hs (fun i a => a) (fun i _ => rfl) hz
    rw [Nat.sub_self] at this
    exact this
end
