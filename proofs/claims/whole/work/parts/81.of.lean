/-! sizes, step counts, of -/
/-- how many of the first m rules have t on the left -/
def lcN (R : Rul) (t : Nat) : Nat → Nat
  | 0 => 0
  | m + 1 => lcN R t m + (if rl R m = t then 1 else 0)
def lc (R : Rul) (t : Nat) : Nat := lcN R t (rn R)
theorem lcN_le (R : Rul) (t : Nat) : ∀ m, lcN R t m ≤ m := by
  intro m
  induction m with
  | zero => exact Nat.le_refl _
  | succ m ih =>
    show lcN R t m + (if rl R m = t then 1 else 0) ≤ m + 1
    by_cases h : rl R m = t
    · rw [if_pos h]; omega
    · rw [if_neg h]; omega
theorem lcN_t {R : Rul} {t m : Nat} (h : rl R m = t) : lcN R t (m + 1) = lcN R t m + 1 := by
  show lcN R t m + (if rl R m = t then 1 else 0) = _
  rw [if_pos h]
theorem lcN_f {R : Rul} {t m : Nat} (h : ¬ rl R m = t) : lcN R t (m + 1) = lcN R t m := by
  show lcN R t m + (if rl R m = t then 1 else 0) = _
  rw [if_neg h]; rfl
theorem lcN_mono {R : Rul} {t : Nat} : ∀ {k m : Nat}, k ≤ m → lcN R t k ≤ lcN R t m := by
  intro k m h
  induction m with
  | zero => rw [Nat.le_zero.mp h]; exact Nat.le_refl _
  | succ m ih =>
    by_cases e : k = m + 1
    · rw [e]; exact Nat.le_refl _
    · have := ih (by omega)
      by_cases h2 : rl R m = t
      · rw [lcN_t h2]; omega
      · rw [lcN_f h2]; exact this
theorem wt_cap {T : Tab} (h : tOk T) {c d : Nat} (hc : c ≤ d) (b : Nat → Nat) : ∀ t, t < tn T → min c (wt T d b t) = wt T c b t := by
  intro t
  induction t using Nat.strongRecOn with
  | _ t ih =>
    intro ht
    have h3 := h.2.2 t ht
    rw [wt_eq h d b ht, wt_eq h c b ht]
    by_cases h4 : 1 ≤ tq T t
    · have e1 := ih (ta T t) (by omega) (by omega)
      rw [if_pos h4, if_pos h4]
      by_cases h5 : 2 ≤ tq T t
      · have e2 := ih (tb T t) (by omega) (by omega)
        rw [if_pos h5, if_pos h5]
        omega
      · rw [if_neg h5, if_neg h5]
        omega
    · rw [if_neg h4, if_neg h4, if_neg (by omega), if_neg (by omega)]
      omega
theorem wt_bd {T : Tab} (h : tOk T) (c B : Nat) {b : Nat → Nat} (hb : ∀ t, b t ≤ B) : ∀ t, t < tn T → wt T c b t + B ≤ B * 2 ^ (t + 1) := by
  intro t
  induction t using Nat.strongRecOn with
  | _ t ih =>
    intro ht
    have h3 := h.2.2 t ht
    have hbt := hb t
    have p1 : ∀ a, a < t → B * 2 ^ (a + 1) ≤ B * 2 ^ t := fun a ha => Nat.mul_le_mul_left _ (Nat.pow_le_pow_right (by omega) (by omega))
    have p2 : B * 2 ^ (t + 1) = B * 2 ^ t + B * 2 ^ t := by rw [Nat.pow_succ, ← Nat.mul_assoc]; omega
    have p3 : B * 1 ≤ B * 2 ^ t := Nat.mul_le_mul_left _ (Nat.one_le_two_pow)
    rw [wt_eq h c b ht, p2]
    by_cases h4 : 1 ≤ tq T t
    · have e1 := ih (ta T t) (by omega) (by omega)
      have e2 := p1 (ta T t) (by omega)
      rw [if_pos h4]
      by_cases h5 : 2 ≤ tq T t
      · have e3 := ih (tb T t) (by omega) (by omega)
        have e4 := p1 (tb T t) (by omega)
        rw [if_pos h5]
        omega
      · rw [if_neg h5]
        omega
    · rw [if_neg h4, if_neg (by omega)]
      omega
section
variable {T : Tab} {R : Rul} {te : Te} {ru : Ru} {mo : Mo} {t : Nat}
theorem first_t {Q : Int32 → Prop} (hT : tTe T te) (ht : t < tn T) : p_Te_firstOf (nI t) te Q ↔ Q (pc 1 (tq T t) (ta T t)) := by
  have := hT.2.1
  unfold p_Te_firstOf
  rw [nI_clamp (by omega), hT.2.2.2.2.2.1 t ht]
  simp (disch := omega) only [↓mI_e, litI, cLeT, cLeF, cLtT, cLtF, cEqF, cEqT, mE1, mE2, mL1, mL2, mL3, mL4, cIn, nI_clamp, nI_add, cMul, cSub, cM1, nar0, nar1, true_implies, false_implies, not_true_eq_false, not_false_eq_true, true_and, and_true]
theorem second_t {Q : Int32 → Prop} (hT : tTe T te) (ht : t < tn T) : p_Te_secondOf (nI t) te Q ↔ Q (pc 2 (tq T t) (tb T t)) := by
  have := hT.2.1
  unfold p_Te_secondOf
  rw [nI_clamp (by omega), hT.2.2.2.2.2.2.1 t ht]
  simp (disch := omega) only [↓mI_e, litI, cLeT, cLeF, cLtT, cLtF, cEqF, cEqT, mE1, mE2, mL1, mL2, mL3, mL4, cIn, nI_clamp, nI_add, cMul, cSub, cM1, nar0, nar1, true_implies, false_implies, not_true_eq_false, not_false_eq_true, true_and, and_true]
theorem symbol_t {Q : Int32 → Prop} (hT : tTe T te) (ht : t < tn T) : p_Te_symbolOf (nI t) te Q ↔ Q (nI (ts T t)) := by
  have := hT.2.1
  unfold p_Te_symbolOf
  rw [nI_clamp (by omega), hT.2.2.2.2.1 t ht]
  simp (disch := omega) only [↓mI_e, litI, cLeT, cLeF, cLtT, cLtF, cEqF, cEqT, mE1, mE2, mL1, mL2, mL3, mL4, cIn, nI_clamp, nI_add, cMul, cSub, cM1, nar0, nar1, true_implies, false_implies, not_true_eq_false, not_false_eq_true, true_and, and_true]
theorem size_t {Q : Int32 → Prop} (hT : tTe T te) (ht : t < tn T) : p_Te_sizeOf (nI t) te Q ↔ Q (nI (szT T t)) := by
  have := hT.2.1
  unfold p_Te_sizeOf
  rw [nI_clamp (by omega), hT.2.2.2.2.2.2.2.1 t ht]
  simp (disch := omega) only [↓mI_e, litI, cLeT, cLeF, cLtT, cLtF, cEqF, cEqT, mE1, mE2, mL1, mL2, mL3, mL4, cIn, nI_clamp, nI_add, cMul, cSub, cM1, nar0, nar1, true_implies, false_implies, not_true_eq_false, not_false_eq_true, true_and, and_true]
theorem placesS_t {Q : Int32 → Prop} (hT : tTe T te) (ht : t < tn T) : p_Te_placesOf (nI (ts T t)) te Q ↔ Q (nI (tq T t)) := places_t hT (hT.1.2.2 t ht).1
theorem capped_t {v : Nat} {Q : Int32 → Prop} (hv : v < 2 ^ 63) : p_Mo_capped (lN v) Q ↔ Q (nI (min 1000000000 v)) := by
  unfold p_Mo_capped
  rw [lg_cmp_le, show (1000000000 : Int64) = lN 1000000000 from rfl, pk_lLE hv (by omega), lN_i]
  by_cases h : v ≤ 1000000000
  · rw [show min 1000000000 v = v by omega]
    simp only [h, true_implies, not_true_eq_false, false_implies, and_true]
  · rw [show min 1000000000 v = 1000000000 by omega]
    simp only [h, not_false_eq_true, true_implies, false_implies, true_and]
    exact Iff.rfl
theorem s_lefts {Q : Int32 → Prop} (hr : rMo R mo) (ho : rOk T R) (hn : tn T ≤ 520) (ht : t < 2 ^ 31) (hQ : Q (nI (lc R t))) : p_Mo_lefts (nI t) mo Q := by
  have h8 := ho.1
  obtain ⟨c0, c1, c2⟩ := hr
  unfold p_Mo_lefts
  refine forN (fun f i x => p_Mo_lefts_4 (nI t) mo Q f x i) (fun i x => x = nI (lcN R t i)) (rn R) 0 _ (by omega) rfl ?_ ?_
  · intro m x hx
    unfold p_Mo_lefts_4
    rw [c0]
    simp (disch := omega) only [↓mI_e, litI, cLeT, cLeF, cLtT, cLtF, cEqF, cEqT, mE1, mE2, mL1, mL2, mL3, mL4, cIn, nI_clamp, nI_add, cMul, cSub, cM1, nar0, nar1, true_implies, false_implies, not_true_eq_false, not_false_eq_true, true_and, and_true]
    rw [hx]
    exact hQ
  · intro m i x hi hx ih
    have := (ho.2 i hi).1
    unfold p_Mo_lefts_4
    rw [c0]
    simp (disch := omega) only [↓mI_e, litI, cLeT, cLeF, cLtT, cLtF, cEqF, cEqT, mE1, mE2, mL1, mL2, mL3, mL4, cIn, nI_clamp, nI_add, cMul, cSub, cM1, nar0, nar1, true_implies, false_implies, not_true_eq_false, not_false_eq_true, true_and, and_true]
    rw [c1 i hi, hx]
    by_cases e : rl R i = t
    · simp (disch := omega) only [↓mI_e, litI, cLeT, cLeF, cLtT, cLtF, cEqF, cEqT, mE1, mE2, mL1, mL2, mL3, mL4, cIn, nI_clamp, nI_add, cMul, cSub, cM1, nar0, nar1, true_implies, false_implies, not_true_eq_false, not_false_eq_true, true_and, and_true]
      exact ih _ (by rw [lcN_t e])
    · simp (disch := omega) only [↓mI_e, litI, cLeT, cLeF, cLtT, cLtF, cEqF, cEqT, mE1, mE2, mL1, mL2, mL3, mL4, cIn, nI_clamp, nI_add, cMul, cSub, cM1, nar0, nar1, true_implies, false_implies, not_true_eq_false, not_false_eq_true, true_and, and_true]
      exact ih _ (by rw [lcN_f e]; rfl)
theorem s_countAt {Q : Int32 → Prop} (hr : rRu R ru) (ho : rOk T R) (hn : tn T ≤ 520) (ht : t < 2 ^ 31) (hQ : Q (nI (lc R t))) : p_Ru_countAt (nI t) ru Q := by
  have h8 := ho.1
  obtain ⟨c0, c1, c2⟩ := hr
  unfold p_Ru_countAt
  refine forN (fun f i x => p_Ru_countAt_4 (nI t) ru Q f x i) (fun i x => x = nI (lcN R t i)) (rn R) 0 _ (by omega) rfl ?_ ?_
  · intro m x hx
    unfold p_Ru_countAt_4
    rw [c0]
    simp (disch := omega) only [↓mI_e, litI, cLeT, cLeF, cLtT, cLtF, cEqF, cEqT, mE1, mE2, mL1, mL2, mL3, mL4, cIn, nI_clamp, nI_add, cMul, cSub, cM1, nar0, nar1, true_implies, false_implies, not_true_eq_false, not_false_eq_true, true_and, and_true]
    rw [hx]
    exact hQ
  · intro m i x hi hx ih
    have := (ho.2 i hi).1
    unfold p_Ru_countAt_4
    rw [c0]
    simp (disch := omega) only [↓mI_e, litI, cLeT, cLeF, cLtT, cLtF, cEqF, cEqT, mE1, mE2, mL1, mL2, mL3, mL4, cIn, nI_clamp, nI_add, cMul, cSub, cM1, nar0, nar1, true_implies, false_implies, not_true_eq_false, not_false_eq_true, true_and, and_true]
    rw [c1 i hi, hx]
    by_cases e : rl R i = t
    · simp (disch := omega) only [↓mI_e, litI, cLeT, cLeF, cLtT, cLtF, cEqF, cEqT, mE1, mE2, mL1, mL2, mL3, mL4, cIn, nI_clamp, nI_add, cMul, cSub, cM1, nar0, nar1, true_implies, false_implies, not_true_eq_false, not_false_eq_true, true_and, and_true]
      exact ih _ (by rw [lcN_t e])
    · simp (disch := omega) only [↓mI_e, litI, cLeT, cLeF, cLtT, cLtF, cEqF, cEqT, mE1, mE2, mL1, mL2, mL3, mL4, cIn, nI_clamp, nI_add, cMul, cSub, cM1, nar0, nar1, true_implies, false_implies, not_true_eq_false, not_false_eq_true, true_and, and_true]
      exact ih _ (by rw [lcN_f e])
theorem lc_le (ho : rOk T R) (t : Nat) : lc R t ≤ 8 := Nat.le_trans (lcN_le R t _) ho.1
theorem pc0 {k q a : Nat} (h : k ≤ q) (ha : a < 2 ^ 31) : (nI 0 ≤ pc k q a) = True := by rw [pc_n h]; exact cLeT (by omega) ha
theorem pc0' {k q a : Nat} (h : q < k) : (nI 0 ≤ pc k q a) = False := by rw [pc_m h]; exact mL4 (by omega)
/-- one weight: what the reference adds up -/
theorem s_size {Q : Int32 → Mo → Prop} (hM : tMo T mo) (ht : t < tn T) (hQ : ∀ g, (∀ k, k ≤ t → g k = nI (szT T k)) → Q (nI (szT T t)) (Mo_many_s mo g)) : p_Mo_size (nI t) mo Q := by
  obtain ⟨o, hn, hc, hp, hsy, h1, h2⟩ := hM
  unfold p_Mo_size
  refine forN (fun f i g => p_Mo_size_2 (nI t) Q f i (Mo_many_s mo g)) (fun i g => ∀ k, k < i → g k = nI (szT T k)) (t + 1) 0 (Mo_many mo) (by omega) (fun k hk => by omega) ?_ ?_
  · intro m g hg
    unfold p_Mo_size_2
    simp (disch := omega) only [↓mI_e, litI, cLeT, cLeF, cLtT, cLtF, cEqF, cEqT, mE1, mE2, mL1, mL2, mL3, mL4, cIn, nI_clamp, nI_add, cMul, cSub, cM1, nar0, nar1, true_implies, false_implies, not_true_eq_false, not_false_eq_true, true_and, and_true]
    rw [show Mo_many (Mo_many_s mo g) t = nI (szT T t) from hg t (by omega)]
    exact hQ g (fun k hk => hg k (by omega))
  · intro m i g hi hg ih
    have hin : i < tn T := by omega
    have h3 := o.2.2 i hin
    have hle := o.le hin
    have sa := wt_le T 1000000000 (fun _ => 1) (ta T i)
    have sb := wt_le T 1000000000 (fun _ => 1) (tb T i)
    have e := wt_eq o 1000000000 (fun _ => 1) hin
    have k58 : ∀ ya yb : Nat, ya ≤ 1000000000 → yb ≤ 1000000000 → szT T i = min 1000000000 (1 + ya + yb) → p_Mo_size_58 (nI t) Q (fun a0 a1 => p_Mo_size_2 (nI t) Q m a0 a1) (nI i) (nI yb) ((1 : Int64) + (nI ya).toInt64) (Mo_many_s mo g) := by
      intro ya yb hya hyb e9
      unfold p_Mo_size_58
      rw [nI_l (by omega), nI_l (by omega), show (1 : Int64) = lN 1 from rfl, lN_add, lN_add, capped_t (by omega), ← e9]
      simp (disch := omega) only [↓mI_e, litI, cLeT, cLeF, cLtT, cLtF, cEqF, cEqT, mE1, mE2, mL1, mL2, mL3, mL4, cIn, nI_clamp, nI_add, cMul, cSub, cM1, nar0, nar1, true_implies, false_implies, not_true_eq_false, not_false_eq_true, true_and, and_true]
      refine nm_e ?_
      refine ih (upd g i (nI (szT T i))) (fun k hk => ?_)
      by_cases e7 : k = i
      · rw [e7]; exact pk_us
      · rw [upd_n e7]; exact hg k (by omega)
    have k32 : ∀ ya : Nat, ya ≤ 1000000000 → szT T i = min 1000000000 (1 + ya + (if 2 ≤ tq T i then szT T (tb T i) else 0)) → p_Mo_size_32 (nI t) Q (fun a0 a1 => p_Mo_size_2 (nI t) Q m a0 a1) (nI i) (nI ya) (1 : Int64) (Mo_many_s mo g) := by
      intro ya hya e9
      unfold p_Mo_size_32
      rw [nI_clamp (by omega), show Mo_two (Mo_many_s mo g) i = pc 2 (tq T i) (tb T i) from h2 i hin]
      by_cases h : 2 ≤ tq T i
      · rw [if_pos h] at e9
        simp (disch := omega) only [↓mI_e, litI, cLeT, cLeF, cLtT, cLtF, cEqF, cEqT, mE1, mE2, mL1, mL2, mL3, mL4, cIn, nI_clamp, nI_add, cMul, cSub, cM1, nar0, nar1, true_implies, false_implies, not_true_eq_false, not_false_eq_true, true_and, and_true, pc0]
        rw [pc_n h]
        simp (disch := omega) only [↓mI_e, litI, cLeT, cLeF, cLtT, cLtF, cEqF, cEqT, mE1, mE2, mL1, mL2, mL3, mL4, cIn, nI_clamp, nI_add, cMul, cSub, cM1, nar0, nar1, true_implies, false_implies, not_true_eq_false, not_false_eq_true, true_and, and_true]
        rw [show Mo_many (Mo_many_s mo g) (tb T i) = nI (szT T (tb T i)) from hg _ (by omega)]
        exact k58 ya _ hya sb e9
      · rw [if_neg h] at e9
        simp (disch := omega) only [↓mI_e, litI, cLeT, cLeF, cLtT, cLtF, cEqF, cEqT, mE1, mE2, mL1, mL2, mL3, mL4, cIn, nI_clamp, nI_add, cMul, cSub, cM1, nar0, nar1, true_implies, false_implies, not_true_eq_false, not_false_eq_true, true_and, and_true, pc0']
        exact k58 ya 0 hya (by omega) e9
    unfold p_Mo_size_2
    simp (disch := omega) only [↓mI_e, litI, cLeT, cLeF, cLtT, cLtF, cEqF, cEqT, mE1, mE2, mL1, mL2, mL3, mL4, cIn, nI_clamp, nI_add, cMul, cSub, cM1, nar0, nar1, true_implies, false_implies, not_true_eq_false, not_false_eq_true, true_and, and_true]
    rw [show Mo_one (Mo_many_s mo g) i = pc 1 (tq T i) (ta T i) from h1 i hin]
    by_cases h : 1 ≤ tq T i
    · simp (disch := omega) only [↓mI_e, litI, cLeT, cLeF, cLtT, cLtF, cEqF, cEqT, mE1, mE2, mL1, mL2, mL3, mL4, cIn, nI_clamp, nI_add, cMul, cSub, cM1, nar0, nar1, true_implies, false_implies, not_true_eq_false, not_false_eq_true, true_and, and_true, pc0]
      rw [pc_n h]
      simp (disch := omega) only [↓mI_e, litI, cLeT, cLeF, cLtT, cLtF, cEqF, cEqT, mE1, mE2, mL1, mL2, mL3, mL4, cIn, nI_clamp, nI_add, cMul, cSub, cM1, nar0, nar1, true_implies, false_implies, not_true_eq_false, not_false_eq_true, true_and, and_true]
      rw [show Mo_many (Mo_many_s mo g) (ta T i) = nI (szT T (ta T i)) from hg _ (by omega)]
      refine k32 _ sa ?_
      unfold szT
      rw [e, if_pos h]
    · simp (disch := omega) only [↓mI_e, litI, cLeT, cLeF, cLtT, cLtF, cEqF, cEqT, mE1, mE2, mL1, mL2, mL3, mL4, cIn, nI_clamp, nI_add, cMul, cSub, cM1, nar0, nar1, true_implies, false_implies, not_true_eq_false, not_false_eq_true, true_and, and_true, pc0']
      refine k32 0 (by omega) ?_
      unfold szT
      rw [e, if_neg h]
theorem s_steps {Q : Int32 → Mo → Prop} (hM : tMo T mo) (hr : rMo R mo) (ho : rOk T R) (ht : t < tn T) (hQ : ∀ g, (∀ k, k ≤ t → g k = nI (wt T 1000000000 (lc R) k)) → Q (nI (wt T 1000000000 (lc R) t)) (Mo_many_s mo g)) : p_Mo_steps (nI t) mo Q := by
  obtain ⟨o, hn, hc, hp, hsy, h1, h2⟩ := hM
  unfold p_Mo_steps
  refine forN (fun f i g => p_Mo_steps_2 (nI t) Q f i (Mo_many_s mo g)) (fun i g => ∀ k, k < i → g k = nI (wt T 1000000000 (lc R) k)) (t + 1) 0 (Mo_many mo) (by omega) (fun k hk => by omega) ?_ ?_
  · intro m g hg
    unfold p_Mo_steps_2
    simp (disch := omega) only [↓mI_e, litI, cLeT, cLeF, cLtT, cLtF, cEqF, cEqT, mE1, mE2, mL1, mL2, mL3, mL4, cIn, nI_clamp, nI_add, cMul, cSub, cM1, nar0, nar1, true_implies, false_implies, not_true_eq_false, not_false_eq_true, true_and, and_true]
    rw [show Mo_many (Mo_many_s mo g) t = nI (wt T 1000000000 (lc R) t) from hg t (by omega)]
    exact hQ g (fun k hk => hg k (by omega))
  · intro m i g hi hg ih
    have hin : i < tn T := by omega
    have h3 := o.2.2 i hin
    have hle := o.le hin
    have sa := wt_le T 1000000000 (lc R) (ta T i)
    have sb := wt_le T 1000000000 (lc R) (tb T i)
    have e := wt_eq o 1000000000 (lc R) hin
    have l8 := lc_le ho i
    have k58 : ∀ ya yb : Nat, ya ≤ 1000000000 → yb ≤ 1000000000 → wt T 1000000000 (lc R) i = min 1000000000 (lc R i + ya + yb) → p_Mo_steps_63 (nI t) Q (fun a0 a1 => p_Mo_steps_2 (nI t) Q m a0 a1) (nI i) (nI yb) ((nI (lc R i)).toInt64 + (nI ya).toInt64) (Mo_many_s mo g) := by
      intro ya yb hya hyb e9
      unfold p_Mo_steps_63
      rw [nI_l (by omega), nI_l (by omega), nI_l (by omega), lN_add, lN_add, capped_t (by omega), ← e9]
      simp (disch := omega) only [↓mI_e, litI, cLeT, cLeF, cLtT, cLtF, cEqF, cEqT, mE1, mE2, mL1, mL2, mL3, mL4, cIn, nI_clamp, nI_add, cMul, cSub, cM1, nar0, nar1, true_implies, false_implies, not_true_eq_false, not_false_eq_true, true_and, and_true]
      refine nm_e ?_
      refine ih (upd g i (nI (wt T 1000000000 (lc R) i))) (fun k hk => ?_)
      by_cases e7 : k = i
      · rw [e7]; exact pk_us
      · rw [upd_n e7]; exact hg k (by omega)
    have k32 : ∀ ya : Nat, ya ≤ 1000000000 → wt T 1000000000 (lc R) i = min 1000000000 (lc R i + ya + (if 2 ≤ tq T i then wt T 1000000000 (lc R) (tb T i) else 0)) → p_Mo_steps_37 (nI t) Q (fun a0 a1 => p_Mo_steps_2 (nI t) Q m a0 a1) (nI i) (nI ya) (nI (lc R i)).toInt64 (Mo_many_s mo g) := by
      intro ya hya e9
      unfold p_Mo_steps_37
      rw [nI_clamp (by omega), show Mo_two (Mo_many_s mo g) i = pc 2 (tq T i) (tb T i) from h2 i hin]
      by_cases h : 2 ≤ tq T i
      · rw [if_pos h] at e9
        simp (disch := omega) only [↓mI_e, litI, cLeT, cLeF, cLtT, cLtF, cEqF, cEqT, mE1, mE2, mL1, mL2, mL3, mL4, cIn, nI_clamp, nI_add, cMul, cSub, cM1, nar0, nar1, true_implies, false_implies, not_true_eq_false, not_false_eq_true, true_and, and_true, pc0]
        rw [pc_n h]
        simp (disch := omega) only [↓mI_e, litI, cLeT, cLeF, cLtT, cLtF, cEqF, cEqT, mE1, mE2, mL1, mL2, mL3, mL4, cIn, nI_clamp, nI_add, cMul, cSub, cM1, nar0, nar1, true_implies, false_implies, not_true_eq_false, not_false_eq_true, true_and, and_true]
        rw [show Mo_many (Mo_many_s mo g) (tb T i) = nI (wt T 1000000000 (lc R) (tb T i)) from hg _ (by omega)]
        exact k58 ya _ hya sb e9
      · rw [if_neg h] at e9
        simp (disch := omega) only [↓mI_e, litI, cLeT, cLeF, cLtT, cLtF, cEqF, cEqT, mE1, mE2, mL1, mL2, mL3, mL4, cIn, nI_clamp, nI_add, cMul, cSub, cM1, nar0, nar1, true_implies, false_implies, not_true_eq_false, not_false_eq_true, true_and, and_true, pc0']
        exact k58 ya 0 hya (by omega) e9
    unfold p_Mo_steps_2
    simp (disch := omega) only [↓mI_e, litI, cLeT, cLeF, cLtT, cLtF, cEqF, cEqT, mE1, mE2, mL1, mL2, mL3, mL4, cIn, nI_clamp, nI_add, cMul, cSub, cM1, nar0, nar1, true_implies, false_implies, not_true_eq_false, not_false_eq_true, true_and, and_true]
    refine s_lefts (R := R) (T := T) (show rMo R (Mo_many_s mo g) from hr) ho (by omega) (by omega) ?_
    rw [show Mo_one (Mo_many_s mo g) i = pc 1 (tq T i) (ta T i) from h1 i hin]
    by_cases h : 1 ≤ tq T i
    · simp (disch := omega) only [↓mI_e, litI, cLeT, cLeF, cLtT, cLtF, cEqF, cEqT, mE1, mE2, mL1, mL2, mL3, mL4, cIn, nI_clamp, nI_add, cMul, cSub, cM1, nar0, nar1, true_implies, false_implies, not_true_eq_false, not_false_eq_true, true_and, and_true, pc0]
      rw [pc_n h]
      simp (disch := omega) only [↓mI_e, litI, cLeT, cLeF, cLtT, cLtF, cEqF, cEqT, mE1, mE2, mL1, mL2, mL3, mL4, cIn, nI_clamp, nI_add, cMul, cSub, cM1, nar0, nar1, true_implies, false_implies, not_true_eq_false, not_false_eq_true, true_and, and_true]
      rw [show Mo_many (Mo_many_s mo g) (ta T i) = nI (wt T 1000000000 (lc R) (ta T i)) from hg _ (by omega)]
      refine k32 _ sa ?_
      rw [e, if_pos h]
    · simp (disch := omega) only [↓mI_e, litI, cLeT, cLeF, cLtT, cLtF, cEqF, cEqT, mE1, mE2, mL1, mL2, mL3, mL4, cIn, nI_clamp, nI_add, cMul, cSub, cM1, nar0, nar1, true_implies, false_implies, not_true_eq_false, not_false_eq_true, true_and, and_true, pc0']
      refine k32 0 (by omega) ?_
      rw [e, if_neg h]
/-- the class's uncut counts -/
def cnt (T : Tab) (R : Rul) (t : Nat) : Nat := wt T (2 ^ 60) (lc R) t
theorem cnt_bd (o : tOk T) (hn : tn T ≤ 48) (ho : rOk T R) (ht : t < tn T) : cnt T R t < 2 ^ 52 := by
  have := wt_bd o (2 ^ 60) 8 (lc_le ho) t ht
  have h2 : 8 * 2 ^ (t + 1) ≤ 8 * 2 ^ 48 := Nat.mul_le_mul_left _ (Nat.pow_le_pow_right (by omega) (by omega))
  unfold cnt
  omega
theorem cnt_eq (o : tOk T) (hn : tn T ≤ 48) (ho : rOk T R) (ht : t < tn T) : cnt T R t = lc R t + (if 1 ≤ tq T t then cnt T R (ta T t) else 0) + (if 2 ≤ tq T t then cnt T R (tb T t) else 0) := by
  have h1 := cnt_bd o hn ho ht
  have h2 := wt_eq o (2 ^ 60) (lc R) ht
  unfold cnt at h1 ⊢
  omega
theorem cnt_cap (o : tOk T) (ht : t < tn T) : min 1000000000 (cnt T R t) = wt T 1000000000 (lc R) t := wt_cap o (by omega) _ t ht
/-- a count inside a part -/
def cin (T : Tab) (R : Rul) (k q a : Nat) : Nat := if k ≤ q then cnt T R a else 0
theorem s_countIn {sp : Sp} {k q a : Nat} {Q : Int64 → Prop} (ha : k ≤ q → a < 48 ∧ Sp_counts sp a = lN (cnt T R a)) (hQ : Q (lN (cin T R k q a))) : p_Sp_countIn (pc k q a) sp Q := by
  unfold p_Sp_countIn
  unfold cin at hQ
  by_cases h : k ≤ q
  · obtain ⟨h1, h2⟩ := ha h
    rw [if_pos h] at hQ
    rw [pc_n h]
    simp (disch := omega) only [↓mI_e, litI, cLeT, cLeF, cLtT, cLtF, cEqF, cEqT, mE1, mE2, mL1, mL2, mL3, mL4, cIn, nI_clamp, nI_add, cMul, cSub, cM1, nar0, nar1, true_implies, false_implies, not_true_eq_false, not_false_eq_true, true_and, and_true]
    rw [h2]
    exact hQ
  · rw [if_neg h] at hQ
    rw [pc_m (by omega)]
    simp (disch := omega) only [↓mI_e, litI, cLeT, cLeF, cLtT, cLtF, cEqF, cEqT, mE1, mE2, mL1, mL2, mL3, mL4, cIn, nI_clamp, nI_add, cMul, cSub, cM1, nar0, nar1, true_implies, false_implies, not_true_eq_false, not_false_eq_true, true_and, and_true]
    exact hQ
theorem s_countAll {sp : Sp} {Q : Sp → Prop} (hT : tTe T te) (hn : tn T ≤ 48) (hr : rRu R ru) (ho : rOk T R) (hQ : ∀ g, (∀ k, k < tn T → g k = lN (cnt T R k)) → Q (Sp_counts_s sp g)) : p_Sp_countAll te ru sp Q := by
  have o := hT.1
  unfold p_Sp_countAll
  refine forN (fun f i g => p_Sp_countAll_2 te ru Q f i (Sp_counts_s sp g)) (fun i g => ∀ k, k < i → g k = lN (cnt T R k)) (tn T) 0 (Sp_counts sp) (by omega) (fun k hk => by omega) ?_ ?_
  · intro m g hg
    unfold p_Sp_countAll_2 p_Te_count
    rw [hT.2.2.1]
    simp (disch := omega) only [↓mI_e, litI, cLeT, cLeF, cLtT, cLtF, cEqF, cEqT, mE1, mE2, mL1, mL2, mL3, mL4, cIn, nI_clamp, nI_add, cMul, cSub, cM1, nar0, nar1, true_implies, false_implies, not_true_eq_false, not_false_eq_true, true_and, and_true]
    exact hQ g hg
  · intro m i g hi hg ih
    have h3 := o.2.2 i hi
    have hle := o.le hi
    unfold p_Sp_countAll_2 p_Te_count
    rw [hT.2.2.1]
    simp (disch := omega) only [↓mI_e, litI, cLeT, cLeF, cLtT, cLtF, cEqF, cEqT, mE1, mE2, mL1, mL2, mL3, mL4, cIn, nI_clamp, nI_add, cMul, cSub, cM1, nar0, nar1, true_implies, false_implies, not_true_eq_false, not_false_eq_true, true_and, and_true]
    refine s_countAt hr ho (by omega) (by omega) ?_
    rw [first_t hT hi]
    refine s_countIn (T := T) (R := R) (fun h => ⟨by omega, hg _ (by omega)⟩) ?_
    rw [second_t hT hi]
    refine s_countIn (T := T) (R := R) (fun h => ⟨by omega, hg _ (by omega)⟩) ?_
    refine nm_e ?_
    have l8 := lc_le ho i
    rw [nI_l (by omega), lN_add, lN_add]
    have e := cnt_eq o hn ho hi
    unfold cin
    rw [← e]
    refine ih _ (fun k hk => ?_)
    by_cases e7 : k = i
    · rw [e7]; exact pk_uLs
    · rw [updL_n e7]; exact hg k (by omega)
theorem s_countOf {sp : Sp} {Q : Int32 → Sp → Prop} (hT : tTe T te) (hn : tn T ≤ 48) (hr : rRu R ru) (ho : rOk T R) (ht : t < tn T) (hQ : ∀ g, (∀ k, k < tn T → g k = lN (cnt T R k)) → Q (nI (wt T 1000000000 (lc R) t)) (Sp_counts_s sp g)) : p_Sp_countOf (nI t) te ru sp Q := by
  have o := hT.1
  unfold p_Sp_countOf
  refine s_countAll hT hn hr ho (fun g hg => ?_)
  have hb := cnt_bd o hn ho ht
  have e := cnt_cap (R := R) o ht
  have hq := hQ g hg
  simp (disch := omega) only [↓mI_e, litI, cLeT, cLeF, cLtT, cLtF, cEqF, cEqT, mE1, mE2, mL1, mL2, mL3, mL4, cIn, nI_clamp, nI_add, cMul, cSub, cM1, nar0, nar1, true_implies, false_implies, not_true_eq_false, not_false_eq_true, true_and, and_true]
  rw [show Sp_counts (Sp_counts_s sp g) t = lN (cnt T R t) from hg t ht]
  rw [← e] at hq
  rw [show (1000000000 : Int64) = lN 1000000000 from rfl]
  by_cases h : cnt T R t < 1000000000
  · rw [if_pos ((pk_lLT (by omega) (by omega : 1000000000 < 2 ^ 63)).mpr h), lN_i]
    rw [show min 1000000000 (cnt T R t) = cnt T R t by omega] at hq
    exact hq
  · rw [if_neg (fun h9 => h ((pk_lLT (by omega) (by omega : 1000000000 < 2 ^ 63)).mp h9))]
    rw [show min 1000000000 (cnt T R t) = 1000000000 by omega] at hq
    exact hq
end
section
variable {j : Nat} {T : Tab} {R : Rul} {A : Aut} {F : Nat} {te : Te} {ru : Ru} {au : Au} {re : Re} {la : La} {sp : Sp} {le : Le} {mo : Mo} {a1 a2 a3 a4 : Int32}
theorem many_k {mo mo' : Mo} (h : mKp mo mo') (g : Nat → Int32) : mKp mo (Mo_many_s mo' g) := ⟨h.1, h.2.1, h.2.2.1, h.2.2.2.1, h.2.2.2.2.1, h.2.2.2.2.2.1, h.2.2.2.2.2.2.1, h.2.2.2.2.2.2.2.1, h.2.2.2.2.2.2.2.2.1, h.2.2.2.2.2.2.2.2.2.1, h.2.2.2.2.2.2.2.2.2.2⟩
theorem q_1 (h : InvW j T R A F (te, ru, au, re, la, sp, le) mo) : ls_1 a1 a2 a3 a4 te ru au re la sp le mo (Inv (j + 1)) := by
  have hT := h.t
  have hM := h.1.2
  have hn := hM.2.1
  have hM0 : tMo T (Mo_thrown_s mo 0) := hM.kp (thr_k mo 0)
  obtain ⟨ho, hru, hrm⟩ := h.2.1
  have hk : mKp mo (Mo_thrown_s mo 0) := thr_k mo _
  unfold ls_1 p_Gr_of
  rcases ixc a1 (n := tn T) (by omega) with ⟨t, ht, rfl⟩ | ⟨-, g⟩
  · rw [made_t hT ht]
    refine ⟨fun _ => ?_, fun h => absurd h (by decide)⟩
    rcases ixc a2 (n := 5) (by omega) with ⟨w, hw, rfl⟩ | ⟨g, gn⟩
    · rw [nI_toInt (by omega)]
      refine ⟨fun h9 => by omega, fun h9 => ?_, fun h9 => ?_, fun h9 => ?_, fun h9 => ?_, fun h9 => ?_⟩
      · have e := (nI_eq (by omega) (by omega)).mp h9
        subst e
        rw [symbol_t hT ht]
        unfold p_Mo_of
        refine nm_e ?_
        rw [term_t hM0 ht]
        simp (disch := omega) only [↓mI_e, litI, cLeT, cLeF, cLtT, cLtF, cEqF, cEqT, mE1, mE2, mL1, mL2, mL3, mL4, cIn, nI_clamp, nI_add, cMul, cSub, cM1, nar0, nar1, true_implies, false_implies, not_true_eq_false, not_false_eq_true, true_and, and_true]
        exact ⟨(hM0.2.2.2.2.1 t ht).symm, h.same hk⟩
      · have e := (nI_eq (by omega) (by omega)).mp h9
        subst e
        rw [first_t hT ht]
        unfold p_Mo_of
        refine nm_e ?_
        rw [term_t hM0 ht]
        simp (disch := omega) only [↓mI_e, litI, cLeT, cLeF, cLtT, cLtF, cEqF, cEqT, mE1, mE2, mL1, mL2, mL3, mL4, cIn, nI_clamp, nI_add, cMul, cSub, cM1, nar0, nar1, true_implies, false_implies, not_true_eq_false, not_false_eq_true, true_and, and_true]
        exact ⟨(hM0.2.2.2.2.2.1 t ht).symm, h.same hk⟩
      · have e := (nI_eq (by omega) (by omega)).mp h9
        subst e
        rw [second_t hT ht]
        unfold p_Mo_of
        refine nm_e ?_
        rw [term_t hM0 ht]
        simp (disch := omega) only [↓mI_e, litI, cLeT, cLeF, cLtT, cLtF, cEqF, cEqT, mE1, mE2, mL1, mL2, mL3, mL4, cIn, nI_clamp, nI_add, cMul, cSub, cM1, nar0, nar1, true_implies, false_implies, not_true_eq_false, not_false_eq_true, true_and, and_true]
        exact ⟨(hM0.2.2.2.2.2.2 t ht).symm, h.same hk⟩
      · have e := (nI_eq (by omega) (by omega)).mp h9
        subst e
        rw [size_t hT ht]
        unfold p_Mo_of
        refine nm_e ?_
        rw [term_t hM0 ht]
        simp (disch := omega) only [↓mI_e, litI, cLeT, cLeF, cLtT, cLtF, cEqF, cEqT, mE1, mE2, mL1, mL2, mL3, mL4, cIn, nI_clamp, nI_add, cMul, cSub, cM1, nar0, nar1, true_implies, false_implies, not_true_eq_false, not_false_eq_true, true_and, and_true]
        exact s_size hM0 ht (fun g _ => ⟨rfl, h.same (many_k hk g)⟩)
      · have e := (nI_eq (by omega) (by omega)).mp h9
        subst e
        refine s_countOf hT hn hru ho ht (fun g hg => ?_)
        unfold p_Mo_of
        refine nm_e ?_
        rw [term_t hM0 ht]
        simp (disch := omega) only [↓mI_e, litI, cLeT, cLeF, cLtT, cLtF, cEqF, cEqT, mE1, mE2, mL1, mL2, mL3, mL4, cIn, nI_clamp, nI_add, cMul, cSub, cM1, nar0, nar1, true_implies, false_implies, not_true_eq_false, not_false_eq_true, true_and, and_true]
        exact s_steps hM0 (show rMo R (Mo_thrown_s mo 0) from hrm) ho ht (fun g _ => ⟨rfl, h.same (many_k hk g)⟩)
    · have ne : ∀ k, k < 5 → ¬ a2 = nI k := fun k hk => gn k hk
      refine ⟨fun _ => ?_, fun h9 => absurd h9 (ne 0 (by omega)), fun h9 => absurd h9 (ne 1 (by omega)), fun h9 => absurd h9 (ne 2 (by omega)), fun h9 => absurd h9 (ne 3 (by omega)), fun h9 => absurd h9 (ne 4 (by omega))⟩
      unfold p_Mo_of
      refine nm_e ?_
      rw [term_t hM0 ht]
      refine ⟨fun h9 => absurd h9 (by decide), fun _ => ⟨fun _ => ⟨rfl, h.same hk⟩, fun g0 => ⟨fun g4 => ?_, fun _ => ⟨rfl, h.same hk⟩⟩⟩⟩
      obtain ⟨k, hk, e⟩ := nI_of2 (M := 4) (n := 4) (by decide) g0 g4
      exact absurd e (ne k (by omega))
  · rw [made_f hT g]
    refine ⟨fun h => absurd rfl h, fun _ => ?_⟩
    unfold p_Mo_of
    refine nm_e ?_
    rw [term_f hM0 g]
    exact ⟨fun _ => ⟨rfl, h.same hk⟩, fun h => absurd rfl h⟩
end
