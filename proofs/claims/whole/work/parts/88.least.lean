/-! the least size of what a term reaches -/
def lsz (T : Tab) (f : Nat → Nat) (v : Nat) : Nat := min 1000000000 (1 + (if 1 ≤ tq T v then f (ta T v) else 0) + (if 2 ≤ tq T v then f (tb T v) else 0))
def acC (T : Tab) (R : Rul) (X : Nat → Nat → Prop) : Prop := ∀ u v f, Rch T R u v → (1 ≤ tq T v → X (ta T v) (f (ta T v))) → (2 ≤ tq T v → X (tb T v) (f (tb T v))) → X u (lsz T f v)
def Ach (T : Tab) (R : Rul) (u c : Nat) : Prop := u < tn T ∧ ∀ X, acC T R X → X u c
/-- sums -/
def sN (f : Nat → Nat) : Nat → Nat
  | 0 => 0
  | n + 1 => sN f n + f n
theorem sN_le {f g : Nat → Nat} : ∀ n, (∀ k, k < n → f k ≤ g k) → sN f n ≤ sN g n := by
  intro n
  induction n with
  | zero => intro _; exact Nat.le_refl _
  | succ n ih =>
    intro h
    have h1 := ih (fun k hk => h k (by omega))
    have h2 := h n (by omega)
    show sN f n + f n ≤ sN g n + g n
    omega
theorem sN_lt {f g : Nat → Nat} {j : Nat} (hj : f j < g j) : ∀ n, j < n → (∀ k, k < n → f k ≤ g k) → sN f n < sN g n := by
  intro n
  induction n with
  | zero => intro h; omega
  | succ n ih =>
    intro h1 h
    have h2 := h n (by omega)
    show sN f n + f n < sN g n + g n
    by_cases e : j = n
    · subst e
      have := sN_le j (fun k hk => h k (by omega))
      omega
    · have := ih (by omega) (fun k hk => h k (by omega))
      omega
section
variable {T : Tab} {R : Rul}
theorem lsz_le (f : Nat → Nat) (v : Nat) : lsz T f v ≤ 1000000000 := Nat.min_le_left _ _
theorem lsz_mono (o : tOk T) {f g : Nat → Nat} (h : ∀ k, k < tn T → f k ≤ g k) {v : Nat} (hv : v < tn T) : lsz T f v ≤ lsz T g v := by
  have ov := o.2.2 v hv
  unfold lsz
  by_cases h1 : 1 ≤ tq T v
  · have := h (ta T v) (by omega)
    rw [if_pos h1, if_pos h1]
    by_cases h2 : 2 ≤ tq T v
    · have := h (tb T v) (by omega)
      rw [if_pos h2, if_pos h2]; omega
    · rw [if_neg h2, if_neg h2]; omega
  · rw [if_neg h1, if_neg h1, if_neg (by omega), if_neg (by omega)]
    exact Nat.le_refl _
theorem lsz_le2 {f g : Nat → Nat} {v w : Nat} (e : tq T v = tq T w) (h1 : 1 ≤ tq T v → f (ta T v) ≤ g (ta T w)) (h2 : 2 ≤ tq T v → f (tb T v) ≤ g (tb T w)) : lsz T f v ≤ lsz T g w := by
  unfold lsz
  rw [← e]
  by_cases t1 : 1 ≤ tq T v
  · have := h1 t1
    rw [if_pos t1, if_pos t1]
    by_cases t2 : 2 ≤ tq T v
    · have := h2 t2
      rw [if_pos t2, if_pos t2]; omega
    · rw [if_neg t2, if_neg t2]; omega
  · rw [if_neg t1, if_neg t1, if_neg (by omega), if_neg (by omega)]
    exact Nat.le_refl _
theorem Ach.mk (o : tOk T) {u v : Nat} {f : Nat → Nat} (h : Rch T R u v) (hf : ∀ k, k < v → Ach T R k (f k)) : Ach T R u (lsz T f v) := by
  have ov := o.2.2 v h.2.1
  exact ⟨h.1, fun X hX => hX u v f h (fun h1 => (hf _ (by omega)).2 X hX) (fun h1 => (hf _ (by omega)).2 X hX)⟩
theorem Ach.mk2 {u v : Nat} {f : Nat → Nat} (h : Rch T R u v) (h1 : 1 ≤ tq T v → Ach T R (ta T v) (f (ta T v))) (h2 : 2 ≤ tq T v → Ach T R (tb T v) (f (tb T v))) : Ach T R u (lsz T f v) :=
  ⟨h.1, fun X hX => hX u v f h (fun h3 => (h1 h3).2 X hX) (fun h3 => (h2 h3).2 X hX)⟩
theorem Ach.inv {u c : Nat} (h : Ach T R u c) : ∃ v f, Rch T R u v ∧ (1 ≤ tq T v → Ach T R (ta T v) (f (ta T v))) ∧ (2 ≤ tq T v → Ach T R (tb T v) (f (tb T v))) ∧ c = lsz T f v := by
  have := h.2 (fun u c => Ach T R u c ∧ ∃ v f, Rch T R u v ∧ (1 ≤ tq T v → Ach T R (ta T v) (f (ta T v))) ∧ (2 ≤ tq T v → Ach T R (tb T v) (f (tb T v))) ∧ c = lsz T f v) (fun u v f h h1 h2 => ⟨Ach.mk2 h (fun k => (h1 k).1) (fun k => (h2 k).1), v, f, h, fun k => (h1 k).1, fun k => (h2 k).1, rfl⟩)
  exact this.2
theorem Ach.pre {k u c : Nat} (h : Rch T R k u) (h2 : Ach T R u c) : Ach T R k c := by
  obtain ⟨v, f, h3, h4, h5, rfl⟩ := h2.inv
  exact Ach.mk2 (h.trans h3) h4 h5
theorem szT_lsz (o : tOk T) {t : Nat} (ht : t < tn T) : szT T t = lsz T (szT T) t := wt_eq o 1000000000 (fun _ => 1) ht
theorem Ach.sz (o : tOk T) : ∀ t, t < tn T → Ach T R t (szT T t) := by
  intro t
  induction t using Nat.strongRecOn with
  | _ t ih =>
    intro ht
    rw [szT_lsz o ht]
    exact Ach.mk o (Rch.rf ht) (fun k hk => ih k hk (by omega))
/-- f is at least as small as anything at u -/
def stl (T : Tab) (R : Rul) (f : Nat → Nat) (u : Nat) : Prop := ∀ c, Ach T R u c → f u ≤ c
theorem stl_closed {f : Nat → Nat} (h : ∀ u v, Rch T R u v → f u ≤ lsz T f v) (u : Nat) : stl T R f u := by
  intro c hc
  refine hc.2 (fun u c => f u ≤ c) (fun u v g hr h1 h2 => ?_)
  exact Nat.le_trans (h u v hr) (lsz_le2 rfl h1 h2)
theorem stl_ref (o : tOk T) {f : Nat → Nat} (h1 : ∀ u, u < tn T → f u ≤ lsz T f u) (h2 : ∀ i u, i < rn R → Rch T R u (rl R i) → f u ≤ f (rr R i)) (u : Nat) : stl T R f u := by
  intro c hc
  have key := hc.2 (fun v c => ∀ u, Rch T R u v → f u ≤ c) (fun v w g hr k1 k2 u hu => ?_)
  · exact key u (Rch.rf hc.1)
  · refine Rch.ind (X := fun u w' => w' = w → f u ≤ lsz T g w) (fun s hs e => ?_) (fun s t hs ht gR gX e => ?_) (fun i s t hi r1 r2 x1 x2 e => ?_) (hu.trans hr) rfl
    · subst e
      have os := o.2.2 s hs
      exact Nat.le_trans (h1 s hs) (lsz_le2 rfl (fun t1 => k1 t1 _ (Rch.rf (by omega))) (fun t2 => k2 t2 _ (Rch.rf (by omega))))
    · subst e
      exact Nat.le_trans (h1 s hs) (lsz_le2 gR.q (fun t1 => k1 (gR.q ▸ t1) _ (gR.2.1 t1)) (fun t2 => k2 (gR.q ▸ t2) _ (gR.2.2 t2)))
    · exact Nat.le_trans (h2 i s hi r1) (x2 e)
/-- a round settles one more -/
theorem stl_round (o : tOk T) (hn : tn T ≤ 48) {f f' : Nat → Nat} (hA' : ∀ u, u < tn T → Ach T R u (f' u)) (hc : ∀ u, u < tn T → f u ≤ 1000000000) (hle : ∀ u, u < tn T → f' u ≤ f u) (hr : ∀ u v, Rch T R u v → f' u ≤ lsz T f v) : (∀ u, u < tn T → stl T R f u) ∨ cN (fun u => u < tn T ∧ stl T R f u) 48 < cN (fun u => u < tn T ∧ stl T R f' u) 48 := by
  by_cases all : ∀ u, u < tn T → stl T R f u
  · exact Or.inl all
  · refine Or.inr ?_
    have ex : ∃ c, ∃ u, Ach T R u c ∧ c < f u := by
      refine Classical.byContradiction (fun no => all (fun u hu c hc => ?_))
      exact Classical.byContradiction (fun no2 => no ⟨c, u, hc, by omega⟩)
    obtain ⟨c, ⟨u, hu, hlt⟩, hmin⟩ := pk_least _ ex
    have hun := hu.1
    obtain ⟨v, g, r1, r2, r3, e⟩ := hu.inv
    have ov := o.2.2 v r1.2.1
    have hcu := hc u hun
    have part : ∀ k, Ach T R k (g k) → g k < c → f k ≤ g k := fun k hk hkc => Classical.byContradiction (fun no => hmin (g k) hkc ⟨k, hk, by omega⟩)
    have lt : lsz T f v ≤ c := by
      have e2 := e
      unfold lsz at e2
      by_cases t1 : 1 ≤ tq T v
      · rw [if_pos t1] at e2
        by_cases t2 : 2 ≤ tq T v
        · rw [if_pos t2] at e2
          rw [e]
          exact lsz_le2 rfl (fun h => part _ (r2 h) (by omega)) (fun h => part _ (r3 h) (by omega))
        · rw [if_neg t2] at e2
          rw [e]
          exact lsz_le2 rfl (fun h => part _ (r2 h) (by omega)) (fun h => by omega)
      · rw [e]
        exact lsz_le2 rfl (fun h => by omega) (fun h => by omega)
    have f'u : f' u ≤ c := Nat.le_trans (hr u v r1) lt
    refine cN_lt (j := u) (fun k => ?_) ⟨hun, fun c' hc' => ?_⟩ 48 (by omega) (fun k _ hk => ⟨hk.1, fun c' hc' => Nat.le_trans (hle k hk.1) (hk.2 c' hc')⟩)
    · have := k.2 c hu
      omega
    · refine Classical.byContradiction (fun no => hmin c' (by omega) ⟨u, hc', by omega⟩)
end
section
variable {T : Tab} {R : Rul} {te : Te} {ru : Ru} {re : Re}
theorem isInRL {u v : Nat} {Q : Int32 → Prop} (hu : u < 48) (hv : v < 64) {g : Nat → Int32} : p_Re_isIn_reached (nI u) (nI v) (Re_least_s re g) Q ↔ ((¬ bl (Re_reached re u) v → Q (nI 0)) ∧ (bl (Re_reached re u) v → Q (nI 1))) := by
  rw [show Re_least_s re g = Re_reached_s (Re_least_s re g) (Re_reached re) from rfl, isInR hu hv]
def repN (n : Nat) (g : Nat → Int32) (f : Nat → Nat) : Prop := ∀ u, u < n → g u = nI (f u)
theorem s_sizeLP {v : Nat} {g : Nat → Int32} {f : Nat → Nat} {Q : Int32 → Prop} (hT : tTe T te) (hn : tn T ≤ 48) (hv : v < tn T) (hg : repN (tn T) g f) (hc : ∀ u, u < tn T → f u ≤ 1000000000) (hQ : Q (nI (lsz T f v))) : p_Re_sizeWithLeastParts (nI v) te (Re_least_s re g) Q := by
  have o := hT.1
  have ov := o.2.2 v hv
  have q2 : tq T v ≤ 2 := o.2.1 _
  have k60 : ∀ ya yb : Nat, ya ≤ 1000000000 → yb ≤ 1000000000 → lsz T f v = min 1000000000 (1 + ya + yb) → p_Re_sizeWithLeastParts_60 (nI v) te (Re_least_s re g) Q (nI yb) (nI ya) := by
    intro ya yb h1 h2 e
    rw [e] at hQ
    unfold p_Re_sizeWithLeastParts_60
    simp only [litI, nI_add]
    by_cases h : 1 + (ya + yb) < 1000000000
    · rw [if_pos (nI_lt h (by omega))]
      rw [show min 1000000000 (1 + ya + yb) = 1 + (ya + yb) by omega] at hQ
      exact hQ
    · rw [if_neg (nI_nlt (by omega) (by omega))]
      rw [show min 1000000000 (1 + ya + yb) = 1000000000 by omega] at hQ
      exact hQ
  have k38 : ∀ ya : Nat, ya ≤ 1000000000 → lsz T f v = min 1000000000 (1 + ya + (if 2 ≤ tq T v then f (tb T v) else 0)) → p_Re_sizeWithLeastParts_38 (nI v) te (Re_least_s re g) Q (nI (tq T v)) (nI ya) := by
    intro ya h1 e
    unfold p_Re_sizeWithLeastParts_38
    by_cases h : 2 ≤ tq T v
    · rw [if_pos h] at e
      simp (disch := omega) only [↓mI_e, litI, cLeT, cLeF, cLtT, cLtF, cEqF, cEqT, mE1, mE2, mL1, mL2, mL3, mL4, cIn, nI_clamp, nI_add, cMul, cSub, cM1, nar0, nar1, true_implies, false_implies, not_true_eq_false, not_false_eq_true, true_and, and_true, second_t hT]
      rw [pc_n h]
      simp (disch := omega) only [↓mI_e, litI, cLeT, cLeF, cLtT, cLtF, cEqF, cEqT, mE1, mE2, mL1, mL2, mL3, mL4, cIn, nI_clamp, nI_add, cMul, cSub, cM1, nar0, nar1, true_implies, false_implies, not_true_eq_false, not_false_eq_true, true_and, and_true]
      rw [show Re_least (Re_least_s re g) (tb T v) = nI (f (tb T v)) from hg _ (by omega)]
      exact k60 ya _ h1 (hc _ (by omega)) e
    · rw [if_neg h] at e
      simp (disch := omega) only [↓mI_e, litI, cLeT, cLeF, cLtT, cLtF, cEqF, cEqT, mE1, mE2, mL1, mL2, mL3, mL4, cIn, nI_clamp, nI_add, cMul, cSub, cM1, nar0, nar1, true_implies, false_implies, not_true_eq_false, not_false_eq_true, true_and, and_true]
      exact k60 ya 0 h1 (by omega) e
  unfold p_Re_sizeWithLeastParts
  simp (disch := omega) only [↓mI_e, litI, cLeT, cLeF, cLtT, cLtF, cEqF, cEqT, mE1, mE2, mL1, mL2, mL3, mL4, cIn, nI_clamp, nI_add, cMul, cSub, cM1, nar0, nar1, true_implies, false_implies, not_true_eq_false, not_false_eq_true, true_and, and_true, symbol_t hT, placesS_t hT]
  by_cases h : 1 ≤ tq T v
  · simp (disch := omega) only [↓mI_e, litI, cLeT, cLeF, cLtT, cLtF, cEqF, cEqT, mE1, mE2, mL1, mL2, mL3, mL4, cIn, nI_clamp, nI_add, cMul, cSub, cM1, nar0, nar1, true_implies, false_implies, not_true_eq_false, not_false_eq_true, true_and, and_true, first_t hT]
    rw [pc_n h]
    simp (disch := omega) only [↓mI_e, litI, cLeT, cLeF, cLtT, cLtF, cEqF, cEqT, mE1, mE2, mL1, mL2, mL3, mL4, cIn, nI_clamp, nI_add, cMul, cSub, cM1, nar0, nar1, true_implies, false_implies, not_true_eq_false, not_false_eq_true, true_and, and_true]
    rw [show Re_least (Re_least_s re g) (ta T v) = nI (f (ta T v)) from hg _ (by omega)]
    refine k38 _ (hc _ (by omega)) ?_
    unfold lsz
    rw [if_pos h]
  · simp (disch := omega) only [↓mI_e, litI, cLeT, cLeF, cLtT, cLtF, cEqF, cEqT, mE1, mE2, mL1, mL2, mL3, mL4, cIn, nI_clamp, nI_add, cMul, cSub, cM1, nar0, nar1, true_implies, false_implies, not_true_eq_false, not_false_eq_true, true_and, and_true]
    refine k38 0 (by omega) ?_
    unfold lsz
    rw [if_neg h]
theorem s_shrink {g : Nat → Int32} {f : Nat → Nat} {Q : Int32 → Re → Prop} (hT : tTe T te) (hn : tn T ≤ 48) (hR : rowsOf (tn T) (Rch T R) (Re_reached re)) (hg : repN (tn T) g f) (hA : ∀ u, u < tn T → Ach T R u (f u)) (hc : ∀ u, u < tn T → f u ≤ 1000000000) (hQ : ∀ x g' f', repN (tn T) g' f' → (∀ u, u < tn T → Ach T R u (f' u)) → (∀ u, u < tn T → f' u ≤ f u) → (∀ u v, Rch T R u v → f' u ≤ lsz T f v) → ((x = nI 0 ∧ ∀ u, u < tn T → f' u = f u) ∨ x = nI 1) → Q x (Re_least_s re g')) : p_Re_shrink (nI (tn T)) te (Re_least_s re g) Q := by
  have o := hT.1
  unfold p_Re_shrink
  refine forN (fun n i (s : Int32 × (Nat → Int32)) => p_Re_shrink_4 (nI (tn T)) te Q n s.1 i (Re_least_s re s.2)) (fun i s => ∃ f', repN (tn T) s.2 f' ∧ (∀ u, u < tn T → Ach T R u (f' u)) ∧ (∀ u, u < tn T → f' u ≤ f u) ∧ (∀ u v, v < i → Rch T R u v → f' u ≤ lsz T f v) ∧ ((s.1 = nI 0 ∧ ∀ u, u < tn T → f' u = f u) ∨ s.1 = nI 1)) (tn T) 0 (0, g) (by omega) ⟨f, hg, hA, fun u _ => Nat.le_refl _, fun u v h => by omega, Or.inl ⟨rfl, fun u _ => rfl⟩⟩ ?_ ?_
  · rintro n ⟨x, g'⟩ ⟨f', h1, h2, h3, h4, h5⟩
    dsimp only at h1 h2 h3 h4 h5 ⊢
    unfold p_Re_shrink_4
    simp (disch := omega) only [↓mI_e, litI, cLeT, cLeF, cLtT, cLtF, cEqF, cEqT, mE1, mE2, mL1, mL2, mL3, mL4, cIn, nI_clamp, nI_add, cMul, cSub, cM1, nar0, nar1, true_implies, false_implies, not_true_eq_false, not_false_eq_true, true_and, and_true]
    refine ⟨?_, hQ x g' f' h1 h2 h3 (fun u v r => h4 u v r.2.1 r) h5⟩
    rcases h5 with h5 | h5
    · exact Or.inl h5.1
    · exact Or.inr h5
  · rintro n v ⟨x, g'⟩ hv ⟨f', h1, h2, h3, h4, h5⟩ ih
    dsimp only at h1 h2 h3 h4 h5 ⊢
    unfold p_Re_shrink_4
    simp (disch := omega) only [↓mI_e, litI, cLeT, cLeF, cLtT, cLtF, cEqF, cEqT, mE1, mE2, mL1, mL2, mL3, mL4, cIn, nI_clamp, nI_add, cMul, cSub, cM1, nar0, nar1, true_implies, false_implies, not_true_eq_false, not_false_eq_true, true_and, and_true]
    have hc' : ∀ u, u < tn T → f' u ≤ 1000000000 := fun u hu => Nat.le_trans (h3 u hu) (hc u hu)
    refine s_sizeLP hT hn hv h1 hc' ?_
    have lf := lsz_mono o h3 hv
    have lc := lsz_le (T := T) f' v
    -- f' stays as it is where the size is computed: sz is the size
    refine forN (fun m i (s : Int32 × (Nat → Int32)) => p_Re_shrink_19 (nI (tn T)) te Q (fun a0 a1 a2 => p_Re_shrink_4 (nI (tn T)) te Q n a0 a1 a2) m s.1 (nI v) (nI (lsz T f' v)) i (Re_least_s re s.2)) (fun i s => ∃ e, repN (tn T) s.2 e ∧ (∀ u, u < tn T → Ach T R u (e u)) ∧ (∀ u, u < tn T → e u ≤ f' u) ∧ (∀ u, u < i → Rch T R u v → e u ≤ lsz T f' v) ∧ ((s.1 = nI 0 ∧ ∀ u, u < tn T → e u = f u) ∨ s.1 = nI 1)) (tn T) 0 (x, g') (by omega) ⟨f', h1, h2, fun u _ => Nat.le_refl _, fun u h => by omega, h5⟩ ?_ ?_
    · rintro m ⟨x, g'⟩ ⟨e, d1, d2, d3, d4, d5⟩
      dsimp only at d1 d2 d3 d4 d5 ⊢
      unfold p_Re_shrink_19
      simp (disch := omega) only [↓mI_e, litI, cLeT, cLeF, cLtT, cLtF, cEqF, cEqT, mE1, mE2, mL1, mL2, mL3, mL4, cIn, nI_clamp, nI_add, cMul, cSub, cM1, nar0, nar1, true_implies, false_implies, not_true_eq_false, not_false_eq_true, true_and, and_true]
      refine ih (x, g') ⟨e, d1, d2, fun u hu => Nat.le_trans (d3 u hu) (h3 u hu), fun u w hw r => ?_, d5⟩
      by_cases ew : w = v
      · subst ew; exact Nat.le_trans (d4 u r.1 r) lf
      · exact Nat.le_trans (d3 u r.1) (h4 u w (by omega) r)
    · rintro m u ⟨x, g'⟩ hu ⟨e, d1, d2, d3, d4, d5⟩ ih2
      dsimp only at d1 d2 d3 d4 d5 ⊢
      unfold p_Re_shrink_19
      simp (disch := omega) only [↓mI_e, litI, cLeT, cLeF, cLtT, cLtF, cEqF, cEqT, mE1, mE2, mL1, mL2, mL3, mL4, cIn, nI_clamp, nI_add, cMul, cSub, cM1, nar0, nar1, true_implies, false_implies, not_true_eq_false, not_false_eq_true, true_and, and_true, isInRL]
      rw [show Re_least (Re_least_s re g') u = nI (e u) from d1 u hu]
      have hR1 : bl (Re_reached re u) v ↔ Rch T R u v := (hR u v hu).trans ⟨fun q => q.2, fun q => ⟨hv, q⟩⟩
      rw [hR1]
      have eu : e u ≤ 1000000000 := Nat.le_trans (d3 u hu) (hc' u hu)
      have skip : (Rch T R u v → e u ≤ lsz T f' v) → p_Re_shrink_19 (nI (tn T)) te Q (fun a0 a1 a2 => p_Re_shrink_4 (nI (tn T)) te Q n a0 a1 a2) m x (nI v) (nI (lsz T f' v)) (nI (u + 1)) (Re_least_s re g') := by
        intro hs
        refine ih2 (x, g') ⟨e, d1, d2, d3, fun w hw r => ?_, d5⟩
        by_cases ew : w = u
        · subst ew; exact hs r
        · exact d4 w (by omega) r
      refine ⟨fun k => skip (fun r => absurd r k), fun k => ?_⟩
      by_cases hle : e u ≤ lsz T f' v
      · simp (disch := omega) only [↓mI_e, litI, cLeT, cLeF, cLtT, cLtF, cEqF, cEqT, mE1, mE2, mL1, mL2, mL3, mL4, cIn, nI_clamp, nI_add, cMul, cSub, cM1, nar0, nar1, true_implies, false_implies, not_true_eq_false, not_false_eq_true, true_and, and_true]
        exact skip (fun _ => hle)
      · simp (disch := omega) only [↓mI_e, litI, cLeT, cLeF, cLtT, cLtF, cEqF, cEqT, mE1, mE2, mL1, mL2, mL3, mL4, cIn, nI_clamp, nI_add, cMul, cSub, cM1, nar0, nar1, true_implies, false_implies, not_true_eq_false, not_false_eq_true, true_and, and_true]
        refine nm_e (ih2 (nI 1, upd g' u (nI (lsz T f' v))) ⟨fun w => if w = u then lsz T f' v else e w, fun w hw => ?_, fun w hw => ?_, fun w hw => ?_, fun w hw r => ?_, Or.inr rfl⟩)
        · dsimp only
          by_cases ew : w = u
          · rw [if_pos ew, upd_s ew]
          · rw [if_neg ew, upd_n ew]; exact d1 w hw
        · dsimp only
          by_cases ew : w = u
          · rw [if_pos ew, ew]
            exact Ach.mk o k (fun y hy => h2 y (by omega))
          · rw [if_neg ew]; exact d2 w hw
        · dsimp only
          by_cases ew : w = u
          · rw [if_pos ew]
            have := d3 w hw
            rw [ew] at this ⊢
            omega
          · rw [if_neg ew]; exact d3 w hw
        · dsimp only
          by_cases ew : w = u
          · rw [if_pos ew]
            exact Nat.le_refl _
          · rw [if_neg ew]; exact d4 w (by omega) r
theorem s_leastSize {t : Nat} {Q : Int32 → Re → Prop} (hT : tTe T te) (hn : tn T ≤ 48) (hR : rowsOf (tn T) (Rch T R) (Re_reached re)) (ht : t < tn T) (hQ : ∀ c g, Ach T R t c → (∀ c', Ach T R t c' → c ≤ c') → Q (nI c) (Re_least_s re g)) : p_Re_leastSize (nI t) te re Q := by
  have o := hT.1
  unfold p_Re_leastSize p_Te_count
  rw [hT.2.2.1]
  have k40 : ∀ g, repN (tn T) g (szT T) → ∃ n, p_Re_leastSize_40 (nI t) te Q n (nI (tn T)) (1 : Int32) (0 : Int32) (Re_least_s re g) := by
    intro g hg
    have fin : ∀ g' f, repN (tn T) g' f → (∀ u, u < tn T → Ach T R u (f u)) → (∀ u, u < tn T → stl T R f u) → p_Re_leastSize_63 (nI t) te Q (Re_least_s re g') := by
      intro g' f h1 h2 h3
      unfold p_Re_leastSize_63
      simp (disch := omega) only [↓mI_e, litI, cLeT, cLeF, cLtT, cLtF, cEqF, cEqT, mE1, mE2, mL1, mL2, mL3, mL4, cIn, nI_clamp, nI_add, cMul, cSub, cM1, nar0, nar1, true_implies, false_implies, not_true_eq_false, not_false_eq_true, true_and, and_true]
      rw [show Re_least (Re_least_s re g') t = nI (f t) from h1 t ht]
      exact hQ (f t) g' (h2 t ht) (h3 t ht)
    refine forN (fun n i (s : Int32 × (Nat → Int32)) => p_Re_leastSize_40 (nI t) te Q n (nI (tn T)) s.1 i (Re_least_s re s.2)) (fun i s => ∃ f, repN (tn T) s.2 f ∧ (∀ u, u < tn T → Ach T R u (f u)) ∧ (∀ u, u < tn T → f u ≤ 1000000000) ∧ ((s.1 = nI 0 ∧ ∀ u, u < tn T → stl T R f u) ∨ (s.1 = nI 1 ∧ ((∀ u, u < tn T → stl T R f u) ∨ i ≤ cN (fun u => u < tn T ∧ stl T R f u) 48)))) 49 0 (1, g) (by omega) ⟨szT T, hg, Ach.sz o, fun u _ => wt_le _ _ _ _, Or.inr ⟨rfl, Or.inr (by omega)⟩⟩ ?_ ?_
    · rintro n ⟨x, g'⟩ ⟨f, h1, h2, h3, h4⟩
      dsimp only at h1 h2 h3 h4 ⊢
      unfold p_Re_leastSize_40
      simp (disch := omega) only [↓mI_e, litI, cLeT, cLeF, cLtT, cLtF, cEqF, cEqT, mE1, mE2, mL1, mL2, mL3, mL4, cIn, nI_clamp, nI_add, cMul, cSub, cM1, nar0, nar1, true_implies, false_implies, not_true_eq_false, not_false_eq_true, true_and, and_true]
      refine fin g' f h1 h2 ?_
      rcases h4 with ⟨_, h4⟩ | ⟨_, h4 | h4⟩
      · exact h4
      · exact h4
      · have := cN_le (fun u => u < tn T ∧ stl T R f u) 48
        omega
    · rintro n i ⟨x, g'⟩ hi ⟨f, h1, h2, h3, h4⟩ ih
      dsimp only at h1 h2 h3 h4 ⊢
      unfold p_Re_leastSize_40
      rcases h4 with ⟨rfl, h4⟩ | ⟨rfl, h4⟩
      · simp (disch := omega) only [↓mI_e, litI, cLeT, cLeF, cLtT, cLtF, cEqF, cEqT, mE1, mE2, mL1, mL2, mL3, mL4, cIn, nI_clamp, nI_add, cMul, cSub, cM1, nar0, nar1, true_implies, false_implies, not_true_eq_false, not_false_eq_true, true_and, and_true]
        exact fin g' f h1 h2 h4
      · simp (disch := omega) only [↓mI_e, litI, cLeT, cLeF, cLtT, cLtF, cEqF, cEqT, mE1, mE2, mL1, mL2, mL3, mL4, cIn, nI_clamp, nI_add, cMul, cSub, cM1, nar0, nar1, true_implies, false_implies, not_true_eq_false, not_false_eq_true, true_and, and_true]
        refine s_shrink hT hn hR h1 h2 h3 (fun x2 g2 f2 e1 e2 e3 e4 e5 => ?_)
        refine ih (x2, g2) ⟨f2, e1, e2, fun u hu => Nat.le_trans (e3 u hu) (h3 u hu), ?_⟩
        rcases e5 with ⟨rfl, e5⟩ | rfl
        · refine Or.inl ⟨rfl, fun u hu => ?_⟩
          have cl : ∀ u v, Rch T R u v → f u ≤ lsz T f v := fun u v r => by
            have := e4 u v r
            rw [e5 u r.1] at this
            exact this
          intro c hc
          rw [e5 u hu]
          exact stl_closed cl u c hc
        · refine Or.inr ⟨rfl, ?_⟩
          rcases stl_round o hn e2 h3 e3 e4 with z | z
          · exact Or.inl (fun u hu c hc => Nat.le_trans (e3 u hu) (z u hu c hc))
          · rcases h4 with h4 | h4
            · exact Or.inl (fun u hu c hc => Nat.le_trans (e3 u hu) (h4 u hu c hc))
            · exact Or.inr (by omega)
  refine forN (fun n i (g : Nat → Int32) => p_Re_leastSize_10 (nI t) te Q n (nI (tn T)) i (Re_least_s re g)) (fun i g => ∀ u, u < i → g u = nI (szT T u)) (tn T) 0 (Re_least re) (by omega) (fun u hu => by omega) ?_ ?_
  · intro n g hg
    unfold p_Re_leastSize_10
    simp (disch := omega) only [↓mI_e, litI, cLeT, cLeF, cLtT, cLtF, cEqF, cEqT, mE1, mE2, mL1, mL2, mL3, mL4, cIn, nI_clamp, nI_add, cMul, cSub, cM1, nar0, nar1, true_implies, false_implies, not_true_eq_false, not_false_eq_true, true_and, and_true]
    exact k40 g hg
  · intro n i g hi hg ih
    unfold p_Re_leastSize_10
    simp (disch := omega) only [↓mI_e, litI, cLeT, cLeF, cLtT, cLtF, cEqF, cEqT, mE1, mE2, mL1, mL2, mL3, mL4, cIn, nI_clamp, nI_add, cMul, cSub, cM1, nar0, nar1, true_implies, false_implies, not_true_eq_false, not_false_eq_true, true_and, and_true, size_t hT]
    refine nm_e (ih _ (fun u hu => ?_))
    show upd g i (nI (szT T i)) u = nI (szT T u)
    by_cases e : u = i
    · rw [upd_s e, e]
    · rw [upd_n e]; exact hg u (by omega)
end
