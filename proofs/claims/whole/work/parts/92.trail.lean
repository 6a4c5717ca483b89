/-! the way down to a step, and up again -/
def ix (n i : Nat) : Nat := if i < n then i else i + (48 - n)
theorem ix_lt {n i : Nat} (h : i < n) : ix n i = i := if_pos h
theorem ix_ge {n i : Nat} (h : ¬ i < n) : ix n i = i + (48 - n) := if_neg h
theorem ix_inj {n i k : Nat} (hn : n ≤ 48) (h : ix n i = ix n k) : i = k := by
  by_cases hi : i < n
  · rw [ix_lt hi] at h
    by_cases hk : k < n
    · rw [ix_lt hk] at h; exact h
    · rw [ix_ge hk] at h; omega
  · rw [ix_ge hi] at h
    by_cases hk : k < n
    · rw [ix_lt hk] at h; omega
    · rw [ix_ge hk] at h; omega
theorem ix_bd {n i m : Nat} (h : i < m) : ix n i < m + (48 - n) := by
  by_cases hi : i < n
  · rw [ix_lt hi]; omega
  · rw [ix_ge hi]; omega
def ext (T U : Tab) : Prop := tOk U ∧ tn T ≤ tn U ∧ tAg (tn T) T U
theorem ext.rf {T : Tab} (o : tOk T) : ext T T := ⟨o, Nat.le_refl _, rfl, fun _ _ => ⟨rfl, rfl, rfl⟩⟩
theorem ext.tr {A B C : Tab} (h : ext A B) (g : ext B C) : ext A C := ⟨g.1, Nat.le_trans h.2.1 g.2.1, h.2.2.trans (g.2.2.mono h.2.1)⟩
/-- the reference's store: T's terms, and from 48 on those that one call needs -/
def sMo (T U : Tab) (mo : Mo) : Prop := tMo T mo ∧ ext T U ∧ tn U + (48 - tn T) ≤ 520 ∧ (∀ i, i < tn U → Mo_symbol mo (ix (tn T) i) = nI (ts U i)) ∧ (∀ i, i < tn U → Mo_one mo (ix (tn T) i) = pc 1 (tq U i) (ix (tn T) (ta U i))) ∧ (∀ i, i < tn U → Mo_two mo (ix (tn T) i) = pc 2 (tq U i) (ix (tn T) (tb U i)))
theorem tMo.s {T : Tab} {mo : Mo} (h : tMo T mo) : sMo T T mo := by
  refine ⟨h, ext.rf h.1, by have := h.2.1; omega, fun i hi => ?_, fun i hi => ?_, fun i hi => ?_⟩
  · rw [ix_lt hi]; exact h.2.2.2.2.1 i hi
  · have o := h.1.2.2 i hi
    rw [ix_lt hi, h.2.2.2.2.2.1 i hi]
    by_cases q : 1 ≤ tq T i
    · rw [ix_lt (by omega)]
    · rw [pc_m (k := 1) (by omega), pc_m (k := 1) (by omega)]
  · have o := h.1.2.2 i hi
    rw [ix_lt hi, h.2.2.2.2.2.2 i hi]
    by_cases q : 2 ≤ tq T i
    · rw [ix_lt (by omega)]
    · rw [pc_m (k := 2) (by omega), pc_m (k := 2) (by omega)]
theorem sMo.kp {T U : Tab} {mo mo' : Mo} (h : sMo T U mo) (k : mKp mo mo') : sMo T U mo' := by
  obtain ⟨h1, h2, h3, h4, h5, h6⟩ := h
  refine ⟨h1.kp k, h2, h3, ?_, ?_, ?_⟩
  · rw [k.2.1]; exact h4
  · rw [k.2.2.1]; exact h5
  · rw [k.2.2.2.1]; exact h6
theorem lcN_ix {R : Rul} {n p : Nat} (hn : n ≤ 48) : ∀ m, (∀ i, i < m → rl R i < n) → lcN R (ix n p) m = lcN R p m := by
  intro m
  induction m with
  | zero => intro _; rfl
  | succ m ih =>
    intro h
    have e := ih (fun i hi => h i (by omega))
    have hm := h m (by omega)
    by_cases q : rl R m = p
    · have q2 : rl R m = ix n p := by rw [ix_lt (by omega)]; exact q
      rw [lcN_t q, lcN_t q2, e]
    · have q2 : ¬ rl R m = ix n p := by
        intro k
        by_cases hp : p < n
        · rw [ix_lt hp] at k; exact q k
        · rw [ix_ge hp] at k; omega
      rw [lcN_f q, lcN_f q2, e]
theorem lc_ix {T : Tab} {R : Rul} {p : Nat} (ho : rOk T R) (hn : tn T ≤ 48) : lc R (ix (tn T) p) = lc R p := lcN_ix hn _ (fun i hi => (ho.2 i hi).1)
/-- how many steps, cut at 10^9 -/
def wc (U : Tab) (R : Rul) (t : Nat) : Nat := wt U 1000000000 (lc R) t
theorem wc_le (U : Tab) (R : Rul) (t : Nat) : wc U R t ≤ 1000000000 := wt_le _ _ _ _
theorem wc_eq {U : Tab} {R : Rul} {t : Nat} (o : tOk U) (ht : t < tn U) : wc U R t = min 1000000000 (lc R t + (if 1 ≤ tq U t then wc U R (ta U t) else 0) + (if 2 ≤ tq U t then wc U R (tb U t) else 0)) := wt_eq o _ _ ht
/-- the step lies in the first part -/
def fs (U : Tab) (R : Rul) (x : Nat × Nat) : Prop := x.2 - lc R x.1 < wc U R (ta U x.1)
def dn (U : Tab) (R : Rul) (x : Nat × Nat) : Nat × Nat := if x.2 - lc R x.1 < wc U R (ta U x.1) then (ta U x.1, x.2 - lc R x.1) else (tb U x.1, x.2 - lc R x.1 - wc U R (ta U x.1))
def vl (U : Tab) (R : Rul) (x : Nat × Nat) : Prop := x.1 < tn U ∧ x.2 < wc U R x.1
theorem dn_ok {U : Tab} {R : Rul} (o : tOk U) {x : Nat × Nat} (h : vl U R x) (hk : lc R x.1 ≤ x.2) : 1 ≤ tq U x.1 ∧ vl U R (dn U R x) ∧ (dn U R x).1 < x.1 ∧ ((fs U R x ∧ dn U R x = (ta U x.1, x.2 - lc R x.1)) ∨ (¬ fs U R x ∧ 2 ≤ tq U x.1 ∧ dn U R x = (tb U x.1, x.2 - lc R x.1 - wc U R (ta U x.1)))) := by
  obtain ⟨t, k⟩ := x
  obtain ⟨ht, hv⟩ := h
  dsimp only at ht hv hk ⊢
  have h3 := o.2.2 t ht
  rw [wc_eq o ht] at hv
  by_cases q1 : 1 ≤ tq U t
  · rw [if_pos q1] at hv
    by_cases f : k - lc R t < wc U R (ta U t)
    · have e : dn U R (t, k) = (ta U t, k - lc R t) := if_pos f
      rw [e]
      exact ⟨q1, ⟨show ta U t < tn U by omega, f⟩, show ta U t < t by omega, Or.inl ⟨f, rfl⟩⟩
    · have e : dn U R (t, k) = (tb U t, k - lc R t - wc U R (ta U t)) := if_neg f
      have q2 : 2 ≤ tq U t := by
        refine Classical.byContradiction (fun q => ?_)
        rw [if_neg q] at hv
        omega
      rw [if_pos q2] at hv
      rw [e]
      exact ⟨q1, ⟨show tb U t < tn U by omega, show k - lc R t - wc U R (ta U t) < wc U R (tb U t) by omega⟩, show tb U t < t by omega, Or.inr ⟨f, q2, rfl⟩⟩
  · rw [if_neg q1, if_neg (by omega)] at hv
    omega
def trl (U : Tab) (R : Rul) (x : Nat × Nat) : Nat → Nat × Nat
  | 0 => x
  | i + 1 => dn U R (trl U R x i)
/-- the way goes down at least d times -/
def wy (U : Tab) (R : Rul) (x : Nat × Nat) (d : Nat) : Prop := vl U R x ∧ ∀ i, i < d → lc R (trl U R x i).1 ≤ (trl U R x i).2
theorem wy.mono {U : Tab} {R : Rul} {x : Nat × Nat} {d k : Nat} (h : wy U R x d) (hk : k ≤ d) : wy U R x k := ⟨h.1, fun i hi => h.2 i (by omega)⟩
theorem wy.s {U : Tab} {R : Rul} {x : Nat × Nat} {d : Nat} (h : wy U R x d) (hk : lc R (trl U R x d).1 ≤ (trl U R x d).2) : wy U R x (d + 1) := ⟨h.1, fun i hi => by
  by_cases e : i = d
  · rw [e]; exact hk
  · exact h.2 i (by omega)⟩
theorem wy.v {U : Tab} {R : Rul} {x : Nat × Nat} (o : tOk U) : ∀ {d : Nat}, wy U R x d → vl U R (trl U R x d) ∧ (trl U R x d).1 + d ≤ x.1 := by
  intro d
  induction d with
  | zero => exact fun h => ⟨h.1, Nat.le_refl _⟩
  | succ d ih =>
    intro h
    obtain ⟨a, b⟩ := ih (h.mono (by omega))
    have k := dn_ok o a (h.2 d (by omega))
    refine ⟨k.2.1, ?_⟩
    show (dn U R (trl U R x d)).1 + (d + 1) ≤ x.1
    have := k.2.2.1
    omega
/-- the rule of a step at the root -/
def rkR (R : Rul) (t k r : Nat) : Prop := r < rn R ∧ rl R r = t ∧ lcN R t r = k
theorem rkR.lt {R : Rul} {t k r r' : Nat} (h : rkR R t k r) (h' : rkR R t k r') : ¬ r < r' := by
  intro q
  have h1 := lcN_t h.2.1
  have h2 := lcN_mono (R := R) (t := t) (show r + 1 ≤ r' by omega)
  have h3 := h.2.2
  have h4 := h'.2.2
  omega
theorem rkR.uniq {R : Rul} {t k r r' : Nat} (h : rkR R t k r) (h' : rkR R t k r') : r = r' := by
  have h1 := h.lt h'
  have h2 := h'.lt h
  omega
theorem rkR_ex {R : Rul} {t k : Nat} (h : k < lc R t) : ∃ r, rkR R t k r := by
  have key : ∀ m, m ≤ rn R → k < lcN R t m → ∃ r, rkR R t k r := by
    intro m
    induction m with
    | zero => exact fun _ h => absurd h (Nat.not_lt_zero _)
    | succ m ih =>
      intro hm h
      by_cases h1 : k < lcN R t m
      · exact ih (by omega) h1
      · by_cases e : rl R m = t
        · rw [lcN_t e] at h
          exact ⟨m, by omega, e, by omega⟩
        · rw [lcN_f e] at h
          exact absurd h h1
  exact key (rn R) (Nat.le_refl _) h
/-- a term found or added -/
noncomputable def nx (U : Tab) (s a b : Nat) : Tab × Nat := @dite _ (∃ u, isT U s a b u) (Classical.propDecidable _) (fun h => (U, Classical.choose h)) (fun _ => (tAdd U s a b, tn U))
theorem nx_t {U : Tab} {s a b u : Nat} (o : tOk U) (h : isT U s a b u) : nx U s a b = (U, u) := by
  have hx : ∃ u, isT U s a b u := ⟨u, h⟩
  unfold nx
  rw [dif_pos hx, (Classical.choose_spec hx).uniq o h]
theorem nx_f {U : Tab} {s a b : Nat} (h : ∀ u, ¬ isT U s a b u) : nx U s a b = (tAdd U s a b, tn U) := by
  unfold nx
  rw [dif_neg (fun k => k.elim h)]
theorem nx_tn (U : Tab) (s a b : Nat) : tn U ≤ tn (nx U s a b).1 ∧ tn (nx U s a b).1 ≤ tn U + 1 := by
  by_cases h : ∃ u, isT U s a b u
  · have e : (nx U s a b).1 = U := by
      unfold nx
      rw [dif_pos h]
    rw [e]
    omega
  · rw [nx_f (fun u k => h ⟨u, k⟩)]
    show tn U ≤ tn U + 1 ∧ tn U + 1 ≤ tn U + 1
    omega
/-- the parts of what is built above v -/
def ab (U : Tab) (R : Rul) (x : Nat × Nat) (v : Nat) : Nat × Nat := if x.2 - lc R x.1 < wc U R (ta U x.1) then (v, tb U x.1) else (ta U x.1, v)
theorem ab_t {U : Tab} {R : Rul} {x : Nat × Nat} {v : Nat} (h : fs U R x) : ab U R x v = (v, tb U x.1) := if_pos h
theorem ab_f {U : Tab} {R : Rul} {x : Nat × Nat} {v : Nat} (h : ¬ fs U R x) : ab U R x v = (ta U x.1, v) := if_neg h
theorem ab_fit {U E : Tab} {R : Rul} {x : Nat × Nat} {v : Nat} (o : tOk U) (hE : ext U E) (hv : v < tn E) (hx : vl U R x) (hk : lc R x.1 ≤ x.2) : tFit E (ts U x.1) (ab U R x v).1 (ab U R x v).2 := by
  have d := dn_ok o hx hk
  have h3 := o.2.2 x.1 hx.1
  have hn := hE.2.1
  have hx1 := hx.1
  have e : tp E (ts U x.1) = tq U x.1 := by rw [← hE.2.2.1]; rfl
  unfold tFit
  rw [e]
  rcases d.2.2.2 with ⟨f, -⟩ | ⟨f, q2, -⟩
  · rw [ab_t f]
    dsimp only
    refine ⟨by omega, by omega, by omega, by omega, by omega⟩
  · rw [ab_f f]
    dsimp only
    refine ⟨by omega, by omega, by omega, by omega, by omega⟩
theorem ab_new {U E : Tab} {R : Rul} {x : Nat × Nat} {v : Nat} (o : tOk U) (hE : ext U E) (hx : vl U R x) (hk : lc R x.1 ≤ x.2) (hn : v + 1 = tn E) : ∀ u, ¬ isT E (ts U x.1) (ab U R x v).1 (ab U R x v).2 u := by
  intro u i
  obtain ⟨i1, i2, i3, i4⟩ := i
  have d := dn_ok o hx hk
  have q : tq E u = tq U x.1 := by unfold tq; rw [i2, ← hE.2.2.1]
  have ou := hE.1.2.2 u i1
  have q1 := d.1
  rcases d.2.2.2 with ⟨f, -⟩ | ⟨f, q2, -⟩
  · rw [ab_t f] at i3
    dsimp only at i3
    omega
  · rw [ab_f f] at i4
    dsimp only at i4
    omega
noncomputable def up1 (U : Tab) (R : Rul) (x : Nat × Nat) (e : Tab × Nat) : Tab × Nat := nx e.1 (ts U x.1) (ab U R x e.2).1 (ab U R x e.2).2
def chOk (U : Tab) (e : Tab × Nat) : Prop := ext U e.1 ∧ e.2 < tn e.1 ∧ (tn e.1 = tn U → e.1 = U) ∧ (tn U < tn e.1 → e.2 + 1 = tn e.1)
theorem up1_ok {U : Tab} {R : Rul} {x : Nat × Nat} {e : Tab × Nat} (o : tOk U) (hx : vl U R x) (hk : lc R x.1 ≤ x.2) (h : chOk U e) (hn : tn (up1 U R x e).1 ≤ 520) : chOk U (up1 U R x e) ∧ (tn U < tn e.1 → tn (up1 U R x e).1 = tn e.1 + 1) := by
  obtain ⟨E, v⟩ := e
  obtain ⟨hE, hv, h1, h2⟩ := h
  dsimp only at hE hv h1 h2 ⊢
  have f := ab_fit o hE hv hx hk
  by_cases hi : ∃ u, isT E (ts U x.1) (ab U R x v).1 (ab U R x v).2 u
  · obtain ⟨u, hu⟩ := hi
    have e1 : up1 U R x (E, v) = (E, u) := nx_t hE.1 hu
    rw [e1]
    have nw : ¬ tn U < tn E := fun q => ab_new o hE hx hk (h2 q) u hu
    exact ⟨⟨hE, hu.1, h1, fun q => absurd q nw⟩, fun q => absurd q nw⟩
  · have no : ∀ u, ¬ isT E (ts U x.1) (ab U R x v).1 (ab U R x v).2 u := fun u k => hi ⟨u, k⟩
    have e1 : up1 U R x (E, v) = (tAdd E (ts U x.1) (ab U R x v).1 (ab U R x v).2, tn E) := nx_f no
    rw [e1] at hn ⊢
    have hn2 : tn E + 1 ≤ 520 := hn
    have hn3 := hE.2.1
    refine ⟨⟨⟨tOk_add hE.1 (by omega) f no, ?_, ?_⟩, ?_, ?_, ?_⟩, fun _ => rfl⟩
    · show tn U ≤ tn E + 1
      omega
    · exact hE.2.2.trans ((tAg_add E _ _ _).mono hE.2.1)
    · show tn E < tn E + 1
      omega
    · intro q
      have q2 : tn E + 1 = tn U := q
      omega
    · exact fun _ => rfl
/-- the terms built from below: after j of d -/
noncomputable def chn (U : Tab) (R : Rul) (x : Nat × Nat) (d v : Nat) : Nat → Tab × Nat
  | 0 => (U, v)
  | j + 1 => up1 U R (trl U R x (d - 1 - j)) (chn U R x d v j)
section
variable {U : Tab} {R : Rul} {x : Nat × Nat} {d v : Nat}
theorem chn_tn (j : Nat) : tn (chn U R x d v j).1 ≤ tn (chn U R x d v (j + 1)).1 ∧ tn (chn U R x d v (j + 1)).1 ≤ tn (chn U R x d v j).1 + 1 := nx_tn _ _ _ _
theorem chn_mono : ∀ {i j : Nat}, i ≤ j → tn (chn U R x d v i).1 ≤ tn (chn U R x d v j).1 := by
  intro i j h
  induction j with
  | zero => rw [Nat.le_zero.mp h]; exact Nat.le_refl _
  | succ j ih =>
    by_cases e : i = j + 1
    · rw [e]; exact Nat.le_refl _
    · exact Nat.le_trans (ih (by omega)) (chn_tn j).1
theorem chn_bd : ∀ j, tn (chn U R x d v j).1 ≤ tn U + j := by
  intro j
  induction j with
  | zero => exact Nat.le_refl _
  | succ j ih =>
    have := (chn_tn (U := U) (R := R) (x := x) (d := d) (v := v) j).2
    omega
theorem chn_s {i : Nat} (hi : i < d) : chn U R x d v (d - i) = up1 U R (trl U R x i) (chn U R x d v (d - (i + 1))) := by
  rw [show d - i = (d - (i + 1)) + 1 by omega]
  show up1 U R (trl U R x (d - 1 - (d - (i + 1)))) _ = _
  rw [show d - 1 - (d - (i + 1)) = i by omega]
theorem chn_ok (o : tOk U) (hw : wy U R x d) (hv : v < tn U) : ∀ j, j ≤ d → tn (chn U R x d v j).1 ≤ 520 → chOk U (chn U R x d v j) := by
  intro j
  induction j with
  | zero => exact fun _ _ => ⟨ext.rf o, hv, fun _ => rfl, fun q => absurd q (Nat.lt_irrefl _)⟩
  | succ j ih =>
    intro hj hn
    have m := (chn_tn (U := U) (R := R) (x := x) (d := d) (v := v) j).1
    exact (up1_ok o ((hw.mono (by omega : d - 1 - j ≤ d)).v o).1 (hw.2 _ (by omega)) (ih (by omega) (by omega)) hn).1
theorem chn_gr (o : tOk U) (hw : wy U R x d) (hv : v < tn U) {i : Nat} (hi : i < d) (hn : tn (chn U R x d v (d - i)).1 ≤ 520) (h : tn U < tn (chn U R x d v (d - (i + 1))).1) : tn (chn U R x d v (d - i)).1 = tn (chn U R x d v (d - (i + 1))).1 + 1 := by
  have m : tn (chn U R x d v (d - (i + 1))).1 ≤ tn (chn U R x d v (d - i)).1 := chn_mono (by omega)
  have c := chn_ok o hw hv (d - (i + 1)) (by omega) (by omega)
  rw [chn_s hi] at hn ⊢
  exact (up1_ok o ((hw.mono (by omega : i ≤ d)).v o).1 (hw.2 i hi) c hn).2 h
end
/-- the loop that counts down from d - 1 -/
def dI (k : Nat) : Int32 := if k = 0 then mI else nI (k - 1)
theorem dI_s (k : Nat) : dI (k + 1) = nI k := if_neg (by omega)
theorem dI_m (k : Nat) : nI k + mI = dI k := by
  by_cases h : k = 0
  · subst h; decide
  · rw [cM1 (by omega)]
    exact (if_neg h).symm
theorem dI_1 (k : Nat) : nI k - nI 1 = dI k := by
  by_cases h : k = 0
  · subst h; decide
  · rw [cSub (by omega)]
    exact (if_neg h).symm
theorem forD {σ : Type} (W : Nat → Int32 → σ → Prop) (J : Nat → σ → Prop) (d : Nat) (s : σ) (h0 : J d s) (hx : ∀ m s, J 0 s → W (m + 1) mI s) (hs : ∀ m i s, i < d → J (i + 1) s → (∀ s', J i s' → W m (nI i + mI) s') → W (m + 1) (nI i) s) : ∃ f, W f (nI d - nI 1) s := by
  rw [dI_1]
  have k := pk_loop (fun f j s => W f (dI (d - j)) s) (fun j s => J (d - j) s) d 0 s (by omega) h0 ?_ ?_
  · exact k
  · intro m s h
    rw [Nat.sub_self] at h
    show W (m + 1) (dI (d - d)) s
    rw [Nat.sub_self]
    exact hx m s h
  · intro m j s hj h ih
    have e : d - j = (d - (j + 1)) + 1 := by omega
    rw [e] at h
    show W (m + 1) (dI (d - j)) s
    rw [e, dI_s]
    refine hs m (d - (j + 1)) s (by omega) h (fun s' h' => ?_)
    rw [dI_m]
    exact ih s' h'
/-! what one call of the reference leaves as it was, path and side aside -/
def mDs (mo m : Mo) : Prop := Mo_thrown m = Mo_thrown mo ∧ Mo_stored m = Mo_stored mo ∧ Mo_different m = Mo_different mo ∧ Mo_marked m = Mo_marked mo ∧ Mo_came m = Mo_came mo ∧ Mo_level m = Mo_level mo ∧ Mo_many m = Mo_many mo
theorem mDs.rf (mo : Mo) : mDs mo mo := ⟨rfl, rfl, rfl, rfl, rfl, rfl, rfl⟩
theorem mDs.tr {a b c : Mo} (h : mDs a b) (g : mDs b c) : mDs a c := ⟨g.1.trans h.1, g.2.1.trans h.2.1, g.2.2.1.trans h.2.2.1, g.2.2.2.1.trans h.2.2.2.1, g.2.2.2.2.1.trans h.2.2.2.2.1, g.2.2.2.2.2.1.trans h.2.2.2.2.2.1, g.2.2.2.2.2.2.trans h.2.2.2.2.2.2⟩
theorem path_f {mo m m2 : Mo} {g : Nat → Int32} (k : mKp mo m) (h : mDs mo m) (e : m2 = Mo_path_s m g) : mKp mo m2 ∧ mDs mo m2 ∧ Mo_path m2 = g ∧ Mo_side m2 = Mo_side m := by
  subst e
  exact ⟨⟨k.1, k.2.1, k.2.2.1, k.2.2.2.1, k.2.2.2.2.1, k.2.2.2.2.2.1, k.2.2.2.2.2.2.1, k.2.2.2.2.2.2.2.1, k.2.2.2.2.2.2.2.2.1, k.2.2.2.2.2.2.2.2.2.1, k.2.2.2.2.2.2.2.2.2.2⟩, ⟨h.1, h.2.1, h.2.2.1, h.2.2.2.1, h.2.2.2.2.1, h.2.2.2.2.2.1, h.2.2.2.2.2.2⟩, rfl, rfl⟩
theorem side_f {mo m m2 : Mo} {g : Nat → Int32} (k : mKp mo m) (h : mDs mo m) (e : m2 = Mo_side_s m g) : mKp mo m2 ∧ mDs mo m2 ∧ Mo_path m2 = Mo_path m ∧ Mo_side m2 = g := by
  subst e
  exact ⟨⟨k.1, k.2.1, k.2.2.1, k.2.2.2.1, k.2.2.2.2.1, k.2.2.2.2.2.1, k.2.2.2.2.2.2.1, k.2.2.2.2.2.2.2.1, k.2.2.2.2.2.2.2.2.1, k.2.2.2.2.2.2.2.2.2.1, k.2.2.2.2.2.2.2.2.2.2⟩, ⟨h.1, h.2.1, h.2.2.1, h.2.2.2.1, h.2.2.2.2.1, h.2.2.2.2.2.1, h.2.2.2.2.2.2⟩, rfl, rfl⟩
