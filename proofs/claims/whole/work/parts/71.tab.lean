/-! the table of terms: count; places of a symbol; symbol, first and second part of a term (0: none) -/
abbrev Tab : Type := Nat × (Nat → Nat) × (Nat → Nat) × (Nat → Nat) × (Nat → Nat)
def tn (T : Tab) : Nat := T.1
def tp (T : Tab) : Nat → Nat := T.2.1
def ts (T : Tab) : Nat → Nat := T.2.2.1
def ta (T : Tab) : Nat → Nat := T.2.2.2.1
def tb (T : Tab) : Nat → Nat := T.2.2.2.2
/-- how many parts a term has -/
def tq (T : Tab) (t : Nat) : Nat := tp T (ts T t)
/-- a part as it is written down: -1 where there is none -/
def pc (k q a : Nat) : Int32 := if q < k then mI else nI a
theorem pc_m {k q a : Nat} (h : q < k) : pc k q a = mI := if_pos h
theorem pc_n {k q a : Nat} (h : k ≤ q) : pc k q a = nI a := if_neg (by omega)
theorem pc_inj {k q a b : Nat} (ha : a < 2 ^ 31) (hb : b < 2 ^ 31) (h : k ≤ q) (e : pc k q a = pc k q b) : a = b := by
  rw [pc_n h, pc_n h] at e
  exact (nI_eq ha hb).mp e
def tOk (T : Tab) : Prop := tn T ≤ 520 ∧ (∀ k, tp T k ≤ 2) ∧ ∀ t, t < tn T → ts T t < 6 ∧ (tq T t < 1 → ta T t = 0) ∧ (tq T t < 2 → tb T t = 0) ∧ (1 ≤ tq T t → ta T t < t) ∧ (2 ≤ tq T t → tb T t < t) ∧ ∀ s, s < tn T → ts T s = ts T t → ta T s = ta T t → tb T s = tb T t → s = t
theorem tOk.le {T : Tab} (h : tOk T) {t : Nat} (ht : t < tn T) : ta T t ≤ t ∧ tb T t ≤ t := by
  obtain ⟨h1, h2, h3⟩ := h
  have := h3 t ht
  have h4 := h2 (ts T t)
  have e : tq T t = tp T (ts T t) := rfl
  omega
/-- t is the term that is made of s, a, b; r its number, or -1 -/
def isT (T : Tab) (s a b t : Nat) : Prop := t < tn T ∧ ts T t = s ∧ ta T t = a ∧ tb T t = b
def tFd (T : Tab) (s a b : Nat) (r : Int32) : Prop := (∃ t, isT T s a b t ∧ r = nI t) ∨ (r = mI ∧ ∀ t, ¬ isT T s a b t)
theorem isT.uniq {T : Tab} (h : tOk T) {s a b t u : Nat} (h1 : isT T s a b t) (h2 : isT T s a b u) : t = u := by
  obtain ⟨a1, a2, a3, a4⟩ := h1
  obtain ⟨b1, b2, b3, b4⟩ := h2
  exact (h.2.2 u b1).2.2.2.2.2 t a1 (a2.trans b2.symm) (a3.trans b3.symm) (a4.trans b4.symm)
theorem tFd.uniq {T : Tab} (h : tOk T) {s a b : Nat} {r q : Int32} (h1 : tFd T s a b r) (h2 : tFd T s a b q) : r = q := by
  rcases h1 with ⟨t, h3, h4⟩ | ⟨h3, h4⟩ <;> rcases h2 with ⟨u, h5, h6⟩ | ⟨h5, h6⟩
  · rw [h4, h6, h3.uniq h h5]
  · exact absurd h3 (h6 t)
  · exact absurd h5 (h4 u)
  · rw [h3, h5]
/-- the bucket of a term, as the class finds it -/
def bkI (s p q : Int32) : Nat := ((((s * (961 : Int32)) + (p * (31 : Int32))) + q) &&& (255 : Int32)).toNatClampNeg
theorem bkI_lt (s p q : Int32) : ∃ j, j < 256 ∧ ((((s * (961 : Int32)) + (p * (31 : Int32))) + q) &&& (255 : Int32)) = nI j ∧ bkI s p q = j := by
  obtain ⟨j, h1, h2⟩ := pk_andE (((s * (961 : Int32)) + (p * (31 : Int32))) + q) (m := 255) 8 (by decide)
  refine ⟨j, h1, h2, ?_⟩
  unfold bkI
  rw [h2]
  exact nI_clamp (by omega)
def bkt (T : Tab) (t : Nat) : Nat := bkI (nI (ts T t)) (pc 1 (tq T t) (ta T t)) (pc 2 (tq T t) (tb T t))
/-- the last term below m whose bucket is b -/
def lastB (k : Nat → Nat) (b : Nat) : Nat → Int32
  | 0 => mI
  | m + 1 => if k m = b then nI m else lastB k b m
theorem lastB_or (k : Nat → Nat) (b : Nat) : ∀ m, (lastB k b m = mI ∧ ∀ t, t < m → k t ≠ b) ∨ ∃ t, t < m ∧ k t = b ∧ lastB k b m = nI t ∧ ∀ u, t < u → u < m → k u ≠ b := by
  intro m
  induction m with
  | zero => exact Or.inl ⟨rfl, fun t ht => by omega⟩
  | succ m ih =>
    by_cases h : k m = b
    · exact Or.inr ⟨m, by omega, h, if_pos h, fun u h1 h2 => by omega⟩
    · have e : lastB k b (m + 1) = lastB k b m := if_neg h
      rcases ih with ⟨h1, h2⟩ | ⟨t, h1, h2, h3, h4⟩
      · refine Or.inl ⟨e.trans h1, fun t ht => ?_⟩
        by_cases h5 : t = m
        · rw [h5]; exact h
        · exact h2 t (by omega)
      · refine Or.inr ⟨t, by omega, h2, e.trans h3, fun u h5 h6 => ?_⟩
        by_cases h7 : u = m
        · rw [h7]; exact h
        · exact h4 u h5 (by omega)
theorem lastB_congr {k k' : Nat → Nat} (b : Nat) : ∀ m, (∀ t, t < m → k t = k' t) → lastB k b m = lastB k' b m := by
  intro m
  induction m with
  | zero => intro _; rfl
  | succ m ih =>
    intro h
    have e := ih (fun t ht => h t (by omega))
    show (if k m = b then nI m else lastB k b m) = (if k' m = b then nI m else lastB k' b m)
    rw [h m (by omega), e]
/-! weights: what a term has of its own and what its parts have, cut at c -/
def wtF (T : Tab) (c : Nat) (b : Nat → Nat) : Nat → Nat → Nat
  | 0, _ => 0
  | f + 1, t => min c (b t + (if 1 ≤ tq T t then wtF T c b f (ta T t) else 0) + (if 2 ≤ tq T t then wtF T c b f (tb T t) else 0))
def wt (T : Tab) (c : Nat) (b : Nat → Nat) (t : Nat) : Nat := wtF T c b (t + 1) t
theorem wtF_eq {T : Tab} (h : tOk T) (c : Nat) (b : Nat → Nat) : ∀ f g t, t < tn T → t < f → t < g → wtF T c b f t = wtF T c b g t := by
  intro f
  induction f with
  | zero => intro g t _ h1 _; omega
  | succ f ih =>
    intro g t ht h1 h2
    obtain ⟨g, rfl⟩ : ∃ k, g = k + 1 := ⟨g - 1, by omega⟩
    have h3 := h.2.2 t ht
    show min c (b t + (if 1 ≤ tq T t then wtF T c b f (ta T t) else 0) + (if 2 ≤ tq T t then wtF T c b f (tb T t) else 0)) = min c (b t + (if 1 ≤ tq T t then wtF T c b g (ta T t) else 0) + (if 2 ≤ tq T t then wtF T c b g (tb T t) else 0))
    by_cases h4 : 1 ≤ tq T t
    · have e1 := ih g (ta T t) (by omega) (by omega) (by omega)
      by_cases h5 : 2 ≤ tq T t
      · have e2 := ih g (tb T t) (by omega) (by omega) (by omega)
        rw [if_pos h4, if_pos h4, if_pos h5, if_pos h5, e1, e2]
      · rw [if_pos h4, if_pos h4, if_neg h5, if_neg h5, e1]
    · rw [if_neg h4, if_neg h4, if_neg (by omega), if_neg (by omega)]
theorem wt_eq {T : Tab} (h : tOk T) (c : Nat) (b : Nat → Nat) {t : Nat} (ht : t < tn T) : wt T c b t = min c (b t + (if 1 ≤ tq T t then wt T c b (ta T t) else 0) + (if 2 ≤ tq T t then wt T c b (tb T t) else 0)) := by
  have h3 := h.2.2 t ht
  show min c (b t + (if 1 ≤ tq T t then wtF T c b t (ta T t) else 0) + (if 2 ≤ tq T t then wtF T c b t (tb T t) else 0)) = _
  by_cases h4 : 1 ≤ tq T t
  · have e1 := wtF_eq h c b t (ta T t + 1) (ta T t) (by omega) (by omega) (by omega)
    by_cases h5 : 2 ≤ tq T t
    · have e2 := wtF_eq h c b t (tb T t + 1) (tb T t) (by omega) (by omega) (by omega)
      rw [if_pos h4, if_pos h4, if_pos h5, if_pos h5, e1, e2]; rfl
    · rw [if_pos h4, if_pos h4, if_neg h5, if_neg h5, e1]; rfl
  · rw [if_neg h4, if_neg h4, if_neg (by omega), if_neg (by omega)]
theorem wt_le (T : Tab) (c : Nat) (b : Nat → Nat) (t : Nat) : wt T c b t ≤ c := Nat.min_le_left _ _
def szT (T : Tab) (t : Nat) : Nat := wt T 1000000000 (fun _ => 1) t
/-- the class's table, and the reference's -/
def tTe (T : Tab) (te : Te) : Prop := tOk T ∧ tn T ≤ 448 ∧ Te_count te = nI (tn T) ∧ (∀ k, k < 6 → Te_places te k = nI (tp T k)) ∧ (∀ t, t < tn T → Te_symbol te t = nI (ts T t)) ∧ (∀ t, t < tn T → Te_first te t = pc 1 (tq T t) (ta T t)) ∧ (∀ t, t < tn T → Te_second te t = pc 2 (tq T t) (tb T t)) ∧ (∀ t, t < tn T → Te_size te t = nI (szT T t)) ∧ (∀ b, b < 256 → Te_newestIn te b = lastB (bkt T) b (tn T)) ∧ (∀ t, t < tn T → Te_olderInBucket te t = lastB (bkt T) (bkt T t) t)
def tMo (T : Tab) (mo : Mo) : Prop := tOk T ∧ tn T ≤ 48 ∧ Mo_count mo = nI (tn T) ∧ (∀ k, k < 6 → Mo_places mo k = nI (tp T k)) ∧ (∀ t, t < tn T → Mo_symbol mo t = nI (ts T t)) ∧ (∀ t, t < tn T → Mo_one mo t = pc 1 (tq T t) (ta T t)) ∧ (∀ t, t < tn T → Mo_two mo t = pc 2 (tq T t) (tb T t))
