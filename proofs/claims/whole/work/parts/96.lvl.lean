/-! steps, levels and parts, of numbers -/
def spC (T : Tab) (R : Rul) (X : Nat → Nat → Prop) : Prop := (∀ i, i < rn R → X (den T (rl R i)) (den T (rr R i))) ∧ (∀ s a a' w, X a a' → X (co s (a + 1) w) (co s (a' + 1) w)) ∧ (∀ s w b b', X b b' → X (co s w (b + 1)) (co s w (b' + 1)))
def stp (T : Tab) (R : Rul) (x y : Nat) : Prop := ∀ X, spC T R X → X x y
def lvl (T : Tab) (R : Rul) (s : Nat) : Nat → Nat → Prop
  | 0, y => y = s
  | l + 1, y => lvl T R s l y ∨ ∃ z, lvl T R s l z ∧ stp T R z y
def prt (x z : Nat) : Prop := ∃ s w, x = co s (z + 1) w ∨ x = co s w (z + 1)
def pcl (P : Nat → Prop) (y : Nat) : Prop := ∀ X : Nat → Prop, (∀ y, P y → X y) → (∀ x z, X x → prt x z → X z) → X y
theorem pcl.i {P : Nat → Prop} {y : Nat} (h : P y) : pcl P y := fun _ h1 _ => h1 y h
theorem pcl.p {P : Nat → Prop} {x z : Nat} (h : pcl P x) (k : prt x z) : pcl P z := fun X h1 h2 => h2 x z (h X h1 h2) k
theorem pcl.mono {P Q : Nat → Prop} (h : ∀ y, P y → Q y) {y : Nat} (k : pcl P y) : pcl Q y := fun X h1 h2 => k X (fun y hy => h1 y (h y hy)) h2
section
variable {T U : Tab} {R : Rul} {s t : Nat}
theorem stp.r {i : Nat} (hi : i < rn R) : stp T R (den T (rl R i)) (den T (rr R i)) := fun _ h => h.1 i hi
theorem stp.a {a a' s w : Nat} (h : stp T R a a') : stp T R (co s (a + 1) w) (co s (a' + 1) w) := fun X hX => hX.2.1 s a a' w (h X hX)
theorem stp.b {a a' s w : Nat} (h : stp T R a a') : stp T R (co s w (a + 1)) (co s w (a' + 1)) := fun X hX => hX.2.2 s w a a' (h X hX)
theorem stp_sl (o : rOk T R) (h : ext T U) (ht : t < tn U) {z : Nat} : stp T R (den U t) z ↔ z ∈ sl U R t := by
  have hn := h.2.1
  constructor
  · intro k
    refine k (fun x z => ∀ t, t < tn U → den U t = x → z ∈ sl U R t) ⟨?_, ?_, ?_⟩ t ht rfl
    · intro i hi t ht e
      have oi := o.2 i hi
      have e1 : t = rl R i := den_inj h.1 ht (by omega) (by rw [e, den_ext h oi.1])
      exact (sl_mem h.1 ht).mpr (Or.inl ⟨i, hi, e1.symm, (den_ext h oi.2.1).symm⟩)
    · intro s a a' w ih t ht e
      have h3 := h.1.2.2 t ht
      rw [den_eq h.1 ht] at e
      obtain ⟨e1, e2, e3⟩ := co_inj e
      have q : 1 ≤ tq U t := by
        refine Classical.byContradiction (fun q => ?_)
        rw [pa_f (by omega)] at e2
        omega
      rw [pa_t q] at e2
      exact (sl_mem h.1 ht).mpr (Or.inr (Or.inl ⟨q, a', ih (ta U t) (by omega) (by omega), by rw [e1, e3]⟩))
    · intro s w a a' ih t ht e
      have h3 := h.1.2.2 t ht
      rw [den_eq h.1 ht] at e
      obtain ⟨e1, e2, e3⟩ := co_inj e
      have q : 2 ≤ tq U t := by
        refine Classical.byContradiction (fun q => ?_)
        rw [pb_f (by omega)] at e3
        omega
      rw [pb_t q] at e3
      exact (sl_mem h.1 ht).mpr (Or.inr (Or.inr ⟨q, a', ih (tb U t) (by omega) (by omega), by rw [e1, e2]⟩))
  · have key : ∀ t, t < tn U → ∀ z, z ∈ sl U R t → stp T R (den U t) z := by
      intro t
      induction t using Nat.strongRecOn with
      | _ t ih =>
        intro ht z hz
        have h3 := h.1.2.2 t ht
        rcases (sl_mem h.1 ht).mp hz with ⟨i, hi, e1, e2⟩ | ⟨q, u, hu, e⟩ | ⟨q, u, hu, e⟩
        · have oi := o.2 i hi
          rw [e2, ← e1, den_ext h oi.1, den_ext h oi.2.1]
          exact stp.r hi
        · rw [e, den_eq h.1 ht, pa_t q]
          exact stp.a (ih _ (by omega) (by omega) u hu)
        · rw [e, den_eq h.1 ht, pb_t q]
          exact stp.b (ih _ (by omega) (by omega) u hu)
    exact key t ht z
theorem prt_den (o : tOk U) (ht : t < tn U) {z : Nat} : prt (den U t) z ↔ (1 ≤ tq U t ∧ z = den U (ta U t)) ∨ (2 ≤ tq U t ∧ z = den U (tb U t)) := by
  rw [den_eq o ht]
  constructor
  · rintro ⟨s, w, e | e⟩
    · obtain ⟨-, e2, -⟩ := co_inj e
      have q : 1 ≤ tq U t := by
        refine Classical.byContradiction (fun q => ?_)
        rw [pa_f (by omega)] at e2
        omega
      rw [pa_t q] at e2
      exact Or.inl ⟨q, by omega⟩
    · obtain ⟨-, -, e3⟩ := co_inj e
      have q : 2 ≤ tq U t := by
        refine Classical.byContradiction (fun q => ?_)
        rw [pb_f (by omega)] at e3
        omega
      rw [pb_t q] at e3
      exact Or.inr ⟨q, by omega⟩
  · rintro (⟨q, e⟩ | ⟨q, e⟩)
    · exact ⟨ts U t, pb U t, Or.inl (by rw [pa_t q, e])⟩
    · exact ⟨ts U t, pa U t, Or.inr (by rw [pb_t q, e])⟩
theorem lvl_up {y : Nat} : ∀ {l m : Nat}, l ≤ m → lvl T R s l y → lvl T R s m y := by
  intro l m h k
  induction m with
  | zero => rw [Nat.le_zero.mp h] at k; exact k
  | succ m ih =>
    by_cases e : l = m + 1
    · rw [← e]; exact k
    · exact Or.inl (ih (by omega))
theorem lvl_s {l y z : Nat} (h : lvl T R s l z) (k : stp T R z y) : lvl T R s (l + 1) y := Or.inr ⟨z, h, k⟩
theorem lvl_tr {l y : Nat} (h : lvl T R s l y) : ∀ m z, lvl T R y m z → lvl T R s (l + m) z := by
  intro m
  induction m with
  | zero => intro z k; rw [show z = y from k]; exact h
  | succ m ih =>
    intro z k
    rcases k with k | ⟨w, k1, k2⟩
    · exact Or.inl (ih z k)
    · exact Or.inr ⟨w, ih w k1, k2⟩
theorem lvl_a {x c w : Nat} : ∀ l y, lvl T R x l y → lvl T R (co c (x + 1) w) l (co c (y + 1) w) := by
  intro l
  induction l with
  | zero => intro y k; rw [show y = x from k]; rfl
  | succ l ih =>
    intro y k
    rcases k with k | ⟨z, k1, k2⟩
    · exact Or.inl (ih y k)
    · exact Or.inr ⟨_, ih z k1, stp.a k2⟩
theorem lvl_b {x c w : Nat} : ∀ l y, lvl T R x l y → lvl T R (co c w (x + 1)) l (co c w (y + 1)) := by
  intro l
  induction l with
  | zero => intro y k; rw [show y = x from k]; rfl
  | succ l ih =>
    intro y k
    rcases k with k | ⟨z, k1, k2⟩
    · exact Or.inl (ih y k)
    · exact Or.inr ⟨_, ih z k1, stp.b k2⟩
/-- what reaches what does so by steps -/
theorem lvl_of (o : tOk T) (h : Rch T R s t) : ∃ l, lvl T R (den T s) l (den T t) := by
  refine Rch.ind (X := fun s t => ∃ l, lvl T R (den T s) l (den T t)) (fun s _ => ⟨0, rfl⟩) ?_ ?_ h
  · intro s t hs ht _ g
    have eq := g.q
    obtain ⟨g1, g2, g3⟩ := g
    rw [den_eq o hs, den_eq o ht, g1]
    by_cases q1 : 1 ≤ tq T s
    · obtain ⟨l1, k1⟩ := g2 q1
      rw [pa_t q1, pa_t (by omega)]
      have w1 := lvl_a (T := T) (R := R) (c := ts T t) (w := pb T s) l1 _ k1
      by_cases q2 : 2 ≤ tq T s
      · obtain ⟨l2, k2⟩ := g3 q2
        rw [pb_t q2] at w1
        rw [pb_t q2, pb_t (by omega)]
        exact ⟨l1 + l2, lvl_tr w1 l2 _ (lvl_b l2 _ k2)⟩
      · rw [pb_f (by omega)] at w1
        rw [pb_f (by omega), pb_f (by omega)]
        exact ⟨l1, w1⟩
    · rw [pa_f (by omega), pa_f (by omega), pb_f (by omega), pb_f (by omega)]
      exact ⟨0, rfl⟩
  · rintro i s t hi _ _ ⟨l1, k1⟩ ⟨l2, k2⟩
    exact ⟨l1 + 1 + l2, lvl_tr (lvl_s k1 (stp.r hi)) l2 _ k2⟩
/-- what a step makes of a part is a part of what it makes of the whole -/
theorem xl_stp {l w y : Nat} (h : pcl (lvl T R s l) w) (k : stp T R w y) : pcl (lvl T R s (l + 1)) y := by
  refine h (fun w => ∀ y, stp T R w y → pcl (lvl T R s (l + 1)) y) (fun w hw y k => pcl.i (lvl_s hw k)) (fun x z hx hp y k => ?_) y k
  obtain ⟨c, v, e | e⟩ := hp
  · rw [e] at hx
    exact (hx _ (stp.a k)).p ⟨c, v, Or.inl rfl⟩
  · rw [e] at hx
    exact (hx _ (stp.b k)).p ⟨c, v, Or.inr rfl⟩
theorem xl_up {l m y : Nat} (h : l ≤ m) (k : pcl (lvl T R s l) y) : pcl (lvl T R s m) y := k.mono (fun _ => lvl_up h)
end
/-! how many -/
theorem cN_up {p : Nat → Prop} {n m : Nat} (h : n ≤ m) : cN p n ≤ cN p m := by
  induction m with
  | zero => rw [Nat.le_zero.mp h]; exact Nat.le_refl _
  | succ m ih =>
    by_cases e : n = m + 1
    · rw [e]; exact Nat.le_refl _
    · have := ih (by omega)
      by_cases k : p m
      · rw [cN_s1 k]; omega
      · rw [cN_s0 k]; exact this
theorem cN_img {f : Nat → Nat} {M : Nat} : ∀ (n : Nat) {p q : Nat → Prop}, (∀ i k, i < n → k < n → p i → p k → f i = f k → i = k) → (∀ i, i < n → p i → q (f i) ∧ f i < M) → cN p n ≤ cN q M := by
  intro n
  induction n with
  | zero => intro p q _ _; exact Nat.zero_le _
  | succ n ih =>
    intro p q hi hq
    by_cases h : p n
    · have h1 : cN p n ≤ cN (fun y => q y ∧ y ≠ f n) M := ih (fun i k a b => hi i k (by omega) (by omega)) (fun i a b => ⟨⟨(hq i (by omega) b).1, fun e => by have := hi i n (by omega) (by omega) b h e; omega⟩, (hq i (by omega) b).2⟩)
      have h2 : cN (fun y => q y ∧ y ≠ f n) M < cN q M := cN_lt (j := f n) (fun k => k.2 rfl) (hq n (by omega) h).1 M (hq n (by omega) h).2 (fun k _ a => a.1)
      rw [cN_s1 h]
      omega
    · rw [cN_s0 h]
      exact ih (fun i k a b => hi i k (by omega) (by omega)) (fun i a => hq i (by omega))
theorem cN_rm {q : Nat → Prop} (a : Nat) : ∀ M, cN q M ≤ cN (fun y => q y ∧ y ≠ a) M + 1 := by
  intro M
  induction M with
  | zero => exact Nat.zero_le _
  | succ M ih =>
    by_cases h : q M
    · by_cases e : M = a
      · have h3 : cN q M ≤ cN (fun y => q y ∧ y ≠ a) M := cN_mono M (fun k hk a1 => ⟨a1, by omega⟩)
        have h4 : cN (fun y => q y ∧ y ≠ a) M ≤ cN (fun y => q y ∧ y ≠ a) (M + 1) := cN_up (by omega)
        rw [cN_s1 h]
        omega
      · rw [cN_s1 h, cN_s1 (p := fun y => q y ∧ y ≠ a) ⟨h, e⟩]
        omega
    · rw [cN_s0 h, cN_s0 (p := fun y => q y ∧ y ≠ a) (fun k => h k.1)]
      exact ih
theorem cN_cov {f : Nat → Nat} {M : Nat} : ∀ (n : Nat) {p q : Nat → Prop}, (∀ y, q y → ∃ i, i < n ∧ p i ∧ f i = y) → cN q M ≤ cN p n := by
  intro n
  induction n with
  | zero =>
    intro p q h
    have : cN q M ≤ cN (fun _ => False) M := cN_mono M (fun k _ a => by obtain ⟨i, hi, _⟩ := h k a; omega)
    have e : ∀ M, cN (fun _ => False) M = 0 := by
      intro M
      induction M with
      | zero => rfl
      | succ M ih => rw [cN_s0 (p := fun _ => False) (fun k => k)]; exact ih
    rw [e] at this
    exact this
  | succ n ih =>
    intro p q h
    by_cases hp : p n
    · have h1 : cN (fun y => q y ∧ y ≠ f n) M ≤ cN p n := ih (fun y hy => by
        obtain ⟨i, a, b, c⟩ := h y hy.1
        by_cases e : i = n
        · subst e; exact absurd c.symm hy.2
        · exact ⟨i, by omega, b, c⟩)
      have h2 := cN_rm (q := q) (f n) M
      rw [cN_s1 hp]
      omega
    · rw [cN_s0 hp]
      exact ih (fun y hy => by
        obtain ⟨i, a, b, c⟩ := h y hy
        by_cases e : i = n
        · subst e; exact absurd b hp
        · exact ⟨i, by omega, b, c⟩)
theorem bd_ex (f : Nat → Nat) : ∀ n, ∃ M, ∀ i, i < n → f i < M := by
  intro n
  induction n with
  | zero => exact ⟨0, fun i h => by omega⟩
  | succ n ih =>
    obtain ⟨M, h⟩ := ih
    refine ⟨M + f n + 1, fun i hi => ?_⟩
    by_cases e : i = n
    · subst e; omega
    · have := h i (by omega); omega
/-- more than 400 -/
def big (P : Nat → Prop) : Prop := ∃ M, 400 < cN P M
theorem big.mono {P Q : Nat → Prop} (h : big P) (k : ∀ y, P y → Q y) : big Q := by
  obtain ⟨M, h⟩ := h
  have := cN_mono M (fun y _ a => k y a)
  exact ⟨M, by omega⟩
/-- so many of a table are among them -/
theorem big_of {U : Tab} (o : tOk U) {p P : Nat → Prop} (hp : ∀ i, i < tn U → p i → P (den U i)) (h : 400 < cN p (tn U)) : big P := by
  obtain ⟨M, hM⟩ := bd_ex (den U) (tn U)
  have := cN_img (f := den U) (M := M) (tn U) (p := p) (q := P) (fun i k hi hk _ _ e => den_inj o hi hk e) (fun i hi a => ⟨hp i hi a, hM i hi⟩)
  exact ⟨M, by omega⟩
/-- one more that is not in the table -/
theorem big_of1 {U : Tab} (o : tOk U) {p P : Nat → Prop} (hp : ∀ i, i < tn U → p i → P (den U i)) {y : Nat} (hy : P y) (hn : ∀ i, i < tn U → p i → den U i ≠ y) (h : 400 ≤ cN p (tn U)) : big P := by
  obtain ⟨M, hM⟩ := bd_ex (den U) (tn U)
  have h1 := cN_img (f := den U) (M := M + y + 1) (tn U) (p := p) (q := fun z => P z ∧ z ≠ y) (fun i k hi hk _ _ e => den_inj o hi hk e) (fun i hi a => ⟨⟨hp i hi a, hn i hi a⟩, by have := hM i hi; omega⟩)
  have h2 : cN (fun z => P z ∧ z ≠ y) (M + y + 1) < cN P (M + y + 1) := cN_lt (j := y) (fun k => k.2 rfl) hy _ (by omega) (fun k _ a => a.1)
  exact ⟨M + y + 1, by omega⟩
theorem nbig_of {f : Nat → Nat} {n : Nat} {p P : Nat → Prop} (hp : ∀ y, P y → ∃ i, i < n ∧ p i ∧ f i = y) (h : cN p n ≤ 400) : ¬ big P := by
  rintro ⟨M, hM⟩
  have := cN_cov (f := f) (M := M) n hp
  omega
section
variable {T : Tab} {R : Rul} {s t : Nat}
/-- the levels grow as long as t is still to come -/
theorem lvl_grow (hr : ∃ L, lvl T R s L t) : ∀ l, ¬ lvl T R s l t → ∃ M, l + 1 ≤ cN (lvl T R s l) M := by
  intro l
  induction l with
  | zero =>
    intro _
    refine ⟨s + 1, ?_⟩
    rw [cN_s1 (p := lvl T R s 0) rfl]
    omega
  | succ l ih =>
    intro h
    obtain ⟨M, hM⟩ := ih (fun k => h (Or.inl k))
    by_cases hc : ∃ y, lvl T R s (l + 1) y ∧ ¬ lvl T R s l y
    · obtain ⟨y, h1, h2⟩ := hc
      have a1 : cN (lvl T R s l) M ≤ cN (lvl T R s l) (M + y + 1) := cN_up (by omega)
      have a2 : cN (lvl T R s l) (M + y + 1) < cN (lvl T R s (l + 1)) (M + y + 1) := cN_lt h2 h1 _ (by omega) (fun k _ a => Or.inl a)
      exact ⟨M + y + 1, by omega⟩
    · have all : ∀ m y, lvl T R s (l + m) y → lvl T R s l y := by
        intro m
        induction m with
        | zero => exact fun y k => k
        | succ m ih2 =>
          intro y k
          rcases k with k | ⟨z, k1, k2⟩
          · exact ih2 y k
          · refine Classical.byContradiction (fun q => hc ⟨y, ?_, q⟩)
            exact lvl_s (ih2 z k1) k2
      obtain ⟨L, hL⟩ := hr
      exact absurd (Or.inl (all L t (lvl_up (by omega) hL))) h
theorem lvl_lt (hr : ∃ L, lvl T R s L t) {l : Nat} (hn : ¬ lvl T R s l t) (hb : ¬ big (pcl (lvl T R s l))) : l + 1 ≤ 400 := by
  obtain ⟨M, hM⟩ := lvl_grow hr l hn
  have : cN (lvl T R s l) M ≤ cN (pcl (lvl T R s l)) M := cN_mono M (fun k _ a => pcl.i a)
  refine Classical.byContradiction (fun q => hb ⟨M, by omega⟩)
/-- the answer that the document asks for -/
def dsp (T : Tab) (R : Rul) (s t : Nat) (r : Int32) : Prop := (∃ d, lvl T R s d t ∧ (∀ l, l < d → ¬ lvl T R s l t) ∧ ¬ big (pcl (lvl T R s d)) ∧ r = nI d) ∨ (r = -2 ∧ ∃ d, (∀ l, l < d → ¬ lvl T R s l t) ∧ big (pcl (lvl T R s d)))
theorem dsp.uniq {r r' : Int32} (h : dsp T R s t r) (h' : dsp T R s t r') : r = r' := by
  rcases h with ⟨d, h1, h2, h3, h4⟩ | ⟨h1, d, h2, h3⟩ <;> rcases h' with ⟨d', k1, k2, k3, k4⟩ | ⟨k1, d', k2, k3⟩
  · have a1 : ¬ d < d' := fun q => k2 d q h1
    have a2 : ¬ d' < d := fun q => h2 d' q k1
    rw [h4, k4, show d = d' by omega]
  · have a1 : ¬ d < d' := fun q => k2 d q h1
    exact absurd (k3.mono (fun y => xl_up (by omega))) h3
  · have a1 : ¬ d' < d := fun q => h2 d' q k1
    exact absurd (h3.mono (fun y => xl_up (by omega))) k3
  · rw [h1, k1]
end
/-! the terms that the way up builds -/
section
variable {U : Tab} {R : Rul} {x : Nat × Nat} {d v : Nat}
theorem sl_get1 (o : tOk U) {p k : Nat} (hp : p < tn U) (q1 : 1 ≤ tq U p) (h1 : lc R p ≤ k) (h2 : k - lc R p < (sl U R (ta U p)).length) : (sl U R p)[k]? = ((sl U R (ta U p))[k - lc R p]?).map (fun u => co (ts U p) (u + 1) (pb U p)) := by
  have el : (rts U R p (rn R)).length = lc R p := rts_len _
  rw [sl_eq o hp, List.getElem?_append_right (by omega), el, List.getElem?_append_left (by rw [s1_t q1, List.length_map]; exact h2), s1_t q1, List.getElem?_map]
theorem sl_get2 (o : tOk U) {p k : Nat} (hp : p < tn U) (q2 : 2 ≤ tq U p) (h1 : lc R p ≤ k) (h2 : (sl U R (ta U p)).length ≤ k - lc R p) : (sl U R p)[k]? = ((sl U R (tb U p))[k - lc R p - (sl U R (ta U p)).length]?).map (fun u => co (ts U p) (pa U p) (u + 1)) := by
  have el : (rts U R p (rn R)).length = lc R p := rts_len _
  have q1 : 1 ≤ tq U p := by omega
  have e1 : (s1 U R p).length = (sl U R (ta U p)).length := by rw [s1_t q1, List.length_map]
  rw [sl_eq o hp, List.getElem?_append_right (by omega), el, List.getElem?_append_right (by omega), e1, s2_t q2, List.getElem?_map]
theorem up1_den {e : Tab × Nat} (o : tOk U) (hx : vl U R x) (hk : lc R x.1 ≤ x.2) (h : chOk U e) (hn : tn (up1 U R x e).1 ≤ 520) : (fs U R x → den (up1 U R x e).1 (up1 U R x e).2 = co (ts U x.1) (den e.1 e.2 + 1) (pb U x.1)) ∧ (¬ fs U R x → den (up1 U R x e).1 (up1 U R x e).2 = co (ts U x.1) (pa U x.1) (den e.1 e.2 + 1)) := by
  obtain ⟨E, w⟩ := e
  obtain ⟨hE, hw, -, -⟩ := h
  dsimp only at hE hw
  have f := ab_fit o hE hw hx hk
  have nd := nx_den hE.1 f hn
  have e9 : tp E (ts U x.1) = tq U x.1 := by rw [← hE.2.2.1]; rfl
  rw [e9] at nd
  have dd := dn_ok o hx hk
  have hx1 := hx.1
  have h3 := o.2.2 x.1 hx1
  refine ⟨fun f1 => ?_, fun f1 => ?_⟩
  · rw [ab_t f1] at nd
    dsimp only at nd
    rw [if_pos dd.1] at nd
    have e8 : (if 2 ≤ tq U x.1 then den E (tb U x.1) + 1 else 0) = pb U x.1 := by
      by_cases q : 2 ≤ tq U x.1
      · rw [if_pos q, pb_t q, den_ext hE (by omega)]
      · rw [if_neg q, pb_f (by omega)]
    rw [e8] at nd
    unfold up1
    rw [ab_t f1]
    exact nd
  · rw [ab_f f1] at nd
    dsimp only at nd
    have q2 : 2 ≤ tq U x.1 := by
      rcases dd.2.2.2 with ⟨a, -⟩ | ⟨-, a, -⟩
      · exact absurd a f1
      · exact a
    rw [if_pos dd.1, if_pos q2, den_ext hE (by omega), ← pa_t dd.1] at nd
    unfold up1
    rw [ab_f f1]
    exact nd
/-- after j of the d: it is what the steps' list says -/
theorem chn_den (o : tOk U) (hw : wy U R x d) (hv : v < tn U) {r : Nat} (hr : rkR R (trl U R x d).1 (trl U R x d).2 r) (ev : v = rr R r) : ∀ j, j ≤ d → tn (chn U R x d v j).1 ≤ 520 → (sl U R (trl U R x (d - j)).1)[(trl U R x (d - j)).2]? = some (den (chn U R x d v j).1 (chn U R x d v j).2) := by
  intro j
  induction j with
  | zero =>
    intro _ _
    have hp := (hw.v o).1.1
    show (sl U R (trl U R x d).1)[(trl U R x d).2]? = some (den U v)
    have lr := lcN_t hr.2.1
    have lm := lcN_mono (R := R) (t := (trl U R x d).1) (show r + 1 ≤ rn R from hr.1)
    have l3 := hr.2.2
    rw [sl_eq o hp, List.getElem?_append_left (by rw [rts_len]; omega), rts_get _ hr.1 hr.2.1 hr.2.2, ev]
  | succ j ih =>
    intro hj hn
    have m := (chn_tn (U := U) (R := R) (x := x) (d := d) (v := v) j).1
    have c := chn_ok o hw hv j (by omega) (by omega)
    have ih2 := ih (by omega) (by omega)
    have ei : d - 1 - j = d - (j + 1) := by omega
    have es : chn U R x d v (j + 1) = up1 U R (trl U R x (d - (j + 1))) (chn U R x d v j) := by
      show up1 U R (trl U R x (d - 1 - j)) _ = _
      rw [ei]
    have ej : d - j = (d - (j + 1)) + 1 := by omega
    have et : trl U R x (d - j) = dn U R (trl U R x (d - (j + 1))) := by rw [ej]; rfl
    have vx := ((hw.mono (by omega : d - (j + 1) ≤ d)).v o).1
    have hk := hw.2 (d - (j + 1)) (by omega)
    rw [es] at hn
    have ud := up1_den o vx hk c hn
    have dd := dn_ok o vx hk
    rw [es]
    rw [et] at ih2
    generalize trl U R x (d - (j + 1)) = y at *
    obtain ⟨p, k⟩ := y
    have hp1 : p < tn U := vx.1
    have hk1 : k < wc U R p := vx.2
    have hk2 := wc_le U R p
    have h3 := o.2.2 p hp1
    dsimp only at hk dd ud ⊢
    have ln := sl_len (R := R) o (show ta U p < tn U by omega)
    rcases dd.2.2.2 with ⟨f1, ed⟩ | ⟨f1, q2, ed⟩
    · have f2 : k - lc R p < wc U R (ta U p) := f1
      rw [ed] at ih2
      dsimp only at ih2
      rw [sl_get1 o hp1 dd.1 hk (by omega), ih2, ud.1 f1]
      rfl
    · have f2 : ¬ k - lc R p < wc U R (ta U p) := f1
      have e7 : wc U R (ta U p) = (sl U R (ta U p)).length := by omega
      rw [ed, e7] at ih2
      dsimp only at ih2
      rw [sl_get2 o hp1 q2 hk (by omega), ih2, ud.2 f1]
      rfl
end
