/-! terms as numbers, and the steps from one of them -/
def pr (x y : Nat) : Nat := 2 ^ x * (2 * y + 1)
theorem pr_inj {x y a b : Nat} (h : pr x y = pr a b) : x = a ∧ y = b := by
  have key : ∀ {x y a b : Nat}, x < a → pr x y = pr a b → False := by
    intro x y a b hx h
    unfold pr at h
    obtain ⟨c, rfl⟩ : ∃ c, a = x + (c + 1) := ⟨a - x - 1, by omega⟩
    rw [Nat.pow_add, Nat.mul_assoc] at h
    have h2 := Nat.eq_of_mul_eq_mul_left (Nat.two_pow_pos x) h
    rw [Nat.pow_succ, Nat.mul_comm (2 ^ c) 2, Nat.mul_assoc] at h2
    generalize 2 ^ c * (2 * b + 1) = z at h2
    omega
  rcases Nat.lt_trichotomy x a with q | q | q
  · exact (key q h).elim
  · subst q
    unfold pr at h
    have := Nat.eq_of_mul_eq_mul_left (Nat.two_pow_pos x) h
    exact ⟨rfl, by omega⟩
  · exact (key q h.symm).elim
def co (s x y : Nat) : Nat := pr s (pr x y)
theorem co_inj {s x y a b c : Nat} (h : co s x y = co a b c) : s = a ∧ x = b ∧ y = c := by
  obtain ⟨h1, h2⟩ := pr_inj h
  exact ⟨h1, pr_inj h2⟩
def dnF (U : Tab) : Nat → Nat → Nat
  | 0, _ => 0
  | f + 1, t => co (ts U t) (if 1 ≤ tq U t then dnF U f (ta U t) + 1 else 0) (if 2 ≤ tq U t then dnF U f (tb U t) + 1 else 0)
def den (U : Tab) (t : Nat) : Nat := dnF U (t + 1) t
def pa (U : Tab) (t : Nat) : Nat := if 1 ≤ tq U t then den U (ta U t) + 1 else 0
def pb (U : Tab) (t : Nat) : Nat := if 2 ≤ tq U t then den U (tb U t) + 1 else 0
theorem pa_t {U : Tab} {t : Nat} (h : 1 ≤ tq U t) : pa U t = den U (ta U t) + 1 := if_pos h
theorem pb_t {U : Tab} {t : Nat} (h : 2 ≤ tq U t) : pb U t = den U (tb U t) + 1 := if_pos h
theorem pa_f {U : Tab} {t : Nat} (h : tq U t < 1) : pa U t = 0 := if_neg (by omega)
theorem pb_f {U : Tab} {t : Nat} (h : tq U t < 2) : pb U t = 0 := if_neg (by omega)
theorem dnF_eq {U : Tab} (h : tOk U) : ∀ f g t, t < tn U → t < f → t < g → dnF U f t = dnF U g t := by
  intro f
  induction f with
  | zero => intro g t _ h1 _; omega
  | succ f ih =>
    intro g t ht h1 h2
    obtain ⟨g, rfl⟩ : ∃ k, g = k + 1 := ⟨g - 1, by omega⟩
    have h3 := h.2.2 t ht
    show co (ts U t) (if 1 ≤ tq U t then dnF U f (ta U t) + 1 else 0) (if 2 ≤ tq U t then dnF U f (tb U t) + 1 else 0) = co (ts U t) (if 1 ≤ tq U t then dnF U g (ta U t) + 1 else 0) (if 2 ≤ tq U t then dnF U g (tb U t) + 1 else 0)
    by_cases h4 : 1 ≤ tq U t
    · have e1 := ih g (ta U t) (by omega) (by omega) (by omega)
      by_cases h5 : 2 ≤ tq U t
      · have e2 := ih g (tb U t) (by omega) (by omega) (by omega)
        rw [if_pos h4, if_pos h4, if_pos h5, if_pos h5, e1, e2]
      · rw [if_pos h4, if_pos h4, if_neg h5, if_neg h5, e1]
    · rw [if_neg h4, if_neg h4, if_neg (by omega), if_neg (by omega)]
theorem den_eq {U : Tab} (h : tOk U) {t : Nat} (ht : t < tn U) : den U t = co (ts U t) (pa U t) (pb U t) := by
  have h3 := h.2.2 t ht
  show co (ts U t) (if 1 ≤ tq U t then dnF U t (ta U t) + 1 else 0) (if 2 ≤ tq U t then dnF U t (tb U t) + 1 else 0) = _
  unfold pa pb
  by_cases h4 : 1 ≤ tq U t
  · have e1 := dnF_eq h t (ta U t + 1) (ta U t) (by omega) (by omega) (by omega)
    by_cases h5 : 2 ≤ tq U t
    · have e2 := dnF_eq h t (tb U t + 1) (tb U t) (by omega) (by omega) (by omega)
      rw [if_pos h4, if_pos h4, if_pos h5, if_pos h5, e1, e2]; rfl
    · rw [if_pos h4, if_pos h4, if_neg h5, if_neg h5, e1]; rfl
  · rw [if_neg h4, if_neg h4, if_neg (by omega), if_neg (by omega)]
theorem den_inj {U : Tab} (o : tOk U) : ∀ {t u : Nat}, t < tn U → u < tn U → den U t = den U u → t = u := by
  intro t
  induction t using Nat.strongRecOn with
  | _ t ih =>
    intro u ht hu h
    have ot := o.2.2 t ht
    have ou := o.2.2 u hu
    rw [den_eq o ht, den_eq o hu] at h
    obtain ⟨h1, h2, h3⟩ := co_inj h
    have hq : tq U t = tq U u := by unfold tq; rw [h1]
    have ea : ta U t = ta U u := by
      by_cases q : 1 ≤ tq U t
      · rw [pa_t q, pa_t (by omega)] at h2
        exact ih _ (by omega) (by omega) (by omega) (by omega)
      · omega
    have eb : tb U t = tb U u := by
      by_cases q : 2 ≤ tq U t
      · rw [pb_t q, pb_t (by omega)] at h3
        exact ih _ (by omega) (by omega) (by omega) (by omega)
      · omega
    exact ou.2.2.2.2.2 t ht h1 ea eb
theorem ext.ok {T U : Tab} (h : ext T U) : tOk T := h.2.2.symm.ok h.2.1 h.1
theorem den_ext {T U : Tab} (h : ext T U) : ∀ {t : Nat}, t < tn T → den U t = den T t := by
  intro t
  induction t using Nat.strongRecOn with
  | _ t ih =>
    intro ht
    have hn := h.2.1
    have ot := h.ok.2.2 t ht
    obtain ⟨g1, g2, g3, g4⟩ := h.f ht
    rw [den_eq h.1 (by omega), den_eq h.ok ht, g1]
    have ea : pa U t = pa T t := by
      by_cases q : 1 ≤ tq T t
      · rw [pa_t q, pa_t (by omega), g3, ih _ (by omega) (by omega)]
      · rw [pa_f (by omega), pa_f (by omega)]
    have eb : pb U t = pb T t := by
      by_cases q : 2 ≤ tq T t
      · rw [pb_t q, pb_t (by omega), g4, ih _ (by omega) (by omega)]
      · rw [pb_f (by omega), pb_f (by omega)]
    rw [ea, eb]
theorem den_q {T U : Tab} (h : ext T U) {t : Nat} (ht : t < tn T) : pa U t = pa T t ∧ pb U t = pb T t := by
  have hn := h.2.1
  have ot := h.ok.2.2 t ht
  obtain ⟨g1, g2, g3, g4⟩ := h.f ht
  constructor
  · by_cases q : 1 ≤ tq T t
    · rw [pa_t q, pa_t (by omega), g3, den_ext h (by omega)]
    · rw [pa_f (by omega), pa_f (by omega)]
  · by_cases q : 2 ≤ tq T t
    · rw [pb_t q, pb_t (by omega), g4, den_ext h (by omega)]
    · rw [pb_f (by omega), pb_f (by omega)]
/-- the number of a term that is found or added -/
theorem nx_den {E : Tab} {s a b : Nat} (o : tOk E) (f : tFit E s a b) (hn : tn (nx E s a b).1 ≤ 520) : den (nx E s a b).1 (nx E s a b).2 = co s (if 1 ≤ tp E s then den E a + 1 else 0) (if 2 ≤ tp E s then den E b + 1 else 0) := by
  by_cases hi : ∃ u, isT E s a b u
  · obtain ⟨u, hu⟩ := hi
    rw [nx_t o hu]
    dsimp only
    obtain ⟨u1, u2, u3, u4⟩ := hu
    have e : tq E u = tp E s := by unfold tq; rw [u2]
    rw [den_eq o u1]
    unfold pa pb
    rw [e, u2, u3, u4]
  · have no : ∀ u, ¬ isT E s a b u := fun u k => hi ⟨u, k⟩
    rw [nx_f no] at hn ⊢
    dsimp only at hn ⊢
    rw [tn_add] at hn
    have ok' := tOk_add o (by omega) f no
    have hx : ext E (tAdd E s a b) := ⟨ok', by rw [tn_add]; omega, tAg_add E s a b⟩
    rw [den_eq ok' (by rw [tn_add]; omega), ts_add]
    unfold pa pb
    rw [tq_add, ta_add, tb_add]
    by_cases q1 : 1 ≤ tp E s
    · rw [if_pos q1, if_pos q1, den_ext hx (f.2.2.2.1 q1)]
      by_cases q2 : 2 ≤ tp E s
      · rw [if_pos q2, if_pos q2, den_ext hx (f.2.2.2.2 q2)]
      · rw [if_neg q2, if_neg q2]
    · rw [if_neg q1, if_neg q1, if_neg (by omega), if_neg (by omega)]
/-! all steps from a term, in their order -/
def rts (U : Tab) (R : Rul) (t : Nat) : Nat → List Nat
  | 0 => []
  | m + 1 => rts U R t m ++ (if rl R m = t then [den U (rr R m)] else [])
def slF (U : Tab) (R : Rul) : Nat → Nat → List Nat
  | 0, _ => []
  | f + 1, t => rts U R t (rn R) ++ ((if 1 ≤ tq U t then (slF U R f (ta U t)).map (fun u => co (ts U t) (u + 1) (pb U t)) else []) ++ (if 2 ≤ tq U t then (slF U R f (tb U t)).map (fun u => co (ts U t) (pa U t) (u + 1)) else []))
def sl (U : Tab) (R : Rul) (t : Nat) : List Nat := slF U R (t + 1) t
section
variable {T U : Tab} {R : Rul} {t : Nat}
theorem rts_t {m : Nat} (h : rl R m = t) : rts U R t (m + 1) = rts U R t m ++ [den U (rr R m)] := by
  show rts U R t m ++ (if rl R m = t then [den U (rr R m)] else []) = _
  rw [if_pos h]
theorem rts_f {m : Nat} (h : ¬ rl R m = t) : rts U R t (m + 1) = rts U R t m := by
  show rts U R t m ++ (if rl R m = t then [den U (rr R m)] else []) = _
  rw [if_neg h, List.append_nil]
theorem rts_len : ∀ m, (rts U R t m).length = lcN R t m := by
  intro m
  induction m with
  | zero => rfl
  | succ m ih =>
    by_cases h : rl R m = t
    · rw [rts_t h, lcN_t h, List.length_append, ih]; rfl
    · rw [rts_f h, lcN_f h, ih]
theorem rts_mem {y : Nat} : ∀ m, y ∈ rts U R t m ↔ ∃ i, i < m ∧ rl R i = t ∧ y = den U (rr R i) := by
  intro m
  induction m with
  | zero => exact ⟨fun h => absurd h List.not_mem_nil, fun ⟨i, h, _⟩ => absurd h (Nat.not_lt_zero i)⟩
  | succ m ih =>
    by_cases h : rl R m = t
    · rw [rts_t h, List.mem_append, ih, List.mem_singleton]
      constructor
      · rintro (⟨i, h1, h2⟩ | h1)
        · exact ⟨i, by omega, h2⟩
        · exact ⟨m, by omega, h, h1⟩
      · rintro ⟨i, h1, h2, h3⟩
        by_cases e : i = m
        · subst e; exact Or.inr h3
        · exact Or.inl ⟨i, by omega, h2, h3⟩
    · rw [rts_f h, ih]
      constructor
      · rintro ⟨i, h1, h2⟩
        exact ⟨i, by omega, h2⟩
      · rintro ⟨i, h1, h2, h3⟩
        by_cases e : i = m
        · subst e; exact absurd h2 h
        · exact ⟨i, by omega, h2, h3⟩
theorem rts_get {k r : Nat} : ∀ m, r < m → rl R r = t → lcN R t r = k → (rts U R t m)[k]? = some (den U (rr R r)) := by
  intro m
  induction m with
  | zero => intro h; omega
  | succ m ih =>
    intro h h1 h2
    by_cases e : r = m
    · subst e
      rw [rts_t h1, List.getElem?_append_right (by rw [rts_len]; omega), rts_len, h2, Nat.sub_self]
      rfl
    · have h3 := ih (by omega) h1 h2
      by_cases h4 : rl R m = t
      · rw [rts_t h4, List.getElem?_append_left, h3]
        rw [rts_len]
        have l1 := lcN_t h1
        have l2 := lcN_mono (R := R) (t := t) (show r + 1 ≤ m by omega)
        omega
      · rw [rts_f h4, h3]
theorem slF_eq (h : tOk U) : ∀ f g t, t < tn U → t < f → t < g → slF U R f t = slF U R g t := by
  intro f
  induction f with
  | zero => intro g t _ h1 _; omega
  | succ f ih =>
    intro g t ht h1 h2
    obtain ⟨g, rfl⟩ : ∃ k, g = k + 1 := ⟨g - 1, by omega⟩
    have h3 := h.2.2 t ht
    show rts U R t (rn R) ++ ((if 1 ≤ tq U t then (slF U R f (ta U t)).map (fun u => co (ts U t) (u + 1) (pb U t)) else []) ++ (if 2 ≤ tq U t then (slF U R f (tb U t)).map (fun u => co (ts U t) (pa U t) (u + 1)) else [])) = rts U R t (rn R) ++ ((if 1 ≤ tq U t then (slF U R g (ta U t)).map (fun u => co (ts U t) (u + 1) (pb U t)) else []) ++ (if 2 ≤ tq U t then (slF U R g (tb U t)).map (fun u => co (ts U t) (pa U t) (u + 1)) else []))
    by_cases h4 : 1 ≤ tq U t
    · have e1 := ih g (ta U t) (by omega) (by omega) (by omega)
      by_cases h5 : 2 ≤ tq U t
      · have e2 := ih g (tb U t) (by omega) (by omega) (by omega)
        rw [if_pos h4, if_pos h4, if_pos h5, if_pos h5, e1, e2]
      · rw [if_pos h4, if_pos h4, if_neg h5, if_neg h5, e1]
    · rw [if_neg h4, if_neg h4, if_neg (by omega), if_neg (by omega)]
/-- the steps inside the first part, and inside the second -/
def s1 (U : Tab) (R : Rul) (t : Nat) : List Nat := if 1 ≤ tq U t then (sl U R (ta U t)).map (fun u => co (ts U t) (u + 1) (pb U t)) else []
def s2 (U : Tab) (R : Rul) (t : Nat) : List Nat := if 2 ≤ tq U t then (sl U R (tb U t)).map (fun u => co (ts U t) (pa U t) (u + 1)) else []
theorem s1_t (h : 1 ≤ tq U t) : s1 U R t = (sl U R (ta U t)).map (fun u => co (ts U t) (u + 1) (pb U t)) := if_pos h
theorem s2_t (h : 2 ≤ tq U t) : s2 U R t = (sl U R (tb U t)).map (fun u => co (ts U t) (pa U t) (u + 1)) := if_pos h
theorem s1_f (h : ¬ 1 ≤ tq U t) : s1 U R t = [] := if_neg h
theorem s2_f (h : ¬ 2 ≤ tq U t) : s2 U R t = [] := if_neg h
theorem sl_eq (h : tOk U) (ht : t < tn U) : sl U R t = rts U R t (rn R) ++ (s1 U R t ++ s2 U R t) := by
  have h3 := h.2.2 t ht
  show rts U R t (rn R) ++ ((if 1 ≤ tq U t then (slF U R t (ta U t)).map (fun u => co (ts U t) (u + 1) (pb U t)) else []) ++ (if 2 ≤ tq U t then (slF U R t (tb U t)).map (fun u => co (ts U t) (pa U t) (u + 1)) else [])) = _
  by_cases h4 : 1 ≤ tq U t
  · have e1 := slF_eq (R := R) h t (ta U t + 1) (ta U t) (by omega) (by omega) (by omega)
    by_cases h5 : 2 ≤ tq U t
    · have e2 := slF_eq (R := R) h t (tb U t + 1) (tb U t) (by omega) (by omega) (by omega)
      rw [if_pos h4, if_pos h5, e1, e2, s1_t h4, s2_t h5]; rfl
    · rw [if_pos h4, if_neg h5, e1, s1_t h4, s2_f h5]; rfl
  · rw [if_neg h4, if_neg (by omega), s1_f h4, s2_f (by omega)]
theorem sl_mem (h : tOk U) (ht : t < tn U) {y : Nat} : y ∈ sl U R t ↔ (∃ i, i < rn R ∧ rl R i = t ∧ y = den U (rr R i)) ∨ (1 ≤ tq U t ∧ ∃ u, u ∈ sl U R (ta U t) ∧ y = co (ts U t) (u + 1) (pb U t)) ∨ (2 ≤ tq U t ∧ ∃ u, u ∈ sl U R (tb U t) ∧ y = co (ts U t) (pa U t) (u + 1)) := by
  rw [sl_eq h ht, List.mem_append, List.mem_append, rts_mem]
  have m1 : y ∈ s1 U R t ↔ (1 ≤ tq U t ∧ ∃ u, u ∈ sl U R (ta U t) ∧ y = co (ts U t) (u + 1) (pb U t)) := by
    by_cases q : 1 ≤ tq U t
    · rw [s1_t q, List.mem_map]
      exact ⟨fun ⟨u, h1, h2⟩ => ⟨q, u, h1, h2.symm⟩, fun ⟨_, u, h1, h2⟩ => ⟨u, h1, h2.symm⟩⟩
    · rw [s1_f q]
      exact ⟨fun k => absurd k List.not_mem_nil, fun k => absurd k.1 q⟩
  have m2 : y ∈ s2 U R t ↔ (2 ≤ tq U t ∧ ∃ u, u ∈ sl U R (tb U t) ∧ y = co (ts U t) (pa U t) (u + 1)) := by
    by_cases q : 2 ≤ tq U t
    · rw [s2_t q, List.mem_map]
      exact ⟨fun ⟨u, h1, h2⟩ => ⟨q, u, h1, h2.symm⟩, fun ⟨_, u, h1, h2⟩ => ⟨u, h1, h2.symm⟩⟩
    · rw [s2_f q]
      exact ⟨fun k => absurd k List.not_mem_nil, fun k => absurd k.1 q⟩
  rw [m1, m2]
theorem sl_len (h : tOk U) : ∀ {t : Nat}, t < tn U → min 1000000000 (sl U R t).length = wc U R t := by
  intro t
  induction t using Nat.strongRecOn with
  | _ t ih =>
    intro ht
    have h3 := h.2.2 t ht
    rw [wc_eq h ht, sl_eq h ht, List.length_append, List.length_append, rts_len]
    have el : lcN R t (rn R) = lc R t := rfl
    rw [el]
    by_cases h4 : 1 ≤ tq U t
    · have e1 := ih (ta U t) (by omega) (by omega)
      rw [if_pos h4, s1_t h4, List.length_map]
      by_cases h5 : 2 ≤ tq U t
      · have e2 := ih (tb U t) (by omega) (by omega)
        rw [if_pos h5, s2_t h5, List.length_map]
        omega
      · rw [if_neg h5, s2_f h5, List.length_nil]
        omega
    · rw [if_neg h4, if_neg (by omega), s1_f h4, s2_f (by omega), List.length_nil]
/-- nothing steps to itself -/
theorem sl_ne (o : rOk T R) (h : ext T U) : ∀ {t : Nat}, t < tn U → den U t ∉ sl U R t := by
  intro t
  induction t using Nat.strongRecOn with
  | _ t ih =>
    intro ht hm
    have h3 := h.1.2.2 t ht
    have hn := h.2.1
    rcases (sl_mem h.1 ht).mp hm with ⟨i, h1, h2, h4⟩ | ⟨q, u, h1, h2⟩ | ⟨q, u, h1, h2⟩
    · have oi := o.2 i h1
      have := den_inj h.1 ht (by omega) h4
      omega
    · rw [den_eq h.1 ht] at h2
      obtain ⟨-, h5, -⟩ := co_inj h2
      rw [pa_t q] at h5
      have h6 : den U (ta U t) = u := by omega
      exact ih _ (by omega) (by omega) (h6 ▸ h1)
    · rw [den_eq h.1 ht] at h2
      obtain ⟨-, -, h5⟩ := co_inj h2
      rw [pb_t q] at h5
      have h6 : den U (tb U t) = u := by omega
      exact ih _ (by omega) (by omega) (h6 ▸ h1)
theorem cnt_map {f : Nat → Nat} (hf : ∀ a b, f a = f b → a = b) (u : Nat) : ∀ l : List Nat, (l.map f).count (f u) = l.count u := by
  intro l
  induction l with
  | nil => rfl
  | cons a l ih =>
    rw [List.map_cons, List.count_cons, List.count_cons, ih]
    by_cases e : a = u
    · subst e; simp
    · have e2 : f a ≠ f u := fun k => e (hf _ _ k)
      simp [e, e2]
/-- how often one and the same term can come up -/
theorem sl_count (o : rOk T R) (h : ext T U) : ∀ {t : Nat}, t < tn U → ∀ y, (sl U R t).count y ≤ 8 * (t + 1) := by
  intro t
  induction t using Nat.strongRecOn with
  | _ t ih =>
    intro ht y
    have h3 := h.1.2.2 t ht
    have h8 := o.1
    rw [sl_eq h.1 ht, List.count_append, List.count_append]
    have c0 : (rts U R t (rn R)).count y ≤ 8 := by
      refine Nat.le_trans List.count_le_length ?_
      rw [rts_len]
      exact Nat.le_trans (lcN_le R t _) h8
    have c1 : (s1 U R t).count y = 0 ∨ (∃ u, u ∈ sl U R (ta U t) ∧ y = co (ts U t) (u + 1) (pb U t) ∧ 1 ≤ tq U t ∧ (s1 U R t).count y ≤ 8 * (ta U t + 1)) := by
      by_cases q : 1 ≤ tq U t
      · by_cases hy : y ∈ s1 U R t
        · rw [s1_t q, List.mem_map] at hy
          obtain ⟨u, hu, e⟩ := hy
          refine Or.inr ⟨u, hu, e.symm, q, ?_⟩
          rw [s1_t q, ← e, cnt_map (f := fun u => co (ts U t) (u + 1) (pb U t)) (fun a b k => by have := (co_inj k).2.1; omega) u]
          exact ih _ (by omega) (by omega) u
        · exact Or.inl (List.count_eq_zero_of_not_mem hy)
      · rw [s1_f q]; exact Or.inl rfl
    have c2 : (s2 U R t).count y = 0 ∨ (∃ u, u ∈ sl U R (tb U t) ∧ y = co (ts U t) (pa U t) (u + 1) ∧ 2 ≤ tq U t ∧ (s2 U R t).count y ≤ 8 * (tb U t + 1)) := by
      by_cases q : 2 ≤ tq U t
      · by_cases hy : y ∈ s2 U R t
        · rw [s2_t q, List.mem_map] at hy
          obtain ⟨u, hu, e⟩ := hy
          refine Or.inr ⟨u, hu, e.symm, q, ?_⟩
          rw [s2_t q, ← e, cnt_map (f := fun u => co (ts U t) (pa U t) (u + 1)) (fun a b k => by have := (co_inj k).2.2; omega) u]
          exact ih _ (by omega) (by omega) u
        · exact Or.inl (List.count_eq_zero_of_not_mem hy)
      · rw [s2_f q]; exact Or.inl rfl
    rcases c1 with c1 | ⟨u, u1, u2, u3, u4⟩
    · rcases c2 with c2 | ⟨v, v1, v2, v3, v4⟩
      · omega
      · omega
    · rcases c2 with c2 | ⟨v, v1, v2, v3, v4⟩
      · omega
      · -- both parts: then a part would step to itself
        rw [u2] at v2
        obtain ⟨-, e1, -⟩ := co_inj v2
        rw [pa_t u3] at e1
        have e2 : den U (ta U t) = u := by omega
        exact absurd (e2 ▸ u1) (sl_ne o h (by omega))
theorem len_split (p : Nat → Bool) : ∀ l : List Nat, l.length = l.countP p + (l.filter (fun y => !(p y))).length := by
  intro l
  induction l with
  | nil => rfl
  | cons a l ih =>
    rw [List.length_cons, List.countP_cons, List.filter_cons, ih]
    cases p a <;> simp <;> omega
/-- a long list of few, each not often -/
theorem len_bd (f : Nat → Nat) (B : Nat) : ∀ (n : Nat) (l : List Nat), (∀ y, y ∈ l → ∃ i, i < n ∧ y = f i) → (∀ y, l.count y ≤ B) → l.length ≤ n * B := by
  intro n
  induction n with
  | zero =>
    intro l h _
    cases l with
    | nil => simp
    | cons a l =>
      obtain ⟨i, hi, _⟩ := h a List.mem_cons_self
      omega
  | succ n ih =>
    intro l h hc
    have h1 : (l.filter (fun y => !(y == f n))).length ≤ n * B := by
      refine ih _ (fun y hy => ?_) (fun y => ?_)
      · rw [List.mem_filter] at hy
        obtain ⟨i, hi, ei⟩ := h y hy.1
        by_cases e2 : i = n
        · subst e2
          rw [ei] at hy
          simp at hy
        · exact ⟨i, by omega, ei⟩
      · exact Nat.le_trans (List.Sublist.count_le y List.filter_sublist) (hc y)
    have h2 : l.countP (fun y => y == f n) ≤ B := hc (f n)
    rw [Nat.succ_mul]
    have h4 : l.length = l.countP (fun y => y == f n) + (l.filter (fun y => !(y == f n))).length := len_split (fun y => y == f n) l
    omega
end
