/-! taking a term with its parts into the levels -/
theorem cN_add1 {p q : Nat → Prop} {n w : Nat} (hw : w < n) (hp : ¬ p w) (h : ∀ i, i < n → (q i ↔ p i ∨ i = w)) : cN q n = cN p n + 1 := by
  have h1 : cN p n < cN q n := cN_lt hp ((h w hw).mpr (Or.inr rfl)) n hw (fun k hk a => (h k hk).mpr (Or.inl a))
  have h2 := cN_rm (q := q) w n
  have h3 : cN (fun y => q y ∧ y ≠ w) n ≤ cN p n := cN_mono n (fun k hk a => by
    rcases (h k hk).mp a.1 with b | b
    · exact b
    · exact absurd b a.2)
  omega
/-- in the array at the places of the table -/
def ga (T : Tab) (g : Nat → Int32) (i : Nat) : Prop := ¬ g (ix (tn T) i) = nI 0
theorem ga_upd {T : Tab} (hn : tn T ≤ 48) {g : Nat → Int32} {w i : Nat} : ga T (upd g (ix (tn T) w) (nI 1)) i ↔ ga T g i ∨ i = w := by
  unfold ga
  by_cases e : i = w
  · subst e
    rw [upd_s rfl]
    exact ⟨fun _ => Or.inr rfl, fun _ => by decide⟩
  · rw [upd_n (fun k => e (ix_inj hn k))]
    exact ⟨Or.inl, fun k => k.elim id (fun k => absurd k e)⟩
/-- each part of what is among p is among q -/
def pcd (U : Tab) (p q : Nat → Prop) : Prop := ∀ i, i < tn U → p i → (1 ≤ tq U i → q (ta U i)) ∧ (2 ≤ tq U i → q (tb U i))
section
variable {T U : Tab} {R : Rul} {mo : Mo}
theorem s_take {Q : Mo → Prop} {u l : Nat} {X : Nat → Prop} (hX : sX T U R mo) (hu : u < tn U) (hXp : ∀ x z, X x → prt x z → X z) (hXu : X (den U u)) (h1 : pcd U (ga T (Mo_marked mo)) (ga T (Mo_marked mo))) (h2 : ∀ i, i < tn U → ga T (Mo_marked mo) i → X (den U i)) (h3 : Mo_different mo = nI (cN (ga T (Mo_marked mo)) (tn U))) (hQ : ∀ m mk, fr mo m (Mo_symbol mo) (Mo_one mo) (Mo_two mo) (Mo_stored mo) (nI (cN (ga T mk) (tn U))) mk (upd (Mo_came mo) (ix (tn T) u) (nI 1)) (upd (Mo_level mo) (ix (tn T) u) (nI l)) (Mo_many mo) → pcd U (ga T mk) (ga T mk) → (∀ i, i < tn U → ga T mk i → X (den U i)) → (∀ i, i < tn U → ga T (Mo_marked mo) i → ga T mk i) → ga T mk u → Q m) : p_Mo_take (nI (ix (tn T) u)) (nI l) mo Q := by
  obtain ⟨⟨hM, hE, hb, c1, c2, c3⟩, hst, hmn⟩ := hX
  have hn := hM.2.1
  have o := hE.1
  have hnE := hE.2.1
  have bu := ix_bd (n := tn T) hu
  have cl := cN_le (ga T (Mo_marked mo)) (tn U)
  unfold p_Mo_take
  try simp (disch := omega) only [↓mI_e, litI, cLeT, cLeF, cLtT, cLtF, cEqF, cEqT, mE1, mE2, mL1, mL2, mL3, mL4, cIn, nI_clamp, nI_add, cMul, cSub, cM1, nar0, nar1, true_implies, false_implies, not_true_eq_false, not_false_eq_true, true_and, and_true]
  intro m1 e1
  have w1 := (fr.rf mo).cm e1
  clear e1
  intro m2 e2
  have w2 := w1.lv e2
  clear e2
  intro m3 e3
  obtain ⟨w3, op3⟩ := w2.op e3
  clear e3
  rw [w1.2.2.2.2.2.2.2.2.2.2.2.2.2.1] at w3
  refine loop_m (fun f (y : Int32 × Mo) => p_Mo_take_26 (nI (ix (tn T) u)) (nI l) Q f y.1 y.2) (fun y => ∃ k mk, ∃ S : Nat → Nat, y.1 = nI k ∧ k ≤ 1 + cN (ga T mk) (tn U) ∧ fr mo y.2 (Mo_symbol mo) (Mo_one mo) (Mo_two mo) (Mo_stored mo) (nI (cN (ga T mk) (tn U))) mk (upd (Mo_came mo) (ix (tn T) u) (nI 1)) (upd (Mo_level mo) (ix (tn T) u) (nI l)) (Mo_many mo) ∧ (∀ q, q < k → S q < tn U ∧ Mo_open y.2 q = nI (ix (tn T) (S q)) ∧ X (den U (S q))) ∧ pcd U (ga T mk) (fun i => ga T mk i ∨ ∃ q, q < k ∧ S q = i) ∧ (∀ i, i < tn U → ga T mk i → X (den U i)) ∧ (∀ i, i < tn U → ga T (Mo_marked mo) i → ga T mk i) ∧ (ga T mk u ∨ ∃ q, q < k ∧ S q = u)) (fun y => y.1.toNatClampNeg + 3 * (521 - (Mo_different y.2).toNatClampNeg)) ?_ (nI (0 + 1), m3) ⟨1, Mo_marked mo, fun _ => u, rfl, by omega, by rw [← h3]; exact w3, fun q hq => ⟨hu, ?_, hXu⟩, fun i hi a => ⟨fun b => Or.inl ((h1 i hi a).1 b), fun b => Or.inl ((h1 i hi a).2 b)⟩, h2, fun i _ a => a, Or.inr ⟨0, by omega, rfl⟩⟩
  · rintro f ⟨y1, m⟩ ⟨k, mk, S, e1, hk, w, hS, hp, hs, hi, hh⟩ ih
    dsimp only at e1 w hS ih ⊢
    subst e1
    have cl2 := cN_le (ga T mk) (tn U)
    have wd := w.2.2.2.2.2.2.2.2.2.2.1
    have wm := w.2.2.2.2.2.2.2.2.2.2.2.1
    have wo1 := w.2.2.2.2.2.2.2.1
    have wo2 := w.2.2.2.2.2.2.2.2.1
    unfold p_Mo_take_26
    by_cases hk0 : k = 0
    · subst hk0
      try simp (disch := omega) only [↓mI_e, litI, cLeT, cLeF, cLtT, cLtF, cEqF, cEqT, mE1, mE2, mL1, mL2, mL3, mL4, cIn, nI_clamp, nI_add, cMul, cSub, cM1, nar0, nar1, true_implies, false_implies, not_true_eq_false, not_false_eq_true, true_and, and_true]
      refine hQ m mk w (fun i hi a => ⟨fun b => ?_, fun b => ?_⟩) hs hi ?_
      · rcases (hp i hi a).1 b with c | ⟨q, hq, _⟩
        · exact c
        · omega
      · rcases (hp i hi a).2 b with c | ⟨q, hq, _⟩
        · exact c
        · omega
      · rcases hh with c | ⟨q, hq, _⟩
        · exact c
        · omega
    · obtain ⟨k, rfl⟩ : ∃ j, k = j + 1 := ⟨k - 1, by omega⟩
      obtain ⟨s1, s2, s3⟩ := hS k (by omega)
      have bs := ix_bd (n := tn T) s1
      try simp (disch := omega) only [↓mI_e, litI, cLeT, cLeF, cLtT, cLtF, cEqF, cEqT, mE1, mE2, mL1, mL2, mL3, mL4, cIn, nI_clamp, nI_add, cMul, cSub, cM1, nar0, nar1, true_implies, false_implies, not_true_eq_false, not_false_eq_true, true_and, and_true]
      rw [show k + 1 - 1 = k from rfl, s2]
      try simp (disch := omega) only [↓mI_e, litI, cLeT, cLeF, cLtT, cLtF, cEqF, cEqT, mE1, mE2, mL1, mL2, mL3, mL4, cIn, nI_clamp, nI_add, cMul, cSub, cM1, nar0, nar1, true_implies, false_implies, not_true_eq_false, not_false_eq_true, true_and, and_true]
      rw [wm]
      refine ⟨fun ym => ?_, fun ym => ?_⟩
      · -- marked before
        refine ih (nI k, m) ⟨k, mk, S, rfl, by omega, w, fun q hq => hS q (by omega), fun i hi' a => ⟨fun b => ?_, fun b => ?_⟩, hs, hi, ?_⟩ ?_
        · rcases (hp i hi' a).1 b with c | ⟨q, hq, e⟩
          · exact Or.inl c
          · by_cases eq : q = k
            · subst eq; rw [← e]; exact Or.inl ym
            · exact Or.inr ⟨q, by omega, e⟩
        · rcases (hp i hi' a).2 b with c | ⟨q, hq, e⟩
          · exact Or.inl c
          · by_cases eq : q = k
            · subst eq; rw [← e]; exact Or.inl ym
            · exact Or.inr ⟨q, by omega, e⟩
        · rcases hh with c | ⟨q, hq, e⟩
          · exact Or.inl c
          · by_cases eq : q = k
            · subst eq; rw [← e]; exact Or.inl ym
            · exact Or.inr ⟨q, by omega, e⟩
        · dsimp only
          rw [nI_clamp (by omega), nI_clamp (by omega), wd]
          omega
      · -- marked now
        have nw : ¬ ga T mk (S k) := fun q => q ym
        have ca : cN (ga T (upd mk (ix (tn T) (S k)) (nI 1))) (tn U) = cN (ga T mk) (tn U) + 1 := cN_add1 s1 nw (fun i _ => ga_upd hn)
        have cl3 := cN_le (ga T (upd mk (ix (tn T) (S k)) (nI 1))) (tn U)
        have hSk := o.2.2 (S k) s1
        intro m4 e4
        have o4 : Mo_open m4 = Mo_open m := by subst e4; rfl
        have w4 := w.mk e4
        clear e4
        intro m5 e5
        have o5 : Mo_open m5 = Mo_open m := by subst e5; exact o4
        have w5 := w4.df e5
        clear e5
        rw [w4.2.2.2.2.2.2.2.2.2.2.1, nI_add, ← ca] at w5
        have fin : ∀ (k' : Nat) (m6 : Mo) (S' : Nat → Nat), k' ≤ k + 2 → k ≤ k' → fr mo m6 (Mo_symbol mo) (Mo_one mo) (Mo_two mo) (Mo_stored mo) (nI (cN (ga T (upd mk (ix (tn T) (S k)) (nI 1))) (tn U))) (upd mk (ix (tn T) (S k)) (nI 1)) (upd (Mo_came mo) (ix (tn T) u) (nI 1)) (upd (Mo_level mo) (ix (tn T) u) (nI l)) (Mo_many mo) → (∀ q, q < k' → S' q < tn U ∧ Mo_open m6 q = nI (ix (tn T) (S' q)) ∧ X (den U (S' q))) → (∀ q, q < k → S' q = S q) → (1 ≤ tq U (S k) → ∃ q, q < k' ∧ S' q = ta U (S k)) → (2 ≤ tq U (S k) → ∃ q, q < k' ∧ S' q = tb U (S k)) → p_Mo_take_26 (nI (ix (tn T) u)) (nI l) Q f (nI k') m6 := by
          intro k' m6 S' a1 a2 w6 b1 b2 b3 b4
          have old : ∀ i, (ga T mk i ∨ ∃ q, q < k + 1 ∧ S q = i) → (ga T (upd mk (ix (tn T) (S k)) (nI 1)) i ∨ ∃ q, q < k' ∧ S' q = i) := by
            rintro i (c | ⟨q, hq, e⟩)
            · exact Or.inl ((ga_upd hn).mpr (Or.inl c))
            · by_cases eq : q = k
              · subst eq; exact Or.inl ((ga_upd hn).mpr (Or.inr e.symm))
              · exact Or.inr ⟨q, by omega, by rw [b2 q (by omega)]; exact e⟩
          refine ih (nI k', m6) ⟨k', _, S', rfl, by omega, w6, b1, fun i hi' c => ?_, fun i hi' c => ?_, fun i hi' c => (ga_upd hn).mpr (Or.inl (hi i hi' c)), old u hh⟩ ?_
          · rcases (ga_upd hn).mp c with c | c
            · exact ⟨fun b => old _ ((hp i hi' c).1 b), fun b => old _ ((hp i hi' c).2 b)⟩
            · subst c
              exact ⟨fun b => Or.inr (b3 b), fun b => Or.inr (b4 b)⟩
          · rcases (ga_upd hn).mp c with c | c
            · exact hs i hi' c
            · subst c; exact s3
          · dsimp only
            rw [nI_clamp (by omega), nI_clamp (by omega), w6.2.2.2.2.2.2.2.2.2.2.1, wd, nI_clamp (by omega), nI_clamp (by omega)]
            omega
        have wo := w5.2.2.2.2.2.2.2.1
        rw [wo, c2 _ s1]
        unfold p_Mo_take_95
        by_cases q1 : 1 ≤ tq U (S k)
        · have xa : X (den U (ta U (S k))) := hXp _ _ s3 ((prt_den o s1).mpr (Or.inl ⟨q1, rfl⟩))
          have ba := ix_bd (n := tn T) (show ta U (S k) < tn U by omega)
          try simp (disch := omega) only [↓mI_e, litI, cLeT, cLeF, cLtT, cLtF, cEqF, cEqT, mE1, mE2, mL1, mL2, mL3, mL4, cIn, nI_clamp, nI_add, cMul, cSub, cM1, nar0, nar1, true_implies, false_implies, not_true_eq_false, not_false_eq_true, true_and, and_true, pcNf]
          rw [pc_n q1]
          try simp (disch := omega) only [↓mI_e, litI, cLeT, cLeF, cLtT, cLtF, cEqF, cEqT, mE1, mE2, mL1, mL2, mL3, mL4, cIn, nI_clamp, nI_add, cMul, cSub, cM1, nar0, nar1, true_implies, false_implies, not_true_eq_false, not_false_eq_true, true_and, and_true]
          intro m6 e6
          obtain ⟨w6, o6⟩ := w5.op e6
          clear e6
          rw [w6.2.2.2.2.2.2.2.2.1, c3 _ s1]
          by_cases q2 : 2 ≤ tq U (S k)
          · have xb : X (den U (tb U (S k))) := hXp _ _ s3 ((prt_den o s1).mpr (Or.inr ⟨q2, rfl⟩))
            have bb := ix_bd (n := tn T) (show tb U (S k) < tn U by omega)
            try simp (disch := omega) only [↓mI_e, litI, cLeT, cLeF, cLtT, cLtF, cEqF, cEqT, mE1, mE2, mL1, mL2, mL3, mL4, cIn, nI_clamp, nI_add, cMul, cSub, cM1, nar0, nar1, true_implies, false_implies, not_true_eq_false, not_false_eq_true, true_and, and_true, pcNf]
            rw [pc_n q2]
            try simp (disch := omega) only [↓mI_e, litI, cLeT, cLeF, cLtT, cLtF, cEqF, cEqT, mE1, mE2, mL1, mL2, mL3, mL4, cIn, nI_clamp, nI_add, cMul, cSub, cM1, nar0, nar1, true_implies, false_implies, not_true_eq_false, not_false_eq_true, true_and, and_true]
            intro m7 e7
            obtain ⟨w7, o7⟩ := w6.op e7
            clear e7
            refine fin (k + 1 + 1) m7 (fun q => if q = k then ta U (S k) else if q = k + 1 then tb U (S k) else S q) (by omega) (by omega) w7 (fun q hq => ?_) (fun q hq => ?_) (fun _ => ⟨k, by omega, if_pos rfl⟩) (fun _ => ⟨k + 1, by omega, (if_neg (by omega)).trans (if_pos rfl)⟩)
            · rw [o7, o6, o5]
              by_cases x1 : q = k
              · rw [if_pos x1, upd_n (by omega), upd_s x1]
                exact ⟨by omega, rfl, xa⟩
              · by_cases x2 : q = k + 1
                · rw [if_neg x1, if_pos x2, upd_s x2]
                  exact ⟨by omega, rfl, xb⟩
                · rw [if_neg x1, if_neg x2, upd_n x2, upd_n x1]
                  exact hS q (by omega)
            · rw [if_neg (by omega), if_neg (by omega)]
          · try simp (disch := omega) only [↓mI_e, litI, cLeT, cLeF, cLtT, cLtF, cEqF, cEqT, mE1, mE2, mL1, mL2, mL3, mL4, cIn, nI_clamp, nI_add, cMul, cSub, cM1, nar0, nar1, true_implies, false_implies, not_true_eq_false, not_false_eq_true, true_and, and_true, pcNt]
            refine fin (k + 1) m6 (fun q => if q = k then ta U (S k) else S q) (by omega) (by omega) w6 (fun q hq => ?_) (fun q hq => ?_) (fun _ => ⟨k, by omega, if_pos rfl⟩) (fun b => absurd b q2)
            · rw [o6, o5]
              by_cases x1 : q = k
              · rw [if_pos x1, upd_s x1]
                exact ⟨by omega, rfl, xa⟩
              · rw [if_neg x1, upd_n x1]
                exact hS q (by omega)
            · rw [if_neg (by omega)]
        · try simp (disch := omega) only [↓mI_e, litI, cLeT, cLeF, cLtT, cLtF, cEqF, cEqT, mE1, mE2, mL1, mL2, mL3, mL4, cIn, nI_clamp, nI_add, cMul, cSub, cM1, nar0, nar1, true_implies, false_implies, not_true_eq_false, not_false_eq_true, true_and, and_true, pcNt]
          rw [w5.2.2.2.2.2.2.2.2.1, c3 _ s1]
          try simp (disch := omega) only [↓mI_e, litI, cLeT, cLeF, cLtT, cLtF, cEqF, cEqT, mE1, mE2, mL1, mL2, mL3, mL4, cIn, nI_clamp, nI_add, cMul, cSub, cM1, nar0, nar1, true_implies, false_implies, not_true_eq_false, not_false_eq_true, true_and, and_true, pcNt]
          refine fin k m5 S (by omega) (by omega) w5 (fun q hq => ?_) (fun q hq => rfl) (fun b => absurd b q1) (fun b => by omega)
          rw [o5]
          exact hS q (by omega)
  · rw [op3]
    exact upd_s (by omega)
end
