/-! states of terms, as the class finds them -/
def sS (la : Nat → Int32) (t q : Nat) : Prop := bi (la t) q
def incS (n : Nat) (a b : Nat → Int32) : Prop := ∀ t q, t < n → sS a t q → sS b t q
theorem incS.rf (n : Nat) (a : Nat → Int32) : incS n a a := fun _ _ _ h => h
theorem incS.tr {n : Nat} {a b c : Nat → Int32} (h : incS n a b) (h' : incS n b c) : incS n a c := fun t q ht h1 => h' t q ht (h t q ht h1)
def prsS (n : Nat) (la : Nat → Int32) (k : Nat) : Prop := k / 6 < n ∧ sS la (k / 6) (k % 6)
theorem prsS_lt {n : Nat} {a b : Nat → Int32} (hn : n ≤ 48) (h : incS n a b) {t q : Nat} (ht : t < n) (hq : q < 6) (h1 : ¬ sS a t q) (h2 : sS b t q) : cN (prsS n a) 288 < cN (prsS n b) 288 := by
  have e1 : (6 * t + q) / 6 = t := by omega
  have e2 : (6 * t + q) % 6 = q := by omega
  refine cN_lt (j := 6 * t + q) ?_ ?_ 288 (by omega) (fun k _ hk => ⟨hk.1, h _ _ hk.1 hk.2⟩)
  · intro hk
    unfold prsS at hk
    rw [e1, e2] at hk
    exact h1 hk.2
  · unfold prsS
    rw [e1, e2]
    exact ⟨ht, h2⟩
theorem prsS_le {n : Nat} {a b : Nat → Int32} (h : incS n a b) : cN (prsS n a) 288 ≤ cN (prsS n b) 288 := cN_mono _ (fun k _ hk => ⟨hk.1, h _ _ hk.1 hk.2⟩)
theorem upd_self (g : Nat → Int32) (u : Nat) : upd g u (g u) = g := by
  funext k
  by_cases e : k = u
  · rw [upd_s e, e]
  · rw [upd_n e]
section
variable {T : Tab} {R : Rul} {A : Aut} {F : Nat} {te : Te} {au : Au} {re : Re}
theorem s_targets {s : Nat} {x2 x3 : Int32} {Q : Int32 → Prop} (ho : aOk T A) (ha : aAu A F au) (hs : s < 6) (hQ : ∀ r, (∀ q, bi r q ↔ ∃ e, e < an A ∧ as' A e = s ∧ bi x2 (a1' A e) ∧ bi x3 (a2' A e) ∧ at' A e = q) → Q r) : p_Au_targetsOf (nI s) x2 x3 au Q := by
  have h20 := ho.1
  obtain ⟨c0, c1, c2, c3, c4, -⟩ := ha
  unfold p_Au_targetsOf
  refine forN (fun f i x => p_Au_targetsOf_6 (nI s) x2 x3 au Q f x i) (fun i x => ∀ q, bi x q ↔ ∃ e, e < i ∧ as' A e = s ∧ bi x2 (a1' A e) ∧ bi x3 (a2' A e) ∧ at' A e = q) (an A) 0 _ (by omega) (fun q => ⟨fun h => absurd h (bi_0 q), fun ⟨e, he, _⟩ => by omega⟩) ?_ ?_
  · intro f x hx
    unfold p_Au_targetsOf_6
    rw [c0]
    simp (disch := omega) only [↓mI_e, litI, cLeT, cLeF, cLtT, cLtF, cEqF, cEqT, mE1, mE2, mL1, mL2, mL3, mL4, cIn, nI_clamp, nI_add, cMul, cSub, cM1, nar0, nar1, true_implies, false_implies, not_true_eq_false, not_false_eq_true, true_and, and_true]
    exact hQ x hx
  · intro f i x hi hx ih
    have oi := ho.2 i hi
    unfold p_Au_targetsOf_6
    rw [c0]
    simp (disch := omega) only [↓mI_e, litI, cLeT, cLeF, cLtT, cLtF, cEqF, cEqT, mE1, mE2, mL1, mL2, mL3, mL4, cIn, nI_clamp, nI_add, cMul, cSub, cM1, nar0, nar1, true_implies, false_implies, not_true_eq_false, not_false_eq_true, true_and, and_true]
    rw [c1 i hi, c2 i hi, c3 i hi, c4 i hi]
    rw [bi_shr (by omega), bi_shr (by omega)]
    have skip : ¬ (as' A i = s ∧ bi x2 (a1' A i) ∧ bi x3 (a2' A i)) → p_Au_targetsOf_6 (nI s) x2 x3 au Q f x (nI (i + 1)) := by
      intro no
      refine ih x (fun q => ?_)
      rw [hx q]
      refine ⟨fun ⟨e, he, k⟩ => ⟨e, by omega, k⟩, fun ⟨e, he, k⟩ => ?_⟩
      by_cases e9 : e = i
      · subst e9; exact absurd ⟨k.1, k.2.1, k.2.2.1⟩ no
      · exact ⟨e, by omega, k⟩
    by_cases e1 : as' A i = s
    · simp (disch := omega) only [↓mI_e, litI, cLeT, cLeF, cLtT, cLtF, cEqF, cEqT, mE1, mE2, mL1, mL2, mL3, mL4, cIn, nI_clamp, nI_add, cMul, cSub, cM1, nar0, nar1, true_implies, false_implies, not_true_eq_false, not_false_eq_true, true_and, and_true]
      refine ⟨fun k => skip (fun z => k z.2.1), fun k => ⟨fun k2 => skip (fun z => k2 z.2.2), fun k2 => ih _ (fun q => ?_)⟩⟩
      have k := Classical.not_not.mp k
      have k2 := Classical.not_not.mp k2
      rw [bi_or, bi_shl (by omega), hx q]
      constructor
      · rintro (⟨e, he, z⟩ | z)
        · exact ⟨e, by omega, z⟩
        · exact ⟨i, by omega, e1, k, k2, z.symm⟩
      · rintro ⟨e, he, z⟩
        by_cases e9 : e = i
        · subst e9; exact Or.inr z.2.2.2.symm
        · exact Or.inl ⟨e, by omega, z⟩
    · simp (disch := omega) only [↓mI_e, litI, cLeT, cLeF, cLtT, cLtF, cEqF, cEqT, mE1, mE2, mL1, mL2, mL3, mL4, cIn, nI_clamp, nI_add, cMul, cSub, cM1, nar0, nar1, true_implies, false_implies, not_true_eq_false, not_false_eq_true, true_and, and_true]
      exact skip (fun z => e1 z.1)
theorem s_fillS {la : Nat → Int32} {Q : La → Prop} (hQ : ∀ la' : Nat → Int32, (∀ t, t < 48 → la' t = nI 0) → Q la') : p_Ar_fillI_states (nI 0) la Q := by
  unfold p_Ar_fillI_states
  refine forN (fun f i (l : Nat → Int32) => p_Ar_fillI_states_5 (nI 0) Q f i (48 : Int32) l) (fun i l => ∀ t, t < i → l t = nI 0) 48 0 la (by omega) (fun t ht => by omega) ?_ ?_
  · intro f l hl
    unfold p_Ar_fillI_states_5
    simp (disch := omega) only [↓mI_e, litI, cLeT, cLeF, cLtT, cLtF, cEqF, cEqT, mE1, mE2, mL1, mL2, mL3, mL4, cIn, nI_clamp, nI_add, cMul, cSub, cM1, nar0, nar1, true_implies, false_implies, not_true_eq_false, not_false_eq_true, true_and, and_true]
    exact hQ l hl
  · intro f i l hi hl ih
    unfold p_Ar_fillI_states_5
    simp (disch := omega) only [↓mI_e, litI, cLeT, cLeF, cLtT, cLtF, cEqF, cEqT, mE1, mE2, mL1, mL2, mL3, mL4, cIn, nI_clamp, nI_add, cMul, cSub, cM1, nar0, nar1, true_implies, false_implies, not_true_eq_false, not_false_eq_true, true_and, and_true]
    refine nm_e (ih _ (fun t ht => ?_))
    show upd l i (nI 0) t = nI 0
    by_cases e : t = i
    · exact upd_s e
    · rw [upd_n e]; exact hl t (by omega)
/-- adding states to a term -/
theorem s_addS {t : Nat} {x : Int32} {la : Nat → Int32} {Q : Int32 → La → Prop} (ht : t < 48) (h0 : (∀ q, bi x q → bi (la t) q) → Q (nI 0) la) (h1 : ∀ la' : Nat → Int32, (∀ u q, sS la' u q ↔ sS la u q ∨ (u = t ∧ bi x q)) → (∀ u, u ≠ t → la' u = la u) → (∃ q, bi x q ∧ ¬ bi (la t) q) → Q (nI 1) la') : p_La_addStates (nI t) x la Q := by
  unfold p_La_addStates p_La_addStates_24
  rw [nI_clamp (by omega)]
  show vp_in (nI t) 48 ∧ vp_in (nI t) 48 ∧ ((la t ||| x = la t → vp_in (nI t) 48 ∧ ∀ la32 : La, la32 = upd la t (la t ||| x) → isB 0 ∧ Q 0 la32) ∧ (¬ la t ||| x = la t → vp_in (nI t) 48 ∧ ∀ la32 : La, la32 = upd la t (la t ||| x) → isB 1 ∧ Q 1 la32))
  simp (disch := omega) only [↓mI_e, litI, cLeT, cLeF, cLtT, cLtF, cEqF, cEqT, mE1, mE2, mL1, mL2, mL3, mL4, cIn, nI_clamp, nI_add, cMul, cSub, cM1, nar0, nar1, true_implies, false_implies, not_true_eq_false, not_false_eq_true, true_and, and_true]
  refine ⟨fun e => nm_e ⟨Or.inl rfl, ?_⟩, fun e => nm_e ⟨Or.inr rfl, h1 _ (fun u q => ?_) (fun u hu => upd_n hu) ?_⟩⟩
  · rw [e, upd_self]
    exact h0 (fun q hq => by rw [← e, bi_or]; exact Or.inr hq)
  · unfold sS
    by_cases eu : u = t
    · rw [upd_s eu, bi_or, eu]
      exact ⟨fun z => z.imp id (fun z => ⟨rfl, z⟩), fun z => z.imp id (fun z => z.2)⟩
    · rw [upd_n eu]
      exact ⟨Or.inl, fun z => z.elim id (fun z => absurd z.1 eu)⟩
  · refine Classical.byContradiction (fun no => e (bi_ext (fun q _ => ?_)))
    rw [bi_or]
    refine ⟨fun z => z.elim id (fun z => ?_), Or.inl⟩
    exact Classical.byContradiction (fun no2 => no ⟨q, z, no2⟩)
theorem st6 (how : Nat) {t q : Nat} (h : Stt T R A how t q) : q < 6 := h.2.1
/-- one passage over the terms -/
theorem s_run {how : Nat} {la : Nat → Int32} {Q : Int32 → La → Prop} (hT : tTe T te) (hn : tn T ≤ 48) (ho : aOk T A) (ha : aAu A F au) (hS : ∀ t q, t < tn T → sS la t q → Stt T R A how t q) (hQ : ∀ x (la' : Nat → Int32), incS (tn T) la la' → (∀ t q, t < tn T → sS la' t q → Stt T R A how t q) → (∀ e t, e < an A → t < tn T → byE T A (sS la') t e → sS la' t (at' A e)) → ((x = nI 0 ∧ la' = la) ∨ (x = nI 1 ∧ ∃ t q, t < tn T ∧ q < 6 ∧ ¬ sS la t q ∧ sS la' t q)) → Q x la') : p_La_runFromParts te au la Q := by
  have o := hT.1
  unfold p_La_runFromParts
  refine forN (fun f i (s : Int32 × (Nat → Int32)) => p_La_runFromParts_4 te au Q f s.1 i s.2) (fun i s => incS (tn T) la s.2 ∧ (∀ t q, t < tn T → sS s.2 t q → Stt T R A how t q) ∧ (∀ e t, e < an A → t < i → byE T A (sS s.2) t e → sS s.2 t (at' A e)) ∧ ((s.1 = nI 0 ∧ s.2 = la) ∨ (s.1 = nI 1 ∧ ∃ t q, t < tn T ∧ q < 6 ∧ ¬ sS la t q ∧ sS s.2 t q))) (tn T) 0 (0, la) (by omega) ⟨incS.rf _ _, hS, fun e t _ ht => by omega, Or.inl ⟨rfl, rfl⟩⟩ ?_ ?_
  · rintro f ⟨x, l⟩ ⟨h1, h2, h3, h4⟩
    dsimp only at h1 h2 h3 h4 ⊢
    unfold p_La_runFromParts_4 p_Te_count
    rw [hT.2.2.1]
    simp (disch := omega) only [↓mI_e, litI, cLeT, cLeF, cLtT, cLtF, cEqF, cEqT, mE1, mE2, mL1, mL2, mL3, mL4, cIn, nI_clamp, nI_add, cMul, cSub, cM1, nar0, nar1, true_implies, false_implies, not_true_eq_false, not_false_eq_true, true_and, and_true]
    refine ⟨?_, hQ x l h1 h2 h3 h4⟩
    rcases h4 with h4 | h4
    · exact Or.inl h4.1
    · exact Or.inr h4.1
  · rintro f i ⟨x, l⟩ hi ⟨h1, h2, h3, h4⟩ ih
    dsimp only at h1 h2 h3 h4 ⊢
    have oi := o.2.2 i hi
    have q2 : tq T i ≤ 2 := o.2.1 _
    have x01 : ∃ a, a < 2 ∧ x = nI a := by
      rcases h4 with h4 | h4
      · exact ⟨0, by omega, h4.1⟩
      · exact ⟨1, by omega, h4.1⟩
    obtain ⟨a, ha2, rfl⟩ := x01
    have k84 : ∀ y1 y2, (∀ e, e < an A → as' A e = ts T i → (bi y1 (a1' A e) ↔ (1 ≤ tq T i → sS l (ta T i) (a1' A e)))) → (∀ e, e < an A → as' A e = ts T i → (bi y2 (a2' A e) ↔ (2 ≤ tq T i → sS l (tb T i) (a2' A e)))) → p_La_runFromParts_84 te au Q (fun a0 a1 a2 => p_La_runFromParts_4 te au Q f a0 a1 a2) (nI a) (nI i) (nI (ts T i)) y1 y2 l := by
      intro y1 y2 hy1 hy2
      unfold p_La_runFromParts_84
      refine s_targets ho ha oi.1 (fun r hr => ?_)
      have hr2 : ∀ q, bi r q ↔ ∃ e, e < an A ∧ byE T A (sS l) i e ∧ at' A e = q := by
        intro q
        rw [hr q]
        constructor
        · rintro ⟨e, he, z1, z2, z3, z4⟩
          exact ⟨e, he, ⟨z1, (hy1 e he z1).mp z2, (hy2 e he z1).mp z3⟩, z4⟩
        · rintro ⟨e, he, z1, z4⟩
          exact ⟨e, he, z1.1, (hy1 e he z1.1).mpr z1.2.1, (hy2 e he z1.1).mpr z1.2.2, z4⟩
      have snd : ∀ q, bi r q → Stt T R A how i q := by
        intro q hq
        obtain ⟨e, he, z1, z4⟩ := (hr2 q).mp hq
        subst z4
        exact Stt.ed ho he hi ⟨z1.1, fun h => h2 _ _ (by omega) (z1.2.1 h), fun h => h2 _ _ (by omega) (z1.2.2 h)⟩
      refine s_addS (by omega) (fun h0 => ?_) (fun l' e1 e2 e3 => ?_)
      · rw [or01 a ha2 0 (by omega)]
        simp (disch := omega) only [↓mI_e, litI, cLeT, cLeF, cLtT, cLtF, cEqF, cEqT, mE1, mE2, mL1, mL2, mL3, mL4, cIn, nI_clamp, nI_add, cMul, cSub, cM1, nar0, nar1, true_implies, false_implies, not_true_eq_false, not_false_eq_true, true_and, and_true]
        refine ih (nI (if a = 1 ∨ 0 = 1 then 1 else 0), l) ⟨h1, h2, fun e t he ht b => ?_, ?_⟩
        · by_cases et : t = i
          · subst et; exact h0 _ ((hr2 _).mpr ⟨e, he, b, rfl⟩)
          · exact h3 e t he (by omega) b
        · rcases h4 with ⟨z1, z2⟩ | ⟨z1, z2⟩
          · have ea : a = 0 := (nI_eq (by omega) (by omega)).mp z1
            subst ea
            exact Or.inl ⟨rfl, z2⟩
          · have ea : a = 1 := (nI_eq (by omega) (by omega)).mp z1
            subst ea
            exact Or.inr ⟨rfl, z2⟩
      · rw [or01 a ha2 1 (by omega), if_pos (Or.inr rfl)]
        simp (disch := omega) only [↓mI_e, litI, cLeT, cLeF, cLtT, cLtF, cEqF, cEqT, mE1, mE2, mL1, mL2, mL3, mL4, cIn, nI_clamp, nI_add, cMul, cSub, cM1, nar0, nar1, true_implies, false_implies, not_true_eq_false, not_false_eq_true, true_and, and_true]
        refine ih (nI 1, l') ⟨fun t q ht z => (e1 t q).mpr (Or.inl (h1 t q ht z)), fun t q ht z => ?_, fun e t he ht b => ?_, Or.inr ⟨rfl, ?_⟩⟩
        · rcases (e1 t q).mp z with z | ⟨z1, z2⟩
          · exact h2 t q ht z
          · subst z1; exact snd q z2
        · have ot := o.2.2 t (by omega)
          have b2 : byE T A (sS l) t e := by
            refine ⟨b.1, fun h => ?_, fun h => ?_⟩
            · have := b.2.1 h
              unfold sS at this ⊢
              dsimp only at this
              rw [e2 _ (by omega)] at this
              exact this
            · have := b.2.2 h
              unfold sS at this ⊢
              dsimp only at this
              rw [e2 _ (by omega)] at this
              exact this
          by_cases et : t = i
          · subst et
            exact (e1 _ _).mpr (Or.inr ⟨rfl, (hr2 _).mpr ⟨e, he, b2, rfl⟩⟩)
          · exact (e1 _ _).mpr (Or.inl (h3 e t he (by omega) b2))
        · obtain ⟨q, z1, z2⟩ := e3
          exact ⟨i, q, hi, st6 how (snd q z1), fun z => z2 (h1 i q hi z), (e1 i q).mpr (Or.inr ⟨rfl, z1⟩)⟩
    have k58 : ∀ y1, (∀ e, e < an A → as' A e = ts T i → (bi y1 (a1' A e) ↔ (1 ≤ tq T i → sS l (ta T i) (a1' A e)))) → p_La_runFromParts_58 te au Q (fun a0 a1 a2 => p_La_runFromParts_4 te au Q f a0 a1 a2) (nI a) (nI i) (nI (ts T i)) (nI (tq T i)) y1 l := by
      intro y1 hy1
      unfold p_La_runFromParts_58
      by_cases h : 2 ≤ tq T i
      · simp (disch := omega) only [↓mI_e, litI, cLeT, cLeF, cLtT, cLtF, cEqF, cEqT, mE1, mE2, mL1, mL2, mL3, mL4, cIn, nI_clamp, nI_add, cMul, cSub, cM1, nar0, nar1, true_implies, false_implies, not_true_eq_false, not_false_eq_true, true_and, and_true, second_t hT]
        rw [pc_n h]
        simp (disch := omega) only [↓mI_e, litI, cLeT, cLeF, cLtT, cLtF, cEqF, cEqT, mE1, mE2, mL1, mL2, mL3, mL4, cIn, nI_clamp, nI_add, cMul, cSub, cM1, nar0, nar1, true_implies, false_implies, not_true_eq_false, not_false_eq_true, true_and, and_true]
        exact k84 y1 _ hy1 (fun e he _ => ⟨fun z _ => z, fun z => z h⟩)
      · simp (disch := omega) only [↓mI_e, litI, cLeT, cLeF, cLtT, cLtF, cEqF, cEqT, mE1, mE2, mL1, mL2, mL3, mL4, cIn, nI_clamp, nI_add, cMul, cSub, cM1, nar0, nar1, true_implies, false_implies, not_true_eq_false, not_false_eq_true, true_and, and_true]
        refine k84 y1 _ hy1 (fun e he _ => ⟨fun _ h9 => absurd h9 h, fun _ => bi_63 (ho.2 e he).2.2.1⟩)
    unfold p_La_runFromParts_4 p_Te_count
    rw [hT.2.2.1]
    simp (disch := omega) only [↓mI_e, litI, cLeT, cLeF, cLtT, cLtF, cEqF, cEqT, mE1, mE2, mL1, mL2, mL3, mL4, cIn, nI_clamp, nI_add, cMul, cSub, cM1, nar0, nar1, true_implies, false_implies, not_true_eq_false, not_false_eq_true, true_and, and_true, symbol_t hT, placesS_t hT]
    by_cases h : 1 ≤ tq T i
    · simp (disch := omega) only [↓mI_e, litI, cLeT, cLeF, cLtT, cLtF, cEqF, cEqT, mE1, mE2, mL1, mL2, mL3, mL4, cIn, nI_clamp, nI_add, cMul, cSub, cM1, nar0, nar1, true_implies, false_implies, not_true_eq_false, not_false_eq_true, true_and, and_true, first_t hT]
      rw [pc_n h]
      simp (disch := omega) only [↓mI_e, litI, cLeT, cLeF, cLtT, cLtF, cEqF, cEqT, mE1, mE2, mL1, mL2, mL3, mL4, cIn, nI_clamp, nI_add, cMul, cSub, cM1, nar0, nar1, true_implies, false_implies, not_true_eq_false, not_false_eq_true, true_and, and_true]
      exact k58 _ (fun e he _ => ⟨fun z _ => z, fun z => z h⟩)
    · simp (disch := omega) only [↓mI_e, litI, cLeT, cLeF, cLtT, cLtF, cEqF, cEqT, mE1, mE2, mL1, mL2, mL3, mL4, cIn, nI_clamp, nI_add, cMul, cSub, cM1, nar0, nar1, true_implies, false_implies, not_true_eq_false, not_false_eq_true, true_and, and_true]
      exact k58 _ (fun e he _ => ⟨fun _ h9 => absurd h9 h, fun _ => bi_63 (ho.2 e he).2.1⟩)
/-- which way states go on -/
def wayS (T : Tab) (R : Rul) (how : Nat) (la : Nat → Int32) (u v : Nat) : Prop := ∀ q, if how = 1 then sS la u q → sS la v q else sS la v q → sS la u q
theorem s_pass {how : Nat} {la : Nat → Int32} {Q : Int32 → La → Prop} (hT : tTe T te) (hn : tn T ≤ 48) (ho : aOk T A) (hh : how = 1 ∨ how = 2) (hR : rowsOf (tn T) (Rch T R) (Re_reached re)) (hS : ∀ t q, t < tn T → sS la t q → Stt T R A how t q) (hQ : ∀ x (la' : Nat → Int32), incS (tn T) la la' → (∀ t q, t < tn T → sS la' t q → Stt T R A how t q) → ((x = nI 0 ∧ la' = la ∧ ∀ u v, Rch T R u v → wayS T R how la u v) ∨ (x = nI 1 ∧ ∃ t q, t < tn T ∧ q < 6 ∧ ¬ sS la t q ∧ sS la' t q)) → Q x la') : p_La_passOn (if how = 1 then nI 1 else nI 0) te re la Q := by
  unfold p_La_passOn p_Te_count
  rw [hT.2.2.1]
  refine forN (fun f i (s : Int32 × (Nat → Int32)) => p_La_passOn_13 (if how = 1 then nI 1 else nI 0) te re Q f s.1 (nI (tn T)) i s.2) (fun i s => incS (tn T) la s.2 ∧ (∀ t q, t < tn T → sS s.2 t q → Stt T R A how t q) ∧ ((s.1 = nI 0 ∧ s.2 = la ∧ ∀ u v, u < i → Rch T R u v → wayS T R how la u v) ∨ (s.1 = nI 1 ∧ ∃ t q, t < tn T ∧ q < 6 ∧ ¬ sS la t q ∧ sS s.2 t q))) (tn T) 0 (0, la) (by omega) ⟨incS.rf _ _, hS, Or.inl ⟨rfl, rfl, fun u v h => by omega⟩⟩ ?_ ?_
  · rintro f ⟨x, l⟩ ⟨h1, h2, h4⟩
    dsimp only at h1 h2 h4 ⊢
    unfold p_La_passOn_13
    simp (disch := omega) only [↓mI_e, litI, cLeT, cLeF, cLtT, cLtF, cEqF, cEqT, mE1, mE2, mL1, mL2, mL3, mL4, cIn, nI_clamp, nI_add, cMul, cSub, cM1, nar0, nar1, true_implies, false_implies, not_true_eq_false, not_false_eq_true, true_and, and_true]
    refine ⟨?_, hQ x l h1 h2 (h4.imp (fun k => ⟨k.1, k.2.1, fun u v q => k.2.2 u v q.1 q⟩) id)⟩
    rcases h4 with h4 | h4
    · exact Or.inl h4.1
    · exact Or.inr h4.1
  · rintro f u ⟨x, l⟩ hu ⟨h1, h2, h4⟩ ih
    dsimp only at h1 h2 h4 ⊢
    unfold p_La_passOn_13
    simp (disch := omega) only [↓mI_e, litI, cLeT, cLeF, cLtT, cLtF, cEqF, cEqT, mE1, mE2, mL1, mL2, mL3, mL4, cIn, nI_clamp, nI_add, cMul, cSub, cM1, nar0, nar1, true_implies, false_implies, not_true_eq_false, not_false_eq_true, true_and, and_true]
    refine forN (fun f' k (s : Int32 × (Nat → Int32)) => p_La_passOn_22 (if how = 1 then nI 1 else nI 0) te re Q (fun a0 a1 a2 a3 => p_La_passOn_13 (if how = 1 then nI 1 else nI 0) te re Q f a0 a1 a2 a3) f' s.1 (nI (tn T)) (nI u) k s.2) (fun k s => incS (tn T) la s.2 ∧ (∀ t q, t < tn T → sS s.2 t q → Stt T R A how t q) ∧ ((s.1 = nI 0 ∧ s.2 = la ∧ (∀ u' v, u' < u → Rch T R u' v → wayS T R how la u' v) ∧ ∀ v, v < k → Rch T R u v → wayS T R how la u v) ∨ (s.1 = nI 1 ∧ ∃ t q, t < tn T ∧ q < 6 ∧ ¬ sS la t q ∧ sS s.2 t q))) (tn T) 0 (x, l) (by omega) ⟨h1, h2, h4.imp (fun k => ⟨k.1, k.2.1, k.2.2, fun v h => by omega⟩) id⟩ ?_ ?_
    · rintro f' ⟨x, l⟩ ⟨h1, h2, h4⟩
      dsimp only at h1 h2 h4 ⊢
      unfold p_La_passOn_22
      simp (disch := omega) only [↓mI_e, litI, cLeT, cLeF, cLtT, cLtF, cEqF, cEqT, mE1, mE2, mL1, mL2, mL3, mL4, cIn, nI_clamp, nI_add, cMul, cSub, cM1, nar0, nar1, true_implies, false_implies, not_true_eq_false, not_false_eq_true, true_and, and_true]
      refine ih (x, l) ⟨h1, h2, h4.imp (fun k => ⟨k.1, k.2.1, fun u' v hu' q => ?_⟩) id⟩
      by_cases e : u' = u
      · subst e; exact k.2.2.2 v q.2.1 q
      · exact k.2.2.1 u' v (by omega) q
    · rintro f' v ⟨x, l⟩ hv ⟨h1, h2, h4⟩ ih2
      dsimp only at h1 h2 h4 ⊢
      unfold p_La_passOn_22
      simp (disch := omega) only [↓mI_e, litI, cLeT, cLeF, cLtT, cLtF, cEqF, cEqT, mE1, mE2, mL1, mL2, mL3, mL4, cIn, nI_clamp, nI_add, cMul, cSub, cM1, nar0, nar1, true_implies, false_implies, not_true_eq_false, not_false_eq_true, true_and, and_true]
      rw [s_leads (by omega) (by omega)]
      have hR1 : bl (Re_reached re u) v ↔ Rch T R u v := (hR u v hu).trans ⟨fun q => q.2, fun q => ⟨hv, q⟩⟩
      rw [hR1]
      have x01 : ∃ a, a < 2 ∧ x = nI a := by
        rcases h4 with h4 | h4
        · exact ⟨0, by omega, h4.1⟩
        · exact ⟨1, by omega, h4.1⟩
      obtain ⟨a, ha2, rfl⟩ := x01
      have skip : (Rch T R u v → l = la → wayS T R how la u v) → p_La_passOn_22 (if how = 1 then nI 1 else nI 0) te re Q (fun a0 a1 a2 a3 => p_La_passOn_13 (if how = 1 then nI 1 else nI 0) te re Q f a0 a1 a2 a3) f' (nI a) (nI (tn T)) (nI u) (nI (v + 1)) l := by
        intro hs
        refine ih2 (nI a, l) ⟨h1, h2, h4.imp (fun q => ⟨q.1, q.2.1, q.2.2.1, fun w hw c => ?_⟩) id⟩
        by_cases e : w = v
        · subst e; exact hs c q.2.1
        · exact q.2.2.2 w (by omega) c
      have a0 : (nI a ||| nI 0) = nI a := by
        rcases (by omega : a = 0 ∨ a = 1) with rfl | rfl <;> decide
      have a1 : (nI a ||| nI 1) = nI 1 := by
        rcases (by omega : a = 0 ∨ a = 1) with rfl | rfl <;> decide
      -- one that is added to w
      have put : ∀ (l' : Nat → Int32) (w : Nat) (y : Int32), w < tn T → (∀ q, bi y q → Stt T R A how w q) → (∀ u q, sS l' u q ↔ sS l u q ∨ (u = w ∧ bi y q)) → (∃ q, bi y q ∧ ¬ bi (l w) q) → p_La_passOn_22 (if how = 1 then nI 1 else nI 0) te re Q (fun a0 a1 a2 a3 => p_La_passOn_13 (if how = 1 then nI 1 else nI 0) te re Q f a0 a1 a2 a3) f' (nI 1) (nI (tn T)) (nI u) (nI (v + 1)) l' := by
        intro l' w y hw hy e1 e3
        refine ih2 (nI 1, l') ⟨fun t q ht z => (e1 t q).mpr (Or.inl (h1 t q ht z)), fun t q ht z => ?_, Or.inr ⟨rfl, ?_⟩⟩
        · rcases (e1 t q).mp z with z | ⟨z1, z2⟩
          · exact h2 t q ht z
          · subst z1; exact hy q z2
        · obtain ⟨q, z1, z2⟩ := e3
          exact ⟨w, q, hw, st6 how (hy q z1), fun z => z2 (h1 w q hw z), (e1 w q).mpr (Or.inr ⟨rfl, z1⟩)⟩
      refine ⟨fun k => ?_, fun k => ?_⟩
      · simp (disch := omega) only [↓mI_e, litI, cLeT, cLeF, cLtT, cLtF, cEqF, cEqT, mE1, mE2, mL1, mL2, mL3, mL4, cIn, nI_clamp, nI_add, cMul, cSub, cM1, nar0, nar1, true_implies, false_implies, not_true_eq_false, not_false_eq_true, true_and, and_true]
        exact skip (fun q => absurd q k)
      · simp (disch := omega) only [↓mI_e, litI, cLeT, cLeF, cLtT, cLtF, cEqF, cEqT, mE1, mE2, mL1, mL2, mL3, mL4, cIn, nI_clamp, nI_add, cMul, cSub, cM1, nar0, nar1, true_implies, false_implies, not_true_eq_false, not_false_eq_true, true_and, and_true]
        rcases hh with rfl | rfl
        · rw [if_pos rfl] at skip put ⊢
          simp (disch := omega) only [↓mI_e, litI, cLeT, cLeF, cLtT, cLtF, cEqF, cEqT, mE1, mE2, mL1, mL2, mL3, mL4, cIn, nI_clamp, nI_add, cMul, cSub, cM1, nar0, nar1, true_implies, false_implies, not_true_eq_false, not_false_eq_true, true_and, and_true]
          refine s_addS (by omega) (fun h0 => ?_) (fun l' e1 e2 e3 => ?_)
          · rw [a0]
            exact skip (fun _ e q => by subst e; rw [if_pos rfl]; exact h0 q)
          · rw [a1]
            exact put l' v (l u) hv (fun q z => Stt.fwd ho rfl k q (h2 u q hu z)) e1 e3
        · rw [if_neg (by omega)] at skip put ⊢
          simp (disch := omega) only [↓mI_e, litI, cLeT, cLeF, cLtT, cLtF, cEqF, cEqT, mE1, mE2, mL1, mL2, mL3, mL4, cIn, nI_clamp, nI_add, cMul, cSub, cM1, nar0, nar1, true_implies, false_implies, not_true_eq_false, not_false_eq_true, true_and, and_true]
          refine s_addS (by omega) (fun h0 => ?_) (fun l' e1 e2 e3 => ?_)
          · rw [a0]
            exact skip (fun _ e q => by subst e; rw [if_neg (by omega)]; exact h0 q)
          · rw [a1]
            exact put l' u (l v) hu (fun q z => Stt.bwd ho rfl k q (h2 v q hv z)) e1 e3
theorem s_spread {how : Nat} {la : Nat → Int32} {Q : La → Prop} (hT : tTe T te) (hn : tn T ≤ 48) (hro : rOk T R) (ho : aOk T A) (ha : aAu A F au) (hh : how = 1 ∨ how = 2) (hR : rowsOf (tn T) (Rch T R) (Re_reached re)) (hQ : ∀ la' : Nat → Int32, (∀ t q, t < tn T → (sS la' t q ↔ Stt T R A how t q)) → Q la') : p_La_spread (if how = 1 then nI 1 else nI 0) te au re la Q := by
  unfold p_La_spread
  refine s_fillS (fun l0 hl0 => ?_)
  have fin : ∀ l : Nat → Int32, (∀ t q, t < tn T → sS l t q → Stt T R A how t q) → (∀ e t, e < an A → t < tn T → byE T A (sS l) t e → sS l t (at' A e)) → (∀ u v, Rch T R u v → wayS T R how l u v) → Q l := by
    intro l h2 h3 h5
    refine hQ l (fun t q ht => ⟨h2 t q ht, fun z => ?_⟩)
    refine z.2.2 (sS l) ⟨h3, fun h1 i t q hi hq r s => ?_, fun h1 i t q hi hq r s => ?_⟩
    · have := h5 _ _ ((Rch.rule hro hi).trans r) q
      rw [if_pos h1] at this
      exact this s
    · have := h5 _ _ (r.trans (Rch.rule hro hi)) q
      rw [if_neg (by omega)] at this
      exact this s
  refine forN (fun f i (s : Int32 × (Nat → Int32)) => p_La_spread_12 (if how = 1 then nI 1 else nI 0) te au re Q f s.1 i s.2) (fun i s => (∀ t q, t < tn T → sS s.2 t q → Stt T R A how t q) ∧ ((s.1 = nI 0 ∧ (∀ e t, e < an A → t < tn T → byE T A (sS s.2) t e → sS s.2 t (at' A e)) ∧ (∀ u v, Rch T R u v → wayS T R how s.2 u v)) ∨ (s.1 = nI 1 ∧ i ≤ cN (prsS (tn T) s.2) 288))) 289 0 (1, l0) (by omega) ⟨fun t q ht z => ?_, Or.inr ⟨rfl, by omega⟩⟩ ?_ ?_
  · unfold sS at z
    dsimp only at z
    rw [hl0 t (by omega)] at z
    exact absurd z (bi_0 q)
  · rintro f ⟨x, l⟩ ⟨h2, h4⟩
    dsimp only at h2 h4 ⊢
    unfold p_La_spread_12
    simp (disch := omega) only [↓mI_e, litI, cLeT, cLeF, cLtT, cLtF, cEqF, cEqT, mE1, mE2, mL1, mL2, mL3, mL4, cIn, nI_clamp, nI_add, cMul, cSub, cM1, nar0, nar1, true_implies, false_implies, not_true_eq_false, not_false_eq_true, true_and, and_true]
    rcases h4 with ⟨_, h5, h6⟩ | ⟨_, h5⟩
    · exact fin l h2 h5 h6
    · have := cN_le (prsS (tn T) l) 288
      omega
  · rintro f i ⟨x, l⟩ hi ⟨h2, h4⟩ ih
    dsimp only at h2 h4 ⊢
    unfold p_La_spread_12
    rcases h4 with ⟨rfl, h5, h6⟩ | ⟨rfl, h5⟩
    · simp (disch := omega) only [↓mI_e, litI, cLeT, cLeF, cLtT, cLtF, cEqF, cEqT, mE1, mE2, mL1, mL2, mL3, mL4, cIn, nI_clamp, nI_add, cMul, cSub, cM1, nar0, nar1, true_implies, false_implies, not_true_eq_false, not_false_eq_true, true_and, and_true]
      exact fin l h2 h5 h6
    · simp (disch := omega) only [↓mI_e, litI, cLeT, cLeF, cLtT, cLtF, cEqF, cEqT, mE1, mE2, mL1, mL2, mL3, mL4, cIn, nI_clamp, nI_add, cMul, cSub, cM1, nar0, nar1, true_implies, false_implies, not_true_eq_false, not_false_eq_true, true_and, and_true]
      refine s_run hT hn ho ha h2 (fun x1 l1 d1 d2 d3 d4 => ?_)
      refine s_pass hT hn ho hh hR d2 (fun x2 l2 e1 e2 e4 => ?_)
      have c1 := prsS_le d1
      have c2 := prsS_le e1
      rcases e4 with ⟨rfl, rfl, e5⟩ | ⟨rfl, t, q, p1, p2, p3, p4⟩
      · simp (disch := omega) only [↓mI_e, litI, cLeT, cLeF, cLtT, cLtF, cEqF, cEqT, mE1, mE2, mL1, mL2, mL3, mL4, cIn, nI_clamp, nI_add, cMul, cSub, cM1, nar0, nar1, true_implies, false_implies, not_true_eq_false, not_false_eq_true, true_and, and_true]
        refine ih (x1, l2) ⟨d2, ?_⟩
        rcases d4 with ⟨rfl, rfl⟩ | ⟨rfl, t, q, p1, p2, p3, p4⟩
        · exact Or.inl ⟨rfl, d3, e5⟩
        · have := prsS_lt hn d1 p1 p2 p3 p4
          refine Or.inr ⟨rfl, ?_⟩
          dsimp only
          omega
      · simp (disch := omega) only [↓mI_e, litI, cLeT, cLeF, cLtT, cLtF, cEqF, cEqT, mE1, mE2, mL1, mL2, mL3, mL4, cIn, nI_clamp, nI_add, cMul, cSub, cM1, nar0, nar1, true_implies, false_implies, not_true_eq_false, not_false_eq_true, true_and, and_true]
        have := prsS_lt hn e1 p1 p2 p3 p4
        refine ih (nI 1, l2) ⟨e2, Or.inr ⟨rfl, ?_⟩⟩
        dsimp only
        omega
theorem s_statesAt {t : Nat} {la : Nat → Int32} {Q : Int32 → La → Prop} (hT : tTe T te) (hn : tn T ≤ 48) (ho : aOk T A) (ha : aAu A F au) (ht : t < tn T) (hQ : ∀ r la', (∀ q, bi r q ↔ Stt T R A 0 t q) → Q r la') : p_La_statesAt (nI t) te au la Q := by
  unfold p_La_statesAt
  refine s_fillS (fun l0 hl0 => ?_)
  refine s_run (R := R) (how := 0) hT hn ho ha (fun t q ht z => ?_) (fun x l d1 d2 d3 d4 => ?_)
  · unfold sS at z
    rw [hl0 t (by omega)] at z
    exact absurd z (bi_0 q)
  · simp (disch := omega) only [↓mI_e, litI, cLeT, cLeF, cLtT, cLtF, cEqF, cEqT, mE1, mE2, mL1, mL2, mL3, mL4, cIn, nI_clamp, nI_add, cMul, cSub, cM1, nar0, nar1, true_implies, false_implies, not_true_eq_false, not_false_eq_true, true_and, and_true]
    refine hQ _ l (fun q => ⟨fun z => d2 t q ht z, fun z => ?_⟩)
    exact z.2.2 (sS l) ⟨d3, fun h => by omega, fun h => by omega⟩
theorem s_anyFinal {x : Int32} {Q : Int32 → Prop} (ha : aAu A F au) (h1 : (∃ q, bi x q ∧ bi (nI F) q) → Q (nI 1)) (h0 : ¬ (∃ q, bi x q ∧ bi (nI F) q) → Q (nI 0)) : p_Au_anyFinal x au Q := by
  unfold p_Au_anyFinal
  rw [ha.2.2.2.2.2]
  refine ⟨fun e => h0 (fun ⟨q, z1, z2⟩ => ?_), fun e => h1 ?_⟩
  · have : bi (x &&& nI F) q := (bi_and _ _ _).mpr ⟨z1, z2⟩
    rw [e] at this
    exact bi_0 q this
  · refine Classical.byContradiction (fun no => e (bi_ext (fun q _ => ?_)))
    rw [bi_and]
    exact ⟨fun z => absurd ⟨q, z⟩ no, fun z => absurd z (bi_0 q)⟩
end
