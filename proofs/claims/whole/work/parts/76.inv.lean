/-! what is kept between two calls -/
def rRu (R : Rul) (ru : Ru) : Prop := Ru_count ru = nI (rn R) ∧ (∀ i, i < rn R → Ru_left ru i = nI (rl R i)) ∧ (∀ i, i < rn R → Ru_right ru i = nI (rr R i))
def rMo (R : Rul) (mo : Mo) : Prop := Mo_rules mo = nI (rn R) ∧ (∀ i, i < rn R → Mo_left mo i = nI (rl R i)) ∧ (∀ i, i < rn R → Mo_right mo i = nI (rr R i))
def aAu (A : Aut) (F : Nat) (au : Au) : Prop := Au_count au = nI (an A) ∧ (∀ e, e < an A → Au_symbol au e = nI (as' A e)) ∧ (∀ e, e < an A → Au_first au e = nI (a1' A e)) ∧ (∀ e, e < an A → Au_second au e = nI (a2' A e)) ∧ (∀ e, e < an A → Au_target au e = nI (at' A e)) ∧ Au_finals au = nI F
def aMo (T : Tab) (A : Aut) (F : Nat) (mo : Mo) : Prop := Mo_edges mo = nI (an A) ∧ (∀ e, e < an A → Mo_edge mo (4 * e) = nI (as' A e)) ∧ (∀ e, e < an A → Mo_edge mo (4 * e + 1) = pc 1 (tp T (as' A e)) (a1' A e)) ∧ (∀ e, e < an A → Mo_edge mo (4 * e + 2) = pc 2 (tp T (as' A e)) (a2' A e)) ∧ (∀ e, e < an A → Mo_edge mo (4 * e + 3) = nI (at' A e)) ∧ Mo_finals mo = nI F
/-- rows of bits that say what X says of the first n -/
def rowsOf (n : Nat) (X : Nat → Nat → Prop) (g : Nat → Int64) : Prop := ∀ u v, u < n → (bl (g u) v ↔ v < n ∧ X u v)
def reOk (T : Tab) (R : Rul) (re : Re) : Prop := rowsOf (tn T) (Rch T R) (Re_reached re) ∧ (¬ Re_joinedKnown re = 0 → rowsOf (tn T) (Jn T R) (Re_joined re))
def cache (j : Nat) (T : Tab) (R : Rul) (ru : Ru) (re : Re) : Prop := ∃ ch, ch ≤ j ∧ Ru_changes ru = nI ch ∧ (Re_changesThen re = mI ∨ ∃ c, c ≤ ch ∧ Re_changesThen re = nI c) ∧ (Re_termsThen re = mI ∨ ∃ m, m ≤ tn T ∧ Re_termsThen re = nI m) ∧ (Re_termsThen re = nI (tn T) → Re_changesThen re = nI ch → reOk T R re)
def InvW (j : Nat) (T : Tab) (R : Rul) (A : Aut) (F : Nat) (c : StC) (mo : Mo) : Prop := (tTe T c.1 ∧ tMo T mo) ∧ (rOk T R ∧ rRu R c.2.1 ∧ rMo R mo) ∧ (aOk T A ∧ F < 64 ∧ aAu A F c.2.2.1 ∧ aMo T A F mo) ∧ cache j T R c.2.1 c.2.2.2.1
def Inv (j : Nat) (c : StC) (mo : Mo) : Prop := ∃ T R A F, InvW j T R A F c mo
/-- the reference as the law's comparison needs it: all that is kept of mo -/
def mKp (mo mo' : Mo) : Prop := Mo_places mo' = Mo_places mo ∧ Mo_symbol mo' = Mo_symbol mo ∧ Mo_one mo' = Mo_one mo ∧ Mo_two mo' = Mo_two mo ∧ Mo_count mo' = Mo_count mo ∧ Mo_rules mo' = Mo_rules mo ∧ Mo_left mo' = Mo_left mo ∧ Mo_right mo' = Mo_right mo ∧ Mo_edges mo' = Mo_edges mo ∧ Mo_edge mo' = Mo_edge mo ∧ Mo_finals mo' = Mo_finals mo
theorem mKp.rf (mo : Mo) : mKp mo mo := ⟨rfl, rfl, rfl, rfl, rfl, rfl, rfl, rfl, rfl, rfl, rfl⟩
theorem mKp.trans {a b c : Mo} (h : mKp a b) (g : mKp b c) : mKp a c := by
  obtain ⟨h1, h2, h3, h4, h5, h6, h7, h8, h9, h10, h11⟩ := h
  obtain ⟨g1, g2, g3, g4, g5, g6, g7, g8, g9, g10, g11⟩ := g
  exact ⟨g1.trans h1, g2.trans h2, g3.trans h3, g4.trans h4, g5.trans h5, g6.trans h6, g7.trans h7, g8.trans h8, g9.trans h9, g10.trans h10, g11.trans h11⟩
theorem tMo.kp {T : Tab} {mo mo' : Mo} (h : tMo T mo) (k : mKp mo mo') : tMo T mo' := by
  obtain ⟨h1, h2, h3, h4, h5, h6, h7⟩ := h
  obtain ⟨g1, g2, g3, g4, g5, -⟩ := k
  exact ⟨h1, h2, by rw [g5]; exact h3, by rw [g1]; exact h4, by rw [g2]; exact h5, by rw [g3]; exact h6, by rw [g4]; exact h7⟩
theorem rMo.kp {R : Rul} {mo mo' : Mo} (h : rMo R mo) (k : mKp mo mo') : rMo R mo' := by
  obtain ⟨h1, h2, h3⟩ := h
  obtain ⟨-, -, -, -, -, g6, g7, g8, -⟩ := k
  exact ⟨by rw [g6]; exact h1, by rw [g7]; exact h2, by rw [g8]; exact h3⟩
theorem aMo.kp {T : Tab} {A : Aut} {F : Nat} {mo mo' : Mo} (h : aMo T A F mo) (k : mKp mo mo') : aMo T A F mo' := by
  obtain ⟨h1, h2, h3, h4, h5, h6⟩ := h
  obtain ⟨-, -, -, -, -, -, -, -, g9, g10, g11⟩ := k
  exact ⟨by rw [g9]; exact h1, by rw [g10]; exact h2, by rw [g10]; exact h3, by rw [g10]; exact h4, by rw [g10]; exact h5, by rw [g11]; exact h6⟩
theorem cache.nx {j : Nat} {T : Tab} {R : Rul} {ru : Ru} {re : Re} (h : cache j T R ru re) : cache (j + 1) T R ru re := by
  obtain ⟨ch, h1, h2⟩ := h
  exact ⟨ch, by omega, h2⟩
/-- a call that changes nothing of what is kept -/
theorem InvW.kp {j : Nat} {T : Tab} {R : Rul} {A : Aut} {F : Nat} {te te' : Te} {ru : Ru} {au au' : Au} {re re' : Re} {la la' : La} {sp sp' : Sp} {le le' : Le} {mo mo' : Mo} (h : InvW j T R A F (te, ru, au, re, la, sp, le) mo) (k : mKp mo mo') (hte : tTe T te') (hau : aAu A F au') (hc : cache j T R ru re') : Inv (j + 1) (te', ru, au', re', la', sp', le') mo' := by
  obtain ⟨⟨h1, h2⟩, ⟨h3, h4, h5⟩, ⟨h6, h7, h8, h9⟩, h10⟩ := h
  exact ⟨T, R, A, F, ⟨hte, h2.kp k⟩, ⟨h3, h4, h5.kp k⟩, ⟨h6, h7, hau, h9.kp k⟩, hc.nx⟩
