/-! LAYER 2: the mathematics. Numbers first. -/
def mI : Int32 := -1
theorem mI_e : (-1 : Int32) = mI := rfl
theorem litI (k : Nat) : (OfNat.ofNat k : Int32) = nI k := rfl
theorem mI_t : mI.toInt = -1 := by decide
theorem cLeT {a b : Nat} (h : a ≤ b) (hb : b < 2 ^ 31) : (nI a ≤ nI b) = True := eq_true (nI_le h hb)
theorem cLeF {a b : Nat} (h : b < a) (ha : a < 2 ^ 31) : (nI a ≤ nI b) = False := eq_false (nI_ge h ha)
theorem cLtT {a b : Nat} (h : a < b) (hb : b < 2 ^ 31) : (nI a < nI b) = True := eq_true (nI_lt h hb)
theorem cLtF {a b : Nat} (h : b ≤ a) (ha : a < 2 ^ 31) : (nI a < nI b) = False := eq_false (nI_nlt h ha)
theorem cEqF {a b : Nat} (h : a ≠ b) (ha : a < 2 ^ 31) (hb : b < 2 ^ 31) : (nI a = nI b) = False := eq_false (fun e => h ((nI_eq ha hb).mp e))
theorem cEqT {a b : Nat} (h : a = b) : (nI a = nI b) = True := eq_true (by rw [h])
theorem mE1 {n : Nat} (h : n < 2 ^ 31) : (nI n = mI) = False := by
  refine eq_false (fun e => ?_)
  have := congrArg Int32.toInt e
  rw [nI_toInt h, mI_t] at this
  omega
theorem mE2 {n : Nat} (h : n < 2 ^ 31) : (mI = nI n) = False := eq_false (fun e => (mE1 h).mp e.symm)
theorem mL1 {n : Nat} (h : n < 2 ^ 31) : (mI < nI n) = True := eq_true (by rw [Int32.lt_iff_toInt_lt, nI_toInt h, mI_t]; omega)
theorem mL2 {n : Nat} (h : n < 2 ^ 31) : (nI n < mI) = False := eq_false (by rw [Int32.lt_iff_toInt_lt, nI_toInt h, mI_t]; omega)
theorem mL3 {n : Nat} (h : n < 2 ^ 31) : (mI ≤ nI n) = True := eq_true (by rw [Int32.le_iff_toInt_le, nI_toInt h, mI_t]; omega)
theorem mL4 {n : Nat} (h : n < 2 ^ 31) : (nI n ≤ mI) = False := eq_false (by rw [Int32.le_iff_toInt_le, nI_toInt h, mI_t]; omega)
theorem cIn {n N : Nat} (h : n < N) (hN : N < 2 ^ 31) : vp_in (nI n) N = True := eq_true (vp_in_nI h hN)
theorem cSub {a b : Nat} (h : b ≤ a) : nI a - nI b = nI (a - b) := pk_sub h
theorem cM1 {a : Nat} (h : 1 ≤ a) : nI a + mI = nI (a - 1) := sb_m1 h
theorem cMul (a b : Nat) : nI a * nI b = nI (a * b) := pk_mul a b
theorem cPos {x : Int32} (h : x < 0) {n : Nat} (hn : n < 2 ^ 31) : x ≠ nI n := fun e => by rw [e] at h; exact nI_pos hn h
theorem nar0 : vp_nar .boolean (nI 0) = nI 0 := by decide
theorem nar1 : vp_nar .boolean (nI 1) = nI 1 := by decide
/-- an index that is one of the first n, or none of them -/
theorem ixc (x : Int32) {n : Nat} (hn : n < 2 ^ 31) : (∃ t, t < n ∧ x = nI t) ∨ ((x < 0 ∨ nI n ≤ x) ∧ ∀ t, t < n → x ≠ nI t) := by
  rcases pk_ix x hn with h | h | h
  · exact Or.inr ⟨Or.inl h, fun t ht => cPos h (by omega)⟩
  · refine Or.inr ⟨Or.inr h, fun t ht e => ?_⟩
    rw [e] at h
    exact absurd h (nI_ge ht hn)
  · exact Or.inl h
/-- the loop 'for i from i0 below n' -/
theorem forN {σ : Type} (W : Nat → Int32 → σ → Prop) (J : Nat → σ → Prop) (n i0 : Nat) (s : σ) (hi : i0 ≤ n) (h0 : J i0 s) (hx : ∀ m s, J n s → W (m + 1) (nI n) s) (hs : ∀ m i s, i < n → J i s → (∀ s', J (i + 1) s' → W m (nI (i + 1)) s') → W (m + 1) (nI i) s) : ∃ f, W f (nI i0) s :=
  pk_loop (fun f i s => W f (nI i) s) J n i0 s hi h0 hx hs
theorem upd_s {f : Nat → Int32} {k : Nat} {x : Int32} {j : Nat} (h : j = k) : upd f k x j = x := by rw [h]; exact pk_us
theorem upd_n {f : Nat → Int32} {k j : Nat} {x : Int32} (h : j ≠ k) : upd f k x j = f j := pk_un h
theorem updL_s {f : Nat → Int64} {k : Nat} {x : Int64} {j : Nat} (h : j = k) : vp_updL f k x j = x := by rw [h]; exact pk_uLs
theorem updL_n {f : Nat → Int64} {k j : Nat} {x : Int64} (h : j ≠ k) : vp_updL f k x j = f j := pk_uLn h
