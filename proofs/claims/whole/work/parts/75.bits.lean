/-! bits of long and int, and counting -/
def bl (x : Int64) (v : Nat) : Prop := x.toBitVec.getLsbD v = true
def bi (x : Int32) (v : Nat) : Prop := x.toBitVec.getLsbD v = true
theorem bl_or (x y : Int64) (v : Nat) : bl (x ||| y) v ↔ bl x v ∨ bl y v := by unfold bl; rw [Int64.toBitVec_or, BitVec.getLsbD_or]; simp
theorem bl_and (x y : Int64) (v : Nat) : bl (x &&& y) v ↔ bl x v ∧ bl y v := by unfold bl; rw [Int64.toBitVec_and, BitVec.getLsbD_and]; simp
theorem bl_0 (v : Nat) : ¬ bl 0 v := by unfold bl; simp
theorem bl_ext {x y : Int64} (h : ∀ v, v < 64 → (bl x v ↔ bl y v)) : x = y := Int64.toBitVec_inj.mp (BitVec.eq_of_getLsbD_eq (fun i hi => Bool.eq_iff_iff.mpr (h i hi)))
theorem bl_big {x : Int64} {v : Nat} (h : bl x v) : v < 64 := by
  refine Classical.byContradiction (fun g => ?_)
  unfold bl at h
  rw [BitVec.getLsbD_of_ge _ _ (by omega)] at h
  exact absurd h (by decide)
theorem bl_sc : ∀ k, k < 64 → (((nI k).toInt64 &&& 63).toBitVec.smod 64).toNat = k := by decide +kernel
theorem bl_1 {v : Nat} : bl 1 v ↔ v = 0 := by
  unfold bl
  rw [show (1 : Int64).toBitVec = 1#64 from rfl, BitVec.getLsbD_one]
  simp
theorem bl_shl {u : Nat} (hu : u < 64) (v : Nat) : bl ((1 : Int64) <<< ((nI u).toInt64 &&& 63)) v ↔ v = u := by
  constructor
  · intro h
    have h2 := bl_big h
    unfold bl at h
    rw [Int64.toBitVec_shiftLeft] at h
    change ((1 : Int64).toBitVec <<< (((nI u).toInt64 &&& 63).toBitVec.smod 64).toNat).getLsbD v = true at h
    rw [bl_sc u hu, BitVec.getLsbD_shiftLeft] at h
    simp at h
    omega
  · intro h
    subst h
    unfold bl
    rw [Int64.toBitVec_shiftLeft]
    show ((1 : Int64).toBitVec <<< (((nI v).toInt64 &&& 63).toBitVec.smod 64).toNat).getLsbD v = true
    rw [bl_sc v hu, BitVec.getLsbD_shiftLeft]
    simp [hu]
theorem bl_shr {v : Nat} (hv : v < 64) (x : Int64) : (x >>> ((nI v).toInt64 &&& 63)) &&& (1 : Int64) = 0 ↔ ¬ bl x v := by
  have e : ∀ i, bl ((x >>> ((nI v).toInt64 &&& 63)) &&& (1 : Int64)) i ↔ (i = 0 ∧ bl x v) := by
    intro i
    rw [bl_and, bl_1]
    constructor
    · rintro ⟨h1, h2⟩
      subst h2
      refine ⟨rfl, ?_⟩
      unfold bl at h1
      rw [Int64.toBitVec_shiftRight] at h1
      change (x.toBitVec.sshiftRight (((nI v).toInt64 &&& 63).toBitVec.smod 64).toNat).getLsbD 0 = true at h1
      rw [bl_sc v hv, BitVec.getLsbD_sshiftRight] at h1
      simp [hv] at h1
      exact h1
    · rintro ⟨h1, h2⟩
      subst h1
      refine ⟨?_, rfl⟩
      unfold bl
      rw [Int64.toBitVec_shiftRight]
      show (x.toBitVec.sshiftRight (((nI v).toInt64 &&& 63).toBitVec.smod 64).toNat).getLsbD 0 = true
      rw [bl_sc v hv, BitVec.getLsbD_sshiftRight]
      simp [hv]
      exact h2
  constructor
  · intro h g
    have := (e 0).mpr ⟨rfl, g⟩
    rw [h] at this
    exact bl_0 0 this
  · intro h
    refine bl_ext (fun i _ => ?_)
    rw [e i]
    exact ⟨fun g => absurd g.2 h, fun g => absurd g (bl_0 i)⟩
theorem bl_tst {v : Nat} (hv : v < 64) (x : Int64) : (lg_cmp ((x >>> ((nI v).toInt64 &&& 63)) &&& (1 : Int64)) (0 : Int64) = nI 0) ↔ ¬ bl x v := (lg_cmp_eq _ _).trans (bl_shr hv x)
theorem bi_or (x y : Int32) (v : Nat) : bi (x ||| y) v ↔ bi x v ∨ bi y v := by unfold bi; rw [Int32.toBitVec_or, BitVec.getLsbD_or]; simp
theorem bi_and (x y : Int32) (v : Nat) : bi (x &&& y) v ↔ bi x v ∧ bi y v := by unfold bi; rw [Int32.toBitVec_and, BitVec.getLsbD_and]; simp
theorem bi_0 (v : Nat) : ¬ bi (nI 0) v := by unfold bi; rw [show (nI 0) = 0 from rfl]; simp
theorem bi_ext {x y : Int32} (h : ∀ v, v < 32 → (bi x v ↔ bi y v)) : x = y := Int32.toBitVec_inj.mp (BitVec.eq_of_getLsbD_eq (fun i hi => Bool.eq_iff_iff.mpr (h i hi)))
theorem bi_big {x : Int32} {v : Nat} (h : bi x v) : v < 32 := by
  refine Classical.byContradiction (fun g => ?_)
  unfold bi at h
  rw [BitVec.getLsbD_of_ge _ _ (by omega)] at h
  exact absurd h (by decide)
theorem bi_sc : ∀ k, k < 32 → ((nI k &&& nI 31).toBitVec.smod 32).toNat = k := by decide +kernel
theorem bi_1 {v : Nat} : bi (nI 1) v ↔ v = 0 := by
  unfold bi
  rw [show (nI 1).toBitVec = 1#32 from rfl, BitVec.getLsbD_one]
  simp
theorem bi_shl {u : Nat} (hu : u < 32) (v : Nat) : bi ((nI 1) <<< (nI u &&& nI 31)) v ↔ v = u := by
  constructor
  · intro h
    have h2 := bi_big h
    unfold bi at h
    rw [Int32.toBitVec_shiftLeft] at h
    change ((nI 1).toBitVec <<< ((nI u &&& nI 31).toBitVec.smod 32).toNat).getLsbD v = true at h
    rw [bi_sc u hu, BitVec.getLsbD_shiftLeft] at h
    simp at h
    have := (bi_1 (v := v - u)).mp h.2
    omega
  · intro h
    subst h
    unfold bi
    rw [Int32.toBitVec_shiftLeft]
    show ((nI 1).toBitVec <<< ((nI v &&& nI 31).toBitVec.smod 32).toNat).getLsbD v = true
    rw [bi_sc v hu, BitVec.getLsbD_shiftLeft]
    have e : (nI 1).toBitVec = 1#32 := rfl
    simp [hu, e]
theorem bi_shr0 {v : Nat} (hv : v < 32) (x : Int32) (i : Nat) : bi ((x >>> (nI v &&& nI 31)) &&& nI 1) i ↔ (i = 0 ∧ bi x v) := by
  rw [bi_and, bi_1]
  constructor
  · rintro ⟨h1, h2⟩
    subst h2
    refine ⟨rfl, ?_⟩
    unfold bi at h1
    rw [Int32.toBitVec_shiftRight] at h1
    change (x.toBitVec.sshiftRight ((nI v &&& nI 31).toBitVec.smod 32).toNat).getLsbD 0 = true at h1
    rw [bi_sc v hv, BitVec.getLsbD_sshiftRight] at h1
    simp [hv] at h1
    exact h1
  · rintro ⟨h1, h2⟩
    subst h1
    refine ⟨?_, rfl⟩
    unfold bi
    rw [Int32.toBitVec_shiftRight]
    show (x.toBitVec.sshiftRight ((nI v &&& nI 31).toBitVec.smod 32).toNat).getLsbD 0 = true
    rw [bi_sc v hv, BitVec.getLsbD_sshiftRight]
    simp [hv]
    exact h2
theorem bi_shr {v : Nat} (hv : v < 32) (x : Int32) : (x >>> (nI v &&& nI 31)) &&& nI 1 = nI 0 ↔ ¬ bi x v := by
  have e := bi_shr0 hv x
  constructor
  · intro h g
    have := (e 0).mpr ⟨rfl, g⟩
    rw [h] at this
    exact bi_0 0 this
  · intro h
    refine bi_ext (fun i _ => ?_)
    rw [e i]
    exact ⟨fun g => absurd g.2 h, fun g => absurd g (bi_0 i)⟩
theorem bi_shr1 {v : Nat} (hv : v < 32) (x : Int32) : (x >>> (nI v &&& nI 31)) &&& nI 1 = nI 1 ↔ bi x v := by
  have e := bi_shr0 hv x
  constructor
  · intro h
    have := (e 0)
    rw [h] at this
    exact (this.mp (bi_1.mpr rfl)).2
  · intro h
    refine bi_ext (fun i _ => ?_)
    rw [e i, bi_1]
    exact ⟨fun g => g.1, fun g => ⟨g, h⟩⟩
theorem bi_not (x : Int32) {v : Nat} (hv : v < 32) : bi (x ^^^ mI) v ↔ ¬ bi x v := by
  unfold bi
  rw [Int32.toBitVec_xor, BitVec.getLsbD_xor, show mI.toBitVec = BitVec.allOnes 32 from by decide, BitVec.getLsbD_allOnes]
  simp [hv]
theorem bl_not (x : Int64) {v : Nat} (hv : v < 64) : bl (x ^^^ (-1 : Int64)) v ↔ ¬ bl x v := by
  unfold bl
  rw [Int64.toBitVec_xor, BitVec.getLsbD_xor, show (-1 : Int64).toBitVec = BitVec.allOnes 64 from by decide, BitVec.getLsbD_allOnes]
  simp [hv]
theorem bi_63 {v : Nat} (hv : v < 6) : bi (nI 63) v := by
  have : ∀ v, v < 6 → (nI 63).toBitVec.getLsbD v = true := by decide +kernel
  exact this v hv
/-! counting -/
noncomputable def cN (p : Nat → Prop) : Nat → Nat
  | 0 => 0
  | n + 1 => cN p n + @ite Nat (p n) (Classical.propDecidable _) 1 0
theorem cN_s1 {p : Nat → Prop} {n : Nat} (h : p n) : cN p (n + 1) = cN p n + 1 := by
  show cN p n + @ite Nat (p n) (Classical.propDecidable _) 1 0 = _
  rw [if_pos h]
theorem cN_s0 {p : Nat → Prop} {n : Nat} (h : ¬ p n) : cN p (n + 1) = cN p n := by
  show cN p n + @ite Nat (p n) (Classical.propDecidable _) 1 0 = _
  rw [if_neg h]; rfl
theorem cN_le (p : Nat → Prop) : ∀ n, cN p n ≤ n := by
  intro n
  induction n with
  | zero => exact Nat.le_refl _
  | succ n ih =>
    by_cases h : p n
    · rw [cN_s1 h]; omega
    · rw [cN_s0 h]; omega
theorem cN_mono {p q : Nat → Prop} : ∀ n, (∀ k, k < n → p k → q k) → cN p n ≤ cN q n := by
  intro n
  induction n with
  | zero => intro _; exact Nat.le_refl _
  | succ n ih =>
    intro h
    have h1 := ih (fun k hk => h k (by omega))
    by_cases hp : p n
    · rw [cN_s1 hp, cN_s1 (h n (by omega) hp)]; omega
    · rw [cN_s0 hp]
      by_cases hq : q n
      · rw [cN_s1 hq]; omega
      · rw [cN_s0 hq]; omega
theorem cN_lt {p q : Nat → Prop} {j : Nat} (hp : ¬ p j) (hq : q j) : ∀ n, j < n → (∀ k, k < n → p k → q k) → cN p n < cN q n := by
  intro n
  induction n with
  | zero => intro h; omega
  | succ n ih =>
    intro hj h
    by_cases e : j = n
    · subst e
      have := cN_mono j (fun k hk => h k (by omega))
      rw [cN_s0 hp, cN_s1 hq]; omega
    · have h1 := ih (by omega) (fun k hk => h k (by omega))
      by_cases hp : p n
      · rw [cN_s1 hp, cN_s1 (h n (by omega) hp)]; omega
      · rw [cN_s0 hp]
        by_cases hq : q n
        · rw [cN_s1 hq]; omega
        · rw [cN_s0 hq]; omega
