/-! one level further, and the distance, as the reference finds them -/
theorem sl_ext {T U V : Tab} {R : Rul} (o : rOk T R) (hT : ext T U) (h : ext U V) : ∀ {i : Nat}, i < tn U → sl V R i = sl U R i := by
  intro i
  induction i using Nat.strongRecOn with
  | _ i ih =>
    intro hi
    have hn := h.2.1
    have hn2 := hT.2.1
    have oi := hT.1.2.2 i hi
    obtain ⟨g1, g2, g3, g4⟩ := h.f hi
    obtain ⟨d1, d2⟩ := den_q h hi
    have er : ∀ m, m ≤ rn R → rts V R i m = rts U R i m := by
      intro m
      induction m with
      | zero => exact fun _ => rfl
      | succ m ih2 =>
        intro hm
        have om := o.2 m (by omega)
        by_cases e : rl R m = i
        · rw [rts_t e, rts_t e, ih2 (by omega), den_ext h (by omega)]
        · rw [rts_f e, rts_f e, ih2 (by omega)]
    rw [sl_eq h.1 (by omega), sl_eq hT.1 hi, er _ (Nat.le_refl _)]
    have e1 : s1 V R i = s1 U R i := by
      by_cases q : 1 ≤ tq U i
      · rw [s1_t q, s1_t (by omega), g1, g3, d2, ih _ (by omega) (by omega)]
      · rw [s1_f q, s1_f (by omega)]
    have e2 : s2 V R i = s2 U R i := by
      by_cases q : 2 ≤ tq U i
      · rw [s2_t q, s2_t (by omega), g1, g4, d1, ih _ (by omega) (by omega)]
      · rw [s2_f q, s2_f (by omega)]
    rw [e1, e2]
theorem wc_ext {U V : Tab} {R : Rul} (o : tOk U) (h : ext U V) {i : Nat} (hi : i < tn U) : wc V R i = wc U R i := (h.2.2.wte o (Nat.le_refl _) (fun _ _ => rfl) hi).symm
theorem cN_ge {n : Nat} : ∀ {m : Nat}, n ≤ m → cN (fun i => n ≤ i) m = m - n := by
  intro m
  induction m with
  | zero => intro h; rw [Nat.le_zero.mp h]; rfl
  | succ m ih =>
    intro h
    by_cases e : n = m + 1
    · subst e
      have : cN (fun i => m + 1 ≤ i) (m + 1) ≤ cN (fun _ => False) (m + 1) := cN_mono _ (fun k hk a => by omega)
      have e2 : ∀ M, cN (fun _ => False) M = 0 := by
        intro M
        induction M with
        | zero => rfl
        | succ M ih => rw [cN_s0 (p := fun _ => False) (fun k => k)]; exact ih
      rw [e2] at this
      omega
    · rw [cN_s1 (p := fun i => n ≤ i) (by omega), ih (by omega)]
      omega
theorem cN_cut {p : Nat → Prop} {n : Nat} : ∀ {m : Nat}, n ≤ m → (∀ i, n ≤ i → i < m → ¬ p i) → cN p m = cN p n := by
  intro m
  induction m with
  | zero => intro h _; rw [Nat.le_zero.mp h]
  | succ m ih =>
    intro h hp
    by_cases e : n = m + 1
    · rw [e]
    · rw [cN_s0 (hp m (by omega) (by omega)), ih (by omega) (fun i a b => hp i a (by omega))]
theorem cN_cg {p q : Nat → Prop} {n : Nat} (h : ∀ i, i < n → (p i ↔ q i)) : cN p n = cN q n := Nat.le_antisymm (cN_mono n (fun k hk a => (h k hk).mp a)) (cN_mono n (fun k hk a => (h k hk).mpr a))
/-- what holds while level l + 1 is being made -/
def FI (T U : Tab) (R : Rul) (s l : Nat) (mo0 mo : Mo) : Prop := sX T U R mo ∧ mKr mo0 mo ∧ Mo_thrown mo = nI 0 ∧ (∀ i, i < tn U → ga T (Mo_came mo) i → lvl T R s (l + 1) (den U i)) ∧ (∀ y, lvl T R s l y → ∃ i, i < tn U ∧ den U i = y ∧ ga T (Mo_came mo) i) ∧ (∀ i, i < tn U → ga T (Mo_came mo) i → ∃ m, m ≤ l + 1 ∧ Mo_level mo (ix (tn T) i) = nI m ∧ lvl T R s m (den U i) ∧ ∀ k, k < m → ¬ lvl T R s k (den U i)) ∧ (∀ i, i < tn U → ga T (Mo_came mo) i → ga T (Mo_marked mo) i) ∧ pcd U (ga T (Mo_marked mo)) (ga T (Mo_marked mo)) ∧ (∀ i, i < tn U → ga T (Mo_marked mo) i → pcl (lvl T R s (l + 1)) (den U i)) ∧ (∀ i, tn T ≤ i → i < tn U → ga T (Mo_marked mo) i) ∧ Mo_different mo = nI (cN (ga T (Mo_marked mo)) (tn U)) ∧ cN (ga T (Mo_marked mo)) (tn U) ≤ 400
section
variable {T U : Tab} {R : Rul} {mo mo0 : Mo} {s l : Nat}
/-- level l is whole and small -/
theorem FI.cov (h : FI T U R s l mo0 mo) : ¬ big (pcl (lvl T R s l)) := by
  obtain ⟨f1, f2, f3, f4, f5, f6, f7, f8, f9, f10, f11, f12⟩ := h
  refine nbig_of (f := den U) (n := tn U) (p := ga T (Mo_marked mo)) (fun y hy => ?_) f12
  refine hy (fun y => ∃ i, i < tn U ∧ ga T (Mo_marked mo) i ∧ den U i = y) (fun y hy => ?_) (fun x z hx hp => ?_)
  · obtain ⟨i, i1, i2, i3⟩ := f5 y hy
    exact ⟨i, i1, f7 i i1 i3, i2⟩
  · obtain ⟨i, i1, i2, i3⟩ := hx
    have o := f1.1.2.1.1
    have oi := o.2.2 i i1
    rw [← i3] at hp
    rcases (prt_den o i1).mp hp with ⟨q, e⟩ | ⟨q, e⟩
    · exact ⟨ta U i, by omega, (f8 i i1 i2).1 q, e.symm⟩
    · exact ⟨tb U i, by omega, (f8 i i1 i2).2 q, e.symm⟩
theorem fr.kp {m m' : Mo} {df : Int32} {mk cm lv : Nat → Int32} (h : fr m m' (Mo_symbol m) (Mo_one m) (Mo_two m) (Mo_stored m) df mk cm lv (Mo_many m)) : mKp m m' := ⟨h.2.1, h.2.2.2.2.2.2.1, h.2.2.2.2.2.2.2.1, h.2.2.2.2.2.2.2.2.1, h.2.2.1, h.1.1, h.1.2.1, h.1.2.2.1, h.1.2.2.2.1, h.1.2.2.2.2.1, h.1.2.2.2.2.2⟩
/-- one step of one term of level l -/
theorem s_one {k2 : Int32 → Mo → Prop} {Q : Int32 → Mo → Prop} {i k : Nat} {f : Nat} (hF : FI T U R s l mo0 mo) (hr : rMo R mo0) (ho : rOk T R) (hi : i < tn U) (hl : lvl T R s l (den U i)) (hl4 : l < 1000) (hk : k < wc U R i) (h1 : ∀ V m z, ext U V → FI T V R s l mo0 m → (∀ u, u < tn U → ga T (Mo_came mo) u → ga T (Mo_came m) u) → (∀ u, u < tn V → ga T (Mo_came m) u → Mo_level m (ix (tn T) u) = nI l → u < tn U ∧ ga T (Mo_came mo) u ∧ Mo_level mo (ix (tn T) u) = nI l) → (sl U R i)[k]? = some z → (∃ u, u < tn V ∧ den V u = z ∧ ga T (Mo_came m) u) → p_Mo_further_52 (nI l) Q k2 f (nI (ix (tn T) i)) (nI 1) (nI (k + 1)) m) (h0 : ∀ m, tMo T m → mKr mo0 m → Mo_thrown m = nI 0 → big (pcl (lvl T R s (l + 1))) → Q (nI 0) m) : p_Mo_result (nI (ix (tn T) i)) (nI k) mo (fun r71 mo71 => ((nI 0 ≤ r71 → (vp_in r71 520 ∧ ((¬ (Mo_came mo71 r71.toNatClampNeg) = nI 0 → p_Mo_further_102 (nI l) Q k2 (fun a0 a1 a2 a3 => p_Mo_further_52 (nI l) Q k2 f a0 a1 a2 a3) (nI (ix (tn T) i)) (nI 1) (nI k) mo71) ∧ ((Mo_came mo71 r71.toNatClampNeg) = nI 0 → p_Mo_take r71 (nI (l + 1)) mo71 (fun mo99 => p_Mo_further_102 (nI l) Q k2 (fun a0 a1 a2 a3 => p_Mo_further_52 (nI l) Q k2 f a0 a1 a2 a3) (nI (ix (tn T) i)) (nI 1) (nI k) mo99))))) ∧ (¬ nI 0 ≤ r71 → Q (nI 0) mo71))) := by
  have hF0 := hF
  obtain ⟨f1, f2, f3, f4, f5, f6, f7, f8, f9, f10, f11, f12⟩ := hF
  have hE := f1.1.2.1
  have o := hE.1
  have hn := f1.1.1.2.1
  have hnE := hE.2.1
  have hwk := wc_le U R i
  obtain ⟨z, hz⟩ := sl_some o hi hk
  have hst : stp T R (den U i) z := (stp_sl ho hE hi).mpr (List.mem_of_getElem? hz)
  have hlz : lvl T R s (l + 1) z := lvl_s hl hst
  have hrm : rMo R mo := hr.kr f2
  refine s_result (X := pcl (lvl T R s (l + 1))) f1 hrm ho hi hk (fun x z a b => a.p b) hz (pcl.i hlz) (fun V u m e1 e2 e3 e4 e5 e6 e7 e8 => ?_) (fun V m e1 e2 e3 e4 e5 => ?_)
  · obtain ⟨r1, r2, r3, r4, r5, r6⟩ := e8
    have bV := e2.1.2.2.1
    have bu := ix_bd (n := tn T) e3
    have hVn := e1.2.1
    have ce : ∀ i, i < tn U → (ga T (Mo_came m) i ↔ ga T (Mo_came mo) i) := fun i hi => by unfold ga; rw [(r5 i hi).1]
    have me : ∀ i, i < tn U → (ga T (Mo_marked m) i ↔ ga T (Mo_marked mo) i) := fun i hi => by unfold ga; rw [(r5 i hi).2]
    have cn : ∀ i, tn U ≤ i → i < tn V → ¬ ga T (Mo_came m) i := fun i a b q => q (r6 i a b).1
    have mn : ∀ i, tn U ≤ i → i < tn V → ¬ ga T (Mo_marked m) i := fun i a b q => q (r6 i a b).2
    have mc : cN (ga T (Mo_marked m)) (tn V) = cN (ga T (Mo_marked mo)) (tn U) := (cN_cut hVn mn).trans (cN_cg me)
    have hd : Mo_different m = nI (cN (ga T (Mo_marked m)) (tn V)) := by rw [mc, r3]; exact f11
    have m1 : pcd V (ga T (Mo_marked m)) (ga T (Mo_marked m)) := by
      intro i hi a
      by_cases h : i < tn U
      · obtain ⟨g1, g2, g3, g4⟩ := e1.f h
        have oi := o.2.2 i h
        rw [g2, g3, g4]
        have h8 := f8 i h ((me i h).mp a)
        exact ⟨fun q => (me _ (by omega)).mpr (h8.1 q), fun q => (me _ (by omega)).mpr (h8.2 q)⟩
      · exact absurd a (mn i (by omega) hi)
    have m2 : ∀ i, i < tn V → ga T (Mo_marked m) i → pcl (lvl T R s (l + 1)) (den V i) := by
      intro i hi a
      by_cases h : i < tn U
      · rw [den_ext e1 h]; exact f9 i h ((me i h).mp a)
      · exact absurd a (mn i (by omega) hi)
    try simp (disch := omega) only [↓mI_e, litI, cLeT, cLeF, cLtT, cLtF, cEqF, cEqT, mE1, mE2, mL1, mL2, mL3, mL4, cIn, nI_clamp, nI_add, cMul, cSub, cM1, nar0, nar1, true_implies, false_implies, not_true_eq_false, not_false_eq_true, true_and, and_true]
    refine ⟨fun hc => ?_, fun hc => ?_⟩
    · -- it came before
      have hu : u < tn U := Classical.byContradiction (fun q => cn u (by omega) e3 hc)
      have eV : V = U := e5 (by
        refine Classical.byContradiction (fun q => ?_)
        have := e6 (by omega)
        omega)
      subst eV
      unfold p_Mo_further_102
      rw [hd, mc]
      try simp (disch := omega) only [↓mI_e, litI, cLeT, cLeF, cLtT, cLtF, cEqF, cEqT, mE1, mE2, mL1, mL2, mL3, mL4, cIn, nI_clamp, nI_add, cMul, cSub, cM1, nar0, nar1, true_implies, false_implies, not_true_eq_false, not_false_eq_true, true_and, and_true]
      refine h1 V m z (ext.rf o) ⟨e2, f2.trans r1, r2.trans f3, fun i hi a => f4 i hi ((ce i hi).mp a), fun y hy => ?_, fun i hi a => ?_, fun i hi a => (me i hi).mpr (f7 i hi ((ce i hi).mp a)), m1, m2, fun i a b => (me i b).mpr (f10 i a b), hd, by rw [mc]; exact f12⟩ (fun u hu a => (ce u hu).mpr a) (fun u hu a b => ⟨hu, (ce u hu).mp a, by rw [← r4]; exact b⟩) hz ⟨u, hu, e4, hc⟩
      · obtain ⟨i, a1, a2, a3⟩ := f5 y hy
        exact ⟨i, a1, a2, (ce i a1).mpr a3⟩
      · rw [r4]
        exact f6 i hi ((ce i hi).mp a)
    · -- it is new
      refine s_take (X := pcl (lvl T R s (l + 1))) e2 e3 (fun x z a b => a.p b) (by rw [e4]; exact pcl.i hlz) m1 m2 hd (fun m' mk w n1 n2 n3 n4 => ?_)
      have kp := w.kp
      have cl := cN_le (ga T mk) (tn V)
      have w11 := w.2.2.2.2.2.2.2.2.2.2.1
      have w12 := w.2.2.2.2.2.2.2.2.2.2.2.1
      have w13 := w.2.2.2.2.2.2.2.2.2.2.2.2.1
      have w14 := w.2.2.2.2.2.2.2.2.2.2.2.2.2.1
      have kr : mKr mo0 m' := (f2.trans r1).trans w.1
      have th : Mo_thrown m' = nI 0 := w.2.2.2.1.trans (r2.trans f3)
      have hc' : ∀ i, ga T (Mo_came m') i ↔ ga T (Mo_came m) i ∨ i = u := by rw [w13]; exact fun i => ga_upd hn
      unfold p_Mo_further_102
      rw [w11]
      by_cases h4 : cN (ga T mk) (tn V) ≤ 400
      · try simp (disch := omega) only [↓mI_e, litI, cLeT, cLeF, cLtT, cLtF, cEqF, cEqT, mE1, mE2, mL1, mL2, mL3, mL4, cIn, nI_clamp, nI_add, cMul, cSub, cM1, nar0, nar1, true_implies, false_implies, not_true_eq_false, not_false_eq_true, true_and, and_true]
        have nl : ∀ k, k < l + 1 → ¬ lvl T R s k (den V u) := by
          intro k hk q
          obtain ⟨i, a1, a2, a3⟩ := f5 _ (lvl_up (by omega : k ≤ l) q)
          have : i = u := den_inj e1.1 (by omega) e3 (by rw [den_ext e1 a1]; exact a2)
          subst this
          exact (ce i a1).mpr a3 hc
        refine h1 V m' z e1 ⟨e2.kp kp w.2.2.2.2.2.2.2.2.2.1 w.2.2.2.2.2.2.2.2.2.2.2.2.2.2, kr, th, fun i hi a => ?_, fun y hy => ?_, fun i hi a => ?_, fun i hi a => ?_, by rw [w12]; exact n1, by rw [w12]; exact n2, fun i a b => ?_, by rw [w11, w12], by rw [w12]; exact h4⟩ (fun q hq a => (hc' q).mpr (Or.inl ((ce q hq).mpr a))) (fun q hq a b => ?_) hz ⟨u, e3, e4, (hc' u).mpr (Or.inr rfl)⟩
        · rcases (hc' i).mp a with a | a
          · have h : i < tn U := Classical.byContradiction (fun q => cn i (by omega) hi a)
            rw [den_ext e1 h]; exact f4 i h ((ce i h).mp a)
          · subst a; rw [e4]; exact hlz
        · obtain ⟨i, a1, a2, a3⟩ := f5 y hy
          exact ⟨i, by omega, by rw [den_ext e1 a1]; exact a2, (hc' i).mpr (Or.inl ((ce i a1).mpr a3))⟩
        · rw [w14]
          rcases (hc' i).mp a with a | a
          · have h : i < tn U := Classical.byContradiction (fun q => cn i (by omega) hi a)
            have ne : i ≠ u := fun q => by subst q; exact a hc
            rw [upd_n (fun q => ne (ix_inj hn q)), r4, den_ext e1 h]
            exact f6 i h ((ce i h).mp a)
          · subst a
            rw [upd_s rfl]
            exact ⟨l + 1, Nat.le_refl _, rfl, by rw [e4]; exact hlz, nl⟩
        · rw [w12]
          rcases (hc' i).mp a with a | a
          · have h : i < tn U := Classical.byContradiction (fun q => cn i (by omega) hi a)
            exact n3 i hi ((me i h).mpr (f7 i h ((ce i h).mp a)))
          · subst a; exact n4
        · rw [w12]
          by_cases h : i < tn U
          · exact n3 i b ((me i h).mpr (f10 i a h))
          · have h9 := e6 (by omega)
            exact e7.all n1 h9 n4 (u - i) i (by omega) (by omega)
        · rcases (hc' q).mp a with a | a
          · have h : q < tn U := Classical.byContradiction (fun p => cn q (by omega) hq a)
            have ne : q ≠ u := fun p => by subst p; exact a hc
            rw [w14, upd_n (fun p => ne (ix_inj hn p)), r4] at b
            exact ⟨h, (ce q h).mp a, b⟩
          · subst a
            rw [w14, upd_s rfl] at b
            have := (nI_eq (by omega) (by omega)).mp b
            omega
      · try simp (disch := omega) only [↓mI_e, litI, cLeT, cLeF, cLtT, cLtF, cEqF, cEqT, mE1, mE2, mL1, mL2, mL3, mL4, cIn, nI_clamp, nI_add, cMul, cSub, cM1, nar0, nar1, true_implies, false_implies, not_true_eq_false, not_false_eq_true, true_and, and_true]
        exact h0 m' (e2.1.1.kp kp) kr th (big_of e1.1 n2 (by omega))
  · obtain ⟨r1, r2, r3, r4, r5, r6⟩ := e5
    try simp (disch := omega) only [↓mI_e, litI, cLeT, cLeF, cLtT, cLtF, cEqF, cEqT, mE1, mE2, mL1, mL2, mL3, mL4, cIn, nI_clamp, nI_add, cMul, cSub, cM1, nar0, nar1, true_implies, false_implies, not_true_eq_false, not_false_eq_true, true_and, and_true]
    refine h0 m e2.1.1 (f2.trans r1) (r2.trans f3) (big_of (p := fun i => tn T ≤ i) e1.1 (fun i hi a => ?_) ?_)
    · by_cases h : i < tn U
      · rw [den_ext e1 h]; exact f9 i h (f10 i a h)
      · exact e4.1 i (by omega) hi
    · have hVn := e1.2.1
      rw [cN_ge (by omega)]
      omega
/-- what has been done with the terms ahead of place c -/
def prc (T U : Tab) (R : Rul) (l c : Nat) (mo : Mo) : Prop := ∀ i, i < tn U → ix (tn T) i < c → ga T (Mo_came mo) i → Mo_level mo (ix (tn T) i) = nI l → ∀ z, stp T R (den U i) z → ∃ u, u < tn U ∧ den U u = z ∧ ga T (Mo_came mo) u
theorem s_row {k2 : Int32 → Mo → Prop} {Q : Int32 → Mo → Prop} {i c : Nat} (hF : FI T U R s l mo0 mo) (hr : rMo R mo0) (ho : rOk T R) (hi : i < tn U) (hl : lvl T R s l (den U i)) (hl4 : l < 1000) (hp : prc T U R l c mo) (h1 : ∀ V m, ext U V → FI T V R s l mo0 m → prc T V R l c m → (∀ z, stp T R (den V i) z → ∃ u, u < tn V ∧ den V u = z ∧ ga T (Mo_came m) u) → k2 (nI (ix (tn T) i + 1)) m) (h0 : ∀ m, tMo T m → mKr mo0 m → Mo_thrown m = nI 0 → big (pcl (lvl T R s (l + 1))) → Q (nI 0) m) : ∃ f, p_Mo_further_52 (nI l) Q k2 f (nI (ix (tn T) i)) (nI 1) (nI 0) mo := by
  have hwl := wc_le U R i
  refine loop_m (fun f (y : Int32 × Mo) => p_Mo_further_52 (nI l) Q k2 f (nI (ix (tn T) i)) (nI 1) y.1 y.2) (fun y => ∃ V k, ext U V ∧ FI T V R s l mo0 y.2 ∧ prc T V R l c y.2 ∧ y.1 = nI k ∧ k ≤ wc V R i ∧ ∀ q z, q < k → (sl V R i)[q]? = some z → ∃ u, u < tn V ∧ den V u = z ∧ ga T (Mo_came y.2) u) (fun y => 1000000001 - y.1.toNatClampNeg) ?_ (nI 0, mo) ⟨U, 0, ext.rf hF.1.1.2.1.1, hF, hp, rfl, Nat.zero_le _, fun q z hq => by omega⟩
  rintro f ⟨y1, m⟩ ⟨V, k, hV, hFV, hpV, e1, hk, hd⟩ ih
  dsimp only at hFV hpV e1 hd ih ⊢
  subst e1
  have hiV : i < tn V := by have := hV.2.1; omega
  have bV := hFV.1.1.2.2.1
  have bi := ix_bd (n := tn T) hiV
  have hE := hFV.1.1.2.1
  have hnE := hE.2.1
  have oV := hE.1
  have hwV := wc_le V R i
  have hlV : lvl T R s l (den V i) := by rw [den_ext hV hi]; exact hl
  unfold p_Mo_further_52
  try simp (disch := omega) only [↓mI_e, litI, cLeT, cLeF, cLtT, cLtF, cEqF, cEqT, mE1, mE2, mL1, mL2, mL3, mL4, cIn, nI_clamp, nI_add, cMul, cSub, cM1, nar0, nar1, true_implies, false_implies, not_true_eq_false, not_false_eq_true, true_and, and_true]
  rw [hFV.1.2.2 i hiV]
  by_cases hkw : k = wc V R i
  · try simp (disch := omega) only [↓mI_e, litI, cLeT, cLeF, cLtT, cLtF, cEqF, cEqT, mE1, mE2, mL1, mL2, mL3, mL4, cIn, nI_clamp, nI_add, cMul, cSub, cM1, nar0, nar1, true_implies, false_implies, not_true_eq_false, not_false_eq_true, true_and, and_true]
    refine h1 V m hV hFV hpV (fun z hz => ?_)
    have hm := (stp_sl ho hE hiV).mp hz
    obtain ⟨q, hq⟩ := List.mem_iff_getElem?.mp hm
    have hql : q < (sl V R i).length := by
      refine Classical.byContradiction (fun p => ?_)
      rw [List.getElem?_eq_none (by omega)] at hq
      exact absurd hq (by simp)
    have ln := sl_len (R := R) oV hiV
    by_cases hbig : (sl V R i).length ≤ 1000000000
    · exact hd q z (by omega) hq
    · -- so many steps to so few terms: it cannot be
      have hlen := len_bd (den V) (8 * (i + 1)) (tn V) ((sl V R i).take 1000000000) (fun y hy => ?_) (fun y => ?_)
      · rw [List.length_take] at hlen
        have h9 : tn V * (8 * (i + 1)) ≤ 520 * (8 * 520) := Nat.mul_le_mul (by omega) (Nat.mul_le_mul (Nat.le_refl _) (by omega))
        omega
      · obtain ⟨q, hq⟩ := List.mem_iff_getElem?.mp hy
        have hq2 : q < 1000000000 ∧ (sl V R i)[q]? = some y := by
          rw [List.getElem?_take] at hq
          by_cases h9 : q < 1000000000
          · rw [if_pos h9] at hq; exact ⟨h9, hq⟩
          · rw [if_neg h9] at hq; exact absurd hq (by simp)
        obtain ⟨u, a1, a2, a3⟩ := hd q y (by omega) hq2.2
        exact ⟨u, a1, a2.symm⟩
      · exact Nat.le_trans (List.Sublist.count_le y (List.take_sublist _ _)) (sl_count ho hE hiV y)
  · try simp (disch := omega) only [↓mI_e, litI, cLeT, cLeF, cLtT, cLtF, cEqF, cEqT, mE1, mE2, mL1, mL2, mL3, mL4, cIn, nI_clamp, nI_add, cMul, cSub, cM1, nar0, nar1, true_implies, false_implies, not_true_eq_false, not_false_eq_true, true_and, and_true]
    refine s_one (k := k) hFV hr ho hiV hlV hl4 (by omega) (fun W m2 z hW hF2 c1 c3 hz hu => ?_) h0
    have hVW := hW.2.1
    refine ih (nI (k + 1), m2) ⟨W, k + 1, hV.tr hW, hF2, fun i' hi' hc hcm hlv z hz => ?_, rfl, by rw [wc_ext oV hW hiV]; omega, fun q z' hq hz' => ?_⟩ ?_
    · obtain ⟨a1, a2, a3⟩ := c3 i' hi' hcm hlv
      rw [den_ext hW a1] at hz
      obtain ⟨u, b1, b2, b3⟩ := hpV i' a1 hc a2 a3 z hz
      exact ⟨u, by omega, by rw [den_ext hW b1]; exact b2, c1 u b1 b3⟩
    · rw [sl_ext ho hE hW hiV] at hz'
      by_cases eq : q = k
      · subst eq
        rw [hz] at hz'
        injection hz' with hz'
        rw [← hz']
        exact hu
      · obtain ⟨u, b1, b2, b3⟩ := hd q z' (by omega) hz'
        exact ⟨u, by omega, by rw [den_ext hW b1]; exact b2, c1 u b1 b3⟩
    · dsimp only
      rw [nI_clamp (by omega), nI_clamp (by omega)]
      omega
/-- at the head of level l -/
def HI (T U : Tab) (R : Rul) (s l : Nat) (mo0 mo : Mo) : Prop := FI T U R s l mo0 mo ∧ ∀ i, i < tn U → ga T (Mo_came mo) i → lvl T R s l (den U i)
theorem s_further {Q : Int32 → Mo → Prop} (hH : HI T U R s l mo0 mo) (hr : rMo R mo0) (ho : rOk T R) (hl4 : l < 1000) (h1 : ∀ V m, HI T V R s (l + 1) mo0 m → Q (nI 1) m) (h0 : ∀ m, tMo T m → mKr mo0 m → Mo_thrown m = nI 0 → big (pcl (lvl T R s (l + 1))) → Q (nI 0) m) : p_Mo_further (nI l) mo Q := by
  unfold p_Mo_further
  refine loop_m (fun f (y : Int32 × Mo) => p_Mo_further_2 (nI l) Q f y.1 y.2) (fun y => ∃ V c, FI T V R s l mo0 y.2 ∧ prc T V R l c y.2 ∧ y.1 = nI c ∧ c ≤ 48 + tn V - tn T) (fun y => 1000 - y.1.toNatClampNeg) ?_ (0, mo) ⟨U, 0, hH.1, fun i _ hc => by omega, rfl, Nat.zero_le _⟩
  rintro f ⟨y1, m⟩ ⟨V, c, hF, hp, e1, hc⟩ ih
  dsimp only at hF hp e1 ih ⊢
  subst e1
  have hS := hF.1
  have hM := hS.1.1
  have hn := hM.2.1
  have hE := hS.1.2.1
  have hnE := hE.2.1
  have bV := hS.1.2.2.1
  have o := hE.1
  unfold p_Mo_further_2
  rw [hS.2.1, hM.2.2.1]
  -- going on behind c without doing anything there
  have go : (∀ i, i < tn V → ix (tn T) i = c → ga T (Mo_came m) i → Mo_level m (ix (tn T) i) = nI l → ∀ z, stp T R (den V i) z → ∃ u, u < tn V ∧ den V u = z ∧ ga T (Mo_came m) u) → c < 48 + tn V - tn T → p_Mo_further_2 (nI l) Q f (nI (c + 1)) m := by
    intro hz hcc
    refine ih (nI (c + 1), m) ⟨V, c + 1, hF, fun i hi hic a b => ?_, rfl, by omega⟩ ?_
    · by_cases e : ix (tn T) i = c
      · exact hz i hi e a b
      · exact hp i hi (by omega) a b
    · dsimp only
      rw [nI_clamp (by omega), nI_clamp (by omega)]
      omega
  have skip : (∀ i, i < tn V → ix (tn T) i = c → ga T (Mo_came m) i → Mo_level m (ix (tn T) i) = nI l → False) → c < 48 + tn V - tn T → ∃ f', p_Mo_further_52 (nI l) Q (fun a0 a1 => p_Mo_further_2 (nI l) Q f a0 a1) f' (nI c) (nI 0) (nI 0) m := by
    intro hz hcc
    refine ⟨1, ?_⟩
    unfold p_Mo_further_52
    try simp (disch := omega) only [↓mI_e, litI, cLeT, cLeF, cLtT, cLtF, cEqF, cEqT, mE1, mE2, mL1, mL2, mL3, mL4, cIn, nI_clamp, nI_add, cMul, cSub, cM1, nar0, nar1, true_implies, false_implies, not_true_eq_false, not_false_eq_true, true_and, and_true]
    exact go (fun i hi e a b => (hz i hi e a b).elim) hcc
  by_cases hce : c = 48 + tn V - tn T
  · try simp (disch := omega) only [↓mI_e, litI, cLeT, cLeF, cLtT, cLtF, cEqF, cEqT, mE1, mE2, mL1, mL2, mL3, mL4, cIn, nI_clamp, nI_add, cMul, cSub, cM1, nar0, nar1, true_implies, false_implies, not_true_eq_false, not_false_eq_true, true_and, and_true]
    refine h1 V m ?_
    obtain ⟨f1, f2, f3, f4, f5, f6, f7, f8, f9, f10, f11, f12⟩ := hF
    have cov : ∀ y, lvl T R s (l + 1) y → ∃ i, i < tn V ∧ den V i = y ∧ ga T (Mo_came m) i := by
      rintro y (hy | ⟨z, hz, hs⟩)
      · exact f5 y hy
      · obtain ⟨i, a1, a2, a3⟩ := f5 z hz
        obtain ⟨q, b1, b2, b3, b4⟩ := f6 i a1 a3
        rw [a2] at b3 b4
        by_cases e : q = l
        · subst e
          have bx := ix_bd (n := tn T) a1
          obtain ⟨u, d1, d2, d3⟩ := hp i a1 (by omega) a3 b2 y (by rw [a2]; exact hs)
          exact ⟨u, d1, d2, d3⟩
        · have hql : q < l := by
            refine Classical.byContradiction (fun p => ?_)
            exact b4 l (by omega) hz
          exact f5 y (lvl_up (by omega) (lvl_s b3 hs))
    refine ⟨⟨f1, f2, f3, fun i hi a => Or.inl (f4 i hi a), cov, fun i hi a => ?_, f7, f8, fun i hi a => xl_up (by omega) (f9 i hi a), f10, f11, f12⟩, f4⟩
    obtain ⟨q, b1, b2, b3, b4⟩ := f6 i hi a
    exact ⟨q, by omega, b2, b3, b4⟩
  · have hcl : c < 48 + tn V - tn T := by omega
    have at24 : ∀ i, i < tn V → ix (tn T) i = c → p_Mo_further_24 (nI l) Q (fun a0 a1 => p_Mo_further_2 (nI l) Q f a0 a1) (nI c) m := by
      intro i hi ei
      unfold p_Mo_further_24
      try simp (disch := omega) only [↓mI_e, litI, cLeT, cLeF, cLtT, cLtF, cEqF, cEqT, mE1, mE2, mL1, mL2, mL3, mL4, cIn, nI_clamp, nI_add, cMul, cSub, cM1, nar0, nar1, true_implies, false_implies, not_true_eq_false, not_false_eq_true, true_and, and_true]
      refine ⟨fun hcm => ?_, fun hcm => ⟨fun hlv => ?_, fun hlv => ?_⟩⟩
      · exact skip (fun i' hi' e' a _ => a (by rw [e']; exact hcm)) hcl
      · exact skip (fun i' hi' e' _ b => hlv (by rw [← e']; exact b)) hcl
      · obtain ⟨q, b1, b2, b3, b4⟩ := hF.2.2.2.2.2.1 i hi (by unfold ga; rw [ei]; exact hcm)
        rw [ei, hlv] at b2
        have eq : q = l := ((nI_eq (by omega) (by omega)).mp b2).symm
        subst eq
        have k := s_row (k2 := fun a0 a1 => p_Mo_further_2 (nI q) Q f a0 a1) (Q := Q) hF hr ho hi b3 hl4 hp (fun W m2 hW hF2 hp2 hall => ?_) h0
        · rw [ei] at k
          exact k
        · rw [ei]
          have hVW := hW.2.1
          have bW := hF2.1.1.2.2.1
          refine ih (nI (c + 1), m2) ⟨W, c + 1, hF2, fun i' hi' hic a b => ?_, rfl, by omega⟩ ?_
          · by_cases e : ix (tn T) i' = c
            · have : i' = i := ix_inj hn (e.trans ei.symm)
              subst this
              exact hall
            · exact hp2 i' hi' (by omega) a b
          · dsimp only
            rw [nI_clamp (by omega), nI_clamp (by omega)]
            omega
    by_cases h2 : c < tn T
    · try simp (disch := omega) only [↓mI_e, litI, cLeT, cLeF, cLtT, cLtF, cEqF, cEqT, mE1, mE2, mL1, mL2, mL3, mL4, cIn, nI_clamp, nI_add, cMul, cSub, cM1, nar0, nar1, true_implies, false_implies, not_true_eq_false, not_false_eq_true, true_and, and_true]
      exact at24 c (by omega) (ix_lt h2)
    · by_cases h3 : c < 48
      · try simp (disch := omega) only [↓mI_e, litI, cLeT, cLeF, cLtT, cLtF, cEqF, cEqT, mE1, mE2, mL1, mL2, mL3, mL4, cIn, nI_clamp, nI_add, cMul, cSub, cM1, nar0, nar1, true_implies, false_implies, not_true_eq_false, not_false_eq_true, true_and, and_true]
        refine skip (fun i hi e _ _ => ?_) hcl
        by_cases h4 : i < tn T
        · rw [ix_lt h4] at e; omega
        · rw [ix_ge h4] at e; omega
      · try simp (disch := omega) only [↓mI_e, litI, cLeT, cLeF, cLtT, cLtF, cEqF, cEqT, mE1, mE2, mL1, mL2, mL3, mL4, cIn, nI_clamp, nI_add, cMul, cSub, cM1, nar0, nar1, true_implies, false_implies, not_true_eq_false, not_false_eq_true, true_and, and_true]
        exact at24 (c - (48 - tn T)) (by omega) (by rw [ix_ge (by omega)]; omega)
end
