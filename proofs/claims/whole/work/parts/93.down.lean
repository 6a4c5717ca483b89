/-! the way down, as both find it -/
/-- the way is written down -/
def tra (T U : Tab) (R : Rul) (x : Nat × Nat) (m : Mo) (i : Nat) : Prop := Mo_path m i = nI (ix (tn T) (trl U R x i).1) ∧ (fs U R (trl U R x i) → Mo_side m i = nI 1) ∧ (¬ fs U R (trl U R x i) → Mo_side m i = nI 2)
section
variable {T U : Tab} {R : Rul} {te : Te} {ru : Ru} {mo : Mo} {x : Nat × Nat}
theorem s_down {Q : Int32 → Mo → Prop} (hS : sMo T U mo) (hr : rMo R mo) (ho : rOk T R) (hv : vl U R x) (hm : ∀ i, i ≤ x.1 → Mo_many mo (ix (tn T) i) = nI (wc U R i)) (hQ : ∀ d r m, wy U R x d → (trl U R x d).2 < lc R (trl U R x d).1 → rkR R (trl U R x d).1 (trl U R x d).2 r → mKp mo m → mDs mo m → Mo_path m d = mI → (∀ i, i < d → tra T U R x m i) → Q (nI r) m) : p_Mo_down (nI (ix (tn T) x.1)) (nI x.2) mo Q := by
  have hn := hS.1.2.1
  have o := hS.2.1.1
  have hb := hS.2.2.1
  have h8 := ho.1
  unfold p_Mo_down
  refine loop_m (fun f (y : Int32 × Int32 × Int32 × Mo) => p_Mo_down_8 (nI (ix (tn T) x.1)) (nI x.2) Q f y.1 y.2.1 y.2.2.1 y.2.2.2) (fun y => ∃ i, wy U R x i ∧ y.1 = nI (trl U R x i).2 ∧ y.2.1 = nI (ix (tn T) (trl U R x i).1) ∧ y.2.2.1 = nI i ∧ mKp mo y.2.2.2 ∧ mDs mo y.2.2.2 ∧ ∀ k, k < i → tra T U R x y.2.2.2 k) (fun y => 1000 - y.2.2.1.toNatClampNeg) ?_ (nI x.2, nI (ix (tn T) x.1), 0, mo) ⟨0, ⟨hv, fun i hi => by omega⟩, rfl, rfl, rfl, mKp.rf mo, mDs.rf mo, fun k hk => by omega⟩
  rintro f ⟨y1, y2, y3, m⟩ ⟨i, hw, e1, e2, e3, km, dm, hp⟩ ih
  dsimp only at e1 e2 e3 km dm hp ih ⊢
  subst e1 e2 e3
  obtain ⟨hv1, hv2⟩ := hw.v o
  have hvx := hv.1
  obtain ⟨p, k, e⟩ : ∃ p k, trl U R x i = (p, k) := ⟨_, _, rfl⟩
  have hwq := hQ i
  have hws := hw.s
  have hdn := dn_ok o hv1
  have etr : trl U R x (i + 1) = dn U R (trl U R x i) := rfl
  rw [e] at hv1 hv2 hwq hws hdn etr ⊢
  dsimp only at hv2 hwq hws hdn ⊢
  have hp1 : p < tn U := hv1.1
  have hk1 : k < wc U R p := hv1.2
  have hk2 := wc_le U R p
  have hix := ix_bd (n := tn T) hp1
  have l8 := lc_le ho p
  have elc : lc R (ix (tn T) p) = lc R p := lc_ix ho hn
  have hrm := hr.kp km
  unfold p_Mo_down_8
  refine s_lefts hrm ho (by omega) (by omega) ?_
  rw [elc]
  by_cases hk : k < lc R p
  · try simp (disch := omega) only [↓mI_e, litI, cLeT, cLeF, cLtT, cLtF, cEqF, cEqT, mE1, mE2, mL1, mL2, mL3, mL4, cIn, nI_clamp, nI_add, cMul, cSub, cM1, nar0, nar1, true_implies, false_implies, not_true_eq_false, not_false_eq_true, true_and, and_true]
    intro m2 e2
    obtain ⟨km2, dm2, pm2, sm2⟩ := path_f km dm e2
    clear e2
    have hr2 := hr.kp km2
    obtain ⟨c0, c1, c2⟩ := hr2
    have fin : ∀ r, rkR R p k r → Q (nI r) m2 := by
      intro r hrk
      refine hwq r m2 hw hk hrk km2 dm2 (by rw [pm2]; exact pk_us) (fun q hq => ?_)
      obtain ⟨t1, t2, t3⟩ := hp q hq
      refine ⟨?_, ?_, ?_⟩
      · rw [pm2, upd_n (by omega)]; exact t1
      · rw [sm2]; exact t2
      · rw [sm2]; exact t3
    refine forN (fun f r (y : Int32 × Int32) => p_Mo_down_144 (nI (ix (tn T) x.1)) (nI x.2) Q f y.1 (nI (ix (tn T) p)) y.2 r m2) (fun r y => (∃ r0, rkR R p k r0 ∧ y.2 = nI r0) ∨ (y.2 = mI ∧ lcN R p r ≤ k ∧ y.1 = nI (k - lcN R p r))) (rn R) 0 (nI k, mI) (by omega) (Or.inr ⟨rfl, Nat.zero_le _, rfl⟩) ?_ ?_
    · rintro f2 ⟨z1, z2⟩ hz
      dsimp only at hz ⊢
      unfold p_Mo_down_144
      rw [c0]
      try simp (disch := omega) only [↓mI_e, litI, cLeT, cLeF, cLtT, cLtF, cEqF, cEqT, mE1, mE2, mL1, mL2, mL3, mL4, cIn, nI_clamp, nI_add, cMul, cSub, cM1, nar0, nar1, true_implies, false_implies, not_true_eq_false, not_false_eq_true, true_and, and_true]
      rcases hz with ⟨r0, h1, rfl⟩ | ⟨rfl, h2, h3⟩
      · exact fin r0 h1
      · have : lc R p = lcN R p (rn R) := rfl
        omega
    · rintro f2 r ⟨z1, z2⟩ hri hz ih2
      dsimp only at hz ih2 ⊢
      have hl := (ho.2 r hri).1
      have eix : rl R r = ix (tn T) p ↔ rl R r = p := by
        constructor
        · intro q
          rw [← ix_lt hl] at q
          exact ix_inj hn q
        · intro q
          rw [← q, ix_lt hl]
      unfold p_Mo_down_144 p_Mo_down_179
      rw [c0]
      try simp (disch := omega) only [↓mI_e, litI, cLeT, cLeF, cLtT, cLtF, cEqF, cEqT, mE1, mE2, mL1, mL2, mL3, mL4, cIn, nI_clamp, nI_add, cMul, cSub, cM1, nar0, nar1, true_implies, false_implies, not_true_eq_false, not_false_eq_true, true_and, and_true]
      rw [c1 r hri]
      by_cases er : rl R r = p
      · rw [cEqT (eix.mpr er)]
        simp only [not_true_eq_false, false_implies, true_and, true_implies]
        rcases hz with ⟨r0, h1, rfl⟩ | ⟨rfl, h2, rfl⟩
        · have := h1.1
          try simp (disch := omega) only [↓mI_e, litI, cLeT, cLeF, cLtT, cLtF, cEqF, cEqT, mE1, mE2, mL1, mL2, mL3, mL4, cIn, nI_clamp, nI_add, cMul, cSub, cM1, nar0, nar1, true_implies, false_implies, not_true_eq_false, not_false_eq_true, true_and, and_true]
          exact ⟨fun _ => ih2 (_, nI r0) (Or.inl ⟨r0, h1, rfl⟩), fun _ => ih2 (_, nI r0) (Or.inl ⟨r0, h1, rfl⟩)⟩
        · have ls := lcN_t er
          by_cases ek : k = lcN R p r
          · try simp (disch := omega) only [↓mI_e, litI, cLeT, cLeF, cLtT, cLtF, cEqF, cEqT, mE1, mE2, mL1, mL2, mL3, mL4, cIn, nI_clamp, nI_add, cMul, cSub, cM1, nar0, nar1, true_implies, false_implies, not_true_eq_false, not_false_eq_true, true_and, and_true]
            exact ih2 (_, nI r) (Or.inl ⟨r, ⟨hri, er, ek.symm⟩, rfl⟩)
          · try simp (disch := omega) only [↓mI_e, litI, cLeT, cLeF, cLtT, cLtF, cEqF, cEqT, mE1, mE2, mL1, mL2, mL3, mL4, cIn, nI_clamp, nI_add, cMul, cSub, cM1, nar0, nar1, true_implies, false_implies, not_true_eq_false, not_false_eq_true, true_and, and_true]
            exact ih2 (_, mI) (Or.inr ⟨rfl, by omega, congrArg nI (by omega)⟩)
      · have ne : ¬ rl R r = ix (tn T) p := fun q => er (eix.mp q)
        rw [cEqF ne (by omega) (by omega)]
        simp only [not_false_eq_true, false_implies, and_true, true_implies]
        have ls := lcN_f er
        rcases hz with ⟨r0, h1, rfl⟩ | ⟨rfl, h2, rfl⟩
        · exact ih2 (z1, nI r0) (Or.inl ⟨r0, h1, rfl⟩)
        · exact ih2 (_, mI) (Or.inr ⟨rfl, by omega, congrArg nI (by omega)⟩)
  · obtain ⟨q1, dv, dlt, dc⟩ := hdn (by omega)
    have hw' := hws (by omega)
    have hta := (o.2.2 p hp1).2.2.2.1 q1
    have hixa := ix_bd (n := tn T) (show ta U p < tn U by omega)
    have hwa := wc_le U R (ta U p)
    have hle := (hw'.v o).2
    try simp (disch := omega) only [↓mI_e, litI, cLeT, cLeF, cLtT, cLtF, cEqF, cEqT, mE1, mE2, mL1, mL2, mL3, mL4, cIn, nI_clamp, nI_add, cMul, cSub, cM1, nar0, nar1, true_implies, false_implies, not_true_eq_false, not_false_eq_true, true_and, and_true]
    refine s_lefts hrm ho (by omega) (by omega) ?_
    rw [elc]
    try simp (disch := omega) only [↓mI_e, litI, cLeT, cLeF, cLtT, cLtF, cEqF, cEqT, mE1, mE2, mL1, mL2, mL3, mL4, cIn, nI_clamp, nI_add, cMul, cSub, cM1, nar0, nar1, true_implies, false_implies, not_true_eq_false, not_false_eq_true, true_and, and_true]
    intro m2 e2
    obtain ⟨km2, dm2, pm2, sm2⟩ := path_f km dm e2
    clear e2
    have hS2 := hS.kp km2
    rw [hS2.2.2.2.2.1 p hp1, pc_n q1]
    try simp (disch := omega) only [↓mI_e, litI, cLeT, cLeF, cLtT, cLtF, cEqF, cEqT, mE1, mE2, mL1, mL2, mL3, mL4, cIn, nI_clamp, nI_add, cMul, cSub, cM1, nar0, nar1, true_implies, false_implies, not_true_eq_false, not_false_eq_true, true_and, and_true]
    rw [dm2.2.2.2.2.2.2, hm (ta U p) (by omega)]
    -- what follows, once the side is written down
    have go : ∀ (m3 : Mo) (b : Nat), mKp mo m3 → mDs mo m3 → Mo_path m3 = Mo_path m2 → Mo_side m3 = upd (Mo_side m2) i (nI b) → (fs U R (p, k) → b = 1) → (¬ fs U R (p, k) → b = 2) → p_Mo_down_8 (nI (ix (tn T) x.1)) (nI x.2) Q f (nI (dn U R (p, k)).2) (nI (ix (tn T) (dn U R (p, k)).1)) (nI (i + 1)) m3 := by
      intro m3 b km3 dm3 pm3 sm3 f1 f2
      refine ih (nI (dn U R (p, k)).2, nI (ix (tn T) (dn U R (p, k)).1), nI (i + 1), m3) ⟨i + 1, hw', by rw [etr], by rw [etr], rfl, km3, dm3, fun q hq => ?_⟩ ?_
      · dsimp only
        by_cases eq : q = i
        · subst eq
          unfold tra
          rw [e, pm3, pm2, sm3, upd_s rfl, upd_s rfl]
          exact ⟨rfl, fun h => by rw [f1 h], fun h => by rw [f2 h]⟩
        · obtain ⟨t1, t2, t3⟩ := hp q (by omega)
          unfold tra
          rw [pm3, pm2, sm3, upd_n eq, upd_n eq, sm2]
          exact ⟨t1, t2, t3⟩
      · dsimp only
        rw [nI_clamp (by omega), nI_clamp (by omega)]
        omega
    rcases dc with ⟨f1, ed⟩ | ⟨f1, q2, ed⟩
    · have f2 : k - lc R p < wc U R (ta U p) := f1
      try simp (disch := omega) only [↓mI_e, litI, cLeT, cLeF, cLtT, cLtF, cEqF, cEqT, mE1, mE2, mL1, mL2, mL3, mL4, cIn, nI_clamp, nI_add, cMul, cSub, cM1, nar0, nar1, true_implies, false_implies, not_true_eq_false, not_false_eq_true, true_and, and_true]
      unfold p_Mo_down_57 p_Mo_down_75 p_Mo_down_98
      try simp (disch := omega) only [↓mI_e, litI, cLeT, cLeF, cLtT, cLtF, cEqF, cEqT, mE1, mE2, mL1, mL2, mL3, mL4, cIn, nI_clamp, nI_add, cMul, cSub, cM1, nar0, nar1, true_implies, false_implies, not_true_eq_false, not_false_eq_true, true_and, and_true]
      intro m3 e3
      obtain ⟨km3, dm3, pm3, sm3⟩ := side_f km2 dm2 e3
      clear e3
      rw [(hS.kp km3).2.2.2.2.1 p hp1, pc_n q1]
      have g := go m3 1 km3 dm3 pm3 sm3 (fun _ => rfl) (fun h => absurd f1 h)
      rw [ed] at g
      try simp (disch := omega) only [↓mI_e, litI, cLeT, cLeF, cLtT, cLtF, cEqF, cEqT, mE1, mE2, mL1, mL2, mL3, mL4, cIn, nI_clamp, nI_add, cMul, cSub, cM1, nar0, nar1, true_implies, false_implies, not_true_eq_false, not_false_eq_true, true_and, and_true]
      exact g
    · have f2 : ¬ k - lc R p < wc U R (ta U p) := f1
      have htb := (o.2.2 p hp1).2.2.2.2.1 q2
      try simp (disch := omega) only [↓mI_e, litI, cLeT, cLeF, cLtT, cLtF, cEqF, cEqT, mE1, mE2, mL1, mL2, mL3, mL4, cIn, nI_clamp, nI_add, cMul, cSub, cM1, nar0, nar1, true_implies, false_implies, not_true_eq_false, not_false_eq_true, true_and, and_true]
      unfold p_Mo_down_57 p_Mo_down_75 p_Mo_down_98
      try simp (disch := omega) only [↓mI_e, litI, cLeT, cLeF, cLtT, cLtF, cEqF, cEqT, mE1, mE2, mL1, mL2, mL3, mL4, cIn, nI_clamp, nI_add, cMul, cSub, cM1, nar0, nar1, true_implies, false_implies, not_true_eq_false, not_false_eq_true, true_and, and_true]
      intro m3 e3
      obtain ⟨km3, dm3, pm3, sm3⟩ := side_f km2 dm2 e3
      clear e3
      have hS3 := hS.kp km3
      rw [hS3.2.2.2.2.1 p hp1, hS3.2.2.2.2.2 p hp1, pc_n q1, pc_n q2]
      try simp (disch := omega) only [↓mI_e, litI, cLeT, cLeF, cLtT, cLtF, cEqF, cEqT, mE1, mE2, mL1, mL2, mL3, mL4, cIn, nI_clamp, nI_add, cMul, cSub, cM1, nar0, nar1, true_implies, false_implies, not_true_eq_false, not_false_eq_true, true_and, and_true]
      rw [dm3.2.2.2.2.2.2, hm (ta U p) (by omega)]
      have g := go m3 2 km3 dm3 pm3 sm3 (fun h => absurd h f1) (fun _ => rfl)
      rw [ed] at g
      try simp (disch := omega) only [↓mI_e, litI, cLeT, cLeF, cLtT, cLtF, cEqF, cEqT, mE1, mE2, mL1, mL2, mL3, mL4, cIn, nI_clamp, nI_add, cMul, cSub, cM1, nar0, nar1, true_implies, false_implies, not_true_eq_false, not_false_eq_true, true_and, and_true]
      exact g
theorem s_depth {Q : Int32 → Prop} {d : Nat} (hd : d < 520) (h0 : Mo_path mo d = mI) (h1 : ∀ i, i < d → ∃ a, a < 2 ^ 31 ∧ Mo_path mo i = nI a) (hQ : Q (nI d)) : p_Mo_depth mo Q := by
  unfold p_Mo_depth
  refine forN (fun f i (_ : Unit) => p_Mo_depth_2 mo Q f i) (fun _ _ => True) d 0 () (by omega) trivial ?_ ?_
  · intro f _ _
    unfold p_Mo_depth_2
    try simp (disch := omega) only [↓mI_e, litI, cLeT, cLeF, cLtT, cLtF, cEqF, cEqT, mE1, mE2, mL1, mL2, mL3, mL4, cIn, nI_clamp, nI_add, cMul, cSub, cM1, nar0, nar1, true_implies, false_implies, not_true_eq_false, not_false_eq_true, true_and, and_true]
    rw [h0]
    try simp (disch := omega) only [↓mI_e, litI, cLeT, cLeF, cLtT, cLtF, cEqF, cEqT, mE1, mE2, mL1, mL2, mL3, mL4, cIn, nI_clamp, nI_add, cMul, cSub, cM1, nar0, nar1, true_implies, false_implies, not_true_eq_false, not_false_eq_true, true_and, and_true]
    exact hQ
  · intro f i _ hi _ ih
    obtain ⟨a, ha, e⟩ := h1 i hi
    unfold p_Mo_depth_2
    try simp (disch := omega) only [↓mI_e, litI, cLeT, cLeF, cLtT, cLtF, cEqF, cEqT, mE1, mE2, mL1, mL2, mL3, mL4, cIn, nI_clamp, nI_add, cMul, cSub, cM1, nar0, nar1, true_implies, false_implies, not_true_eq_false, not_false_eq_true, true_and, and_true]
    rw [e]
    try simp (disch := omega) only [↓mI_e, litI, cLeT, cLeF, cLtT, cLtF, cEqF, cEqT, mE1, mE2, mL1, mL2, mL3, mL4, cIn, nI_clamp, nI_add, cMul, cSub, cM1, nar0, nar1, true_implies, false_implies, not_true_eq_false, not_false_eq_true, true_and, and_true]
    exact ih () trivial
theorem s_rightAt {Q : Int32 → Prop} {t k r : Nat} (hr : rRu R ru) (ho : rOk T R) (hn : tn T ≤ 520) (ht : t < 2 ^ 31) (hk : rkR R t k r) (hQ : Q (nI (rr R r))) : p_Ru_rightAt (nI t) (nI k) ru Q := by
  have h8 := ho.1
  obtain ⟨c0, c1, c2⟩ := hr
  obtain ⟨k1, k2, k3⟩ := hk
  have lb := lcN_le R t r
  unfold p_Ru_rightAt
  refine forN (fun f i y => p_Ru_rightAt_5 (nI t) (nI k) ru Q f y i) (fun i y => y = nI (lcN R t i)) r 0 _ (by omega) rfl ?_ ?_
  · intro f y hy
    unfold p_Ru_rightAt_5
    rw [c0, hy, k3]
    try simp (disch := omega) only [↓mI_e, litI, cLeT, cLeF, cLtT, cLtF, cEqF, cEqT, mE1, mE2, mL1, mL2, mL3, mL4, cIn, nI_clamp, nI_add, cMul, cSub, cM1, nar0, nar1, true_implies, false_implies, not_true_eq_false, not_false_eq_true, true_and, and_true]
    rw [c1 r k1, k2, c2 r k1]
    try simp (disch := omega) only [↓mI_e, litI, cLeT, cLeF, cLtT, cLtF, cEqF, cEqT, mE1, mE2, mL1, mL2, mL3, mL4, cIn, nI_clamp, nI_add, cMul, cSub, cM1, nar0, nar1, true_implies, false_implies, not_true_eq_false, not_false_eq_true, true_and, and_true]
    exact hQ
  · intro f i y hi hy ih
    have hl := (ho.2 i (by omega)).1
    unfold p_Ru_rightAt_5
    rw [c0, hy]
    try simp (disch := omega) only [↓mI_e, litI, cLeT, cLeF, cLtT, cLtF, cEqF, cEqT, mE1, mE2, mL1, mL2, mL3, mL4, cIn, nI_clamp, nI_add, cMul, cSub, cM1, nar0, nar1, true_implies, false_implies, not_true_eq_false, not_false_eq_true, true_and, and_true]
    rw [c1 i (by omega)]
    by_cases e : rl R i = t
    · have l1 := lcN_t e
      have l2 := lcN_mono (R := R) (t := t) (show i + 1 ≤ r by omega)
      try simp (disch := omega) only [↓mI_e, litI, cLeT, cLeF, cLtT, cLtF, cEqF, cEqT, mE1, mE2, mL1, mL2, mL3, mL4, cIn, nI_clamp, nI_add, cMul, cSub, cM1, nar0, nar1, true_implies, false_implies, not_true_eq_false, not_false_eq_true, true_and, and_true]
      exact ih _ (by rw [l1])
    · try simp (disch := omega) only [↓mI_e, litI, cLeT, cLeF, cLtT, cLtF, cEqF, cEqT, mE1, mE2, mL1, mL2, mL3, mL4, cIn, nI_clamp, nI_add, cMul, cSub, cM1, nar0, nar1, true_implies, false_implies, not_true_eq_false, not_false_eq_true, true_and, and_true]
      exact ih _ (by rw [lcN_f e])
theorem s_keepFirst {k : Nat} {Q : Te → Prop} (hT : tTe T te) (hk : k ≤ tn T) (hQ : ∀ te', tTe (tCut T k) te' → Q te') : p_Te_keepFirst (nI k) te Q := by
  have hn := hT.2.1
  unfold p_Te_keepFirst
  refine loop_m (fun f (y : Te) => p_Te_keepFirst_0 (nI k) Q f y) (fun y => ∃ c, k ≤ c ∧ c ≤ tn T ∧ tTe (tCut T c) y) (fun y => (Te_count y).toNatClampNeg) ?_ te ⟨tn T, hk, Nat.le_refl _, hT.ag rfl (tAg_cut T (tn T) (tn T))⟩
  rintro f ⟨pl, sy, f1, f2, z, nw, od, cn⟩ ⟨c, h1, h2, hC⟩ ih
  have hC0 := hC
  obtain ⟨ok, -, hc, hp, hsy, hf1, hf2, hz, hN, hO⟩ := hC
  dsimp only [Te_places, Te_symbol, Te_first, Te_second, Te_size, Te_newestIn, Te_olderInBucket, Te_count, Te_places_s, Te_symbol_s, Te_first_s, Te_second_s, Te_size_s, Te_newestIn_s, Te_olderInBucket_s, Te_count_s] at hc hp hsy hf1 hf2 hz hN hO
  subst hc
  have et : tn (tCut T c) = c := rfl
  rw [et] at hsy hf1 hf2 hz hN hO hC0 ih ⊢
  unfold p_Te_keepFirst_0
  dsimp only [Te_places, Te_symbol, Te_first, Te_second, Te_size, Te_newestIn, Te_olderInBucket, Te_count, Te_places_s, Te_symbol_s, Te_first_s, Te_second_s, Te_size_s, Te_newestIn_s, Te_olderInBucket_s, Te_count_s]
  by_cases hck : c = k
  · subst hck
    try simp (disch := omega) only [↓mI_e, litI, cLeT, cLeF, cLtT, cLtF, cEqF, cEqT, mE1, mE2, mL1, mL2, mL3, mL4, cIn, nI_clamp, nI_add, cMul, cSub, cM1, nar0, nar1, true_implies, false_implies, not_true_eq_false, not_false_eq_true, true_and, and_true]
    exact hQ _ hC0
  · obtain ⟨b, rfl⟩ : ∃ b, c = b + 1 := ⟨c - 1, by omega⟩
    try simp (disch := omega) only [↓mI_e, litI, cLeT, cLeF, cLtT, cLtF, cEqF, cEqT, mE1, mE2, mL1, mL2, mL3, mL4, cIn, nI_clamp, nI_add, cMul, cSub, cM1, nar0, nar1, true_implies, false_implies, not_true_eq_false, not_false_eq_true, true_and, and_true]
    refine nm_e ?_
    dsimp only [Te_places, Te_symbol, Te_first, Te_second, Te_size, Te_newestIn, Te_olderInBucket, Te_count, Te_places_s, Te_symbol_s, Te_first_s, Te_second_s, Te_size_s, Te_newestIn_s, Te_olderInBucket_s, Te_count_s]
    try simp (disch := omega) only [↓mI_e, litI, cLeT, cLeF, cLtT, cLtF, cEqF, cEqT, mE1, mE2, mL1, mL2, mL3, mL4, cIn, nI_clamp, nI_add, cMul, cSub, cM1, nar0, nar1, true_implies, false_implies, not_true_eq_false, not_false_eq_true, true_and, and_true]
    rw [show b + 1 - 1 = b from rfl]
    unfold p_Te_bucketOf
    try simp (disch := omega) only [↓mI_e, litI, cLeT, cLeF, cLtT, cLtF, cEqF, cEqT, mE1, mE2, mL1, mL2, mL3, mL4, cIn, nI_clamp, nI_add, cMul, cSub, cM1, nar0, nar1, true_implies, false_implies, not_true_eq_false, not_false_eq_true, true_and, and_true]
    rw [hsy b (by omega), hf1 b (by omega), hf2 b (by omega)]
    obtain ⟨j, hj, e1, e2⟩ := bkI_lt (nI (ts (tCut T (b + 1)) b)) (pc 1 (tq (tCut T (b + 1)) b) (ta (tCut T (b + 1)) b)) (pc 2 (tq (tCut T (b + 1)) b) (tb (tCut T (b + 1)) b))
    have ej : bkt T b = j := e2
    have e1' : nI (ts (tCut T (b + 1)) b) * nI 961 + pc 1 (tq (tCut T (b + 1)) b) (ta (tCut T (b + 1)) b) * nI 31 + pc 2 (tq (tCut T (b + 1)) b) (tb (tCut T (b + 1)) b) &&& nI 255 = nI j := e1
    rw [e1']
    try simp (disch := omega) only [↓mI_e, litI, cLeT, cLeF, cLtT, cLtF, cEqF, cEqT, mE1, mE2, mL1, mL2, mL3, mL4, cIn, nI_clamp, nI_add, cMul, cSub, cM1, nar0, nar1, true_implies, false_implies, not_true_eq_false, not_false_eq_true, true_and, and_true]
    refine nm_e ?_
    have ag : tAg b (tCut T (b + 1)) (tCut T b) := ⟨rfl, fun _ _ => ⟨rfl, rfl, rfl⟩⟩
    refine ih _ ⟨b, by omega, by omega, ?_⟩ ?_
    · refine ⟨tAg.ok (T := tCut T (b + 1)) (T' := tCut T b) ag (show b ≤ b + 1 by omega) ok, show b ≤ 448 by omega, rfl, hp, fun t ht => hsy t (show t < b + 1 from Nat.lt_succ_of_lt ht), fun t ht => hf1 t (Nat.lt_succ_of_lt ht), fun t ht => hf2 t (Nat.lt_succ_of_lt ht), fun t ht => ?_, fun b' hb' => ?_, fun t ht => hO t (Nat.lt_succ_of_lt ht)⟩
      · have e9 : szT (tCut T (b + 1)) t = szT (tCut T b) t := ag.wte ok (show b ≤ b + 1 by omega) (fun _ _ => rfl) ht
        rw [← e9]
        exact hz t (Nat.lt_succ_of_lt ht)
      · have h5 := hN b' hb'
        have h6 : lastB (bkt T) b' (b + 1) = (if bkt T b = b' then nI b else lastB (bkt T) b' b) := rfl
        show upd nw j (od b) b' = lastB (bkt T) b' b
        by_cases e7 : b' = j
        · rw [upd_s e7, e7, ← ej]
          exact hO b (by omega)
        · rw [upd_n e7]
          refine h5.trans (h6.trans (if_neg (fun q => e7 (by rw [← q, ej]))))
    · dsimp only [Te_places, Te_symbol, Te_first, Te_second, Te_size, Te_newestIn, Te_olderInBucket, Te_count, Te_places_s, Te_symbol_s, Te_first_s, Te_second_s, Te_size_s, Te_newestIn_s, Te_olderInBucket_s, Te_count_s]
      rw [nI_clamp (by omega), nI_clamp (by omega)]
      omega
end
