/-! the term to which a step leads, in the reference's store -/
section
variable {U : Tab} {R : Rul} {x : Nat × Nat} {d v : Nat} {X : Nat → Prop}
theorem sl_some (o : tOk U) {p k : Nat} (hp : p < tn U) (hk : k < wc U R p) : ∃ z, (sl U R p)[k]? = some z := by
  have h := sl_len (R := R) o hp
  have hl : k < (sl U R p).length := by omega
  exact ⟨_, List.getElem?_eq_getElem hl⟩
theorem trl_prt (o : tOk U) (hw : wy U R x d) (hXp : ∀ x z, X x → prt x z → X z) (h0 : ∀ z, (sl U R x.1)[x.2]? = some z → X z) : ∀ i, i ≤ d → ∀ z, (sl U R (trl U R x i).1)[(trl U R x i).2]? = some z → X z := by
  intro i
  induction i with
  | zero => exact fun _ => h0
  | succ i ih =>
    intro hi z hz
    have vx := ((hw.mono (by omega : i ≤ d)).v o).1
    have hk := hw.2 i (by omega)
    have dd := dn_ok o vx hk
    have ih2 := ih (by omega)
    have hz2 : (sl U R (dn U R (trl U R x i)).1)[(dn U R (trl U R x i)).2]? = some z := hz
    generalize trl U R x i = y at *
    obtain ⟨p, k⟩ := y
    have hp1 : p < tn U := vx.1
    have hk1 : k < wc U R p := vx.2
    have hk2 := wc_le U R p
    have h3 := o.2.2 p hp1
    dsimp only at hk dd ih2
    have ln := sl_len (R := R) o (show ta U p < tn U by omega)
    rcases dd.2.2.2 with ⟨f1, ed⟩ | ⟨f1, q2, ed⟩
    · have f2 : k - lc R p < wc U R (ta U p) := f1
      rw [ed] at hz2
      dsimp only at hz2
      have g := sl_get1 o hp1 dd.1 hk (by omega)
      rw [hz2] at g
      exact hXp _ _ (ih2 _ g) ⟨ts U p, pb U p, Or.inl rfl⟩
    · have f2 : ¬ k - lc R p < wc U R (ta U p) := f1
      have e7 : wc U R (ta U p) = (sl U R (ta U p)).length := by omega
      rw [ed, e7] at hz2
      dsimp only at hz2
      have g := sl_get2 o hp1 q2 hk (by omega)
      rw [hz2] at g
      exact hXp _ _ (ih2 _ g) ⟨ts U p, pa U p, Or.inr rfl⟩
/-- what is added on the way up, and how it hangs together -/
def nwp (X : Nat → Prop) (U V : Tab) : Prop := (∀ q, tn U ≤ q → q < tn V → X (den V q)) ∧ ∀ q, tn U ≤ q → q + 1 < tn V → (1 ≤ tq V (q + 1) ∧ ta V (q + 1) = q) ∨ (2 ≤ tq V (q + 1) ∧ tb V (q + 1) = q)
theorem chn_new (o : tOk U) (hw : wy U R x d) (hv : v < tn U) {r : Nat} (hr : rkR R (trl U R x d).1 (trl U R x d).2 r) (ev : v = rr R r) (hXp : ∀ x z, X x → prt x z → X z) (h0 : ∀ z, (sl U R x.1)[x.2]? = some z → X z) : ∀ j, j ≤ d → tn (chn U R x d v j).1 ≤ 520 → nwp X U (chn U R x d v j).1 := by
  intro j
  induction j with
  | zero => exact fun _ _ => ⟨fun q a b => absurd b (by show ¬ q < tn U; omega), fun q a b => absurd b (by show ¬ q + 1 < tn U; omega)⟩
  | succ j ih =>
    intro hj hn
    have m := (chn_tn (U := U) (R := R) (x := x) (d := d) (v := v) j).1
    have c := chn_ok o hw hv j (by omega) (by omega)
    have ih2 := ih (by omega) (by omega)
    have cd := chn_den o hw hv hr ev (j + 1) hj hn
    have tp2 := trl_prt o hw hXp h0 (d - (j + 1)) (by omega) _ cd
    have ei : d - 1 - j = d - (j + 1) := by omega
    have es : chn U R x d v (j + 1) = up1 U R (trl U R x (d - (j + 1))) (chn U R x d v j) := by
      show up1 U R (trl U R x (d - 1 - j)) _ = _
      rw [ei]
    have vx := ((hw.mono (by omega : d - (j + 1) ≤ d)).v o).1
    have hk := hw.2 (d - (j + 1)) (by omega)
    have dd := dn_ok o vx hk
    rw [es] at hn tp2 ⊢
    generalize trl U R x (d - (j + 1)) = y at *
    obtain ⟨⟨E, w⟩, ee⟩ : ∃ e, chn U R x d v j = e := ⟨_, rfl⟩
    rw [ee] at ih2 c hn tp2 ⊢
    obtain ⟨hE, hw1, c3, c4⟩ := c
    dsimp only at hE hw1 c3 c4 ih2
    have f := ab_fit o hE hw1 vx hk
    by_cases hi : ∃ u, isT E (ts U y.1) (ab U R y w).1 (ab U R y w).2 u
    · obtain ⟨u, hu⟩ := hi
      have e1 : up1 U R y (E, w) = (E, u) := nx_t hE.1 hu
      rw [e1]
      exact ih2
    · have no : ∀ u, ¬ isT E (ts U y.1) (ab U R y w).1 (ab U R y w).2 u := fun u k => hi ⟨u, k⟩
      have e1 : up1 U R y (E, w) = (tAdd E (ts U y.1) (ab U R y w).1 (ab U R y w).2, tn E) := nx_f no
      rw [e1] at hn tp2 ⊢
      dsimp only at hn tp2 ⊢
      rw [tn_add] at hn
      have ok' := tOk_add hE.1 (by omega) f no
      have ag := tAg_add E (ts U y.1) (ab U R y w).1 (ab U R y w).2
      have hx : ext E (tAdd E (ts U y.1) (ab U R y w).1 (ab U R y w).2) := ⟨ok', by rw [tn_add]; omega, ag⟩
      refine ⟨fun q a b => ?_, fun q a b => ?_⟩
      · rw [tn_add] at b
        by_cases e : q = tn E
        · subst e; exact tp2
        · rw [den_ext hx (by omega)]
          exact ih2.1 q a (by omega)
      · rw [tn_add] at b
        by_cases e : q + 1 = tn E
        · rw [e, tq_add, ta_add, tb_add]
          have ew : w = q := by have := c4 (by omega); omega
          have e9 : tp E (ts U y.1) = tq U y.1 := by rw [← hE.2.2.1]; rfl
          rw [e9]
          rcases dd.2.2.2 with ⟨f1, -⟩ | ⟨f1, q2, -⟩
          · rw [ab_t f1]
            exact Or.inl ⟨dd.1, ew⟩
          · rw [ab_f f1]
            exact Or.inr ⟨q2, ew⟩
        · rw [← ag.q (by omega), ← (ag.2 (q + 1) (by omega)).2.1, ← (ag.2 (q + 1) (by omega)).2.2]
          exact ih2.2 q a (by omega)
theorem nwp.all {V : Tab} {p : Nat → Prop} (h : nwp X U V) (hc : pcd V p p) {u : Nat} (hu : u + 1 = tn V) (hp : p u) : ∀ k q, q + k = u → tn U ≤ q → p q := by
  intro k
  induction k with
  | zero => intro q e _; rw [show q = u by omega]; exact hp
  | succ k ih =>
    intro q e hq
    have h1 := ih (q + 1) (by omega) (by omega)
    rcases h.2 q hq (by omega) with ⟨a, b⟩ | ⟨a, b⟩
    · have := (hc (q + 1) (by omega) h1).1 a
      rw [b] at this
      exact this
    · have := (hc (q + 1) (by omega) h1).2 a
      rw [b] at this
      exact this
end
/-- what such a search leaves as it was -/
def rsF (T U V : Tab) (mo m : Mo) : Prop := mKr mo m ∧ Mo_thrown m = Mo_thrown mo ∧ Mo_different m = Mo_different mo ∧ Mo_level m = Mo_level mo ∧ (∀ i, i < tn U → Mo_came m (ix (tn T) i) = Mo_came mo (ix (tn T) i) ∧ Mo_marked m (ix (tn T) i) = Mo_marked mo (ix (tn T) i)) ∧ (∀ i, tn U ≤ i → i < tn V → Mo_came m (ix (tn T) i) = nI 0 ∧ Mo_marked m (ix (tn T) i) = nI 0)
section
variable {T U : Tab} {R : Rul} {mo : Mo} {X : Nat → Prop}
theorem sX.kp {m : Mo} (h : sX T U R mo) (k : mKp mo m) (e1 : Mo_stored m = Mo_stored mo) (e2 : Mo_many m = Mo_many mo) : sX T U R m := ⟨h.1.kp k, by rw [e1]; exact h.2.1, by rw [e2]; exact h.2.2⟩
theorem s_result {Q : Int32 → Mo → Prop} {t k z : Nat} (hX : sX T U R mo) (hr : rMo R mo) (ho : rOk T R) (ht : t < tn U) (hk : k < wc U R t) (hXp : ∀ x z, X x → prt x z → X z) (hz : (sl U R t)[k]? = some z) (hXz : X z) (h1 : ∀ V u m, ext U V → sX T V R m → u < tn V → den V u = z → (tn V = tn U → V = U) → (tn U < tn V → u + 1 = tn V) → nwp X U V → rsF T U V mo m → Q (nI (ix (tn T) u)) m) (h2 : ∀ V m, ext U V → sX T V R m → tn V + (48 - tn T) = 520 → nwp X U V → rsF T U V mo m → Q mI m) : p_Mo_result (nI (ix (tn T) t)) (nI k) mo Q := by
  have hn := hX.1.1.2.1
  have o := hX.1.2.1.1
  have hnE := hX.1.2.1.2.1
  have hb := hX.1.2.2.1
  unfold p_Mo_result
  refine s_down (x := (t, k)) hX.1 hr ho ⟨ht, hk⟩ (fun i hi => hX.2.2 i (Nat.lt_of_le_of_lt hi ht)) (fun d r m hw hd hrk km dm pd hp => ?_)
  have hdx := (hw.v o).2
  dsimp only at hdx
  have hr8 := hrk.1
  have h8 := ho.1
  have hrr := (ho.2 r hrk.1).2.1
  have hv : rr R r < tn U := by omega
  have hXm : sX T U R m := hX.kp km dm.2.1 dm.2.2.2.2.2.2
  have hrm := hr.kp km
  have h0 : ∀ z', (sl U R t)[k]? = some z' → X z' := by
    intro z' e
    rw [hz] at e
    injection e with e
    rw [← e]; exact hXz
  have hcn := chn_new o hw hv hrk rfl hXp h0
  have hcd := chn_den o hw hv hrk rfl
  have hck := chn_ok o hw hv
  have hpx : ∀ i, i < d → (trl U R (t, k) i).1 < tn U := fun i hi => ((hw.mono (by omega : i ≤ d)).v o).1.1
  have f0 : rsF T U U mo m := ⟨km.r, dm.1, dm.2.2.1, dm.2.2.2.2.2.1, fun i _ => ⟨by rw [dm.2.2.2.2.1], by rw [dm.2.2.2.1]⟩, fun i a b => by omega⟩
  try simp (disch := omega) only [↓mI_e, litI, cLeT, cLeF, cLtT, cLtF, cEqF, cEqT, mE1, mE2, mL1, mL2, mL3, mL4, cIn, nI_clamp, nI_add, cMul, cSub, cM1, nar0, nar1, true_implies, false_implies, not_true_eq_false, not_false_eq_true, true_and, and_true]
  refine s_depth (by omega) pd (fun i hi => ⟨_, ?_, (hp i hi).1⟩) ?_
  · have := ix_bd (n := tn T) (hpx i hi)
    omega
  rw [hrm.2.2 r hr8]
  refine forD (fun f i (y : Int32 × Mo) => p_Mo_result_20 (nI (ix (tn T) t)) (nI k) Q f y.1 i y.2) (fun q y => (sX T (chn U R (t, k) d (rr R r) (d - q)).1 R y.2 ∧ y.1 = nI (ix (tn T) (chn U R (t, k) d (rr R r) (d - q)).2) ∧ rsF T U (chn U R (t, k) d (rr R r) (d - q)).1 mo y.2 ∧ Mo_path y.2 = Mo_path m ∧ Mo_side y.2 = Mo_side m) ∨ (y.1 = mI ∧ ∃ V, ext U V ∧ sX T V R y.2 ∧ tn V + (48 - tn T) = 520 ∧ nwp X U V ∧ rsF T U V mo y.2)) d (nI (rr R r), m) (Or.inl ?_) ?_ ?_
  · rw [Nat.sub_self]
    refine ⟨hXm, ?_, f0, rfl, rfl⟩
    show nI (rr R r) = nI (ix (tn T) (rr R r))
    rw [ix_lt hrr]
  · rintro f ⟨y1, m1⟩ hy
    dsimp only at hy ⊢
    unfold p_Mo_result_20
    try simp (disch := omega) only [↓mI_e, litI, cLeT, cLeF, cLtT, cLtF, cEqF, cEqT, mE1, mE2, mL1, mL2, mL3, mL4, cIn, nI_clamp, nI_add, cMul, cSub, cM1, nar0, nar1, true_implies, false_implies, not_true_eq_false, not_false_eq_true, true_and, and_true]
    rcases hy with ⟨y2, y3, y4, -, -⟩ | ⟨y2, V, y3, y4, y5, y6, y7⟩
    · rw [Nat.sub_zero] at y2 y3 y4
      have b9 := y2.1.2.2.1
      have c := hck d (Nat.le_refl _) (by omega)
      have cd := hcd d (Nat.le_refl _) (by omega)
      rw [Nat.sub_self] at cd
      have cd2 : (sl U R t)[k]? = some (den (chn U R (t, k) d (rr R r) d).1 (chn U R (t, k) d (rr R r) d).2) := cd
      rw [hz] at cd2
      injection cd2 with cd2
      rw [y3]
      exact h1 _ _ m1 c.1 y2 c.2.1 cd2.symm c.2.2.1 c.2.2.2 (hcn d (Nat.le_refl _) (by omega)) y4
    · rw [y2]
      exact h2 V m1 y3 y4 y5 y6 y7
  · rintro f i ⟨y1, m1⟩ hi hy ih
    dsimp only at hy ih ⊢
    unfold p_Mo_result_20
    rcases hy with ⟨y2, y3, y4, y5, y6⟩ | ⟨y2, V, y3, y4, y5, y6, y7⟩
    · have b9 := y2.1.2.2.1
      have c := hck (d - (i + 1)) (by omega) (by omega)
      have cw := hcn (d - (i + 1)) (by omega) (by omega)
      have es := chn_s (U := U) (R := R) (x := (t, k)) (v := rr R r) hi
      have hk9 := hw.2 i hi
      obtain ⟨vx, vb⟩ := (hw.mono (by omega : i ≤ d)).v o
      have hxn := hpx i hi
      obtain ⟨⟨E, w⟩, ee⟩ : ∃ e, chn U R (t, k) d (rr R r) (d - (i + 1)) = e := ⟨_, rfl⟩
      rw [ee] at y2 y3 y4 c es cw b9
      dsimp only at y2 y3 y4 cw b9
      obtain ⟨hE, hw1, -, -⟩ := c
      dsimp only at hE hw1
      have f2 := ab_fit o hE hw1 vx hk9
      have dd := dn_ok o vx hk9
      have hEn := hE.2.1
      have hxE : (trl U R (t, k) i).1 < tn E := by omega
      obtain ⟨g1, g2, g3, g4⟩ := hE.f hxn
      have ep : tp E (ts U (trl U R (t, k) i).1) = tq U (trl U R (t, k) i).1 := by rw [← hE.2.2.1]; rfl
      have bx := ix_bd (n := tn T) hxE
      have bw := ix_bd (n := tn T) hw1
      have fin : ∀ a b : Int32, a = pc 1 (tq U (trl U R (t, k) i).1) (ix (tn T) (ab U R (trl U R (t, k) i) w).1) → b = pc 2 (tq U (trl U R (t, k) i).1) (ix (tn T) (ab U R (trl U R (t, k) i) w).2) → p_Mo_result_90 (nI (ix (tn T) t)) (nI k) Q (fun a0 a1 a2 => p_Mo_result_20 (nI (ix (tn T) t)) (nI k) Q f a0 a1 a2) (nI i) b a (nI (ts U (trl U R (t, k) i).1)) m1 := by
        intro a b ha hb2
        unfold p_Mo_result_90
        simp only [↓mI_e]
        refine s_store y2 (hr.kr y4.1) ho f2 (by rw [ep]; exact ha) (by rw [ep]; exact hb2) (fun u hu => ?_) (fun no hf => ?_) (fun no hf m2 q1 q2 => ?_)
        · refine ih (_, m1) (Or.inl ?_)
          have e1 : chn U R (t, k) d (rr R r) (d - i) = (E, u) := es.trans (nx_t hE.1 hu)
          rw [e1]
          exact ⟨y2, rfl, y4, y5, y6⟩
        · exact ih (mI, m1) (Or.inr ⟨rfl, E, hE, y2, hf, cw, y4⟩)
        · refine ih (_, m2) (Or.inl ?_)
          have e1 : chn U R (t, k) d (rr R r) (d - i) = (tAdd E (ts U (trl U R (t, k) i).1) (ab U R (trl U R (t, k) i) w).1 (ab U R (trl U R (t, k) i) w).2, tn E) := es.trans (nx_f no)
          rw [e1]
          obtain ⟨v1, v2, v3, v4, v5, v6, -, -, -, -, v11, v12, v13, v14, -⟩ := q2
          obtain ⟨z1, z2, z3, z4, z5, z6⟩ := y4
          have oth : ∀ i, i < tn E → ix (tn T) i ≠ ix (tn T) (tn E) := fun i hi e => by have := ix_inj hn e; omega
          refine ⟨q1, rfl, ⟨z1.trans v1, v4.trans z2, v11.trans z3, v14.trans z4, fun i hi => ?_, fun i a b => ?_⟩, v5.trans y5, v6.trans y6⟩
          · rw [v12, v13, upd_n (oth i (by omega)), upd_n (oth i (by omega))]
            exact z5 i hi
          · dsimp only at b
            rw [tn_add] at b
            rw [v12, v13]
            by_cases e : i = tn E
            · rw [upd_s (by rw [e]), upd_s (by rw [e])]
              exact ⟨rfl, rfl⟩
            · rw [upd_n (oth i (by omega)), upd_n (oth i (by omega))]
              exact z6 i a (by omega)
      unfold p_Mo_result_68
      rw [y3]
      try simp (disch := omega) only [↓mI_e, litI, cLeT, cLeF, cLtT, cLtF, cEqF, cEqT, mE1, mE2, mL1, mL2, mL3, mL4, cIn, nI_clamp, nI_add, cMul, cSub, cM1, nar0, nar1, true_implies, false_implies, not_true_eq_false, not_false_eq_true, true_and, and_true]
      rw [y5, (hp i hi).1]
      try simp (disch := omega) only [↓mI_e, litI, cLeT, cLeF, cLtT, cLtF, cEqF, cEqT, mE1, mE2, mL1, mL2, mL3, mL4, cIn, nI_clamp, nI_add, cMul, cSub, cM1, nar0, nar1, true_implies, false_implies, not_true_eq_false, not_false_eq_true, true_and, and_true]
      rw [y2.1.2.2.2.1 _ hxE, y2.1.2.2.2.2.1 _ hxE, y2.1.2.2.2.2.2 _ hxE, g1, g2, g3, g4, y6]
      rcases dd.2.2.2 with ⟨f1, -⟩ | ⟨f1, q2, -⟩
      · rw [(hp i hi).2.1 f1]
        try simp (disch := omega) only [↓mI_e, litI, cLeT, cLeF, cLtT, cLtF, cEqF, cEqT, mE1, mE2, mL1, mL2, mL3, mL4, cIn, nI_clamp, nI_add, cMul, cSub, cM1, nar0, nar1, true_implies, false_implies, not_true_eq_false, not_false_eq_true, true_and, and_true]
        exact fin _ _ (by rw [ab_t f1, pc_n dd.1]) (by rw [ab_t f1])
      · rw [(hp i hi).2.2 f1]
        try simp (disch := omega) only [↓mI_e, litI, cLeT, cLeF, cLtT, cLtF, cEqF, cEqT, mE1, mE2, mL1, mL2, mL3, mL4, cIn, nI_clamp, nI_add, cMul, cSub, cM1, nar0, nar1, true_implies, false_implies, not_true_eq_false, not_false_eq_true, true_and, and_true]
        exact fin _ _ (by rw [ab_f f1]) (by rw [ab_f f1, pc_n q2])
    · rw [y2]
      try simp (disch := omega) only [↓mI_e, litI, cLeT, cLeF, cLtT, cLtF, cEqF, cEqT, mE1, mE2, mL1, mL2, mL3, mL4, cIn, nI_clamp, nI_add, cMul, cSub, cM1, nar0, nar1, true_implies, false_implies, not_true_eq_false, not_false_eq_true, true_and, and_true]
      exact h2 V m1 y3 y4 y5 y6 y7
end
