/-! step -/
theorem InvW.upd {j : Nat} {T T' : Tab} {R : Rul} {A : Aut} {F : Nat} {te te' : Te} {ru : Ru} {au : Au} {re : Re} {la : La} {sp sp' : Sp} {le : Le} {mo mo' : Mo} (h : InvW j T R A F (te, ru, au, re, la, sp, le) mo) (hte : tTe T' te') (hmo : tMo T' mo') (hn : tn T ≤ tn T') (he : tn T' = tn T → T' = T) (e : tp T' = tp T) (k : mKr mo mo') : Inv (j + 1) (te', ru, au, re, la, sp', le) mo' := by
  by_cases h9 : tn T' = tn T
  · have e9 := he h9
    subst e9
    obtain ⟨⟨h1, h2⟩, ⟨h3, h4, h5⟩, ⟨h6, h7, h8, h9⟩, h10⟩ := h
    exact ⟨T', R, A, F, ⟨hte, hmo⟩, ⟨h3, h4, h5.kr k⟩, ⟨h6, h7, h8, h9.kr k rfl⟩, h10.nx⟩
  · exact h.add hte hmo (by omega) e k
/-- the way as it is written down in the program -/
def tsp (T : Tab) (R : Rul) (x : Nat × Nat) (sp : Sp) (i : Nat) : Prop := Sp_path sp i = nI (trl T R x i).1 ∧ (fs T R (trl T R x i) → Sp_wentFirst sp i = nI 1) ∧ (¬ fs T R (trl T R x i) → Sp_wentFirst sp i = nI 0)
section
variable {T : Tab} {R : Rul} {te : Te} {ru : Ru} {mo : Mo} {x : Nat × Nat}
theorem ext.f {T E : Tab} (h : ext T E) {t : Nat} (ht : t < tn T) : ts E t = ts T t ∧ tq E t = tq T t ∧ ta E t = ta T t ∧ tb E t = tb T t := by
  have g := h.2.2.2 t ht
  exact ⟨g.1.symm, (h.2.2.q ht).symm, g.2.1.symm, g.2.2.symm⟩
theorem s_rebuild {Q : Int32 → Te → Prop} {sp : Sp} {d v : Nat} (hT : tTe T te) (hn : tn T ≤ 48) (hw : wy T R x d) (hv : v < tn T) (hp : ∀ i, i < d → tsp T R x sp i) (h1 : tn (chn T R x d v d).1 ≤ 48 → ∀ te', tTe (chn T R x d v d).1 te' → Q (nI (chn T R x d v d).2) te') (h2 : 48 < tn (chn T R x d v d).1 → ∀ te', tTe T te' → Q mI te') : p_Sp_rebuild (nI d) (nI v) te sp Q := by
  have o := hT.1
  have hd := (hw.v o).2
  have hx1 := hw.1.1
  have bad : ∀ (E : Tab) (te2 : Te) (z : Int32), z = mI → 48 < tn (chn T R x d v d).1 → ext T E → tTe E te2 → p_Sp_rebuild_116 (nI d) (nI v) sp Q (nI (tn T)) z te2 := by
    intro E te2 z hz hb hE hE2
    subst hz
    unfold p_Sp_rebuild_116
    try simp (disch := omega) only [↓mI_e, litI, cLeT, cLeF, cLtT, cLtF, cEqF, cEqT, mE1, mE2, mL1, mL2, mL3, mL4, cIn, nI_clamp, nI_add, cMul, cSub, cM1, nar0, nar1, true_implies, false_implies, not_true_eq_false, not_false_eq_true, true_and, and_true]
    refine s_keepFirst hE2 hE.2.1 (fun te' h => h2 hb te' (h.ag rfl ?_))
    exact (tAg_cut E (tn T) (tn T)).symm.trans hE.2.2.symm
  unfold p_Sp_rebuild p_Te_count
  rw [hT.2.2.1]
  simp only [litI]
  refine forD (fun f i (y : Int32 × Te) => p_Sp_rebuild_16 (nI d) (nI v) sp Q f (nI (tn T)) y.1 i y.2) (fun k y => (tn (chn T R x d v (d - k)).1 ≤ 48 ∧ tTe (chn T R x d v (d - k)).1 y.2 ∧ y.1 = nI (chn T R x d v (d - k)).2) ∨ (y.1 = mI ∧ 48 < tn (chn T R x d v d).1 ∧ ∃ E, ext T E ∧ tTe E y.2)) d (nI v, te) (Or.inl ?_) ?_ ?_
  · rw [Nat.sub_self]
    exact ⟨hn, hT, rfl⟩
  · rintro f ⟨z, te2⟩ hz
    dsimp only at hz ⊢
    unfold p_Sp_rebuild_16
    try simp (disch := omega) only [↓mI_e, litI, cLeT, cLeF, cLtT, cLtF, cEqF, cEqT, mE1, mE2, mL1, mL2, mL3, mL4, cIn, nI_clamp, nI_add, cMul, cSub, cM1, nar0, nar1, true_implies, false_implies, not_true_eq_false, not_false_eq_true, true_and, and_true]
    rcases hz with ⟨hz1, hz2, hz3⟩ | ⟨hz1, hz2, E, hz3, hz4⟩
    · rw [Nat.sub_zero] at hz1 hz2 hz3
      have c := chn_ok o hw hv d (Nat.le_refl _) (by omega)
      have cl := c.2.1
      rw [hz3]
      unfold p_Sp_rebuild_116
      try simp (disch := omega) only [↓mI_e, litI, cLeT, cLeF, cLtT, cLtF, cEqF, cEqT, mE1, mE2, mL1, mL2, mL3, mL4, cIn, nI_clamp, nI_add, cMul, cSub, cM1, nar0, nar1, true_implies, false_implies, not_true_eq_false, not_false_eq_true, true_and, and_true]
      exact h1 hz1 te2 hz2
    · exact bad E te2 z hz1 hz2 hz3 hz4
  · rintro f i ⟨z, te2⟩ hi hz ih
    dsimp only at hz ih ⊢
    unfold p_Sp_rebuild_16
    try simp (disch := omega) only [↓mI_e, litI, cLeT, cLeF, cLtT, cLtF, cEqF, cEqT, mE1, mE2, mL1, mL2, mL3, mL4, cIn, nI_clamp, nI_add, cMul, cSub, cM1, nar0, nar1, true_implies, false_implies, not_true_eq_false, not_false_eq_true, true_and, and_true]
    rcases hz with ⟨hz1, hz2, hz3⟩ | ⟨hz1, hz2, E, hz3, hz4⟩
    · have c := chn_ok o hw hv (d - (i + 1)) (by omega) (by omega)
      have es := chn_s (U := T) (R := R) (x := x) (v := v) hi
      have hk := hw.2 i hi
      obtain ⟨vx, vb⟩ := (hw.mono (by omega : i ≤ d)).v o
      obtain ⟨p1, p2, p3⟩ := hp i hi
      have mo9 : tn (chn T R x d v (d - i)).1 ≤ tn (chn T R x d v d).1 := chn_mono (by omega)
      obtain ⟨⟨E, w⟩, ee⟩ : ∃ e, chn T R x d v (d - (i + 1)) = e := ⟨_, rfl⟩
      rw [ee] at hz1 hz2 hz3 c es
      dsimp only at hz1 hz2 hz3
      obtain ⟨hE, hw1, -, -⟩ := c
      dsimp only at hE hw1
      have f2 := ab_fit o hE hw1 vx hk
      have dd := dn_ok o vx hk
      have hxn : (trl T R x i).1 < tn T := vx.1
      have hxE : (trl T R x i).1 < tn E := by have := hE.2.1; omega
      obtain ⟨g1, g2, g3, g4⟩ := hE.f hxn
      have ep : tp E (ts T (trl T R x i).1) = tq T (trl T R x i).1 := by rw [← hE.2.2.1]; rfl
      have ht9 := o.2.2 _ hxn
      -- the end of the passage, the parts being a and b
      have fin : ∀ a b : Int32, (1 ≤ tq T (trl T R x i).1 → a = nI (ab T R (trl T R x i) w).1) → (2 ≤ tq T (trl T R x i).1 → b = nI (ab T R (trl T R x i) w).2) → p_Sp_rebuild_86 (nI d) (nI v) sp Q (fun a0 a1 a2 a3 => p_Sp_rebuild_16 (nI d) (nI v) sp Q f a0 a1 a2 a3) (nI (tn T)) (nI i) (nI (trl T R x i).1) a b te2 := by
        intro a b ha hb
        unfold p_Sp_rebuild_86
        rw [symbol_t hz2 hxE, g1]
        simp only [↓mI_e]
        refine s_foa hz2 ⟨rfl, f2, by rw [ep]; exact ha, by rw [ep]; exact hb⟩ (fun u hu => ?_) (fun no h48 => ?_) (fun no h48 te' hte' => ?_)
        · refine ih (nI u, te2) (Or.inl ?_)
          have e1 : chn T R x d v (d - i) = (E, u) := es.trans (nx_t hE.1 hu)
          rw [e1]
          exact ⟨hz1, hz2, rfl⟩
        · refine ih (mI, te2) (Or.inr ⟨rfl, ?_, E, hE, hz2⟩)
          have e1 : chn T R x d v (d - i) = (tAdd E _ _ _, tn E) := es.trans (nx_f no)
          rw [e1] at mo9
          have : tn E + 1 ≤ tn (chn T R x d v d).1 := mo9
          omega
        · refine ih (nI (tn E), te') (Or.inl ?_)
          have e1 : chn T R x d v (d - i) = (tAdd E _ _ _, tn E) := es.trans (nx_f no)
          rw [e1]
          exact ⟨show tn E + 1 ≤ 48 by omega, hte', rfl⟩
      subst hz3
      rw [p1]
      unfold p_Sp_rebuild_60
      try simp (disch := omega) only [↓mI_e, litI, cLeT, cLeF, cLtT, cLtF, cEqF, cEqT, mE1, mE2, mL1, mL2, mL3, mL4, cIn, nI_clamp, nI_add, cMul, cSub, cM1, nar0, nar1, true_implies, false_implies, not_true_eq_false, not_false_eq_true, true_and, and_true]
      rcases dd.2.2.2 with ⟨f1, -⟩ | ⟨f1, q2, -⟩
      · rw [p2 f1]
        try simp (disch := omega) only [↓mI_e, litI, cLeT, cLeF, cLtT, cLtF, cEqF, cEqT, mE1, mE2, mL1, mL2, mL3, mL4, cIn, nI_clamp, nI_add, cMul, cSub, cM1, nar0, nar1, true_implies, false_implies, not_true_eq_false, not_false_eq_true, true_and, and_true, second_t hz2 hxE]
        rw [g2, g4]
        refine fin _ _ (fun _ => by rw [ab_t f1]) (fun q => by rw [ab_t f1]; exact pc_n q)
      · rw [p3 f1]
        try simp (disch := omega) only [↓mI_e, litI, cLeT, cLeF, cLtT, cLtF, cEqF, cEqT, mE1, mE2, mL1, mL2, mL3, mL4, cIn, nI_clamp, nI_add, cMul, cSub, cM1, nar0, nar1, true_implies, false_implies, not_true_eq_false, not_false_eq_true, true_and, and_true, first_t hz2 hxE]
        rw [g2, g3]
        refine fin _ _ (fun q => by rw [ab_f f1]; exact pc_n q) (fun _ => by rw [ab_f f1])
    · rw [hz1]
      try simp (disch := omega) only [↓mI_e, litI, cLeT, cLeF, cLtT, cLtF, cEqF, cEqT, mE1, mE2, mL1, mL2, mL3, mL4, cIn, nI_clamp, nI_add, cMul, cSub, cM1, nar0, nar1, true_implies, false_implies, not_true_eq_false, not_false_eq_true, true_and, and_true]
      exact bad E te2 mI rfl hz2 hz3 hz4
theorem s_targetOf {Q : Int32 → Te → Sp → Prop} {sp : Sp} (hT : tTe T te) (hn : tn T ≤ 48) (hr : rRu R ru) (ho : rOk T R) (hv : vl T R x) (h9 : x.2 < 1000) (hQ : ∀ d r, wy T R x d → (trl T R x d).2 < lc R (trl T R x d).1 → rkR R (trl T R x d).1 (trl T R x d).2 r → (tn (chn T R x d (rr R r) d).1 ≤ 48 → ∀ te' sp', tTe (chn T R x d (rr R r) d).1 te' → Q (nI (chn T R x d (rr R r) d).2) te' sp') ∧ (48 < tn (chn T R x d (rr R r) d).1 → ∀ te' sp', tTe T te' → Q mI te' sp')) : p_Sp_targetOf (nI x.1) (nI x.2) te ru sp Q := by
  have o := hT.1
  have hvx := hv.1
  unfold p_Sp_targetOf
  refine s_countAll hT hn hr ho (fun g hg => ?_)
  refine loop_m (fun f (y : Int32 × Int32 × Int64 × Sp) => p_Sp_targetOf_13 (nI x.1) (nI x.2) ru Q f y.1 y.2.1 y.2.2.1 te y.2.2.2) (fun y => ∃ i, wy T R x i ∧ (trl T R x i).2 < 1000 ∧ y.1 = nI (trl T R x i).1 ∧ y.2.1 = nI i ∧ y.2.2.1 = lN (trl T R x i).2 ∧ (∀ k, k < tn T → Sp_counts y.2.2.2 k = lN (cnt T R k)) ∧ ∀ k, k < i → tsp T R x y.2.2.2 k) (fun y => 1000 - y.2.1.toNatClampNeg) ?_ (nI x.1, 0, (nI x.2).toInt64, Sp_counts_s sp g) ⟨0, ⟨hv, fun i hi => by omega⟩, h9, rfl, rfl, nI_l (by omega), hg, fun k hk => by omega⟩
  rintro f ⟨y1, y2, y3, ⟨pc0, pp, pw⟩⟩ ⟨i, hw, hlt, e1, e2, e3, hc, hp⟩ ih
  dsimp only at e1 e2 e3 hc hp ih ⊢
  subst e1 e2 e3
  obtain ⟨hv1, hv2⟩ := hw.v o
  obtain ⟨p, k, e⟩ : ∃ p k, trl T R x i = (p, k) := ⟨_, _, rfl⟩
  have hwq := hQ i
  have hws := hw.s
  have hdn := dn_ok o hv1
  have etr : trl T R x (i + 1) = dn T R (trl T R x i) := rfl
  rw [e] at hv1 hv2 hwq hws hdn etr hlt ⊢
  dsimp only at hv2 hwq hws hdn hlt ⊢
  have hp1 : p < tn T := hv1.1
  have hk1 : k < wc T R p := hv1.2
  have l8 := lc_le ho p
  unfold p_Sp_targetOf_13
  try simp (disch := omega) only [↓mI_e, litI, cLeT, cLeF, cLtT, cLtF, cEqF, cEqT, mE1, mE2, mL1, mL2, mL3, mL4, cIn, nI_clamp, nI_add, cMul, cSub, cM1, nar0, nar1, true_implies, false_implies, not_true_eq_false, not_false_eq_true, true_and, and_true]
  refine s_countAt hr ho (by omega) (by omega) ?_
  rw [nI_l (by omega), show (lg_cmp (lN k) (lN (lc R p)) < nI 0) = (k < lc R p) from propext ((lg_cmp_lt _ _).trans (pk_lLT (by omega) (by omega)))]
  refine ⟨fun hk => ?_, fun hk => ?_⟩
  · obtain ⟨r, hrk⟩ := rkR_ex hk
    have hrr := (ho.2 r hrk.1).2.1
    obtain ⟨q1, q2⟩ := hwq r hw hk hrk
    unfold p_Sp_targetOf_151
    rw [lN_i]
    refine s_rightAt hr ho (by omega) (by omega) hrk ?_
    exact s_rebuild hT hn hw hrr hp (fun h te' h' => q1 h te' _ h') (fun h te' h' => q2 h te' _ h')
  · obtain ⟨q1, dv, dlt, dc⟩ := hdn (by omega)
    have hw' := hws (by omega)
    have hle := (hw'.v o).2
    have hta := (o.2.2 p hp1).2.2.2.1 q1
    have eca := cnt_cap (R := R) o (show ta T p < tn T by omega)
    have cb := cnt_bd o hn ho (show ta T p < tn T by omega)
    have eca' : min 1000000000 (cnt T R (ta T p)) = wc T R (ta T p) := eca
    refine s_countAt hr ho (by omega) (by omega) ?_
    rw [first_t hT hp1, nI_l (by omega), lN_sub (by omega)]
    try simp (disch := omega) only [↓mI_e, litI, cLeT, cLeF, cLtT, cLtF, cEqF, cEqT, mE1, mE2, mL1, mL2, mL3, mL4, cIn, nI_clamp, nI_add, cMul, cSub, cM1, nar0, nar1, true_implies, false_implies, not_true_eq_false, not_false_eq_true, true_and, and_true]
    refine nm_e ?_
    refine s_countIn (T := T) (R := R) (fun h => ⟨by omega, hc _ (by omega)⟩) ?_
    have ecin : cin T R 1 (tq T p) (ta T p) = cnt T R (ta T p) := if_pos q1
    rw [ecin, show (nI 0 ≤ lg_cmp (lN (k - lc R p)) (lN (cnt T R (ta T p)))) = (cnt T R (ta T p) ≤ k - lc R p) from propext ((lg_cmp_ge _ _).trans (pk_lLE (by omega) (by omega)))]
    -- what follows
    have go : ∀ (b : Nat), (fs T R (p, k) → b = 1) → (¬ fs T R (p, k) → b = 0) → p_Sp_targetOf_13 (nI x.1) (nI x.2) ru Q f (nI (dn T R (p, k)).1) (nI (i + 1)) (lN (dn T R (p, k)).2) te (pc0, upd pp i (nI p), upd pw i (nI b)) := by
      intro b f1 f2
      refine ih (nI (dn T R (p, k)).1, nI (i + 1), lN (dn T R (p, k)).2, (pc0, upd pp i (nI p), upd pw i (nI b))) ⟨i + 1, hw', ?_, by rw [etr], rfl, by rw [etr], hc, fun q hq => ?_⟩ ?_
      · rw [etr]
        rcases dc with ⟨-, ed⟩ | ⟨-, -, ed⟩
        · rw [ed]; dsimp only; omega
        · rw [ed]; dsimp only; omega
      · dsimp only
        unfold tsp
        by_cases eq : q = i
        · subst eq
          rw [e]
          exact ⟨pk_us, fun h => by rw [← f1 h]; exact pk_us, fun h => by rw [← f2 h]; exact pk_us⟩
        · obtain ⟨t1, t2, t3⟩ := hp q (by omega)
          exact ⟨(pk_un eq).trans t1, fun h => (pk_un eq).trans (t2 h), fun h => (pk_un eq).trans (t3 h)⟩
      · dsimp only
        rw [nI_clamp (by omega), nI_clamp (by omega)]
        omega
    rcases dc with ⟨f1, ed⟩ | ⟨f1, q2, ed⟩
    · have f2 : k - lc R p < wc T R (ta T p) := f1
      have f3 : ¬ cnt T R (ta T p) ≤ k - lc R p := by omega
      have g := go 1 (fun _ => rfl) (fun h => absurd f1 h)
      rw [ed] at g
      simp only [f3, false_implies, true_and, not_false_eq_true, true_implies]
      unfold p_Sp_targetOf_95 p_Sp_targetOf_118
      try simp (disch := omega) only [↓mI_e, litI, cLeT, cLeF, cLtT, cLtF, cEqF, cEqT, mE1, mE2, mL1, mL2, mL3, mL4, cIn, nI_clamp, nI_add, cMul, cSub, cM1, nar0, nar1, true_implies, false_implies, not_true_eq_false, not_false_eq_true, true_and, and_true, upd_s]
      refine nm_e ?_
      dsimp only [Sp_counts, Sp_path, Sp_wentFirst, Sp_counts_s, Sp_path_s, Sp_wentFirst_s]
      try simp (disch := omega) only [↓mI_e, litI, cLeT, cLeF, cLtT, cLtF, cEqF, cEqT, mE1, mE2, mL1, mL2, mL3, mL4, cIn, nI_clamp, nI_add, cMul, cSub, cM1, nar0, nar1, true_implies, false_implies, not_true_eq_false, not_false_eq_true, true_and, and_true, upd_s]
      rw [pc_n q1]
      have e0 : lN (k - lc R p) - (0 : Int64) = lN (k - lc R p) := lN_sub (Nat.zero_le _)
      rw [e0]
      exact g
    · have f2 : ¬ k - lc R p < wc T R (ta T p) := f1
      have f3 : cnt T R (ta T p) ≤ k - lc R p := by omega
      have f4 : wc T R (ta T p) = cnt T R (ta T p) := by omega
      have g := go 0 (fun h => absurd h f1) (fun _ => rfl)
      rw [ed, f4] at g
      simp only [f3, true_implies, not_true_eq_false, false_implies, and_true]
      unfold p_Sp_targetOf_95 p_Sp_targetOf_118
      try simp (disch := omega) only [↓mI_e, litI, cLeT, cLeF, cLtT, cLtF, cEqF, cEqT, mE1, mE2, mL1, mL2, mL3, mL4, cIn, nI_clamp, nI_add, cMul, cSub, cM1, nar0, nar1, true_implies, false_implies, not_true_eq_false, not_false_eq_true, true_and, and_true, upd_s]
      refine nm_e ?_
      dsimp only [Sp_counts, Sp_path, Sp_wentFirst, Sp_counts_s, Sp_path_s, Sp_wentFirst_s]
      try simp (disch := omega) only [↓mI_e, litI, cLeT, cLeF, cLtT, cLtF, cEqF, cEqT, mE1, mE2, mL1, mL2, mL3, mL4, cIn, nI_clamp, nI_add, cMul, cSub, cM1, nar0, nar1, true_implies, false_implies, not_true_eq_false, not_false_eq_true, true_and, and_true, upd_s]
      refine s_countIn (T := T) (R := R) (fun h => ⟨by omega, hc _ (by omega)⟩) ?_
      rw [ecin, second_t hT hp1, pc_n q2, lN_sub (by omega)]
      exact g
/-- the reference, the step being there -/
theorem s_stepM {Q : Int32 → Mo → Prop} (hM : tMo T mo) (hr : rMo R mo) (ho : rOk T R) (hv : vl T R x) (h9 : x.2 < 1000) {d r : Nat} (hw : wy T R x d) (hd : (trl T R x d).2 < lc R (trl T R x d).1) (hrk : rkR R (trl T R x d).1 (trl T R x d).2 r) (h1 : tn (chn T R x d (rr R r) d).1 ≤ 48 → ∀ m, tMo (chn T R x d (rr R r) d).1 m → mKr mo m → Mo_thrown m = nI 0 → Q (nI (chn T R x d (rr R r) d).2) m) (h2 : 48 < tn (chn T R x d (rr R r) d).1 → ∀ m, mKp mo m → Mo_thrown m = nI 2 → Q (nI 0) m) : p_Mo_step (nI x.1) (nI x.2) mo Q := by
  have hn := hM.2.1
  have o := hM.1
  have hvx := hv.1
  have hk9 : x.2 < wc T R x.1 := hv.2
  have hwc := wc_le T R x.1
  have hrr := (ho.2 r hrk.1).2.1
  have hdx := (hw.v o).2
  unfold p_Mo_step
  try simp (disch := omega) only [↓mI_e, litI, cLeT, cLeF, cLtT, cLtF, cEqF, cEqT, mE1, mE2, mL1, mL2, mL3, mL4, cIn, nI_clamp, nI_add, cMul, cSub, cM1, nar0, nar1, true_implies, false_implies, not_true_eq_false, not_false_eq_true, true_and, and_true, term_t hM]
  unfold p_Mo_step_25
  intro m1 e1
  have k1 : mKp mo m1 := by rw [e1]; exact thr_k mo _
  have t1 : Mo_thrown m1 = nI 0 := by subst e1; rfl
  clear e1
  rw [t1]
  try simp (disch := omega) only [↓mI_e, litI, cLeT, cLeF, cLtT, cLtF, cEqF, cEqT, mE1, mE2, mL1, mL2, mL3, mL4, cIn, nI_clamp, nI_add, cMul, cSub, cM1, nar0, nar1, true_implies, false_implies, not_true_eq_false, not_false_eq_true, true_and, and_true]
  refine s_steps (hM.kp k1) (hr.kp k1) ho hvx (fun g hg => ?_)
  have k2 : mKp mo (Mo_many_s m1 g) := many_k k1 g
  have t2 : Mo_thrown (Mo_many_s m1 g) = nI 0 := t1
  have g2 : Mo_many (Mo_many_s m1 g) = g := rfl
  obtain ⟨m2, em2⟩ : ∃ m, Mo_many_s m1 g = m := ⟨_, rfl⟩
  rw [em2] at k2 t2 g2 ⊢
  clear em2
  have hk9' : x.2 < wt T 1000000000 (lc R) x.1 := hk9
  have hwc' : wt T 1000000000 (lc R) x.1 ≤ 1000000000 := hwc
  try simp (disch := omega) only [↓mI_e, litI, cLeT, cLeF, cLtT, cLtF, cEqF, cEqT, mE1, mE2, mL1, mL2, mL3, mL4, cIn, nI_clamp, nI_add, cMul, cSub, cM1, nar0, nar1, true_implies, false_implies, not_true_eq_false, not_false_eq_true, true_and, and_true]
  unfold p_Mo_step_52
  intro m3 e3
  have k3 : mKp mo m3 := by rw [e3]; exact thr_kk k2 _
  have t3 : Mo_thrown m3 = nI 0 := by subst e3; rfl
  have g3 : Mo_many m3 = g := by subst e3; exact g2
  clear e3
  rw [t3]
  try simp (disch := omega) only [↓mI_e, litI, cLeT, cLeF, cLtT, cLtF, cEqF, cEqT, mE1, mE2, mL1, mL2, mL3, mL4, cIn, nI_clamp, nI_add, cMul, cSub, cM1, nar0, nar1, true_implies, false_implies, not_true_eq_false, not_false_eq_true, true_and, and_true]
  have hS3 := (hM.kp k3).s
  have ex : nI x.1 = nI (ix (tn T) x.1) := by rw [ix_lt hvx]
  have dwn : p_Mo_down (nI (ix (tn T) x.1)) (nI x.2) m3 (fun r71 mo71 => (vp_in r71 8 ∧ p_Mo_depth mo71 (fun r77 => (∃ f, p_Mo_step_94 (nI x.1) (nI x.2) Q f (Mo_right mo71 r71.toNatClampNeg) r77 (Mo_right mo71 r71.toNatClampNeg) (0 : Int32) (r77 - (1 : Int32)) mo71)))) := by
    refine s_down hS3 (hr.kp k3) ho hv (fun i hi => ?_) (fun d' r' m hw' hd' hrk' km dm pd hp => ?_)
    · rw [g3, ix_lt (by omega)]
      exact hg i hi
    · -- the way is the same
      have edd : d' = d := by
        rcases Nat.lt_trichotomy d' d with q | q | q
        · have := hw.2 d' q
          omega
        · exact q
        · have := hw'.2 d q
          omega
      subst edd
      have er : r' = r := hrk'.uniq hrk
      subst er
      have hr8 := hrk.1
      have h8 := ho.1
      have k4 : mKp mo m := k3.trans km
      have t4 : Mo_thrown m = nI 0 := dm.1.trans t3
      have hM4 := hM.kp k4
      have hr4 := hr.kp k4
      clear km dm
      have hpd : ∀ i, i < d' → Mo_path m i = nI (trl T R x i).1 := by
        intro i hi
        rw [(hp i hi).1, ix_lt]
        exact ((hw.mono (by omega : i ≤ d')).v o).1.1
      have hcn : ∀ j, j ≤ d' → chOk T (chn T R x d' (rr R r') j) := fun j hj => chn_ok o hw hrr j hj (by have := chn_bd (U := T) (R := R) (x := x) (d := d') (v := rr R r') j; omega)
      try simp (disch := omega) only [↓mI_e, litI, cLeT, cLeF, cLtT, cLtF, cEqF, cEqT, mE1, mE2, mL1, mL2, mL3, mL4, cIn, nI_clamp, nI_add, cMul, cSub, cM1, nar0, nar1, true_implies, false_implies, not_true_eq_false, not_false_eq_true, true_and, and_true]
      rw [hr4.2.2 r' hr8]
      refine s_depth (by omega) pd (fun i hi => ⟨_, ?_, hpd i hi⟩) ?_
      · have := ((hw.mono (by omega : i ≤ d')).v o).1.1
        omega
      refine forD (fun f i (y : Int32 × Int32) => p_Mo_step_94 (nI x.1) (nI x.2) Q f (nI (rr R r')) (nI d') y.1 y.2 i m) (fun k y => y.2 = nI (tn (chn T R x d' (rr R r') (d' - k)).1 - tn T) ∧ (tn (chn T R x d' (rr R r') (d' - k)).1 = tn T → y.1 = nI (chn T R x d' (rr R r') (d' - k)).2)) d' (nI (rr R r'), nI 0) ⟨?_, ?_⟩ ?_ ?_
      · rw [Nat.sub_self]
        show nI 0 = nI (tn T - tn T)
        rw [Nat.sub_self]
      · rw [Nat.sub_self]
        exact fun _ => rfl
      · rintro f ⟨z1, z2⟩ ⟨hz1, hz2⟩
        dsimp only at hz1 hz2 ⊢
        rw [Nat.sub_zero] at hz1
        have bd := chn_bd (U := T) (R := R) (x := x) (d := d') (v := rr R r') d'
        have mn : tn T ≤ tn (chn T R x d' (rr R r') d').1 := chn_mono (i := 0) (by omega)
        unfold p_Mo_step_94
        rw [hz1, hM4.2.2.1]
        by_cases h48 : tn (chn T R x d' (rr R r') d').1 ≤ 48
        · try simp (disch := omega) only [↓mI_e, litI, cLeT, cLeF, cLtT, cLtF, cEqF, cEqT, mE1, mE2, mL1, mL2, mL3, mL4, cIn, nI_clamp, nI_add, cMul, cSub, cM1, nar0, nar1, true_implies, false_implies, not_true_eq_false, not_false_eq_true, true_and, and_true]
          unfold p_Mo_step_215
          intro m5 e5
          have k5 : mKp mo m5 := by rw [e5]; exact thr_kk k4 _
          have t5 : Mo_thrown m5 = nI 0 := by subst e5; rfl
          have p5 : Mo_path m5 = Mo_path m := by subst e5; rfl
          have s5 : Mo_side m5 = Mo_side m := by subst e5; rfl
          clear e5
          rw [t5]
          try simp (disch := omega) only [↓mI_e, litI, cLeT, cLeF, cLtT, cLtF, cEqF, cEqT, mE1, mE2, mL1, mL2, mL3, mL4, cIn, nI_clamp, nI_add, cMul, cSub, cM1, nar0, nar1, true_implies, false_implies, not_true_eq_false, not_false_eq_true, true_and, and_true]
          refine forD (fun f i (y : Int32 × Mo) => p_Mo_step_236 (nI x.1) (nI x.2) Q f y.1 i y.2) (fun k y => y.1 = nI (chn T R x d' (rr R r') (d' - k)).2 ∧ tMo (chn T R x d' (rr R r') (d' - k)).1 y.2 ∧ mKr mo y.2 ∧ Mo_thrown y.2 = nI 0 ∧ Mo_path y.2 = Mo_path m ∧ Mo_side y.2 = Mo_side m) d' (nI (rr R r'), m5) ?_ ?_ ?_
          · rw [Nat.sub_self]
            exact ⟨rfl, hM.kp k5, k5.r, t5, p5, s5⟩
          · rintro f ⟨w1, m6⟩ ⟨u1, u2, u3, u4, -, -⟩
            dsimp only at u1 u2 u3 u4 ⊢
            rw [Nat.sub_zero] at u1 u2
            unfold p_Mo_step_236
            try simp (disch := omega) only [↓mI_e, litI, cLeT, cLeF, cLtT, cLtF, cEqF, cEqT, mE1, mE2, mL1, mL2, mL3, mL4, cIn, nI_clamp, nI_add, cMul, cSub, cM1, nar0, nar1, true_implies, false_implies, not_true_eq_false, not_false_eq_true, true_and, and_true]
            rw [u1]
            exact h1 h48 m6 u2 u3 u4
          · rintro f i ⟨w1, m6⟩ hi ⟨u1, u2, u3, u4, u5, u6⟩ ih
            dsimp only at u1 u2 u3 u4 u5 u6 ih ⊢
            have c := hcn (d' - (i + 1)) (by omega)
            have es := chn_s (U := T) (R := R) (x := x) (v := rr R r') hi
            have hk := hw.2 i hi
            obtain ⟨vx, vb⟩ := (hw.mono (by omega : i ≤ d')).v o
            have mo9 : tn (chn T R x d' (rr R r') (d' - i)).1 ≤ tn (chn T R x d' (rr R r') d').1 := chn_mono (by omega)
            obtain ⟨⟨E, w⟩, ee⟩ : ∃ e, chn T R x d' (rr R r') (d' - (i + 1)) = e := ⟨_, rfl⟩
            rw [ee] at u1 u2 c es
            dsimp only at u1 u2
            obtain ⟨hE, hw1, -, -⟩ := c
            dsimp only at hE hw1
            have f2 := ab_fit o hE hw1 vx hk
            have dd := dn_ok o vx hk
            have hxn : (trl T R x i).1 < tn T := vx.1
            have hEn := hE.2.1
            have hE48 := u2.2.1
            have hxE : (trl T R x i).1 < tn E := by omega
            obtain ⟨g1, g2, g3, g4⟩ := hE.f hxn
            have ep : tp E (ts T (trl T R x i).1) = tq T (trl T R x i).1 := by rw [← hE.2.2.1]; rfl
            have pi6 : Mo_path m6 i = nI (trl T R x i).1 := by rw [u5]; exact hpd i hi
            have fin : ∀ a b : Int32, a = pc 1 (tq T (trl T R x i).1) (ab T R (trl T R x i) w).1 → b = pc 2 (tq T (trl T R x i).1) (ab T R (trl T R x i) w).2 → p_Mo_step_304 (nI x.1) (nI x.2) Q (fun a0 a1 a2 => p_Mo_step_236 (nI x.1) (nI x.2) Q f a0 a1 a2) (nI i) b a (nI (ts T (trl T R x i).1)) m6 := by
              intro a b ha hb
              unfold p_Mo_step_304
              simp only [↓mI_e]
              refine s_make u2 f2 (by rw [ep]; exact ha) (by rw [ep]; exact hb) (fun u hu => ?_) (fun no => ⟨?_, fun mo' q1 q2 q3 q4 q5 => ?_⟩)
              · have e1 : chn T R x d' (rr R r') (d' - i) = (E, u) := es.trans (nx_t hE.1 hu)
                refine ih (nI u, m6) ?_
                rw [e1]
                exact ⟨rfl, u2, u3, u4, u5, u6⟩
              · have e1 : chn T R x d' (rr R r') (d' - i) = (tAdd E _ _ _, tn E) := es.trans (nx_f no)
                rw [e1] at mo9
                have : tn E + 1 ≤ tn (chn T R x d' (rr R r') d').1 := mo9
                omega
              · have e1 : chn T R x d' (rr R r') (d' - i) = (tAdd E _ _ _, tn E) := es.trans (nx_f no)
                refine ih (nI (tn E), mo') ?_
                rw [e1]
                exact ⟨rfl, q1, u3.trans q2, q3.trans u4, q4.trans u5, q5.trans u6⟩
            unfold p_Mo_step_236 p_Mo_step_281
            rw [u1]
            try simp (disch := omega) only [↓mI_e, litI, cLeT, cLeF, cLtT, cLtF, cEqF, cEqT, mE1, mE2, mL1, mL2, mL3, mL4, cIn, nI_clamp, nI_add, cMul, cSub, cM1, nar0, nar1, true_implies, false_implies, not_true_eq_false, not_false_eq_true, true_and, and_true]
            rw [pi6]
            try simp (disch := omega) only [↓mI_e, litI, cLeT, cLeF, cLtT, cLtF, cEqF, cEqT, mE1, mE2, mL1, mL2, mL3, mL4, cIn, nI_clamp, nI_add, cMul, cSub, cM1, nar0, nar1, true_implies, false_implies, not_true_eq_false, not_false_eq_true, true_and, and_true]
            rw [u2.2.2.2.2.1 _ hxE, u2.2.2.2.2.2.1 _ hxE, u2.2.2.2.2.2.2 _ hxE, g1, g2, g3, g4, u6]
            rcases dd.2.2.2 with ⟨f1, -⟩ | ⟨f1, q2, -⟩
            · rw [(hp i hi).2.1 f1]
              try simp (disch := omega) only [↓mI_e, litI, cLeT, cLeF, cLtT, cLtF, cEqF, cEqT, mE1, mE2, mL1, mL2, mL3, mL4, cIn, nI_clamp, nI_add, cMul, cSub, cM1, nar0, nar1, true_implies, false_implies, not_true_eq_false, not_false_eq_true, true_and, and_true]
              exact fin _ _ (by rw [ab_t f1, pc_n dd.1]) (by rw [ab_t f1])
            · rw [(hp i hi).2.2 f1]
              try simp (disch := omega) only [↓mI_e, litI, cLeT, cLeF, cLtT, cLtF, cEqF, cEqT, mE1, mE2, mL1, mL2, mL3, mL4, cIn, nI_clamp, nI_add, cMul, cSub, cM1, nar0, nar1, true_implies, false_implies, not_true_eq_false, not_false_eq_true, true_and, and_true]
              exact fin _ _ (by rw [ab_f f1]) (by rw [ab_f f1, pc_n q2])
        · try simp (disch := omega) only [↓mI_e, litI, cLeT, cLeF, cLtT, cLtF, cEqF, cEqT, mE1, mE2, mL1, mL2, mL3, mL4, cIn, nI_clamp, nI_add, cMul, cSub, cM1, nar0, nar1, true_implies, false_implies, not_true_eq_false, not_false_eq_true, true_and, and_true]
          unfold p_Mo_step_215
          intro m5 e5
          have k5 : mKp mo m5 := by rw [e5]; exact thr_kk k4 _
          have t5 : Mo_thrown m5 = nI 2 := by subst e5; rfl
          clear e5
          rw [t5]
          try simp (disch := omega) only [↓mI_e, litI, cLeT, cLeF, cLtT, cLtF, cEqF, cEqT, mE1, mE2, mL1, mL2, mL3, mL4, cIn, nI_clamp, nI_add, cMul, cSub, cM1, nar0, nar1, true_implies, false_implies, not_true_eq_false, not_false_eq_true, true_and, and_true]
          exact h2 (by omega) m5 k5 t5
      · rintro f i ⟨z1, z2⟩ hi ⟨hz1, hz2⟩ ih
        dsimp only at hz1 hz2 ih ⊢
        have c := hcn (d' - (i + 1)) (by omega)
        have c' := hcn (d' - i) (by omega)
        have es := chn_s (U := T) (R := R) (x := x) (v := rr R r') hi
        have bd := chn_bd (U := T) (R := R) (x := x) (d := d') (v := rr R r') (d' - (i + 1))
        have bd' := chn_bd (U := T) (R := R) (x := x) (d := d') (v := rr R r') (d' - i)
        have gr := chn_gr o hw hrr hi (by omega)
        have hk := hw.2 i hi
        obtain ⟨vx, vb⟩ := (hw.mono (by omega : i ≤ d')).v o
        obtain ⟨⟨E, w⟩, ee⟩ : ∃ e, chn T R x d' (rr R r') (d' - (i + 1)) = e := ⟨_, rfl⟩
        rw [ee] at hz1 hz2 c es gr bd
        dsimp only at hz1 hz2 gr bd
        obtain ⟨hE, hw1, heq, -⟩ := c
        dsimp only at hE hw1 heq
        have hEn := hE.2.1
        have dd := dn_ok o vx hk
        have hxn : (trl T R x i).1 < tn T := vx.1
        unfold p_Mo_step_94
        by_cases hq : tn E = tn T
        · have e9 := heq hq
          subst e9
          have f2 := ab_fit o hE hw1 vx hk
          have fl := f2.lt o
          have fin : ∀ a b : Int32, a = pc 1 (tq E (trl E R x i).1) (ab E R (trl E R x i) w).1 → b = pc 2 (tq E (trl E R x i).1) (ab E R (trl E R x i) w).2 → p_Mo_step_171 (nI x.1) (nI x.2) Q (fun a0 a1 a2 a3 a4 a5 => p_Mo_step_94 (nI x.1) (nI x.2) Q f a0 a1 a2 a3 a4 a5) (nI (rr R r')) (nI d') (nI 0) (nI i) b a (nI (ts E (trl E R x i).1)) m := by
            intro a b ha hb
            unfold p_Mo_step_171
            refine s_known hM4 f2.1 f2.2.1 f2.2.2.1 (by omega) (by omega) ha hb (fun q hq => ?_)
            unfold p_Mo_step_174
            rcases hq with ⟨u, hu, rfl⟩ | ⟨rfl, no⟩
            · have e1 : chn E R x d' (rr R r') (d' - i) = (E, u) := es.trans (nx_t o hu)
              have hul := hu.1
              try simp (disch := omega) only [↓mI_e, litI, cLeT, cLeF, cLtT, cLtF, cEqF, cEqT, mE1, mE2, mL1, mL2, mL3, mL4, cIn, nI_clamp, nI_add, cMul, cSub, cM1, nar0, nar1, true_implies, false_implies, not_true_eq_false, not_false_eq_true, true_and, and_true]
              refine ih (nI u, nI (0 + 0)) ?_
              rw [e1]
              exact ⟨by dsimp only; rw [Nat.sub_self], fun _ => rfl⟩
            · have e1 : chn E R x d' (rr R r') (d' - i) = (tAdd E _ _ _, tn E) := es.trans (nx_f no)
              try simp (disch := omega) only [↓mI_e, litI, cLeT, cLeF, cLtT, cLtF, cEqF, cEqT, mE1, mE2, mL1, mL2, mL3, mL4, cIn, nI_clamp, nI_add, cMul, cSub, cM1, nar0, nar1, true_implies, false_implies, not_true_eq_false, not_false_eq_true, true_and, and_true]
              refine ih (mI, nI (0 + 1)) ?_
              rw [e1]
              exact ⟨congrArg nI (show 0 + 1 = tn E + 1 - tn E by omega), fun q => absurd (show tn E + 1 = tn E from q) (by omega)⟩
          rw [hz1, hz2 rfl]
          unfold p_Mo_step_148
          rw [Nat.sub_self]
          try simp (disch := omega) only [↓mI_e, litI, cLeT, cLeF, cLtT, cLtF, cEqF, cEqT, mE1, mE2, mL1, mL2, mL3, mL4, cIn, nI_clamp, nI_add, cMul, cSub, cM1, nar0, nar1, true_implies, false_implies, not_true_eq_false, not_false_eq_true, true_and, and_true]
          rw [hpd i hi]
          try simp (disch := omega) only [↓mI_e, litI, cLeT, cLeF, cLtT, cLtF, cEqF, cEqT, mE1, mE2, mL1, mL2, mL3, mL4, cIn, nI_clamp, nI_add, cMul, cSub, cM1, nar0, nar1, true_implies, false_implies, not_true_eq_false, not_false_eq_true, true_and, and_true]
          rw [hM4.2.2.2.2.1 _ hxn, hM4.2.2.2.2.2.1 _ hxn, hM4.2.2.2.2.2.2 _ hxn]
          rcases dd.2.2.2 with ⟨f1, -⟩ | ⟨f1, q2, -⟩
          · rw [(hp i hi).2.1 f1]
            try simp (disch := omega) only [↓mI_e, litI, cLeT, cLeF, cLtT, cLtF, cEqF, cEqT, mE1, mE2, mL1, mL2, mL3, mL4, cIn, nI_clamp, nI_add, cMul, cSub, cM1, nar0, nar1, true_implies, false_implies, not_true_eq_false, not_false_eq_true, true_and, and_true]
            exact fin _ _ (by rw [ab_t f1, pc_n dd.1]) (by rw [ab_t f1])
          · rw [(hp i hi).2.2 f1]
            try simp (disch := omega) only [↓mI_e, litI, cLeT, cLeF, cLtT, cLtF, cEqF, cEqT, mE1, mE2, mL1, mL2, mL3, mL4, cIn, nI_clamp, nI_add, cMul, cSub, cM1, nar0, nar1, true_implies, false_implies, not_true_eq_false, not_false_eq_true, true_and, and_true]
            exact fin _ _ (by rw [ab_f f1]) (by rw [ab_f f1, pc_n q2])
        · have g := gr (by omega)
          rw [hz1]
          unfold p_Mo_step_174
          try simp (disch := omega) only [↓mI_e, litI, cLeT, cLeF, cLtT, cLtF, cEqF, cEqT, mE1, mE2, mL1, mL2, mL3, mL4, cIn, nI_clamp, nI_add, cMul, cSub, cM1, nar0, nar1, true_implies, false_implies, not_true_eq_false, not_false_eq_true, true_and, and_true]
          refine ih (mI, nI (tn E - tn T + 1)) ⟨congrArg nI ?_, fun q => ?_⟩
          · rw [g]; omega
          · rw [g] at q; omega
  rw [← ex] at dwn
  simp only [litI] at dwn
  exact dwn
theorem s_stepM_bad {Q : Int32 → Mo → Prop} {x1 x2 : Int32} (hQ : Q (nI 0) (Mo_thrown_s mo (nI 1))) : p_Mo_step_20 x1 x2 Q mo := by
  unfold p_Mo_step_20 p_Mo_step_25
  intro m e
  have t : Mo_thrown m = nI 1 := by subst e; rfl
  rw [t]
  try simp (disch := omega) only [↓mI_e, litI, cLeT, cLeF, cLtT, cLtF, cEqF, cEqT, mE1, mE2, mL1, mL2, mL3, mL4, cIn, nI_clamp, nI_add, cMul, cSub, cM1, nar0, nar1, true_implies, false_implies, not_true_eq_false, not_false_eq_true, true_and, and_true]
  rw [e]
  exact hQ
end
section
variable {j : Nat} {T : Tab} {R : Rul} {A : Aut} {F : Nat} {te : Te} {ru : Ru} {au : Au} {re : Re} {la : La} {sp : Sp} {le : Le} {mo : Mo} {a1 a2 a3 a4 : Int32}
theorem xIB_neS : ¬ xIS = xIB := by decide
theorem q_13 (h : InvW j T R A F (te, ru, au, re, la, sp, le) mo) : ls_13 a1 a2 a3 a4 te ru au re la sp le mo (Inv (j + 1)) := by
  have hT := h.t
  have hM := h.1.2
  have hn := hM.2.1
  have o := hM.1
  obtain ⟨ho, hru, hrm⟩ := h.2.1
  unfold ls_13 p_Gr_step
  have bad : ∀ sp', p_Mo_step a1 a2 mo (fun b mo' => p_Mo_thrown mo' (fun t => t = nI 1 ∧ Inv (j + 1) (te, ru, au, re, la, sp', le) mo')) → ((xIB = xIB ∨ xIB = xIS) ∧ p_Mo_step a1 a2 mo (fun b mo' => p_Mo_thrown mo' (fun t => t = (if xIB = xIB then (1 : Int32) else 2) ∧ Inv (j + 1) (te, ru, au, re, la, sp', le) mo'))) := by
    intro sp' k
    refine ⟨Or.inl rfl, ?_⟩
    rw [if_pos rfl]
    exact k
  have badT : ∀ sp', p_Mo_step a1 a2 mo (fun b mo' => p_Mo_thrown mo' (fun t => t = nI 1 ∧ Inv (j + 1) (te, ru, au, re, la, sp', le) mo')) → ((True ∨ xIB = xIS) ∧ p_Mo_step a1 a2 mo (fun b mo' => p_Mo_thrown mo' (fun t => t = (if True then nI 1 else nI 2) ∧ Inv (j + 1) (te, ru, au, re, la, sp', le) mo'))) := by
    intro sp' k
    refine ⟨Or.inl trivial, ?_⟩
    rw [if_pos trivial]
    exact k
  have b20 : ∀ sp' x1 x2, p_Mo_step_20 x1 x2 (fun b mo' => p_Mo_thrown mo' (fun t => t = nI 1 ∧ Inv (j + 1) (te, ru, au, re, la, sp', le) mo')) mo := fun sp' x1 x2 => s_stepM_bad ⟨rfl, h.same (thr_k mo _)⟩
  rcases ixc a1 (n := tn T) (by omega) with ⟨t, ht, rfl⟩ | ⟨-, g⟩
  · rw [made_t hT ht]
    rcases ixc a2 (n := 1000) (by omega) with ⟨k, hk, rfl⟩ | ⟨g, gn⟩
    · try simp (disch := omega) only [↓mI_e, litI, cLeT, cLeF, cLtT, cLtF, cEqF, cEqT, mE1, mE2, mL1, mL2, mL3, mL4, cIn, nI_clamp, nI_add, cMul, cSub, cM1, nar0, nar1, true_implies, false_implies, not_true_eq_false, not_false_eq_true, true_and, and_true]
      refine s_countOf hT hn hru ho ht (fun cg hcg => ?_)
      have hwl : wt T 1000000000 (lc R) t ≤ 1000000000 := wc_le T R t
      by_cases hkw : k < wt T 1000000000 (lc R) t
      · try simp (disch := omega) only [↓mI_e, litI, cLeT, cLeF, cLtT, cLtF, cEqF, cEqT, mE1, mE2, mL1, mL2, mL3, mL4, cIn, nI_clamp, nI_add, cMul, cSub, cM1, nar0, nar1, true_implies, false_implies, not_true_eq_false, not_false_eq_true, true_and, and_true]
        have hv : vl T R (t, k) := ⟨ht, hkw⟩
        refine s_targetOf (x := (t, k)) hT hn hru ho hv hk (fun d r hw hd hrk => ⟨fun h48 te' sp' hte' => ?_, fun h48 te' sp' hte' => ?_⟩)
        · have hrr := (ho.2 r hrk.1).2.1
          have c := chn_ok o hw hrr d (Nat.le_refl _) (by omega)
          have c2 := c.2.1
          try simp (disch := omega) only [↓mI_e, litI, cLeT, cLeF, cLtT, cLtF, cEqF, cEqT, mE1, mE2, mL1, mL2, mL3, mL4, cIn, nI_clamp, nI_add, cMul, cSub, cM1, nar0, nar1, true_implies, false_implies, not_true_eq_false, not_false_eq_true, true_and, and_true]
          refine s_stepM (x := (t, k)) hM hrm ho hv hk hw hd hrk (fun _ m hm kr th => ⟨th, rfl, ?_⟩) (fun q => by omega)
          exact h.upd hte' hm c.1.2.1 c.2.2.1 c.1.2.2.1.symm kr
        · try simp (disch := omega) only [↓mI_e, litI, cLeT, cLeF, cLtT, cLtF, cEqF, cEqT, mE1, mE2, mL1, mL2, mL3, mL4, cIn, nI_clamp, nI_add, cMul, cSub, cM1, nar0, nar1, true_implies, false_implies, not_true_eq_false, not_false_eq_true, true_and, and_true]
          refine ⟨Or.inr trivial, ?_⟩
          rw [if_neg xIB_neS]
          refine s_stepM (x := (t, k)) hM hrm ho hv hk hw hd hrk (fun q => by omega) (fun _ m km th => ⟨th, ?_⟩)
          exact h.kp km hte' h.a h.c
      · try simp (disch := omega) only [↓mI_e, litI, cLeT, cLeF, cLtT, cLtF, cEqF, cEqT, mE1, mE2, mL1, mL2, mL3, mL4, cIn, nI_clamp, nI_add, cMul, cSub, cM1, nar0, nar1, true_implies, false_implies, not_true_eq_false, not_false_eq_true, true_and, and_true]
        refine badT _ ?_
        unfold p_Mo_step p_Mo_step_25
        try simp (disch := omega) only [↓mI_e, litI, cLeT, cLeF, cLtT, cLtF, cEqF, cEqT, mE1, mE2, mL1, mL2, mL3, mL4, cIn, nI_clamp, nI_add, cMul, cSub, cM1, nar0, nar1, true_implies, false_implies, not_true_eq_false, not_false_eq_true, true_and, and_true, term_t hM]
        intro m1 e1
        have k1 : mKp mo m1 := by rw [e1]; exact thr_k mo _
        have t1 : Mo_thrown m1 = nI 0 := by subst e1; rfl
        clear e1
        rw [t1]
        try simp (disch := omega) only [↓mI_e, litI, cLeT, cLeF, cLtT, cLtF, cEqF, cEqT, mE1, mE2, mL1, mL2, mL3, mL4, cIn, nI_clamp, nI_add, cMul, cSub, cM1, nar0, nar1, true_implies, false_implies, not_true_eq_false, not_false_eq_true, true_and, and_true]
        refine s_steps (hM.kp k1) (hrm.kp k1) ho ht (fun g hg => ?_)
        try simp (disch := omega) only [↓mI_e, litI, cLeT, cLeF, cLtT, cLtF, cEqF, cEqT, mE1, mE2, mL1, mL2, mL3, mL4, cIn, nI_clamp, nI_add, cMul, cSub, cM1, nar0, nar1, true_implies, false_implies, not_true_eq_false, not_false_eq_true, true_and, and_true]
        unfold p_Mo_step_52
        intro m3 e3
        have k3 : mKp mo m3 := by rw [e3]; exact thr_kk (many_k k1 g) _
        have t3 : Mo_thrown m3 = nI 1 := by subst e3; rfl
        clear e3
        rw [t3]
        try simp (disch := omega) only [↓mI_e, litI, cLeT, cLeF, cLtT, cLtF, cEqF, cEqT, mE1, mE2, mL1, mL2, mL3, mL4, cIn, nI_clamp, nI_add, cMul, cSub, cM1, nar0, nar1, true_implies, false_implies, not_true_eq_false, not_false_eq_true, true_and, and_true]
        exact ⟨t3, h.same k3⟩
    · try simp (disch := omega) only [↓mI_e, litI, cLeT, cLeF, cLtT, cLtF, cEqF, cEqT, mE1, mE2, mL1, mL2, mL3, mL4, cIn, nI_clamp, nI_add, cMul, cSub, cM1, nar0, nar1, true_implies, false_implies, not_true_eq_false, not_false_eq_true, true_and, and_true]
      rcases g with g | g
      · refine ⟨fun _ => badT _ ?_, fun q => absurd g q⟩
        unfold p_Mo_step
        rw [term_t hM ht]
        refine ⟨fun q => absurd q (by decide), fun _ => ⟨fun _ => b20 _ _ _, fun q => absurd g q⟩⟩
      · have b1 : nI 999 < a2 := by
          rw [Int32.le_iff_toInt_le, nI_toInt (by omega)] at g
          rw [Int32.lt_iff_toInt_lt, nI_toInt (by omega)]
          omega
        have b2 : ¬ a2 ≤ nI 999 := by
          rw [Int32.le_iff_toInt_le, nI_toInt (by omega)] at g
          rw [Int32.le_iff_toInt_le, nI_toInt (by omega)]
          omega
        have fin := badT sp (by
          unfold p_Mo_step
          rw [term_t hM ht]
          exact ⟨fun q => absurd q (by decide), fun _ => ⟨fun _ => b20 _ _ _, fun _ => ⟨fun q => absurd q b2, fun _ => b20 _ _ _⟩⟩⟩)
        exact ⟨fun _ => fin, fun _ => ⟨fun _ => fin, fun q => absurd b1 q⟩⟩
  · rw [made_f hT g]
    refine ⟨fun _ => bad _ ?_, fun q => absurd rfl q⟩
    unfold p_Mo_step
    rw [term_f hM g]
    exact ⟨fun _ => b20 _ _ _, fun q => absurd rfl q⟩
end
