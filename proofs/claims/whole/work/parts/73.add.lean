/-! one more term; fewer terms -/
def tAdd (T : Tab) (s a b : Nat) : Tab := (tn T + 1, tp T, fun t => if t = tn T then s else ts T t, fun t => if t = tn T then a else ta T t, fun t => if t = tn T then b else tb T t)
def tCut (T : Tab) (m : Nat) : Tab := (m, tp T, ts T, ta T, tb T)
/-- two tables that agree below m -/
def tAg (m : Nat) (T T' : Tab) : Prop := tp T = tp T' ∧ ∀ t, t < m → ts T t = ts T' t ∧ ta T t = ta T' t ∧ tb T t = tb T' t
theorem tAg.q {m : Nat} {T T' : Tab} (h : tAg m T T') {t : Nat} (ht : t < m) : tq T t = tq T' t := by
  unfold tq
  rw [h.1, (h.2 t ht).1]
theorem tAg.symm {m : Nat} {T T' : Tab} (h : tAg m T T') : tAg m T' T := ⟨h.1.symm, fun t ht => ⟨(h.2 t ht).1.symm, (h.2 t ht).2.1.symm, (h.2 t ht).2.2.symm⟩⟩
theorem tAg.trans {m : Nat} {T T' T'' : Tab} (h : tAg m T T') (h' : tAg m T' T'') : tAg m T T'' := ⟨h.1.trans h'.1, fun t ht => ⟨(h.2 t ht).1.trans (h'.2 t ht).1, (h.2 t ht).2.1.trans (h'.2 t ht).2.1, (h.2 t ht).2.2.trans (h'.2 t ht).2.2⟩⟩
theorem tAg.mono {m k : Nat} {T T' : Tab} (h : tAg m T T') (hk : k ≤ m) : tAg k T T' := ⟨h.1, fun t ht => h.2 t (by omega)⟩
theorem tAg.bk {m : Nat} {T T' : Tab} (h : tAg m T T') {t : Nat} (ht : t < m) : bkt T t = bkt T' t := by
  unfold bkt
  rw [h.q ht, (h.2 t ht).1, (h.2 t ht).2.1, (h.2 t ht).2.2]
theorem tAg.ok {T T' : Tab} (h : tAg (tn T') T T') (hn : tn T' ≤ tn T) (o : tOk T) : tOk T' := by
  refine ⟨by have := o.1; omega, fun k => by rw [← h.1]; exact o.2.1 k, fun t ht => ?_⟩
  have h1 := o.2.2 t (by omega)
  have h2 := h.2 t ht
  rw [h.q ht, h2.1, h2.2.1, h2.2.2] at h1
  refine ⟨h1.1, h1.2.1, h1.2.2.1, h1.2.2.2.1, h1.2.2.2.2.1, fun s hs e1 e2 e3 => ?_⟩
  have h3 := h.2 s hs
  exact h1.2.2.2.2.2 s (by omega) (by rw [h3.1, e1]) (by rw [h3.2.1, e2]) (by rw [h3.2.2, e3])
theorem tAg.wtFe {m : Nat} {T T' : Tab} (h : tAg m T T') (o : tOk T) (hm : m ≤ tn T) {c : Nat} {b b' : Nat → Nat} (hb : ∀ t, t < m → b t = b' t) : ∀ f t, t < m → wtF T c b f t = wtF T' c b' f t := by
  intro f
  induction f with
  | zero => intro t _; rfl
  | succ f ih =>
    intro t ht
    have h3 := o.2.2 t (by omega)
    have h4 := h.2 t ht
    have e := h.q ht
    show min c (b t + (if 1 ≤ tq T t then wtF T c b f (ta T t) else 0) + (if 2 ≤ tq T t then wtF T c b f (tb T t) else 0)) = min c (b' t + (if 1 ≤ tq T' t then wtF T' c b' f (ta T' t) else 0) + (if 2 ≤ tq T' t then wtF T' c b' f (tb T' t) else 0))
    rw [← e, ← h4.2.1, ← h4.2.2, ← hb t ht]
    by_cases h5 : 1 ≤ tq T t
    · rw [if_pos h5, if_pos h5, ih (ta T t) (by omega)]
      by_cases h6 : 2 ≤ tq T t
      · rw [if_pos h6, if_pos h6, ih (tb T t) (by omega)]
      · rw [if_neg h6, if_neg h6]
    · rw [if_neg h5, if_neg h5, if_neg (by omega), if_neg (by omega)]
theorem tAg.wte {m : Nat} {T T' : Tab} (h : tAg m T T') (o : tOk T) (hm : m ≤ tn T) {c : Nat} {b b' : Nat → Nat} (hb : ∀ t, t < m → b t = b' t) {t : Nat} (ht : t < m) : wt T c b t = wt T' c b' t := h.wtFe o hm hb (t + 1) t ht
theorem tAg_cut (T : Tab) (m k : Nat) : tAg k T (tCut T m) := ⟨rfl, fun t _ => ⟨rfl, rfl, rfl⟩⟩
theorem tAg_add (T : Tab) (s a b : Nat) : tAg (tn T) T (tAdd T s a b) := by
  refine ⟨rfl, fun t ht => ⟨?_, ?_, ?_⟩⟩
  · exact (if_neg (by omega)).symm
  · exact (if_neg (by omega)).symm
  · exact (if_neg (by omega)).symm
theorem tn_add (T : Tab) (s a b : Nat) : tn (tAdd T s a b) = tn T + 1 := rfl
theorem ts_add (T : Tab) (s a b : Nat) : ts (tAdd T s a b) (tn T) = s := if_pos rfl
theorem ta_add (T : Tab) (s a b : Nat) : ta (tAdd T s a b) (tn T) = a := if_pos rfl
theorem tb_add (T : Tab) (s a b : Nat) : tb (tAdd T s a b) (tn T) = b := if_pos rfl
theorem tq_add (T : Tab) (s a b : Nat) : tq (tAdd T s a b) (tn T) = tp T s := by
  unfold tq
  rw [ts_add]
  rfl
/-- what may be added -/
def tFit (T : Tab) (s a b : Nat) : Prop := s < 6 ∧ (tp T s < 1 → a = 0) ∧ (tp T s < 2 → b = 0) ∧ (1 ≤ tp T s → a < tn T) ∧ (2 ≤ tp T s → b < tn T)
theorem tFit.lt {T : Tab} {s a b : Nat} (h : tFit T s a b) (o : tOk T) : a ≤ tn T ∧ b ≤ tn T := by
  obtain ⟨h1, h2, h3, h4, h5⟩ := h
  have := o.2.1 s
  omega
theorem tOk_add {T : Tab} {s a b : Nat} (o : tOk T) (hn : tn T < 520) (f : tFit T s a b) (no : ∀ t, ¬ isT T s a b t) : tOk (tAdd T s a b) := by
  have g := tAg_add T s a b
  refine ⟨by rw [tn_add]; omega, o.2.1, fun t ht => ?_⟩
  rw [tn_add] at ht
  by_cases e : t = tn T
  · subst e
    rw [ts_add, ta_add, tb_add, tq_add]
    refine ⟨f.1, f.2.1, f.2.2.1, f.2.2.2.1, f.2.2.2.2, fun u hu e1 e2 e3 => ?_⟩
    rw [tn_add] at hu
    by_cases e4 : u = tn T
    · exact e4
    · have h2 := g.2 u (by omega)
      exact absurd ⟨by omega, h2.1.trans e1, h2.2.1.trans e2, h2.2.2.trans e3⟩ (no u)
  · have h1 := o.2.2 t (by omega)
    have h2 := g.2 t (by omega)
    rw [g.q (by omega), h2.1, h2.2.1, h2.2.2] at h1
    refine ⟨h1.1, h1.2.1, h1.2.2.1, h1.2.2.2.1, h1.2.2.2.2.1, fun u hu e1 e2 e3 => ?_⟩
    rw [tn_add] at hu
    by_cases e4 : u = tn T
    · subst e4
      rw [ts_add] at e1
      rw [ta_add] at e2
      rw [tb_add] at e3
      exact absurd ⟨by omega, h2.1.trans e1.symm, h2.2.1.trans e2.symm, h2.2.2.trans e3.symm⟩ (no t)
    · have h3 := g.2 u (by omega)
      exact h1.2.2.2.2.2 u (by omega) (h3.1.trans e1) (h3.2.1.trans e2) (h3.2.2.trans e3)
theorem tTe.ag {T T' : Tab} {te : Te} (h : tTe T te) (e : tn T = tn T') (g : tAg (tn T) T T') : tTe T' te := by
  obtain ⟨o, hn, hc, hp, hsy, h1, h2, hz, hN, hO⟩ := h
  have g' : tAg (tn T') T T' := e ▸ g
  refine ⟨g'.ok (by omega) o, by omega, by rw [hc, e], fun k hk => by rw [hp k hk, g.1], fun t ht => ?_, fun t ht => ?_, fun t ht => ?_, fun t ht => ?_, fun b hb => ?_, fun t ht => ?_⟩
  · rw [hsy t (by omega), (g'.2 t ht).1]
  · rw [h1 t (by omega), g'.q ht, (g'.2 t ht).2.1]
  · rw [h2 t (by omega), g'.q ht, (g'.2 t ht).2.2]
  · rw [hz t (by omega)]
    unfold szT
    rw [g'.wte o (by omega) (fun _ _ => rfl) ht]
  · rw [hN b hb, ← e]
    exact lastB_congr b _ (fun t ht => g.bk ht)
  · rw [hO t (by omega), g'.bk ht]
    exact lastB_congr _ _ (fun u hu => g'.bk (by omega))
theorem s_joinedSize {T : Tab} {s a b : Nat} {x2 x3 : Int32} {te : Te} {Q : Int32 → Prop} (hs : s < 6) (hp2 : tp T s ≤ 2) (hp : ∀ k, k < 6 → Te_places te k = nI (tp T k)) (ha : 1 ≤ tp T s → x2 = nI a ∧ a < 448) (hb : 2 ≤ tp T s → x3 = nI b ∧ b < 448) {za zb : Nat} (hza : 1 ≤ tp T s → Te_size te a = nI za) (hzb : 2 ≤ tp T s → Te_size te b = nI zb) (la : za ≤ 1000000000) (lb : zb ≤ 1000000000) (hQ : Q (nI (min 1000000000 (1 + (if 1 ≤ tp T s then za else 0) + (if 2 ≤ tp T s then zb else 0))))) : p_Te_joinedSize (nI s) x2 x3 te Q := by
  have key : ∀ ya yb : Nat, ya ≤ 1000000000 → yb ≤ 1000000000 → Q (nI (min 1000000000 (1 + ya + yb))) → p_Te_joinedSize_40 (nI s) x2 x3 te Q (nI yb) (nI ya) := by
    intro ya yb h1 h2 h3
    unfold p_Te_joinedSize_40
    simp only [litI, nI_add]
    by_cases h : 1 + (ya + yb) < 1000000000
    · rw [if_pos (nI_lt h (by omega))]
      rw [show min 1000000000 (1 + ya + yb) = 1 + (ya + yb) by omega] at h3
      exact h3
    · rw [if_neg (nI_nlt (by omega) (by omega))]
      rw [show min 1000000000 (1 + ya + yb) = 1000000000 by omega] at h3
      exact h3
  have k2 : ∀ ya : Nat, ya ≤ 1000000000 → Q (nI (min 1000000000 (1 + ya + (if 2 ≤ tp T s then zb else 0)))) → p_Te_joinedSize_20 (nI s) x2 x3 te Q (nI ya) := by
    intro ya h1 h3
    unfold p_Te_joinedSize_20
    simp (disch := omega) only [↓mI_e, litI, cLeT, cLeF, cLtT, cLtF, cEqF, cEqT, mE1, mE2, mL1, mL2, mL3, mL4, cIn, nI_clamp, nI_add, cMul, cSub, cM1, nar0, nar1, true_implies, false_implies, not_true_eq_false, not_false_eq_true, true_and, and_true, hp]
    by_cases h : 2 ≤ tp T s
    · rw [(hb h).1]
      have := (hb h).2
      rw [if_pos h] at h3
      simp (disch := omega) only [↓mI_e, litI, cLeT, cLeF, cLtT, cLtF, cEqF, cEqT, mE1, mE2, mL1, mL2, mL3, mL4, cIn, nI_clamp, nI_add, cMul, cSub, cM1, nar0, nar1, true_implies, false_implies, not_true_eq_false, not_false_eq_true, true_and, and_true]
      rw [hzb h, ← (hb h).1]
      exact key ya zb h1 lb h3
    · rw [if_neg h] at h3
      simp (disch := omega) only [↓mI_e, litI, cLeT, cLeF, cLtT, cLtF, cEqF, cEqT, mE1, mE2, mL1, mL2, mL3, mL4, cIn, nI_clamp, nI_add, cMul, cSub, cM1, nar0, nar1, true_implies, false_implies, not_true_eq_false, not_false_eq_true, true_and, and_true]
      exact key ya 0 h1 (by omega) h3
  unfold p_Te_joinedSize
  simp (disch := omega) only [↓mI_e, litI, cLeT, cLeF, cLtT, cLtF, cEqF, cEqT, mE1, mE2, mL1, mL2, mL3, mL4, cIn, nI_clamp, nI_add, cMul, cSub, cM1, nar0, nar1, true_implies, false_implies, not_true_eq_false, not_false_eq_true, true_and, and_true, hp]
  by_cases h : 1 ≤ tp T s
  · rw [(ha h).1]
    have := (ha h).2
    rw [if_pos h] at hQ
    simp (disch := omega) only [↓mI_e, litI, cLeT, cLeF, cLtT, cLtF, cEqF, cEqT, mE1, mE2, mL1, mL2, mL3, mL4, cIn, nI_clamp, nI_add, cMul, cSub, cM1, nar0, nar1, true_implies, false_implies, not_true_eq_false, not_false_eq_true, true_and, and_true]
    rw [hza h, ← (ha h).1]
    exact k2 za la hQ
  · rw [if_neg h] at hQ
    simp (disch := omega) only [↓mI_e, litI, cLeT, cLeF, cLtT, cLtF, cEqF, cEqT, mE1, mE2, mL1, mL2, mL3, mL4, cIn, nI_clamp, nI_add, cMul, cSub, cM1, nar0, nar1, true_implies, false_implies, not_true_eq_false, not_false_eq_true, true_and, and_true]
    exact k2 0 (by omega) hQ
set_option maxHeartbeats 2000000 in
theorem s_append {T : Tab} {te : Te} {s a b : Nat} {x2 x3 : Int32} {Q : Int32 → Te → Prop} (hT : tTe T te) (hn : tn T < 448) (f : tFit T s a b) (no : ∀ t, ¬ isT T s a b t) (hx2 : 1 ≤ tp T s → x2 = nI a) (hx3 : 2 ≤ tp T s → x3 = nI b) (hQ : ∀ te', tTe (tAdd T s a b) te' → Q (nI (tn T)) te') : p_Te_append (nI s) x2 x3 te Q := by
  obtain ⟨pl, sy, f1, f2, z, nw, od, c⟩ := te
  have hT0 := hT
  obtain ⟨o, -, hc, hp, hsy, h1, h2, hz, hN, hO⟩ := hT
  dsimp only [Te_places, Te_symbol, Te_first, Te_second, Te_size, Te_newestIn, Te_olderInBucket, Te_count, Te_places_s, Te_symbol_s, Te_first_s, Te_second_s, Te_size_s, Te_newestIn_s, Te_olderInBucket_s, Te_count_s] at hc hp hsy h1 h2 hz hN hO
  subst hc
  have hab := f.lt o
  have hs := f.1
  have hp2 := o.2.1 s
  have ok' := tOk_add o (by omega) f no
  have g := tAg_add T s a b
  obtain ⟨j, hj, e1, e2⟩ := bkI_lt (nI s) (pc 1 (tp T s) a) (pc 2 (tp T s) b)
  have hbn : bkt (tAdd T s a b) (tn T) = j := by
    unfold bkt
    rw [tq_add, ts_add, ta_add, tb_add, e2]
  have szn : szT (tAdd T s a b) (tn T) = min 1000000000 (1 + (if 1 ≤ tp T s then szT T a else 0) + (if 2 ≤ tp T s then szT T b else 0)) := by
    have := wt_eq ok' 1000000000 (fun _ => 1) (t := tn T) (by rw [tn_add]; omega)
    unfold szT
    rw [this, tq_add, ta_add, tb_add]
    by_cases h3 : 1 ≤ tp T s
    · have h4 := f.2.2.2.1 h3
      rw [if_pos h3, if_pos h3, ← g.wte o (by omega) (fun _ _ => rfl) h4]
      by_cases h5 : 2 ≤ tp T s
      · have h6 := f.2.2.2.2 h5
        rw [if_pos h5, if_pos h5, ← g.wte o (by omega) (fun _ _ => rfl) h6]
      · rw [if_neg h5, if_neg h5]
    · rw [if_neg h3, if_neg h3, if_neg (by omega), if_neg (by omega)]
  -- the end
  have fin : tTe (tAdd T s a b) (pl, upd sy (tn T) (nI s), upd f1 (tn T) (pc 1 (tp T s) a), upd f2 (tn T) (pc 2 (tp T s) b), upd z (tn T) (nI (szT (tAdd T s a b) (tn T))), upd nw j (nI (tn T)), upd od (tn T) (nw j), nI (tn T + 1)) := by
    refine ⟨ok', by rw [tn_add]; omega, rfl, hp, fun t ht => ?_, fun t ht => ?_, fun t ht => ?_, fun t ht => ?_, fun b' hb => ?_, fun t ht => ?_⟩
    · rw [tn_add] at ht
      by_cases e : t = tn T
      · subst e; rw [ts_add]; exact pk_us
      · rw [← (g.2 t (by omega)).1]
        exact (pk_un e).trans (hsy t (by omega))
    · rw [tn_add] at ht
      by_cases e : t = tn T
      · subst e; rw [ta_add, tq_add]; exact pk_us
      · rw [← (g.2 t (by omega)).2.1, ← g.q (by omega)]
        exact (pk_un e).trans (h1 t (by omega))
    · rw [tn_add] at ht
      by_cases e : t = tn T
      · subst e; rw [tb_add, tq_add]; exact pk_us
      · rw [← (g.2 t (by omega)).2.2, ← g.q (by omega)]
        exact (pk_un e).trans (h2 t (by omega))
    · rw [tn_add] at ht
      by_cases e : t = tn T
      · subst e; exact pk_us
      · have e9 : szT (tAdd T s a b) t = szT T t := (g.wte o (by omega) (fun _ _ => rfl) (by omega)).symm
        rw [e9]
        exact (pk_un e).trans (hz t (by omega))
    · show upd nw j (nI (tn T)) b' = (if bkt (tAdd T s a b) (tn T) = b' then nI (tn T) else lastB (bkt (tAdd T s a b)) b' (tn T))
      rw [hbn]
      by_cases e : j = b'
      · rw [if_pos e, e]; exact pk_us
      · rw [if_neg e, pk_un (fun h => e h.symm), hN b' hb]
        exact lastB_congr _ _ (fun u hu => g.bk hu)
    · rw [tn_add] at ht
      by_cases e : t = tn T
      · subst e
        rw [hbn]
        refine pk_us.trans ((hN j hj).trans ?_)
        exact lastB_congr _ _ (fun u hu => g.bk hu)
      · refine (pk_un e).trans ?_
        rw [hO t (by omega), ← g.bk (by omega)]
        exact lastB_congr _ _ (fun u hu => g.bk (by omega))
  -- once both codes are written
  have k76 : p_Te_append_76 (nI s) x2 x3 Q (nI (tn T)) (pc 2 (tp T s) b) (nI (tn T)) (pl, upd sy (tn T) (nI s), upd f1 (tn T) (pc 1 (tp T s) a), f2, z, nw, od, nI (tn T + 1)) := by
    unfold p_Te_append_76 p_Te_bucketOf
    simp (disch := omega) only [↓mI_e, litI, cLeT, cLeF, cLtT, cLtF, cEqF, cEqT, mE1, mE2, mL1, mL2, mL3, mL4, cIn, nI_clamp, nI_add, cMul, cSub, cM1, nar0, nar1, true_implies, false_implies, not_true_eq_false, not_false_eq_true, true_and, and_true, forall_eq]
    dsimp only [Te_places, Te_symbol, Te_first, Te_second, Te_size, Te_newestIn, Te_olderInBucket, Te_count, Te_places_s, Te_symbol_s, Te_first_s, Te_second_s, Te_size_s, Te_newestIn_s, Te_olderInBucket_s, Te_count_s]
    simp (disch := omega) only [↓mI_e, litI, cLeT, cLeF, cLtT, cLtF, cEqF, cEqT, mE1, mE2, mL1, mL2, mL3, mL4, cIn, nI_clamp, nI_add, cMul, cSub, cM1, nar0, nar1, true_implies, false_implies, not_true_eq_false, not_false_eq_true, true_and, and_true, upd_s]
    refine s_joinedSize (T := T) (a := a) (b := b) (za := szT T a) (zb := szT T b) hs hp2 hp (fun h => ⟨pc_n h, by have := f.2.2.2.1 h; omega⟩) (fun h => ⟨pc_n h, by have := f.2.2.2.2 h; omega⟩) (fun h => hz a (f.2.2.2.1 h)) (fun h => hz b (f.2.2.2.2 h)) (wt_le _ _ _ _) (wt_le _ _ _ _) ?_
    rw [← szn]
    have e1' : nI (s * 961) + pc 1 (tp T s) a * nI 31 + pc 2 (tp T s) b &&& nI 255 = nI j := by rw [← cMul]; exact e1
    rw [e1']
    simp (disch := omega) only [↓mI_e, litI, cLeT, cLeF, cLtT, cLtF, cEqF, cEqT, mE1, mE2, mL1, mL2, mL3, mL4, cIn, nI_clamp, nI_add, cMul, cSub, cM1, nar0, nar1, true_implies, false_implies, not_true_eq_false, not_false_eq_true, true_and, and_true]
    exact hQ _ fin
  have k54 : p_Te_append_54 (nI s) x2 x3 Q (nI (tn T)) (pc 1 (tp T s) a) (nI (tn T)) (pl, upd sy (tn T) (nI s), f1, f2, z, nw, od, nI (tn T + 1)) := by
    unfold p_Te_append_54
    simp (disch := omega) only [↓mI_e, litI, cLeT, cLeF, cLtT, cLtF, cEqF, cEqT, mE1, mE2, mL1, mL2, mL3, mL4, cIn, nI_clamp, nI_add, cMul, cSub, cM1, nar0, nar1, true_implies, false_implies, not_true_eq_false, not_false_eq_true, true_and, and_true]
    refine nm_e ?_
    dsimp only [Te_places, Te_symbol, Te_first, Te_second, Te_size, Te_newestIn, Te_olderInBucket, Te_count, Te_places_s, Te_symbol_s, Te_first_s, Te_second_s, Te_size_s, Te_newestIn_s, Te_olderInBucket_s, Te_count_s]
    rw [hp s hs]
    by_cases h : 2 ≤ tp T s
    · simp (disch := omega) only [↓mI_e, litI, cLeT, cLeF, cLtT, cLtF, cEqF, cEqT, mE1, mE2, mL1, mL2, mL3, mL4, cIn, nI_clamp, nI_add, cMul, cSub, cM1, nar0, nar1, true_implies, false_implies, not_true_eq_false, not_false_eq_true, true_and, and_true]
      rw [hx3 h, ← pc_n h (a := b)] at *
      exact k76
    · simp (disch := omega) only [↓mI_e, litI, cLeT, cLeF, cLtT, cLtF, cEqF, cEqT, mE1, mE2, mL1, mL2, mL3, mL4, cIn, nI_clamp, nI_add, cMul, cSub, cM1, nar0, nar1, true_implies, false_implies, not_true_eq_false, not_false_eq_true, true_and, and_true]
      rw [pc_m (by omega)] at k76
      exact k76
  unfold p_Te_append
  dsimp only [Te_places, Te_symbol, Te_first, Te_second, Te_size, Te_newestIn, Te_olderInBucket, Te_count, Te_places_s, Te_symbol_s, Te_first_s, Te_second_s, Te_size_s, Te_newestIn_s, Te_olderInBucket_s, Te_count_s]
  simp (disch := omega) only [↓mI_e, litI, cLeT, cLeF, cLtT, cLtF, cEqF, cEqT, mE1, mE2, mL1, mL2, mL3, mL4, cIn, nI_clamp, nI_add, cMul, cSub, cM1, nar0, nar1, true_implies, false_implies, not_true_eq_false, not_false_eq_true, true_and, and_true]
  refine nm_e ?_
  dsimp only [Te_places, Te_symbol, Te_first, Te_second, Te_size, Te_newestIn, Te_olderInBucket, Te_count, Te_places_s, Te_symbol_s, Te_first_s, Te_second_s, Te_size_s, Te_newestIn_s, Te_olderInBucket_s, Te_count_s]
  refine nm_e ?_
  dsimp only [Te_places, Te_symbol, Te_first, Te_second, Te_size, Te_newestIn, Te_olderInBucket, Te_count, Te_places_s, Te_symbol_s, Te_first_s, Te_second_s, Te_size_s, Te_newestIn_s, Te_olderInBucket_s, Te_count_s]
  rw [hp s hs]
  by_cases h : 1 ≤ tp T s
  · simp (disch := omega) only [↓mI_e, litI, cLeT, cLeF, cLtT, cLtF, cEqF, cEqT, mE1, mE2, mL1, mL2, mL3, mL4, cIn, nI_clamp, nI_add, cMul, cSub, cM1, nar0, nar1, true_implies, false_implies, not_true_eq_false, not_false_eq_true, true_and, and_true]
    rw [hx2 h, ← pc_n h (a := a)] at *
    exact k54
  · simp (disch := omega) only [↓mI_e, litI, cLeT, cLeF, cLtT, cLtF, cEqF, cEqT, mE1, mE2, mL1, mL2, mL3, mL4, cIn, nI_clamp, nI_add, cMul, cSub, cM1, nar0, nar1, true_implies, false_implies, not_true_eq_false, not_false_eq_true, true_and, and_true]
    rw [pc_m (by omega)] at k54
    exact k54
theorem s_append_full {T : Tab} {te : Te} {s : Nat} {x2 x3 : Int32} {Q : Int32 → Te → Prop} (hT : tTe T te) (hn : tn T = 448) (hQ : Q mI te) : p_Te_append (nI s) x2 x3 te Q := by
  unfold p_Te_append
  rw [hT.2.2.1, hn]
  simp (disch := omega) only [↓mI_e, litI, cLeT, cLeF, cLtT, cLtF, cEqF, cEqT, mE1, mE2, mL1, mL2, mL3, mL4, cIn, nI_clamp, nI_add, cMul, cSub, cM1, nar0, nar1, true_implies, false_implies, not_true_eq_false, not_false_eq_true, true_and, and_true]
  exact hQ
