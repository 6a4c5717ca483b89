/-! the distance, as the reference finds it -/
section
variable {T : Tab} {R : Rul} {mo : Mo} {s t : Nat}
theorem s_distM {Q : Int32 → Mo → Prop} (hM : tMo T mo) (hr : rMo R mo) (ho : rOk T R) (hs : s < tn T) (ht : t < tn T) (h1 : Rch T R s t → ∀ r m, dsp T R (den T s) (den T t) r → tMo T m → mKr mo m → Mo_thrown m = nI 0 → Q r m) (h0 : ¬ Rch T R s t → ∀ m, tMo T m → mKr mo m → Mo_thrown m = nI 0 → Q mI m) : p_Mo_distance (nI s) (nI t) mo Q := by
  have hn := hM.2.1
  have o := hM.1
  unfold p_Mo_distance
  refine s_ask hM hr ho hs ht (fun g hg => ?_)
  have k3 : mKp mo (Mo_goes_s (Mo_thrown_s mo 0) g) := goes_k (thr_k mo _) g
  have t3 : Mo_thrown (Mo_goes_s (Mo_thrown_s mo 0) g) = nI 0 := rfl
  have g3 : Mo_goes (Mo_goes_s (Mo_thrown_s mo 0) g) = g := rfl
  obtain ⟨m3, em3⟩ : ∃ m, Mo_goes_s (Mo_thrown_s mo 0) g = m := ⟨_, rfl⟩
  rw [em3] at k3 t3 g3 ⊢
  clear em3
  have hM3 := hM.kp k3
  have hr3 := hr.kp k3
  rw [hM3.2.2.1, g3]
  try simp (disch := omega) only [↓mI_e, litI, cLeT, cLeF, cLtT, cLtF, cEqF, cEqT, mE1, mE2, mL1, mL2, mL3, mL4, cIn, nI_clamp, nI_add, cMul, cSub, cM1, nar0, nar1, true_implies, false_implies, not_true_eq_false, not_false_eq_true, true_and, and_true]
  refine ⟨fun hgo => ?_, fun hgo => ?_⟩
  · have hR : Rch T R s t := (hg.1 s t hs ht).mp hgo
    have hL := lvl_of o hR
    refine s_steps hM3 hr3 ho (show tn T - 1 < tn T by omega) (fun g2 hg2 => ?_)
    have k4 : mKp mo (Mo_many_s m3 g2) := many_k k3 g2
    have t4 : Mo_thrown (Mo_many_s m3 g2) = nI 0 := t3
    have n4 : Mo_many (Mo_many_s m3 g2) = g2 := rfl
    obtain ⟨m4, em4⟩ : ∃ m, Mo_many_s m3 g2 = m := ⟨_, rfl⟩
    rw [em4] at k4 t4 n4 ⊢
    clear em4
    intro m5 e5
    have w5 := (fr.rf m4).st e5
    clear e5
    intro m6 e6
    have w6 := w5.df e6
    clear e6
    -- the rounds of levels
    have rounds : ∀ m U, HI T U R (den T s) 0 mo m → ∃ f, p_Mo_distance_91 (nI s) (nI t) Q f (nI 0) m := by
      intro m U hH
      refine loop_m (fun f (y : Int32 × Mo) => p_Mo_distance_91 (nI s) (nI t) Q f y.1 y.2) (fun y => ∃ l V, HI T V R (den T s) l mo y.2 ∧ y.1 = nI l ∧ (∀ k, k < l → ¬ lvl T R (den T s) k (den T t)) ∧ l ≤ 400) (fun y => 1000 - y.1.toNatClampNeg) ?_ (nI 0, m) ⟨0, U, hH, rfl, fun k hk => by omega, by omega⟩
      rintro f ⟨y1, m⟩ ⟨l, V, hH, e1, hno, hl⟩ ih
      dsimp only at hH e1 ih ⊢
      subst e1
      have hF := hH.1
      have hb := hF.cov
      have hE := hF.1.1.2.1
      have hnE := hE.2.1
      have hM9 := hF.1.1.1
      unfold p_Mo_distance_91
      try simp (disch := omega) only [↓mI_e, litI, cLeT, cLeF, cLtT, cLtF, cEqF, cEqT, mE1, mE2, mL1, mL2, mL3, mL4, cIn, nI_clamp, nI_add, cMul, cSub, cM1, nar0, nar1, true_implies, false_implies, not_true_eq_false, not_false_eq_true, true_and, and_true]
      refine ⟨fun hc => ?_, fun hc => ?_⟩
      · have hg : ga T (Mo_came m) t := by unfold ga; rw [ix_lt ht]; exact hc
        obtain ⟨d, b1, b2, b3, b4⟩ := hF.2.2.2.2.2.1 t (by omega) hg
        have b5 := hH.2 t (by omega) hg
        rw [den_ext hE ht] at b3 b4 b5
        rw [ix_lt ht] at b2
        rw [b2]
        refine h1 hR _ m (Or.inl ⟨d, b3, b4, fun q => ?_, rfl⟩) hM9 hF.2.1 hF.2.2.1
        have hdl : ¬ l < d := fun q => b4 l q b5
        exact hb (q.mono (fun y => xl_up (by omega)))
      · have hnl : ¬ lvl T R (den T s) l (den T t) := by
          intro q
          obtain ⟨i, a1, a2, a3⟩ := hF.2.2.2.2.1 _ q
          rw [← den_ext hE ht] at a2
          have : i = t := den_inj hE.1 a1 (by omega) a2
          subst this
          unfold ga at a3
          rw [ix_lt ht] at a3
          exact a3 hc
        have hl1 := lvl_lt hL hnl hb
        have hno' : ∀ k, k < l + 1 → ¬ lvl T R (den T s) k (den T t) := by
          intro k hk q
          exact hnl (lvl_up (by omega) q)
        refine s_further hH hr ho (by omega) (fun V m2 hH2 => ?_) (fun m2 q1 q2 q3 q4 => ?_)
        · try simp (disch := omega) only [↓mI_e, litI, cLeT, cLeF, cLtT, cLtF, cEqF, cEqT, mE1, mE2, mL1, mL2, mL3, mL4, cIn, nI_clamp, nI_add, cMul, cSub, cM1, nar0, nar1, true_implies, false_implies, not_true_eq_false, not_false_eq_true, true_and, and_true]
          refine ih (nI (l + 1), m2) ⟨l + 1, V, hH2, rfl, hno', hl1⟩ ?_
          dsimp only
          rw [nI_clamp (by omega), nI_clamp (by omega)]
          omega
        · try simp (disch := omega) only [↓mI_e, litI, cLeT, cLeF, cLtT, cLtF, cEqF, cEqT, mE1, mE2, mL1, mL2, mL3, mL4, cIn, nI_clamp, nI_add, cMul, cSub, cM1, nar0, nar1, true_implies, false_implies, not_true_eq_false, not_false_eq_true, true_and, and_true]
          exact h1 hR _ m2 (Or.inr ⟨rfl, l + 1, hno', q4⟩) q1 q2 q3
    refine forN (fun f i (m : Mo) => p_Mo_distance_52 (nI s) (nI t) Q f i m) (fun i m => ∃ mk cm, fr m4 m (Mo_symbol m4) (Mo_one m4) (Mo_two m4) (nI 48) (nI 0) mk cm (Mo_level m4) (Mo_many m4) ∧ ∀ k, k < i → mk k = nI 0 ∧ cm k = nI 0) 520 0 m6 (by omega) ⟨_, _, w6, fun k hk => by omega⟩ ?_ ?_
    · rintro f m ⟨mk, cm, w, hz⟩
      unfold p_Mo_distance_52
      try simp (disch := omega) only [↓mI_e, litI, cLeT, cLeF, cLtT, cLtF, cEqF, cEqT, mE1, mE2, mL1, mL2, mL3, mL4, cIn, nI_clamp, nI_add, cMul, cSub, cM1, nar0, nar1, true_implies, false_implies, not_true_eq_false, not_false_eq_true, true_and, and_true]
      have kp : mKp m4 m := ⟨w.2.1, w.2.2.2.2.2.2.1, w.2.2.2.2.2.2.2.1, w.2.2.2.2.2.2.2.2.1, w.2.2.1, w.1.1, w.1.2.1, w.1.2.2.1, w.1.2.2.2.1, w.1.2.2.2.2.1, w.1.2.2.2.2.2⟩
      have hMm := hM.kp (k4.trans kp)
      have w10 := w.2.2.2.2.2.2.2.2.2.1
      have w11 := w.2.2.2.2.2.2.2.2.2.2.1
      have w12 := w.2.2.2.2.2.2.2.2.2.2.2.1
      have w13 := w.2.2.2.2.2.2.2.2.2.2.2.2.1
      have hX : sX T T R m := by
        refine ⟨hMm.s, ?_, fun i hi => ?_⟩
        · rw [w10, show 48 + tn T - tn T = 48 by omega]
        · rw [w.2.2.2.2.2.2.2.2.2.2.2.2.2.2, n4, ix_lt hi]
          exact hg2 i (by omega)
      have nm : ∀ i, i < tn T → ¬ ga T (Mo_marked m) i := by
        intro i hi q
        unfold ga at q
        rw [w12, ix_lt hi] at q
        exact q (hz i (by omega)).1
      have nc : ∀ i, i < tn T → ¬ ga T (Mo_came m) i := by
        intro i hi q
        unfold ga at q
        rw [w13, ix_lt hi] at q
        exact q (hz i (by omega)).2
      have cz : cN (ga T (Mo_marked m)) (tn T) = 0 := cN_cut (n := 0) (Nat.zero_le _) (fun i _ hi => nm i hi)
      have k := s_take (Q := fun mo85 => (∃ f, p_Mo_distance_91 (nI s) (nI t) Q f (nI 0) mo85)) (X := pcl (lvl T R (den T s) 0)) (l := 0) hX hs (fun x z a b => a.p b) (pcl.i rfl) (fun i hi a => absurd a (nm i hi)) (fun i hi a => absurd a (nm i hi)) (by rw [w11, cz]) (fun m' mk' v n1 n2 n3 n5 => ?_)
      · rw [ix_lt hs] at k
        exact k
      · have kp' := v.kp
        have v11 := v.2.2.2.2.2.2.2.2.2.2.1
        have v12 := v.2.2.2.2.2.2.2.2.2.2.2.1
        have v13 := v.2.2.2.2.2.2.2.2.2.2.2.2.1
        have v14 := v.2.2.2.2.2.2.2.2.2.2.2.2.2.1
        have cl := cN_le (ga T mk') (tn T)
        have hc' : ∀ i, i < tn T → (ga T (Mo_came m') i ↔ i = s) := by
          intro i hi
          rw [v13, ga_upd hn]
          exact ⟨fun q => q.elim (fun q => absurd q (nc i hi)) id, Or.inr⟩
        refine rounds m' T ⟨⟨hX.kp kp' v.2.2.2.2.2.2.2.2.2.1 v.2.2.2.2.2.2.2.2.2.2.2.2.2.2, ((k4.trans kp).trans kp').r, ?_, fun i hi a => ?_, fun y hy => ⟨s, hs, hy.symm, (hc' s hs).mpr rfl⟩, fun i hi a => ?_, fun i hi a => ?_, by rw [v12]; exact n1, fun i hi a => ?_, fun i a b => by omega, by rw [v11, v12], by rw [v12]; omega⟩, fun i hi a => ?_⟩
        · exact v.2.2.2.1.trans (w.2.2.2.1.trans t4)
        · rw [(hc' i hi).mp a]
          exact Or.inl rfl
        · have e := (hc' i hi).mp a
          subst e
          rw [v14, upd_s rfl]
          exact ⟨0, by omega, rfl, rfl, fun k hk => by omega⟩
        · have e := (hc' i hi).mp a
          subst e
          rw [v12]
          exact n5
        · rw [v12] at a
          exact xl_up (by omega) (n2 i hi a)
        · rw [(hc' i hi).mp a]
          rfl
    · rintro f i m hi ⟨mk, cm, w, hz⟩ ih
      unfold p_Mo_distance_52
      try simp (disch := omega) only [↓mI_e, litI, cLeT, cLeF, cLtT, cLtF, cEqF, cEqT, mE1, mE2, mL1, mL2, mL3, mL4, cIn, nI_clamp, nI_add, cMul, cSub, cM1, nar0, nar1, true_implies, false_implies, not_true_eq_false, not_false_eq_true, true_and, and_true]
      intro m7 e7
      have w7 := w.cm e7
      clear e7
      intro m8 e8
      have w8 := w7.mk e8
      clear e8
      refine ih m8 ⟨_, _, w8, fun k hk => ?_⟩
      rw [w.2.2.2.2.2.2.2.2.2.2.2.2.1, w7.2.2.2.2.2.2.2.2.2.2.2.1]
      by_cases e : k = i
      · rw [upd_s e, upd_s e]
        exact ⟨rfl, rfl⟩
      · rw [upd_n e, upd_n e]
        exact hz k (by omega)
  · have hR : ¬ Rch T R s t := fun q => (hg.1 s t hs ht).mpr q hgo
    exact h0 hR m3 hM3 k3.r t3
end
