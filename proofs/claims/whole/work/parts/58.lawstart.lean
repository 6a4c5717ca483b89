/-! what the law finds at its start -/
theorem st_known {s : State} {args : Array Value} (hts : ∀ w ∈ gtbl, w.before args s = true) : ∃ (D : va_G) (cA : ClassId × ClassId × ClassId), va_K D classes (tyA cA) s := by
  obtain ⟨c0, i0, h0⟩ := u_known (C := R_Gr) (T := F_Gr) (N := 7) hts u_Gr (hts _ is_Gr)
  obtain ⟨c1, i1, h1⟩ := u_known (C := R_Te) (T := F_Te) (N := 8) hts u_Te (hts _ is_Te)
  obtain ⟨c2, i2, h2⟩ := u_known (C := R_Ru) (T := F_Ru) (N := 4) hts u_Ru (hts _ is_Ru)
  obtain ⟨c3, i3, h3⟩ := u_known (C := R_Au) (T := F_Au) (N := 8) hts u_Au (hts _ is_Au)
  obtain ⟨c4, i4, h4⟩ := u_known (C := R_Re) (T := F_Re) (N := 8) hts u_Re (hts _ is_Re)
  obtain ⟨c5, i5, h5⟩ := u_known (C := R_La) (T := F_La) (N := 4) hts u_La (hts _ is_La)
  obtain ⟨c6, i6, h6⟩ := u_known (C := R_Sp) (T := F_Sp) (N := 5) hts u_Sp (hts _ is_Sp)
  obtain ⟨c7, i7, h7⟩ := u_known (C := R_Le) (T := F_Le) (N := 10) hts u_Le (hts _ is_Le)
  obtain ⟨c8, i8, h8⟩ := u_known (C := R_Mo) (T := F_Mo) (N := 26) hts u_Mo (hts _ is_Mo)
  obtain ⟨cI, kI9, pI, a1, a2, a3⟩ := Cond.arrayClass_spec (hts _ ac_I)
  obtain ⟨cJ, kJ9, pJ, b1, b2, b3⟩ := Cond.arrayClass_spec (hts _ ac_J)
  obtain ⟨cZ, kZ9, pZ, d1, d2, d3⟩ := Cond.arrayClass_spec (hts _ ac_Z)
  refine ⟨((fun k => ([c0, c1, c2, c3, c4, c5, c6, c7, c8] : List ClassId).getD k c0), fun k => ([i0, i1, i2, i3, i4, i5, i6, i7, i8] : List (Nat → Nat)).getD k i0), (cI, cJ, cZ), fun k q hq => ?_, fun k q hq => ?_⟩
  · have hk : k < 9 := (List.getElem?_eq_some_iff.mp hq).1
    have hk2 : k = 0 ∨ k = 1 ∨ k = 2 ∨ k = 3 ∨ k = 4 ∨ k = 5 ∨ k = 6 ∨ k = 7 ∨ k = 8 := by omega
    rcases hk2 with rfl | rfl | rfl | rfl | rfl | rfl | rfl | rfl | rfl
    · cases Option.some.inj hq; exact h0
    · cases Option.some.inj hq; exact h1
    · cases Option.some.inj hq; exact h2
    · cases Option.some.inj hq; exact h3
    · cases Option.some.inj hq; exact h4
    · cases Option.some.inj hq; exact h5
    · cases Option.some.inj hq; exact h6
    · cases Option.some.inj hq; exact h7
    · cases Option.some.inj hq; exact h8
  · have hk : k < 3 := (List.getElem?_eq_some_iff.mp hq).1
    have hk2 : k = 0 ∨ k = 1 ∨ k = 2 := by omega
    rcases hk2 with rfl | rfl | rfl
    · cases Option.some.inj hq; exact ⟨fun n z => ⟨fun k h => (by cases h), kI9, a2, pI, a3⟩, a1⟩
    · cases Option.some.inj hq; exact ⟨fun n z => ⟨fun k h => (by cases h), kJ9, b2, pJ, b3⟩, b1⟩
    · cases Option.some.inj hq; exact ⟨fun n z => ⟨fun k h => (by cases h), kZ9, d2, pZ, d3⟩, d1⟩
theorem nest_in : nestW ∈ lw_tbl ∧ nestR ∈ lw_tbl := by unfold nestW nestR; decide +kernel
theorem xl_in : ∀ w ∈ xl, w ∈ lw_tbl := by decide +kernel
theorem xst_in : (Cond.laysStatic Bundle.tN "UNASSIGNED_STACK" Bundle.steD ∈ lw_tbl) ∧ (Cond.laysStatic Bundle.tN "SUPPRESSED_SENTINEL" Bundle.listD ∈ lw_tbl) := by decide +kernel
theorem st_ck {s : State} {args : Array Value} (hts : ∀ w ∈ lw_tbl, w.before args s = true) : ∃ (D : va_G) (cA : ClassId × ClassId × ClassId), cK D cA s := by
  obtain ⟨D, cA, h⟩ := st_known (s := s) (args := args) (fun w hw => hts w (List.mem_filter.mp hw).1)
  exact ⟨D, cA, ⟨h, va_Nw.of rfl (hts _ nest_in.1)⟩, va_Nw.of rfl (hts _ nest_in.2)⟩
theorem st_tx {s : State} {args : Array Value} (hts : ∀ w ∈ lw_tbl, w.before args s = true) (hp : (Jvm.Cond.and given_1 narrow_1).before args s = true) : tX (fun q => s.heap.size ≤ q) s s.heap := by
  have hs := flat_of_before _ hp
  refine ⟨fun w hw => va_Nw.of (xl_tab w hw) (hts w (xl_in w hw)), sx.of (hts _ xst_in.1) (hs _ (by decide +kernel)) (fun q h => Nat.not_le.mpr h), sx.of (hts _ xst_in.2) (hs _ (by decide +kernel)) (fun q h => Nat.not_le.mpr h), va_Nc.of (hs _ (by decide +kernel)), va_Nc.of (hs _ (by decide +kernel))⟩
theorem st_traces {l : Launch} (h : l.flags = flags0) : l.stackTraces = false := by
  unfold Launch.stackTraces
  rw [h]
  decide
theorem lg_self (x : Int64) : lg_cmp x x = 0 := by
  simp [lg_cmp]
/-- places of the script -/
theorem sc_go {n L : Nat} (hL : L ≤ 2561) (hn : n ≤ 2561 + 5) (h : ¬ Int32.ofNat L - 5 < nI n) : n + 5 ≤ L := by
  rw [Int32.lt_iff_toInt_lt] at h
  have h1 : (Int32.ofNat L - 5).toInt = (L : Int) - 5 := by
    have := pk_sub_toInt (a := L) (b := 5) (by omega) (by omega)
    exact this
  rw [h1, nI_toInt (by omega)] at h
  omega
theorem sc_at {n k L : Nat} (h : n + k < L) (hL : L ≤ 2561) : vp_in (nI n + nI k) L ∧ (nI n + nI k).toNatClampNeg = n + k := by
  rw [nI_add]
  exact ⟨vp_in_nI h (by omega), nI_clamp (by omega)⟩
