/-- every call keeps what is known of the two states, and they answer alike -/
def stepAll (Inv : Nat → StC → Mo → Prop) : Prop := ∀ (j : Nat), j < 512 → ∀ (a1 a2 a3 a4 : Int32) (te : Te) (ru : Ru) (au : Au) (re : Re) (la : La) (sp : Sp) (le : Le) (mo : Mo), Inv j (te, ru, au, re, la, sp, le) mo →
  ls_0 a1 a2 a3 a4 te ru au re la sp le mo (Inv (j + 1)) ∧
  ls_1 a1 a2 a3 a4 te ru au re la sp le mo (Inv (j + 1)) ∧
  ls_2 a1 a2 a3 a4 te ru au re la sp le mo (Inv (j + 1)) ∧
  ls_3 a1 a2 a3 a4 te ru au re la sp le mo (Inv (j + 1)) ∧
  ls_4 a1 a2 a3 a4 te ru au re la sp le mo (Inv (j + 1)) ∧
  ls_5 a1 a2 a3 a4 te ru au re la sp le mo (Inv (j + 1)) ∧
  ls_6 a1 a2 a3 a4 te ru au re la sp le mo (Inv (j + 1)) ∧
  ls_7 a1 a2 a3 a4 te ru au re la sp le mo (Inv (j + 1)) ∧
  ls_8 a1 a2 a3 a4 te ru au re la sp le mo (Inv (j + 1)) ∧
  ls_9 a1 a2 a3 a4 te ru au re la sp le mo (Inv (j + 1)) ∧
  ls_10 a1 a2 a3 a4 te ru au re la sp le mo (Inv (j + 1)) ∧
  ls_11 a1 a2 a3 a4 te ru au re la sp le mo (Inv (j + 1)) ∧
  ls_12 a1 a2 a3 a4 te ru au re la sp le mo (Inv (j + 1)) ∧
  ls_13 a1 a2 a3 a4 te ru au re la sp le mo (Inv (j + 1)) ∧
  ls_14 a1 a2 a3 a4 te ru au re la sp le mo (Inv (j + 1)) ∧
  ls_15 a1 a2 a3 a4 te ru au re la sp le mo (Inv (j + 1))
def initAll (Inv : Nat → StC → Mo → Prop) : Prop := ∀ bits : Int32, p_Te_initT bits teZ (fun te => p_Mo_initT bits moZ (fun mo => Inv 0 (te, ruZ, auZ, reZ, laZ, spZ, leZ) mo))
set_option maxHeartbeats 4000000 in
set_option maxRecDepth 100000 in
theorem law_loop {p : Program} {l : Launch} {e : Env} {s : State} {m : MethodId} {below : List Frame} {meth : Method} {c : Code} {Q : State → Prop} {D : va_G} {A : Nat → Prop} {ac am : Nat → Nat} {ao b L : Nat} {xs : Nat → Int32} {cA : ClassId × ClassId × ClassId} {Inv : Nat → StC → Mo → Prop} (S : CallFix p m c code 7 s #[Value.ref b] gtbl R_Lw) (hlt : l.stackTraces = false) (hK : gK D (tyA cA) s) (hA : ∀ q : Nat, s.heap.size ≤ q → A q) (hbA : ¬ A b) (tx : tX A s s.heap) (hX : va_X b L xs s s.heap) (hbl : b < s.heap.size) (hL : L ≤ 2561) (hst : stepAll Inv) (hend : ∀ (ls : Array Slot) (H : Heap) (locs : List Loc) (cells slots : Nat), cells ≤ 1097 → slots ≤ 26642 → va_S A s.heap H locs → W p l e room_1 s m #[Value.ref b] below meth c H locs cells slots Q (F0 m 1096 ls [])) : ∀ (k n j : Nat) (ls : Array Slot) (H : Heap) (locs : List Loc) (sc : StC) (mo : Mo) (f : Nat → Int64), n = 1 + 5 * j → L < n + 5 * k → n ≤ 2566 → Inv j sc mo → lv_has ls 7 [(0, .ref b), (1, .ref (ac 0)), (2, .ref (am 0)), (3, .ref ao), (4, .int (nI n))] → gIn D A s (wA ac am ao cA) (sc, mo, f) H locs → W p l e room_1 s m #[Value.ref b] below meth c H locs (57 + j) (18354 + 6 * j) Q (F0 m 33 ls []) := by
  intro k
  induction k with
  | zero =>
    intro n j ls H locs sc mo f hnj hkn hn6 hI hl I
    refine lv_iload S.1 S.2.1 d_L_33 (lv_at hl 4 rfl) ?_
    refine lv_aload_n S.1 S.2.1 d_L_35 rfl (lv_at hl 0 rfl) ?_
    refine va_slen S.1 S.2.1 hX hbl hbA I.2.2 d_L_36 ?_
    refine lv_iconst (v := (5 : Int32)) S.1 S.2.1 d_L_37 rfl ?_
    refine lv_isub S.1 S.2.1 d_L_38 ?_
    refine lv_icmp_gt (tgt := 1096) S.1 S.2.1 d_L_39 (by decide) (fun hc => ?_) (fun hc => ?_)
    · exact hend _ _ _ _ _ (by omega) (by omega) I.2.2
    · exact absurd (sc_go hL (by omega) hc) (by omega)
  | succ k ih =>
    intro n j ls H locs sc mo f hnj hkn hn6 hI hl I
    refine lv_iload S.1 S.2.1 d_L_33 (lv_at hl 4 rfl) ?_
    refine lv_aload_n S.1 S.2.1 d_L_35 rfl (lv_at hl 0 rfl) ?_
    refine va_slen S.1 S.2.1 hX hbl hbA I.2.2 d_L_36 ?_
    refine lv_iconst (v := (5 : Int32)) S.1 S.2.1 d_L_37 rfl ?_
    refine lv_isub S.1 S.2.1 d_L_38 ?_
    refine lv_icmp_gt (tgt := 1096) S.1 S.2.1 d_L_39 (by decide) (fun hc => ?_) (fun hc => ?_)
    · exact hend _ _ _ _ _ (by omega) (by omega) I.2.2
    · have hn := sc_go hL (by omega) hc
      have again : ∀ (sc : StC) (mo : Mo) (f : Nat → Int64) (ls : Array Slot) (H : Heap) (locs : List Loc), Inv (j + 1) sc mo → lv_has ls 7 [(0, .ref b), (1, .ref (ac 0)), (2, .ref (am 0)), (3, .ref ao), (4, .int (nI n))] → gIn D A s (wA ac am ao cA) (sc, mo, f) H locs → W p l e room_1 s m #[Value.ref b] below meth c H locs (57 + j + 1) (18354 + 6 * j + 6) Q (F0 m 1090 ls []) := by
        intro sc mo f ls H locs hI hl I
        refine lv_iinc (k := 4) (v := nI (n + 5)) (lv' := [(4, .int (nI (n + 5))), (0, .ref b), (1, .ref (ac 0)), (2, .ref (am 0)), (3, .ref ao)]) S.1 S.2.1 d_L_1090 hl rfl (nI_add n 5) (by decide) rfl (fun ls hl => ?_)
        refine lv_goto (tgt := 33) S.1 S.2.1 d_L_1093 (by decide) ?_
        refine W.cs (cells' := 57 + (j + 1)) (slots' := 18354 + 6 * (j + 1)) (by omega) (by omega) ?_
        exact ih (n + 5) (j + 1) _ _ _ _ _ _ (by omega) (by omega) (by omega) hI (lv_sub hl [1, 2, 3, 4, 0] rfl) I
      refine lv_aload_n S.1 S.2.1 d_L_42 rfl (lv_at hl 0 rfl) ?_
      refine lv_iload S.1 S.2.1 d_L_43 (lv_at hl 4 rfl) ?_
      refine va_sld S.1 S.2.1 hX hbl hbA I.2.2 (vp_in_nI (n := n) (by omega) (by omega)) d_L_45 ?_
      rw [nI_clamp (by omega)]
      refine lv_bipush (v := (15 : Int32)) S.1 S.2.1 d_L_46 rfl ?_
      refine lv_iand S.1 S.2.1 d_L_48 ?_
      obtain ⟨te, ru, au, re, la, sp, le⟩ := sc
      obtain ⟨g0, g1, g2, g3, g4, g5, g6, g7, g8, g9, g10, g11, g12, g13, g14, g15⟩ := hst j (by omega) (xs (n + 1)) (xs (n + 2)) (xs (n + 3)) (xs (n + 4)) te ru au re la sp le mo hI
      obtain ⟨i, hi, hx⟩ := pk_andE (xs n) (m := 15) 4 (by decide)
      have hi2 : i = 0 ∨ i = 1 ∨ i = 2 ∨ i = 3 ∨ i = 4 ∨ i = 5 ∨ i = 6 ∨ i = 7 ∨ i = 8 ∨ i = 9 ∨ i = 10 ∨ i = 11 ∨ i = 12 ∨ i = 13 ∨ i = 14 ∨ i = 15 := by omega
      rcases hi2 with rfl | rfl | rfl | rfl | rfl | rfl | rfl | rfl | rfl | rfl | rfl | rfl | rfl | rfl | rfl | rfl
      · refine lv_tableIn (tgt := 128) (off := 79) S.1 S.2.1 d_L_49 (by rw [hx]; decide) (by rw [hx]; decide) (by rw [hx]; decide) (by decide) ?_
        exact cs_0 S hlt hK hA hbA tx hX hbl hL hn (by omega) (by omega) g0 hl I again
      · refine lv_tableIn (tgt := 208) (off := 159) S.1 S.2.1 d_L_49 (by rw [hx]; decide) (by rw [hx]; decide) (by rw [hx]; decide) (by decide) ?_
        exact cs_1 S hlt hK hA hbA tx hX hbl hL hn (by omega) (by omega) g1 hl I again
      · refine lv_tableIn (tgt := 245) (off := 196) S.1 S.2.1 d_L_49 (by rw [hx]; decide) (by rw [hx]; decide) (by rw [hx]; decide) (by decide) ?_
        exact cs_2 S hlt hK hA hbA tx hX hbl hL hn (by omega) (by omega) g2 hl I again
      · refine lv_tableIn (tgt := 313) (off := 264) S.1 S.2.1 d_L_49 (by rw [hx]; decide) (by rw [hx]; decide) (by rw [hx]; decide) (by decide) ?_
        exact cs_3 S hlt hK hA hbA tx hX hbl hL hn (by omega) (by omega) g3 hl I again
      · refine lv_tableIn (tgt := 326) (off := 277) S.1 S.2.1 d_L_49 (by rw [hx]; decide) (by rw [hx]; decide) (by rw [hx]; decide) (by decide) ?_
        exact cs_4 S hlt hK hA hbA tx hX hbl hL hn (by omega) (by omega) g4 hl I again
      · refine lv_tableIn (tgt := 425) (off := 376) S.1 S.2.1 d_L_49 (by rw [hx]; decide) (by rw [hx]; decide) (by rw [hx]; decide) (by decide) ?_
        exact cs_5 S hlt hK hA hbA tx hX hbl hL hn (by omega) (by omega) g5 hl I again
      · refine lv_tableIn (tgt := 478) (off := 429) S.1 S.2.1 d_L_49 (by rw [hx]; decide) (by rw [hx]; decide) (by rw [hx]; decide) (by decide) ?_
        exact cs_6 S hlt hK hA hbA tx hX hbl hL hn (by omega) (by omega) g6 hl I again
      · refine lv_tableIn (tgt := 553) (off := 504) S.1 S.2.1 d_L_49 (by rw [hx]; decide) (by rw [hx]; decide) (by rw [hx]; decide) (by decide) ?_
        exact cs_7 S hlt hK hA hbA tx hX hbl hL hn (by omega) (by omega) g7 hl I again
      · refine lv_tableIn (tgt := 628) (off := 579) S.1 S.2.1 d_L_49 (by rw [hx]; decide) (by rw [hx]; decide) (by rw [hx]; decide) (by decide) ?_
        exact cs_8 S hlt hK hA hbA tx hX hbl hL hn (by omega) (by omega) g8 hl I again
      · refine lv_tableIn (tgt := 691) (off := 642) S.1 S.2.1 d_L_49 (by rw [hx]; decide) (by rw [hx]; decide) (by rw [hx]; decide) (by decide) ?_
        exact cs_9 S hlt hK hA hbA tx hX hbl hL hn (by omega) (by omega) g9 hl I again
      · refine lv_tableIn (tgt := 754) (off := 705) S.1 S.2.1 d_L_49 (by rw [hx]; decide) (by rw [hx]; decide) (by rw [hx]; decide) (by decide) ?_
        exact cs_10 S hlt hK hA hbA tx hX hbl hL hn (by omega) (by omega) g10 hl I again
      · refine lv_tableIn (tgt := 817) (off := 768) S.1 S.2.1 d_L_49 (by rw [hx]; decide) (by rw [hx]; decide) (by rw [hx]; decide) (by decide) ?_
        exact cs_11 S hlt hK hA hbA tx hX hbl hL hn (by omega) (by omega) g11 hl I again
      · refine lv_tableIn (tgt := 873) (off := 824) S.1 S.2.1 d_L_49 (by rw [hx]; decide) (by rw [hx]; decide) (by rw [hx]; decide) (by decide) ?_
        exact cs_12 S hlt hK hA hbA tx hX hbl hL hn (by omega) (by omega) g12 hl I again
      · refine lv_tableIn (tgt := 929) (off := 880) S.1 S.2.1 d_L_49 (by rw [hx]; decide) (by rw [hx]; decide) (by rw [hx]; decide) (by decide) ?_
        exact cs_13 S hlt hK hA hbA tx hX hbl hL hn (by omega) (by omega) g13 hl I again
      · refine lv_tableIn (tgt := 997) (off := 948) S.1 S.2.1 d_L_49 (by rw [hx]; decide) (by rw [hx]; decide) (by rw [hx]; decide) (by decide) ?_
        exact cs_14 S hlt hK hA hbA tx hX hbl hL hn (by omega) (by omega) g14 hl I again
      · refine lv_tableIn (tgt := 1065) (off := 1016) S.1 S.2.1 d_L_49 (by rw [hx]; decide) (by rw [hx]; decide) (by rw [hx]; decide) (by decide) ?_
        exact cs_15 S hlt hK hA hbA tx hX hbl hL hn (by omega) (by omega) g15 hl I again
