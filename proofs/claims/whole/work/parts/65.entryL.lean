set_option maxHeartbeats 4000000 in
set_option maxRecDepth 100000 in
theorem whole_from {Inv : Nat → StC → Mo → Prop} (hini : initAll Inv) (hst : stepAll Inv) {p : Program} {e : Env} {s : State} {m : MethodId} {below : List Frame} {meth : Method} {c : Code} (l : Launch) (hlt : l.stackTraces = false) {b L : Nat} {xs : Nat → Int32} (hL : L ≤ 2561) (C0 : lw_At p s m meth c b L xs) : W p l e room_1 s m #[Value.ref b] below meth c s.heap [] 0 0 (lw_Z below #[Value.ref b] s) (entryFrame m ([Value.ref b] : List Value).toArray 7) := by
  obtain ⟨hx, hb, hr, hml, hown, hts0, hX, hbl, hlk, hgv⟩ := C0
  obtain ⟨D, cA, hCK⟩ := st_ck hts0
  have tx := st_tx hts0 hgv
  have S : CallFix p m c code 7 s #[Value.ref b] gtbl R_Lw := ⟨hx, hb, hml, hown, fun w hw => hts0 w (List.mem_filter.mp hw).1⟩
  generalize hAe : (fun q : Nat => s.heap.size ≤ q) = A at tx
  have hA : ∀ q : Nat, s.heap.size ≤ q → A q := fun q h => by rw [← hAe]; exact h
  have hA2 : ∀ q : Nat, A q → s.heap.size ≤ q := fun q h => by rw [← hAe] at h; exact h
  have hbA : ¬ A b := fun h => absurd hbl (Nat.not_lt.mpr (hA2 b h))
  have hl := lv_entry [.ref b] (n := 7) (Nat.le_of_ble_eq_true rfl)
  rw [lg_entry_eq]
  generalize (lg_sl [.ref b] ++ List.replicate (7 - (lg_sl [.ref b]).length) Slot.unset).toArray = ls at hl ⊢
  have hl : lv_has ls 7 [(0, .ref b)] := hl
  have I : kI D A s [] s.heap [] := ⟨fun k q h => (by cases h), ⟨fun i j p q h => (by cases h), fun k q h => (by cases h)⟩, va_S.rf⟩
  generalize hlo : ([] : List Loc) = locs at I ⊢
  refine va_new (ci := 0) (fs := [.null, .null, .null, .null, .null, .null, .null]) (C := R_Gr) (T := F_Gr) (N := 7) S.1 S.2.1 S.2.2.2.2 u_Gr t_Gr t_Gr_ok S.2.2.2.1 (S.2.2.2.2 _ cn_Lw_8) (S.2.2.2.2 _ is_Gr) (S.2.2.2.2 _ in_Gr) hCK.1.1 I.1 I.2.1 I.2.2 hA rfl df_Gr (Nat.le_of_ble_eq_true rfl) (Nat.le_of_ble_eq_true rfl) d_L_0 (fun q0 H hP hD hS => ?_)
  have I : kI D A s [(q0, .inr (0, [.null, .null, .null, .null, .null, .null, .null]))] H locs := ⟨hP, hD, hS⟩
  refine lv_dup S.1 S.2.1 d_L_3 rfl ?_
  refine lv_aload_n S.1 S.2.1 d_L_4 rfl (lv_at hl 0 rfl) ?_
  refine lv_iconst (v := (0 : Int32)) S.1 S.2.1 d_L_5 rfl ?_
  refine vp_callSi (va_runS (As := [.ref b, .int 0]) (rest := [.ref q0, .ref q0]) S (c_Lw_cell l b L xs hL) (mkS S.2.2.2.2 ml_Lw_57 k_Lw_cell rfl rfl ⟨Nat.le_of_ble_eq_true rfl, Nat.le_of_ble_eq_true rfl⟩) ⟨scblind, fun U hU hW => ⟨rfl, by show va_X b L xs U U.heap; rw [hU]; exact (hX.kept (I.2.2.2.1 b hbl hbA)).moved hW.alike⟩⟩ rfl rfl hl.1 rfl (lv_room (Nat.le_of_ble_eq_true rfl)) d_L_6 ⟨Nat.le_of_ble_eq_true rfl, Nat.le_of_ble_eq_true rfl⟩).run (fun r6 hr6 => ?_)
  subst hr6
  refine call_ct (w0 := []) (w1 := [(q0, .inr (0, [.null, .null, .null, .null, .null, .null, .null]))]) S (c_Gr_init l D cA q0 (cell0 L xs) _ (hini (cell0 L xs))) ml_Lw_63 k_Gr_init rfl rfl ⟨Nat.le_of_ble_eq_true rfl, Nat.le_of_ble_eq_true rfl⟩ hCK hA I hl.1 rfl rfl (Nat.le_of_ble_eq_true rfl) d_L_9 ⟨Nat.le_of_ble_eq_true rfl, Nat.le_of_ble_eq_true rfl⟩ (fun u H9 locs9 h J => ?_)
  obtain ⟨ac, te⟩ := u
  obtain ⟨e0, h⟩ := h
  dsimp only at e0 h
  subst e0
  have I : kI D A s (wC ac cA (te, ruZ, auZ, reZ, laZ, spZ, leZ)) H9 locs9 := J
  refine lv_astore_n (lv' := [(1, .ref (ac 0)), (0, .ref b)]) S.1 S.2.1 d_L_12 rfl hl (by decide) rfl (fun ls hl => ?_)
  refine va_new (ci := 8) (fs := [.int 0, .null, .null, .null, .null, .int 0, .int 0, .null, .null, .int 0, .null, .int 0, .null, .null, .null, .null, .null, .int 0, .int 0, .null, .null, .null, .null, .null, .null, .null]) (C := R_Mo) (T := F_Mo) (N := 26) S.1 S.2.1 S.2.2.2.2 u_Mo t_Mo t_Mo_ok S.2.2.2.1 (S.2.2.2.2 _ cn_Lw_66) (S.2.2.2.2 _ is_Mo) (S.2.2.2.2 _ in_Mo) hCK.1.1 I.1 I.2.1 I.2.2 hA rfl df_Mo (Nat.le_of_ble_eq_true rfl) (Nat.le_of_ble_eq_true rfl) d_L_13 (fun q1 H hP hD hS => ?_)
  have I : kI D A s (wC ac cA (te, ruZ, auZ, reZ, laZ, spZ, leZ) ++ [(q1, .inr (8, [.int 0, .null, .null, .null, .null, .int 0, .int 0, .null, .null, .int 0, .null, .int 0, .null, .null, .null, .null, .null, .int 0, .int 0, .null, .null, .null, .null, .null, .null, .null]))]) H locs9 := ⟨hP, hD, hS⟩
  refine lv_dup S.1 S.2.1 d_L_16 rfl ?_
  refine lv_aload_n S.1 S.2.1 d_L_17 rfl (lv_at hl 1 rfl) ?_
  refine lv_iconst (v := (0 : Int32)) S.1 S.2.1 d_L_18 rfl ?_
  refine vp_callSi (va_runS (As := [.ref b, .int 0]) (rest := [.ref q1, .ref q1]) S (c_Lw_cell l b L xs hL) (mkS S.2.2.2.2 ml_Lw_57 k_Lw_cell rfl rfl ⟨Nat.le_of_ble_eq_true rfl, Nat.le_of_ble_eq_true rfl⟩) ⟨scblind, fun U hU hW => ⟨rfl, by show va_X b L xs U U.heap; rw [hU]; exact (hX.kept (I.2.2.2.1 b hbl hbA)).moved hW.alike⟩⟩ rfl rfl hl.1 rfl (lv_room (Nat.le_of_ble_eq_true rfl)) d_L_19 ⟨Nat.le_of_ble_eq_true rfl, Nat.le_of_ble_eq_true rfl⟩).run (fun r19 hr19 => ?_)
  subst hr19
  refine call_ct (w0 := wC ac cA (te, ruZ, auZ, reZ, laZ, spZ, leZ)) (w1 := [(q1, .inr (8, [.int 0, .null, .null, .null, .null, .int 0, .int 0, .null, .null, .int 0, .null, .int 0, .null, .null, .null, .null, .null, .int 0, .int 0, .null, .null, .null, .null, .null, .null, .null]))]) S (c_Mo_init l D cA q1 (cell0 L xs) _ h) ml_Lw_68 k_Mo_init rfl rfl ⟨Nat.le_of_ble_eq_true rfl, Nat.le_of_ble_eq_true rfl⟩ hCK hA I hl.1 rfl rfl (Nat.le_of_ble_eq_true rfl) d_L_22 ⟨Nat.le_of_ble_eq_true rfl, Nat.le_of_ble_eq_true rfl⟩ (fun u H8 locs8 h J2 => ?_)
  obtain ⟨am, mo⟩ := u
  obtain ⟨e1, h⟩ := h
  dsimp only at e1 h
  subst e1
  have I : kI D A s (wC ac cA (te, ruZ, auZ, reZ, laZ, spZ, leZ) ++ wM am cA mo) H8 locs8 := J2
  refine lv_astore_n (lv' := [(2, .ref (am 0)), (1, .ref (ac 0)), (0, .ref b)]) S.1 S.2.1 d_L_25 rfl hl (by decide) rfl (fun ls hl => ?_)
  refine lv_iconst (v := (1 : Int32)) S.1 S.2.1 d_L_26 rfl ?_
  refine k_newJ (N := 1) hCK S ac_J hA I (by decide) (by decide) (by decide) (Nat.le_of_ble_eq_true rfl) (Nat.le_of_ble_eq_true rfl) d_L_27 (fun ao H I => ?_)
  refine lv_astore_n (lv' := [(3, .ref ao), (2, .ref (am 0)), (1, .ref (ac 0)), (0, .ref b)]) S.1 S.2.1 d_L_29 rfl hl (by decide) rfl (fun ls hl => ?_)
  refine lv_iconst (v := (1 : Int32)) S.1 S.2.1 d_L_30 rfl ?_
  refine lv_istore (lv' := [(4, .int (nI 1)), (3, .ref ao), (2, .ref (am 0)), (1, .ref (ac 0)), (0, .ref b)]) S.1 S.2.1 d_L_31 hl (by decide) rfl (fun ls hl => ?_)
  have I2 : gIn D A s (wA ac am ao cA) ((te, ruZ, auZ, reZ, laZ, spZ, leZ), mo, fun _ => 0) H locs8 := by
    have I3 : kI D A s (wC ac cA (te, ruZ, auZ, reZ, laZ, spZ, leZ) ++ (wM am cA mo ++ oW ao cA (fun _ => 0))) H locs8 := by rw [← List.append_assoc]; exact I
    exact I3
  refine W.cs (cells' := 57 + 0) (slots' := 18354 + 6 * 0) (by rfl) (by rfl) ?_
  refine law_loop S hlt hCK.1 hA hbA tx hX hbl hL hst ?_ 513 1 0 _ _ _ _ _ _ rfl (by omega) (by omega) h (lv_sub hl [4, 3, 2, 1, 0] rfl) I2
  intro ls H locs cells slots h1 h2 hS
  refine lv_iconst (v := (1 : Int32)) S.1 S.2.1 d_L_1096 rfl ?_
  refine va_forget (fun q hq => hA2 _ (hS.2.2 q hq)) ?_
  refine W.widen (k := 1097) (n := 26642) h1 h2 ?_
  exact lw_ret S.1 S.2.1 hr hlk d_L_1097
