abbrev rm_Ar_fillIT_newestIn : Room := { frames := 0, cells := 0, slots := 0, locals := 0 }
def p_Ar_fillIT_newestIn_5 (x1 : Int32) (Q : Te → Prop) : Nat → Int32 → Int32 → Te → Prop
  | 0, _, _, _ => False
  | n + 1, x2, x3, te => ((x3 ≤ x2 → Q te) ∧
    (¬ x3 ≤ x2 → (vp_in x2 256 ∧ ∀ te13 : Te, te13 = Te_newestIn_s te (upd (Te_newestIn te) x2.toNatClampNeg x1) → p_Ar_fillIT_newestIn_5 x1 Q n (x2 + (1 : Int32)) x3 te13)))
def p_Ar_fillIT_newestIn (x1 : Int32) (te : Te) (Q : Te → Prop) : Prop :=
  (∃ f, p_Ar_fillIT_newestIn_5 x1 Q f (0 : Int32) (256 : Int32) te)

def teZ : Te := (fun _ => 0, fun _ => 0, fun _ => 0, fun _ => 0, fun _ => 0, fun _ => 0, fun _ => 0, 0)
abbrev rm_Te_initT : Room := { frames := 1, cells := 7, slots := 2502, locals := 23 }
def p_Te_initT_68 (x1 : Int32) (Q : Te → Prop) : Nat → Int32 → Te → Prop
  | 0, _, _ => False
  | n + 1, x2, te => (((6 : Int32) ≤ x2 → p_Ar_fillIT_newestIn (-1 : Int32) te (fun te102 => Q te102)) ∧
    (¬ (6 : Int32) ≤ x2 → (vp_in x2 6 ∧ ∀ te90 : Te, te90 = Te_places_s te (upd (Te_places te) x2.toNatClampNeg (if (x1 >>> (((2 : Int32) * x2) &&& 31)) &&& (3 : Int32) < (2 : Int32) then (x1 >>> (((2 : Int32) * x2) &&& 31)) &&& (3 : Int32) else (2 : Int32))) → p_Te_initT_68 x1 Q n (x2 + (1 : Int32)) te90)))
def p_Te_initT (x1 : Int32) (te : Te) (Q : Te → Prop) : Prop :=
  (∃ f, p_Te_initT_68 x1 Q f (0 : Int32) te)
set_option maxHeartbeats 4000000 in
set_option maxRecDepth 100000 in
theorem n_Ar_fillIT_newestIn_5 {p : Program} {l : Launch} {e : Env} {s : State} {m : MethodId} {args : Array Value} {below : List Frame} {meth : Method} {c : Code} {D : va_G} {A : Nat → Prop} {ad : Nat → Nat} {cA : ClassId × ClassId × ClassId}  {x1 : Int32} {Q : Te → Prop} (S : CallFix p m c b_Ar_fillI 4 s args gtbl R_Ar) (hr : meth.sig.returnType = none) (hlk : meth.locks = false) (hK : gK D (tyA cA) s) (hA : ∀ q : Nat, s.heap.size ≤ q → A q) : ∀ n : Nat, ∀ (ls : Array Slot) (H : Heap) (locs : List Loc) (x2 : Int32) (x3 : Int32) (te : Te), p_Ar_fillIT_newestIn_5 x1 Q n x2 x3 te → lv_has ls 4 [(0, .ref (ad 6)), (1, .int x1), (2, .int x2), (3, .int x3)] → gIn D A s (wT ad cA) te H locs → W p l e rm_Ar_fillIT_newestIn s m args below meth c H locs 0 0 (qV D (tyA cA) A (wT ad cA) (fun u : Te => u) (fun u : Te => Q u) below args s) (F0 m 5 ls []) := by
  intro n
  induction n with
  | zero =>
    intro ls H locs x2 x3 te h
    exact (show False from h).elim
  | succ n ih =>
    intro ls H locs x2 x3 te h hl I
    refine lv_iload_n S.1 S.2.1 d_Ar_fillI_5 rfl (lv_at hl 2 rfl) ?_
    refine lv_iload_n S.1 S.2.1 d_Ar_fillI_6 rfl (lv_at hl 3 rfl) ?_
    refine lv_icmp_ge (tgt := 20) S.1 S.2.1 d_Ar_fillI_7 (by decide) (fun hc => ?_) (fun hc => ?_)
    · have h := h.1 hc
      exact ret_rwv S hr hlk hK I h d_Ar_fillI_20
    · have h := h.2 hc
      refine lv_aload_n S.1 S.2.1 d_Ar_fillI_10 rfl (lv_at hl 0 rfl) ?_
      refine lv_iload_n S.1 S.2.1 d_Ar_fillI_11 rfl (lv_at hl 2 rfl) ?_
      refine lv_iload_n S.1 S.2.1 d_Ar_fillI_12 rfl (lv_at hl 1 rfl) ?_
      obtain ⟨hin, h⟩ := h
      refine sT_Te_newestIn S hK I hin d_Ar_fillI_13 (fun H locs te13 ete13 I => ?_)
      have h := h te13 ete13
      refine lv_iinc (k := 2) (v := x2 + (1 : Int32)) (lv' := [(2, .int (x2 + (1 : Int32))), (0, .ref (ad 6)), (1, .int x1), (3, .int x3)]) S.1 S.2.1 d_Ar_fillI_14 hl rfl rfl (by decide) rfl (fun ls hl => ?_)
      refine lv_goto (tgt := 5) S.1 S.2.1 d_Ar_fillI_17 (by decide) ?_
      exact ih _ _ _ _ _ _ h (lv_sub hl [1, 2, 0, 3] rfl) I
set_option maxHeartbeats 4000000 in
set_option maxRecDepth 100000 in
theorem c_Ar_fillIT_newestIn (l : Launch) (D : va_G) (ad : Nat → Nat) (cA : ClassId × ClassId × ClassId) (te : Te) (x1 : Int32) (Q : Te → Prop) (h : p_Ar_fillIT_newestIn x1 te Q) : rwV l y_Ar_fillI (wsOf y_Ar_fillI b_Ar_fillI 4 none) rm_Ar_fillIT_newestIn D (tyA cA) (wT ad cA) [.ref (ad 6), .int x1] te (fun u : Te => u) (fun u : Te => Q u) := by
  refine rwV_of (by decide) (Nat.le_of_ble_eq_true rfl) ?_
  intro p e s m below meth c S hr hlk hK A hA I ls hl
  have hl : lv_has ls 4 [(0, .ref (ad 6)), (1, .int x1)] := hl
  refine lv_iconst (v := (0 : Int32)) S.1 S.2.1 d_Ar_fillI_0 rfl ?_
  refine lv_istore_n (lv' := [(2, .int (0 : Int32)), (0, .ref (ad 6)), (1, .int x1)]) S.1 S.2.1 d_Ar_fillI_1 rfl hl (by decide) rfl (fun ls hl => ?_)
  refine lv_aload_n S.1 S.2.1 d_Ar_fillI_2 rfl (lv_at hl 1 rfl) ?_
  refine nT_Te_newestIn S hK I.1 d_Ar_fillI_3 ?_
  refine lv_istore_n (lv' := [(3, .int (256 : Int32)), (2, .int (0 : Int32)), (0, .ref (ad 6)), (1, .int x1)]) S.1 S.2.1 d_Ar_fillI_4 rfl hl (by decide) rfl (fun ls hl => ?_)
  obtain ⟨n', h⟩ := h
  exact n_Ar_fillIT_newestIn_5 S hr hlk hK hA n' _ _ _ _ _ _ h (lv_sub hl [2, 3, 1, 0] rfl) I

set_option maxHeartbeats 4000000 in
set_option maxRecDepth 100000 in
theorem n_Te_initT_68 {p : Program} {l : Launch} {e : Env} {s : State} {m : MethodId} {args : Array Value} {below : List Frame} {meth : Method} {c : Code} {D : va_G} {A : Nat → Prop} {ad : Nat → Nat} {cA : ClassId × ClassId × ClassId}  {x1 : Int32} {Q : Te → Prop} (S : CallFix p m c b_Te_init 3 s args gtbl R_Te) (hr : meth.sig.returnType = none) (hlk : meth.locks = false) (hK : gK D (tyA cA) s) (hA : ∀ q : Nat, s.heap.size ≤ q → A q) : ∀ n : Nat, ∀ (ls : Array Slot) (H : Heap) (locs : List Loc) (x2 : Int32) (te : Te), p_Te_initT_68 x1 Q n x2 te → lv_has ls 3 [(0, .ref (ad 0)), (1, .int x1), (2, .int x2)] → gIn D A s (wT ad cA) te H locs → W p l e rm_Te_initT s m args below meth c H locs 7 2502 (MQ below (ctQ D cA A (fun u : (Nat → Nat) × Te => u.1 0 = ad 0 ∧ Q u.2) (fun u : (Nat → Nat) × Te => wT u.1 cA u.2)) args s 7 2502 A) (F0 m 68 ls []) := by
  intro n
  induction n with
  | zero =>
    intro ls H locs x2 te h
    exact (show False from h).elim
  | succ n ih =>
    intro ls H locs x2 te h hl I
    refine lv_iload_n S.1 S.2.1 d_Te_init_68 rfl (lv_at hl 2 rfl) ?_
    refine lv_bipush (v := (6 : Int32)) S.1 S.2.1 d_Te_init_69 rfl ?_
    refine lv_icmp_ge (tgt := 97) S.1 S.2.1 d_Te_init_71 (by decide) (fun hc => ?_) (fun hc => ?_)
    · have h := h.1 hc
      refine lv_aload_n S.1 S.2.1 d_Te_init_97 rfl (lv_at hl 0 rfl) ?_
      refine gT_Te_newestIn S hK I.1 d_Te_init_98 ?_
      refine lv_iconst (v := (-1 : Int32)) S.1 S.2.1 d_Te_init_101 rfl ?_
      refine callS_rwv S (c_Ar_fillIT_newestIn l D ad cA _ _ _ h) (mkS S.2.2.2.2 ml_Te_39 k_Ar_fillI rfl rfl ⟨Nat.le_of_ble_eq_true rfl, Nat.le_of_ble_eq_true rfl⟩) hK hA I hl.1 rfl rfl (Nat.le_of_ble_eq_true rfl) d_Te_init_102 ⟨Nat.le_of_ble_eq_true rfl, Nat.le_of_ble_eq_true rfl⟩ (fun te102 H locs h I => ?_)
      exact ret_ct (u := (ad, _)) S hr hlk I ⟨rfl, h⟩ d_Te_init_105
    · have h := h.2 hc
      refine lv_aload_n S.1 S.2.1 d_Te_init_74 rfl (lv_at hl 0 rfl) ?_
      refine gT_Te_places S hK I.1 d_Te_init_75 ?_
      refine lv_iload_n S.1 S.2.1 d_Te_init_78 rfl (lv_at hl 2 rfl) ?_
      refine lv_iconst (v := (2 : Int32)) S.1 S.2.1 d_Te_init_79 rfl ?_
      refine lv_iload_n S.1 S.2.1 d_Te_init_80 rfl (lv_at hl 1 rfl) ?_
      refine lv_iconst (v := (2 : Int32)) S.1 S.2.1 d_Te_init_81 rfl ?_
      refine lv_iload_n S.1 S.2.1 d_Te_init_82 rfl (lv_at hl 2 rfl) ?_
      refine lv_imul S.1 S.2.1 d_Te_init_83 ?_
      refine lv_ishr S.1 S.2.1 d_Te_init_84 ?_
      refine lv_iconst (v := (3 : Int32)) S.1 S.2.1 d_Te_init_85 rfl ?_
      refine lv_iand S.1 S.2.1 d_Te_init_86 ?_
      refine va_mmin S.1 S.2.1 (S.2.2.1.trans hl.1.symm) S.2.2.2.1 (S.2.2.2.2 _ ml_Te_33) (S.2.2.2.2 _ st_min) (S.2.2.2.2 _ in_Ma) (S.2.2.2.2 _ co_min) (Nat.le_of_ble_eq_true rfl) (Nat.le_of_ble_eq_true rfl) (Nat.le_refl _) (Nat.le_refl _) d_Te_init_87 ?_
      obtain ⟨hin, h⟩ := h
      refine sT_Te_places S hK I hin d_Te_init_90 (fun H locs te90 ete90 I => ?_)
      have h := h te90 ete90
      refine lv_iinc (k := 2) (v := x2 + (1 : Int32)) (lv' := [(2, .int (x2 + (1 : Int32))), (0, .ref (ad 0)), (1, .int x1)]) S.1 S.2.1 d_Te_init_91 hl rfl rfl (by decide) rfl (fun ls hl => ?_)
      refine lv_goto (tgt := 68) S.1 S.2.1 d_Te_init_94 (by decide) ?_
      exact ih _ _ _ _ _ h (lv_sub hl [1, 2, 0] rfl) I
set_option maxHeartbeats 4000000 in
set_option maxRecDepth 100000 in
theorem t_Te_initT {p : Program} {l : Launch} {e : Env} {s : State} {m : MethodId} {args : Array Value} {below : List Frame} {meth : Method} {c : Code} {D : va_G} {A : Nat → Prop} {ad : Nat → Nat} {cA : ClassId × ClassId × ClassId} {x1 : Int32} {te : Te} {Q : Te → Prop} {H : Heap} {locs : List Loc} {ls : Array Slot} (S : CallFix p m c b_Te_init 3 s args gtbl R_Te) (hr : meth.sig.returnType = none) (hlk : meth.locks = false) (hK : gK D (tyA cA) s) (hA : ∀ q : Nat, s.heap.size ≤ q → A q) (h : p_Te_initT x1 te Q) (hl : lv_has ls 3 [(0, .ref (ad 0)), (1, .int x1)]) (I : gIn D A s (wT ad cA) te H locs) : W p l e rm_Te_initT s m args below meth c H locs 7 2502 (MQ below (ctQ D cA A (fun u : (Nat → Nat) × Te => u.1 0 = ad 0 ∧ Q u.2) (fun u : (Nat → Nat) × Te => wT u.1 cA u.2)) args s 7 2502 A) (F0 m 66 ls []) := by
  refine lv_iconst (v := (0 : Int32)) S.1 S.2.1 d_Te_init_66 rfl ?_
  refine lv_istore_n (lv' := [(2, .int (0 : Int32)), (0, .ref (ad 0)), (1, .int x1)]) S.1 S.2.1 d_Te_init_67 rfl hl (by decide) rfl (fun ls hl => ?_)
  obtain ⟨n', h⟩ := h
  exact n_Te_initT_68 S hr hlk hK hA n' _ _ _ _ _ h (lv_sub hl [1, 2, 0] rfl) I
set_option maxHeartbeats 4000000 in
set_option maxRecDepth 100000 in
theorem c_Te_init (l : Launch) (D : va_G) (cA : ClassId × ClassId × ClassId) (h0 : Nat) (x1 : Int32) (Q : Te → Prop) (h : p_Te_initT x1 teZ Q) : ctV l y_Te_init (wsOf y_Te_init b_Te_init 3 none) rm_Te_initT D cA [(h0, .inr (1, [.null, .null, .null, .null, .null, .null, .null, .int 0]))] [.ref h0, .int x1] 7 2502 (fun u : (Nat → Nat) × Te => u.1 0 = h0 ∧ Q u.2) (fun u : (Nat → Nat) × Te => wT u.1 cA u.2) := by
  refine ctV_of (by decide) rfl (Nat.le_of_ble_eq_true rfl) ?_
  intro p e s m below meth c S hr hlk hin hK A hA I ls hl
  have hl : lv_has ls 3 [(0, .ref h0), (1, .int x1)] := hl
  generalize hlo : ([] : List Loc) = locs at I ⊢
  refine lv_aload_n S.1 S.2.1 d_Te_init_0 rfl (lv_at hl 0 rfl) ?_
  refine W.objInit S.1 S.2.1 S.2.2.2.1 (S.2.2.2.2 _ mo_Te) (S.2.2.2.2 _ ob_i) (S.2.2.2.2 _ ob_c) rfl (hl.1.trans S.2.2.1.symm) rfl d_Te_init_1 (Nat.le_of_ble_eq_true rfl) (Nat.le_of_ble_eq_true rfl) ?_
  refine W.eq (g2 := F0 m 4 ls []) rfl ?_
  refine lv_aload_n S.1 S.2.1 d_Te_init_4 rfl (lv_at hl 0 rfl) ?_
  refine lv_bipush (v := (6 : Int32)) S.1 S.2.1 d_Te_init_5 rfl ?_
  refine k_newI (N := 6) hK S ac_I hA I (by decide) (by decide) (by decide) (Nat.le_of_ble_eq_true rfl) (Nat.le_of_ble_eq_true rfl) d_Te_init_7 (fun q7 H I => ?_)
  have I : kI D A s [(h0, .inr (1, [.null, .null, .null, .null, .null, .null, .null, .int 0])), (q7, .inl (cA.1, 6, .inl (fun _ => 0)))] H locs := I
  refine va_putF (D := D) (ci := 1) (v := .ref q7) (ty := .array .int) (C := R_Te) (T := F_Te) (N := 8) S.1 S.2.1 S.2.2.2.2 u_Te t_Te t_Te_ok n_Te S.2.2.2.1 hK.1.1 I.1 I.2.1 I.2.2 0 rfl rfl 0 (by decide) (S.2.2.2.2 _ fl_Te_places) (fun _ h9 => h9) rfl hin rfl (by decide +kernel) rfl rfl (Nat.le_of_ble_eq_true rfl) d_Te_init_9 (fun H locs hP hD hS => ?_)
  have I : kI D A s [(h0, .inr (1, [.ref q7, .null, .null, .null, .null, .null, .null, .int 0])), (q7, .inl (cA.1, 6, .inl (fun _ => 0)))] H locs := ⟨hP, hD, hS⟩
  refine lv_aload_n S.1 S.2.1 d_Te_init_12 rfl (lv_at hl 0 rfl) ?_
  refine lv_sipush (v := (448 : Int32)) S.1 S.2.1 d_Te_init_13 rfl ?_
  refine k_newI (N := 448) hK S ac_I hA I (by decide) (by decide) (by decide) (Nat.le_of_ble_eq_true rfl) (Nat.le_of_ble_eq_true rfl) d_Te_init_16 (fun q16 H I => ?_)
  have I : kI D A s [(h0, .inr (1, [.ref q7, .null, .null, .null, .null, .null, .null, .int 0])), (q7, .inl (cA.1, 6, .inl (fun _ => 0))), (q16, .inl (cA.1, 448, .inl (fun _ => 0)))] H locs := I
  refine va_putF (D := D) (ci := 1) (v := .ref q16) (ty := .array .int) (C := R_Te) (T := F_Te) (N := 8) S.1 S.2.1 S.2.2.2.2 u_Te t_Te t_Te_ok n_Te S.2.2.2.1 hK.1.1 I.1 I.2.1 I.2.2 0 rfl rfl 1 (by decide) (S.2.2.2.2 _ fl_Te_symbol) (fun _ h9 => h9) rfl hin rfl (by decide +kernel) rfl rfl (Nat.le_of_ble_eq_true rfl) d_Te_init_18 (fun H locs hP hD hS => ?_)
  have I : kI D A s [(h0, .inr (1, [.ref q7, .ref q16, .null, .null, .null, .null, .null, .int 0])), (q7, .inl (cA.1, 6, .inl (fun _ => 0))), (q16, .inl (cA.1, 448, .inl (fun _ => 0)))] H locs := ⟨hP, hD, hS⟩
  refine lv_aload_n S.1 S.2.1 d_Te_init_21 rfl (lv_at hl 0 rfl) ?_
  refine lv_sipush (v := (448 : Int32)) S.1 S.2.1 d_Te_init_22 rfl ?_
  refine k_newI (N := 448) hK S ac_I hA I (by decide) (by decide) (by decide) (Nat.le_of_ble_eq_true rfl) (Nat.le_of_ble_eq_true rfl) d_Te_init_25 (fun q25 H I => ?_)
  have I : kI D A s [(h0, .inr (1, [.ref q7, .ref q16, .null, .null, .null, .null, .null, .int 0])), (q7, .inl (cA.1, 6, .inl (fun _ => 0))), (q16, .inl (cA.1, 448, .inl (fun _ => 0))), (q25, .inl (cA.1, 448, .inl (fun _ => 0)))] H locs := I
  refine va_putF (D := D) (ci := 1) (v := .ref q25) (ty := .array .int) (C := R_Te) (T := F_Te) (N := 8) S.1 S.2.1 S.2.2.2.2 u_Te t_Te t_Te_ok n_Te S.2.2.2.1 hK.1.1 I.1 I.2.1 I.2.2 0 rfl rfl 2 (by decide) (S.2.2.2.2 _ fl_Te_first) (fun _ h9 => h9) rfl hin rfl (by decide +kernel) rfl rfl (Nat.le_of_ble_eq_true rfl) d_Te_init_27 (fun H locs hP hD hS => ?_)
  have I : kI D A s [(h0, .inr (1, [.ref q7, .ref q16, .ref q25, .null, .null, .null, .null, .int 0])), (q7, .inl (cA.1, 6, .inl (fun _ => 0))), (q16, .inl (cA.1, 448, .inl (fun _ => 0))), (q25, .inl (cA.1, 448, .inl (fun _ => 0)))] H locs := ⟨hP, hD, hS⟩
  refine lv_aload_n S.1 S.2.1 d_Te_init_30 rfl (lv_at hl 0 rfl) ?_
  refine lv_sipush (v := (448 : Int32)) S.1 S.2.1 d_Te_init_31 rfl ?_
  refine k_newI (N := 448) hK S ac_I hA I (by decide) (by decide) (by decide) (Nat.le_of_ble_eq_true rfl) (Nat.le_of_ble_eq_true rfl) d_Te_init_34 (fun q34 H I => ?_)
  have I : kI D A s [(h0, .inr (1, [.ref q7, .ref q16, .ref q25, .null, .null, .null, .null, .int 0])), (q7, .inl (cA.1, 6, .inl (fun _ => 0))), (q16, .inl (cA.1, 448, .inl (fun _ => 0))), (q25, .inl (cA.1, 448, .inl (fun _ => 0))), (q34, .inl (cA.1, 448, .inl (fun _ => 0)))] H locs := I
  refine va_putF (D := D) (ci := 1) (v := .ref q34) (ty := .array .int) (C := R_Te) (T := F_Te) (N := 8) S.1 S.2.1 S.2.2.2.2 u_Te t_Te t_Te_ok n_Te S.2.2.2.1 hK.1.1 I.1 I.2.1 I.2.2 0 rfl rfl 3 (by decide) (S.2.2.2.2 _ fl_Te_second) (fun _ h9 => h9) rfl hin rfl (by decide +kernel) rfl rfl (Nat.le_of_ble_eq_true rfl) d_Te_init_36 (fun H locs hP hD hS => ?_)
  have I : kI D A s [(h0, .inr (1, [.ref q7, .ref q16, .ref q25, .ref q34, .null, .null, .null, .int 0])), (q7, .inl (cA.1, 6, .inl (fun _ => 0))), (q16, .inl (cA.1, 448, .inl (fun _ => 0))), (q25, .inl (cA.1, 448, .inl (fun _ => 0))), (q34, .inl (cA.1, 448, .inl (fun _ => 0)))] H locs := ⟨hP, hD, hS⟩
  refine lv_aload_n S.1 S.2.1 d_Te_init_39 rfl (lv_at hl 0 rfl) ?_
  refine lv_sipush (v := (448 : Int32)) S.1 S.2.1 d_Te_init_40 rfl ?_
  refine k_newI (N := 448) hK S ac_I hA I (by decide) (by decide) (by decide) (Nat.le_of_ble_eq_true rfl) (Nat.le_of_ble_eq_true rfl) d_Te_init_43 (fun q43 H I => ?_)
  have I : kI D A s [(h0, .inr (1, [.ref q7, .ref q16, .ref q25, .ref q34, .null, .null, .null, .int 0])), (q7, .inl (cA.1, 6, .inl (fun _ => 0))), (q16, .inl (cA.1, 448, .inl (fun _ => 0))), (q25, .inl (cA.1, 448, .inl (fun _ => 0))), (q34, .inl (cA.1, 448, .inl (fun _ => 0))), (q43, .inl (cA.1, 448, .inl (fun _ => 0)))] H locs := I
  refine va_putF (D := D) (ci := 1) (v := .ref q43) (ty := .array .int) (C := R_Te) (T := F_Te) (N := 8) S.1 S.2.1 S.2.2.2.2 u_Te t_Te t_Te_ok n_Te S.2.2.2.1 hK.1.1 I.1 I.2.1 I.2.2 0 rfl rfl 4 (by decide) (S.2.2.2.2 _ fl_Te_size) (fun _ h9 => h9) rfl hin rfl (by decide +kernel) rfl rfl (Nat.le_of_ble_eq_true rfl) d_Te_init_45 (fun H locs hP hD hS => ?_)
  have I : kI D A s [(h0, .inr (1, [.ref q7, .ref q16, .ref q25, .ref q34, .ref q43, .null, .null, .int 0])), (q7, .inl (cA.1, 6, .inl (fun _ => 0))), (q16, .inl (cA.1, 448, .inl (fun _ => 0))), (q25, .inl (cA.1, 448, .inl (fun _ => 0))), (q34, .inl (cA.1, 448, .inl (fun _ => 0))), (q43, .inl (cA.1, 448, .inl (fun _ => 0)))] H locs := ⟨hP, hD, hS⟩
  refine lv_aload_n S.1 S.2.1 d_Te_init_48 rfl (lv_at hl 0 rfl) ?_
  refine lv_sipush (v := (256 : Int32)) S.1 S.2.1 d_Te_init_49 rfl ?_
  refine k_newI (N := 256) hK S ac_I hA I (by decide) (by decide) (by decide) (Nat.le_of_ble_eq_true rfl) (Nat.le_of_ble_eq_true rfl) d_Te_init_52 (fun q52 H I => ?_)
  have I : kI D A s [(h0, .inr (1, [.ref q7, .ref q16, .ref q25, .ref q34, .ref q43, .null, .null, .int 0])), (q7, .inl (cA.1, 6, .inl (fun _ => 0))), (q16, .inl (cA.1, 448, .inl (fun _ => 0))), (q25, .inl (cA.1, 448, .inl (fun _ => 0))), (q34, .inl (cA.1, 448, .inl (fun _ => 0))), (q43, .inl (cA.1, 448, .inl (fun _ => 0))), (q52, .inl (cA.1, 256, .inl (fun _ => 0)))] H locs := I
  refine va_putF (D := D) (ci := 1) (v := .ref q52) (ty := .array .int) (C := R_Te) (T := F_Te) (N := 8) S.1 S.2.1 S.2.2.2.2 u_Te t_Te t_Te_ok n_Te S.2.2.2.1 hK.1.1 I.1 I.2.1 I.2.2 0 rfl rfl 5 (by decide) (S.2.2.2.2 _ fl_Te_newestIn) (fun _ h9 => h9) rfl hin rfl (by decide +kernel) rfl rfl (Nat.le_of_ble_eq_true rfl) d_Te_init_54 (fun H locs hP hD hS => ?_)
  have I : kI D A s [(h0, .inr (1, [.ref q7, .ref q16, .ref q25, .ref q34, .ref q43, .ref q52, .null, .int 0])), (q7, .inl (cA.1, 6, .inl (fun _ => 0))), (q16, .inl (cA.1, 448, .inl (fun _ => 0))), (q25, .inl (cA.1, 448, .inl (fun _ => 0))), (q34, .inl (cA.1, 448, .inl (fun _ => 0))), (q43, .inl (cA.1, 448, .inl (fun _ => 0))), (q52, .inl (cA.1, 256, .inl (fun _ => 0)))] H locs := ⟨hP, hD, hS⟩
  refine lv_aload_n S.1 S.2.1 d_Te_init_57 rfl (lv_at hl 0 rfl) ?_
  refine lv_sipush (v := (448 : Int32)) S.1 S.2.1 d_Te_init_58 rfl ?_
  refine k_newI (N := 448) hK S ac_I hA I (by decide) (by decide) (by decide) (Nat.le_of_ble_eq_true rfl) (Nat.le_of_ble_eq_true rfl) d_Te_init_61 (fun q61 H I => ?_)
  have I : kI D A s [(h0, .inr (1, [.ref q7, .ref q16, .ref q25, .ref q34, .ref q43, .ref q52, .null, .int 0])), (q7, .inl (cA.1, 6, .inl (fun _ => 0))), (q16, .inl (cA.1, 448, .inl (fun _ => 0))), (q25, .inl (cA.1, 448, .inl (fun _ => 0))), (q34, .inl (cA.1, 448, .inl (fun _ => 0))), (q43, .inl (cA.1, 448, .inl (fun _ => 0))), (q52, .inl (cA.1, 256, .inl (fun _ => 0))), (q61, .inl (cA.1, 448, .inl (fun _ => 0)))] H locs := I
  refine va_putF (D := D) (ci := 1) (v := .ref q61) (ty := .array .int) (C := R_Te) (T := F_Te) (N := 8) S.1 S.2.1 S.2.2.2.2 u_Te t_Te t_Te_ok n_Te S.2.2.2.1 hK.1.1 I.1 I.2.1 I.2.2 0 rfl rfl 6 (by decide) (S.2.2.2.2 _ fl_Te_olderInBucket) (fun _ h9 => h9) rfl hin rfl (by decide +kernel) rfl rfl (Nat.le_of_ble_eq_true rfl) d_Te_init_63 (fun H locs hP hD hS => ?_)
  have I : kI D A s [(h0, .inr (1, [.ref q7, .ref q16, .ref q25, .ref q34, .ref q43, .ref q52, .ref q61, .int 0])), (q7, .inl (cA.1, 6, .inl (fun _ => 0))), (q16, .inl (cA.1, 448, .inl (fun _ => 0))), (q25, .inl (cA.1, 448, .inl (fun _ => 0))), (q34, .inl (cA.1, 448, .inl (fun _ => 0))), (q43, .inl (cA.1, 448, .inl (fun _ => 0))), (q52, .inl (cA.1, 256, .inl (fun _ => 0))), (q61, .inl (cA.1, 448, .inl (fun _ => 0)))] H locs := ⟨hP, hD, hS⟩
  have hP9 : gIn D A s (wT (fun k => match k with | 0 => h0 | 1 => q7 | 2 => q16 | 3 => q25 | 4 => q34 | 5 => q43 | 6 => q52 | 7 => q61 | _ => 0) cA) teZ H locs := I
  exact t_Te_initT (ad := (fun k => match k with | 0 => h0 | 1 => q7 | 2 => q16 | 3 => q25 | 4 => q34 | 5 => q43 | 6 => q52 | 7 => q61 | _ => 0)) (Q := Q) S hr hlk hK.1 hA h hl hP9

def moZ : Mo := (0, fun _ => 0, fun _ => 0, fun _ => 0, fun _ => 0, 0, 0, fun _ => 0, fun _ => 0, 0, fun _ => 0, 0, fun _ => 0, fun _ => 0, fun _ => 0, fun _ => 0, fun _ => 0, 0, 0, fun _ => 0, fun _ => 0, fun _ => 0, fun _ => 0, fun _ => 0, fun _ => 0, fun _ => 0)
abbrev rm_Mo_initT : Room := { frames := 1, cells := 19, slots := 10832, locals := 12 }
def p_Mo_initT_200 (x1 : Int32) (Q : Mo → Prop) (k171 : Int32 → Mo → Prop) (x2 : Int32) (y0 : Int32) (y1 : Int32) (mo : Mo) : Prop :=
  (vp_in y1 6 ∧ ∀ mo200 : Mo, mo200 = Mo_places_s mo (upd (Mo_places mo) y1.toNatClampNeg y0) → k171 (x2 + (1 : Int32)) mo200)
def p_Mo_initT_171 (x1 : Int32) (Q : Mo → Prop) : Nat → Int32 → Mo → Prop
  | 0, _, _ => False
  | n + 1, x2, mo => (((6 : Int32) ≤ x2 → Q mo) ∧
    (¬ (6 : Int32) ≤ x2 → ((¬ ((x1 >>> (((2 : Int32) * x2) &&& 31)) &&& (3 : Int32)) = (3 : Int32) → p_Mo_initT_200 x1 Q (fun a0 a1 => p_Mo_initT_171 x1 Q n a0 a1) x2 ((x1 >>> (((2 : Int32) * x2) &&& 31)) &&& (3 : Int32)) x2 mo) ∧
      (((x1 >>> (((2 : Int32) * x2) &&& 31)) &&& (3 : Int32)) = (3 : Int32) → p_Mo_initT_200 x1 Q (fun a0 a1 => p_Mo_initT_171 x1 Q n a0 a1) x2 (2 : Int32) x2 mo))))
def p_Mo_initT (x1 : Int32) (mo : Mo) (Q : Mo → Prop) : Prop :=
  (∃ f, p_Mo_initT_171 x1 Q f (0 : Int32) mo)

set_option maxHeartbeats 4000000 in
set_option maxRecDepth 100000 in
theorem n_Mo_initT_200 {p : Program} {l : Launch} {e : Env} {s : State} {m : MethodId} {args : Array Value} {below : List Frame} {meth : Method} {c : Code} {D : va_G} {A : Nat → Prop} {ad : Nat → Nat} {cA : ClassId × ClassId × ClassId}  {x1 : Int32} {Q : Mo → Prop} (S : CallFix p m c b_Mo_init 4 s args gtbl R_Mo) (hr : meth.sig.returnType = none) (hlk : meth.locks = false) (hK : gK D (tyA cA) s) (hA : ∀ q : Nat, s.heap.size ≤ q → A q) {k171 : Int32 → Mo → Prop} (hk171 : ∀ (ls : Array Slot) (H : Heap) (locs : List Loc) (x2 : Int32) (mo : Mo), k171 x2 mo → lv_has ls 4 [(0, .ref (ad 0)), (1, .int x1), (2, .int x2)] → gIn D A s (wM ad cA) mo H locs → W p l e rm_Mo_initT s m args below meth c H locs 19 10832 (MQ below (ctQ D cA A (fun u : (Nat → Nat) × Mo => u.1 0 = ad 0 ∧ Q u.2) (fun u : (Nat → Nat) × Mo => wM u.1 cA u.2)) args s 19 10832 A) (F0 m 171 ls [])) : ∀ (ls : Array Slot) (H : Heap) (locs : List Loc) (x2 : Int32) (y0 : Int32) (y1 : Int32) (mo : Mo), p_Mo_initT_200 x1 Q k171 x2 y0 y1 mo → lv_has ls 4 [(0, .ref (ad 0)), (1, .int x1), (2, .int x2)] → gIn D A s (wM ad cA) mo H locs → W p l e rm_Mo_initT s m args below meth c H locs 19 10832 (MQ below (ctQ D cA A (fun u : (Nat → Nat) × Mo => u.1 0 = ad 0 ∧ Q u.2) (fun u : (Nat → Nat) × Mo => wM u.1 cA u.2)) args s 19 10832 A) (F0 m 200 ls [.int y0, .int y1, .ref (ad 1)]) := by
  intro ls H locs x2 y0 y1 mo h hl I
  obtain ⟨hin, h⟩ := h
  refine s_Mo_places S hK I hin d_Mo_init_200 (fun H locs mo200 emo200 I => ?_)
  have h := h mo200 emo200
  refine lv_iinc (k := 2) (v := x2 + (1 : Int32)) (lv' := [(2, .int (x2 + (1 : Int32))), (0, .ref (ad 0)), (1, .int x1)]) S.1 S.2.1 d_Mo_init_201 hl rfl rfl (by decide) rfl (fun ls hl => ?_)
  refine lv_goto (tgt := 171) S.1 S.2.1 d_Mo_init_204 (by decide) ?_
  exact hk171 _ _ _ _ _ h (lv_sub hl [1, 2, 0] rfl) I
set_option maxHeartbeats 4000000 in
set_option maxRecDepth 100000 in
theorem n_Mo_initT_171 {p : Program} {l : Launch} {e : Env} {s : State} {m : MethodId} {args : Array Value} {below : List Frame} {meth : Method} {c : Code} {D : va_G} {A : Nat → Prop} {ad : Nat → Nat} {cA : ClassId × ClassId × ClassId}  {x1 : Int32} {Q : Mo → Prop} (S : CallFix p m c b_Mo_init 4 s args gtbl R_Mo) (hr : meth.sig.returnType = none) (hlk : meth.locks = false) (hK : gK D (tyA cA) s) (hA : ∀ q : Nat, s.heap.size ≤ q → A q) : ∀ n : Nat, ∀ (ls : Array Slot) (H : Heap) (locs : List Loc) (x2 : Int32) (mo : Mo), p_Mo_initT_171 x1 Q n x2 mo → lv_has ls 4 [(0, .ref (ad 0)), (1, .int x1), (2, .int x2)] → gIn D A s (wM ad cA) mo H locs → W p l e rm_Mo_initT s m args below meth c H locs 19 10832 (MQ below (ctQ D cA A (fun u : (Nat → Nat) × Mo => u.1 0 = ad 0 ∧ Q u.2) (fun u : (Nat → Nat) × Mo => wM u.1 cA u.2)) args s 19 10832 A) (F0 m 171 ls []) := by
  intro n
  induction n with
  | zero =>
    intro ls H locs x2 mo h
    exact (show False from h).elim
  | succ n ih =>
    intro ls H locs x2 mo h hl I
    refine lv_iload_n S.1 S.2.1 d_Mo_init_171 rfl (lv_at hl 2 rfl) ?_
    refine lv_bipush (v := (6 : Int32)) S.1 S.2.1 d_Mo_init_172 rfl ?_
    refine lv_icmp_ge (tgt := 207) S.1 S.2.1 d_Mo_init_174 (by decide) (fun hc => ?_) (fun hc => ?_)
    · have h := h.1 hc
      exact ret_ct (u := (ad, _)) S hr hlk I ⟨rfl, h⟩ d_Mo_init_207
    · have h := h.2 hc
      refine lv_iload_n S.1 S.2.1 d_Mo_init_177 rfl (lv_at hl 1 rfl) ?_
      refine lv_iconst (v := (2 : Int32)) S.1 S.2.1 d_Mo_init_178 rfl ?_
      refine lv_iload_n S.1 S.2.1 d_Mo_init_179 rfl (lv_at hl 2 rfl) ?_
      refine lv_imul S.1 S.2.1 d_Mo_init_180 ?_
      refine lv_ishr S.1 S.2.1 d_Mo_init_181 ?_
      refine lv_iconst (v := (3 : Int32)) S.1 S.2.1 d_Mo_init_182 rfl ?_
      refine lv_iand S.1 S.2.1 d_Mo_init_183 ?_
      refine lv_istore_n (lv' := [(3, .int ((x1 >>> (((2 : Int32) * x2) &&& 31)) &&& (3 : Int32))), (0, .ref (ad 0)), (1, .int x1), (2, .int x2)]) S.1 S.2.1 d_Mo_init_184 rfl hl (by decide) rfl (fun ls hl => ?_)
      refine lv_aload_n S.1 S.2.1 d_Mo_init_185 rfl (lv_at hl 1 rfl) ?_
      refine g_Mo_places S hK I.1 d_Mo_init_186 ?_
      refine lv_iload_n S.1 S.2.1 d_Mo_init_189 rfl (lv_at hl 3 rfl) ?_
      refine lv_iload_n S.1 S.2.1 d_Mo_init_190 rfl (lv_at hl 0 rfl) ?_
      refine lv_iconst (v := (3 : Int32)) S.1 S.2.1 d_Mo_init_191 rfl ?_
      refine lv_icmp_ne (tgt := 199) S.1 S.2.1 d_Mo_init_192 (by decide) (fun hc => ?_) (fun hc => ?_)
      · have h := h.1 hc
        refine lv_iload_n S.1 S.2.1 d_Mo_init_199 rfl (lv_at hl 0 rfl) ?_
        exact n_Mo_initT_200 S hr hlk hK hA ih _ _ _ _ _ _ _ h (lv_sub hl [1, 2, 3] rfl) I
      · have h := h.2 hc
        refine lv_iconst (v := (2 : Int32)) S.1 S.2.1 d_Mo_init_195 rfl ?_
        refine lv_goto (tgt := 200) S.1 S.2.1 d_Mo_init_196 (by decide) ?_
        exact n_Mo_initT_200 S hr hlk hK hA ih _ _ _ _ _ _ _ h (lv_sub hl [1, 2, 3] rfl) I
set_option maxHeartbeats 4000000 in
set_option maxRecDepth 100000 in
theorem t_Mo_initT {p : Program} {l : Launch} {e : Env} {s : State} {m : MethodId} {args : Array Value} {below : List Frame} {meth : Method} {c : Code} {D : va_G} {A : Nat → Prop} {ad : Nat → Nat} {cA : ClassId × ClassId × ClassId} {x1 : Int32} {mo : Mo} {Q : Mo → Prop} {H : Heap} {locs : List Loc} {ls : Array Slot} (S : CallFix p m c b_Mo_init 4 s args gtbl R_Mo) (hr : meth.sig.returnType = none) (hlk : meth.locks = false) (hK : gK D (tyA cA) s) (hA : ∀ q : Nat, s.heap.size ≤ q → A q) (h : p_Mo_initT x1 mo Q) (hl : lv_has ls 4 [(0, .ref (ad 0)), (1, .int x1)]) (I : gIn D A s (wM ad cA) mo H locs) : W p l e rm_Mo_initT s m args below meth c H locs 19 10832 (MQ below (ctQ D cA A (fun u : (Nat → Nat) × Mo => u.1 0 = ad 0 ∧ Q u.2) (fun u : (Nat → Nat) × Mo => wM u.1 cA u.2)) args s 19 10832 A) (F0 m 169 ls []) := by
  refine lv_iconst (v := (0 : Int32)) S.1 S.2.1 d_Mo_init_169 rfl ?_
  refine lv_istore_n (lv' := [(2, .int (0 : Int32)), (0, .ref (ad 0)), (1, .int x1)]) S.1 S.2.1 d_Mo_init_170 rfl hl (by decide) rfl (fun ls hl => ?_)
  obtain ⟨n', h⟩ := h
  exact n_Mo_initT_171 S hr hlk hK hA n' _ _ _ _ _ h (lv_sub hl [1, 2, 0] rfl) I
set_option maxHeartbeats 4000000 in
set_option maxRecDepth 100000 in
theorem c_Mo_init (l : Launch) (D : va_G) (cA : ClassId × ClassId × ClassId) (h0 : Nat) (x1 : Int32) (Q : Mo → Prop) (h : p_Mo_initT x1 moZ Q) : ctV l y_Mo_init (wsOf y_Mo_init b_Mo_init 4 none) rm_Mo_initT D cA [(h0, .inr (8, [.int 0, .null, .null, .null, .null, .int 0, .int 0, .null, .null, .int 0, .null, .int 0, .null, .null, .null, .null, .null, .int 0, .int 0, .null, .null, .null, .null, .null, .null, .null]))] [.ref h0, .int x1] 19 10832 (fun u : (Nat → Nat) × Mo => u.1 0 = h0 ∧ Q u.2) (fun u : (Nat → Nat) × Mo => wM u.1 cA u.2) := by
  refine ctV_of (by decide) rfl (Nat.le_of_ble_eq_true rfl) ?_
  intro p e s m below meth c S hr hlk hin hK A hA I ls hl
  have hl : lv_has ls 4 [(0, .ref h0), (1, .int x1)] := hl
  generalize hlo : ([] : List Loc) = locs at I ⊢
  refine lv_aload_n S.1 S.2.1 d_Mo_init_0 rfl (lv_at hl 0 rfl) ?_
  refine W.objInit S.1 S.2.1 S.2.2.2.1 (S.2.2.2.2 _ mo_Mo) (S.2.2.2.2 _ ob_i) (S.2.2.2.2 _ ob_c) rfl (hl.1.trans S.2.2.1.symm) rfl d_Mo_init_1 (Nat.le_of_ble_eq_true rfl) (Nat.le_of_ble_eq_true rfl) ?_
  refine W.eq (g2 := F0 m 4 ls []) rfl ?_
  refine lv_aload_n S.1 S.2.1 d_Mo_init_4 rfl (lv_at hl 0 rfl) ?_
  refine lv_bipush (v := (6 : Int32)) S.1 S.2.1 d_Mo_init_5 rfl ?_
  refine k_newI (N := 6) hK S ac_I hA I (by decide) (by decide) (by decide) (Nat.le_of_ble_eq_true rfl) (Nat.le_of_ble_eq_true rfl) d_Mo_init_7 (fun q7 H I => ?_)
  have I : kI D A s [(h0, .inr (8, [.int 0, .null, .null, .null, .null, .int 0, .int 0, .null, .null, .int 0, .null, .int 0, .null, .null, .null, .null, .null, .int 0, .int 0, .null, .null, .null, .null, .null, .null, .null])), (q7, .inl (cA.1, 6, .inl (fun _ => 0)))] H locs := I
  refine va_putF (D := D) (ci := 8) (v := .ref q7) (ty := .array .int) (C := R_Mo) (T := F_Mo) (N := 26) S.1 S.2.1 S.2.2.2.2 u_Mo t_Mo t_Mo_ok n_Mo S.2.2.2.1 hK.1.1 I.1 I.2.1 I.2.2 0 rfl rfl 1 (by decide) (S.2.2.2.2 _ fl_Mo_places) (fun _ h9 => h9) rfl hin rfl (by decide +kernel) rfl rfl (Nat.le_of_ble_eq_true rfl) d_Mo_init_9 (fun H locs hP hD hS => ?_)
  have I : kI D A s [(h0, .inr (8, [.int 0, .ref q7, .null, .null, .null, .int 0, .int 0, .null, .null, .int 0, .null, .int 0, .null, .null, .null, .null, .null, .int 0, .int 0, .null, .null, .null, .null, .null, .null, .null])), (q7, .inl (cA.1, 6, .inl (fun _ => 0)))] H locs := ⟨hP, hD, hS⟩
  refine lv_aload_n S.1 S.2.1 d_Mo_init_12 rfl (lv_at hl 0 rfl) ?_
  refine lv_sipush (v := (520 : Int32)) S.1 S.2.1 d_Mo_init_13 rfl ?_
  refine k_newI (N := 520) hK S ac_I hA I (by decide) (by decide) (by decide) (Nat.le_of_ble_eq_true rfl) (Nat.le_of_ble_eq_true rfl) d_Mo_init_16 (fun q16 H I => ?_)
  have I : kI D A s [(h0, .inr (8, [.int 0, .ref q7, .null, .null, .null, .int 0, .int 0, .null, .null, .int 0, .null, .int 0, .null, .null, .null, .null, .null, .int 0, .int 0, .null, .null, .null, .null, .null, .null, .null])), (q7, .inl (cA.1, 6, .inl (fun _ => 0))), (q16, .inl (cA.1, 520, .inl (fun _ => 0)))] H locs := I
  refine va_putF (D := D) (ci := 8) (v := .ref q16) (ty := .array .int) (C := R_Mo) (T := F_Mo) (N := 26) S.1 S.2.1 S.2.2.2.2 u_Mo t_Mo t_Mo_ok n_Mo S.2.2.2.1 hK.1.1 I.1 I.2.1 I.2.2 0 rfl rfl 2 (by decide) (S.2.2.2.2 _ fl_Mo_symbol) (fun _ h9 => h9) rfl hin rfl (by decide +kernel) rfl rfl (Nat.le_of_ble_eq_true rfl) d_Mo_init_18 (fun H locs hP hD hS => ?_)
  have I : kI D A s [(h0, .inr (8, [.int 0, .ref q7, .ref q16, .null, .null, .int 0, .int 0, .null, .null, .int 0, .null, .int 0, .null, .null, .null, .null, .null, .int 0, .int 0, .null, .null, .null, .null, .null, .null, .null])), (q7, .inl (cA.1, 6, .inl (fun _ => 0))), (q16, .inl (cA.1, 520, .inl (fun _ => 0)))] H locs := ⟨hP, hD, hS⟩
  refine lv_aload_n S.1 S.2.1 d_Mo_init_21 rfl (lv_at hl 0 rfl) ?_
  refine lv_sipush (v := (520 : Int32)) S.1 S.2.1 d_Mo_init_22 rfl ?_
  refine k_newI (N := 520) hK S ac_I hA I (by decide) (by decide) (by decide) (Nat.le_of_ble_eq_true rfl) (Nat.le_of_ble_eq_true rfl) d_Mo_init_25 (fun q25 H I => ?_)
  have I : kI D A s [(h0, .inr (8, [.int 0, .ref q7, .ref q16, .null, .null, .int 0, .int 0, .null, .null, .int 0, .null, .int 0, .null, .null, .null, .null, .null, .int 0, .int 0, .null, .null, .null, .null, .null, .null, .null])), (q7, .inl (cA.1, 6, .inl (fun _ => 0))), (q16, .inl (cA.1, 520, .inl (fun _ => 0))), (q25, .inl (cA.1, 520, .inl (fun _ => 0)))] H locs := I
  refine va_putF (D := D) (ci := 8) (v := .ref q25) (ty := .array .int) (C := R_Mo) (T := F_Mo) (N := 26) S.1 S.2.1 S.2.2.2.2 u_Mo t_Mo t_Mo_ok n_Mo S.2.2.2.1 hK.1.1 I.1 I.2.1 I.2.2 0 rfl rfl 3 (by decide) (S.2.2.2.2 _ fl_Mo_one) (fun _ h9 => h9) rfl hin rfl (by decide +kernel) rfl rfl (Nat.le_of_ble_eq_true rfl) d_Mo_init_27 (fun H locs hP hD hS => ?_)
  have I : kI D A s [(h0, .inr (8, [.int 0, .ref q7, .ref q16, .ref q25, .null, .int 0, .int 0, .null, .null, .int 0, .null, .int 0, .null, .null, .null, .null, .null, .int 0, .int 0, .null, .null, .null, .null, .null, .null, .null])), (q7, .inl (cA.1, 6, .inl (fun _ => 0))), (q16, .inl (cA.1, 520, .inl (fun _ => 0))), (q25, .inl (cA.1, 520, .inl (fun _ => 0)))] H locs := ⟨hP, hD, hS⟩
  refine lv_aload_n S.1 S.2.1 d_Mo_init_30 rfl (lv_at hl 0 rfl) ?_
  refine lv_sipush (v := (520 : Int32)) S.1 S.2.1 d_Mo_init_31 rfl ?_
  refine k_newI (N := 520) hK S ac_I hA I (by decide) (by decide) (by decide) (Nat.le_of_ble_eq_true rfl) (Nat.le_of_ble_eq_true rfl) d_Mo_init_34 (fun q34 H I => ?_)
  have I : kI D A s [(h0, .inr (8, [.int 0, .ref q7, .ref q16, .ref q25, .null, .int 0, .int 0, .null, .null, .int 0, .null, .int 0, .null, .null, .null, .null, .null, .int 0, .int 0, .null, .null, .null, .null, .null, .null, .null])), (q7, .inl (cA.1, 6, .inl (fun _ => 0))), (q16, .inl (cA.1, 520, .inl (fun _ => 0))), (q25, .inl (cA.1, 520, .inl (fun _ => 0))), (q34, .inl (cA.1, 520, .inl (fun _ => 0)))] H locs := I
  refine va_putF (D := D) (ci := 8) (v := .ref q34) (ty := .array .int) (C := R_Mo) (T := F_Mo) (N := 26) S.1 S.2.1 S.2.2.2.2 u_Mo t_Mo t_Mo_ok n_Mo S.2.2.2.1 hK.1.1 I.1 I.2.1 I.2.2 0 rfl rfl 4 (by decide) (S.2.2.2.2 _ fl_Mo_two) (fun _ h9 => h9) rfl hin rfl (by decide +kernel) rfl rfl (Nat.le_of_ble_eq_true rfl) d_Mo_init_36 (fun H locs hP hD hS => ?_)
  have I : kI D A s [(h0, .inr (8, [.int 0, .ref q7, .ref q16, .ref q25, .ref q34, .int 0, .int 0, .null, .null, .int 0, .null, .int 0, .null, .null, .null, .null, .null, .int 0, .int 0, .null, .null, .null, .null, .null, .null, .null])), (q7, .inl (cA.1, 6, .inl (fun _ => 0))), (q16, .inl (cA.1, 520, .inl (fun _ => 0))), (q25, .inl (cA.1, 520, .inl (fun _ => 0))), (q34, .inl (cA.1, 520, .inl (fun _ => 0)))] H locs := ⟨hP, hD, hS⟩
  refine lv_aload_n S.1 S.2.1 d_Mo_init_39 rfl (lv_at hl 0 rfl) ?_
  refine lv_bipush (v := (8 : Int32)) S.1 S.2.1 d_Mo_init_40 rfl ?_
  refine k_newI (N := 8) hK S ac_I hA I (by decide) (by decide) (by decide) (Nat.le_of_ble_eq_true rfl) (Nat.le_of_ble_eq_true rfl) d_Mo_init_42 (fun q42 H I => ?_)
  have I : kI D A s [(h0, .inr (8, [.int 0, .ref q7, .ref q16, .ref q25, .ref q34, .int 0, .int 0, .null, .null, .int 0, .null, .int 0, .null, .null, .null, .null, .null, .int 0, .int 0, .null, .null, .null, .null, .null, .null, .null])), (q7, .inl (cA.1, 6, .inl (fun _ => 0))), (q16, .inl (cA.1, 520, .inl (fun _ => 0))), (q25, .inl (cA.1, 520, .inl (fun _ => 0))), (q34, .inl (cA.1, 520, .inl (fun _ => 0))), (q42, .inl (cA.1, 8, .inl (fun _ => 0)))] H locs := I
  refine va_putF (D := D) (ci := 8) (v := .ref q42) (ty := .array .int) (C := R_Mo) (T := F_Mo) (N := 26) S.1 S.2.1 S.2.2.2.2 u_Mo t_Mo t_Mo_ok n_Mo S.2.2.2.1 hK.1.1 I.1 I.2.1 I.2.2 0 rfl rfl 7 (by decide) (S.2.2.2.2 _ fl_Mo_left) (fun _ h9 => h9) rfl hin rfl (by decide +kernel) rfl rfl (Nat.le_of_ble_eq_true rfl) d_Mo_init_44 (fun H locs hP hD hS => ?_)
  have I : kI D A s [(h0, .inr (8, [.int 0, .ref q7, .ref q16, .ref q25, .ref q34, .int 0, .int 0, .ref q42, .null, .int 0, .null, .int 0, .null, .null, .null, .null, .null, .int 0, .int 0, .null, .null, .null, .null, .null, .null, .null])), (q7, .inl (cA.1, 6, .inl (fun _ => 0))), (q16, .inl (cA.1, 520, .inl (fun _ => 0))), (q25, .inl (cA.1, 520, .inl (fun _ => 0))), (q34, .inl (cA.1, 520, .inl (fun _ => 0))), (q42, .inl (cA.1, 8, .inl (fun _ => 0)))] H locs := ⟨hP, hD, hS⟩
  refine lv_aload_n S.1 S.2.1 d_Mo_init_47 rfl (lv_at hl 0 rfl) ?_
  refine lv_bipush (v := (8 : Int32)) S.1 S.2.1 d_Mo_init_48 rfl ?_
  refine k_newI (N := 8) hK S ac_I hA I (by decide) (by decide) (by decide) (Nat.le_of_ble_eq_true rfl) (Nat.le_of_ble_eq_true rfl) d_Mo_init_50 (fun q50 H I => ?_)
  have I : kI D A s [(h0, .inr (8, [.int 0, .ref q7, .ref q16, .ref q25, .ref q34, .int 0, .int 0, .ref q42, .null, .int 0, .null, .int 0, .null, .null, .null, .null, .null, .int 0, .int 0, .null, .null, .null, .null, .null, .null, .null])), (q7, .inl (cA.1, 6, .inl (fun _ => 0))), (q16, .inl (cA.1, 520, .inl (fun _ => 0))), (q25, .inl (cA.1, 520, .inl (fun _ => 0))), (q34, .inl (cA.1, 520, .inl (fun _ => 0))), (q42, .inl (cA.1, 8, .inl (fun _ => 0))), (q50, .inl (cA.1, 8, .inl (fun _ => 0)))] H locs := I
  refine va_putF (D := D) (ci := 8) (v := .ref q50) (ty := .array .int) (C := R_Mo) (T := F_Mo) (N := 26) S.1 S.2.1 S.2.2.2.2 u_Mo t_Mo t_Mo_ok n_Mo S.2.2.2.1 hK.1.1 I.1 I.2.1 I.2.2 0 rfl rfl 8 (by decide) (S.2.2.2.2 _ fl_Mo_right) (fun _ h9 => h9) rfl hin rfl (by decide +kernel) rfl rfl (Nat.le_of_ble_eq_true rfl) d_Mo_init_52 (fun H locs hP hD hS => ?_)
  have I : kI D A s [(h0, .inr (8, [.int 0, .ref q7, .ref q16, .ref q25, .ref q34, .int 0, .int 0, .ref q42, .ref q50, .int 0, .null, .int 0, .null, .null, .null, .null, .null, .int 0, .int 0, .null, .null, .null, .null, .null, .null, .null])), (q7, .inl (cA.1, 6, .inl (fun _ => 0))), (q16, .inl (cA.1, 520, .inl (fun _ => 0))), (q25, .inl (cA.1, 520, .inl (fun _ => 0))), (q34, .inl (cA.1, 520, .inl (fun _ => 0))), (q42, .inl (cA.1, 8, .inl (fun _ => 0))), (q50, .inl (cA.1, 8, .inl (fun _ => 0)))] H locs := ⟨hP, hD, hS⟩
  refine lv_aload_n S.1 S.2.1 d_Mo_init_55 rfl (lv_at hl 0 rfl) ?_
  refine lv_bipush (v := (80 : Int32)) S.1 S.2.1 d_Mo_init_56 rfl ?_
  refine k_newI (N := 80) hK S ac_I hA I (by decide) (by decide) (by decide) (Nat.le_of_ble_eq_true rfl) (Nat.le_of_ble_eq_true rfl) d_Mo_init_58 (fun q58 H I => ?_)
  have I : kI D A s [(h0, .inr (8, [.int 0, .ref q7, .ref q16, .ref q25, .ref q34, .int 0, .int 0, .ref q42, .ref q50, .int 0, .null, .int 0, .null, .null, .null, .null, .null, .int 0, .int 0, .null, .null, .null, .null, .null, .null, .null])), (q7, .inl (cA.1, 6, .inl (fun _ => 0))), (q16, .inl (cA.1, 520, .inl (fun _ => 0))), (q25, .inl (cA.1, 520, .inl (fun _ => 0))), (q34, .inl (cA.1, 520, .inl (fun _ => 0))), (q42, .inl (cA.1, 8, .inl (fun _ => 0))), (q50, .inl (cA.1, 8, .inl (fun _ => 0))), (q58, .inl (cA.1, 80, .inl (fun _ => 0)))] H locs := I
  refine va_putF (D := D) (ci := 8) (v := .ref q58) (ty := .array .int) (C := R_Mo) (T := F_Mo) (N := 26) S.1 S.2.1 S.2.2.2.2 u_Mo t_Mo t_Mo_ok n_Mo S.2.2.2.1 hK.1.1 I.1 I.2.1 I.2.2 0 rfl rfl 10 (by decide) (S.2.2.2.2 _ fl_Mo_edge) (fun _ h9 => h9) rfl hin rfl (by decide +kernel) rfl rfl (Nat.le_of_ble_eq_true rfl) d_Mo_init_60 (fun H locs hP hD hS => ?_)
  have I : kI D A s [(h0, .inr (8, [.int 0, .ref q7, .ref q16, .ref q25, .ref q34, .int 0, .int 0, .ref q42, .ref q50, .int 0, .ref q58, .int 0, .null, .null, .null, .null, .null, .int 0, .int 0, .null, .null, .null, .null, .null, .null, .null])), (q7, .inl (cA.1, 6, .inl (fun _ => 0))), (q16, .inl (cA.1, 520, .inl (fun _ => 0))), (q25, .inl (cA.1, 520, .inl (fun _ => 0))), (q34, .inl (cA.1, 520, .inl (fun _ => 0))), (q42, .inl (cA.1, 8, .inl (fun _ => 0))), (q50, .inl (cA.1, 8, .inl (fun _ => 0))), (q58, .inl (cA.1, 80, .inl (fun _ => 0)))] H locs := ⟨hP, hD, hS⟩
  refine lv_aload_n S.1 S.2.1 d_Mo_init_63 rfl (lv_at hl 0 rfl) ?_
  refine lv_sipush (v := (2304 : Int32)) S.1 S.2.1 d_Mo_init_64 rfl ?_
  refine k_newZ (N := 2304) hK S ac_Z hA I (by decide) (by decide) (by decide) (Nat.le_of_ble_eq_true rfl) (Nat.le_of_ble_eq_true rfl) d_Mo_init_67 (fun q67 H I => ?_)
  have I : kI D A s [(h0, .inr (8, [.int 0, .ref q7, .ref q16, .ref q25, .ref q34, .int 0, .int 0, .ref q42, .ref q50, .int 0, .ref q58, .int 0, .null, .null, .null, .null, .null, .int 0, .int 0, .null, .null, .null, .null, .null, .null, .null])), (q7, .inl (cA.1, 6, .inl (fun _ => 0))), (q16, .inl (cA.1, 520, .inl (fun _ => 0))), (q25, .inl (cA.1, 520, .inl (fun _ => 0))), (q34, .inl (cA.1, 520, .inl (fun _ => 0))), (q42, .inl (cA.1, 8, .inl (fun _ => 0))), (q50, .inl (cA.1, 8, .inl (fun _ => 0))), (q58, .inl (cA.1, 80, .inl (fun _ => 0))), (q67, .inl (cA.2.2, 2304, .inl (fun _ => 0)))] H locs := I
  refine va_putF (D := D) (ci := 8) (v := .ref q67) (ty := .array .boolean) (C := R_Mo) (T := F_Mo) (N := 26) S.1 S.2.1 S.2.2.2.2 u_Mo t_Mo t_Mo_ok n_Mo S.2.2.2.1 hK.1.1 I.1 I.2.1 I.2.2 0 rfl rfl 12 (by decide) (S.2.2.2.2 _ fl_Mo_goes) (fun _ h9 => h9) rfl hin rfl (by decide +kernel) rfl rfl (Nat.le_of_ble_eq_true rfl) d_Mo_init_69 (fun H locs hP hD hS => ?_)
  have I : kI D A s [(h0, .inr (8, [.int 0, .ref q7, .ref q16, .ref q25, .ref q34, .int 0, .int 0, .ref q42, .ref q50, .int 0, .ref q58, .int 0, .ref q67, .null, .null, .null, .null, .int 0, .int 0, .null, .null, .null, .null, .null, .null, .null])), (q7, .inl (cA.1, 6, .inl (fun _ => 0))), (q16, .inl (cA.1, 520, .inl (fun _ => 0))), (q25, .inl (cA.1, 520, .inl (fun _ => 0))), (q34, .inl (cA.1, 520, .inl (fun _ => 0))), (q42, .inl (cA.1, 8, .inl (fun _ => 0))), (q50, .inl (cA.1, 8, .inl (fun _ => 0))), (q58, .inl (cA.1, 80, .inl (fun _ => 0))), (q67, .inl (cA.2.2, 2304, .inl (fun _ => 0)))] H locs := ⟨hP, hD, hS⟩
  refine lv_aload_n S.1 S.2.1 d_Mo_init_72 rfl (lv_at hl 0 rfl) ?_
  refine lv_sipush (v := (2304 : Int32)) S.1 S.2.1 d_Mo_init_73 rfl ?_
  refine k_newZ (N := 2304) hK S ac_Z hA I (by decide) (by decide) (by decide) (Nat.le_of_ble_eq_true rfl) (Nat.le_of_ble_eq_true rfl) d_Mo_init_76 (fun q76 H I => ?_)
  have I : kI D A s [(h0, .inr (8, [.int 0, .ref q7, .ref q16, .ref q25, .ref q34, .int 0, .int 0, .ref q42, .ref q50, .int 0, .ref q58, .int 0, .ref q67, .null, .null, .null, .null, .int 0, .int 0, .null, .null, .null, .null, .null, .null, .null])), (q7, .inl (cA.1, 6, .inl (fun _ => 0))), (q16, .inl (cA.1, 520, .inl (fun _ => 0))), (q25, .inl (cA.1, 520, .inl (fun _ => 0))), (q34, .inl (cA.1, 520, .inl (fun _ => 0))), (q42, .inl (cA.1, 8, .inl (fun _ => 0))), (q50, .inl (cA.1, 8, .inl (fun _ => 0))), (q58, .inl (cA.1, 80, .inl (fun _ => 0))), (q67, .inl (cA.2.2, 2304, .inl (fun _ => 0))), (q76, .inl (cA.2.2, 2304, .inl (fun _ => 0)))] H locs := I
  refine va_putF (D := D) (ci := 8) (v := .ref q76) (ty := .array .boolean) (C := R_Mo) (T := F_Mo) (N := 26) S.1 S.2.1 S.2.2.2.2 u_Mo t_Mo t_Mo_ok n_Mo S.2.2.2.1 hK.1.1 I.1 I.2.1 I.2.2 0 rfl rfl 13 (by decide) (S.2.2.2.2 _ fl_Mo_joins) (fun _ h9 => h9) rfl hin rfl (by decide +kernel) rfl rfl (Nat.le_of_ble_eq_true rfl) d_Mo_init_78 (fun H locs hP hD hS => ?_)
  have I : kI D A s [(h0, .inr (8, [.int 0, .ref q7, .ref q16, .ref q25, .ref q34, .int 0, .int 0, .ref q42, .ref q50, .int 0, .ref q58, .int 0, .ref q67, .ref q76, .null, .null, .null, .int 0, .int 0, .null, .null, .null, .null, .null, .null, .null])), (q7, .inl (cA.1, 6, .inl (fun _ => 0))), (q16, .inl (cA.1, 520, .inl (fun _ => 0))), (q25, .inl (cA.1, 520, .inl (fun _ => 0))), (q34, .inl (cA.1, 520, .inl (fun _ => 0))), (q42, .inl (cA.1, 8, .inl (fun _ => 0))), (q50, .inl (cA.1, 8, .inl (fun _ => 0))), (q58, .inl (cA.1, 80, .inl (fun _ => 0))), (q67, .inl (cA.2.2, 2304, .inl (fun _ => 0))), (q76, .inl (cA.2.2, 2304, .inl (fun _ => 0)))] H locs := ⟨hP, hD, hS⟩
  refine lv_aload_n S.1 S.2.1 d_Mo_init_81 rfl (lv_at hl 0 rfl) ?_
  refine lv_sipush (v := (288 : Int32)) S.1 S.2.1 d_Mo_init_82 rfl ?_
  refine k_newZ (N := 288) hK S ac_Z hA I (by decide) (by decide) (by decide) (Nat.le_of_ble_eq_true rfl) (Nat.le_of_ble_eq_true rfl) d_Mo_init_85 (fun q85 H I => ?_)
  have I : kI D A s [(h0, .inr (8, [.int 0, .ref q7, .ref q16, .ref q25, .ref q34, .int 0, .int 0, .ref q42, .ref q50, .int 0, .ref q58, .int 0, .ref q67, .ref q76, .null, .null, .null, .int 0, .int 0, .null, .null, .null, .null, .null, .null, .null])), (q7, .inl (cA.1, 6, .inl (fun _ => 0))), (q16, .inl (cA.1, 520, .inl (fun _ => 0))), (q25, .inl (cA.1, 520, .inl (fun _ => 0))), (q34, .inl (cA.1, 520, .inl (fun _ => 0))), (q42, .inl (cA.1, 8, .inl (fun _ => 0))), (q50, .inl (cA.1, 8, .inl (fun _ => 0))), (q58, .inl (cA.1, 80, .inl (fun _ => 0))), (q67, .inl (cA.2.2, 2304, .inl (fun _ => 0))), (q76, .inl (cA.2.2, 2304, .inl (fun _ => 0))), (q85, .inl (cA.2.2, 288, .inl (fun _ => 0)))] H locs := I
  refine va_putF (D := D) (ci := 8) (v := .ref q85) (ty := .array .boolean) (C := R_Mo) (T := F_Mo) (N := 26) S.1 S.2.1 S.2.2.2.2 u_Mo t_Mo t_Mo_ok n_Mo S.2.2.2.1 hK.1.1 I.1 I.2.1 I.2.2 0 rfl rfl 14 (by decide) (S.2.2.2.2 _ fl_Mo_states) (fun _ h9 => h9) rfl hin rfl (by decide +kernel) rfl rfl (Nat.le_of_ble_eq_true rfl) d_Mo_init_87 (fun H locs hP hD hS => ?_)
  have I : kI D A s [(h0, .inr (8, [.int 0, .ref q7, .ref q16, .ref q25, .ref q34, .int 0, .int 0, .ref q42, .ref q50, .int 0, .ref q58, .int 0, .ref q67, .ref q76, .ref q85, .null, .null, .int 0, .int 0, .null, .null, .null, .null, .null, .null, .null])), (q7, .inl (cA.1, 6, .inl (fun _ => 0))), (q16, .inl (cA.1, 520, .inl (fun _ => 0))), (q25, .inl (cA.1, 520, .inl (fun _ => 0))), (q34, .inl (cA.1, 520, .inl (fun _ => 0))), (q42, .inl (cA.1, 8, .inl (fun _ => 0))), (q50, .inl (cA.1, 8, .inl (fun _ => 0))), (q58, .inl (cA.1, 80, .inl (fun _ => 0))), (q67, .inl (cA.2.2, 2304, .inl (fun _ => 0))), (q76, .inl (cA.2.2, 2304, .inl (fun _ => 0))), (q85, .inl (cA.2.2, 288, .inl (fun _ => 0)))] H locs := ⟨hP, hD, hS⟩
  refine lv_aload_n S.1 S.2.1 d_Mo_init_90 rfl (lv_at hl 0 rfl) ?_
  refine lv_bipush (v := (48 : Int32)) S.1 S.2.1 d_Mo_init_91 rfl ?_
  refine k_newI (N := 48) hK S ac_I hA I (by decide) (by decide) (by decide) (Nat.le_of_ble_eq_true rfl) (Nat.le_of_ble_eq_true rfl) d_Mo_init_93 (fun q93 H I => ?_)
  have I : kI D A s [(h0, .inr (8, [.int 0, .ref q7, .ref q16, .ref q25, .ref q34, .int 0, .int 0, .ref q42, .ref q50, .int 0, .ref q58, .int 0, .ref q67, .ref q76, .ref q85, .null, .null, .int 0, .int 0, .null, .null, .null, .null, .null, .null, .null])), (q7, .inl (cA.1, 6, .inl (fun _ => 0))), (q16, .inl (cA.1, 520, .inl (fun _ => 0))), (q25, .inl (cA.1, 520, .inl (fun _ => 0))), (q34, .inl (cA.1, 520, .inl (fun _ => 0))), (q42, .inl (cA.1, 8, .inl (fun _ => 0))), (q50, .inl (cA.1, 8, .inl (fun _ => 0))), (q58, .inl (cA.1, 80, .inl (fun _ => 0))), (q67, .inl (cA.2.2, 2304, .inl (fun _ => 0))), (q76, .inl (cA.2.2, 2304, .inl (fun _ => 0))), (q85, .inl (cA.2.2, 288, .inl (fun _ => 0))), (q93, .inl (cA.1, 48, .inl (fun _ => 0)))] H locs := I
  refine va_putF (D := D) (ci := 8) (v := .ref q93) (ty := .array .int) (C := R_Mo) (T := F_Mo) (N := 26) S.1 S.2.1 S.2.2.2.2 u_Mo t_Mo t_Mo_ok n_Mo S.2.2.2.1 hK.1.1 I.1 I.2.1 I.2.2 0 rfl rfl 15 (by decide) (S.2.2.2.2 _ fl_Mo_light) (fun _ h9 => h9) rfl hin rfl (by decide +kernel) rfl rfl (Nat.le_of_ble_eq_true rfl) d_Mo_init_95 (fun H locs hP hD hS => ?_)
  have I : kI D A s [(h0, .inr (8, [.int 0, .ref q7, .ref q16, .ref q25, .ref q34, .int 0, .int 0, .ref q42, .ref q50, .int 0, .ref q58, .int 0, .ref q67, .ref q76, .ref q85, .ref q93, .null, .int 0, .int 0, .null, .null, .null, .null, .null, .null, .null])), (q7, .inl (cA.1, 6, .inl (fun _ => 0))), (q16, .inl (cA.1, 520, .inl (fun _ => 0))), (q25, .inl (cA.1, 520, .inl (fun _ => 0))), (q34, .inl (cA.1, 520, .inl (fun _ => 0))), (q42, .inl (cA.1, 8, .inl (fun _ => 0))), (q50, .inl (cA.1, 8, .inl (fun _ => 0))), (q58, .inl (cA.1, 80, .inl (fun _ => 0))), (q67, .inl (cA.2.2, 2304, .inl (fun _ => 0))), (q76, .inl (cA.2.2, 2304, .inl (fun _ => 0))), (q85, .inl (cA.2.2, 288, .inl (fun _ => 0))), (q93, .inl (cA.1, 48, .inl (fun _ => 0)))] H locs := ⟨hP, hD, hS⟩
  refine lv_aload_n S.1 S.2.1 d_Mo_init_98 rfl (lv_at hl 0 rfl) ?_
  refine lv_bipush (v := (6 : Int32)) S.1 S.2.1 d_Mo_init_99 rfl ?_
  refine k_newI (N := 6) hK S ac_I hA I (by decide) (by decide) (by decide) (Nat.le_of_ble_eq_true rfl) (Nat.le_of_ble_eq_true rfl) d_Mo_init_101 (fun q101 H I => ?_)
  have I : kI D A s [(h0, .inr (8, [.int 0, .ref q7, .ref q16, .ref q25, .ref q34, .int 0, .int 0, .ref q42, .ref q50, .int 0, .ref q58, .int 0, .ref q67, .ref q76, .ref q85, .ref q93, .null, .int 0, .int 0, .null, .null, .null, .null, .null, .null, .null])), (q7, .inl (cA.1, 6, .inl (fun _ => 0))), (q16, .inl (cA.1, 520, .inl (fun _ => 0))), (q25, .inl (cA.1, 520, .inl (fun _ => 0))), (q34, .inl (cA.1, 520, .inl (fun _ => 0))), (q42, .inl (cA.1, 8, .inl (fun _ => 0))), (q50, .inl (cA.1, 8, .inl (fun _ => 0))), (q58, .inl (cA.1, 80, .inl (fun _ => 0))), (q67, .inl (cA.2.2, 2304, .inl (fun _ => 0))), (q76, .inl (cA.2.2, 2304, .inl (fun _ => 0))), (q85, .inl (cA.2.2, 288, .inl (fun _ => 0))), (q93, .inl (cA.1, 48, .inl (fun _ => 0))), (q101, .inl (cA.1, 6, .inl (fun _ => 0)))] H locs := I
  refine va_putF (D := D) (ci := 8) (v := .ref q101) (ty := .array .int) (C := R_Mo) (T := F_Mo) (N := 26) S.1 S.2.1 S.2.2.2.2 u_Mo t_Mo t_Mo_ok n_Mo S.2.2.2.1 hK.1.1 I.1 I.2.1 I.2.2 0 rfl rfl 16 (by decide) (S.2.2.2.2 _ fl_Mo_stateLight) (fun _ h9 => h9) rfl hin rfl (by decide +kernel) rfl rfl (Nat.le_of_ble_eq_true rfl) d_Mo_init_103 (fun H locs hP hD hS => ?_)
  have I : kI D A s [(h0, .inr (8, [.int 0, .ref q7, .ref q16, .ref q25, .ref q34, .int 0, .int 0, .ref q42, .ref q50, .int 0, .ref q58, .int 0, .ref q67, .ref q76, .ref q85, .ref q93, .ref q101, .int 0, .int 0, .null, .null, .null, .null, .null, .null, .null])), (q7, .inl (cA.1, 6, .inl (fun _ => 0))), (q16, .inl (cA.1, 520, .inl (fun _ => 0))), (q25, .inl (cA.1, 520, .inl (fun _ => 0))), (q34, .inl (cA.1, 520, .inl (fun _ => 0))), (q42, .inl (cA.1, 8, .inl (fun _ => 0))), (q50, .inl (cA.1, 8, .inl (fun _ => 0))), (q58, .inl (cA.1, 80, .inl (fun _ => 0))), (q67, .inl (cA.2.2, 2304, .inl (fun _ => 0))), (q76, .inl (cA.2.2, 2304, .inl (fun _ => 0))), (q85, .inl (cA.2.2, 288, .inl (fun _ => 0))), (q93, .inl (cA.1, 48, .inl (fun _ => 0))), (q101, .inl (cA.1, 6, .inl (fun _ => 0)))] H locs := ⟨hP, hD, hS⟩
  refine lv_aload_n S.1 S.2.1 d_Mo_init_106 rfl (lv_at hl 0 rfl) ?_
  refine lv_sipush (v := (520 : Int32)) S.1 S.2.1 d_Mo_init_107 rfl ?_
  refine k_newZ (N := 520) hK S ac_Z hA I (by decide) (by decide) (by decide) (Nat.le_of_ble_eq_true rfl) (Nat.le_of_ble_eq_true rfl) d_Mo_init_110 (fun q110 H I => ?_)
  have I : kI D A s [(h0, .inr (8, [.int 0, .ref q7, .ref q16, .ref q25, .ref q34, .int 0, .int 0, .ref q42, .ref q50, .int 0, .ref q58, .int 0, .ref q67, .ref q76, .ref q85, .ref q93, .ref q101, .int 0, .int 0, .null, .null, .null, .null, .null, .null, .null])), (q7, .inl (cA.1, 6, .inl (fun _ => 0))), (q16, .inl (cA.1, 520, .inl (fun _ => 0))), (q25, .inl (cA.1, 520, .inl (fun _ => 0))), (q34, .inl (cA.1, 520, .inl (fun _ => 0))), (q42, .inl (cA.1, 8, .inl (fun _ => 0))), (q50, .inl (cA.1, 8, .inl (fun _ => 0))), (q58, .inl (cA.1, 80, .inl (fun _ => 0))), (q67, .inl (cA.2.2, 2304, .inl (fun _ => 0))), (q76, .inl (cA.2.2, 2304, .inl (fun _ => 0))), (q85, .inl (cA.2.2, 288, .inl (fun _ => 0))), (q93, .inl (cA.1, 48, .inl (fun _ => 0))), (q101, .inl (cA.1, 6, .inl (fun _ => 0))), (q110, .inl (cA.2.2, 520, .inl (fun _ => 0)))] H locs := I
  refine va_putF (D := D) (ci := 8) (v := .ref q110) (ty := .array .boolean) (C := R_Mo) (T := F_Mo) (N := 26) S.1 S.2.1 S.2.2.2.2 u_Mo t_Mo t_Mo_ok n_Mo S.2.2.2.1 hK.1.1 I.1 I.2.1 I.2.2 0 rfl rfl 19 (by decide) (S.2.2.2.2 _ fl_Mo_marked) (fun _ h9 => h9) rfl hin rfl (by decide +kernel) rfl rfl (Nat.le_of_ble_eq_true rfl) d_Mo_init_112 (fun H locs hP hD hS => ?_)
  have I : kI D A s [(h0, .inr (8, [.int 0, .ref q7, .ref q16, .ref q25, .ref q34, .int 0, .int 0, .ref q42, .ref q50, .int 0, .ref q58, .int 0, .ref q67, .ref q76, .ref q85, .ref q93, .ref q101, .int 0, .int 0, .ref q110, .null, .null, .null, .null, .null, .null])), (q7, .inl (cA.1, 6, .inl (fun _ => 0))), (q16, .inl (cA.1, 520, .inl (fun _ => 0))), (q25, .inl (cA.1, 520, .inl (fun _ => 0))), (q34, .inl (cA.1, 520, .inl (fun _ => 0))), (q42, .inl (cA.1, 8, .inl (fun _ => 0))), (q50, .inl (cA.1, 8, .inl (fun _ => 0))), (q58, .inl (cA.1, 80, .inl (fun _ => 0))), (q67, .inl (cA.2.2, 2304, .inl (fun _ => 0))), (q76, .inl (cA.2.2, 2304, .inl (fun _ => 0))), (q85, .inl (cA.2.2, 288, .inl (fun _ => 0))), (q93, .inl (cA.1, 48, .inl (fun _ => 0))), (q101, .inl (cA.1, 6, .inl (fun _ => 0))), (q110, .inl (cA.2.2, 520, .inl (fun _ => 0)))] H locs := ⟨hP, hD, hS⟩
  refine lv_aload_n S.1 S.2.1 d_Mo_init_115 rfl (lv_at hl 0 rfl) ?_
  refine lv_sipush (v := (520 : Int32)) S.1 S.2.1 d_Mo_init_116 rfl ?_
  refine k_newZ (N := 520) hK S ac_Z hA I (by decide) (by decide) (by decide) (Nat.le_of_ble_eq_true rfl) (Nat.le_of_ble_eq_true rfl) d_Mo_init_119 (fun q119 H I => ?_)
  have I : kI D A s [(h0, .inr (8, [.int 0, .ref q7, .ref q16, .ref q25, .ref q34, .int 0, .int 0, .ref q42, .ref q50, .int 0, .ref q58, .int 0, .ref q67, .ref q76, .ref q85, .ref q93, .ref q101, .int 0, .int 0, .ref q110, .null, .null, .null, .null, .null, .null])), (q7, .inl (cA.1, 6, .inl (fun _ => 0))), (q16, .inl (cA.1, 520, .inl (fun _ => 0))), (q25, .inl (cA.1, 520, .inl (fun _ => 0))), (q34, .inl (cA.1, 520, .inl (fun _ => 0))), (q42, .inl (cA.1, 8, .inl (fun _ => 0))), (q50, .inl (cA.1, 8, .inl (fun _ => 0))), (q58, .inl (cA.1, 80, .inl (fun _ => 0))), (q67, .inl (cA.2.2, 2304, .inl (fun _ => 0))), (q76, .inl (cA.2.2, 2304, .inl (fun _ => 0))), (q85, .inl (cA.2.2, 288, .inl (fun _ => 0))), (q93, .inl (cA.1, 48, .inl (fun _ => 0))), (q101, .inl (cA.1, 6, .inl (fun _ => 0))), (q110, .inl (cA.2.2, 520, .inl (fun _ => 0))), (q119, .inl (cA.2.2, 520, .inl (fun _ => 0)))] H locs := I
  refine va_putF (D := D) (ci := 8) (v := .ref q119) (ty := .array .boolean) (C := R_Mo) (T := F_Mo) (N := 26) S.1 S.2.1 S.2.2.2.2 u_Mo t_Mo t_Mo_ok n_Mo S.2.2.2.1 hK.1.1 I.1 I.2.1 I.2.2 0 rfl rfl 20 (by decide) (S.2.2.2.2 _ fl_Mo_came) (fun _ h9 => h9) rfl hin rfl (by decide +kernel) rfl rfl (Nat.le_of_ble_eq_true rfl) d_Mo_init_121 (fun H locs hP hD hS => ?_)
  have I : kI D A s [(h0, .inr (8, [.int 0, .ref q7, .ref q16, .ref q25, .ref q34, .int 0, .int 0, .ref q42, .ref q50, .int 0, .ref q58, .int 0, .ref q67, .ref q76, .ref q85, .ref q93, .ref q101, .int 0, .int 0, .ref q110, .ref q119, .null, .null, .null, .null, .null])), (q7, .inl (cA.1, 6, .inl (fun _ => 0))), (q16, .inl (cA.1, 520, .inl (fun _ => 0))), (q25, .inl (cA.1, 520, .inl (fun _ => 0))), (q34, .inl (cA.1, 520, .inl (fun _ => 0))), (q42, .inl (cA.1, 8, .inl (fun _ => 0))), (q50, .inl (cA.1, 8, .inl (fun _ => 0))), (q58, .inl (cA.1, 80, .inl (fun _ => 0))), (q67, .inl (cA.2.2, 2304, .inl (fun _ => 0))), (q76, .inl (cA.2.2, 2304, .inl (fun _ => 0))), (q85, .inl (cA.2.2, 288, .inl (fun _ => 0))), (q93, .inl (cA.1, 48, .inl (fun _ => 0))), (q101, .inl (cA.1, 6, .inl (fun _ => 0))), (q110, .inl (cA.2.2, 520, .inl (fun _ => 0))), (q119, .inl (cA.2.2, 520, .inl (fun _ => 0)))] H locs := ⟨hP, hD, hS⟩
  refine lv_aload_n S.1 S.2.1 d_Mo_init_124 rfl (lv_at hl 0 rfl) ?_
  refine lv_sipush (v := (520 : Int32)) S.1 S.2.1 d_Mo_init_125 rfl ?_
  refine k_newI (N := 520) hK S ac_I hA I (by decide) (by decide) (by decide) (Nat.le_of_ble_eq_true rfl) (Nat.le_of_ble_eq_true rfl) d_Mo_init_128 (fun q128 H I => ?_)
  have I : kI D A s [(h0, .inr (8, [.int 0, .ref q7, .ref q16, .ref q25, .ref q34, .int 0, .int 0, .ref q42, .ref q50, .int 0, .ref q58, .int 0, .ref q67, .ref q76, .ref q85, .ref q93, .ref q101, .int 0, .int 0, .ref q110, .ref q119, .null, .null, .null, .null, .null])), (q7, .inl (cA.1, 6, .inl (fun _ => 0))), (q16, .inl (cA.1, 520, .inl (fun _ => 0))), (q25, .inl (cA.1, 520, .inl (fun _ => 0))), (q34, .inl (cA.1, 520, .inl (fun _ => 0))), (q42, .inl (cA.1, 8, .inl (fun _ => 0))), (q50, .inl (cA.1, 8, .inl (fun _ => 0))), (q58, .inl (cA.1, 80, .inl (fun _ => 0))), (q67, .inl (cA.2.2, 2304, .inl (fun _ => 0))), (q76, .inl (cA.2.2, 2304, .inl (fun _ => 0))), (q85, .inl (cA.2.2, 288, .inl (fun _ => 0))), (q93, .inl (cA.1, 48, .inl (fun _ => 0))), (q101, .inl (cA.1, 6, .inl (fun _ => 0))), (q110, .inl (cA.2.2, 520, .inl (fun _ => 0))), (q119, .inl (cA.2.2, 520, .inl (fun _ => 0))), (q128, .inl (cA.1, 520, .inl (fun _ => 0)))] H locs := I
  refine va_putF (D := D) (ci := 8) (v := .ref q128) (ty := .array .int) (C := R_Mo) (T := F_Mo) (N := 26) S.1 S.2.1 S.2.2.2.2 u_Mo t_Mo t_Mo_ok n_Mo S.2.2.2.1 hK.1.1 I.1 I.2.1 I.2.2 0 rfl rfl 21 (by decide) (S.2.2.2.2 _ fl_Mo_level) (fun _ h9 => h9) rfl hin rfl (by decide +kernel) rfl rfl (Nat.le_of_ble_eq_true rfl) d_Mo_init_130 (fun H locs hP hD hS => ?_)
  have I : kI D A s [(h0, .inr (8, [.int 0, .ref q7, .ref q16, .ref q25, .ref q34, .int 0, .int 0, .ref q42, .ref q50, .int 0, .ref q58, .int 0, .ref q67, .ref q76, .ref q85, .ref q93, .ref q101, .int 0, .int 0, .ref q110, .ref q119, .ref q128, .null, .null, .null, .null])), (q7, .inl (cA.1, 6, .inl (fun _ => 0))), (q16, .inl (cA.1, 520, .inl (fun _ => 0))), (q25, .inl (cA.1, 520, .inl (fun _ => 0))), (q34, .inl (cA.1, 520, .inl (fun _ => 0))), (q42, .inl (cA.1, 8, .inl (fun _ => 0))), (q50, .inl (cA.1, 8, .inl (fun _ => 0))), (q58, .inl (cA.1, 80, .inl (fun _ => 0))), (q67, .inl (cA.2.2, 2304, .inl (fun _ => 0))), (q76, .inl (cA.2.2, 2304, .inl (fun _ => 0))), (q85, .inl (cA.2.2, 288, .inl (fun _ => 0))), (q93, .inl (cA.1, 48, .inl (fun _ => 0))), (q101, .inl (cA.1, 6, .inl (fun _ => 0))), (q110, .inl (cA.2.2, 520, .inl (fun _ => 0))), (q119, .inl (cA.2.2, 520, .inl (fun _ => 0))), (q128, .inl (cA.1, 520, .inl (fun _ => 0)))] H locs := ⟨hP, hD, hS⟩
  refine lv_aload_n S.1 S.2.1 d_Mo_init_133 rfl (lv_at hl 0 rfl) ?_
  refine lv_sipush (v := (520 : Int32)) S.1 S.2.1 d_Mo_init_134 rfl ?_
  refine k_newI (N := 520) hK S ac_I hA I (by decide) (by decide) (by decide) (Nat.le_of_ble_eq_true rfl) (Nat.le_of_ble_eq_true rfl) d_Mo_init_137 (fun q137 H I => ?_)
  have I : kI D A s [(h0, .inr (8, [.int 0, .ref q7, .ref q16, .ref q25, .ref q34, .int 0, .int 0, .ref q42, .ref q50, .int 0, .ref q58, .int 0, .ref q67, .ref q76, .ref q85, .ref q93, .ref q101, .int 0, .int 0, .ref q110, .ref q119, .ref q128, .null, .null, .null, .null])), (q7, .inl (cA.1, 6, .inl (fun _ => 0))), (q16, .inl (cA.1, 520, .inl (fun _ => 0))), (q25, .inl (cA.1, 520, .inl (fun _ => 0))), (q34, .inl (cA.1, 520, .inl (fun _ => 0))), (q42, .inl (cA.1, 8, .inl (fun _ => 0))), (q50, .inl (cA.1, 8, .inl (fun _ => 0))), (q58, .inl (cA.1, 80, .inl (fun _ => 0))), (q67, .inl (cA.2.2, 2304, .inl (fun _ => 0))), (q76, .inl (cA.2.2, 2304, .inl (fun _ => 0))), (q85, .inl (cA.2.2, 288, .inl (fun _ => 0))), (q93, .inl (cA.1, 48, .inl (fun _ => 0))), (q101, .inl (cA.1, 6, .inl (fun _ => 0))), (q110, .inl (cA.2.2, 520, .inl (fun _ => 0))), (q119, .inl (cA.2.2, 520, .inl (fun _ => 0))), (q128, .inl (cA.1, 520, .inl (fun _ => 0))), (q137, .inl (cA.1, 520, .inl (fun _ => 0)))] H locs := I
  refine va_putF (D := D) (ci := 8) (v := .ref q137) (ty := .array .int) (C := R_Mo) (T := F_Mo) (N := 26) S.1 S.2.1 S.2.2.2.2 u_Mo t_Mo t_Mo_ok n_Mo S.2.2.2.1 hK.1.1 I.1 I.2.1 I.2.2 0 rfl rfl 22 (by decide) (S.2.2.2.2 _ fl_Mo_many) (fun _ h9 => h9) rfl hin rfl (by decide +kernel) rfl rfl (Nat.le_of_ble_eq_true rfl) d_Mo_init_139 (fun H locs hP hD hS => ?_)
  have I : kI D A s [(h0, .inr (8, [.int 0, .ref q7, .ref q16, .ref q25, .ref q34, .int 0, .int 0, .ref q42, .ref q50, .int 0, .ref q58, .int 0, .ref q67, .ref q76, .ref q85, .ref q93, .ref q101, .int 0, .int 0, .ref q110, .ref q119, .ref q128, .ref q137, .null, .null, .null])), (q7, .inl (cA.1, 6, .inl (fun _ => 0))), (q16, .inl (cA.1, 520, .inl (fun _ => 0))), (q25, .inl (cA.1, 520, .inl (fun _ => 0))), (q34, .inl (cA.1, 520, .inl (fun _ => 0))), (q42, .inl (cA.1, 8, .inl (fun _ => 0))), (q50, .inl (cA.1, 8, .inl (fun _ => 0))), (q58, .inl (cA.1, 80, .inl (fun _ => 0))), (q67, .inl (cA.2.2, 2304, .inl (fun _ => 0))), (q76, .inl (cA.2.2, 2304, .inl (fun _ => 0))), (q85, .inl (cA.2.2, 288, .inl (fun _ => 0))), (q93, .inl (cA.1, 48, .inl (fun _ => 0))), (q101, .inl (cA.1, 6, .inl (fun _ => 0))), (q110, .inl (cA.2.2, 520, .inl (fun _ => 0))), (q119, .inl (cA.2.2, 520, .inl (fun _ => 0))), (q128, .inl (cA.1, 520, .inl (fun _ => 0))), (q137, .inl (cA.1, 520, .inl (fun _ => 0)))] H locs := ⟨hP, hD, hS⟩
  refine lv_aload_n S.1 S.2.1 d_Mo_init_142 rfl (lv_at hl 0 rfl) ?_
  refine lv_sipush (v := (1100 : Int32)) S.1 S.2.1 d_Mo_init_143 rfl ?_
  refine k_newI (N := 1100) hK S ac_I hA I (by decide) (by decide) (by decide) (Nat.le_of_ble_eq_true rfl) (Nat.le_of_ble_eq_true rfl) d_Mo_init_146 (fun q146 H I => ?_)
  have I : kI D A s [(h0, .inr (8, [.int 0, .ref q7, .ref q16, .ref q25, .ref q34, .int 0, .int 0, .ref q42, .ref q50, .int 0, .ref q58, .int 0, .ref q67, .ref q76, .ref q85, .ref q93, .ref q101, .int 0, .int 0, .ref q110, .ref q119, .ref q128, .ref q137, .null, .null, .null])), (q7, .inl (cA.1, 6, .inl (fun _ => 0))), (q16, .inl (cA.1, 520, .inl (fun _ => 0))), (q25, .inl (cA.1, 520, .inl (fun _ => 0))), (q34, .inl (cA.1, 520, .inl (fun _ => 0))), (q42, .inl (cA.1, 8, .inl (fun _ => 0))), (q50, .inl (cA.1, 8, .inl (fun _ => 0))), (q58, .inl (cA.1, 80, .inl (fun _ => 0))), (q67, .inl (cA.2.2, 2304, .inl (fun _ => 0))), (q76, .inl (cA.2.2, 2304, .inl (fun _ => 0))), (q85, .inl (cA.2.2, 288, .inl (fun _ => 0))), (q93, .inl (cA.1, 48, .inl (fun _ => 0))), (q101, .inl (cA.1, 6, .inl (fun _ => 0))), (q110, .inl (cA.2.2, 520, .inl (fun _ => 0))), (q119, .inl (cA.2.2, 520, .inl (fun _ => 0))), (q128, .inl (cA.1, 520, .inl (fun _ => 0))), (q137, .inl (cA.1, 520, .inl (fun _ => 0))), (q146, .inl (cA.1, 1100, .inl (fun _ => 0)))] H locs := I
  refine va_putF (D := D) (ci := 8) (v := .ref q146) (ty := .array .int) (C := R_Mo) (T := F_Mo) (N := 26) S.1 S.2.1 S.2.2.2.2 u_Mo t_Mo t_Mo_ok n_Mo S.2.2.2.1 hK.1.1 I.1 I.2.1 I.2.2 0 rfl rfl 23 (by decide) (S.2.2.2.2 _ fl_Mo_open) (fun _ h9 => h9) rfl hin rfl (by decide +kernel) rfl rfl (Nat.le_of_ble_eq_true rfl) d_Mo_init_148 (fun H locs hP hD hS => ?_)
  have I : kI D A s [(h0, .inr (8, [.int 0, .ref q7, .ref q16, .ref q25, .ref q34, .int 0, .int 0, .ref q42, .ref q50, .int 0, .ref q58, .int 0, .ref q67, .ref q76, .ref q85, .ref q93, .ref q101, .int 0, .int 0, .ref q110, .ref q119, .ref q128, .ref q137, .ref q146, .null, .null])), (q7, .inl (cA.1, 6, .inl (fun _ => 0))), (q16, .inl (cA.1, 520, .inl (fun _ => 0))), (q25, .inl (cA.1, 520, .inl (fun _ => 0))), (q34, .inl (cA.1, 520, .inl (fun _ => 0))), (q42, .inl (cA.1, 8, .inl (fun _ => 0))), (q50, .inl (cA.1, 8, .inl (fun _ => 0))), (q58, .inl (cA.1, 80, .inl (fun _ => 0))), (q67, .inl (cA.2.2, 2304, .inl (fun _ => 0))), (q76, .inl (cA.2.2, 2304, .inl (fun _ => 0))), (q85, .inl (cA.2.2, 288, .inl (fun _ => 0))), (q93, .inl (cA.1, 48, .inl (fun _ => 0))), (q101, .inl (cA.1, 6, .inl (fun _ => 0))), (q110, .inl (cA.2.2, 520, .inl (fun _ => 0))), (q119, .inl (cA.2.2, 520, .inl (fun _ => 0))), (q128, .inl (cA.1, 520, .inl (fun _ => 0))), (q137, .inl (cA.1, 520, .inl (fun _ => 0))), (q146, .inl (cA.1, 1100, .inl (fun _ => 0)))] H locs := ⟨hP, hD, hS⟩
  refine lv_aload_n S.1 S.2.1 d_Mo_init_151 rfl (lv_at hl 0 rfl) ?_
  refine lv_sipush (v := (520 : Int32)) S.1 S.2.1 d_Mo_init_152 rfl ?_
  refine k_newI (N := 520) hK S ac_I hA I (by decide) (by decide) (by decide) (Nat.le_of_ble_eq_true rfl) (Nat.le_of_ble_eq_true rfl) d_Mo_init_155 (fun q155 H I => ?_)
  have I : kI D A s [(h0, .inr (8, [.int 0, .ref q7, .ref q16, .ref q25, .ref q34, .int 0, .int 0, .ref q42, .ref q50, .int 0, .ref q58, .int 0, .ref q67, .ref q76, .ref q85, .ref q93, .ref q101, .int 0, .int 0, .ref q110, .ref q119, .ref q128, .ref q137, .ref q146, .null, .null])), (q7, .inl (cA.1, 6, .inl (fun _ => 0))), (q16, .inl (cA.1, 520, .inl (fun _ => 0))), (q25, .inl (cA.1, 520, .inl (fun _ => 0))), (q34, .inl (cA.1, 520, .inl (fun _ => 0))), (q42, .inl (cA.1, 8, .inl (fun _ => 0))), (q50, .inl (cA.1, 8, .inl (fun _ => 0))), (q58, .inl (cA.1, 80, .inl (fun _ => 0))), (q67, .inl (cA.2.2, 2304, .inl (fun _ => 0))), (q76, .inl (cA.2.2, 2304, .inl (fun _ => 0))), (q85, .inl (cA.2.2, 288, .inl (fun _ => 0))), (q93, .inl (cA.1, 48, .inl (fun _ => 0))), (q101, .inl (cA.1, 6, .inl (fun _ => 0))), (q110, .inl (cA.2.2, 520, .inl (fun _ => 0))), (q119, .inl (cA.2.2, 520, .inl (fun _ => 0))), (q128, .inl (cA.1, 520, .inl (fun _ => 0))), (q137, .inl (cA.1, 520, .inl (fun _ => 0))), (q146, .inl (cA.1, 1100, .inl (fun _ => 0))), (q155, .inl (cA.1, 520, .inl (fun _ => 0)))] H locs := I
  refine va_putF (D := D) (ci := 8) (v := .ref q155) (ty := .array .int) (C := R_Mo) (T := F_Mo) (N := 26) S.1 S.2.1 S.2.2.2.2 u_Mo t_Mo t_Mo_ok n_Mo S.2.2.2.1 hK.1.1 I.1 I.2.1 I.2.2 0 rfl rfl 24 (by decide) (S.2.2.2.2 _ fl_Mo_path) (fun _ h9 => h9) rfl hin rfl (by decide +kernel) rfl rfl (Nat.le_of_ble_eq_true rfl) d_Mo_init_157 (fun H locs hP hD hS => ?_)
  have I : kI D A s [(h0, .inr (8, [.int 0, .ref q7, .ref q16, .ref q25, .ref q34, .int 0, .int 0, .ref q42, .ref q50, .int 0, .ref q58, .int 0, .ref q67, .ref q76, .ref q85, .ref q93, .ref q101, .int 0, .int 0, .ref q110, .ref q119, .ref q128, .ref q137, .ref q146, .ref q155, .null])), (q7, .inl (cA.1, 6, .inl (fun _ => 0))), (q16, .inl (cA.1, 520, .inl (fun _ => 0))), (q25, .inl (cA.1, 520, .inl (fun _ => 0))), (q34, .inl (cA.1, 520, .inl (fun _ => 0))), (q42, .inl (cA.1, 8, .inl (fun _ => 0))), (q50, .inl (cA.1, 8, .inl (fun _ => 0))), (q58, .inl (cA.1, 80, .inl (fun _ => 0))), (q67, .inl (cA.2.2, 2304, .inl (fun _ => 0))), (q76, .inl (cA.2.2, 2304, .inl (fun _ => 0))), (q85, .inl (cA.2.2, 288, .inl (fun _ => 0))), (q93, .inl (cA.1, 48, .inl (fun _ => 0))), (q101, .inl (cA.1, 6, .inl (fun _ => 0))), (q110, .inl (cA.2.2, 520, .inl (fun _ => 0))), (q119, .inl (cA.2.2, 520, .inl (fun _ => 0))), (q128, .inl (cA.1, 520, .inl (fun _ => 0))), (q137, .inl (cA.1, 520, .inl (fun _ => 0))), (q146, .inl (cA.1, 1100, .inl (fun _ => 0))), (q155, .inl (cA.1, 520, .inl (fun _ => 0)))] H locs := ⟨hP, hD, hS⟩
  refine lv_aload_n S.1 S.2.1 d_Mo_init_160 rfl (lv_at hl 0 rfl) ?_
  refine lv_sipush (v := (520 : Int32)) S.1 S.2.1 d_Mo_init_161 rfl ?_
  refine k_newI (N := 520) hK S ac_I hA I (by decide) (by decide) (by decide) (Nat.le_of_ble_eq_true rfl) (Nat.le_of_ble_eq_true rfl) d_Mo_init_164 (fun q164 H I => ?_)
  have I : kI D A s [(h0, .inr (8, [.int 0, .ref q7, .ref q16, .ref q25, .ref q34, .int 0, .int 0, .ref q42, .ref q50, .int 0, .ref q58, .int 0, .ref q67, .ref q76, .ref q85, .ref q93, .ref q101, .int 0, .int 0, .ref q110, .ref q119, .ref q128, .ref q137, .ref q146, .ref q155, .null])), (q7, .inl (cA.1, 6, .inl (fun _ => 0))), (q16, .inl (cA.1, 520, .inl (fun _ => 0))), (q25, .inl (cA.1, 520, .inl (fun _ => 0))), (q34, .inl (cA.1, 520, .inl (fun _ => 0))), (q42, .inl (cA.1, 8, .inl (fun _ => 0))), (q50, .inl (cA.1, 8, .inl (fun _ => 0))), (q58, .inl (cA.1, 80, .inl (fun _ => 0))), (q67, .inl (cA.2.2, 2304, .inl (fun _ => 0))), (q76, .inl (cA.2.2, 2304, .inl (fun _ => 0))), (q85, .inl (cA.2.2, 288, .inl (fun _ => 0))), (q93, .inl (cA.1, 48, .inl (fun _ => 0))), (q101, .inl (cA.1, 6, .inl (fun _ => 0))), (q110, .inl (cA.2.2, 520, .inl (fun _ => 0))), (q119, .inl (cA.2.2, 520, .inl (fun _ => 0))), (q128, .inl (cA.1, 520, .inl (fun _ => 0))), (q137, .inl (cA.1, 520, .inl (fun _ => 0))), (q146, .inl (cA.1, 1100, .inl (fun _ => 0))), (q155, .inl (cA.1, 520, .inl (fun _ => 0))), (q164, .inl (cA.1, 520, .inl (fun _ => 0)))] H locs := I
  refine va_putF (D := D) (ci := 8) (v := .ref q164) (ty := .array .int) (C := R_Mo) (T := F_Mo) (N := 26) S.1 S.2.1 S.2.2.2.2 u_Mo t_Mo t_Mo_ok n_Mo S.2.2.2.1 hK.1.1 I.1 I.2.1 I.2.2 0 rfl rfl 25 (by decide) (S.2.2.2.2 _ fl_Mo_side) (fun _ h9 => h9) rfl hin rfl (by decide +kernel) rfl rfl (Nat.le_of_ble_eq_true rfl) d_Mo_init_166 (fun H locs hP hD hS => ?_)
  have I : kI D A s [(h0, .inr (8, [.int 0, .ref q7, .ref q16, .ref q25, .ref q34, .int 0, .int 0, .ref q42, .ref q50, .int 0, .ref q58, .int 0, .ref q67, .ref q76, .ref q85, .ref q93, .ref q101, .int 0, .int 0, .ref q110, .ref q119, .ref q128, .ref q137, .ref q146, .ref q155, .ref q164])), (q7, .inl (cA.1, 6, .inl (fun _ => 0))), (q16, .inl (cA.1, 520, .inl (fun _ => 0))), (q25, .inl (cA.1, 520, .inl (fun _ => 0))), (q34, .inl (cA.1, 520, .inl (fun _ => 0))), (q42, .inl (cA.1, 8, .inl (fun _ => 0))), (q50, .inl (cA.1, 8, .inl (fun _ => 0))), (q58, .inl (cA.1, 80, .inl (fun _ => 0))), (q67, .inl (cA.2.2, 2304, .inl (fun _ => 0))), (q76, .inl (cA.2.2, 2304, .inl (fun _ => 0))), (q85, .inl (cA.2.2, 288, .inl (fun _ => 0))), (q93, .inl (cA.1, 48, .inl (fun _ => 0))), (q101, .inl (cA.1, 6, .inl (fun _ => 0))), (q110, .inl (cA.2.2, 520, .inl (fun _ => 0))), (q119, .inl (cA.2.2, 520, .inl (fun _ => 0))), (q128, .inl (cA.1, 520, .inl (fun _ => 0))), (q137, .inl (cA.1, 520, .inl (fun _ => 0))), (q146, .inl (cA.1, 1100, .inl (fun _ => 0))), (q155, .inl (cA.1, 520, .inl (fun _ => 0))), (q164, .inl (cA.1, 520, .inl (fun _ => 0)))] H locs := ⟨hP, hD, hS⟩
  have hP9 : gIn D A s (wM (fun k => match k with | 0 => h0 | 1 => q7 | 2 => q16 | 3 => q25 | 4 => q34 | 5 => q42 | 6 => q50 | 7 => q58 | 8 => q67 | 9 => q76 | 10 => q85 | 11 => q93 | 12 => q101 | 13 => q110 | 14 => q119 | 15 => q128 | 16 => q137 | 17 => q146 | 18 => q155 | 19 => q164 | _ => 0) cA) moZ H locs := I
  exact t_Mo_initT (ad := (fun k => match k with | 0 => h0 | 1 => q7 | 2 => q16 | 3 => q25 | 4 => q34 | 5 => q42 | 6 => q50 | 7 => q58 | 8 => q67 | 9 => q76 | 10 => q85 | 11 => q93 | 12 => q101 | 13 => q110 | 14 => q119 | 15 => q128 | 16 => q137 | 17 => q146 | 18 => q155 | 19 => q164 | _ => 0)) (Q := Q) S hr hlk hK.1 hA h hl hP9
