/-! a part of a world is handed to a callee; calls that return or throw -/
section AP
variable {D : va_G} {cl : List vw_C} {A : Nat → Prop} {H H1 : Heap} {w0 w1 w2 w1' : va_W}
theorem ap_P1 (h : va_P D cl (w1 ++ w2) H) : va_P D cl w1 H := fun k q hk => h k q (by rw [List.getElem?_append_left (List.getElem?_eq_some_iff.mp hk).1]; exact hk)
theorem ap_P2 (h : va_P D cl (w1 ++ w2) H) : va_P D cl w2 H := fun k q hk => h (w1.length + k) q (by rw [List.getElem?_append_right (Nat.le_add_right _ _), Nat.add_sub_cancel_left]; exact hk)
theorem ap_at2 {k : Nat} {q : Nat × va_E} (hk : w2[k]? = some q) : (w1 ++ w2)[w1.length + k]? = some q := by rw [List.getElem?_append_right (Nat.le_add_right _ _), Nat.add_sub_cancel_left]; exact hk
theorem ap_at1 {k : Nat} {q : Nat × va_E} (hk : w1[k]? = some q) : (w1 ++ w2)[k]? = some q := by rw [List.getElem?_append_left (List.getElem?_eq_some_iff.mp hk).1]; exact hk
theorem ap_D1 (h : va_D A (w1 ++ w2)) : va_D A w1 := ⟨fun i j p q hi hj e => h.1 i j p q (ap_at1 hi) (ap_at1 hj) e, fun k q hk => h.2 k q (ap_at1 hk)⟩
theorem ap_D2 (h : va_D A (w1 ++ w2)) : va_D A w2 := ⟨fun i j p q hi hj e => by have := h.1 _ _ p q (ap_at2 (w1 := w1) hi) (ap_at2 (w1 := w1) hj) e; omega, fun k q hk => h.2 _ q (ap_at2 (w1 := w1) hk)⟩
theorem ap_ne (h : va_D A (w1 ++ w2)) {i j : Nat} {p q : Nat × va_E} (hi : w1[i]? = some p) (hj : w2[j]? = some q) : p.1 ≠ q.1 := by
  intro e
  have h1 := h.1 _ _ p q (ap_at1 (w2 := w2) hi) (ap_at2 (w1 := w1) hj) e
  have h2 := (List.getElem?_eq_some_iff.mp hi).1
  omega
theorem ap_DD (h1 : va_D A w1) (h2 : va_D A w2) (h : ∀ (i j : Nat) (p q : Nat × va_E), w1[i]? = some p → w2[j]? = some q → p.1 ≠ q.1) : va_D A (w1 ++ w2) := by
  have cut : ∀ (k : Nat) (q : Nat × va_E), (w1 ++ w2)[k]? = some q → w1[k]? = some q ∨ (w1.length ≤ k ∧ w2[k - w1.length]? = some q) := by
    intro k q hk
    by_cases hlt : k < w1.length
    · rw [List.getElem?_append_left hlt] at hk; exact Or.inl hk
    · rw [List.getElem?_append_right (Nat.le_of_not_lt hlt)] at hk; exact Or.inr ⟨Nat.le_of_not_lt hlt, hk⟩
  refine ⟨fun i j p q hi hj e => ?_, fun k q hk => ?_⟩
  · rcases cut i p hi with h3 | ⟨h3, h4⟩ <;> rcases cut j q hj with h5 | ⟨h5, h6⟩
    · exact h1.1 i j p q h3 h5 e
    · exact (h _ _ _ _ h3 h6 e).elim
    · exact (h _ _ _ _ h5 h4 e.symm).elim
    · have := h2.1 _ _ p q h4 h6 e
      omega
  · rcases cut k q hk with h3 | ⟨-, h4⟩
    · exact h1.2 k q h3
    · exact h2.2 _ q h4
theorem ap_join (hP : va_P D cl (w0 ++ (w1 ++ w2)) H) (hD : va_D A (w0 ++ (w1 ++ w2))) (hk : ∀ q : Nat, q < H.size → ¬ va_A w1 H.size q → H1[q]? = H[q]?) (hF : ∀ q, va_A w1 H.size q → A q) (hP1 : va_P D cl w1' H1) (hD1 : va_D (va_A w1 H.size) w1') : va_P D cl (w0 ++ (w1' ++ w2)) H1 ∧ va_D A (w0 ++ (w1' ++ w2)) := by
  have out0 : ∀ (k : Nat) (q : Nat × va_E), w0[k]? = some q → ¬ va_A w1 H.size q.1 := by
    intro k q hq h
    rcases h with ⟨j, e9, h⟩ | h
    · exact ap_ne hD hq (ap_at1 (w2 := w2) h) rfl
    · exact absurd (ap_P1 hP k q hq).lt (Nat.not_lt.mpr h)
  have out2 : ∀ (k : Nat) (q : Nat × va_E), w2[k]? = some q → ¬ va_A w1 H.size q.1 := by
    intro k q hq h
    rcases h with ⟨j, e9, h⟩ | h
    · exact ap_ne (ap_D2 hD) h hq rfl
    · exact absurd (ap_P2 (ap_P2 hP) k q hq).lt (Nat.not_lt.mpr h)
  refine ⟨va_P.app ((ap_P1 hP).kept fun k q hq => hk q.1 (ap_P1 hP k q hq).lt (out0 k q hq)) (va_P.app hP1 ((ap_P2 (ap_P2 hP)).kept fun k q hq => hk q.1 (ap_P2 (ap_P2 hP) k q hq).lt (out2 k q hq))), ?_⟩
  refine ap_DD (ap_D1 hD) (ap_DD (hD1.weaken (fun _ q _ h => hF q.1 h)) (ap_D2 (ap_D2 hD)) (fun i j x y hx hy e => out2 j y hy (by rw [← e]; exact hD1.2 i x hx))) (fun i j x y hx hy e => ?_)
  rcases List.mem_append.mp (List.mem_of_getElem? hy) with h | h
  · obtain ⟨j', hj'⟩ := List.mem_iff_getElem?.mp h
    exact out0 i x hx (by rw [e]; exact hD1.2 j' y hj')
  · obtain ⟨j', hj'⟩ := List.mem_iff_getElem?.mp h
    exact ap_ne hD hx (ap_at2 (w1 := w1) hj') e
end AP
section FW
variable {σ τ : Type} {p : Program} {l : Launch} {e : Env} {R : Room} {s : State} {m : MethodId} {args : Array Value} {below : List Frame} {meth : Method} {c : Code} {H : Heap} {locs : List Loc} {Q : State → Prop} {cc : ByteArray} {nL pc : Nat} {ls : Array Slot} {own : String} {D : va_G} {ty : List (ClassId × FieldType)} {A : Nat → Prop} {wf : σ → va_W} {st : σ} {F : τ → σ} {w0 w2 : va_W}
variable {cells slots index n maxL : Nat} {y : MethodName} {bytes : ByteArray} {ret : Option FieldType} {rm : Room} {ws : List Cond} {b : Addr} {As rest st0 : List Value}
/-- the world is w0, the callee's, w2 -/
def gF (D : va_G) (A : Nat → Prop) (s : State) (w0 w2 : va_W) (wf : σ → va_W) (st : σ) (H : Heap) (locs : List Loc) : Prop := gIn D A s (fun st => w0 ++ (wf st ++ w2)) st H locs
theorem gF.P (I : gF D A s w0 w2 wf st H locs) : va_P D classes (wf st) H := ap_P1 (ap_P2 I.1)
theorem gF.dd (I : gF D A s w0 w2 wf st H locs) : va_D A (wf st) := ap_D1 (ap_D2 I.2.1)
theorem gF.free (hA : ∀ q : Nat, s.heap.size ≤ q → A q) (I : gF D A s w0 w2 wf st H locs) : ∀ q, va_A (wf st) H.size q → A q := by
  intro q h
  rcases h with ⟨k, e9, h⟩ | h
  · exact (gF.dd I).2 k _ h
  · exact hA q (Nat.le_trans I.2.2.1 h)
theorem callF_roi {Q0 : Int32 → Prop} (S : CallFix p m c cc nL s args gtbl own) (hM : roI l y ws rm D ty wf (.ref b :: As) st Q0) (cw : CallW R s args own y.cls index y bytes maxL ret ws rm 0 0 n) (hv : ∃ cellB : Cell, H[b]? = some cellB ∧ cellB.vm.isStatics = false ∧ s.vm.findClass y.cls = some cellB.cls) (hK : gK D ty s) (I : gF D A s w0 w2 wf st H locs) (hls : ls.size = nL) (hn : As.length = n) (hst : st0 = As.reverse ++ .ref b :: rest) (hw : (rest.map fun v => v.category).sum ≤ 8) (hdg : decode cc pc = .ok (.invokevirtual index, 3)) (hf : cells ≤ R.cells ∧ slots ≤ R.slots)
    (kk : ∀ r : Int32, Q0 r → W p l e R s m args below meth c H locs cells slots Q (F0 m (pc + 3) ls (.int r :: rest))) : W p l e R s m args below meth c H locs cells slots Q (F0 m pc ls st0) :=
  vp_callSi (va_runV S hM cw ⟨rblind, hv, fun U hU hW => ⟨rfl, by rw [hU]; exact (gF.P I), hK.moved hW⟩⟩ rfl hn hls hst (lv_room hw) hdg hf).run kk
theorem callF_rwi {Q0 : Int32 → τ → Prop} (S : CallFix p m c cc nL s args gtbl own) (hM : rwI l y ws rm D ty wf (.ref b :: As) st F Q0) (cw : CallW R s args own y.cls index y bytes maxL ret ws rm 0 0 n) (hv : ∃ cellB : Cell, H[b]? = some cellB ∧ cellB.vm.isStatics = false ∧ s.vm.findClass y.cls = some cellB.cls) (hK : gK D ty s) (hA : ∀ q : Nat, s.heap.size ≤ q → A q) (I : gF D A s w0 w2 wf st H locs) (hls : ls.size = nL) (hn : As.length = n) (hst : st0 = As.reverse ++ .ref b :: rest) (hw : (rest.map fun v => v.category).sum ≤ 8) (hdg : decode cc pc = .ok (.invokevirtual index, 3)) (hf : cells ≤ R.cells ∧ slots ≤ R.slots)
    (kk : ∀ (r : Int32) (u : τ) (H1 : Heap) (locs1 : List Loc), Q0 r u → gF D A s w0 w2 wf (F u) H1 locs1 → W p l e R s m args below meth c H1 locs1 cells slots Q (F0 m (pc + 3) ls (.int r :: rest))) : W p l e R s m args below meth c H locs cells slots Q (F0 m pc ls st0) :=
  va_calli (va_runV S (hM H.size) cw ⟨gblind, hv, fun U hU hW => ⟨rfl, by rw [hU], by rw [hU]; exact (gF.P I), hK.moved hW, (gF.dd I).weaken (fun _ _ _ _ => trivial)⟩⟩ rfl hn hls hst (lv_room hw) hdg hf) I.2.2 (fun q _ h => gF.free hA I q h) (gF.free hA I) (fun r u t H1 locs1 ht hvm h hB hz hk hS => by
    have hj := ap_join I.1 I.2.1 hk (gF.free hA I) (by rw [← ht]; exact hB.1) hB.2.2
    exact kk r u H1 locs1 h ⟨hj.1, hj.2, hS⟩)
theorem tblind {sz : Nat} {av : List Value} : FrameBlind (tPre D ty wf st sz av) := fun a U g mk q => by
  obtain ⟨q0, q1, qP, qK, qD, qX⟩ := q
  exact ⟨q0, q1, qP, gK.calling g mk a qK, qD, qX.same (s := U) (U := U.calling g mk a) rfl (Vm.Alike.refl U.vm)⟩
theorem callF_tw {Q0 : Int32 → τ → Prop} {X0 : String → τ → Prop} (S : CallFix p m c cc nL s args gtbl own) (hM : twI l y (wsOf y bytes maxL ret) rm D ty wf (.ref b :: As) st F Q0 X0) (hlk : Cond.methodLink own index y ∈ gtbl) (hk : kV y bytes maxL ret n) (hrc : rm.cells = 1) (hrs : rm.slots = 6) (hR : rm.frames + 1 ≤ R.frames ∧ 8 + (maxL + 11) + rm.locals ≤ R.locals)
    (hv : ∃ cellB : Cell, H[b]? = some cellB ∧ cellB.vm.isStatics = false ∧ s.vm.findClass y.cls = some cellB.cls) (hK : gK D ty s) (hA : ∀ q : Nat, s.heap.size ≤ q → A q) (tx : tX A s s.heap) (I : gF D A s w0 w2 wf st H locs) (hls : ls.size = nL) (hn : As.length = n) (hst : st0 = As.reverse ++ .ref b :: rest) (hw : (rest.map fun v => v.category).sum ≤ 8) (hdg : decode cc pc = .ok (.invokevirtual index, 3)) (hf : cells + 1 ≤ R.cells ∧ slots + 6 ≤ R.slots)
    (kk : ∀ (r : Int32) (u : τ) (H1 : Heap) (locs1 : List Loc), Q0 r u → gF D A s w0 w2 wf (F u) H1 locs1 → W p l e R s m args below meth c H1 locs1 (cells + 1) (slots + 6) Q (F0 m (pc + 3) ls (.int r :: rest)))
    (kx : ∀ (E : String) (u : τ) (q : Addr) (ce : Cell) (H1 : Heap) (locs1 : List Loc), X0 E u → gF D A s w0 w2 wf (F u) H1 locs1 → H1[q]? = some ce → ce.vm = .none → s.vm.findClass E = some ce.cls → xW p l e R s m args below meth c H1 locs1 (cells + 1) (slots + 6) Q (F0 m pc ls rest) q) : W p l e R s m args below meth c H locs cells slots Q (F0 m pc ls st0) := by
  intro T hT X
  obtain ⟨h2, h3, h4, h5, h6a, h6b, h6c⟩ := hk
  have hts := S.2.2.2.2
  obtain ⟨mk, methM, hnamed, hmethM, hstM, habM⟩ := Cond.instanceMethod_spec (hts _ h2)
  obtain ⟨methM', cM, hmethM', hcM, hbM, hlM, -, -, -, hsigM⟩ := Cond.code_spec hnamed (hts _ h5)
  cases hmethM.symm.trans hmethM'
  obtain ⟨c2, r2, m2, q1, q2, q3, q4, kP, hkP, hkPi⟩ := Cond.selects_spec (hts _ h3)
  obtain ⟨cellB, hcB, hoB, hclB⟩ := hv
  cases hclB.symm.trans q1
  cases (State.methodFound?_of_named hnamed ⟨h6a, h6b⟩).symm.trans q2
  cases hnamed.symm.trans q3
  have hselP : selectMethod e.platform s.vm cellB.cls mk = .method mk := by rw [Launch.admits_selectMethod X.admits]; exact q4
  have hlen : As.length = methM.sig.parameters.length := by
    rw [hsigM] at h6c
    exact hn.trans (Option.some.inj h6c).symm
  have hdg' : decode c.code pc = .ok (.invokevirtual index, 3) := by rw [S.2.1]; exact hdg
  obtain ⟨vm₁, X₁, hstep₁⟩ := X.invokevirtual S.1 S.2.2.2.1 (hts _ hlk) hnamed hmethM hstM hkP hkPi ⟨h6a, h6b⟩ (a := b) (cell := cellB) (by rw [hT]; exact hcB) (fun z h => by rw [h] at hoB; cases hoB) hselP hmethM habM hkP hkPi (g := F0 m pc ls st0) rfl (argsL := As) (rest := rest) hlen hst hdg'
  have hnU : (T.setVm vm₁).methodNamed? y = some mk := X₁.named hnamed
  have hW1 : s.WarmedH vm₁ := X₁.warmed
  have hgood : ∀ w ∈ wsOf y bytes maxL ret, ∀ (a' : Array Value) (U : State), s.WarmedH U.vm → w.before a' U = true := pay_in hts (wsOf_good h5)
  have pre0 : tPre D ty wf st H.size (.ref b :: As) (Value.ref b :: As).toArray (T.setVm vm₁) := by
    refine ⟨rfl, by rw [← hT]; rfl, ?_, hK.moved hW1, (gF.dd I).weaken (fun _ _ _ _ => trivial), ?_⟩
    · show va_P D classes (wf st) T.heap
      rw [hT]; exact (gF.P I)
    · show tX (va_A (wf st) H.size) (T.setVm vm₁) T.heap
      rw [hT]
      exact ((tx.kept I.2.2.2.1).warm (U := T.setVm vm₁) hW1).narrow (fun q _ h => gF.free hA I q h)
  have hcodeU := hgood _ List.mem_cons_self (Value.ref b :: As).toArray (T.setVm vm₁) hW1
  obtain ⟨methY, cY, hmY, hcY, -, hlY, -⟩ := Cond.code_spec hnU hcodeU
  obtain ⟨kY, hkY, -⟩ := className_of_methodNamed hnU
  have hinitY : kY.init = .initialized := Cond.initialized_spec (findClass_of_methodNamed hnU) hkY (hgood _ (List.mem_cons_of_mem _ h4) (Value.ref b :: As).toArray (T.setVm vm₁) hW1)
  have hat : At (T.setVm vm₁) (F0 m pc ls rest).method c below := X₁.here
  have hsz : (F0 m pc ls rest).locals.size = c.maxLocals := hls.trans S.2.2.1.symm
  have hroom := lv_room (m := m) (pc := pc) (ls := ls) (rest := rest) hw
  have happ : (headSpec (wsOf y bytes maxL ret) rm).appliesLoose y e.platform ((T.setVm vm₁).calling (F0 m pc ls rest) mk (Value.ref b :: As).toArray) = true :=
    Spec.appliesLoose_calling (g := F0 m pc ls rest) hat hdg' hnU hkY hinitY
      (X₁.room_calling (g := F0 m pc ls rest) (R' := rm) hsz hmY hcY hR.1 (by rw [hlY]; have := hroom; show 2 * (F0 m pc ls rest).monitorRoom + (rest.map fun v => v.category).sum + (maxL + 11) + rm.locals ≤ R.locals; omega) (by rw [hrc]; exact hf.1) (by rw [hrs]; exact hf.2)) (atoms_intro fun w hw9 => hgood w hw9 _ _ hW1)
  have hfr : ((T.setVm vm₁).setTop (F0 m pc ls rest)).frames = (.java (F0 m pc ls rest) :: []) ++ below := by rw [State.frames_setTop' _ hat.top, X₁.tail]; rfl
  obtain ⟨o, s₂, hsteps, -, hend, hq⟩ := Steps.callFree (hM H.size) p X₁.admits X₁.cas X₁.clock (acts := []) hfr happ (tblind _ _ (F0 m pc ls rest) mk pre0) trivial
  have hend : Ended s₂ (.java (F0 m pc ls rest) :: below) o := by rw [hfr] at hend; exact hend
  have hheap : (((T.setVm vm₁).setTop (F0 m pc ls rest)).pushFrame (Frame.invoking mk (Value.ref b :: As).toArray)).heap = H := hT
  rcases hq with ⟨⟨⟨r, u, rfl, h, hB⟩, hz, hkp⟩, L, ⟨-, hW2, hsm⟩, hL⟩ | ⟨q, E, ce, u, L, rfl, hX, hB, ⟨hz, hkp⟩, hce, hcv, hcl, hW2, hsm, hL⟩
  · obtain ⟨T', X', hW3, -, ht⟩ := X₁.outOf (g := F0 m pc ls rest) rfl hdg' hend hW2 hsm
    have hT' : T'.heap = s₂.heap := by rw [ht]; simp [State.setTop, State.modifyTopJava]
    rw [hheap] at hz hkp
    have hj := ap_join I.1 I.2.1 hkp (gF.free hA I) hB.1 hB.2.2
    obtain ⟨t, a1, b1⟩ := kk r u s₂.heap (locs ++ L) h ⟨hj.1, hj.2, Nat.le_trans I.2.2.1 hz, fun q h1 h2 => by rw [hkp q (Nat.lt_of_lt_of_le h1 I.2.2.1) (fun z => h2 (gF.free hA I q z))]; exact I.2.2.2.1 q h1 h2, fun q hq => by
      rcases List.mem_append.mp hq with h9 | h9
      · exact I.2.2.2.2 q h9
      · exact gF.free hA I _ (hL q h9)⟩ T' hT' X'
    exact ⟨t, hstep₁ _ (fun acts => by rw [doInvoke_state]; exact hsteps.trans (by rw [ht]; exact a1)), b1⟩
  · obtain ⟨T', X', hW3, -, ht⟩ := X₁.outOfThrown (g := F0 m pc ls rest) rfl hend hW2 hsm
    have hT' : T'.heap = s₂.heap := by rw [ht]; simp [State.pushFrame, State.setFrames, State.setTop, State.modifyTopJava]
    rw [hheap] at hz hkp
    have hj := ap_join I.1 I.2.1 hkp (gF.free hA I) hB.1 hB.2.2
    have hcl' : s.vm.findClass E = some ce.cls := by rw [← hW1.alike.findClass]; exact hcl
    obtain ⟨t, a1, b1⟩ := kx E u q ce s₂.heap (locs ++ L) hX ⟨hj.1, hj.2, Nat.le_trans I.2.2.1 hz, fun q h1 h2 => by rw [hkp q (Nat.lt_of_lt_of_le h1 I.2.2.1) (fun z => h2 (gF.free hA I q z))]; exact I.2.2.2.1 q h1 h2, fun q hq => by
      rcases List.mem_append.mp hq with h9 | h9
      · exact I.2.2.2.2 q h9
      · exact gF.free hA I _ (hL q h9)⟩ hce hcv hcl' T' hT' X'
    exact ⟨t, hstep₁ _ (fun acts => by rw [doInvoke_state]; exact hsteps.trans (by rw [ht]; exact a1)), b1⟩
end FW
