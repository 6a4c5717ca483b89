theorem sw_cases (x : Int32) (hi : Nat) (hh : hi < 2147483647) : x.toInt < 0 ∨ (hi : Int) < x.toInt ∨ ∃ j : Nat, j ≤ hi ∧ x = nI j := by
  by_cases h1 : x.toInt < 0
  · exact Or.inl h1
  · by_cases h2 : (hi : Int) < x.toInt
    · exact Or.inr (Or.inl h2)
    · refine Or.inr (Or.inr ⟨x.toInt.toNat, by omega, ?_⟩)
      apply Int32.toInt_inj.mp
      rw [nI_toInt (by omega)]
      omega
section GW
variable {σ τ : Type}
/-- the tables: classes, array classes, and the one private method of a nest mate that is called -/
def nestW : Cond := .methodLinkNest "GroundReach$Automaton" 44 ⟨"GroundReach", "isState", "(I)Z"⟩ "GroundReach"
def gK (D : va_G) (ty : List (ClassId × FieldType)) (U : State) : Prop := va_K D classes ty U ∧ va_Nw nestW U
theorem gK.moved {D : va_G} {ty : List (ClassId × FieldType)} {s U : State} (hW : s.WarmedH U.vm) (h : gK D ty s) : gK D ty U := ⟨va_K.moved hW.alike h.1, va_Nw.warmM hW h.2⟩
theorem gK.calling {D : va_G} {ty : List (ClassId × FieldType)} {U : State} (g : JFrame) (mk : MethodId) (a : Array Value) (h : gK D ty U) : gK D ty (U.calling g mk a) := ⟨va_K.moved (u := U) (U := U.calling g mk a) (Vm.Alike.refl U.vm) h.1, va_Nw.same (u := U) (U := U.calling g mk a) rfl rfl h.2⟩
/-- where a walk stands: the world holds the state, apart, in A; nothing else has changed -/
def gIn (D : va_G) (A : Nat → Prop) (s : State) (wf : σ → va_W) (st : σ) (H : Heap) (locs : List Loc) : Prop := va_P D classes (wf st) H ∧ va_D A (wf st) ∧ va_S A s.heap H locs
def gPre (D : va_G) (ty : List (ClassId × FieldType)) (wf : σ → va_W) (st : σ) (sz : Nat) (av : List Value) : Array Value → State → Prop := va_Pc av (fun U => U.heap.size = sz ∧ va_P D classes (wf st) U.heap ∧ gK D ty U ∧ va_D (fun _ => True) (wf st))
def gAt (D : va_G) (ty : List (ClassId × FieldType)) (A : Nat → Prop) (wf : σ → va_W) (st : σ) (t : State) : Prop := va_P D classes (wf st) t.heap ∧ gK D ty t ∧ va_D A (wf st)
def rPre (D : va_G) (ty : List (ClassId × FieldType)) (wf : σ → va_W) (st : σ) (av : List Value) : Array Value → State → Prop := va_Pc av (fun U => va_P D classes (wf st) U.heap ∧ gK D ty U)
def rwI (l : Launch) (y : MethodName) (ws : List Cond) (rm : Room) (D : va_G) (ty : List (ClassId × FieldType)) (wf : σ → va_W) (av : List Value) (st : σ) (F : τ → σ) (Q : Int32 → τ → Prop) : Prop :=
  ∀ sz, Met l y ws rm (gPre D ty wf st sz av) (va_Qi Q (fun u t => gAt D ty (va_A (wf st) sz) wf (F u) t) (va_A (wf st) sz)) 0 0 (va_A (wf st) sz)
def rwV (l : Launch) (y : MethodName) (ws : List Cond) (rm : Room) (D : va_G) (ty : List (ClassId × FieldType)) (wf : σ → va_W) (av : List Value) (st : σ) (F : τ → σ) (Q : τ → Prop) : Prop :=
  ∀ sz, Met l y ws rm (gPre D ty wf st sz av) (va_Qv Q (fun u t => gAt D ty (va_A (wf st) sz) wf (F u) t) (va_A (wf st) sz)) 0 0 (va_A (wf st) sz)
def roI (l : Launch) (y : MethodName) (ws : List Cond) (rm : Room) (D : va_G) (ty : List (ClassId × FieldType)) (wf : σ → va_W) (av : List Value) (st : σ) (Q : Int32 → Prop) : Prop := Met l y ws rm (rPre D ty wf st av) (vp_Si Q) 0 0 (fun _ => False)
def roL (l : Launch) (y : MethodName) (ws : List Cond) (rm : Room) (D : va_G) (ty : List (ClassId × FieldType)) (wf : σ → va_W) (av : List Value) (st : σ) (Q : Int64 → Prop) : Prop := Met l y ws rm (rPre D ty wf st av) (vp_Sl Q) 0 0 (fun _ => False)
abbrev qI (D : va_G) (ty : List (ClassId × FieldType)) (A : Nat → Prop) (wf : σ → va_W) (F : τ → σ) (Q : Int32 → τ → Prop) (below : List Frame) (args : Array Value) (s : State) : State → Prop := MQ below (va_Qi Q (fun u t => gAt D ty A wf (F u) t) A) args s 0 0 A
abbrev qV (D : va_G) (ty : List (ClassId × FieldType)) (A : Nat → Prop) (wf : σ → va_W) (F : τ → σ) (Q : τ → Prop) (below : List Frame) (args : Array Value) (s : State) : State → Prop := MQ below (va_Qv Q (fun u t => gAt D ty A wf (F u) t) A) args s 0 0 A
abbrev qRI (Q : Int32 → Prop) (below : List Frame) (args : Array Value) (s : State) : State → Prop := MQ below (vp_Si Q) args s 0 0 (fun _ => False)
abbrev qRL (Q : Int64 → Prop) (below : List Frame) (args : Array Value) (s : State) : State → Prop := MQ below (vp_Sl Q) args s 0 0 (fun _ => False)
theorem rwI_of {l : Launch} {y : MethodName} {cc : ByteArray} {nL : Nat} {ret : Option FieldType} {rm : Room} {D : va_G} {ty : List (ClassId × FieldType)} {wf : σ → va_W} {av : List Value} {st : σ} {F : τ → σ} {Q : Int32 → τ → Prop} (hy : plainName y.cls = true) (hlen : (lg_sl av).length ≤ nL)
    (body : ∀ (p : Program) (e : Env) (s : State) (m : MethodId) (below : List Frame) (meth : Method) (c : Code), CallFix p m c cc nL s av.toArray gtbl y.cls → meth.sig.returnType = ret → meth.locks = false → gK D ty s → ∀ A : Nat → Prop, (∀ q : Nat, s.heap.size ≤ q → A q) → gIn D A s wf st s.heap [] →
      ∀ ls : Array Slot, lv_has ls nL (lv_args 0 av) → W p l e rm s m av.toArray below meth c s.heap [] 0 0 (qI D ty A wf F Q below av.toArray s) (F0 m 0 ls [])) : rwI l y (wsOf y cc nL ret) rm D ty wf av st F Q := by
  intro sz
  refine Met.ofW (cc := cc) (maxL := nL) (ret := ret) hy rfl ?_
  intro p e s m args below meth c s₁ B hml hv
  obtain ⟨rfl, hsz, hP, hK, hD0⟩ := hv
  have hts := atoms_spec (ws := wsOf y cc nL ret) B.pre
  have hl := lv_entry av (n := nL) hlen
  rw [lg_entry_eq]
  generalize (lg_sl av ++ List.replicate (nL - (lg_sl av).length) Slot.unset).toArray = ls at hl ⊢
  subst hsz
  exact body p e s m below meth c ⟨B.exec, B.bytes, hml, findClass_of_methodNamed B.named, fun w hw => hts w (List.mem_cons_of_mem _ hw)⟩ B.returns B.notSynchronized hK _ (fun q h => Or.inr h) ⟨hP, hD0.self, va_S.rf⟩ ls hl
theorem rwV_of {l : Launch} {y : MethodName} {cc : ByteArray} {nL : Nat} {ret : Option FieldType} {rm : Room} {D : va_G} {ty : List (ClassId × FieldType)} {wf : σ → va_W} {av : List Value} {st : σ} {F : τ → σ} {Q : τ → Prop} (hy : plainName y.cls = true) (hlen : (lg_sl av).length ≤ nL)
    (body : ∀ (p : Program) (e : Env) (s : State) (m : MethodId) (below : List Frame) (meth : Method) (c : Code), CallFix p m c cc nL s av.toArray gtbl y.cls → meth.sig.returnType = ret → meth.locks = false → gK D ty s → ∀ A : Nat → Prop, (∀ q : Nat, s.heap.size ≤ q → A q) → gIn D A s wf st s.heap [] →
      ∀ ls : Array Slot, lv_has ls nL (lv_args 0 av) → W p l e rm s m av.toArray below meth c s.heap [] 0 0 (qV D ty A wf F Q below av.toArray s) (F0 m 0 ls [])) : rwV l y (wsOf y cc nL ret) rm D ty wf av st F Q := by
  intro sz
  refine Met.ofW (cc := cc) (maxL := nL) (ret := ret) hy rfl ?_
  intro p e s m args below meth c s₁ B hml hv
  obtain ⟨rfl, hsz, hP, hK, hD0⟩ := hv
  have hts := atoms_spec (ws := wsOf y cc nL ret) B.pre
  have hl := lv_entry av (n := nL) hlen
  rw [lg_entry_eq]
  generalize (lg_sl av ++ List.replicate (nL - (lg_sl av).length) Slot.unset).toArray = ls at hl ⊢
  subst hsz
  exact body p e s m below meth c ⟨B.exec, B.bytes, hml, findClass_of_methodNamed B.named, fun w hw => hts w (List.mem_cons_of_mem _ hw)⟩ B.returns B.notSynchronized hK _ (fun q h => Or.inr h) ⟨hP, hD0.self, va_S.rf⟩ ls hl
theorem roI_of {l : Launch} {y : MethodName} {cc : ByteArray} {nL : Nat} {ret : Option FieldType} {rm : Room} {D : va_G} {ty : List (ClassId × FieldType)} {wf : σ → va_W} {av : List Value} {st : σ} {Q : Int32 → Prop} (hy : plainName y.cls = true) (hlen : (lg_sl av).length ≤ nL)
    (body : ∀ (p : Program) (e : Env) (s : State) (m : MethodId) (below : List Frame) (meth : Method) (c : Code), CallFix p m c cc nL s av.toArray gtbl y.cls → meth.sig.returnType = ret → meth.locks = false → gK D ty s → va_P D classes (wf st) s.heap →
      ∀ ls : Array Slot, lv_has ls nL (lv_args 0 av) → W p l e rm s m av.toArray below meth c s.heap [] 0 0 (qRI Q below av.toArray s) (F0 m 0 ls [])) : roI l y (wsOf y cc nL ret) rm D ty wf av st Q := by
  refine Met.ofW (cc := cc) (maxL := nL) (ret := ret) hy rfl ?_
  intro p e s m args below meth c s₁ B hml hv
  obtain ⟨rfl, hP, hK⟩ := hv
  have hts := atoms_spec (ws := wsOf y cc nL ret) B.pre
  have hl := lv_entry av (n := nL) hlen
  rw [lg_entry_eq]
  generalize (lg_sl av ++ List.replicate (nL - (lg_sl av).length) Slot.unset).toArray = ls at hl ⊢
  exact body p e s m below meth c ⟨B.exec, B.bytes, hml, findClass_of_methodNamed B.named, fun w hw => hts w (List.mem_cons_of_mem _ hw)⟩ B.returns B.notSynchronized hK hP ls hl
theorem roL_of {l : Launch} {y : MethodName} {cc : ByteArray} {nL : Nat} {ret : Option FieldType} {rm : Room} {D : va_G} {ty : List (ClassId × FieldType)} {wf : σ → va_W} {av : List Value} {st : σ} {Q : Int64 → Prop} (hy : plainName y.cls = true) (hlen : (lg_sl av).length ≤ nL)
    (body : ∀ (p : Program) (e : Env) (s : State) (m : MethodId) (below : List Frame) (meth : Method) (c : Code), CallFix p m c cc nL s av.toArray gtbl y.cls → meth.sig.returnType = ret → meth.locks = false → gK D ty s → va_P D classes (wf st) s.heap →
      ∀ ls : Array Slot, lv_has ls nL (lv_args 0 av) → W p l e rm s m av.toArray below meth c s.heap [] 0 0 (qRL Q below av.toArray s) (F0 m 0 ls [])) : roL l y (wsOf y cc nL ret) rm D ty wf av st Q := by
  refine Met.ofW (cc := cc) (maxL := nL) (ret := ret) hy rfl ?_
  intro p e s m args below meth c s₁ B hml hv
  obtain ⟨rfl, hP, hK⟩ := hv
  have hts := atoms_spec (ws := wsOf y cc nL ret) B.pre
  have hl := lv_entry av (n := nL) hlen
  rw [lg_entry_eq]
  generalize (lg_sl av ++ List.replicate (nL - (lg_sl av).length) Slot.unset).toArray = ls at hl ⊢
  exact body p e s m below meth c ⟨B.exec, B.bytes, hml, findClass_of_methodNamed B.named, fun w hw => hts w (List.mem_cons_of_mem _ hw)⟩ B.returns B.notSynchronized hK hP ls hl
variable {p : Program} {l : Launch} {e : Env} {R : Room} {s : State} {m : MethodId} {args : Array Value} {below : List Frame} {meth : Method} {c : Code} {H : Heap} {locs : List Loc} {Q : State → Prop} {cc : ByteArray} {nL pc : Nat} {ls : Array Slot} {own : String} {D : va_G} {ty : List (ClassId × FieldType)} {A : Nat → Prop} {wf : σ → va_W} {st : σ} {F : τ → σ}
theorem ret_rwi {u : τ} {v : Int32} {Q0 : Int32 → τ → Prop} {Ts : List Cond} (S : CallFix p m c cc nL s args Ts own) (hr : meth.sig.returnType = some .int) (hlk : meth.locks = false) (hK : gK D ty s) (I : gIn D A s wf (F u) H locs) (h : Q0 v u) (d : decode cc pc = .ok (.ireturn, 1)) : W p l e R s m args below meth c H locs 0 0 (qI D ty A wf F Q0 below args s) (F0 m pc ls [.int v]) :=
  W.iret S.1 S.2.1 hr (fun t ht hW => ⟨⟨v, u, rfl, h, by rw [ht]; exact I.1, hK.moved hW, I.2.1⟩, I.2.2.F ht⟩) I.2.2.2.2 d hlk
theorem ret_rwz {u : τ} {v : Int32} {Q0 : Int32 → τ → Prop} {Ts : List Cond} (S : CallFix p m c cc nL s args Ts own) (hr : meth.sig.returnType = some .boolean) (hlk : meth.locks = false) (hK : gK D ty s) (hn : narrow .boolean (.int v) = .int v) (I : gIn D A s wf (F u) H locs) (h : Q0 v u) (d : decode cc pc = .ok (.ireturn, 1)) : W p l e R s m args below meth c H locs 0 0 (qI D ty A wf F Q0 below args s) (F0 m pc ls [.int v]) :=
  W.zret S.1 S.2.1 hr hn (fun t ht hW => ⟨⟨v, u, rfl, h, by rw [ht]; exact I.1, hK.moved hW, I.2.1⟩, I.2.2.F ht⟩) I.2.2.2.2 d hlk
theorem ret_rwv {u : τ} {Q0 : τ → Prop} {Ts : List Cond} (S : CallFix p m c cc nL s args Ts own) (hr : meth.sig.returnType = none) (hlk : meth.locks = false) (hK : gK D ty s) (I : gIn D A s wf (F u) H locs) (h : Q0 u) (d : decode cc pc = .ok (.return_, 1)) : W p l e R s m args below meth c H locs 0 0 (qV D ty A wf F Q0 below args s) (F0 m pc ls []) :=
  W.vret S.1 S.2.1 hr (fun t ht hW => ⟨⟨u, rfl, h, by rw [ht]; exact I.1, hK.moved hW, I.2.1⟩, I.2.2.F ht⟩) I.2.2.2.2 d hlk
theorem ret_roi {v : Int32} {Q0 : Int32 → Prop} {Ts : List Cond} (S : CallFix p m c cc nL s args Ts own) (hr : meth.sig.returnType = some .int) (hlk : meth.locks = false) (h : Q0 v) (d : decode cc pc = .ok (.ireturn, 1)) : W p l e R s m args below meth c s.heap [] 0 0 (qRI Q0 below args s) (F0 m pc ls [.int v]) :=
  W.iret S.1 S.2.1 hr (fun t ht hW => ⟨v, rfl, h, ht⟩) (fun _ h => by cases h) d hlk
theorem ret_roz {v : Int32} {Q0 : Int32 → Prop} {Ts : List Cond} (S : CallFix p m c cc nL s args Ts own) (hr : meth.sig.returnType = some .boolean) (hlk : meth.locks = false) (hn : narrow .boolean (.int v) = .int v) (h : Q0 v) (d : decode cc pc = .ok (.ireturn, 1)) : W p l e R s m args below meth c s.heap [] 0 0 (qRI Q0 below args s) (F0 m pc ls [.int v]) :=
  W.zret S.1 S.2.1 hr hn (fun t ht hW => ⟨v, rfl, h, ht⟩) (fun _ h => by cases h) d hlk
theorem ret_rol {v : Int64} {Q0 : Int64 → Prop} {Ts : List Cond} (S : CallFix p m c cc nL s args Ts own) (hr : meth.sig.returnType = some .long) (hlk : meth.locks = false) (h : Q0 v) (d : decode cc pc = .ok (.lreturn, 1)) : W p l e R s m args below meth c s.heap [] 0 0 (qRL Q0 below args s) (F0 m pc ls [.long v]) :=
  W.lret S.1 S.2.1 hr (fun t ht hW => ⟨v, rfl, h, ht⟩) (fun _ h => by cases h) d hlk
variable {cells slots index n maxL : Nat} {y : MethodName} {bytes : ByteArray} {ret : Option FieldType} {rm : Room} {ws : List Cond} {b : Addr} {As rest st0 : List Value}
theorem gblind {sz : Nat} {av : List Value} : FrameBlind (gPre D ty wf st sz av) := fun a U g mk q => by
  obtain ⟨q0, q1, qP, qK, qD⟩ := q
  exact ⟨q0, q1, qP, gK.calling g mk a qK, qD⟩
theorem rblind {av : List Value} : FrameBlind (rPre D ty wf st av) := fun a U g mk q => by
  obtain ⟨q0, qP, qK⟩ := q
  exact ⟨q0, qP, gK.calling g mk a qK⟩
theorem gfree (hA : ∀ q : Nat, s.heap.size ≤ q → A q) (I : gIn D A s wf st H locs) : ∀ q, va_A (wf st) H.size q → A q := by
  intro q h
  rcases h with ⟨k, e9, h⟩ | h
  · exact I.2.1.2 k _ h
  · exact hA q (Nat.le_trans I.2.2.1 h)
theorem callV_roi {Q0 : Int32 → Prop} (S : CallFix p m c cc nL s args gtbl own) (hM : roI l y ws rm D ty wf (.ref b :: As) st Q0) (cw : CallW R s args own y.cls index y bytes maxL ret ws rm 0 0 n) (hv : ∃ cellB : Cell, H[b]? = some cellB ∧ cellB.vm.isStatics = false ∧ s.vm.findClass y.cls = some cellB.cls) (hK : gK D ty s) (hP : va_P D classes (wf st) H) (hls : ls.size = nL) (hn : As.length = n) (hst : st0 = As.reverse ++ .ref b :: rest) (hw : (rest.map fun v => v.category).sum ≤ 8) (hdg : decode cc pc = .ok (.invokevirtual index, 3)) (hf : cells ≤ R.cells ∧ slots ≤ R.slots)
    (kk : ∀ r : Int32, Q0 r → W p l e R s m args below meth c H locs cells slots Q (F0 m (pc + 3) ls (.int r :: rest))) : W p l e R s m args below meth c H locs cells slots Q (F0 m pc ls st0) :=
  vp_callSi (va_runV S hM cw ⟨rblind, hv, fun U hU hW => ⟨rfl, by rw [hU]; exact hP, hK.moved hW⟩⟩ rfl hn hls hst (lv_room hw) hdg hf).run kk
theorem callV_rol {Q0 : Int64 → Prop} (S : CallFix p m c cc nL s args gtbl own) (hM : roL l y ws rm D ty wf (.ref b :: As) st Q0) (cw : CallW R s args own y.cls index y bytes maxL ret ws rm 0 0 n) (hv : ∃ cellB : Cell, H[b]? = some cellB ∧ cellB.vm.isStatics = false ∧ s.vm.findClass y.cls = some cellB.cls) (hK : gK D ty s) (hP : va_P D classes (wf st) H) (hls : ls.size = nL) (hn : As.length = n) (hst : st0 = As.reverse ++ .ref b :: rest) (hw : (rest.map fun v => v.category).sum ≤ 8) (hdg : decode cc pc = .ok (.invokevirtual index, 3)) (hf : cells ≤ R.cells ∧ slots ≤ R.slots)
    (kk : ∀ r : Int64, Q0 r → W p l e R s m args below meth c H locs cells slots Q (F0 m (pc + 3) ls (.long r :: rest))) : W p l e R s m args below meth c H locs cells slots Q (F0 m pc ls st0) :=
  vp_callSl (va_runV S hM cw ⟨rblind, hv, fun U hU hW => ⟨rfl, by rw [hU]; exact hP, hK.moved hW⟩⟩ rfl hn hls hst (lv_room hw) hdg hf).run kk
theorem callS_roi {Q0 : Int32 → Prop} (S : CallFix p m c cc nL s args gtbl own) (hM : roI l y ws rm D ty wf As st Q0) (cw : CallB R s args own index y bytes maxL ret ws rm 0 0 n ∧ (Cond.static y).before args s = true) (hK : gK D ty s) (hP : va_P D classes (wf st) H) (hls : ls.size = nL) (hn : As.length = n) (hst : st0 = As.reverse ++ rest) (hw : (rest.map fun v => v.category).sum ≤ 8) (hdg : decode cc pc = .ok (.invokestatic index, 3)) (hf : cells ≤ R.cells ∧ slots ≤ R.slots)
    (kk : ∀ r : Int32, Q0 r → W p l e R s m args below meth c H locs cells slots Q (F0 m (pc + 3) ls (.int r :: rest))) : W p l e R s m args below meth c H locs cells slots Q (F0 m pc ls st0) :=
  vp_callSi (va_runS S hM cw ⟨rblind, fun U hU hW => ⟨rfl, by rw [hU]; exact hP, hK.moved hW⟩⟩ rfl hn hls hst (lv_room hw) hdg hf).run kk
theorem callV_rwi {Q0 : Int32 → τ → Prop} (S : CallFix p m c cc nL s args gtbl own) (hM : rwI l y ws rm D ty wf (.ref b :: As) st F Q0) (cw : CallW R s args own y.cls index y bytes maxL ret ws rm 0 0 n) (hv : ∃ cellB : Cell, H[b]? = some cellB ∧ cellB.vm.isStatics = false ∧ s.vm.findClass y.cls = some cellB.cls) (hK : gK D ty s) (hA : ∀ q : Nat, s.heap.size ≤ q → A q) (I : gIn D A s wf st H locs) (hls : ls.size = nL) (hn : As.length = n) (hst : st0 = As.reverse ++ .ref b :: rest) (hw : (rest.map fun v => v.category).sum ≤ 8) (hdg : decode cc pc = .ok (.invokevirtual index, 3)) (hf : cells ≤ R.cells ∧ slots ≤ R.slots)
    (kk : ∀ (r : Int32) (u : τ) (H1 : Heap) (locs1 : List Loc), Q0 r u → gIn D A s wf (F u) H1 locs1 → W p l e R s m args below meth c H1 locs1 cells slots Q (F0 m (pc + 3) ls (.int r :: rest))) : W p l e R s m args below meth c H locs cells slots Q (F0 m pc ls st0) :=
  va_calli (va_runV S (hM H.size) cw ⟨gblind, hv, fun U hU hW => ⟨rfl, by rw [hU], by rw [hU]; exact I.1, hK.moved hW, I.2.1.weaken (fun _ _ _ _ => trivial)⟩⟩ rfl hn hls hst (lv_room hw) hdg hf) I.2.2 (fun q _ h => gfree hA I q h) (gfree hA I) (fun r u t H1 locs1 ht hvm h hB hz hk hS => kk r u H1 locs1 h ⟨by rw [← ht]; exact hB.1, hB.2.2.weaken (fun _ q _ h9 => gfree hA I q.1 h9), hS⟩)
theorem callV_rwv {Q0 : τ → Prop} (S : CallFix p m c cc nL s args gtbl own) (hM : rwV l y ws rm D ty wf (.ref b :: As) st F Q0) (cw : CallW R s args own y.cls index y bytes maxL ret ws rm 0 0 n) (hv : ∃ cellB : Cell, H[b]? = some cellB ∧ cellB.vm.isStatics = false ∧ s.vm.findClass y.cls = some cellB.cls) (hK : gK D ty s) (hA : ∀ q : Nat, s.heap.size ≤ q → A q) (I : gIn D A s wf st H locs) (hls : ls.size = nL) (hn : As.length = n) (hst : st0 = As.reverse ++ .ref b :: rest) (hw : (rest.map fun v => v.category).sum ≤ 8) (hdg : decode cc pc = .ok (.invokevirtual index, 3)) (hf : cells ≤ R.cells ∧ slots ≤ R.slots)
    (kk : ∀ (u : τ) (H1 : Heap) (locs1 : List Loc), Q0 u → gIn D A s wf (F u) H1 locs1 → W p l e R s m args below meth c H1 locs1 cells slots Q (F0 m (pc + 3) ls rest)) : W p l e R s m args below meth c H locs cells slots Q (F0 m pc ls st0) :=
  va_callv (va_runV S (hM H.size) cw ⟨gblind, hv, fun U hU hW => ⟨rfl, by rw [hU], by rw [hU]; exact I.1, hK.moved hW, I.2.1.weaken (fun _ _ _ _ => trivial)⟩⟩ rfl hn hls hst (lv_room hw) hdg hf) I.2.2 (fun q _ h => gfree hA I q h) (gfree hA I) (fun u t H1 locs1 ht hvm h hB hz hk hS => kk u H1 locs1 h ⟨by rw [← ht]; exact hB.1, hB.2.2.weaken (fun _ q _ h9 => gfree hA I q.1 h9), hS⟩)
theorem callS_rwv {Q0 : τ → Prop} (S : CallFix p m c cc nL s args gtbl own) (hM : rwV l y ws rm D ty wf As st F Q0) (cw : CallB R s args own index y bytes maxL ret ws rm 0 0 n ∧ (Cond.static y).before args s = true) (hK : gK D ty s) (hA : ∀ q : Nat, s.heap.size ≤ q → A q) (I : gIn D A s wf st H locs) (hls : ls.size = nL) (hn : As.length = n) (hst : st0 = As.reverse ++ rest) (hw : (rest.map fun v => v.category).sum ≤ 8) (hdg : decode cc pc = .ok (.invokestatic index, 3)) (hf : cells ≤ R.cells ∧ slots ≤ R.slots)
    (kk : ∀ (u : τ) (H1 : Heap) (locs1 : List Loc), Q0 u → gIn D A s wf (F u) H1 locs1 → W p l e R s m args below meth c H1 locs1 cells slots Q (F0 m (pc + 3) ls rest)) : W p l e R s m args below meth c H locs cells slots Q (F0 m pc ls st0) :=
  va_callv (va_runS S (hM H.size) cw ⟨gblind, fun U hU hW => ⟨rfl, by rw [hU], by rw [hU]; exact I.1, hK.moved hW, I.2.1.weaken (fun _ _ _ _ => trivial)⟩⟩ rfl hn hls hst (lv_room hw) hdg hf) I.2.2 (fun q _ h => gfree hA I q h) (gfree hA I) (fun u t H1 locs1 ht hvm h hB hz hk hS => kk u H1 locs1 h ⟨by rw [← ht]; exact hB.1, hB.2.2.weaken (fun _ q _ h9 => gfree hA I q.1 h9), hS⟩)
theorem callS_rwi {Q0 : Int32 → τ → Prop} (S : CallFix p m c cc nL s args gtbl own) (hM : rwI l y ws rm D ty wf As st F Q0) (cw : CallB R s args own index y bytes maxL ret ws rm 0 0 n ∧ (Cond.static y).before args s = true) (hK : gK D ty s) (hA : ∀ q : Nat, s.heap.size ≤ q → A q) (I : gIn D A s wf st H locs) (hls : ls.size = nL) (hn : As.length = n) (hst : st0 = As.reverse ++ rest) (hw : (rest.map fun v => v.category).sum ≤ 8) (hdg : decode cc pc = .ok (.invokestatic index, 3)) (hf : cells ≤ R.cells ∧ slots ≤ R.slots)
    (kk : ∀ (r : Int32) (u : τ) (H1 : Heap) (locs1 : List Loc), Q0 r u → gIn D A s wf (F u) H1 locs1 → W p l e R s m args below meth c H1 locs1 cells slots Q (F0 m (pc + 3) ls (.int r :: rest))) : W p l e R s m args below meth c H locs cells slots Q (F0 m pc ls st0) :=
  va_calli (va_runS S (hM H.size) cw ⟨gblind, fun U hU hW => ⟨rfl, by rw [hU], by rw [hU]; exact I.1, hK.moved hW, I.2.1.weaken (fun _ _ _ _ => trivial)⟩⟩ rfl hn hls hst (lv_room hw) hdg hf) I.2.2 (fun q _ h => gfree hA I q h) (gfree hA I) (fun r u t H1 locs1 ht hvm h hB hz hk hS => kk r u H1 locs1 h ⟨by rw [← ht]; exact hB.1, hB.2.2.weaken (fun _ q _ h9 => gfree hA I q.1 h9), hS⟩)
theorem callSN_roi {host : String} {Q0 : Int32 → Prop} (S : CallFix p m c cc nL s args gtbl own) (hM : roI l y ws rm D ty wf As st Q0) (cw : va_CN R s args own index y host bytes maxL ret ws rm 0 0 n ∧ (Cond.static y).before args s = true ∧ True) (hK : gK D ty s) (hP : va_P D classes (wf st) H) (hls : ls.size = nL) (hn : As.length = n) (hst : st0 = As.reverse ++ rest) (hw : (rest.map fun v => v.category).sum ≤ 8) (hdg : decode cc pc = .ok (.invokestatic index, 3)) (hf : cells ≤ R.cells ∧ slots ≤ R.slots)
    (kk : ∀ r : Int32, Q0 r → W p l e R s m args below meth c H locs cells slots Q (F0 m (pc + 3) ls (.int r :: rest))) : W p l e R s m args below meth c H locs cells slots Q (F0 m pc ls st0) :=
  vp_callSi (va_runSN S hM cw ⟨rblind, fun U hU hW => ⟨rfl, by rw [hU]; exact hP, hK.moved hW⟩⟩ rfl hn hls hst (lv_room hw) hdg hf).run kk
end GW
theorem mkSN {R : Room} {s : State} {args : Array Value} {own host : String} {index : Nat} {y : MethodName} {b : ByteArray} {n k : Nat} {r : Option FieldType} {rm : Room} (hts : ∀ w ∈ gtbl, w.before args s = true) (hl : va_Nw (.methodLinkNest own index y host) s) (hk : kS y b n r k) (hrc : rm.cells = 0) (hrs : rm.slots = 0) (hR : rm.frames + 1 ≤ R.frames ∧ 8 + (n + 11) + rm.locals ≤ R.locals) : va_CN R s args own index y host b n r (wsOf y b n r) rm 0 0 k ∧ (Cond.static y).before args s = true ∧ True := by
  obtain ⟨h2, h4, h5, h6⟩ := hk
  exact ⟨va_cnB k hts (wsOf_good h5) rfl hrc hrs hl (hts _ h4) h6 hR, hts _ h2, trivial⟩
