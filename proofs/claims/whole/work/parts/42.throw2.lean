/-! contracts of methods that return or throw; the throw itself -/
section TW
variable {σ τ : Type}
/-- it has thrown an object of the class E: the world holds F u, nothing else has changed -/
def tEnd (D : va_G) (ty : List (ClassId × FieldType)) (A : Nat → Prop) (wf : σ → va_W) (F : τ → σ) (X : String → τ → Prop) (s : State) (o : Outcome) (t : State) : Prop :=
  ∃ (q : Addr) (E : String) (ce : Cell) (u : τ) (L : List Loc), o = .threw q ∧ X E u ∧ gAt D ty A wf (F u) t ∧ va_F A s t ∧ t.heap[q]? = some ce ∧ ce.vm = .none ∧ s.vm.findClass E = some ce.cls ∧ s.WarmedH t.vm ∧ s.sameButNew ({ t with vm := s.vm } : State) L 1 6 ∧ ∀ z ∈ L, A z.base
def tQ (D : va_G) (ty : List (ClassId × FieldType)) (A : Nat → Prop) (wf : σ → va_W) (F : τ → σ) (Q : Int32 → τ → Prop) (X : String → τ → Prop) : Array Value → State → Outcome → State → Prop := fun a s o t =>
  (va_Qi Q (fun u t => gAt D ty A wf (F u) t) A a s o t ∧ ∃ L, FrameEnd s o t L 1 6 ∧ ∀ q ∈ L, A q.base) ∨ tEnd D ty A wf F X s o t
def tMQ (D : va_G) (ty : List (ClassId × FieldType)) (A : Nat → Prop) (wf : σ → va_W) (F : τ → σ) (Q : Int32 → τ → Prop) (X : String → τ → Prop) (below : List Frame) (args : Array Value) (s : State) : State → Prop := fun t =>
  ∃ o, t.status = .running ∧ Ended t below o ∧ tQ D ty A wf F Q X args s o t
def tPre (D : va_G) (ty : List (ClassId × FieldType)) (wf : σ → va_W) (st : σ) (sz : Nat) (av : List Value) : Array Value → State → Prop := va_Pc av (fun U => U.heap.size = sz ∧ va_P D classes (wf st) U.heap ∧ gK D ty U ∧ va_D (fun _ => True) (wf st) ∧ tX (va_A (wf st) sz) U U.heap)
def twI (l : Launch) (y : MethodName) (ws : List Cond) (rm : Room) (D : va_G) (ty : List (ClassId × FieldType)) (wf : σ → va_W) (av : List Value) (st : σ) (F : τ → σ) (Q : Int32 → τ → Prop) (X : String → τ → Prop) : Prop :=
  ∀ sz, MetFree l y (headSpec ws rm) (tPre D ty wf st sz av) (fun _ _ _ _ _ => True) (tQ D ty (va_A (wf st) sz) wf F Q X)
theorem twI_of {l : Launch} {y : MethodName} {cc : ByteArray} {nL : Nat} {ret : Option FieldType} {rm : Room} {D : va_G} {ty : List (ClassId × FieldType)} {wf : σ → va_W} {av : List Value} {st : σ} {F : τ → σ} {Q : Int32 → τ → Prop} {X : String → τ → Prop} (hy : plainName y.cls = true) (hlen : (lg_sl av).length ≤ nL)
    (body : ∀ (p : Program) (e : Env) (s : State) (m : MethodId) (below : List Frame) (meth : Method) (c : Code), CallFix p m c cc nL s av.toArray gtbl y.cls → meth.sig.returnType = ret → meth.locks = false → c.exceptionTable.toList = [] → gK D ty s → ∀ A : Nat → Prop, (∀ q : Nat, s.heap.size ≤ q → A q) → tX A s s.heap → gIn D A s wf st s.heap [] →
      ∀ ls : Array Slot, lv_has ls nL (lv_args 0 av) → W p l e rm s m av.toArray below meth c s.heap [] 0 0 (tMQ D ty A wf F Q X below av.toArray s) (F0 m 0 ls [])) : twI l y (wsOf y cc nL ret) rm D ty wf av st F Q X := by
  intro sz
  refine MetFree.of_bodyS (code := cc) (maxLocals := nL) (ret := ret) hy ?_ ?_
  · intro args s m h hn
    obtain ⟨meth, c, h1, h2, h3, h4, h5, h6, -, -⟩ := Cond.code_spec hn (atoms_spec (ws := wsOf y cc nL ret) h _ List.mem_cons_self)
    exact ⟨meth, c, h1, h2, h3, h4, h5, h6⟩
  · intro p e s m args below meth c s₁ B hml hv _
    obtain ⟨rfl, hsz, hP, hK, hD0, tx⟩ := hv
    have hts := atoms_spec (ws := wsOf y cc nL ret) B.pre
    have hne : c.exceptionTable.toList = [] := by
      have h9 := BodyLoose.noHandlers B (hts _ List.mem_cons_self)
      simpa using h9
    have hl := lv_entry av (n := nL) hlen
    have hh0 : s₁.heap = s.heap := by rw [B.state]; rfl
    subst hsz
    have key : W p l e rm s m av.toArray below meth c s.heap [] 0 0 (tMQ D ty (va_A (wf st) s.heap.size) wf F Q X below av.toArray s) (entryFrame m av.toArray nL) := by
      rw [lg_entry_eq]
      generalize (lg_sl av ++ List.replicate (nL - (lg_sl av).length) Slot.unset).toArray = ls at hl ⊢
      exact body p e s m below meth c ⟨B.exec, B.bytes, hml, findClass_of_methodNamed B.named, fun w hw => hts w (List.mem_cons_of_mem _ hw)⟩ B.returns B.notSynchronized hne hK _ (fun q h => Or.inr h) tx ⟨hP, hD0.self, va_S.rf⟩ ls hl
    obtain ⟨t, a1, o, b1, b2, b3⟩ := key s₁ hh0 (Stand.of_body B)
    exact ⟨t, o, a1, b1, b2, b3⟩
variable {p : Program} {l : Launch} {e : Env} {R : Room} {s : State} {m : MethodId} {args : Array Value} {below : List Frame} {meth : Method} {c : Code} {H : Heap} {locs : List Loc} {cc : ByteArray} {nL pc : Nat} {ls : Array Slot} {own : String} {D : va_G} {ty : List (ClassId × FieldType)} {A : Nat → Prop} {wf : σ → va_W} {st : σ} {F : τ → σ}
theorem tw_ret {g : JFrame} {Q0 : Int32 → τ → Prop} {X : String → τ → Prop} (k : W p l e R s m args below meth c H locs 1 6 (MQ below (va_Qi Q0 (fun u t => gAt D ty A wf (F u) t) A) args s 1 6 A) g) : W p l e R s m args below meth c H locs 0 0 (tMQ D ty A wf F Q0 X below args s) g := by
  refine W.widen (k := 1) (n := 6) (Nat.zero_le _) (Nat.zero_le _) ?_
  intro T hT Y
  obtain ⟨t, a1, o, b1, b2, b3, b4⟩ := k T hT Y
  exact ⟨t, a1, o, b1, b2, Or.inl ⟨b3, b4⟩⟩
theorem ret_twi {u : τ} {v : Int32} {Q0 : Int32 → τ → Prop} {X : String → τ → Prop} {Ts : List Cond} (S : CallFix p m c cc nL s args Ts own) (hr : meth.sig.returnType = some .int) (hlk : meth.locks = false) (hK : gK D ty s) (I : gIn D A s wf (F u) H locs) (h : Q0 v u) (d : decode cc pc = .ok (.ireturn, 1)) : W p l e R s m args below meth c H locs 0 0 (tMQ D ty A wf F Q0 X below args s) (F0 m pc ls [.int v]) :=
  tw_ret (W.iret S.1 S.2.1 hr (fun t ht hW => ⟨⟨v, u, rfl, h, by rw [ht]; exact I.1, hK.moved hW, I.2.1⟩, I.2.2.F ht⟩) I.2.2.2.2 d hlk)
theorem ret_twz {u : τ} {v : Int32} {Q0 : Int32 → τ → Prop} {X : String → τ → Prop} {Ts : List Cond} (S : CallFix p m c cc nL s args Ts own) (hr : meth.sig.returnType = some .boolean) (hlk : meth.locks = false) (hK : gK D ty s) (hn : narrow .boolean (.int v) = .int v) (I : gIn D A s wf (F u) H locs) (h : Q0 v u) (d : decode cc pc = .ok (.ireturn, 1)) : W p l e R s m args below meth c H locs 0 0 (tMQ D ty A wf F Q0 X below args s) (F0 m pc ls [.int v]) :=
  tw_ret (W.zret S.1 S.2.1 hr hn (fun t ht hW => ⟨⟨v, u, rfl, h, by rw [ht]; exact I.1, hK.moved hW, I.2.1⟩, I.2.2.F ht⟩) I.2.2.2.2 d hlk)
/-- what was there stays, bit for bit, where nothing may be written -/
theorem same_old {s U : State} {k n : Nat} (h : s.sameButNew U [] k n) : s.heap.size ≤ U.heap.size ∧ ∀ q : Nat, q < s.heap.size → U.heap[q]? = s.heap[q]? := by
  obtain ⟨-, h2, -, -, -, h6⟩ := h
  refine ⟨h2, fun q hq => ?_⟩
  obtain ⟨c', e1, e2, e3, e4⟩ := h6 q s.heap[q] (Array.getElem?_eq_getElem hq)
  have hs : c'.slots = (s.heap[q]).slots := by
    apply Array.ext_getElem?
    intro i
    exact e4 i (by simp)
  rw [e1, Array.getElem?_eq_getElem hq, e2, hs]
theorem w_throw {cls : String} {ik ic : Nat} {u : τ} {Q0 : Int32 → τ → Prop} {X : String → τ → Prop} (S : CallFix p m c cc nL s args gtbl "GroundReach") (hlt : l.stackTraces = false) (hlk : meth.locks = false) (hne : c.exceptionTable.toList = []) (hK : gK D ty s) (tx : tX A s s.heap) (hfit : Bundle.fit cls = true) (hall : xAll ic cls)
    (hcl : Cond.classLink "GroundReach" ik cls ∈ gtbl) (hini : Cond.initialized cls ∈ gtbl) (hins : Cond.instantiable cls 6 ∈ gtbl) (I : gIn D A s wf (F u) H locs) (hls : ls.size = nL) (h : X cls u)
    (d0 : decode cc pc = .ok (.new ik, 3)) (d3 : decode cc (pc + 3) = .ok (.dup, 1)) (d4 : decode cc (pc + 4) = .ok (.invokespecial ic, 3)) (d7 : decode cc (pc + 7) = .ok (.athrow, 1)) (hR : 6 ≤ R.frames ∧ 81 ≤ R.locals ∧ 1 ≤ R.cells ∧ 6 ≤ R.slots) : W p l e R s m args below meth c H locs 0 0 (tMQ D ty A wf F Q0 X below args s) (F0 m pc ls []) := by
  intro T hT Y
  have htr : e.platform.stackTraces = false := (show e.platform.stackTraces = l.stackTraces by rw [Y.admits.platform]).trans hlt
  have Z := st_base Y (R' := { frames := R.frames, cells := 1, slots := 6, locals := R.locals }) (Nat.le_refl _) (Nat.le_refl _) (by show 0 + 1 ≤ R.cells; omega) (by show 0 + 6 ≤ R.slots; omega)
  obtain ⟨s', hs'⟩ : ∃ z, z = ({ s with heap := T.heap, slotsUsed := T.slotsUsed } : State) := ⟨_, rfl⟩
  rw [← hs'] at Z
  have hvm : s'.vm = s.vm := by rw [hs']
  have hhp : s'.heap = H := by rw [hs']; exact hT
  have hW0 : s.WarmedH s'.vm := by rw [hvm]; exact State.WarmedH.refl s
  have hts' : ∀ w ∈ gtbl, w.before args s' = true := fun w hw => word_at hW0 (good_of_word (List.mem_filter.mp hw).2) (S.2.2.2.2 w hw)
  have tx' : tX A s' s'.heap := by
    rw [hhp]
    exact ((tx.kept I.2.2.2.1).same hvm.symm hW0.alike)
  have hwords := xWords hall hts' tx'
  have hown' : s'.vm.findClass "GroundReach" = some m.cls := by rw [hvm]; exact S.2.2.2.1
  have key : W p l e { frames := R.frames, cells := 1, slots := 6, locals := R.locals } s' m args below meth c H [] 0 0 (tMQ D ty A wf F Q0 X below args s) (F0 m pc ls []) := by
    refine W.newc S.1 S.2.1 (own := "GroundReach") (C := cls) (n := 6) hown' (hts' _ hcl) (hts' _ hins) (hts' _ hini) rfl d0 (Nat.le_refl _) (Nat.le_refl _) (fun cX kX hfX hkX _ _ => ?_)
    refine W.eq (g2 := F0 m (pc + 3) ls [.ref H.size]) rfl ?_
    refine lv_dup S.1 S.2.1 d3 rfl ?_
    intro T2 hT2 X2
    obtain ⟨U, st, hrun, hend, hWU, hsame, ce, hce, hoc⟩ := X2.ctorThrow0 S.1 htr hown' hfit (by decide) hwords (fun _ hx => by cases hx) (a := H.size) hfX hkX (by rw [hT2]; simp) (by rw [hhp]; exact Nat.le_refl _) (g := F0 m (pc + 3 + 1) ls [.ref H.size, .ref H.size]) rfl (hls.trans S.2.2.1.symm) rfl rfl (rest := []) rfl (by rw [S.2.1]; exact d4) (by rw [S.2.1]; exact d7) (by rw [hne]; intro x hx; cases hx) (by show 2 + 3 < R.frames; omega) (by show 0 + 1 + 80 ≤ R.locals; omega) hlk
    obtain ⟨k1, k2⟩ := same_old hsame
    have k2 : ∀ q : Nat, q < H.size → U.heap[q]? = H[q]? := fun q hq => by
      have := k2 q (by rw [hhp]; exact hq)
      rw [hhp] at this
      exact this
    have k1 : H.size ≤ U.heap.size := by rw [← hhp]; exact k1
    have hWs : s.WarmedH U.vm := by
      have := hWU
      rw [show s'.WarmedH U.vm = s.WarmedH U.vm by rw [hs']; rfl] at this
      exact this
    refine ⟨U, st, .threw H.size, hrun, hend, Or.inr ⟨H.size, cls, ce, u, locs, rfl, h, ⟨?_, hK.moved hWs, I.2.1⟩, ⟨Nat.le_trans I.2.2.1 k1, fun q h1 h2 => ?_⟩, hce, hoc.vm, ?_, hWs, ?_, I.2.2.2.2⟩⟩
    · exact I.1.kept (fun k q hk => k2 q.1 (I.1 k q hk).lt)
    · rw [k2 q (Nat.lt_of_lt_of_le h1 I.2.2.1)]
      exact I.2.2.2.1 q h1 h2
    · rw [← hvm]; exact hoc.cls
    · have b1 : (T.setVm s.vm).sameButNew ({ U with vm := s.vm } : State) [] 1 6 := by
        obtain ⟨q1, q2, q3, q4, q5, q6⟩ := hsame
        rw [hs'] at q1 q2 q3 q4 q5 q6
        refine ⟨?_, q2, q3, q4, q5, q6⟩
        have e3 : T.setVm s.vm = ({ s with heap := T.heap, slotsUsed := T.slotsUsed } : State).setFrames (T.setVm s.vm).frames := Y.same.1
        show ({ U with vm := s.vm } : State) = { (T.setVm s.vm).setFrames ({ U with vm := s.vm } : State).frames with heap := U.heap, slotsUsed := U.slotsUsed }
        rw [e3, State.setFrames_setFrames]
        exact q1
      have b2 := Y.same.trans b1
      simpa using b2
  exact key T hT Z
end TW
