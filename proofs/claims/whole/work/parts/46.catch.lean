/-! an exception meets this method's own table: a row whose class is linked (resolved or not yet) takes it or passes it on -/
section CT
/-- the tables once a row's class has been looked up -/
abbrev ctVm (s : State) (d : ClassId) (i : Nat) (k : ClassId) : Vm := s.vm.noted d i (.cls k)
theorem ct_row {Q : Handler → Pre} {E : CtlPost} {e : Env} {b : Bool} {acts : List Action} {s : State} {f : JFrame} {a : Addr} {x : ExceptionTableEntry} {t : List ExceptionTableEntry} {k : ClassId} {cell : Cell} (hx : covers x f.pc = true) (h0 : x.catchType ≠ 0)
    (hl : s.vm.ClassLinks e.platform f.method.cls x.catchType k) (hcell : s.heap[a]? = some cell) (hobj : cell.vm = .none) (hk : ∃ z, s.vm.classes[cell.cls]? = some z) (hc : ∃ z, s.vm.classes[k]? = some z) :
    wp (findHandler.go f a (x :: t)) Q E e b acts s ↔ (if s.vm.assignable cell.cls k = true then Q (.found x.handlerPc) b acts (s.setVm (ctVm s f.method.cls x.catchType k)) else wp (findHandler.go f a t) Q E e b acts (s.setVm (ctVm s f.method.cls x.catchType k))) := by
  have hal : s.vm.Alike (ctVm s f.method.cls x.catchType k) := (Vm.Alike.refl s.vm).noted _ _ _
  obtain ⟨z1, hz1⟩ := hk
  obtain ⟨z2, hz2⟩ := hc
  obtain ⟨w1, hw1, -⟩ := hal.2.2 _ _ hz1
  obtain ⟨w2, hw2, -⟩ := hal.2.2 _ _ hz2
  obtain ⟨q1, q2⟩ := (resolveClass_links e.toSetting hl).op (op := VmOp.resolveClass f.method.cls x.catchType) rfl
  simp only [covers] at hx
  cases hs : s.vm.assignable cell.cls k with
  | true =>
    have hs' : (ctVm s f.method.cls x.catchType k).assignable cell.cls k = true := by rw [hal.assignable]; exact hs
    simp [findHandler.go, hx, h0, q1, q2, hcell, hobj, hw1, hw2, hs', VmOp.dirties, VmOp.acts]
  | false =>
    have hs' : (ctVm s f.method.cls x.catchType k).assignable cell.cls k = false := by rw [hal.assignable]; exact hs
    simp [findHandler.go, hx, h0, q1, q2, hcell, hobj, hw1, hw2, hs', VmOp.dirties, VmOp.acts]
/-- the search ends at a row, the tables are then vm' -/
def ctEnds (e : Env) (s : State) (f : JFrame) (a : Addr) (pc : Nat) (vm' : Vm) : Prop :=
  ∀ (Q : Handler → Pre) (E : CtlPost) (b : Bool) (acts : List Action), wp (findHandler f a) Q E e b acts s ↔ Q (.found pc) b acts (s.setVm vm')
theorem ct_step {tb : Tables} {e : Env} {s target : State} {g : JFrame} {c : Code} {below : List Frame} {a : Addr} (h : At s g.method c below) {pc : Nat} {vm' : Vm} (hf : ctEnds e ((s.setTop g).pushFrame (.throwing a)) g a pc vm') (hrest : Steps tb e below ((s.setVm vm').setTop { g with pc := pc, stack := [.ref a] }) target) :
    Steps tb e below ((s.setTop g).pushFrame (.throwing a)) target := by
  obtain ⟨hgo, hw⟩ := h.throwing a
  refine Steps.head hgo hw ?_
  have key : ∀ r : List Frame, (stepThrowing e ((s.setTop g).pushFrame (.throwing a)) a (.java g :: r)).1 = (((s.setTop g).pushFrame (.throwing a)).setVm vm').setFrames (.java { g with pc := pc, stack := [.ref a] } :: r) := by
    intro r
    simp only [stepThrowing, searchFrame, vmDo]
    generalize hr : Sem.go _ e false [] ((s.setTop g).pushFrame (.throwing a)) = res
    obtain ⟨as, rfl, ha⟩ := Sem.eq_ok_of hr (a := Handler.found pc) (s' := ((s.setTop g).pushFrame (.throwing a)).setVm vm') (acts' := []) (by simp [hf _ _ _ _])
    rfl
  rw [stepThread_throwing (frames_entered h.top _), key]
  obtain ⟨g₀, hg⟩ := Option.isSome_iff_exists.mp h.top
  obtain ⟨r, hr⟩ := State.topJava?_eq_some.mp hg
  have hr' : (s.setVm vm').frames = .java g₀ :: r := hr
  rw [State.setTop_of_frames _ hr'] at hrest
  have two : ∀ (u : State) (F G : List Frame), ((u.setFrames F).setVm vm').setFrames G = (u.setVm vm').setFrames G := fun u F G => by
    rw [show (u.setFrames F).setVm vm' = (u.setVm vm').setFrames F from rfl, State.setFrames_setFrames]
  rw [hr, List.tail_cons, State.pushFrame, two, State.setTop_of_frames _ hr, two]
  exact hrest
variable {p : Program} {l : Launch} {e : Env} {R : Room} {s : State} {m : MethodId} {args : Array Value} {below : List Frame} {meth : Method} {c : Code} {H : Heap} {locs : List Loc} {cells slots : Nat} {Q : State → Prop}
/-- the walk with an exception under way over the frame g -/
def xW (p : Program) (l : Launch) (e : Env) (R : Room) (s : State) (m : MethodId) (args : Array Value) (below : List Frame) (meth : Method) (c : Code) (H : Heap) (locs : List Loc) (cells slots : Nat) (Q : State → Prop) (g : JFrame) (q : Addr) : Prop :=
  ∀ T : State, T.heap = H → Stand p l e R s m args below meth c T locs cells slots → ∃ t, Steps p.tables e below ((T.setTop g).pushFrame (.throwing q)) t ∧ Q t
/-- a row of the table, by the words: its class is linked -/
theorem ct_links {own name : String} {i : Nat} {T : State} (X : Stand p l e R s m args below meth c T locs cells slots) (hown : s.vm.findClass own = some m.cls) (hlink : (Cond.classLink own i name).before args s = true) :
    ∃ k, s.vm.findClass name = some k ∧ T.vm.ClassLinks e.platform m.cls i k ∧ s.WarmedH (ctVm T m.cls i k) ∧ ∃ z, s.vm.classes[k]? = some z := by
  have hpl : e.platform.magicAccessors = ({} : Platform).magicAccessors := by rw [X.admits.platform]
  obtain ⟨k, hk, hcl⟩ := Cond.classLink_spec hown hlink e.platform hpl
  obtain ⟨dk, _, _, kt, hd, _, _, _, _, hkt, _, hopen⟩ := hcl.here
  exact ⟨k, hk, X.warmed.classLinks hcl, X.warmed.noted hd hopen (State.rightAt_cls hcl), kt, hkt⟩
/-- the first row takes it -/
theorem ct_first {own name E : String} {x : ExceptionTableEntry} {suf : List ExceptionTableEntry} {ce : Cell} {q : Addr} {pc : Nat} {ls : Array Slot} {rest : List Value} (hown : s.vm.findClass own = some m.cls) (htab : c.exceptionTable.toList = x :: suf) (hx : covers x pc = true) (h0 : x.catchType ≠ 0)
    (hlink : (Cond.classLink own x.catchType name).before args s = true) (hcast : (Cond.castable E name).before args s = true) (hcell : H[q]? = some ce) (hv : ce.vm = .none) (hcl : s.vm.findClass E = some ce.cls)
    (kk : W p l e R s m args below meth c H locs cells slots Q (F0 m x.handlerPc ls [.ref q])) : xW p l e R s m args below meth c H locs cells slots Q (F0 m pc ls rest) q := by
  intro T hT X
  obtain ⟨k, hk, hl, hW, z, hz⟩ := ct_links X hown hlink
  obtain ⟨c3, c4, hc3, hc4, hasg⟩ := Cond.castable_spec hcast
  cases Option.some.inj (hc3.symm.trans hcl)
  cases Option.some.inj (hc4.symm.trans hk)
  obtain ⟨kc, hkc, -⟩ := Vm.findClass_spec hcl
  obtain ⟨z', hz', -⟩ := X.warmed.alike.2.2 _ _ hz
  obtain ⟨kc', hkc', -⟩ := X.warmed.alike.2.2 _ _ hkc
  obtain ⟨t, a1, b1⟩ := kk (T.setVm (ctVm T m.cls x.catchType k)) hT (X.noted hW)
  refine ⟨t, ct_step (s := T) (c := c) (g := F0 m pc ls rest) (a := q) X.here (vm' := ctVm T m.cls x.catchType k) (pc := x.handlerPc) ?_ a1, b1⟩
  intro Q' E' b acts
  rw [W.findHandler_eq (meth := meth) (code := c) X.method' X.code, htab, ct_row (s := (T.setTop (F0 m pc ls rest)).pushFrame (.throwing q)) (f := F0 m pc ls rest) (a := q) (k := k) (cell := ce) hx h0 hl (by show T.heap[q]? = some ce; rw [hT]; exact hcell) hv ⟨kc', hkc'⟩ ⟨z', hz'⟩]
  rw [if_pos (show ((T.setTop (F0 m pc ls rest)).pushFrame (Frame.throwing q)).vm.assignable ce.cls k = true from (show T.vm.assignable ce.cls k = true by rw [X.warmed.alike.assignable]; exact hasg))]
  exact Iff.rfl
/-- the first row passes it on, the second takes it -/
theorem ct_second {own name nm1 E : String} {x1 x : ExceptionTableEntry} {suf : List ExceptionTableEntry} {ce : Cell} {q : Addr} {pc : Nat} {ls : Array Slot} {rest : List Value} (hown : s.vm.findClass own = some m.cls) (htab : c.exceptionTable.toList = x1 :: x :: suf) (hx1 : covers x1 pc = true) (h01 : x1.catchType ≠ 0) (hx : covers x pc = true) (h0 : x.catchType ≠ 0)
    (hlink1 : (Cond.classLink own x1.catchType nm1).before args s = true) (hno : va_Nc E nm1 s) (hlink : (Cond.classLink own x.catchType name).before args s = true) (hcast : (Cond.castable E name).before args s = true) (hcell : H[q]? = some ce) (hv : ce.vm = .none) (hcl : s.vm.findClass E = some ce.cls)
    (kk : W p l e R s m args below meth c H locs cells slots Q (F0 m x.handlerPc ls [.ref q])) : xW p l e R s m args below meth c H locs cells slots Q (F0 m pc ls rest) q := by
  intro T hT X
  obtain ⟨k1, hk1, hl1, hW1, z1, hz1⟩ := ct_links X hown hlink1
  have X1 : Stand p l e R s m args below meth c (T.setVm (ctVm T m.cls x1.catchType k1)) locs cells slots := X.noted hW1
  obtain ⟨k, hk, hl, hW, z, hz⟩ := ct_links X1 hown hlink
  obtain ⟨c3, c4, hc3, hc4, hasg⟩ := Cond.castable_spec hcast
  cases Option.some.inj (hc3.symm.trans hcl)
  cases Option.some.inj (hc4.symm.trans hk)
  obtain ⟨n1, n2, hn1, hn2, hn3⟩ := hno
  cases Option.some.inj (hn1.symm.trans hcl)
  cases Option.some.inj (hn2.symm.trans hk1)
  obtain ⟨kc, hkc, -⟩ := Vm.findClass_spec hcl
  obtain ⟨y1, hy1, -⟩ := X.warmed.alike.2.2 _ _ hz1
  obtain ⟨y2, hy2, -⟩ := X.warmed.alike.2.2 _ _ hkc
  obtain ⟨z', hz', -⟩ := X1.warmed.alike.2.2 _ _ hz
  obtain ⟨kc', hkc', -⟩ := X1.warmed.alike.2.2 _ _ hkc
  obtain ⟨t, a1, b1⟩ := kk ((T.setVm (ctVm T m.cls x1.catchType k1)).setVm (ctVm (T.setVm (ctVm T m.cls x1.catchType k1)) m.cls x.catchType k)) hT (X1.noted hW)
  refine ⟨t, ct_step (s := T) (c := c) (g := F0 m pc ls rest) (a := q) X.here (vm' := ctVm (T.setVm (ctVm T m.cls x1.catchType k1)) m.cls x.catchType k) (pc := x.handlerPc) ?_ a1, b1⟩
  intro Q' E' b acts
  rw [W.findHandler_eq (meth := meth) (code := c) X.method' X.code, htab, ct_row (s := (T.setTop (F0 m pc ls rest)).pushFrame (.throwing q)) (f := F0 m pc ls rest) (a := q) (k := k1) (cell := ce) hx1 h01 hl1 (by show T.heap[q]? = some ce; rw [hT]; exact hcell) hv ⟨y2, hy2⟩ ⟨y1, hy1⟩]
  rw [if_neg (show ¬ ((T.setTop (F0 m pc ls rest)).pushFrame (Frame.throwing q)).vm.assignable ce.cls k1 = true from (show ¬ T.vm.assignable ce.cls k1 = true by rw [X.warmed.alike.assignable, hn3]; decide))]
  rw [ct_row (s := ((T.setTop (F0 m pc ls rest)).pushFrame (.throwing q)).setVm (ctVm ((T.setTop (F0 m pc ls rest)).pushFrame (.throwing q)) m.cls x1.catchType k1)) (f := F0 m pc ls rest) (a := q) (k := k) (cell := ce) hx h0 hl (by show T.heap[q]? = some ce; rw [hT]; exact hcell) hv ⟨kc', hkc'⟩ ⟨z', hz'⟩]
  rw [if_pos (show (((T.setTop (F0 m pc ls rest)).pushFrame (Frame.throwing q)).setVm (ctVm ((T.setTop (F0 m pc ls rest)).pushFrame (Frame.throwing q)) m.cls x1.catchType k1)).vm.assignable ce.cls k = true from (show (T.setVm (ctVm T m.cls x1.catchType k1)).vm.assignable ce.cls k = true by rw [X1.warmed.alike.assignable]; exact hasg))]
  exact Iff.rfl
end CT
