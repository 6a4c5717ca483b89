/-! the statics of Throwable that its constructor reads; what is wanted at a throw -/
def xIA : String := "java/lang/IllegalArgumentException"
def xIS : String := "java/lang/IllegalStateException"
def xIB : String := "java/lang/IndexOutOfBoundsException"
def xNm : List String := ["java/lang/RuntimeException", "java/lang/Exception"]
def sxRef (v : Value) : Prop := v = .null ∨ ∃ t, v = .ref t
def sx (n d : String) (A : Nat → Prop) (U : State) (H : Heap) : Prop :=
  ∃ (c : ClassId) (k : Class) (i : Nat) (f : Field) (a : Nat) (cell : Cell) (v : Value), U.vm.findClass Bundle.tN = some c ∧ U.fieldFound? Bundle.tN n d = some (c, k, i, f) ∧ f.isStatic = true ∧ k.statics = some a ∧ H[a]? = some cell ∧ cell.vm.isStatics = true ∧ cell.cls = c ∧ f.slot < cell.slots.size ∧ k.staticTypes[f.slot]? = some f.type ∧ cell.slots[f.slot]? = some v ∧ sxRef v ∧ ¬ A a
theorem sx.moved {n d : String} {A : Nat → Prop} {u U : State} {H : Heap} (hvm : u.vm.Alike U.vm) (h : sx n d A u H) : sx n d A U H := by
  obtain ⟨c, k, i, f, a, cell, v, h1, h2, h3, h4, h5, h6, h7, h8, h9, h10⟩ := h
  obtain ⟨k', hi', he⟩ := State.fieldFound?_setVm hvm h2
  exact ⟨c, k', i, f, a, cell, v, by rw [hvm.findClass]; exact h1, hi', h3, by rw [he]; exact h4, h5, h6, h7, h8, by rw [he]; exact h9, h10⟩
theorem sx.kept {n d : String} {A : Nat → Prop} {U : State} {H H1 : Heap} (h : sx n d A U H) (hq : ∀ a : Nat, a < H.size → ¬ A a → H1[a]? = H[a]?) : sx n d A U H1 := by
  obtain ⟨c, k, i, f, a, cell, v, h1, h2, h3, h4, h5, h6, h7, h8, h9, h10, h11, h12⟩ := h
  exact ⟨c, k, i, f, a, cell, v, h1, h2, h3, h4, by rw [hq a (Array.getElem?_eq_some_iff.mp h5).1 h12]; exact h5, h6, h7, h8, h9, h10, h11, h12⟩
theorem sx.narrow {n d : String} {A B : Nat → Prop} {U : State} {H : Heap} (h : sx n d A U H) (hAB : ∀ q, q < H.size → B q → A q) : sx n d B U H := by
  obtain ⟨c, k, i, f, a, cell, v, h1, h2, h3, h4, h5, h6, h7, h8, h9, h10, h11, h12⟩ := h
  exact ⟨c, k, i, f, a, cell, v, h1, h2, h3, h4, h5, h6, h7, h8, h9, h10, h11, fun z => h12 (hAB a (Array.getElem?_eq_some_iff.mp h5).1 z)⟩
theorem sx.lays {n d : String} {A : Nat → Prop} {U : State} {args : Array Value} (h : sx n d A U U.heap) : (Cond.laysStatic Bundle.tN n d).before args U = true := by
  obtain ⟨c, k, i, f, a, cell, v, h1, h2, h3, h4, h5, h6, h7, h8, h9, -⟩ := h
  exact Cond.laysStatic_of h1 h2 h3 h4 h5 h6 h7 h8 h9
theorem sx.ref {n d : String} {A : Nat → Prop} {U : State} {args : Array Value} (h : sx n d A U U.heap) : (Cond.isRef (.static Bundle.tN n d)).before args U = true := by
  obtain ⟨c, k, i, f, a, cell, v, h1, h2, h3, h4, h5, h6, h7, h8, h9, h10, h11, -⟩ := h
  have ev : (Term.static Bundle.tN n d).eval args U none [] U = some v := by
    simp [Term.eval, State.fieldNamed?, h2, h3, h4, h5, h6, h10]
  rcases h11 with rfl | ⟨t, rfl⟩ <;> simp [Cond.before, Cond.holds, Cond.value, ev]
theorem sx.of {n d : String} {A : Nat → Prop} {U : State} {args args2 : Array Value} (hl : (Cond.laysStatic Bundle.tN n d).before args U = true) (hr : (Cond.isRef (.static Bundle.tN n d)).before args2 U = true) (hA : ∀ q, q < U.heap.size → ¬ A q) : sx n d A U U.heap := by
  obtain ⟨c, k, i, f, a, cell, h1, h2, h3, h4, h5, h6, h7, h8, h9⟩ := Cond.laysStatic_spec hl
  have hs : ∃ v, cell.slots[f.slot]? = some v := ⟨_, Array.getElem?_eq_getElem h8⟩
  obtain ⟨v, hv⟩ := hs
  have ev : (Term.static Bundle.tN n d).eval args2 U none [] U = some v := by
    simp [Term.eval, State.fieldNamed?, h2, h3, h4, h5, h6, hv]
  refine ⟨c, k, i, f, a, cell, v, h1, h2, h3, h4, h5, h6, h7, h8, h9, hv, ?_, hA a (Array.getElem?_eq_some_iff.mp h5).1⟩
  simp only [Cond.before, Cond.holds, Cond.value, ev] at hr
  cases v with
  | null => exact Or.inl rfl
  | ref t => exact Or.inr ⟨t, rfl⟩
  | _ => simp at hr
def xl : List Cond := [.declares (Bundle.init0 "java/lang/RuntimeException"), .declares (Bundle.init0 "java/lang/Exception"), .declares (Bundle.init0 Bundle.tN), .castable xIA xIA, .castable xIS xIS, .castable xIB xIB]
def xst : List Cond := [.laysStatic Bundle.tN "UNASSIGNED_STACK" Bundle.steD, .laysStatic Bundle.tN "SUPPRESSED_SENTINEL" Bundle.listD, .isRef (.static Bundle.tN "UNASSIGNED_STACK" Bundle.steD), .isRef (.static Bundle.tN "SUPPRESSED_SENTINEL" Bundle.listD)]
def xlW (U : State) : Prop := ∀ w ∈ xl, va_Nw w U
theorem xl_tab : ∀ w ∈ xl, w.onTables = true := by decide
theorem xlW.warm {s U : State} (hW : s.WarmedH U.vm) (h : xlW s) : xlW U := by
  intro w hw
  have h0 := h w hw
  simp only [xl, List.mem_cons, List.not_mem_nil, or_false] at hw
  rcases hw with rfl | rfl | rfl | rfl | rfl | rfl
  · exact va_Nw.warmD hW h0
  · exact va_Nw.warmD hW h0
  · exact va_Nw.warmD hW h0
  · exact va_Nw.warmC hW h0
  · exact va_Nw.warmC hW h0
  · exact va_Nw.warmC hW h0
theorem xlW.same {s U : State} (hv : s.vm = U.vm) (h : xlW s) : xlW U := fun w hw => va_Nw.same (xl_tab w hw) hv (h w hw)
/-- what a throw wants of the state -/
def tX (A : Nat → Prop) (U : State) (H : Heap) : Prop := xlW U ∧ sx "UNASSIGNED_STACK" Bundle.steD A U H ∧ sx "SUPPRESSED_SENTINEL" Bundle.listD A U H ∧ va_Nc xIS xIA U ∧ va_Nc xIS xIB U
theorem tX.warm {A : Nat → Prop} {s U : State} {H : Heap} (hW : s.WarmedH U.vm) (h : tX A s H) : tX A U H := ⟨h.1.warm hW, h.2.1.moved hW.alike, h.2.2.1.moved hW.alike, h.2.2.2.1.moved hW.alike, h.2.2.2.2.moved hW.alike⟩
theorem tX.kept {A : Nat → Prop} {U : State} {H H1 : Heap} (h : tX A U H) (hq : ∀ a : Nat, a < H.size → ¬ A a → H1[a]? = H[a]?) : tX A U H1 := ⟨h.1, h.2.1.kept hq, h.2.2.1.kept hq, h.2.2.2⟩
theorem tX.narrow {A B : Nat → Prop} {U : State} {H : Heap} (h : tX A U H) (hAB : ∀ q, q < H.size → B q → A q) : tX B U H := ⟨h.1, h.2.1.narrow hAB, h.2.2.1.narrow hAB, h.2.2.2⟩
theorem tX.same {A : Nat → Prop} {s U : State} {H : Heap} (hv : s.vm = U.vm) (ha : s.vm.Alike U.vm) (h : tX A s H) : tX A U H := ⟨h.1.same hv, h.2.1.moved ha, h.2.2.1.moved ha, h.2.2.2.1.moved ha, h.2.2.2.2.moved ha⟩
/-- the words of a throw: good ones of the table, and those that tX gives -/
def xAll (ic : Nat) (cls : String) : Prop := ((Bundle.ownAtoms0 "GroundReach" ic cls xNm).all fun w => (decide (w ∈ lw_tbl) && goodWord w) || (decide (w ∈ xl) || decide (w ∈ xst))) = true
set_option maxRecDepth 20000 in
theorem xAll_IA : xAll 72 xIA := by unfold xAll; decide +kernel
set_option maxRecDepth 20000 in
theorem xAll_IS : xAll 79 xIS := by unfold xAll; decide +kernel
set_option maxRecDepth 20000 in
theorem xAll_IB : xAll 151 xIB := by unfold xAll; decide +kernel
theorem xWords {ic : Nat} {cls : String} {A : Nat → Prop} {s : State} {args : Array Value} (hx : xAll ic cls) (hts : ∀ w ∈ gtbl, w.before args s = true) (tx : tX A s s.heap) : ∀ w ∈ Bundle.ownAtoms0 "GroundReach" ic cls xNm, w.before args s = true := by
  intro w hw
  have h := List.all_eq_true.mp hx w hw
  simp only [Bool.or_eq_true, Bool.and_eq_true, decide_eq_true_eq] at h
  rcases h with ⟨h1, h2⟩ | h | h
  · exact hts w (gmem h1 h2)
  · exact va_Nw.use (xl_tab w h) (tx.1 w h)
  · simp only [xst, List.mem_cons, List.not_mem_nil, or_false] at h
    rcases h with rfl | rfl | rfl | rfl
    · exact tx.2.1.lays
    · exact tx.2.2.1.lays
    · exact tx.2.1.ref
    · exact tx.2.2.1.ref
