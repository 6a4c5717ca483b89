/-! our own base: the good words, contracts over a pure state, returns and calls -/
def gtbl : List Cond := lw_tbl.filter goodWord
theorem gmem {w : Cond} (h : w ∈ lw_tbl) (hg : goodWord w = true) : w ∈ gtbl := List.mem_filter.mpr ⟨h, hg⟩
def wsOf (y : MethodName) (b : ByteArray) (n : Nat) (r : Option FieldType) : List Cond := Cond.code y b n r :: gtbl
theorem wsOf_good {y : MethodName} {b : ByteArray} {n : Nat} {r : Option FieldType} (h : Cond.code y b n r ∈ gtbl) : GoodIn gtbl (wsOf y b n r) := by
  intro w hw
  have hw2 : w ∈ gtbl := by
    rcases List.mem_cons.mp hw with h2 | h2
    · rw [h2]; exact h
    · exact h2
  exact ⟨hw2, good_of_word (List.mem_filter.mp hw2).2⟩
def tyA (cA : ClassId × ClassId × ClassId) : List (ClassId × FieldType) := [(cA.1, .int), (cA.2.1, .long), (cA.2.2, .boolean)]
def isB (r : Int32) : Prop := r = 0 ∨ r = 1
theorem isB_n {r : Int32} (h : isB r) : narrow .boolean (.int r) = .int r := by
  rcases h with h | h <;> (rw [h]; decide)
/-- the words of a method that is called: an instance method, a static one -/
def kV (y : MethodName) (b : ByteArray) (n : Nat) (r : Option FieldType) (k : Nat) : Prop :=
  Cond.instanceMethod y ∈ gtbl ∧ Cond.selects y.cls y y ∈ gtbl ∧ Cond.initialized y.cls ∈ gtbl ∧ Cond.code y b n r ∈ gtbl ∧ y.cls ≠ "java/lang/invoke/MethodHandle" ∧ y.cls ≠ "java/lang/invoke/VarHandle" ∧ (parseMethodDescriptor y.desc).map (fun d => d.parameters.length) = some k
def kS (y : MethodName) (b : ByteArray) (n : Nat) (r : Option FieldType) (k : Nat) : Prop :=
  Cond.static y ∈ gtbl ∧ Cond.initialized y.cls ∈ gtbl ∧ Cond.code y b n r ∈ gtbl ∧ y.cls ≠ "java/lang/invoke/MethodHandle" ∧ y.cls ≠ "java/lang/invoke/VarHandle" ∧ (parseMethodDescriptor y.desc).map (fun d => d.parameters.length) = some k
theorem mkV {R : Room} {s : State} {args : Array Value} {own : String} {index : Nat} {y : MethodName} {b : ByteArray} {n k : Nat} {r : Option FieldType} {rm : Room} (hts : ∀ w ∈ gtbl, w.before args s = true) (hl : Cond.methodLink own index y ∈ gtbl) (hk : kV y b n r k) (hrc : rm.cells = 0) (hrs : rm.slots = 0) (hR : rm.frames + 1 ≤ R.frames ∧ 8 + (n + 11) + rm.locals ≤ R.locals) : CallW R s args own y.cls index y b n r (wsOf y b n r) rm 0 0 k := by
  obtain ⟨h2, h3, h4, h5, h6⟩ := hk
  exact ⟨callB_of k hts (wsOf_good h5) rfl hrc hrs (hts _ h4) (hts _ hl) h6 hR, hts _ h2, hts _ h3⟩
theorem mkS {R : Room} {s : State} {args : Array Value} {own : String} {index : Nat} {y : MethodName} {b : ByteArray} {n k : Nat} {r : Option FieldType} {rm : Room} (hts : ∀ w ∈ gtbl, w.before args s = true) (hl : Cond.methodLink own index y ∈ gtbl) (hk : kS y b n r k) (hrc : rm.cells = 0) (hrs : rm.slots = 0) (hR : rm.frames + 1 ≤ R.frames ∧ 8 + (n + 11) + rm.locals ≤ R.locals) : CallB R s args own index y b n r (wsOf y b n r) rm 0 0 k ∧ (Cond.static y).before args s = true := by
  obtain ⟨h2, h4, h5, h6⟩ := hk
  exact ⟨callB_of k hts (wsOf_good h5) rfl hrc hrs (hts _ h4) (hts _ hl) h6 hR, hts _ h2⟩
