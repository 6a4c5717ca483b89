/-! a method that throws: the walk's state as a start of its own, the statics of Throwable, contracts that return or throw -/
section XB
variable {p : Program} {l : Launch} {e : Env} {R : Room} {s : State} {m : MethodId} {args : Array Value} {below : List Frame} {meth : Method} {c : Code} {T : State} {locs : List Loc} {cells slots : Nat}
theorem st_base (X : Stand p l e R s m args below meth c T locs cells slots) {R' : Room} (h1 : R'.frames ≤ R.frames) (h2 : R'.locals ≤ R.locals) (h3 : cells + R'.cells ≤ R.cells) (h4 : slots + R'.slots ≤ R.slots) : Stand p l e R' ({ s with heap := T.heap, slotsUsed := T.slotsUsed } : State) m args below meth c T [] 0 0 := by
  have hr := X.room
  simp only [State.hasRoom, Bool.and_eq_true, decide_eq_true_eq] at hr
  have c1 := X.cellsAbove h3
  have c2 := X.slotsAbove h4
  refine { admits := X.admits, cas := X.cas, clock := X.clock, frames := X.frames, room := ?_, hears := X.hears, method := X.method, code := X.code, here := X.here, tail := X.tail, warmed := X.warmed, limits := X.limits, bytes := X.bytes, same := ?_ }
  · simp only [State.hasRoom, Bool.and_eq_true, decide_eq_true_eq]
    obtain ⟨⟨⟨⟨r1, r2, r3, r4, r5, r6⟩, r7⟩, r8⟩, r9⟩ := hr
    refine ⟨⟨⟨⟨Nat.le_trans (show s.localsInUse + R'.locals + stackMargin ≤ s.localsInUse + R.locals + stackMargin by omega) r1, Nat.le_trans (show s.frames.length + R'.frames ≤ s.frames.length + R.frames by omega) r2, Nat.le_trans (show s.frames.length + R'.frames ≤ s.frames.length + R.frames by omega) r3, Nat.le_trans (show s.localsInUse + R'.locals ≤ s.localsInUse + R.locals by omega) r4, Nat.le_trans (show s.localsInUse + R'.locals ≤ s.localsInUse + R.locals by omega) r5, r6⟩, c1⟩, c2⟩, X.book⟩
  · refine ⟨?_, Nat.le_refl _, Nat.le_refl _, ?_, ?_, ?_⟩
    · exact X.same.1
    · show T.slotsUsed = T.slotsUsed + ((T.heap.toList.drop T.heap.size).map (·.slots.size)).sum
      rw [show T.heap.toList.drop T.heap.size = [] by simp]
      rfl
    · show ((T.heap.toList.drop T.heap.size).map (·.slots.size)).sum ≤ 0
      rw [show T.heap.toList.drop T.heap.size = [] by simp]
      exact Nat.le_refl _
    · intro a c0 h
      exact ⟨c0, h, rfl, rfl, fun _ _ => rfl⟩
end XB
