/-! the law's world: the class's object, the reference, the array out; its helpers' contracts (a table of handlers, one cell of six slots may come) -/
abbrev StA : Type := StC × Mo × (Nat → Int64)
abbrev oW (ao : Nat) (cA : ClassId × ClassId × ClassId) (f : Nat → Int64) : va_W := [(ao, .inl (cA.2.1, 1, .inr (.inl f)))]
def wA (ac am : Nat → Nat) (ao : Nat) (cA : ClassId × ClassId × ClassId) (st : StA) : va_W := wC ac cA st.1 ++ (wM am cA st.2.1 ++ oW ao cA st.2.2)
section HW
variable {σ τ : Type}
def hwI (l : Launch) (y : MethodName) (cc : ByteArray) (nL : Nat) (hh : List (Nat × Nat × Nat × Nat)) (rm : Room) (D : va_G) (ty : List (ClassId × FieldType)) (wf : σ → va_W) (av : List Value) (st : σ) (F : τ → σ) (Q : Int32 → τ → Prop) : Prop :=
  ∀ sz, Met l y (Cond.codeWith y cc nL (some .int) hh :: gtbl) rm (tPre D ty wf st sz av) (va_Qi Q (fun u t => gAt D ty (va_A (wf st) sz) wf (F u) t) (va_A (wf st) sz)) 1 6 (va_A (wf st) sz)
theorem hwI_of {l : Launch} {y : MethodName} {cc : ByteArray} {nL : Nat} {hh : List (Nat × Nat × Nat × Nat)} {rm : Room} {D : va_G} {ty : List (ClassId × FieldType)} {wf : σ → va_W} {av : List Value} {st : σ} {F : τ → σ} {Q : Int32 → τ → Prop} (hy : plainName y.cls = true) (hlen : (lg_sl av).length ≤ nL)
    (body : ∀ (p : Program) (e : Env) (s : State) (m : MethodId) (below : List Frame) (meth : Method) (c : Code), CallFix p m c cc nL s av.toArray gtbl y.cls → meth.sig.returnType = some .int → meth.locks = false → c.exceptionTable.toList = tableOf hh → gK D ty s → ∀ A : Nat → Prop, (∀ q : Nat, s.heap.size ≤ q → A q) → tX A s s.heap → gIn D A s wf st s.heap [] →
      ∀ ls : Array Slot, lv_has ls nL (lv_args 0 av) → W p l e rm s m av.toArray below meth c s.heap [] 0 0 (MQ below (va_Qi Q (fun u t => gAt D ty A wf (F u) t) A) av.toArray s 1 6 A) (F0 m 0 ls [])) : hwI l y cc nL hh rm D ty wf av st F Q := by
  intro sz
  refine va_MetW (cc := cc) (maxL := nL) (ret := some .int) (hh := hh) hy rfl ?_
  intro p e s m args below meth c s₁ B hml hv
  obtain ⟨rfl, hsz, hP, hK, hD0, tx⟩ := hv
  have hts := atoms_spec (ws := Cond.codeWith y cc nL (some .int) hh :: gtbl) B.pre
  have htab : c.exceptionTable.toList = tableOf hh := by
    obtain ⟨m9, meth9, c9, hn9, h1, h2, -, -, h6, -⟩ := Cond.codeWith_spec (hts _ List.mem_cons_self)
    cases Option.some.inj (hn9.symm.trans B.named)
    cases Option.some.inj (h1.symm.trans B.method)
    cases Option.some.inj (h2.symm.trans (Stand.of_body B).code)
    rw [← h6, table_eq]
  have hl := lv_entry av (n := nL) hlen
  rw [lg_entry_eq]
  generalize (lg_sl av ++ List.replicate (nL - (lg_sl av).length) Slot.unset).toArray = ls at hl ⊢
  subst hsz
  exact body p e s m below meth c ⟨B.exec, B.bytes, hml, findClass_of_methodNamed B.named, fun w hw => hts w (List.mem_cons_of_mem _ hw)⟩ B.returns B.notSynchronized htab hK _ (fun q h => Or.inr h) tx ⟨hP, hD0.self, va_S.rf⟩ ls hl
variable {p : Program} {l : Launch} {e : Env} {R : Room} {s : State} {m : MethodId} {args : Array Value} {below : List Frame} {meth : Method} {c : Code} {H : Heap} {locs : List Loc} {Q : State → Prop} {cc : ByteArray} {nL pc : Nat} {ls : Array Slot} {own : String} {D : va_G} {ty : List (ClassId × FieldType)} {A : Nat → Prop} {wf : σ → va_W} {st : σ} {F : τ → σ}
theorem ret_hwi {u : τ} {v : Int32} {Q0 : Int32 → τ → Prop} {Ts : List Cond} (S : CallFix p m c cc nL s args Ts own) (hr : meth.sig.returnType = some .int) (hlk : meth.locks = false) (hK : gK D ty s) (I : gIn D A s wf (F u) H locs) (h : Q0 v u) (d : decode cc pc = .ok (.ireturn, 1)) : W p l e R s m args below meth c H locs 1 6 (MQ below (va_Qi Q0 (fun u t => gAt D ty A wf (F u) t) A) args s 1 6 A) (F0 m pc ls [.int v]) :=
  W.iret S.1 S.2.1 hr (fun t ht hW => ⟨⟨v, u, rfl, h, by rw [ht]; exact I.1, hK.moved hW, I.2.1⟩, I.2.2.F ht⟩) I.2.2.2.2 d hlk
end HW
section OW
variable {p : Program} {l : Launch} {e : Env} {R : Room} {s : State} {m : MethodId} {args : Array Value} {below : List Frame} {meth : Method} {c : Code} {H : Heap} {locs : List Loc} {cells slots : Nat} {Q : State → Prop} {cc : ByteArray} {nL pc : Nat} {ls : Array Slot} {rest : List Value} {own : String} {D : va_G} {A : Nat → Prop} {ac am : Nat → Nat} {ao : Nat} {cA : ClassId × ClassId × ClassId} {sc : StC} {mo : Mo} {f : Nat → Int64}
/-- a store into out -/
theorem s_out {i : Int32} {x : Int64} (S : CallFix p m c cc nL s args gtbl own) (hK : gK D (tyA cA) s) (I : gIn D A s (wA ac am ao cA) (sc, mo, f) H locs) (hin : vp_in i 1) (hdg : decode cc pc = .ok (.lastore, 1)) (kk : ∀ (H1 : Heap) (locs1 : List Loc), gIn D A s (wA ac am ao cA) (sc, mo, vp_updL f i.toNatClampNeg x) H1 locs1 → W p l e R s m args below meth c H1 locs1 cells slots Q (F0 m (pc + 1) ls rest)) : W p l e R s m args below meth c H locs cells slots Q (F0 m pc ls (.long x :: .int i :: .ref ao :: rest)) :=
  va_last S.1 S.2.1 hK.1 I.1 I.2.1 I.2.2 56 1 rfl rfl hin hdg (fun H1 locs1 a b d => kk H1 locs1 ⟨a, b, d⟩)
theorem l_out {i : Int32} (S : CallFix p m c cc nL s args gtbl own) (hK : gK D (tyA cA) s) (I : gIn D A s (wA ac am ao cA) (sc, mo, f) H locs) (hin : vp_in i 1) (hdg : decode cc pc = .ok (.laload, 1)) (kk : W p l e R s m args below meth c H locs cells slots Q (F0 m (pc + 1) ls (.long (f i.toNatClampNeg) :: rest))) : W p l e R s m args below meth c H locs cells slots Q (F0 m pc ls (.int i :: .ref ao :: rest)) :=
  va_lald S.1 S.2.1 hK.1 I.1 56 1 rfl rfl hin hdg kk
end OW
theorem out_in : vp_in 0 1 := by unfold vp_in; decide
theorem good_cw (y : MethodName) (b : ByteArray) (n : Nat) (r : Option FieldType) (hh : List (Nat × Nat × Nat × Nat)) : goodWord (.codeWith y b n r hh) = true := rfl
