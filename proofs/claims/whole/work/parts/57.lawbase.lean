/-! calls of the law: its helpers (static, with a table of handlers); its script -/
section LB
variable {σ τ : Type} {p : Program} {l : Launch} {e : Env} {R : Room} {s : State} {m : MethodId} {args : Array Value} {below : List Frame} {meth : Method} {c : Code} {H : Heap} {locs : List Loc} {Q : State → Prop} {cc : ByteArray} {nL pc : Nat} {ls : Array Slot} {own : String} {D : va_G} {ty : List (ClassId × FieldType)} {A : Nat → Prop} {wf : σ → va_W} {st : σ} {F : τ → σ}
variable {cells slots index n maxL : Nat} {y : MethodName} {bytes : ByteArray} {rm : Room} {hh : List (Nat × Nat × Nat × Nat)} {As rest st0 : List Value}
theorem callS_hw {Q0 : Int32 → τ → Prop} (S : CallFix p m c cc nL s args gtbl own) (hM : hwI l y bytes maxL hh rm D ty wf As st F Q0) (hlk : Cond.methodLink own index y ∈ gtbl) (hsw : Cond.static y ∈ gtbl) (hiw : Cond.initialized y.cls ∈ gtbl) (hcw : Cond.codeWith y bytes maxL (some .int) hh ∈ gtbl) (hd : y.cls ≠ "java/lang/invoke/MethodHandle" ∧ y.cls ≠ "java/lang/invoke/VarHandle" ∧ (parseMethodDescriptor y.desc).map (fun d => d.parameters.length) = some n) (hrc : rm.cells = 1) (hrs : rm.slots = 6) (hR : rm.frames + 1 ≤ R.frames ∧ 8 + (maxL + 11) + rm.locals ≤ R.locals)
    (hK : gK D ty s) (hA : ∀ q : Nat, s.heap.size ≤ q → A q) (tx : tX A s s.heap) (I : gIn D A s wf st H locs) (hls : ls.size = nL) (hn : As.length = n) (hst : st0 = As.reverse ++ rest) (hw : (rest.map fun v => v.category).sum ≤ 8) (hdg : decode cc pc = .ok (.invokestatic index, 3)) (hf : cells + 1 ≤ R.cells ∧ slots + 6 ≤ R.slots)
    (kk : ∀ (r : Int32) (u : τ) (H1 : Heap) (locs1 : List Loc), Q0 r u → gIn D A s wf (F u) H1 locs1 → W p l e R s m args below meth c H1 locs1 (cells + 1) (slots + 6) Q (F0 m (pc + 3) ls (.int r :: rest))) : W p l e R s m args below meth c H locs cells slots Q (F0 m pc ls st0) := by
  have hts := S.2.2.2.2
  have hgood : ∀ w ∈ (Cond.codeWith y bytes maxL (some .int) hh :: gtbl), ∀ (a' : Array Value) (U : State), s.WarmedH U.vm → w.before a' U = true := pay_in hts (fun w hw => by
    have hw2 : w ∈ gtbl := by
      rcases List.mem_cons.mp hw with h2 | h2
      · rw [h2]; exact hcw
      · exact h2
    exact ⟨hw2, good_of_word (List.mem_filter.mp hw2).2⟩)
  have hrun : va_Run p l e R s m args below meth c H locs cells slots 1 6 (F0 m pc ls st0) rest (va_Qi Q0 (fun u t => gAt D ty (va_A (wf st) H.size) wf (F u) t) (va_A (wf st) H.size) As.toArray) (va_A (wf st) H.size) := by
    intro T hT X
    obtain ⟨mk, methM, cM, hnamed, hmethM, -, -, -, -, -, -, hsigM⟩ := Cond.codeWith_spec (hts _ hcw)
    have hstatic : methM.isStatic = true := Cond.static_spec hnamed hmethM (hts _ hsw)
    obtain ⟨kP, hkP, -⟩ := className_of_methodNamed hnamed
    have hinitP : kP.init = .initialized := Cond.initialized_spec (findClass_of_methodNamed hnamed) hkP (hts _ hiw)
    have hlen : As.length = methM.sig.parameters.length := by
      have h6 := hd.2.2
      rw [hsigM] at h6
      exact hn.trans (Option.some.inj h6).symm
    have hdg' : decode c.code pc = .ok (.invokestatic index, 3) := by rw [S.2.1]; exact hdg
    obtain ⟨vm₁, X₁, hstep₁⟩ := X.invokestatic S.1 S.2.2.2.1 (hts _ hlk) hnamed hmethM hstatic hkP hinitP ⟨hd.1, hd.2.1⟩ (g := F0 m pc ls st0) rfl (argsL := As) (rest := rest) hlen hst hdg'
    have hB : Back l R p e below s args y 3 8 (PreOf R 1 6 (tPre D ty wf st H.size As)) (PostOf (va_Qi Q0 (fun u t => gAt D ty (va_A (wf st) H.size) wf (F u) t) (va_A (wf st) H.size)) 1 6 (va_A (wf st) H.size)) :=
      va_backW (hh := hh) (bytes := bytes) (maxL := maxL) (ret := some .int) (hM H.size) tblind hrc hrs hR.1 hR.2 hgood List.mem_cons_self (fun a' U hW => word_at hW (good_of_word (List.mem_filter.mp hiw).2) (hts _ hiw))
    have hW1 : s.WarmedH vm₁ := X₁.warmed
    have pre0 : tPre D ty wf st H.size As As.toArray (T.setVm vm₁) := by
      refine ⟨rfl, by rw [← hT]; rfl, ?_, hK.moved hW1, I.2.1.weaken (fun _ _ _ _ => trivial), ?_⟩
      · show va_P D classes (wf st) T.heap
        rw [hT]; exact I.1
      · show tX (va_A (wf st) H.size) (T.setVm vm₁) T.heap
        rw [hT]
        exact ((tx.kept I.2.2.2.1).warm (U := T.setVm vm₁) hW1).narrow (fun q _ h => gfree hA I q h)
    obtain ⟨v, ⟨U', l2, c2, s2⟩, X', hpost, hsteps⟩ := hB m meth c ⟨T.setVm vm₁, locs, cells, slots⟩ (F0 m pc ls rest) (.invokestatic index) mk As.toArray X₁ rfl (hls.trans S.2.2.1.symm) hdg' (lv_room hw) (X₁.named hnamed) ⟨hf.1, hf.2, pre0⟩
    obtain ⟨g', mk', t, L, e1, e2, hq, h1, hL, h2, h3⟩ := hpost
    dsimp only [Pt.U, Pt.locs, Pt.cells, Pt.slots] at X' e1 e2 h1 h2 h3 hsteps
    subst h1; subst h2; subst h3
    exact ⟨v, (T.setVm vm₁).calling g' mk' As.toArray, t, U', L, hT, X', hL, e1, e2, hq, fun t9 h9 => hstep₁ _ fun acts => by rw [doInvoke_state]; exact hsteps.trans h9⟩
  exact va_calli hrun I.2.2 (fun q _ h => gfree hA I q h) (gfree hA I) (fun r u t H1 locs1 ht hvm h hB hz hk hS => kk r u H1 locs1 h ⟨by rw [← ht]; exact hB.1, hB.2.2.weaken (fun _ q _ h9 => gfree hA I q.1 h9), hS⟩)
end LB
/-- what cell(script, 0) answers -/
def cell0 (L : Nat) (xs : Nat → Int32) : Int32 := if nI L ≤ 0 then 0 else xs 0
def scPre (b L : Nat) (xs : Nat → Int32) : Array Value → State → Prop := va_Pc [.ref b, .int 0] (fun U => va_X b L xs U U.heap)
theorem scblind {b L : Nat} {xs : Nat → Int32} : FrameBlind (scPre b L xs) := fun a U g mk q => ⟨q.1, va_X.moved (u := U) (U := U.calling g mk a) (Vm.Alike.refl U.vm) q.2⟩
