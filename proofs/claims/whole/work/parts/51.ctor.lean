/-! constructors: a world that grows -/
def nestR : Cond := .methodLinkNest "GroundReach" 20 ⟨"GroundReach$Rules", "<init>", "()V"⟩ "GroundReach"
def cK (D : va_G) (cA : ClassId × ClassId × ClassId) (U : State) : Prop := gK D (tyA cA) U ∧ va_Nw nestR U
theorem cK.moved {D : va_G} {cA : ClassId × ClassId × ClassId} {s U : State} (hW : s.WarmedH U.vm) (h : cK D cA s) : cK D cA U := ⟨h.1.moved hW, va_Nw.warmM hW h.2⟩
theorem cK.calling {D : va_G} {cA : ClassId × ClassId × ClassId} {U : State} (g : JFrame) (mk : MethodId) (a : Array Value) (h : cK D cA U) : cK D cA (U.calling g mk a) := ⟨h.1.calling g mk a, va_Nw.same (u := U) (U := U.calling g mk a) rfl rfl h.2⟩
/-- where a constructor's walk stands -/
def kI (D : va_G) (A : Nat → Prop) (s : State) (w : va_W) (H : Heap) (locs : List Loc) : Prop := va_P D classes w H ∧ va_D A w ∧ va_S A s.heap H locs
def ctPre (D : va_G) (cA : ClassId × ClassId × ClassId) (w : va_W) (sz : Nat) (av : List Value) : Array Value → State → Prop := va_Pc av (fun U => U.heap.size = sz ∧ va_P D classes w U.heap ∧ cK D cA U ∧ va_D (fun _ => True) w)
def ctQ {τ : Type} (D : va_G) (cA : ClassId × ClassId × ClassId) (A : Nat → Prop) (Q : τ → Prop) (wf : τ → va_W) : Array Value → State → Outcome → State → Prop := va_Qv Q (fun u t => va_P D classes (wf u) t.heap ∧ va_D A (wf u)) A
def ctV {τ : Type} (l : Launch) (y : MethodName) (ws : List Cond) (rm : Room) (D : va_G) (cA : ClassId × ClassId × ClassId) (w : va_W) (av : List Value) (mc ms : Nat) (Q : τ → Prop) (wf : τ → va_W) : Prop :=
  ∀ sz, Met l y ws rm (ctPre D cA w sz av) (ctQ D cA (va_A w sz) Q wf) mc ms (va_A w sz)
section KT
variable {τ : Type}
theorem ctV_of {l : Launch} {y : MethodName} {cc : ByteArray} {nL : Nat} {rm : Room} {D : va_G} {cA : ClassId × ClassId × ClassId} {w : va_W} {av : List Value} {mc ms : Nat} {Q : τ → Prop} {wf : τ → va_W} (hy : plainName y.cls = true) (hyn : y.name = "<init>") (hlen : (lg_sl av).length ≤ nL)
    (body : ∀ (p : Program) (e : Env) (s : State) (m : MethodId) (below : List Frame) (meth : Method) (c : Code), CallFix p m c cc nL s av.toArray gtbl y.cls → meth.sig.returnType = none → meth.locks = false → meth.name = "<init>" → cK D cA s → ∀ A : Nat → Prop, (∀ q : Nat, s.heap.size ≤ q → A q) → kI D A s w s.heap [] →
      ∀ ls : Array Slot, lv_has ls nL (lv_args 0 av) → W p l e rm s m av.toArray below meth c s.heap [] 0 0 (MQ below (ctQ D cA A Q wf) av.toArray s mc ms A) (F0 m 0 ls [])) : ctV l y (wsOf y cc nL none) rm D cA w av mc ms Q wf := by
  intro sz
  refine Met.ofW (cc := cc) (maxL := nL) (ret := none) hy rfl ?_
  intro p e s m args below meth c s₁ B hml hv
  obtain ⟨rfl, hsz, hP, hK, hD0⟩ := hv
  have hts := atoms_spec (ws := wsOf y cc nL none) B.pre
  have hl := lv_entry av (n := nL) hlen
  rw [lg_entry_eq]
  generalize (lg_sl av ++ List.replicate (nL - (lg_sl av).length) Slot.unset).toArray = ls at hl ⊢
  subst hsz
  exact body p e s m below meth c ⟨B.exec, B.bytes, hml, findClass_of_methodNamed B.named, fun w hw => hts w (List.mem_cons_of_mem _ hw)⟩ B.returns B.notSynchronized ((name_of_methodNamed B.named B.method).1.trans hyn) hK _ (fun q h => Or.inr h) ⟨hP, hD0.self, va_S.rf⟩ ls hl
variable {p : Program} {l : Launch} {e : Env} {R : Room} {s : State} {m : MethodId} {args : Array Value} {below : List Frame} {meth : Method} {c : Code} {H : Heap} {locs : List Loc} {cells slots : Nat} {Q : State → Prop} {cc : ByteArray} {nL pc : Nat} {ls : Array Slot} {own : String} {D : va_G} {cA : ClassId × ClassId × ClassId} {A : Nat → Prop} {w : va_W} {rest : List Value}
/-- an array class has one number -/
theorem cls_eq {ty : List (ClassId × FieldType)} {c1 c2 : ClassId} {t : FieldType} {i j : Nat} (hK : va_K D classes ty s) (h1 : ty[i]? = some (c1, t)) (h2 : ty[j]? = some (c2, t)) (ht : ∀ C, t ≠ .object C) : c1 = c2 := by
  have a := (hK.2 i _ h1).2
  have b := (hK.2 j _ h2).2
  cases t <;> first | exact Option.some.inj (a.symm.trans b) | exact (ht _ rfl).elim
theorem k_newI {n : Int32} {N : Nat} (hK : cK D cA s) (S : CallFix p m c cc nL s args gtbl own) (harr : Cond.arrayClass .int ∈ gtbl) (hA : ∀ q : Nat, s.heap.size ≤ q → A q) (I : kI D A s w H locs) (hn : ¬ n < 0) (hN : n.toNatClampNeg = N) (hby : N * componentBytes .int ≤ 536870912) (hc : cells + 1 ≤ R.cells) (hs : slots + N ≤ R.slots) (hdg : decode cc pc = .ok (.newarray .int, 2))
    (kk : ∀ (q : Nat) (H1 : Heap), kI D A s (w ++ [(q, .inl (cA.1, N, .inl (fun _ => 0)))]) H1 locs → W p l e R s m args below meth c H1 locs (cells + 1) (slots + N) Q (F0 m (pc + 2) ls (.ref q :: rest))) : W p l e R s m args below meth c H locs cells slots Q (F0 m pc ls (.int n :: rest)) := by
  refine va_newa (atype := .int) (ty := .int) (a0 := (N, .inl (fun _ => 0))) S.1 S.2.1 (S.2.2.2.2 _ harr) rfl hK.1.1 I.1 I.2.1 I.2.2 hA (fun _ => rfl) hn hN hby hc hs hdg (fun q c1 H1 hK1 hP hD hS => ?_)
  have e1 : c1 = cA.1 := cls_eq (i := 3) (j := 0) hK1 rfl rfl (fun C h => by cases h)
  subst e1
  exact kk q H1 ⟨hP, hD, hS⟩
theorem k_newJ {n : Int32} {N : Nat} (hK : cK D cA s) (S : CallFix p m c cc nL s args gtbl own) (harr : Cond.arrayClass .long ∈ gtbl) (hA : ∀ q : Nat, s.heap.size ≤ q → A q) (I : kI D A s w H locs) (hn : ¬ n < 0) (hN : n.toNatClampNeg = N) (hby : N * componentBytes .long ≤ 536870912) (hc : cells + 1 ≤ R.cells) (hs : slots + N ≤ R.slots) (hdg : decode cc pc = .ok (.newarray .long, 2))
    (kk : ∀ (q : Nat) (H1 : Heap), kI D A s (w ++ [(q, .inl (cA.2.1, N, .inr (.inl (fun _ => 0))))]) H1 locs → W p l e R s m args below meth c H1 locs (cells + 1) (slots + N) Q (F0 m (pc + 2) ls (.ref q :: rest))) : W p l e R s m args below meth c H locs cells slots Q (F0 m pc ls (.int n :: rest)) := by
  refine va_newa (atype := .long) (ty := .long) (a0 := (N, .inr (.inl (fun _ => 0)))) S.1 S.2.1 (S.2.2.2.2 _ harr) rfl hK.1.1 I.1 I.2.1 I.2.2 hA (fun _ => rfl) hn hN hby hc hs hdg (fun q c1 H1 hK1 hP hD hS => ?_)
  have e1 : c1 = cA.2.1 := cls_eq (i := 3) (j := 1) hK1 rfl rfl (fun C h => by cases h)
  subst e1
  exact kk q H1 ⟨hP, hD, hS⟩
theorem k_newZ {n : Int32} {N : Nat} (hK : cK D cA s) (S : CallFix p m c cc nL s args gtbl own) (harr : Cond.arrayClass .boolean ∈ gtbl) (hA : ∀ q : Nat, s.heap.size ≤ q → A q) (I : kI D A s w H locs) (hn : ¬ n < 0) (hN : n.toNatClampNeg = N) (hby : N * componentBytes .boolean ≤ 536870912) (hc : cells + 1 ≤ R.cells) (hs : slots + N ≤ R.slots) (hdg : decode cc pc = .ok (.newarray .boolean, 2))
    (kk : ∀ (q : Nat) (H1 : Heap), kI D A s (w ++ [(q, .inl (cA.2.2, N, .inl (fun _ => 0)))]) H1 locs → W p l e R s m args below meth c H1 locs (cells + 1) (slots + N) Q (F0 m (pc + 2) ls (.ref q :: rest))) : W p l e R s m args below meth c H locs cells slots Q (F0 m pc ls (.int n :: rest)) := by
  refine va_newa (atype := .boolean) (ty := .boolean) (a0 := (N, .inl (fun _ => 0))) S.1 S.2.1 (S.2.2.2.2 _ harr) rfl hK.1.1 I.1 I.2.1 I.2.2 hA (fun _ => rfl) hn hN hby hc hs hdg (fun q c1 H1 hK1 hP hD hS => ?_)
  have e1 : c1 = cA.2.2 := cls_eq (i := 3) (j := 2) hK1 rfl rfl (fun C h => by cases h)
  subst e1
  exact kk q H1 ⟨hP, hD, hS⟩
theorem ret_ct {u : τ} {Q0 : τ → Prop} {wf : τ → va_W} {mc ms : Nat} {Ts : List Cond} (S : CallFix p m c cc nL s args Ts own) (hr : meth.sig.returnType = none) (hlk : meth.locks = false) (I : kI D A s (wf u) H locs) (h : Q0 u) (d : decode cc pc = .ok (.return_, 1)) : W p l e R s m args below meth c H locs mc ms (MQ below (ctQ D cA A Q0 wf) args s mc ms A) (F0 m pc ls []) :=
  W.vret S.1 S.2.1 hr (fun t ht hW => ⟨⟨u, rfl, h, by rw [ht]; exact I.1, I.2.1⟩, I.2.2.F ht⟩) I.2.2.2.2 d hlk
variable {index n maxL mc ms : Nat} {y : MethodName} {bytes : ByteArray} {rm : Room} {ws : List Cond} {b : Addr} {As st0 : List Value} {w0 w1 : va_W}
theorem ctblind {sz : Nat} {av : List Value} : FrameBlind (ctPre D cA w sz av) := fun a U g mk q => by
  obtain ⟨q0, q1, qP, qK, qD⟩ := q
  exact ⟨q0, q1, qP, qK.calling g mk a, qD⟩
/-- the words of a constructor that is called -/
def kC (y : MethodName) (b : ByteArray) (n : Nat) (k : Nat) : Prop :=
  Cond.instanceMethod y ∈ gtbl ∧ Cond.initialized y.cls ∈ gtbl ∧ Cond.code y b n none ∈ gtbl ∧ y.name = "<init>" ∧ y.cls ≠ "java/lang/invoke/MethodHandle" ∧ y.cls ≠ "java/lang/invoke/VarHandle" ∧ (parseMethodDescriptor y.desc).map (fun d => d.parameters.length) = some k
/-- a nested constructor on the newest cell: the others stay -/
theorem call_ct {wf : τ → va_W} {Q0 : τ → Prop} (S : CallFix p m c cc nL s args gtbl own) (hM : ctV l y (wsOf y bytes maxL none) rm D cA w1 (.ref b :: As) mc ms Q0 wf) (hlk : Cond.methodLink own index y ∈ gtbl) (hk : kC y bytes maxL n) (hrc : rm.cells = mc) (hrs : rm.slots = ms) (hR : rm.frames + 1 ≤ R.frames ∧ 8 + (maxL + 11) + rm.locals ≤ R.locals) (hK : cK D cA s) (hA : ∀ q : Nat, s.heap.size ≤ q → A q) (I : kI D A s (w0 ++ w1) H locs)
    (hls : ls.size = nL) (hn : As.length = n) (hst : st0 = As.reverse ++ .ref b :: rest) (hw : (rest.map fun v => v.category).sum ≤ 8) (hdg : decode cc pc = .ok (.invokespecial index, 3)) (hf : cells + mc ≤ R.cells ∧ slots + ms ≤ R.slots)
    (kk : ∀ (u : τ) (H1 : Heap) (locs1 : List Loc), Q0 u → kI D A s (w0 ++ wf u) H1 locs1 → W p l e R s m args below meth c H1 locs1 (cells + mc) (slots + ms) Q (F0 m (pc + 3) ls rest)) : W p l e R s m args below meth c H locs cells slots Q (F0 m pc ls st0) := by
  obtain ⟨h2, h4, h5, hyn, h6⟩ := hk
  have hts := S.2.2.2.2
  have I' : va_P D classes (w0 ++ (w1 ++ [])) H ∧ va_D A (w0 ++ (w1 ++ [])) := by rw [List.append_nil]; exact ⟨I.1, I.2.1⟩
  have hP1 : va_P D classes w1 H := ap_P2 I.1
  have hD1 : va_D A w1 := ap_D2 I.2.1
  have hF : ∀ q, va_A w1 H.size q → A q := by
    intro q h
    rcases h with ⟨k, e9, h⟩ | h
    · exact hD1.2 k _ h
    · exact hA q (Nat.le_trans I.2.2.1 h)
  refine va_callv (va_runI S (hM H.size) ⟨callB_of n hts (wsOf_good h5) rfl hrc hrs (hts _ h4) (hts _ hlk) h6 hR, hyn, hts _ h2⟩ ⟨ctblind, fun U hU hW => ⟨rfl, by rw [hU], by rw [hU]; exact hP1, hK.moved hW, hD1.weaken (fun _ _ _ _ => trivial)⟩⟩ rfl hn hls hst (lv_room hw) hdg hf) I.2.2 (fun q _ h => hF q h) hF (fun u t H1 locs1 ht hvm h hB hz hk hS => ?_)
  have hj := ap_join I'.1 I'.2 hk hF (by rw [← ht]; exact hB.1) hB.2
  rw [List.append_nil] at hj
  exact kk u H1 locs1 h ⟨hj.1, hj.2, hS⟩
/-- .. the same where the constructor is a nest mate's private one -/
theorem call_ctN {host : String} {wf : τ → va_W} {Q0 : τ → Prop} (S : CallFix p m c cc nL s args gtbl own) (hM : ctV l y (wsOf y bytes maxL none) rm D cA w1 (.ref b :: As) mc ms Q0 wf) (hlk : va_Nw (.methodLinkNest own index y host) s) (hk : kC y bytes maxL n) (hrc : rm.cells = mc) (hrs : rm.slots = ms) (hR : rm.frames + 1 ≤ R.frames ∧ 8 + (maxL + 11) + rm.locals ≤ R.locals) (hK : cK D cA s) (hA : ∀ q : Nat, s.heap.size ≤ q → A q) (I : kI D A s (w0 ++ w1) H locs)
    (hls : ls.size = nL) (hn : As.length = n) (hst : st0 = As.reverse ++ .ref b :: rest) (hw : (rest.map fun v => v.category).sum ≤ 8) (hdg : decode cc pc = .ok (.invokespecial index, 3)) (hf : cells + mc ≤ R.cells ∧ slots + ms ≤ R.slots)
    (kk : ∀ (u : τ) (H1 : Heap) (locs1 : List Loc), Q0 u → kI D A s (w0 ++ wf u) H1 locs1 → W p l e R s m args below meth c H1 locs1 (cells + mc) (slots + ms) Q (F0 m (pc + 3) ls rest)) : W p l e R s m args below meth c H locs cells slots Q (F0 m pc ls st0) := by
  obtain ⟨h2, h4, h5, hyn, h6⟩ := hk
  have hts := S.2.2.2.2
  have I' : va_P D classes (w0 ++ (w1 ++ [])) H ∧ va_D A (w0 ++ (w1 ++ [])) := by rw [List.append_nil]; exact ⟨I.1, I.2.1⟩
  have hP1 : va_P D classes w1 H := ap_P2 I.1
  have hD1 : va_D A w1 := ap_D2 I.2.1
  have hF : ∀ q, va_A w1 H.size q → A q := by
    intro q h
    rcases h with ⟨k, e9, h⟩ | h
    · exact hD1.2 k _ h
    · exact hA q (Nat.le_trans I.2.2.1 h)
  refine va_callv (va_runIN S (hM H.size) ⟨va_cnB n hts (wsOf_good h5) rfl hrc hrs hlk (hts _ h4) h6 hR, hyn, hts _ h2⟩ ⟨ctblind, fun U hU hW => ⟨rfl, by rw [hU], by rw [hU]; exact hP1, hK.moved hW, hD1.weaken (fun _ _ _ _ => trivial)⟩⟩ rfl hn hls hst (lv_room hw) hdg hf) I.2.2 (fun q _ h => hF q h) hF (fun u t H1 locs1 ht hvm h hB hz hk hS => ?_)
  have hj := ap_join I'.1 I'.2 hk hF (by rw [← ht]; exact hB.1) hB.2
  rw [List.append_nil] at hj
  exact kk u H1 locs1 h ⟨hj.1, hj.2, hS⟩
end KT
