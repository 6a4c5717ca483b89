/-! rules: how many, left and right sides -/
abbrev Rul : Type := Nat × (Nat → Nat) × (Nat → Nat)
def rn (R : Rul) : Nat := R.1
def rl (R : Rul) : Nat → Nat := R.2.1
def rr (R : Rul) : Nat → Nat := R.2.2
def rOk (T : Tab) (R : Rul) : Prop := rn R ≤ 8 ∧ ∀ i, i < rn R → rl R i < tn T ∧ rr R i < tn T ∧ rl R i ≠ rr R i
/-- one symbol, and the parts are related -/
def cg (T : Tab) (X : Nat → Nat → Prop) (s t : Nat) : Prop := ts T s = ts T t ∧ (1 ≤ tq T s → X (ta T s) (ta T t)) ∧ (2 ≤ tq T s → X (tb T s) (tb T t))
theorem cg.q {T : Tab} {X : Nat → Nat → Prop} {s t : Nat} (h : cg T X s t) : tq T s = tq T t := by unfold tq; rw [h.1]
theorem cg.mono {T : Tab} {X Y : Nat → Nat → Prop} {s t : Nat} (h : cg T X s t) (g : ∀ a b, X a b → Y a b) : cg T Y s t := ⟨h.1, fun h1 => g _ _ (h.2.1 h1), fun h1 => g _ _ (h.2.2 h1)⟩
def rcC (T : Tab) (R : Rul) (X : Nat → Nat → Prop) : Prop :=
  (∀ s, s < tn T → X s s) ∧ (∀ s t, s < tn T → t < tn T → cg T X s t → X s t) ∧ (∀ i s t, i < rn R → s < tn T → t < tn T → X s (rl R i) → X (rr R i) t → X s t)
def Rch (T : Tab) (R : Rul) (s t : Nat) : Prop := s < tn T ∧ t < tn T ∧ ∀ X, rcC T R X → X s t
section
variable {T : Tab} {R : Rul}
theorem Rch.rf {s : Nat} (h : s < tn T) : Rch T R s s := ⟨h, h, fun _ hX => hX.1 s h⟩
theorem Rch.cn {s t : Nat} (hs : s < tn T) (ht : t < tn T) (g : cg T (Rch T R) s t) : Rch T R s t := ⟨hs, ht, fun X hX => hX.2.1 s t hs ht (g.mono (fun _ _ h => h.2.2 X hX))⟩
theorem Rch.ru {i s t : Nat} (hi : i < rn R) (h1 : Rch T R s (rl R i)) (h2 : Rch T R (rr R i) t) : Rch T R s t := ⟨h1.1, h2.2.1, fun X hX => hX.2.2 i s t hi h1.1 h2.2.1 (h1.2.2 X hX) (h2.2.2 X hX)⟩
theorem Rch.closed : rcC T R (Rch T R) := ⟨fun _ h => Rch.rf h, fun _ _ hs ht g => Rch.cn hs ht g, fun _ _ _ hi _ _ h1 h2 => Rch.ru hi h1 h2⟩
/-- induction over what reaches what -/
theorem Rch.ind {X : Nat → Nat → Prop} (hr : ∀ s, s < tn T → X s s) (hc : ∀ s t, s < tn T → t < tn T → cg T (Rch T R) s t → cg T X s t → X s t) (hl : ∀ i s t, i < rn R → Rch T R s (rl R i) → Rch T R (rr R i) t → X s (rl R i) → X (rr R i) t → X s t) {s t : Nat} (h : Rch T R s t) : X s t := by
  have := h.2.2 (fun s t => Rch T R s t ∧ X s t) ⟨fun s hs => ⟨Rch.rf hs, hr s hs⟩, fun s t hs ht g => ⟨Rch.cn hs ht (g.mono (fun _ _ h => h.1)), hc s t hs ht (g.mono (fun _ _ h => h.1)) (g.mono (fun _ _ h => h.2))⟩, fun i s t hi hs ht h1 h2 => ⟨Rch.ru hi h1.1 h2.1, hl i s t hi h1.1 h2.1 h1.2 h2.2⟩⟩
  exact this.2
theorem cg_tr {X Y Z : Nat → Nat → Prop} (h : ∀ a b c, X a b → Y b c → Z a c) {s t u : Nat} (h1 : cg T X s t) (h2 : cg T Y t u) : cg T Z s u :=
  ⟨h1.1.trans h2.1, fun g => h _ _ _ (h1.2.1 g) (h2.2.1 (h1.q ▸ g)), fun g => h _ _ _ (h1.2.2 g) (h2.2.2 (h1.q ▸ g))⟩
theorem Rch.trans {s t u : Nat} (h1 : Rch T R s t) (h2 : Rch T R t u) : Rch T R s u := by
  have key : ∀ s t, Rch T R s t → ∀ u, Rch T R t u → Rch T R s u := by
    intro s t h
    refine Rch.ind (X := fun s t => ∀ u, Rch T R t u → Rch T R s u) (fun s _ u h => h) ?_ ?_ h
    · intro s t hs ht gR g u hu
      refine Rch.ind (X := fun t u => ∀ s, s < tn T → cg T (Rch T R) s t → cg T (fun s t => ∀ u, Rch T R t u → Rch T R s u) s t → Rch T R s u) ?_ ?_ ?_ hu s hs gR g
      · intro t ht s hs gR g
        exact Rch.cn hs ht gR
      · intro t u ht hu gR2 _ s hs gR g
        exact Rch.cn hs hu (cg_tr (fun a b c h1 h2 => h1 c h2) g gR2)
      · intro i t u hi h1 h2 x1 x2 s hs gR g
        exact Rch.ru hi (x1 s hs gR g) h2
    · intro i s t hi h1 h2 x1 x2 u hu
      exact Rch.ru hi h1 (x2 u hu)
  exact key s t h1 u h2
theorem Rch.rule {i : Nat} (o : rOk T R) (hi : i < rn R) : Rch T R (rl R i) (rr R i) := Rch.ru hi (Rch.rf (o.2 i hi).1) (Rch.rf (o.2 i hi).2.1)
/-! what meets what -/
def jnC (T : Tab) (R : Rul) (J : Nat → Nat → Prop) : Prop :=
  (∀ s t, Rch T R s t → J s t) ∧ (∀ s t, s < tn T → t < tn T → J s t → J t s) ∧ (∀ s t, s < tn T → t < tn T → cg T J s t → J s t) ∧ (∀ i s t, i < rn R → t < tn T → Rch T R s (rl R i) → J (rr R i) t → J s t)
def Jn (T : Tab) (R : Rul) (s t : Nat) : Prop := s < tn T ∧ t < tn T ∧ ∀ J, jnC T R J → J s t
theorem Jn.go {s t : Nat} (h : Rch T R s t) : Jn T R s t := ⟨h.1, h.2.1, fun _ hJ => hJ.1 s t h⟩
theorem Jn.sy {s t : Nat} (h : Jn T R s t) : Jn T R t s := ⟨h.2.1, h.1, fun J hJ => hJ.2.1 s t h.1 h.2.1 (h.2.2 J hJ)⟩
theorem Jn.cn {s t : Nat} (hs : s < tn T) (ht : t < tn T) (g : cg T (Jn T R) s t) : Jn T R s t := ⟨hs, ht, fun J hJ => hJ.2.2.1 s t hs ht (g.mono (fun _ _ h => h.2.2 J hJ))⟩
theorem Jn.ru {i s t : Nat} (hi : i < rn R) (h1 : Rch T R s (rl R i)) (h2 : Jn T R (rr R i) t) : Jn T R s t := ⟨h1.1, h2.2.1, fun J hJ => hJ.2.2.2 i s t hi h2.2.1 h1 (h2.2.2 J hJ)⟩
theorem Jn.ind {X : Nat → Nat → Prop} (hg : ∀ s t, Rch T R s t → X s t) (hy : ∀ s t, Jn T R s t → X s t → X t s) (hc : ∀ s t, s < tn T → t < tn T → cg T (Jn T R) s t → cg T X s t → X s t) (hl : ∀ i s t, i < rn R → Rch T R s (rl R i) → Jn T R (rr R i) t → X (rr R i) t → X s t) {s t : Nat} (h : Jn T R s t) : X s t := by
  have := h.2.2 (fun s t => Jn T R s t ∧ X s t) ⟨fun s t h => ⟨Jn.go h, hg s t h⟩, fun s t _ _ h => ⟨h.1.sy, hy s t h.1 h.2⟩, fun s t hs ht g => ⟨Jn.cn hs ht (g.mono (fun _ _ h => h.1)), hc s t hs ht (g.mono (fun _ _ h => h.1)) (g.mono (fun _ _ h => h.2))⟩, fun i s t hi ht h1 h2 => ⟨Jn.ru hi h1 h2.1, hl i s t hi h1 h2.1 h2.2⟩⟩
  exact this.2
theorem cg_sy {X Y : Nat → Nat → Prop} (h : ∀ a b, X a b → Y b a) {s t : Nat} (g : cg T X s t) : cg T Y t s := ⟨g.1.symm, fun h1 => h _ _ (g.2.1 (g.q.symm ▸ h1)), fun h1 => h _ _ (g.2.2 (g.q.symm ▸ h1))⟩
/-- two that reach one meet -/
theorem Jn.two {x y : Nat} (h : Rch T R x y) : ∀ u, Rch T R u y → Jn T R x u := by
  refine Rch.ind (X := fun x y => ∀ u, Rch T R u y → Jn T R x u) (fun s _ u h => (Jn.go h).sy) ?_ ?_ h
  · intro x y hx hy gR g u hu
    refine Rch.ind (X := fun u y => ∀ x, x < tn T → cg T (Rch T R) x y → cg T (fun x y => ∀ u, Rch T R u y → Jn T R x u) x y → Jn T R x u) ?_ ?_ ?_ hu x hx gR g
    · intro y hy x hx gR g
      exact Jn.go (Rch.cn hx hy gR)
    · intro u y hu hy gR2 _ x hx gR g
      exact Jn.cn hx hu (cg_tr (fun a b c h1 h2 => h1 c h2) g (cg_sy (fun a b h => h) gR2))
    · intro i u y hi h1 h2 x1 x2 x hx gR g
      exact (Jn.ru hi h1 (x2 x hx gR g).sy).sy
  · intro i s t hi h1 h2 x1 x2 u hu
    exact Jn.ru hi h1 (x2 u hu)
/-- what reaches one of two that meet meets the other -/
theorem Jn.inh {u v w : Nat} (h : Rch T R u v) (h2 : Jn T R v w) : Jn T R u w := by
  refine Rch.ind (X := fun u v => ∀ w, Jn T R v w → Jn T R u w) (fun s _ w h => h) ?_ ?_ h w h2
  · intro u v hu hv gR g w hw
    have gR' := Rch.cn hu hv gR
    refine (Jn.ind (X := fun v w => (∀ u, u < tn T → Rch T R u v → cg T (fun u v => ∀ w, Jn T R v w → Jn T R u w) u v → Jn T R u w) ∧ (∀ u, u < tn T → Rch T R u w → cg T (fun u v => ∀ w, Jn T R v w → Jn T R u w) u w → Jn T R u v)) ?_ ?_ ?_ ?_ hw).1 u hu gR' g
    · intro x y hxy
      exact ⟨fun u _ hr _ => Jn.go (hr.trans hxy), fun u _ hr _ => (Jn.two hxy u hr).sy⟩
    · intro x y _ hx
      exact ⟨hx.2, hx.1⟩
    · intro x y hx hy gJ _
      exact ⟨fun u hu _ g => Jn.cn hu hy (cg_tr (fun a b c h1 h2 => h1 c h2) g gJ), fun u hu _ g => Jn.cn hu hx (cg_tr (fun a b c h1 h2 => h1 c h2) g (cg_sy (fun a b h => h.sy) gJ))⟩
    · intro i x y hi h1 h2 hx
      exact ⟨fun u _ hr _ => Jn.ru hi (hr.trans h1) h2, fun u hu hr g => (Jn.ru hi h1 (hx.2 u hu hr g).sy).sy⟩
  · intro i s t hi h1 h2 x1 x2 w hw
    exact Jn.ru hi h1 (x2 w hw)
/-- the class's closure is the same -/
theorem Jn.cls {J : Nat → Nat → Prop} (o : rOk T R) (h1 : ∀ s, s < tn T → J s s) (h2 : ∀ u v w, Rch T R u v → w < tn T → J v w → J u w) (h3 : ∀ s t, s < tn T → t < tn T → J s t → J t s) (h4 : ∀ s t, s < tn T → t < tn T → cg T J s t → J s t) {s t : Nat} (h : Jn T R s t) : J s t :=
  h.2.2 J ⟨fun s t h => h2 s t t h h.2.1 (h1 t h.2.1), h3, h4, fun i s t hi ht h5 h6 => h2 s _ t (h5.trans (Rch.rule o hi)) ht h6⟩
end
/-! transitions: how many; symbol, first, second, target -/
abbrev Aut : Type := Nat × (Nat → Nat) × (Nat → Nat) × (Nat → Nat) × (Nat → Nat)
def an (A : Aut) : Nat := A.1
def as' (A : Aut) : Nat → Nat := A.2.1
def a1' (A : Aut) : Nat → Nat := A.2.2.1
def a2' (A : Aut) : Nat → Nat := A.2.2.2.1
def at' (A : Aut) : Nat → Nat := A.2.2.2.2
def aOk (T : Tab) (A : Aut) : Prop := an A ≤ 20 ∧ ∀ e, e < an A → as' A e < 6 ∧ a1' A e < 6 ∧ a2' A e < 6 ∧ at' A e < 6 ∧ (tp T (as' A e) < 1 → a1' A e = 0) ∧ (tp T (as' A e) < 2 → a2' A e = 0)
/-- transition e takes t to its state, its parts' states being S -/
def byE (T : Tab) (A : Aut) (S : Nat → Nat → Prop) (t e : Nat) : Prop := as' A e = ts T t ∧ (1 ≤ tq T t → S (ta T t) (a1' A e)) ∧ (2 ≤ tq T t → S (tb T t) (a2' A e))
theorem byE.mono {T : Tab} {A : Aut} {X Y : Nat → Nat → Prop} {s t : Nat} (h : byE T A X s t) (g : ∀ a b, X a b → Y a b) : byE T A Y s t := ⟨h.1, fun h1 => g _ _ (h.2.1 h1), fun h1 => g _ _ (h.2.2 h1)⟩
def stC (T : Tab) (R : Rul) (A : Aut) (how : Nat) (S : Nat → Nat → Prop) : Prop :=
  (∀ e t, e < an A → t < tn T → byE T A S t e → S t (at' A e)) ∧ (how = 1 → ∀ i t q, i < rn R → q < 6 → Rch T R (rr R i) t → S (rl R i) q → S t q) ∧ (how = 2 → ∀ i t q, i < rn R → q < 6 → Rch T R t (rl R i) → S (rr R i) q → S t q)
def Stt (T : Tab) (R : Rul) (A : Aut) (how t q : Nat) : Prop := t < tn T ∧ q < 6 ∧ ∀ S, stC T R A how S → S t q
section
variable {T : Tab} {R : Rul} {A : Aut} {how : Nat}
theorem Stt.ed (o : aOk T A) {e t : Nat} (he : e < an A) (ht : t < tn T) (g : byE T A (Stt T R A how) t e) : Stt T R A how t (at' A e) := ⟨ht, (o.2 e he).2.2.2.1, fun S hS => hS.1 e t he ht (g.mono (fun _ _ h => h.2.2 S hS))⟩
theorem Stt.r1 (hh : how = 1) {i t q : Nat} (hi : i < rn R) (h1 : Rch T R (rr R i) t) (h2 : Stt T R A how (rl R i) q) : Stt T R A how t q := ⟨h1.2.1, h2.2.1, fun S hS => hS.2.1 hh i t q hi h2.2.1 h1 (h2.2.2 S hS)⟩
theorem Stt.r2 (hh : how = 2) {i t q : Nat} (hi : i < rn R) (h1 : Rch T R t (rl R i)) (h2 : Stt T R A how (rr R i) q) : Stt T R A how t q := ⟨h1.1, h2.2.1, fun S hS => hS.2.2 hh i t q hi h2.2.1 h1 (h2.2.2 S hS)⟩
theorem Stt.ind (o : aOk T A) {X : Nat → Nat → Prop} (he : ∀ e t, e < an A → t < tn T → byE T A (Stt T R A how) t e → byE T A X t e → X t (at' A e)) (h1 : how = 1 → ∀ i t q, i < rn R → Rch T R (rr R i) t → Stt T R A how (rl R i) q → X (rl R i) q → X t q) (h2 : how = 2 → ∀ i t q, i < rn R → Rch T R t (rl R i) → Stt T R A how (rr R i) q → X (rr R i) q → X t q) {t q : Nat} (h : Stt T R A how t q) : X t q := by
  have := h.2.2 (fun t q => Stt T R A how t q ∧ X t q) ⟨fun e t h3 ht g => ⟨Stt.ed o h3 ht (g.mono (fun _ _ h => h.1)), he e t h3 ht (g.mono (fun _ _ h => h.1)) (g.mono (fun _ _ h => h.2))⟩, fun hh i t q hi hq h3 h4 => ⟨Stt.r1 hh hi h3 h4.1, h1 hh i t q hi h3 h4.1 h4.2⟩, fun hh i t q hi hq h3 h4 => ⟨Stt.r2 hh hi h3 h4.1, h2 hh i t q hi h3 h4.1 h4.2⟩⟩
  exact this.2
theorem byE_cg {X : Nat → Nat → Prop} {Y Z : Nat → Nat → Prop} (h : ∀ a b q, X a b → Y a q → Z b q) {u v e : Nat} (g : cg T X u v) (b : byE T A Y u e) : byE T A Z v e := ⟨b.1.trans g.1, fun h1 => h _ _ _ (g.2.1 (g.q.symm ▸ h1)) (b.2.1 (g.q.symm ▸ h1)), fun h1 => h _ _ _ (g.2.2 (g.q.symm ▸ h1)) (b.2.2 (g.q.symm ▸ h1))⟩
theorem byE_cg' {X : Nat → Nat → Prop} {Y Z : Nat → Nat → Prop} (h : ∀ a b q, X a b → Y b q → Z a q) {u v e : Nat} (g : cg T X u v) (b : byE T A Y v e) : byE T A Z u e := ⟨b.1.trans g.1.symm, fun h1 => h _ _ _ (g.2.1 h1) (b.2.1 (g.q ▸ h1)), fun h1 => h _ _ _ (g.2.2 h1) (b.2.2 (g.q ▸ h1))⟩
/-- forward: what a term stands for goes on with what it reaches -/
theorem Stt.fwd (o : aOk T A) (hh : how = 1) {u v : Nat} (h : Rch T R u v) : ∀ q, Stt T R A how u q → Stt T R A how v q := by
  refine Rch.ind (X := fun u v => ∀ q, Stt T R A how u q → Stt T R A how v q) (fun _ _ _ h => h) ?_ ?_ h
  · intro u v hu hv gR g q hq
    have hr := Rch.cn hu hv gR
    refine Stt.ind o (X := fun u q => ∀ v, v < tn T → Rch T R u v → cg T (fun u v => ∀ q, Stt T R A how u q → Stt T R A how v q) u v → Stt T R A how v q) ?_ ?_ ?_ hq v hv hr g
    · intro e t he ht b _ v hv hr g
      exact Stt.ed o he hv (byE_cg (fun a b q h1 h2 => h1 q h2) g b)
    · intro _ i t q hi h1 h2 _ v hv hr g
      exact Stt.r1 hh hi (h1.trans hr) h2
    · intro h9
      omega
  · intro i s t hi h1 h2 x1 x2 q hq
    exact Stt.r1 hh hi h2 (x1 q hq)
theorem Stt.bwd (o : aOk T A) (hh : how = 2) {u v : Nat} (h : Rch T R u v) : ∀ q, Stt T R A how v q → Stt T R A how u q := by
  refine Rch.ind (X := fun u v => ∀ q, Stt T R A how v q → Stt T R A how u q) (fun _ _ _ h => h) ?_ ?_ h
  · intro u v hu hv gR g q hq
    have hr := Rch.cn hu hv gR
    refine Stt.ind o (X := fun v q => ∀ u, u < tn T → Rch T R u v → cg T (fun u v => ∀ q, Stt T R A how v q → Stt T R A how u q) u v → Stt T R A how u q) ?_ ?_ ?_ hq u hu hr g
    · intro e t he ht b _ v hv hr g
      exact Stt.ed o he hv (byE_cg' (fun a b q h1 h2 => h1 q h2) g b)
    · intro h9
      omega
    · intro _ i t q hi h1 h2 _ v hv hr g
      exact Stt.r2 hh hi (hr.trans h1) h2
  · intro i s t hi h1 h2 x1 x2 q hq
    exact Stt.r2 hh hi h1 (x2 q hq)
end
