/-! contracts of the reference: TYPEs joined on trial, and what it is for them to be alike -/
/-- a TYPE, or a TYPE's declaration -/
def TQ (μ ζ : MS) (x : Int32) : Prop := Nd ζ 0 x ∨ Dk μ ζ x
/-- from a TYPE to the last one of its class -/
def Rt (ν : MS) : Nat → Int32 → Int32 → Prop
  | 0, x, r => x = r ∧ (ν.2.1 66 r.toNatClampNeg).toInt < 0
  | n + 1, x, r => 0 ≤ (ν.2.1 66 x.toNatClampNeg).toInt ∧ Rt ν n (ν.2.1 66 x.toNatClampNeg) r
/-- what was joined so far -/
def JM (ζ ν : MS) : Prop := 0 ≤ (ν.1 67).toInt ∧ (∀ j : Nat, (j : Int) < (ζ.1 19).toInt → ν.2.1 66 j = -1 ∨ ∃ k : Nat, (k : Int) < (ν.1 67).toInt ∧ (ν.2.1 68 k).toNatClampNeg = j) ∧ ∀ k : Nat, (k : Int) < (ν.1 67).toInt → (Nd ζ 0 (ν.2.1 68 k) ∧ Nd ζ 0 (ν.2.1 66 (ν.2.1 68 k).toNatClampNeg)) ∧ (ζ.2.1 20 (ν.2.1 66 (ν.2.1 68 k).toNatClampNeg).toNatClampNeg = ζ.2.1 20 (ν.2.1 68 k).toNatClampNeg ∧ ¬ ζ.2.1 20 (ν.2.1 68 k).toNatClampNeg = 20) ∧ (∀ i : Nat, (i : Int) < (ν.1 67).toInt → ν.2.1 66 (ν.2.1 68 k).toNatClampNeg = ν.2.1 68 i → k < i) ∧ ∀ i : Nat, (i : Int) < (ν.1 67).toInt → ν.2.1 68 i = ν.2.1 68 k → i = k
/-- a node's place -/
def InN (ζ : MS) (x : Int32) : Prop := 0 ≤ x.toInt ∧ x.toInt < (ζ.1 19).toInt
/-- TYPEs of one class -/
def Sm (ζ ν : MS) (p q : Int32) : Prop := (InN ζ (rlV ζ p) ∧ InN ζ (rlV ζ q)) ∧ ∃ r n m, Rt ν n (rlV ζ p) r ∧ Rt ν m (rlV ζ q) r
/-- what was joined is alike, but for pairs that are left -/
def JA (ζ ν : MS) (Q : Int32 → Int32 → Prop) : Prop := ∀ k : Nat, (k : Int) < (ν.1 67).toInt → PtR ζ (fun p q => Sm ζ ν p q ∨ Q p q) (ν.2.1 66 (ν.2.1 68 k).toNatClampNeg) (ν.2.1 68 k)
/-- joined, nothing left -/
def JK (ζ ν : MS) : Prop := JM ζ ν ∧ JA ζ ν (fun _ _ => False)
/-- TYPEs alike in a relation that keeps parts -/
def Bs (ζ : MS) (R : Int32 → Int32 → Prop) : Prop := ∀ p q, R p q → rlV ζ p = rlV ζ q ∨ PtR ζ R (rlV ζ p) (rlV ζ q)
def Alk (ζ : MS) (p q : Int32) : Prop := ∃ R, Bs ζ R ∧ R p q
/-- more was joined since -/
def JX (ν0 ν : MS) : Prop := kf [67, 69] [66, 68, 70, 71] ν0 ν ∧ (ν0.1 67).toInt ≤ (ν.1 67).toInt ∧ (∀ k : Nat, (k : Int) < (ν0.1 67).toInt → ν.2.1 68 k = ν0.2.1 68 k) ∧ (∀ k : Nat, (ν0.1 67).toInt ≤ k → (k : Int) < (ν.1 67).toInt → ν0.2.1 66 (ν.2.1 68 k).toNatClampNeg = -1) ∧ ∀ j : Nat, (∀ k : Nat, (ν0.1 67).toInt ≤ k → (k : Int) < (ν.1 67).toInt → ¬ (ν.2.1 68 k).toNatClampNeg = j) → ν.2.1 66 j = ν0.2.1 66 j
/-- one TYPE joined to another -/
def joS (ν : MS) (a b : Int32) : MS := mS1 (mA1 (mA1 ν 66 b.toNatClampNeg a) 68 (ν.1 67).toNatClampNeg b) 67 (ν.1 67 + 1)
section NNAD
variable {X : ev_X} {W : Nat → Prop} {d : Nat} {P : MP} {μ ν ν0 ν1 κ ζ : MS} {T : MS → Prop} {x y p q a b s t r r1 r2 : Int32} {pw fw : Nat → Nat} {R Q Q1 : Int32 → Int32 → Prop} {n m : Nat}
theorem FdR.mono (h : ∀ p q, Q p q → R p q) (g : FdR ζ Q x y) : FdR ζ R x y := by
  obtain ⟨m, g⟩ := g
  exact ⟨m, g.mono (fun _ _ k => ⟨k.1, k.2.1, h _ _ k.2.2⟩)⟩
theorem SgR.mono (h : ∀ p q, Q p q → R p q) (g : SgR ζ Q s t x y) : SgR ζ R s t x y := by
  obtain ⟨⟨m, g⟩, g2⟩ := g
  exact ⟨⟨m, g.mono (fun _ _ k => ⟨k.1, k.2.1, h _ _ k.2.2⟩)⟩, g2.imp id (fun k => ⟨k.1, h _ _ k.2⟩)⟩
theorem MdR.mono (h : ∀ p q, Q p q → R p q) (g : MdR ζ Q x y) : MdR ζ R x y := by
  obtain ⟨m, g⟩ := g
  exact ⟨m, g.mono (fun _ _ k => ⟨k.1, k.2.1, k.2.2.mono h⟩)⟩
theorem PtR.mono (h : ∀ p q, Q p q → R p q) (g : PtR ζ Q a b) : PtR ζ R a b := by
  obtain ⟨g1, g2, g3, g4, g5, g6, g7, g8⟩ := g
  exact ⟨g1, g2, g3, fun e => ⟨(g4 e).1, h _ _ (g4 e).2⟩, fun e => (g5 e).mono h, fun e => h _ _ (g6 e), fun e => (g7 e).mono h, fun e => ⟨h _ _ (g8 e).1, (g8 e).2.1.mono h, (g8 e).2.2.mono h⟩⟩
theorem PtR.cg {a' b' : Int32} (ea : a.toNatClampNeg = a'.toNatClampNeg) (eb : b.toNatClampNeg = b'.toNatClampNeg) (g : PtR ζ R a b) : PtR ζ R a' b' := by
  unfold PtR supV at g ⊢
  rw [ea, eb] at g
  exact g
theorem FdR.symm (h : ∀ p q, R p q → R q p) (g : FdR ζ R x y) : FdR ζ R y x := by
  obtain ⟨m, g⟩ := g
  exact ⟨m, g.symm.mono (fun _ _ k => ⟨⟨k.1.2, k.1.1⟩, k.2.1.symm, h _ _ k.2.2⟩)⟩
theorem SgR.symm (h : ∀ p q, R p q → R q p) (g : SgR ζ R s t x y) : SgR ζ R t s y x := by
  obtain ⟨⟨m, g⟩, g2⟩ := g
  exact ⟨⟨m, g.symm.mono (fun _ _ k => ⟨⟨k.1.2, k.1.1⟩, k.2.1.symm, h _ _ k.2.2⟩)⟩, g2.imp (fun k => ⟨k.2, k.1⟩) (fun k => ⟨⟨k.1.2, k.1.1⟩, h _ _ k.2⟩)⟩
theorem MdR.symm (h : ∀ p q, R p q → R q p) (g : MdR ζ R x y) : MdR ζ R y x := by
  obtain ⟨m, g⟩ := g
  exact ⟨m, g.symm.mono (fun _ _ k => ⟨⟨k.1.2, k.1.1⟩, ⟨k.2.1.1.symm, k.2.1.2.symm⟩, k.2.2.symm h⟩)⟩
theorem PtR.symm (h : ∀ p q, R p q → R q p) (g : PtR ζ R a b) : PtR ζ R b a := by
  obtain ⟨g1, g2, g3, g4, g5, g6, g7, g8⟩ := g
  unfold PtR
  rw [← g1]
  exact ⟨rfl, g2, fun e => ⟨(g3 e).1.symm, (g3 e).2.symm⟩, fun e => ⟨⟨(g4 e).1.1.symm, (g4 e).1.2.symm⟩, h _ _ (g4 e).2⟩, fun e => (g5 e).symm h, fun e => h _ _ (g6 e), fun e => (g7 e).symm h, fun e => ⟨h _ _ (g8 e).1, (g8 e).2.1.symm h, (g8 e).2.2.symm h⟩⟩
theorem FdR.trans {z : Int32} (h : ∀ p q s, R p q → R q s → R p s) (g : FdR ζ R x y) (k : FdR ζ R y z) : FdR ζ R x z := by
  obtain ⟨m, g⟩ := g
  obtain ⟨n, k⟩ := k
  exact ⟨m, L2.trans (fun _ _ _ a b => ⟨⟨a.1.1, b.1.2⟩, a.2.1.trans b.2.1, h _ _ _ a.2.2 b.2.2⟩) (fun _ _ a => a.1) (fun _ _ a => a.1) g k⟩
theorem SgR.trans {z u : Int32} (h : ∀ p q s, R p q → R q s → R p s) (g : SgR ζ R s t x y) (k : SgR ζ R t u y z) : SgR ζ R s u x z := by
  obtain ⟨⟨m, g⟩, g2⟩ := g
  obtain ⟨⟨n, k⟩, k2⟩ := k
  refine ⟨⟨m, L2.trans (fun _ _ _ a b => ⟨⟨a.1.1, b.1.2⟩, a.2.1.trans b.2.1, h _ _ _ a.2.2 b.2.2⟩) (fun _ _ a => a.1) (fun _ _ a => a.1) g k⟩, ?_⟩
  rcases g2 with g2 | g2
  · rcases k2 with k2 | k2
    · exact Or.inl ⟨g2.1, k2.2⟩
    · have := g2.2; have := k2.1.1; omega
  · rcases k2 with k2 | k2
    · have := g2.1.2; have := k2.1; omega
    · exact Or.inr ⟨⟨g2.1.1, k2.1.2⟩, h _ _ _ g2.2 k2.2⟩
theorem MdR.trans {z : Int32} (h : ∀ p q s, R p q → R q s → R p s) (g : MdR ζ R x y) (k : MdR ζ R y z) : MdR ζ R x z := by
  obtain ⟨m, g⟩ := g
  obtain ⟨n, k⟩ := k
  exact ⟨m, L2.trans (fun _ _ _ a b => ⟨⟨a.1.1, b.1.2⟩, ⟨a.2.1.1.trans b.2.1.1, a.2.1.2.trans b.2.1.2⟩, a.2.2.trans h b.2.2⟩) (fun _ _ a => a.1) (fun _ _ a => a.1) g k⟩
theorem PtR.trans {c : Int32} (h : ∀ p q s, R p q → R q s → R p s) (g : PtR ζ R a b) (k : PtR ζ R b c) : PtR ζ R a c := by
  obtain ⟨g1, g2, g3, g4, g5, g6, g7, g8⟩ := g
  obtain ⟨k1, k2, k3, k4, k5, k6, k7, k8⟩ := k
  rw [← g1] at k1 k2 k3 k4 k5 k6 k7 k8
  exact ⟨k1, g2, fun e => ⟨(g3 e).1.trans (k3 e).1, (g3 e).2.trans (k3 e).2⟩, fun e => ⟨⟨(g4 e).1.1.trans (k4 e).1.1, (g4 e).1.2.trans (k4 e).1.2⟩, h _ _ _ (g4 e).2 (k4 e).2⟩, fun e => (g5 e).trans h (k5 e), fun e => h _ _ _ (g6 e) (k6 e), fun e => (g7 e).trans h (k7 e), fun e => ⟨h _ _ _ (g8 e).1 (k8 e).1, (g8 e).2.1.trans h (k8 e).2.1, (g8 e).2.2.trans h (k8 e).2.2⟩⟩
theorem Rt.uniq : ∀ {n m : Nat} {x : Int32}, Rt ν n x r1 → Rt ν m x r2 → r1 = r2
  | 0, 0, _, h, g => h.1.symm.trans g.1
  | 0, _ + 1, _, h, g => by
    obtain ⟨rfl, h2⟩ := h
    have := g.1; omega
  | _ + 1, 0, _, h, g => by
    obtain ⟨rfl, h2⟩ := g
    have := h.1; omega
  | _ + 1, _ + 1, _, h, g => Rt.uniq h.2 g.2
theorem Rt.bot : ∀ {n : Nat} {x : Int32}, Rt ν n x r → (ν.2.1 66 r.toNatClampNeg).toInt < 0
  | 0, _, h => h.2
  | _ + 1, _, h => Rt.bot h.2
theorem Sm.symm (h : Sm ζ ν p q) : Sm ζ ν q p := by
  obtain ⟨⟨h1, h2⟩, r, n, m, h3, h4⟩ := h
  exact ⟨⟨h2, h1⟩, r, m, n, h4, h3⟩
theorem Sm.trans (h : Sm ζ ν p q) (g : Sm ζ ν q s) : Sm ζ ν p s := by
  obtain ⟨⟨h1, h2⟩, r, n, m, h3, h4⟩ := h
  obtain ⟨⟨g1, g2⟩, r', n', m', g3, g4⟩ := g
  have := Rt.uniq h4 g3
  subst this
  exact ⟨⟨h1, g2⟩, r, n, m', h3, g4⟩
theorem JK.up (h : JK ζ ν) : ∀ {n : Nat} {x : Int32}, InN ζ x → Rt ν n x r → x = r ∨ PtR ζ (Sm ζ ν) r x
  | 0, x, _, g => Or.inl g.1
  | n + 1, x, hx, g => by
    obtain ⟨g1, g2⟩ := g
    have h' := h
    obtain ⟨⟨-, j2, j3⟩, hA⟩ := h'
    have hc := @ic x
    rcases j2 x.toNatClampNeg (by have := hx.1; have := hx.2; omega) with e | ⟨k, k1, k2⟩
    · rw [e] at g1; exact absurd g1 (by decide)
    obtain ⟨⟨-, a2⟩, -⟩ := j3 k k1
    have hp := (hA k k1).mono (R := Sm ζ ν) (fun _ _ h => h.elim id (fun h => h.elim))
    rw [k2] at a2
    have hp2 : PtR ζ (Sm ζ ν) (ν.2.1 66 x.toNatClampNeg) x := by
      rw [← k2]
      exact PtR.cg rfl k2 hp
    rcases JK.up h a2.in g2 with e | e
    · rw [← e]; exact Or.inr hp2
    · exact Or.inr (e.trans (fun _ _ _ h g => h.trans g) hp2)
theorem JK.bs (h : JK ζ ν) : Bs ζ (Sm ζ ν) := fun p q hp => by
  obtain ⟨⟨h1, h2⟩, r, n, m, h3, h4⟩ := hp
  rcases h.up h1 h3 with e | e <;> rcases h.up h2 h4 with e' | e'
  · exact Or.inl (e.trans e'.symm)
  · rw [e]; exact Or.inr e'
  · rw [e']; exact Or.inr (e.symm (fun _ _ h => h.symm))
  · exact Or.inr ((e.symm (fun _ _ h => h.symm)).trans (fun _ _ _ h g => h.trans g) e')
theorem JK.alk (h : JK ζ ν) (hs : Sm ζ ν p q) : Alk ζ p q := ⟨_, h.bs, hs⟩
end NNAD
