/-! contracts of the reference: what is named stays so, while other spans are named; declarations and their two weights -/
section NNE
variable {X : ev_X} {W : Nat → Prop} {d h K : Nat} {P : MP} {μ ν κ ζ : MS} {V : Int32 → Prop} {x p : Int32} {lo hi n N a b : Int} {w : Nat} {C : Nat → Prop} {T : MS → Prop}
theorem FmP.sf {f : Int32} (hF : FmP ν lo hi a b f) (hN : SF C ν ζ) (hS : ∀ j, bt lo hi j → ¬ C j) : FmP ζ lo hi a b f := by
  obtain ⟨⟨f0, f1⟩, f2, f3, f4, f5, f6⟩ := hF
  have z24 : ζ.2.1 24 f.toNatClampNeg = ν.2.1 24 f.toNatClampNeg := (hN.fld (f := 2) (j := f.toNatClampNeg) (by decide)).resolve_right (fun h => by rw [f2] at h; exact absurd h.1 (by decide))
  have z28 : ζ.2.1 28 f.toNatClampNeg = ν.2.1 28 f.toNatClampNeg := hN.r13 (Or.inr f2) (hS _ f1)
  refine ⟨⟨f0, f1⟩, by rw [hN.row (g := 20) rfl]; exact f2, by rw [hN.row (g := 27) rfl]; exact f3, ?_, by rw [z28]; exact f5, by rw [z28]; exact f6⟩
  rw [z24, z28, hN.row (g := 23) rfl]
  exact f4.sf hN
theorem NmP.sf {t : Int32} (hF : NmP ν t a b lo hi x) (hN : SF C ν ζ) (hS : ∀ j, bt lo hi j → ¬ C j) : NmP ζ t a b lo hi x := by
  obtain ⟨⟨f0, f1, f1'⟩, f2, f4, f5, f6⟩ := hF
  have hcx := @ic x
  have z28 : ζ.2.1 28 x.toNatClampNeg = ν.2.1 28 x.toNatClampNeg := hN.r13 (Or.inl f2) (hS _ ⟨by omega, by omega⟩)
  refine ⟨⟨f0, f1, f1'⟩, by rw [hN.row (g := 20) rfl]; exact f2, ?_, by rw [z28]; exact f5, by rw [z28]; exact f6⟩
  rw [z28]
  exact f4.sf hN
theorem LcP.sf (hF : LcP ν h a b lo hi x) (hN : SF C ν ζ) (hS : ∀ j, bt lo hi j → ¬ C j) : LcP ζ h a b lo hi x := by
  obtain ⟨⟨f0, f1, f1'⟩, f2, f3, c0, c1, m, ⟨q1, q2⟩, f4⟩ := hF
  refine ⟨⟨f0, f1, f1'⟩, by rw [hN.row (g := 20) rfl]; exact f2, ?_, c0, c1, m, ⟨q1, q2⟩, ?_⟩
  · rw [hN.row (g := 23) rfl]; exact NG.sf hN (by decide) f3
  · rw [hN.row (g := 23) rfl, hN.row (g := 22) rfl]
    exact WL.cg (lo := c0) (fun lo' hi' v y k1 k2 hy => ⟨hy.sf hN (fun j hj => hS j ⟨by have := hj.1; omega, by have := hj.2; omega⟩), by rw [hN.row (g := 27) rfl]⟩) (Int.le_refl _) f4
theorem BdP.sf (hF : BdP ν h K p lo hi) (ek : ν.2.1 20 p.toNatClampNeg = 9) (hN : SF C ν ζ) (hS : ∀ j, bt lo hi j → ¬ C j) : BdP ζ h K p lo hi := by
  obtain ⟨c1, c2, c3, c4, a, b, ⟨q1, q2, q3, q4, q5⟩, ⟨q6, q7, q8⟩, ⟨m1, f1⟩, ⟨m2, f2⟩, f3, f4⟩ := hF
  have z24 : ζ.2.1 24 p.toNatClampNeg = ν.2.1 24 p.toNatClampNeg := (hN.fld (f := 2) (j := p.toNatClampNeg) (by decide)).resolve_right (fun h => by rw [ek] at h; exact absurd h.1 (by decide))
  have sub : ∀ {x y : Int}, lo ≤ x → y ≤ hi → ∀ j, bt x y j → ¬ C j := fun hx hy j hj => hS j ⟨by have := hj.1; omega, by have := hj.2; omega⟩
  refine ⟨c1, c2, c3, c4, a, b, ⟨q1, q2, q3, q4, q5⟩, ⟨q6, q7, by have := hN.2.2.1.1; omega⟩, ⟨m1, ?_⟩, ⟨m2, ?_⟩, fun v hv1 hv2 => ?_, ?_⟩
  · rw [hN.row (g := 23) rfl, hN.row (g := 22) rfl]
    exact f1.mono (fun f hf => hf.sf hN (sub (by omega) (by omega))) (fun f _ => by rw [hN.row (g := 27) rfl])
  · rw [z24]
    exact WL.cg (lo := c2) (fun lo' hi' v y k1 k2 hy => ⟨hy.sf hN (sub (by omega) (by omega)), by rw [hN.row (g := 27) rfl]⟩) (Int.le_refl _) f2
  · obtain ⟨y, y1, ⟨y2, y3⟩, y4⟩ := f3 v hv1 hv2
    refine ⟨y, y1.sf hN ek, ⟨by rw [hN.row (g := 20) rfl]; exact y2, y3⟩, ?_⟩
    rw [hN.r13 y2 (hS y y3)]
    exact y4
  · rw [hN.row (g := 25) rfl]
    exact BN.sf hN K _ _ _ _ (sub (by omega) (by omega)) f4
theorem DcP.sf (hF : DcP ν h K lo hi x) (hN : SF C ν ζ) (hS : ∀ j, bt lo hi j → ¬ C j) : DcP ζ h K lo hi x := by
  obtain ⟨f1, f2, f3, f4, f5⟩ := hF
  refine ⟨f1, by rw [hN.row (g := 20) rfl]; exact f2, fun h8 h9 => ?_, fun h56 => ?_, fun h9 => ?_⟩
  · rw [hN.row (g := 20) rfl] at h8 h9
    rw [hN.row (g := 23) rfl]
    exact NG.sf hN (by decide) (f3 h8 h9)
  · rw [hN.row (g := 20) rfl] at h56
    rw [hN.row (g := 22) rfl]
    exact (f4 h56).sf hN
  · rw [hN.row (g := 20) rfl] at h9
    obtain ⟨g1, g2⟩ := f5 h9
    have z26 : ζ.2.1 26 x.toNatClampNeg = ν.2.1 26 x.toNatClampNeg := (hN.fld (f := 4) (j := x.toNatClampNeg) (by decide)).resolve_right (fun h => by rw [h9] at h; exact absurd h.1 (by decide))
    rw [hN.row (g := 23) rfl, z26]
    exact ⟨NG.sf hN (by decide) g1, fun h => (g2 h).sf h9 hN hS⟩
/-- declarations, what they weigh when they are named (w) and when a unit's variables are made (g) -/
def WG (E : Int → Int → Nat → Int32 → Prop) (D : Int32 → Prop) (nx : Nat → Int32) : Nat → Int → Int → Nat → Nat → Int32 → Prop
  | 0, lo, hi, _, _, x => x = -1 ∧ lo ≤ hi
  | m + 1, lo, hi, w, g, x => (x = -1 ∧ lo ≤ hi) ∨ ∃ (mid : Int) (v : Nat), (lo ≤ mid ∧ mid ≤ hi) ∧ E lo mid v x ∧ ((D x ∧ v ≤ g ∧ WG E D nx m mid hi w (g - v) (nx x.toNatClampNeg)) ∨ (¬ D x ∧ v ≤ w ∧ WG E D nx m mid hi (w - v) g (nx x.toNatClampNeg)))
theorem WL.wg {E : Int → Int → Nat → Int32 → Prop} {D : Int32 → Prop} {nx : Nat → Int32} : ∀ {m : Nat} {lo : Int} {w : Nat} {x : Int32}, WL E nx m lo hi w x → ∃ w1 g, w1 + g ≤ w ∧ WG E D nx m lo hi w1 g x
  | 0, lo, w, x, h => ⟨0, 0, by omega, h⟩
  | m + 1, lo, w, x, h => by
    rcases h with h | ⟨mid, v, ⟨k1, k2, k3⟩, k4, k5⟩
    · exact ⟨0, 0, by omega, Or.inl h⟩
    obtain ⟨w1, g, h1, h2⟩ := WL.wg (D := D) k5
    by_cases c : D x
    · exact ⟨w1, g + v, by omega, Or.inr ⟨mid, v, ⟨k1, k2⟩, k4, Or.inl ⟨c, by omega, by rw [show g + v - v = g by omega]; exact h2⟩⟩⟩
    · exact ⟨w1 + v, g, by omega, Or.inr ⟨mid, v, ⟨k1, k2⟩, k4, Or.inr ⟨c, by omega, by rw [show w1 + v - v = w1 by omega]; exact h2⟩⟩⟩
end NNE
