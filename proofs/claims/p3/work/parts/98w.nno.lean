/-! contracts of the reference: TYPEs that the round of types makes itself; what stands above a LEVEL; pairs -/
section NNV
variable {X : ev_X} {W : Nat → Prop} {d : Nat} {P : MP} {μ ν κ ζ : MS} {T : MS → Prop} {x y : Int32}
theorem nd_leaf {k : Int32} (hk : k = 26 ∨ k = 21 ∨ k = 22) (x0 : 0 ≤ x.toInt) (x1 : x.toInt < (ζ.1 19).toInt) (hN : ND ζ x.toNatClampNeg k (-1) (-1) (-1) (-1) (-1) (-1)) : Nd ζ 0 x := by
  have all : ∀ k ∈ ([26, 21, 22] : List Int32), sK 0 k = true ∧ ∀ f, f < 5 → (fW k.toNatClampNeg f).1 = 0 ∨ (fW k.toNatClampNeg f).1 = 2 ∨ (fW k.toNatClampNeg f).1 = 3 := by decide
  have hk2 : k ∈ ([26, 21, 22] : List Int32) := by
    rcases hk with e | e | e <;> rw [e] <;> decide
  have hc := @ic x
  obtain ⟨n20, n22, n23, n24, n25, n26, n27⟩ := hN
  have fo : ∀ (E : Nat → Int32 → Prop) (f : Nat), f < 5 → FO E (ζ.2.1 27) (fW (ζ.2.1 20 x.toNatClampNeg).toNatClampNeg f) (ζ.2.1 (22 + f) x.toNatClampNeg) := fun E f hf => by
    have e : ζ.2.1 (22 + f) x.toNatClampNeg = -1 := by
      have h5 : f = 0 ∨ f = 1 ∨ f = 2 ∨ f = 3 ∨ f = 4 := by omega
      rcases h5 with rfl | rfl | rfl | rfl | rfl
      · exact n22
      · exact n23
      · exact n24
      · exact n25
      · exact n26
    rw [n20, e]
    have h3 := (all k hk2).2 f hf
    generalize fW k.toNatClampNeg f = w at *
    obtain ⟨a, s⟩ := w
    rcases h3 with h | h | h
    · have h : a = 0 := h
      subst h
      exact True.intro
    · have h : a = 2 := h
      subst h
      exact Or.inl rfl
    · have h : a = 3 := h
      subst h
      exact ⟨0, rfl⟩
  have no : ∀ v ∈ ([20, 34, 35, 12, 5, 6, 50, 52] : List Int32), ∀ k ∈ ([26, 21, 22] : List Int32), ¬ k = v := by decide
  have ln : LN ζ x.toNatClampNeg := by
    unfold LN
    rw [n20]
    refine ⟨fun e => absurd e (no _ (by decide) k hk2), fun e => ?_, fun e => absurd e (no _ (by decide) k hk2), fun e => ?_, fun e => ?_⟩
    · rcases e with e | e <;> exact absurd e (no _ (by decide) k hk2)
    · rcases e with e | e <;> exact absurd e (no _ (by decide) k hk2)
    · rcases e with e | e <;> exact absurd e (no _ (by decide) k hk2)
  exact ⟨1, 1, ⟨x0, by rw [n20]; exact (all k hk2).1, ln, fo _⟩, ⟨x0, by show ((x.toNatClampNeg : Nat) : Int) < _; omega, by rw [n20]; exact (all k hk2).1, fo _⟩⟩
theorem NmR.nd {i : Nat} {k a b c e f n : Int32} (hR : NmR μ ζ) (hN : ND μ i k a b c e f n) (hk : ¬ k = 70) : ND ζ i k a b c e f n := by
  obtain ⟨n20, n22, n23, n24, n25, n26, n27⟩ := hN
  have fl : ∀ f, f < 5 → ζ.2.1 (22 + f) i = μ.2.1 (22 + f) i := fun f hf => (hR.2.2.1 f i hf).resolve_right (fun h => hk (n20.symm.trans h.1))
  exact ⟨by rw [hR.1.2.1 20 rfl]; exact n20, (fl 0 (by omega)).trans n22, (fl 1 (by omega)).trans n23, (fl 2 (by omega)).trans n24, (fl 3 (by omega)).trans n25, (fl 4 (by omega)).trans n26, by rw [hR.1.2.1 27 rfl]; exact n27⟩
/-- what a LEVEL is below: a TYPE, or the one of all objects -/
def supV (ζ : MS) (x : Int32) : Int32 := if 0 ≤ (ζ.2.1 22 x.toNatClampNeg).toInt then ζ.2.1 22 x.toNatClampNeg else ζ.1 65
theorem c_super (hF : TF ζ ν) (hd : 1 ≤ d) (hm : MI x (ν.2.2 22)) : MC X W true d 374 [.ref P.1, .int x] P ν (fun r ν1 => ν1 = ν ∧ r = supV ζ x) T := by
  have r22 : ν.2.1 22 = ζ.2.1 22 := hF.row rfl
  unfold supV
  rw [← r22, ← hF.1.1 65 rfl]
  exact me_meth hd rfl (v_superOf_0 _ ⟨hm, fun h => ⟨hm, rfl, by rw [if_pos h]⟩, fun h => ⟨rfl, by rw [if_neg (by omega)]⟩⟩)
theorem supV.nd (hx : Nd ζ 0 x) (ek : ζ.2.1 20 x.toNatClampNeg = 26 ∨ ζ.2.1 20 x.toNatClampNeg = 32) (ho : Nd ζ 0 (ζ.1 65)) : Nd ζ 0 (supV ζ x) ∨ ζ.2.1 20 x.toNatClampNeg = 26 := by
  rcases ek with e | e
  · exact Or.inr e
  · have h := hx.fld (f := 0) (by omega)
    rw [e] at h
    have h : ζ.2.1 22 x.toNatClampNeg = -1 ∨ (Nd ζ 0 (ζ.2.1 22 x.toNatClampNeg) ∧ ζ.2.1 27 (ζ.2.1 22 x.toNatClampNeg).toNatClampNeg = -1) := h
    unfold supV
    refine Or.inl ?_
    rcases h with h | ⟨h, -⟩
    · rw [h]; exact ho
    · rw [if_pos h.in.1]; exact h
/-- one pair more -/
def pairS (ν : MS) (x y : Int32) : MS := mS1 (mA1 (mA1 ν 70 (ν.1 69).toNatClampNeg x) 71 (ν.1 69).toNatClampNeg y) 69 (ν.1 69 + 1)
theorem c_pair (hL : LRow ν.2.2) (hd : 1 ≤ d) (h0 : 0 ≤ (ν.1 69).toInt) (h1 : (ν.1 69).toInt < rlen 70) : MC X W true d 370 [.ref P.1, .int x, .int y] P ν (fun _ ν1 => ν1 = pairS ν x y) T :=
  me_meth hd rfl (v_pair_0 _ _ ⟨MI.of (hL.g rfl rfl : _ = rlen 70) h0 h1, MI.of (hL.g rfl rfl : _ = rlen 71) h0 h1, rfl⟩)
end NNV
