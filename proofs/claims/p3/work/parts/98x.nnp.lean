/-! contracts of the reference: TYPEs joined on trial: no rings, and the class of a TYPE -/
/-- what was joined so far: each to one that was joined later, or never -/
def JN (ζ ν : MS) : Prop := 0 ≤ (ν.1 67).toInt ∧ (∀ j : Nat, (j : Int) < (ζ.1 19).toInt → (ν.2.1 66 j).toInt < 0 ∨ ∃ k : Nat, (k : Int) < (ν.1 67).toInt ∧ (ν.2.1 68 k).toNatClampNeg = j) ∧ ∀ k : Nat, (k : Int) < (ν.1 67).toInt → (Nd ζ 0 (ν.2.1 68 k) ∧ Nd ζ 0 (ν.2.1 66 (ν.2.1 68 k).toNatClampNeg)) ∧ (ζ.2.1 20 (ν.2.1 66 (ν.2.1 68 k).toNatClampNeg).toNatClampNeg = ζ.2.1 20 (ν.2.1 68 k).toNatClampNeg ∧ ¬ ζ.2.1 20 (ν.2.1 68 k).toNatClampNeg = 20) ∧ (∀ i : Nat, (i : Int) < (ν.1 67).toInt → ν.2.1 66 (ν.2.1 68 k).toNatClampNeg = ν.2.1 68 i → k < i) ∧ ∀ i : Nat, (i : Int) < (ν.1 67).toInt → ν.2.1 68 i = ν.2.1 68 k → i = k
section NNW
variable {X : ev_X} {W : Nat → Prop} {d : Nat} {P : MP} {μ ν κ ζ : MS} {T : MS → Prop} {x y : Int32}
theorem RT.in (hx : RT μ ζ x) : 0 ≤ x.toInt ∧ x.toInt < (ζ.1 19).toInt := by
  rcases hx with h | h
  · exact h.1.in
  · exact h.2.2.1
theorem RT.mi {g : Nat} (hB : TB μ ζ) (hF : TF ζ ν) (hx : RT μ ζ x) (hg : rk g = true) (hr : rlen g = 16000) : MI x (ν.2.2 g) := MI.of ((hF.1.2.2).g hg hr) hx.in.1 (by have := hx.in.2; have := hB.n16; omega)
theorem cl_2 (hB : TB μ ζ) (hF : TF ζ ν) (hJ : JN ζ ν) : ∀ (n : Nat) (z : Int32), RT μ ζ z → ζ.2.1 20 z.toNatClampNeg = ζ.2.1 20 x.toNatClampNeg → (∀ k : Nat, (k : Int) < (ν.1 67).toInt → (ν.2.1 68 k).toNatClampNeg = z.toNatClampNeg → (ν.1 67).toInt - k ≤ n) → ME X W true d 369 2 [(0, .ref P.1), (1, .int x), (2, .int z)] [] P ν (fun r ν1 => ν1 = ν ∧ RT μ ζ r ∧ ζ.2.1 20 r.toNatClampNeg = ζ.2.1 20 x.toNatClampNeg ∧ (ν.2.1 66 r.toNatClampNeg).toInt < 0) T
  | n, z, hz, hk, hn => by
    have hzi := hz.in
    have hcz := @ic z
    have m66 : MI z (ν.2.2 66) := hz.mi hB hF rfl rfl
    refine v_classOf_2 _ _ ⟨m66, fun h => ⟨rfl, hz, hk, h⟩, fun h => ⟨m66, ?_⟩⟩
    rcases hJ.2.1 z.toNatClampNeg (by omega) with e | ⟨k, k1, k2⟩
    · omega
    obtain ⟨⟨a1, a2⟩, ⟨a3, a4⟩, a5, -⟩ := hJ.2.2 k k1
    have hb := hn k k1 k2
    rw [k2] at a2 a3 a4 a5
    cases n with
    | zero => omega
    | succ n =>
      refine cl_2 hB hF hJ n _ (Or.inl ⟨a2, by rw [a3]; exact a4⟩) (a3.trans hk) (fun i i1 i2 => ?_)
      obtain ⟨⟨b1, -⟩, -⟩ := hJ.2.2 i i1
      have c1 := @ic (ν.2.1 68 i)
      have c2 := @ic (ν.2.1 66 z.toNatClampNeg)
      have d1 := b1.in.1
      have d2 := a2.in.1
      have e : ν.2.1 66 z.toNatClampNeg = ν.2.1 68 i := i_eq (by omega)
      have := a5 i i1 e
      omega
theorem c_class (hB : TB μ ζ) (hF : TF ζ ν) (hJ : JN ζ ν) (hd : 1 ≤ d) (hx : RT μ ζ x) : MC X W true d 369 [.ref P.1, .int x] P ν (fun r ν1 => ν1 = ν ∧ RT μ ζ r ∧ ζ.2.1 20 r.toNatClampNeg = ζ.2.1 20 x.toNatClampNeg ∧ (ν.2.1 66 r.toNatClampNeg).toInt < 0) T :=
  me_meth hd rfl (v_classOf_0 _ (cl_2 hB hF hJ (ν.1 67).toInt.toNat x hx rfl (fun k _ _ => by omega)))
end NNW
