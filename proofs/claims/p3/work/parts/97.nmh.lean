/-! contracts of the reference: SIGNATUREs and TYPEs of any height named -/
section NMI
variable {X : ev_X} {W : Nat → Prop} {d h k : Nat} {P : MP} {μ ν : MS} {n : Int} {S : Nat → Prop}
theorem G.z1 {s : Nat} {i : Int32} (hG : G μ k S s i) : G μ (k - 1 + 1) S s i := G.mono hG (by omega) (fun _ h => h) (fun _ _ _ _ _ => rfl) (fun _ _ _ => rfl)
theorem Lst.z1 {s m : Nat} {x : Int32} (hL : Lst (G μ k S s) (μ.2.1 27) m x) : Lst (G μ (k - 1 + 1) S s) (μ.2.1 27) m x := hL.mono (fun _ hy => hy.z1) (fun _ _ => rfl)
theorem Lst.z2 {s m m' : Nat} {x : Int32} {ζ : MS} (hL : Lst (G μ k S s) (μ.2.1 27) m x) (hZ : Lst (NG ζ (k - 1 + 1) s) (ζ.2.1 27) m' x) : ∃ m, Lst (NG ζ k s) (ζ.2.1 27) m x := by
  cases k with
  | zero =>
    have hx : x = -1 := by
      cases m with
      | zero => exact hL
      | succ m =>
        rcases hL with h | ⟨h, -⟩
        · exact h
        · exact h.elim
    exact ⟨0, hx⟩
  | succ k => exact ⟨m', hZ⟩
theorem si_step (hT : ∀ h', h' ≤ k + 1 → TyN X W P d h') (hd : 4 ≤ d) : SiN X W P (d + 1) (k + 1) := fun μ T n S s hE hS hG => by
  have hs := hS.i hG
  obtain ⟨ek, ⟨mf, hF⟩, hR, mq, hQ⟩ := fk12 hG
  have hS1 : SB n μ (fun j => S j ∧ j ≠ s.toNatClampNeg) := hS.sub (fun j hj => hj.1)
  refine MC.mono (c_nameSigP (h := k - 1) (hT _ (by omega)) (hT _ (by omega)) hd hE hs hS1 ek hF.z1 (hR.imp id (fun h => h.1.z1)) hQ.z1) (fun _ ζ hz => ?_) (fun _ h => h)
  obtain ⟨z1, z2⟩ := hz
  refine ⟨z1, fun e => ?_⟩
  obtain ⟨y0, y1, y2, y3⟩ := z2 e
  have hz20 := z1.row (g := 20) rfl
  refine ⟨hs.1, by rw [hz20, ek]; decide, y0, fun f hf => ?_⟩
  rw [hz20, ek]
  have h5 : f = 0 ∨ f = 1 ∨ f = 2 ∨ f = 3 ∨ f = 4 := by omega
  rcases h5 with rfl | rfl | rfl | rfl | rfl
  · rw [show ζ.2.1 (22 + 0) = μ.2.1 22 from z1.row (g := 22) rfl]
    exact hF.z2 y1
  · rw [show ζ.2.1 (22 + 1) = μ.2.1 23 from z1.row (g := 23) rfl]
    rcases hR with hR | hR
    · exact Or.inl hR
    · rcases y2 with y2 | y2
      · exact Or.inl y2
      · cases k with
        | zero => exact hR.1.elim
        | succ k => exact Or.inr ⟨y2, by rw [z1.row (g := 27) rfl]; exact hR.2⟩
  · rw [show ζ.2.1 (22 + 2) = μ.2.1 24 from z1.row (g := 24) rfl]
    exact hQ.z2 y3
  · exact True.intro
  · exact True.intro
end NMI
