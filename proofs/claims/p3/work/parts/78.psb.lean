/-! contracts of the reference: types, at any depth that bears them -/
section PSB
variable {X : ev_X} {W : Nat → Prop} {P : MP}
theorem psT_pos {μ : MS} (hS : PS μ) : 0 ≤ psT μ := by
  have b37 := hS.2.2.2.2.2.1
  have b39 := hS.2.2.2.2.2.2.2.1
  unfold psT
  omega
theorem ty_all : ∀ d : Nat, NodC X W P 312 0 9 0 d ∧ NodC X W P 309 8 10 1 d ∧ FldC X W P d ∧ MemC X W P d ∧ LevC X W P d ∧ NodB X W P 316 0 13 3 d ∧ NodC X W P 313 21 14 3 d
  | 0 => ⟨fun μ T h hS hd => by have := psT_pos hS; omega, fun μ T h hS hd => by have := psT_pos hS; omega, fun μ T h hS hd => by have := psT_pos hS; omega, fun μ T h k s hk hS hd => by have := psT_pos hS; omega, fun μ T h a lo hS hs hd => by have := psT_pos hS; omega, fun μ T h hS hs hd => by have := psT_pos hS; omega, fun μ T h hS hd => by have := psT_pos hS; omega⟩
  | d + 1 => by
    obtain ⟨h1, h2, h3, h4, h5, h6, h7⟩ := ty_all d
    exact ⟨st_type h6, st_sig h1, st_fields h1, st_members h2, st_level h3 h4, st_inside h1 h2 h3 h5, st_levelAlone h6⟩
theorem sig_all : ∀ d : Nat, SigC X W P d
  | 0 => fun μ T h hS hd => by have := psT_pos hS; omega
  | d + 1 => st_sigW (ty_all d).1
end PSB
