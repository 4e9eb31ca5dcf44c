/-! contracts of the reference: rows of METHODs and OVERRIDES within one another -/
/-- a METHOD, or an OVERRIDE -/
def Mb (ζ : MS) (y : Int32) : Prop := Nd ζ 11 y ∨ Nd ζ 12 y
section NNX
variable {X : ev_X} {W : Nat → Prop} {d : Nat} {P : MP} {μ ν κ ζ : MS} {T : MS → Prop} {R : Int32 → MS → Prop} {x y q x1 x2 x3 : Int32}
theorem Mb.in (hy : Mb ζ y) : 0 ≤ y.toInt ∧ y.toInt < (ζ.1 19).toInt := hy.elim Nd.in Nd.in
theorem Mb.mi {g : Nat} (hB : TB μ ζ) (hF : TF ζ ν) (hx : Mb ζ x) (hg : rk g = true) (hr : rlen g = 16000) : MI x (ν.2.2 g) := hx.elim (fun h => h.mi hB hF hg hr) (fun h => h.mi hB hF hg hr)
theorem Mb.qn (hy : Mb ζ y) : ζ.2.1 24 y.toNatClampNeg = -1 ∨ (Nd ζ 7 (ζ.2.1 24 y.toNatClampNeg) ∧ QK ζ (ζ.2.1 24 y.toNatClampNeg) 9 9) := by
  rcases hy with h | h
  · have hk : ([34] : List Int32).contains (ζ.2.1 20 y.toNatClampNeg) = true := h.kind
    have ek : ζ.2.1 20 y.toNatClampNeg = 34 := by simpa using hk
    have hf := h.fld (f := 2) (by omega)
    rw [ek] at hf
    have hf : ζ.2.1 24 y.toNatClampNeg = -1 ∨ (Nd ζ 7 (ζ.2.1 24 y.toNatClampNeg) ∧ ζ.2.1 27 (ζ.2.1 24 y.toNatClampNeg).toNatClampNeg = -1) := hf
    exact hf.imp id (fun hn => ⟨hn.1, h.ln.2.1 (Or.inl ek) hn.1.in.1⟩)
  · have hk : ([35] : List Int32).contains (ζ.2.1 20 y.toNatClampNeg) = true := h.kind
    have ek : ζ.2.1 20 y.toNatClampNeg = 35 := by simpa using hk
    have hf := h.fld (f := 2) (by omega)
    rw [ek] at hf
    have hf : Nd ζ 7 (ζ.2.1 24 y.toNatClampNeg) ∧ ζ.2.1 27 (ζ.2.1 24 y.toNatClampNeg).toNatClampNeg = -1 := hf
    exact Or.inr ⟨hf.1, h.ln.2.1 (Or.inr ek) hf.1.in.1⟩
theorem c_numberM (hB : TB μ ζ) (hF : TF ζ ν) (hd : 1 ≤ d) (hy : Mb ζ y) : MC X W true d 376 [.ref P.1, .int (ζ.2.1 24 y.toNatClampNeg)] P ν (fun _ ν1 => ν1 = ν) T := by
  rcases hy.qn with h | ⟨h1, h2⟩
  · rw [h]
    exact me_meth hd rfl (v_numberOf_0 _ ⟨fun h => absurd h (by decide), fun _ => rfl⟩)
  · exact MC.mono (c_number hB hF hd h1 h2) (fun _ _ h => h.1) (fun _ h => h)
theorem wi_12 (hB : TB μ ζ) (hF : TF ζ ν) (hd : 1 ≤ d) (h3 : Mb ζ x3) (ct : ME X W true d 378 2 [(0, .ref P.1), (1, .int x1), (2, .int x2), (3, .int (ζ.2.1 27 x3.toNatClampNeg))] [] P ν R T) (hR : R 0 ν) : ∀ (m : Nat) (x4 x5 : Int32), Lst (Mb ζ) (ζ.2.1 27) m x5 → ME X W true d 378 12 [(0, .ref P.1), (1, .int x1), (2, .int x2), (3, .int x3), (4, .int x4), (5, .int x5)] [] P ν R T := by
  have r22 : ν.2.1 22 = ζ.2.1 22 := hF.row rfl
  have r24 : ∀ y, Mb ζ y → ν.2.1 24 y.toNatClampNeg = ζ.2.1 24 y.toNatClampNeg := fun y hy => hF.k24 (Or.inl rfl) (hy.elim (fun h => sfx_of (nk34 h) rfl) (fun h => sfx_of (nk35 h) rfl))
  have r27 : ν.2.1 27 = ζ.2.1 27 := hF.row rfl
  have fin : ∀ (x4 x5 : Int32), x5 = -1 → ME X W true d 378 12 [(0, .ref P.1), (1, .int x1), (2, .int x2), (3, .int x3), (4, .int x4), (5, .int x5)] [] P ν R T := fun x4 x5 e => by
    subst e
    refine v_within__12 _ _ _ _ _ ⟨fun _ => ⟨fun _ => ⟨h3.mi hB hF rfl rfl, by rw [r27]; exact ct⟩, fun _ => hR⟩, fun h => absurd h (by decide)⟩
  intro m
  induction m with
  | zero => intro x4 x5 hL; exact fin x4 x5 hL
  | succ m ih =>
    intro x4 x5 hL
    rcases hL with hL | ⟨h5, hL⟩
    · exact fin x4 x5 hL
    have m27 : MI x5 (ν.2.2 27) := h5.mi hB hF rfl rfl
    refine v_within__12 _ _ _ _ _ ⟨fun h => by have := h5.in.1; omega, fun _ => ⟨fun _ => ⟨m27, by rw [r27]; exact ih _ _ hL⟩, fun _ => ⟨h3.mi hB hF rfl rfl, h5.mi hB hF rfl rfl, fun _ => ⟨m27, by rw [r27]; exact ih _ _ hL⟩, fun _ => ⟨h3.mi hB hF rfl rfl, ?_⟩⟩⟩⟩
    rw [r24 _ h3]
    refine MC.mono (c_numberM hB hF hd h3) (fun r1 κ hk => ?_) (fun _ h => h)
    subst hk
    refine ⟨h5.mi hB hF rfl rfl, ?_⟩
    rw [r24 _ h5]
    refine MC.mono (c_numberM hB hF hd h5) (fun r2 κ2 hk2 => ?_) (fun _ h => h)
    have e2 := hk2.symm
    subst e2
    exact ⟨fun _ => ⟨m27, by rw [r27]; exact ih _ _ hL⟩, fun _ => ⟨m27, by rw [r27]; exact ih _ _ hL⟩⟩
theorem c_within {m2 : Nat} (hB : TB μ ζ) (hF : TF ζ ν) (hd : 2 ≤ d) (h2 : Lst (Mb ζ) (ζ.2.1 27) m2 x2) : ∀ (m : Nat) (x : Int32), Lst (Mb ζ) (ζ.2.1 27) m x → ME X W true (d - 1) 378 2 [(0, .ref P.1), (1, .int x1), (2, .int x2), (3, .int x)] [] P ν (fun r ν1 => ν1 = ν ∧ (r = 0 ∨ r = 1)) T := by
  have fin : ∀ x : Int32, x = -1 → ME X W true (d - 1) 378 2 [(0, .ref P.1), (1, .int x1), (2, .int x2), (3, .int x)] [] P ν (fun r ν1 => ν1 = ν ∧ (r = 0 ∨ r = 1)) T := fun x e => by
    subst e
    exact v_within__2 _ _ _ ⟨fun _ => ⟨rfl, Or.inr rfl⟩, fun h => absurd h (by decide)⟩
  intro m
  induction m with
  | zero => intro x hL; exact fin x hL
  | succ m ih =>
    intro x hL
    rcases hL with hL | ⟨h3, hL⟩
    · exact fin x hL
    exact v_within__2 _ _ _ ⟨fun h => by have := h3.in.1; omega, fun _ => wi_12 hB hF (by omega) h3 (ih _ hL) ⟨rfl, Or.inl rfl⟩ m2 0 x2 h2⟩
theorem c_withinM {m1 m2 : Nat} (hB : TB μ ζ) (hF : TF ζ ν) (hd : 2 ≤ d) (h1 : Lst (Mb ζ) (ζ.2.1 27) m1 x1) (h2 : Lst (Mb ζ) (ζ.2.1 27) m2 x2) : MC X W true d 378 [.ref P.1, .int x1, .int x2] P ν (fun r ν1 => ν1 = ν ∧ (r = 0 ∨ r = 1)) T :=
  me_meth (by omega) rfl (v_within__0 _ _ (c_within hB hF hd h2 m1 x1 h1))
end NNX
