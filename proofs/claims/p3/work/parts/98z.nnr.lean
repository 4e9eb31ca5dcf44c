/-! contracts of the reference: whether a unit sees a node -/
section NNY
variable {X : ev_X} {W : Nat → Prop} {d : Nat} {P : MP} {μ ν κ ζ : MS} {T : MS → Prop} {x y x1 x2 x3 : Int32}
theorem TB.im {i : Nat} (hB : TB μ ζ) (hi : (i : Int) < (μ.1 41).toInt) : (0 ≤ (μ.2.1 42 i).toInt ∧ (μ.2.1 42 i).toInt < (ζ.1 19).toInt) ∧ ∃ m, Lst (fun y => 0 ≤ y.toInt ∧ y.toInt < (ζ.1 19).toInt) (ζ.2.1 27) m (ζ.2.1 23 (μ.2.1 42 i).toNatClampNeg) := by
  have hg := hB.g hi
  have hc := @ic (μ.2.1 42 i)
  obtain ⟨g1, g2, g3, g4⟩ := hg
  have g3 : ([1] : List Int32).contains (ζ.2.1 20 (μ.2.1 42 i).toNatClampNeg) = true := g3
  have ek : ζ.2.1 20 (μ.2.1 42 i).toNatClampNeg = 1 := by simpa using g3
  have gl := g4 1 (by omega)
  rw [ek] at gl
  obtain ⟨m, gl⟩ : ∃ m, Lst (G ζ 399 (fun j => (j : Int) < (ζ.1 19).toInt ∧ j ≠ (μ.2.1 42 i).toNatClampNeg) 5) (ζ.2.1 27) m (ζ.2.1 23 (μ.2.1 42 i).toNatClampNeg) := gl
  refine ⟨⟨g1, by have : ((μ.2.1 42 i).toNatClampNeg : Int) < (ζ.1 19).toInt := g2; omega⟩, m, gl.mono (fun y hy => ?_) (fun _ _ => rfl)⟩
  have hcy := @ic y
  obtain ⟨z1, z2, -⟩ := hy.in
  exact ⟨z1, by omega⟩
theorem c_sees (hB : TB μ ζ) (hF : TF ζ ν) (hd : 2 ≤ d) (u0 : 0 ≤ x1.toInt) (u1 : x1.toInt < (μ.1 41).toInt) (y0 : 0 ≤ x2.toInt) (y1 : x2.toInt < (ζ.1 19).toInt) : MC X W true d 384 [.ref P.1, .int x1, .int x2] P ν (fun r ν1 => ν1 = ν ∧ (r = 0 ∨ r = 1)) T := by
  have hE := hB.2.1.2.1.1
  obtain ⟨hU0, hn13, hU⟩ := hE.2.1
  have hLν : LRow ν.2.2 := hF.1.2.2
  have h16 := hB.n16
  have hc1 := @ic x1
  have mi : ∀ {g : Nat} {i : Int32}, rk g = true → rlen g = 16000 → 0 ≤ i.toInt → i.toInt < (ζ.1 19).toInt → MI i (ν.2.2 g) := fun hg hr a0 a1 => MI.of (hLν.g hg hr) a0 (by omega)
  have mu : ∀ {g : Nat}, rk g = true → rlen g = 14 → MI x1 (ν.2.2 g) := fun hg hr => MI.of (hLν.g hg hr) u0 (by omega)
  have r42 : ν.2.1 42 = μ.2.1 42 := (hF.row rfl).trans (hB.2.1.1.2.1 42 rfl)
  have r23 : ν.2.1 23 = ζ.2.1 23 := hF.row rfl
  have r27 : ν.2.1 27 = ζ.2.1 27 := hF.row rfl
  obtain ⟨⟨b1, b2⟩, m, hm⟩ := hB.im (i := x1.toNatClampNeg) (by omega)
  obtain ⟨w1, w2, -⟩ := hU x1.toNatClampNeg (by omega)
  have key : ∀ (m : Nat) (x3 x4 : Int32), Lst (fun y => 0 ≤ y.toInt ∧ y.toInt < (ζ.1 19).toInt) (ζ.2.1 27) m x4 → ME X W true (d - 1) 384 37 [(0, .ref P.1), (1, .int x1), (2, .int x2), (3, .int x3), (4, .int x4)] [] P ν (fun r ν1 => ν1 = ν ∧ (r = 0 ∨ r = 1)) T := by
    have fin : ∀ (x3 x4 : Int32), x4 = -1 → ME X W true (d - 1) 384 37 [(0, .ref P.1), (1, .int x1), (2, .int x2), (3, .int x3), (4, .int x4)] [] P ν (fun r ν1 => ν1 = ν ∧ (r = 0 ∨ r = 1)) T := fun x3 x4 e => by
      subst e
      exact v_seesNode_37 _ _ _ _ ⟨fun _ => ⟨rfl, Or.inl rfl⟩, fun h => absurd h (by decide)⟩
    intro m
    induction m with
    | zero => intro x3 x4 hL; exact fin x3 x4 hL
    | succ m ih =>
      intro x3 x4 hL
      rcases hL with hL | ⟨⟨h4, h5⟩, hL⟩
      · exact fin x3 x4 hL
      have on := ih x3 _ hL
      have m27 : MI x4 (ν.2.2 27) := mi rfl rfl h4 h5
      refine v_seesNode_37 _ _ _ _ ⟨fun h => by omega, fun _ => ⟨mi rfl rfl h4 h5, MC.mono (c_findIn (by omega) hLν u0 (by omega) (by rw [hF.row (g := 48) rfl]; exact w1) (by rw [hF.row (g := 49) rfl]; omega)) (fun r κ hk => ?_) (fun _ h => h)⟩⟩
      obtain ⟨hκ, -, hr⟩ := hk
      have e := hκ.symm
      subst e
      refine ⟨fun _ => ⟨m27, by rw [r27]; exact on⟩, fun hr0 => ?_⟩
      have hr3 : r.toInt < 3200 := by
        rcases hr with hr | ⟨-, -, hr, -⟩
        · rw [hr] at hr0; exact absurd hr0 (by decide)
        · rw [hF.row (g := 49) rfl] at hr; omega
      have mr : ∀ {g : Nat}, rk g = true → rlen g = 3200 → MI r (ν.2.2 g) := fun hg hr => MI.of (hLν.g hg hr) hr0 hr3
      exact ⟨mr rfl rfl, fun _ => ⟨m27, by rw [r27]; exact on⟩, fun _ => ⟨mr rfl rfl, fun _ => ⟨m27, by rw [r27]; exact on⟩, fun _ => ⟨rfl, Or.inr rfl⟩⟩⟩
  refine me_meth (by omega) rfl (v_seesNode_0 _ _ ⟨mi rfl rfl y0 y1, fun _ => ⟨rfl, Or.inr rfl⟩, fun _ => ⟨mu rfl rfl, fun _ => ⟨mu rfl rfl, ?_, ?_⟩, fun _ => ⟨rfl, Or.inr rfl⟩⟩⟩)
  · rw [r42]; exact mi rfl rfl b1 b2
  · rw [r42, r23]; exact key m _ _ hm
end NNY
