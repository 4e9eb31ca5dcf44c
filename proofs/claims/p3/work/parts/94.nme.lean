/-! contracts of the reference: FIELDS named -/
/-- nodes of a set are within the rows, their units known -/
def SB (n : Int) (ν : MS) (S : Nat → Prop) : Prop := ∀ j, S j → (j : Int) < 16000 ∧ 0 ≤ (ν.2.1 29 j).toInt ∧ (ν.2.1 29 j).toInt < n
/-- a TYPE of a height is named -/
def TyN (X : ev_X) (W : Nat → Prop) (P : MP) (d h : Nat) : Prop := ∀ (μ : MS) (T : MS → Prop) (n : Int) (S : Nat → Prop) (t : Int32), NE n μ → SB n μ S → G μ h S 0 t → MC X W true d 351 [.ref P.1, .int t] P μ (fun _ μ1 => NF μ μ1 ∧ (μ1.1 17 = 0 → NG μ1 h 0 t)) T
section NMF
variable {X : ev_X} {W : Nat → Prop} {d h : Nat} {P : MP} {μ ν : MS} {n : Int} {S : Nat → Prop}
theorem SB.nf (hS : SB n μ S) (hN : NF μ ν) : SB n ν S := fun j hj => by rw [hN.row (g := 29) rfl]; exact hS j hj
theorem SB.sub {S' : Nat → Prop} (hS : SB n μ S) (hs : ∀ j, S' j → S j) : SB n μ S' := fun j hj => hS j (hs j hj)
theorem NF.z (hN : NF μ ν) (e : ν.1 17 = 0) : μ.1 17 = 0 := by
  by_cases c : μ.1 17 = 0
  · exact c
  · exact absurd e (hN.2.1 c)
theorem SB.i {s : Nat} {i : Int32} (hS : SB n μ S) (hG : G μ h S s i) : 0 ≤ i.toInt ∧ i.toInt < 16000 := by
  obtain ⟨k1, k2⟩ := hG.in
  have := hS _ k2
  have hc := @ic i
  exact ⟨k1, by omega⟩
theorem SB.rw {s m : Nat} {x : Int32} (hS : SB n μ S) (hL : Lst (G μ h S s) (μ.2.1 27) m x) : RwL μ m x := hL.mono (fun _ hy => hS.i hy) (fun _ _ => rfl)
theorem fk33 {s : Nat} {i : Int32} (hG : G μ (h + 1) S s i) (hs : s = 10) : μ.2.1 20 i.toNatClampNeg = 33 ∧ G μ h (fun j => S j ∧ j ≠ i.toNatClampNeg) 0 (μ.2.1 23 i.toNatClampNeg) ∧ μ.2.1 27 (μ.2.1 23 i.toNatClampNeg).toNatClampNeg = -1 := by
  obtain ⟨g1, g2, g3, g4⟩ := hG
  subst hs
  have e : μ.2.1 20 i.toNatClampNeg = 33 := by
    have g3 : ([33] : List Int32).contains (μ.2.1 20 i.toNatClampNeg) = true := g3
    simpa using g3
  have g5 := g4 1 (by decide)
  rw [e] at g5
  exact ⟨e, g5⟩
theorem c_nameFields (hT : TyN X W P d h) (hd : 3 ≤ d) {T : MS → Prop} {x1 x2 : Int32} {m1 m2 : Nat} (hE : NE n μ) (hS : SB n μ S) (h1 : Lst (G μ (h + 1) S 10) (μ.2.1 27) m1 x1) (h2 : Lst (G μ (h + 1) S 11) (μ.2.1 27) m2 x2) :
    MC X W true (d + 1) 353 [.ref P.1, .int x1, .int x2] P μ (fun _ μ1 => NF μ μ1 ∧ (μ1.1 17 = 0 → ∃ m, Lst (NG μ1 (h + 1) 10) (μ1.2.1 27) m x1)) T := by
  have mi : ∀ {g : Nat} {i : Int32} {κ : MS}, NF μ κ → rk g = true → rlen g = 16000 → 0 ≤ i.toInt ∧ i.toInt < 16000 → MI i (κ.2.2 g) := fun hκ hg hr a => MI.of ((hE.1.to hκ.1).g hg hr) a.1 a.2
  -- the rest of the FIELDs, and what was named ahead of them
  have key : ∀ (m : Nat) (x3 x4 : Int32) (ν : MS), NF μ ν → Lst (G μ (h + 1) S 10) (μ.2.1 27) m x4 → (x3 = -1 ∨ (ν.1 17 = 0 → NG ν h 0 x3)) → ME X W true d 353 15 [(0, .ref P.1), (1, .int x1), (2, .int x2), (3, .int x3), (4, .int x4)] [] P ν (fun _ μ1 => NF ν μ1 ∧ (μ1.1 17 = 0 → Lst (NG μ1 (h + 1) 10) (μ1.2.1 27) m x4)) T := by
    intro m
    induction m with
    | zero =>
      intro x3 x4 ν hN hx hB
      have hx : x4 = -1 := hx
      subst hx
      exact v_nameFields_15 _ _ _ _ ⟨fun _ => ⟨NF.rf, fun _ => rfl⟩, fun h => absurd h (by decide)⟩
    | succ m ih =>
      intro x3 x4 ν hN hx hB
      rcases hx with hx | ⟨hG, hx⟩
      · subst hx
        exact v_nameFields_15 _ _ _ _ ⟨fun _ => ⟨NF.rf, fun _ => Or.inl rfl⟩, fun h => absurd h (by decide)⟩
      have hi := hS.i hG
      obtain ⟨ek, hGt, hlt⟩ := fk33 hG rfl
      have et := (hS.sub (fun j (hj : S j ∧ j ≠ x4.toNatClampNeg) => hj.1)).i hGt
      -- the METHODs of the same LEVEL, then the next FIELD
      have inner : ∀ (m5 : Nat) (x5 : Int32) (κ : MS), NF μ κ → NF ν κ → Lst (G μ (h + 1) S 11) (μ.2.1 27) m5 x5 → (κ.1 17 = 0 → NG κ h 0 (μ.2.1 23 x4.toNatClampNeg)) → ME X W true d 353 53 [(0, .ref P.1), (1, .int x1), (2, .int x2), (3, .int (μ.2.1 23 x4.toNatClampNeg)), (4, .int x4), (5, .int x5)] [] P κ (fun _ μ1 => NF ν μ1 ∧ (μ1.1 17 = 0 → Lst (NG μ1 (h + 1) 10) (μ1.2.1 27) (m + 1) x4)) T := by
        intro m5
        have out : ∀ (κ : MS) (x5 : Int32), NF μ κ → NF ν κ → (κ.1 17 = 0 → NG κ h 0 (μ.2.1 23 x4.toNatClampNeg)) → MI x4 (κ.2.2 27) ∧ ME X W true d 353 15 [(0, .ref P.1), (1, .int x1), (2, .int x2), (3, .int (μ.2.1 23 x4.toNatClampNeg)), (4, .int (κ.2.1 27 x4.toNatClampNeg))] [] P κ (fun _ μ1 => NF ν μ1 ∧ (μ1.1 17 = 0 → Lst (NG μ1 (h + 1) 10) (μ1.2.1 27) (m + 1) x4)) T := fun κ x5 k1 k2 k3 => by
          refine ⟨mi k1 rfl rfl hi, ?_⟩
          rw [k1.row (g := 27) rfl]
          refine ME.mono (ih _ _ κ k1 hx (Or.inr k3)) (fun _ ζ hz => ?_) (fun _ h => h)
          obtain ⟨z1, z2⟩ := hz
          refine ⟨k2.tr z1, fun e => Or.inr ⟨?_, ?_⟩⟩
          · have ez := (k1.tr z1)
            have hz20 := ez.row (g := 20) rfl
            have ng := (k3 (z1.z e)).nf z1
            have sh : ∀ f, f < 5 → f ≠ 1 → fW (Int32.toNatClampNeg 33) f = (0, 0) := by decide
            refine ⟨hi.1, by rw [hz20, ek]; decide, ?_, fun f hf => ?_⟩
            · unfold LN
              rw [hz20, ek]
              exact ⟨fun e => absurd e (by decide), fun e => absurd e (by decide), fun e => absurd e (by decide), fun e => absurd e (by decide), fun e => absurd e (by decide)⟩
            · rw [hz20, ek]
              by_cases c : f = 1
              · subst c
                rw [show ζ.2.1 (22 + 1) = μ.2.1 23 from ez.row (g := 23) rfl]
                exact And.intro ng (by rw [ez.row (g := 27) rfl]; exact hlt)
              · rw [sh f hf c]; exact True.intro
          · rw [show ζ.2.1 27 x4.toNatClampNeg = μ.2.1 27 x4.toNatClampNeg by rw [(k1.tr z1).row (g := 27) rfl]]
            exact z2 e
        induction m5 with
        | zero =>
          intro x5 κ k1 k2 hx5 k3
          have hx5 : x5 = -1 := hx5
          subst hx5
          exact v_nameFields_53 _ _ _ _ _ ⟨fun _ => out κ 0 k1 k2 k3, fun h => absurd h (by decide)⟩
        | succ m5 ih5 =>
          intro x5 κ k1 k2 hx5 k3
          rcases hx5 with hx5 | ⟨hG5, hx5⟩
          · subst hx5
            exact v_nameFields_53 _ _ _ _ _ ⟨fun _ => out κ 0 k1 k2 k3, fun h => absurd h (by decide)⟩
          have hi5 := hS.i hG5
          refine v_nameFields_53 _ _ _ _ _ ⟨fun h => by omega, fun _ => ⟨mi k1 rfl rfl hi5, mi k1 rfl rfl hi, fun _ => ⟨mi k1 rfl rfl hi5, ?_⟩, fun _ => ⟨mi k1 rfl rfl hi5, MC.mono (c_ruleF (by omega) (by decide)) (fun _ κ2 hk => ?_) (fun _ h => h)⟩⟩⟩
          · rw [k1.row (g := 27) rfl]
            exact ih5 _ κ k1 k2 hx5 k3
          · obtain ⟨w1, -, w3⟩ := hk
            refine ⟨mi (k1.tr w1) rfl rfl hi5, ?_⟩
            rw [(k1.tr w1).row (g := 27) rfl]
            exact ih5 _ κ2 (k1.tr w1) (k2.tr w1) hx5 (fun e => absurd e w3)
      have e23 : ν.2.1 23 = μ.2.1 23 := hN.row rfl
      refine v_nameFields_15 _ _ _ _ ⟨fun h => by omega, fun _ => ⟨mi hN rfl rfl hi, fun e => ⟨mi hN rfl rfl hi, ?_⟩, fun _ => ⟨mi hN rfl rfl hi, ?_⟩⟩⟩
      · rw [e23] at e ⊢
        refine inner m2 x2 ν hN NF.rf h2 ?_
        rcases hB with hB | hB
        · rw [hB] at e
          rw [e] at et
          exact absurd et.1 (by decide)
        · rw [e]; exact hB
      · rw [e23]
        refine MC.mono (hT ν _ n _ _ (hE.nf hN) ((hS.nf hN).sub (fun j (hj : S j ∧ j ≠ x4.toNatClampNeg) => hj.1)) (hGt.nf hN)) (fun _ κ hk => ?_) (fun _ h => h)
        obtain ⟨k1, k2⟩ := hk
        refine ⟨mi (hN.tr k1) rfl rfl hi, ?_⟩
        rw [(hN.tr k1).row (g := 23) rfl]
        exact inner m2 x2 κ (hN.tr k1) k1 h2 k2
  refine me_meth (by omega) rfl (v_nameFields_0 _ _ (MC.mono (c_again (by omega) hE.1 (hS.rw h1)) (fun _ ν hν => ?_) (fun _ h => h)))
  obtain ⟨a1, a2⟩ := hν
  refine MC.mono (c_again (m := m2) (by omega) (hE.nf a1).1 ((hS.rw h2).kf (a1.row rfl))) (fun _ κ hκ => ?_) (fun _ h => h)
  obtain ⟨b1, b2⟩ := hκ
  exact ME.mono (key m1 (-1) x1 κ (a1.tr b1) h1 (Or.inl rfl)) (fun _ ζ hz => ⟨(a1.tr b1).tr hz.1, fun e => ⟨m1, hz.2 e⟩⟩) (fun _ h => h)
end NMF
