/-! contracts of the reference: SIGNATUREs named -/
section NMG
variable {X : ev_X} {W : Nat → Prop} {d h : Nat} {P : MP} {μ ν : MS} {n : Int} {S : Nat → Prop}
theorem fk13 {i : Int32} (hG : G μ (h + 1) S 9 i) : μ.2.1 20 i.toNatClampNeg = 13 ∧ G μ h (fun j => S j ∧ j ≠ i.toNatClampNeg) 0 (μ.2.1 23 i.toNatClampNeg) ∧ μ.2.1 27 (μ.2.1 23 i.toNatClampNeg).toNatClampNeg = -1 := by
  obtain ⟨g1, g2, g3, g4⟩ := hG
  have e : μ.2.1 20 i.toNatClampNeg = 13 := by
    have g3 : ([13] : List Int32).contains (μ.2.1 20 i.toNatClampNeg) = true := g3
    simpa using g3
  have g5 := g4 1 (by decide)
  rw [e] at g5
  exact ⟨e, g5⟩
theorem fk12 {i : Int32} (hG : G μ (h + 1) S 8 i) : μ.2.1 20 i.toNatClampNeg = 12 ∧ (∃ m, Lst (G μ h (fun j => S j ∧ j ≠ i.toNatClampNeg) 9) (μ.2.1 27) m (μ.2.1 22 i.toNatClampNeg)) ∧ (μ.2.1 23 i.toNatClampNeg = -1 ∨ (G μ h (fun j => S j ∧ j ≠ i.toNatClampNeg) 0 (μ.2.1 23 i.toNatClampNeg) ∧ μ.2.1 27 (μ.2.1 23 i.toNatClampNeg).toNatClampNeg = -1)) ∧ ∃ m, Lst (G μ h (fun j => S j ∧ j ≠ i.toNatClampNeg) 7) (μ.2.1 27) m (μ.2.1 24 i.toNatClampNeg) := by
  obtain ⟨g1, g2, g3, g4⟩ := hG
  have e : μ.2.1 20 i.toNatClampNeg = 12 := by
    have g3 : ([12] : List Int32).contains (μ.2.1 20 i.toNatClampNeg) = true := g3
    simpa using g3
  have g5 := g4 0 (by decide)
  have g6 := g4 1 (by decide)
  have g7 := g4 2 (by decide)
  rw [e] at g5 g6 g7
  exact ⟨e, g5, g6, g7⟩
/-- a QNAME asks nothing of itself -/
theorem NG.q {i : Int32} (hG : G μ h S 7 i) : NG μ h 7 i := by
  cases h with
  | zero => exact hG.elim
  | succ h =>
    obtain ⟨g1, g2, g3, g4⟩ := hG
    have e : μ.2.1 20 i.toNatClampNeg = 11 := by
      have g3 : ([11] : List Int32).contains (μ.2.1 20 i.toNatClampNeg) = true := g3
      simpa using g3
    have sh : ∀ f, f < 5 → fW (Int32.toNatClampNeg 11) f = (0, 0) := by decide
    refine ⟨g1, g3, ?_, fun f hf => by rw [e, sh f hf]; exact True.intro⟩
    unfold LN
    rw [e]
    exact ⟨fun e => absurd e (by decide), fun e => absurd e (by decide), fun e => absurd e (by decide), fun e => absurd e (by decide), fun e => absurd e (by decide)⟩
theorem c_nameSigP (hT0 : TyN X W P d h) (hT1 : TyN X W P d (h + 1)) (hd : 4 ≤ d) {T : MS → Prop} {s : Int32} {mf mq : Nat} (hE : NE n μ) (hs : 0 ≤ s.toInt ∧ s.toInt < 16000) (hS1 : SB n μ S) (ek : μ.2.1 20 s.toNatClampNeg = 12) (hF : Lst (G μ (h + 1) S 9) (μ.2.1 27) mf (μ.2.1 22 s.toNatClampNeg)) (hR : μ.2.1 23 s.toNatClampNeg = -1 ∨ G μ (h + 1) S 0 (μ.2.1 23 s.toNatClampNeg)) (hQ : Lst (G μ (h + 1) S 7) (μ.2.1 27) mq (μ.2.1 24 s.toNatClampNeg)) :
    MC X W true (d + 1) 355 [.ref P.1, .int s] P μ (fun _ μ1 => NF μ μ1 ∧ (μ1.1 17 = 0 → LN μ1 s.toNatClampNeg ∧ Lst (NG μ1 (h + 1) 9) (μ1.2.1 27) mf (μ.2.1 22 s.toNatClampNeg) ∧ (μ.2.1 23 s.toNatClampNeg = -1 ∨ NG μ1 (h + 1) 0 (μ.2.1 23 s.toNatClampNeg)) ∧ Lst (NG μ1 (h + 1) 7) (μ1.2.1 27) mq (μ.2.1 24 s.toNatClampNeg))) T := by
  have mi : ∀ {g : Nat} {i : Int32} {κ : MS}, NF μ κ → rk g = true → rlen g = 16000 → 0 ≤ i.toInt ∧ i.toInt < 16000 → MI i (κ.2.2 g) := fun hκ hg hr a => MI.of ((hE.1.to hκ.1).g hg hr) a.1 a.2
  -- the RAISES, behind the RESULT
  have tail : ∀ (x2 : Int32) (κ : MS), NF μ κ → (κ.1 17 = 0 → μ.2.1 23 s.toNatClampNeg = -1 ∨ NG κ (h + 1) 0 (μ.2.1 23 s.toNatClampNeg)) → MI s (κ.2.2 24) ∧ ME X W true d 355 86 [(0, .ref P.1), (1, .int s), (2, .int x2), (3, .int (κ.2.1 24 s.toNatClampNeg))] [] P κ (fun _ μ1 => NF κ μ1 ∧ (μ1.1 17 = 0 → (μ.2.1 23 s.toNatClampNeg = -1 ∨ NG μ1 (h + 1) 0 (μ.2.1 23 s.toNatClampNeg)) ∧ Lst (fun q => QK μ1 q 8 8) (μ1.2.1 27) mq (μ.2.1 24 s.toNatClampNeg))) T := fun x2 κ k1 k2 => by
    refine ⟨mi k1 rfl rfl hs, ?_⟩
    rw [k1.row (g := 24) rfl]
    refine ME.mono (c_raises (μ := μ) (d := d + 1) (s := s) (x2 := x2) (by omega) mq _ κ (hE.nf k1) k1 ?_) (fun _ ζ hz => ?_) (fun _ h => h)
    · rw [k1.row (g := 27) rfl, k1.row (g := 29) rfl, k1.row (g := 20) rfl]
      refine hQ.mono (fun q hq => ?_) (fun _ _ => rfl)
      obtain ⟨q0, q1⟩ := hS1.i hq
      obtain ⟨w1, w2, w3⟩ := hS1 _ hq.in.2
      exact ⟨q0, q1, w2, w3, hq.k11⟩
    · obtain ⟨z1, z2, z3⟩ := hz
      refine ⟨z1, fun e => ⟨?_, z3 e⟩⟩
      rcases k2 (z1.z e) with k | k
      · exact Or.inl k
      · exact Or.inr (k.nf z1)
  have key : ∀ (m : Nat) (x3 x4 : Int32) (ν : MS), NF μ ν → Lst (G μ (h + 1) S 9) (μ.2.1 27) m x4 → (x3 = -1 ∨ (ν.1 17 = 0 → NG ν h 0 x3)) → ME X W true d 355 19 [(0, .ref P.1), (1, .int s), (2, .int x3), (3, .int x4)] [] P ν (fun _ μ1 => NF ν μ1 ∧ (μ1.1 17 = 0 → Lst (NG μ1 (h + 1) 9) (μ1.2.1 27) m x4 ∧ (μ.2.1 23 s.toNatClampNeg = -1 ∨ NG μ1 (h + 1) 0 (μ.2.1 23 s.toNatClampNeg)) ∧ Lst (fun q => QK μ1 q 8 8) (μ1.2.1 27) mq (μ.2.1 24 s.toNatClampNeg))) T := by
    -- all FORMALs are behind
    have out : ∀ (m : Nat) (x3 : Int32) (ν : MS), NF μ ν → (∀ κ : MS, Lst (NG κ (h + 1) 9) (κ.2.1 27) m (-1)) → ME X W true d 355 19 [(0, .ref P.1), (1, .int s), (2, .int x3), (3, .int (-1))] [] P ν (fun _ μ1 => NF ν μ1 ∧ (μ1.1 17 = 0 → Lst (NG μ1 (h + 1) 9) (μ1.2.1 27) m (-1) ∧ (μ.2.1 23 s.toNatClampNeg = -1 ∨ NG μ1 (h + 1) 0 (μ.2.1 23 s.toNatClampNeg)) ∧ Lst (fun q => QK μ1 q 8 8) (μ1.2.1 27) mq (μ.2.1 24 s.toNatClampNeg))) T := fun m x3 ν hN hL => by
      have e23 : ν.2.1 23 = μ.2.1 23 := hN.row rfl
      refine v_nameSignature_19 _ _ _ ⟨fun _ => ⟨mi hN rfl rfl hs, fun hneg => ?_, fun hpos => ⟨mi hN rfl rfl hs, ?_⟩⟩, fun h => absurd h (by decide)⟩
      · rw [e23] at hneg
        have hb : μ.2.1 23 s.toNatClampNeg = -1 := by
          rcases hR with hR | hR
          · exact hR
          · have := (hS1.i hR).1; omega
        obtain ⟨t1, t2⟩ := tail x3 ν hN (fun _ => Or.inl hb)
        exact ⟨t1, ME.mono t2 (fun _ ζ hz => ⟨hz.1, fun e => ⟨hL ζ, hz.2 e⟩⟩) (fun _ h => h)⟩
      · rw [e23] at hpos ⊢
        have hb : G μ (h + 1) S 0 (μ.2.1 23 s.toNatClampNeg) := by
          rcases hR with hR | hR
          · rw [hR] at hpos; exact absurd hpos (by decide)
          · exact hR
        refine MC.mono (hT1 ν _ n _ _ (hE.nf hN) (hS1.nf hN) (hb.nf hN)) (fun _ κ hk => ?_) (fun _ h => h)
        obtain ⟨k1, k2⟩ := hk
        obtain ⟨t1, t2⟩ := tail x3 κ (hN.tr k1) (fun e => Or.inr (k2 e))
        exact ⟨t1, ME.mono t2 (fun _ ζ hz => ⟨k1.tr hz.1, fun e => ⟨hL ζ, hz.2 e⟩⟩) (fun _ h => h)⟩
    intro m
    induction m with
    | zero =>
      intro x3 x4 ν hN hx hB
      have hx : x4 = -1 := hx
      subst hx
      exact out 0 x3 ν hN (fun _ => rfl)
    | succ m ih =>
      intro x3 x4 ν hN hx hB
      rcases hx with hx | ⟨hGf, hx⟩
      · subst hx
        exact out (m + 1) x3 ν hN (fun _ => Or.inl rfl)
      have hi := hS1.i hGf
      obtain ⟨ekf, hGt, hlt⟩ := fk13 hGf
      have hS2 := hS1.sub (fun j (hj : S j ∧ j ≠ x4.toNatClampNeg) => hj.1)
      have et := hS2.i hGt
      have e23 : ν.2.1 23 = μ.2.1 23 := hN.row rfl
      have next : ∀ κ : MS, NF μ κ → NF ν κ → (κ.1 17 = 0 → NG κ h 0 (μ.2.1 23 x4.toNatClampNeg)) → ME X W true d 355 19 [(0, .ref P.1), (1, .int s), (2, .int (κ.2.1 23 x4.toNatClampNeg)), (3, .int (κ.2.1 27 x4.toNatClampNeg))] [] P κ (fun _ μ1 => NF ν μ1 ∧ (μ1.1 17 = 0 → Lst (NG μ1 (h + 1) 9) (μ1.2.1 27) (m + 1) x4 ∧ (μ.2.1 23 s.toNatClampNeg = -1 ∨ NG μ1 (h + 1) 0 (μ.2.1 23 s.toNatClampNeg)) ∧ Lst (fun q => QK μ1 q 8 8) (μ1.2.1 27) mq (μ.2.1 24 s.toNatClampNeg))) T := fun κ k1 k2 k3 => by
        rw [k1.row (g := 23) rfl, k1.row (g := 27) rfl]
        refine ME.mono (ih _ _ κ k1 hx (Or.inr k3)) (fun _ ζ hz => ?_) (fun _ h => h)
        obtain ⟨z1, z2⟩ := hz
        refine ⟨k2.tr z1, fun e => ⟨Or.inr ⟨?_, ?_⟩, (z2 e).2⟩⟩
        · have ez := (k1.tr z1)
          have hz20 := ez.row (g := 20) rfl
          have ng := (k3 (z1.z e)).nf z1
          have sh : ∀ f, f < 5 → f ≠ 1 → fW (Int32.toNatClampNeg 13) f = (0, 0) := by decide
          refine ⟨hi.1, by rw [hz20, ekf]; decide, ?_, fun f hf => ?_⟩
          · unfold LN
            rw [hz20, ekf]
            exact ⟨fun e => absurd e (by decide), fun e => absurd e (by decide), fun e => absurd e (by decide), fun e => absurd e (by decide), fun e => absurd e (by decide)⟩
          · rw [hz20, ekf]
            by_cases c : f = 1
            · subst c
              rw [show ζ.2.1 (22 + 1) = μ.2.1 23 from ez.row (g := 23) rfl]
              exact And.intro ng (by rw [ez.row (g := 27) rfl]; exact hlt)
            · rw [sh f hf c]; exact True.intro
        · rw [show ζ.2.1 27 x4.toNatClampNeg = μ.2.1 27 x4.toNatClampNeg by rw [(k1.tr z1).row (g := 27) rfl]]
          exact (z2 e).1
      refine v_nameSignature_19 _ _ _ ⟨fun h => by omega, fun _ => ⟨mi hN rfl rfl hi, fun e => ⟨mi hN rfl rfl hi, mi hN rfl rfl hi, next ν hN NF.rf ?_⟩, fun _ => ⟨mi hN rfl rfl hi, ?_⟩⟩⟩
      · rw [e23] at e
        rcases hB with hB | hB
        · rw [hB] at e
          rw [e] at et
          exact absurd et.1 (by decide)
        · rw [e]; exact hB
      · rw [e23]
        refine MC.mono (hT0 ν _ n _ _ (hE.nf hN) (hS2.nf hN) (hGt.nf hN)) (fun _ κ hk => ?_) (fun _ h => h)
        obtain ⟨k1, k2⟩ := hk
        exact ⟨mi (hN.tr k1) rfl rfl hi, mi (hN.tr k1) rfl rfl hi, next κ (hN.tr k1) k1 k2⟩
  refine me_meth (by omega) rfl (v_nameSignature_0 _ ⟨mi NF.rf rfl rfl hs, MC.mono (c_again (by omega) hE.1 (hS1.rw hF)) (fun _ ν hν => ?_) (fun _ h => h)⟩)
  obtain ⟨a1, a2⟩ := hν
  refine ⟨mi a1 rfl rfl hs, ?_⟩
  rw [a1.row (g := 22) rfl]
  refine ME.mono (key mf (-1) _ ν a1 hF (Or.inl rfl)) (fun _ ζ hz => ?_) (fun _ h => h)
  obtain ⟨z1, z2⟩ := hz
  have ez := a1.tr z1
  refine ⟨ez, fun e => ?_⟩
  obtain ⟨y1, y2, y3⟩ := z2 e
  have hz20 := ez.row (g := 20) rfl
  refine ⟨?_, y1, y2, hQ.mono (fun q hq => (NG.q hq).nf ez) (fun _ _ => by rw [ez.row (g := 27) rfl])⟩
  unfold LN
  rw [hz20, ek, ez.row (g := 24) rfl]
  exact ⟨fun e => absurd e (by decide), fun e => absurd e (by decide), fun _ => ⟨mq, y3⟩, fun e => absurd e (by decide), fun e => absurd e (by decide)⟩
end NMG
