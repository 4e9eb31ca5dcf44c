/-! contracts of the reference: METHODS and OVERRIDES named -/
/-- a SIGNATURE of a height is named -/
def SiN (X : ev_X) (W : Nat → Prop) (P : MP) (d h : Nat) : Prop := ∀ (μ : MS) (T : MS → Prop) (n : Int) (S : Nat → Prop) (t : Int32), NE n μ → SB n μ S → G μ h S 8 t → MC X W true d 355 [.ref P.1, .int t] P μ (fun _ μ1 => NF μ μ1 ∧ (μ1.1 17 = 0 → NG μ1 h 8 t)) T
section NMH
variable {X : ev_X} {W : Nat → Prop} {d h : Nat} {P : MP} {μ ν : MS} {n : Int} {S : Nat → Prop}
theorem fk34 {i : Int32} (hG : G μ (h + 1) S 11 i) : μ.2.1 20 i.toNatClampNeg = 34 ∧ (G μ h (fun j => S j ∧ j ≠ i.toNatClampNeg) 8 (μ.2.1 23 i.toNatClampNeg) ∧ μ.2.1 27 (μ.2.1 23 i.toNatClampNeg).toNatClampNeg = -1) ∧ (μ.2.1 24 i.toNatClampNeg = -1 ∨ (G μ h (fun j => S j ∧ j ≠ i.toNatClampNeg) 7 (μ.2.1 24 i.toNatClampNeg) ∧ μ.2.1 27 (μ.2.1 24 i.toNatClampNeg).toNatClampNeg = -1)) := by
  obtain ⟨g1, g2, g3, g4⟩ := hG
  have e : μ.2.1 20 i.toNatClampNeg = 34 := by
    have g3 : ([34] : List Int32).contains (μ.2.1 20 i.toNatClampNeg) = true := g3
    simpa using g3
  have g5 := g4 1 (by decide)
  have g6 := g4 2 (by decide)
  rw [e] at g5 g6
  exact ⟨e, g5, g6⟩
theorem fk35 {i : Int32} (hG : G μ (h + 1) S 12 i) : μ.2.1 20 i.toNatClampNeg = 35 ∧ G μ h (fun j => S j ∧ j ≠ i.toNatClampNeg) 7 (μ.2.1 24 i.toNatClampNeg) ∧ μ.2.1 27 (μ.2.1 24 i.toNatClampNeg).toNatClampNeg = -1 := by
  obtain ⟨g1, g2, g3, g4⟩ := hG
  have e : μ.2.1 20 i.toNatClampNeg = 35 := by
    have g3 : ([35] : List Int32).contains (μ.2.1 20 i.toNatClampNeg) = true := g3
    simpa using g3
  have g6 := g4 2 (by decide)
  rw [e] at g6
  exact ⟨e, g6⟩
theorem NG.m34 {ζ : MS} {i : Int32} (h0 : 0 ≤ i.toInt) (ek : ζ.2.1 20 i.toNatClampNeg = 34) (hs : NG ζ h 8 (ζ.2.1 23 i.toNatClampNeg) ∧ ζ.2.1 27 (ζ.2.1 23 i.toNatClampNeg).toNatClampNeg = -1) (hq : ζ.2.1 24 i.toNatClampNeg = -1 ∨ ((NG ζ h 7 (ζ.2.1 24 i.toNatClampNeg) ∧ ζ.2.1 27 (ζ.2.1 24 i.toNatClampNeg).toNatClampNeg = -1) ∧ QK ζ (ζ.2.1 24 i.toNatClampNeg) 9 9)) : NG ζ (h + 1) 11 i := by
  refine ⟨h0, by rw [ek]; decide, ?_, fun f hf => ?_⟩
  · unfold LN
    rw [ek]
    refine ⟨fun e => absurd e (by decide), fun _ k => ?_, fun e => absurd e (by decide), fun e => absurd e (by decide), fun e => absurd e (by decide)⟩
    rcases hq with hq | hq
    · rw [hq] at k; exact absurd k (by decide)
    · exact hq.2
  · rw [ek]
    have h5 : f = 0 ∨ f = 1 ∨ f = 2 ∨ f = 3 ∨ f = 4 := by omega
    rcases h5 with rfl | rfl | rfl | rfl | rfl
    · exact True.intro
    · exact hs
    · exact hq.imp id (fun h => h.1)
    · exact True.intro
    · exact True.intro
theorem NG.m35 {ζ : MS} {i : Int32} (h0 : 0 ≤ i.toInt) (ek : ζ.2.1 20 i.toNatClampNeg = 35) (hq : (NG ζ h 7 (ζ.2.1 24 i.toNatClampNeg) ∧ ζ.2.1 27 (ζ.2.1 24 i.toNatClampNeg).toNatClampNeg = -1) ∧ QK ζ (ζ.2.1 24 i.toNatClampNeg) 9 9) : NG ζ (h + 1) 12 i := by
  refine ⟨h0, by rw [ek]; decide, ?_, fun f hf => ?_⟩
  · unfold LN
    rw [ek]
    exact ⟨fun e => absurd e (by decide), fun _ _ => hq.2, fun e => absurd e (by decide), fun e => absurd e (by decide), fun e => absurd e (by decide)⟩
  · rw [ek]
    have h5 : f = 0 ∨ f = 1 ∨ f = 2 ∨ f = 3 ∨ f = 4 := by omega
    rcases h5 with rfl | rfl | rfl | rfl | rfl
    · exact True.intro
    · exact True.intro
    · exact hq.1
    · exact True.intro
    · exact True.intro
theorem c_nameMembers (hSg : SiN X W P d h) (hd : 3 ≤ d) {so : Nat} (hso : so = 11 ∨ so = 12) {T : MS → Prop} {x1 : Int32} {m1 : Nat} (hE : NE n μ) (hS : SB n μ S) (h1 : Lst (G μ (h + 1) S so) (μ.2.1 27) m1 x1) :
    MC X W true (d + 1) 354 [.ref P.1, .int x1] P μ (fun _ μ1 => NF μ μ1 ∧ (μ1.1 17 = 0 → ∃ m, Lst (NG μ1 (h + 1) so) (μ1.2.1 27) m x1)) T := by
  have mi : ∀ {g : Nat} {i : Int32} {κ : MS}, NF μ κ → rk g = true → rlen g = 16000 → 0 ≤ i.toInt ∧ i.toInt < 16000 → MI i (κ.2.2 g) := fun hκ hg hr a => MI.of ((hE.1.to hκ.1).g hg hr) a.1 a.2
  have key : ∀ (m : Nat) (x2 : Int32) (ν : MS), NF μ ν → Lst (G μ (h + 1) S so) (μ.2.1 27) m x2 → ME X W true d 354 2 [(0, .ref P.1), (1, .int x1), (2, .int x2)] [] P ν (fun _ μ1 => NF ν μ1 ∧ (μ1.1 17 = 0 → Lst (NG μ1 (h + 1) so) (μ1.2.1 27) m x2)) T := by
    intro m
    induction m with
    | zero =>
      intro x2 ν hN hx
      have hx : x2 = -1 := hx
      subst hx
      exact v_nameMembers_2 _ _ ⟨fun _ => ⟨NF.rf, fun _ => rfl⟩, fun h => absurd h (by decide)⟩
    | succ m ih =>
      intro x2 ν hN hx
      rcases hx with hx | ⟨hG, hx⟩
      · subst hx
        exact v_nameMembers_2 _ _ ⟨fun _ => ⟨NF.rf, fun _ => Or.inl rfl⟩, fun h => absurd h (by decide)⟩
      have hi := hS.i hG
      have hS1 := hS.sub (fun j (hj : S j ∧ j ≠ x2.toNatClampNeg) => hj.1)
      -- the next one, this one named
      have next : ∀ κ : MS, NF μ κ → NF ν κ → (∀ ζ : MS, NF κ ζ → ζ.1 17 = 0 → NG ζ (h + 1) so x2) → MI x2 (κ.2.2 27) ∧ ME X W true d 354 2 [(0, .ref P.1), (1, .int x1), (2, .int (κ.2.1 27 x2.toNatClampNeg))] [] P κ (fun _ μ1 => NF ν μ1 ∧ (μ1.1 17 = 0 → Lst (NG μ1 (h + 1) so) (μ1.2.1 27) (m + 1) x2)) T := fun κ k1 k2 k3 => by
        refine ⟨mi k1 rfl rfl hi, ?_⟩
        rw [k1.row (g := 27) rfl]
        refine ME.mono (ih _ κ k1 hx) (fun _ ζ hz => ?_) (fun _ h => h)
        obtain ⟨z1, z2⟩ := hz
        refine ⟨k2.tr z1, fun e => Or.inr ⟨k3 ζ z1 e, ?_⟩⟩
        rw [show ζ.2.1 27 x2.toNatClampNeg = μ.2.1 27 x2.toNatClampNeg by rw [(k1.tr z1).row (g := 27) rfl]]
        exact z2 e
      -- the QNAME behind it
      have qual : ∀ κ : MS, NF μ κ → NF ν κ → G μ h (fun j => S j ∧ j ≠ x2.toNatClampNeg) 7 (μ.2.1 24 x2.toNatClampNeg) → (∀ ζ : MS, NF κ ζ → ζ.1 17 = 0 → QK ζ (μ.2.1 24 x2.toNatClampNeg) 9 9 → NG ζ (h + 1) so x2) → MC X W true d 350 [.ref P.1, .int (μ.2.1 24 x2.toNatClampNeg), .int 9, .int 9] P κ (fun _ μ1 => (MI x2 (μ1.2.2 27) ∧ ME X W true d 354 2 [(0, .ref P.1), (1, .int x1), (2, .int (μ1.2.1 27 x2.toNatClampNeg))] [] P μ1 (fun _ μ1 => NF ν μ1 ∧ (μ1.1 17 = 0 → Lst (NG μ1 (h + 1) so) (μ1.2.1 27) (m + 1) x2)) T)) (fun _ => False) := fun κ k1 k2 hq k3 => by
        have hqi := hS1.i hq
        have hqu := (hS1.nf k1) _ hq.in.2
        have hEκ := hE.nf k1
        refine MC.mono (c_qualified (by omega) hEκ.1 hEκ.2.1 hEκ.2.2 hqi.1 hqi.2 hqu.2.1 hqu.2.2 (by rw [k1.row (g := 20) rfl]; exact hq.k11)) (fun _ η hη => ?_) (fun _ h => h)
        obtain ⟨w1, -, w3⟩ := hη
        exact next η (k1.tr w1) (k2.tr w1) (fun ζ z1 z2 => k3 ζ (w1.tr z1) z2 ((w3 (z1.z z2)).nf z1))
      have e24 : ∀ {κ : MS}, NF μ κ → κ.2.1 24 = μ.2.1 24 := fun k => k.row rfl
      have e23 : ν.2.1 23 = μ.2.1 23 := hN.row rfl
      have e20 : ν.2.1 20 = μ.2.1 20 := hN.row rfl
      refine v_nameMembers_2 _ _ ⟨fun h => by omega, fun _ => ⟨mi hN rfl rfl hi, fun hk => ?_, fun hk => ?_⟩⟩
      · rw [e20] at hk
        have h12 : so = 12 := by
          rcases hso with e | e
          · subst e; exact absurd (fk34 hG).1 hk
          · exact e
        subst h12
        obtain ⟨ek, hq, hql⟩ := fk35 hG
        refine ⟨mi hN rfl rfl hi, fun hneg => ?_, fun _ => ⟨mi hN rfl rfl hi, ?_⟩⟩
        · rw [e24 hN] at hneg
          have := (hS1.i hq).1
          omega
        · rw [e24 hN]
          exact qual ν hN NF.rf hq (fun ζ z1 z2 z3 => by
            have ez := hN.tr z1
            exact NG.m35 hi.1 (by rw [ez.row (g := 20) rfl]; exact ek) (by rw [e24 ez]; exact ⟨⟨(NG.q hq).nf ez, by rw [ez.row (g := 27) rfl]; exact hql⟩, z3⟩))
      · rw [e20] at hk
        have h11 : so = 11 := by
          rcases hso with e | e
          · exact e
          · subst e
            rw [(fk35 hG).1] at hk
            exact absurd hk (by decide)
        subst h11
        obtain ⟨ek, ⟨hsg, hsl⟩, hq⟩ := fk34 hG
        refine ⟨mi hN rfl rfl hi, ?_⟩
        rw [e23]
        refine MC.mono (hSg ν _ n _ _ (hE.nf hN) (hS1.nf hN) (hsg.nf hN)) (fun _ κ hκ => ?_) (fun _ h => h)
        obtain ⟨k1, k2⟩ := hκ
        have hκ := hN.tr k1
        have mk : ∀ ζ : MS, NF κ ζ → ζ.1 17 = 0 → (μ.2.1 24 x2.toNatClampNeg = -1 ∨ ((NG ζ h 7 (μ.2.1 24 x2.toNatClampNeg) ∧ ζ.2.1 27 (μ.2.1 24 x2.toNatClampNeg).toNatClampNeg = -1) ∧ QK ζ (μ.2.1 24 x2.toNatClampNeg) 9 9)) → NG ζ (h + 1) 11 x2 := fun ζ z1 z2 z3 => by
          have ez := hκ.tr z1
          exact NG.m34 hi.1 (by rw [ez.row (g := 20) rfl]; exact ek) (by rw [ez.row (g := 23) rfl]; exact ⟨(k2 (z1.z z2)).nf z1, by rw [ez.row (g := 27) rfl]; exact hsl⟩) (by rw [e24 ez]; exact z3)
        refine ⟨mi hκ rfl rfl hi, fun hneg => ?_, fun hpos => ⟨mi hκ rfl rfl hi, ?_⟩⟩
        · rw [e24 hκ] at hneg
          have hb : μ.2.1 24 x2.toNatClampNeg = -1 := by
            rcases hq with hq | hq
            · exact hq
            · have := (hS1.i hq.1).1; omega
          exact next κ hκ k1 (fun ζ z1 z2 => mk ζ z1 z2 (Or.inl hb))
        · rw [e24 hκ] at hpos ⊢
          have hb : G μ h (fun j => S j ∧ j ≠ x2.toNatClampNeg) 7 (μ.2.1 24 x2.toNatClampNeg) ∧ μ.2.1 27 (μ.2.1 24 x2.toNatClampNeg).toNatClampNeg = -1 := by
            rcases hq with hq | hq
            · rw [hq] at hpos; exact absurd hpos (by decide)
            · exact hq
          exact qual κ hκ k1 hb.1 (fun ζ z1 z2 z3 => mk ζ z1 z2 (Or.inr ⟨⟨(NG.q hb.1).nf (hκ.tr z1), by rw [(hκ.tr z1).row (g := 27) rfl]; exact hb.2⟩, z3⟩))
  exact me_meth (by omega) rfl (v_nameMembers_0 _ (ME.mono (key m1 x1 μ NF.rf h1) (fun _ ζ hz => ⟨hz.1, fun e => ⟨m1, hz.2 e⟩⟩) (fun _ h => h)))
end NMH
