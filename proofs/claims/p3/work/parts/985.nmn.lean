/-! contracts of the reference: rows of statements named; a NAME that is known within statements -/
/-- what naming of statements needs, with so much weight to come -/
def CXs (n N : Int) (V : Int32 → Prop) (w : Nat) (ν : MS) : Prop := NE n ν ∧ SB n ν (bt 0 N) ∧ SeN ν V ∧ (0 ≤ (ν.1 52).toInt ∧ (ν.1 52).toInt + w ≤ 3200) ∧ (ν.1 62).toInt + w ≤ 3200
def StsN (X : ev_X) (W : Nat → Prop) (P : MP) (d h K : Nat) : Prop := ∀ (μ : MS) (T : MS → Prop) (n N : Int) (V0 : Int32 → Prop) (Γ : List Int32) (lo hi : Int) (w : Nat) (x : Int32), CXs n N (VS V0 Γ) w μ → 0 ≤ lo → hi ≤ N → BT μ h K lo hi w x → MC X W true d 359 [.ref P.1, .int x] P μ (fun _ μ1 => SFw (bt lo hi) w μ μ1 ∧ (μ1.1 17 = 0 → BN μ1 h V0 K Γ lo hi x)) T
def StN (X : ev_X) (W : Nat → Prop) (P : MP) (d h K : Nat) : Prop := ∀ (μ : MS) (T : MS → Prop) (n N : Int) (V0 : Int32 → Prop) (Γ : List Int32) (lo hi : Int) (w : Nat) (s : Int32), CXs n N (VS V0 Γ) w μ → 0 ≤ lo → hi ≤ N → PK μ h K 1 3 lo hi w s → MC X W true d 360 [.ref P.1, .int s] P μ (fun _ μ1 => SFw (bt lo hi) w μ μ1 ∧ (μ1.1 17 = 0 → PNK μ1 h V0 K 1 Γ 3 lo hi s)) T
/-- a name y and statements x -/
def WiN (X : ev_X) (W : Nat → Prop) (P : MP) (d h K : Nat) : Prop := ∀ (μ : MS) (T : MS → Prop) (n N : Int) (V0 : Int32 → Prop) (Γ : List Int32) (lo hi l1 l2 : Int) (w : Nat) (y x k t : Int32), CXs n N (VS V0 Γ) (1 + w) μ → 0 ≤ lo → hi ≤ N → lo ≤ l1 → l2 ≤ hi → G μ h (bt lo l1) 6 y → BT μ h K l1 l2 w x → MC X W true d 361 [.ref P.1, .int y, .int k, .int t, .int x] P μ (fun _ μ1 => SFw (fun j => j = y.toNatClampNeg ∨ bt l1 l2 j) (1 + w) μ μ1 ∧ (μ1.1 17 = 0 → VX μ1 k t (μ1.2.1 28 y.toNatClampNeg) ∧ BN μ1 h V0 K (μ1.2.1 28 y.toNatClampNeg :: Γ) l1 l2 x)) T
section NMT
variable {X : ev_X} {W : Nat → Prop} {d h K : Nat} {P : MP} {μ ν : MS} {V V0 : Int32 → Prop} {n N : Int} {w w' : Nat} {C : Nat → Prop}
theorem CXs.le (h : CXs n N V w μ) (hw : w' ≤ w) : CXs n N V w' μ := ⟨h.1, h.2.1, h.2.2.1, ⟨h.2.2.2.1.1, by have := h.2.2.2.1.2; omega⟩, by have := h.2.2.2.2; omega⟩
theorem CXs.sf (h : CXs n N V (w + w') μ) (hN : SFw C w μ ν) : CXs n N V w' ν := by
  obtain ⟨h1, h2, h3, ⟨h4, h5⟩, h6⟩ := h
  have e := eq_i hN.2.2.1
  have k1 := hN.2.1
  have k2 := hN.1.2.2.1.1
  exact ⟨h1.sf hN.1, h2.sf hN.1, h3.sf hN, ⟨by omega, by omega⟩, by omega⟩
theorem CXs.mi (h : CXs n N V w μ) {g : Nat} {i : Int32} (hg : rk g = true) (hr : rlen g = 16000) (a0 : 0 ≤ i.toInt) (a1 : bt 0 N i.toNatClampNeg) : MI i (μ.2.2 g) := by
  have hc := @ic i
  have := (h.2.1 _ a1).1
  exact MI.of (h.1.1.g hg hr) a0 (by omega)
theorem sts_zero (hd : 1 ≤ d) : StsN X W P d h 0 := fun μ T n N V0 Γ lo hi w x hC h0 hN hB => by
  obtain ⟨hx, hl⟩ : x = -1 ∧ lo ≤ hi := hB
  subst hx
  exact me_meth (by omega) rfl (v_nameStatements_0 _ (v_nameStatements_2 _ _ ⟨fun _ => ⟨SFw.rf.sub (fun _ h => h) (Nat.zero_le _), fun _ => ⟨rfl, hl⟩⟩, fun h => absurd h (by decide)⟩))
theorem sts_step (hS : StN X W P d h K) : StsN X W P (d + 1) h (K + 1) := fun μ T n N V0 Γ lo hi w x hC h0 hN hB => by
  obtain ⟨m0, hB⟩ : ∃ m, WL (PK μ h K 1 3) (μ.2.1 27) m lo hi w x := hB
  have key : ∀ (y0 : Int32) (m : Nat) (l : Int) (w : Nat) (x : Int32) (ν : MS), SF (bt lo hi) μ ν → lo ≤ l → CXs n N (VS V0 Γ) w ν → WL (PK μ h K 1 3) (μ.2.1 27) m l hi w x → ME X W true d 359 2 [(0, .ref P.1), (1, .int y0), (2, .int x)] [] P ν (fun _ μ1 => SFw (bt l hi) w ν μ1 ∧ (μ1.1 17 = 0 → WL (fun lo hi _ i => PNK μ1 h V0 K 1 Γ 3 lo hi i) (μ1.2.1 27) m l hi 0 x)) T := by
    intro y0 m
    induction m with
    | zero =>
      intro l w x ν hν hl hC hx
      obtain ⟨hx, hlh⟩ := hx
      subst hx
      exact v_nameStatements_2 _ _ ⟨fun _ => ⟨SFw.rf.sub (fun _ h => h) (Nat.zero_le _), fun _ => ⟨rfl, hlh⟩⟩, fun h => absurd h (by decide)⟩
    | succ m ih =>
      intro l w x ν hν hl hC hx
      rcases hx with ⟨hx, hlh⟩ | ⟨mid, v, ⟨k1, k2, k3⟩, k4, k5⟩
      · subst hx
        exact v_nameStatements_2 _ _ ⟨fun _ => ⟨SFw.rf.sub (fun _ h => h) (Nat.zero_le _), fun _ => Or.inl ⟨rfl, hlh⟩⟩, fun h => absurd h (by decide)⟩
      obtain ⟨i1, i2, i3⟩ := k4.in
      have hcx := @ic x
      refine v_nameStatements_2 _ _ ⟨fun h => by omega, fun _ => MC.mono (hS ν _ n N V0 Γ l mid v x (hC.le k3) (by omega) (by omega) (k4.ag (Nat.le_refl _) (Nat.le_refl _) hν.ag)) (fun _ κ hκ => ?_) (fun _ h => h)⟩
      obtain ⟨q1, q2⟩ := hκ
      have hCκ : CXs n N (VS V0 Γ) (w - v) κ := CXs.sf (w := v) (by rw [show v + (w - v) = w by omega]; exact hC) q1
      have sub1 : ∀ j, bt l mid j → bt lo hi j := fun j hj => ⟨by have := hj.1; omega, by have := hj.2; omega⟩
      have hκ2 := hν.tr (q1.1.sub sub1)
      refine ⟨hCκ.mi rfl rfl i1 ⟨by omega, by omega⟩, ?_⟩
      rw [hκ2.row (g := 27) rfl]
      refine ME.mono (ih mid (w - v) _ κ hκ2 (by omega) hCκ k5) (fun _ ζ hz => ?_) (fun _ h => h)
      obtain ⟨z1, z2⟩ := hz
      have t1 := SFw.tr (q1.sub (C' := bt l hi) (fun j hj => ⟨hj.1, by have := hj.2; omega⟩) (Nat.le_refl _)) (z1.sub (C' := bt l hi) (fun j hj => ⟨by have := hj.1; omega, hj.2⟩) (Nat.le_refl _))
      rw [show v + (w - v) = w by omega] at t1
      refine ⟨t1, fun e => Or.inr ⟨mid, 0, ⟨k1, k2, Nat.le_refl _⟩, (q2 (z1.1.z e)).sf z1.1 (fun j hj hj2 => by have := hj.2; have := hj2.1; omega), ?_⟩⟩
      have z3 := z2 e
      rw [z1.1.row (g := 27) rfl, hκ2.row (g := 27) rfl] at z3 ⊢
      exact z3
  exact me_meth (by omega) rfl (v_nameStatements_0 _ (ME.mono (key _ m0 lo w x μ SF.rf (Int.le_refl _) hC hB) (fun _ ζ hz => ⟨hz.1, fun e => ⟨m0, hz.2 e⟩⟩) (fun _ h => h)))
end NMT
