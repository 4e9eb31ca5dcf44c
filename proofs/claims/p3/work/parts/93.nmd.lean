/-! contracts of the reference: trees whose QNAMEs are named -/
/-- what a node itself asks of naming -/
def LN (ν : MS) (i : Nat) : Prop := (ν.2.1 20 i = 20 → QK ν (ν.2.1 22 i) 3 4) ∧ ((ν.2.1 20 i = 34 ∨ ν.2.1 20 i = 35) → 0 ≤ (ν.2.1 24 i).toInt → QK ν (ν.2.1 24 i) 9 9) ∧ (ν.2.1 20 i = 12 → ∃ m, Lst (fun q => QK ν q 8 8) (ν.2.1 27) m (ν.2.1 24 i)) ∧ ((ν.2.1 20 i = 5 ∨ ν.2.1 20 i = 6) → QK ν (ν.2.1 22 i) 3 4) ∧ ((ν.2.1 20 i = 50 ∨ ν.2.1 20 i = 52) → QK ν (ν.2.1 22 i) 8 8)
/-- a tree, all of it named -/
def NG (ν : MS) : Nat → Nat → Int32 → Prop
  | 0, _, _ => False
  | h + 1, s, i => 0 ≤ i.toInt ∧ sK s (ν.2.1 20 i.toNatClampNeg) = true ∧ LN ν i.toNatClampNeg ∧ ∀ f, f < 5 → FO (NG ν h) (ν.2.1 27) (fW (ν.2.1 20 i.toNatClampNeg).toNatClampNeg f) (ν.2.1 (22 + f) i.toNatClampNeg)
/-- what naming relies on -/
def NE (n : Int) (ν : MS) : Prop := LRow ν.2.2 ∧ US n ν ∧ IW n ν
section NMD
variable {μ μ1 : MS} {n : Int}
theorem NF.row (h : NF μ μ1) {g : Nat} (hg : [28].contains g = false) : μ1.2.1 g = μ.2.1 g := h.1.2.1 g hg
theorem LN.nf {i : Nat} (h : LN μ i) (hN : NF μ μ1) : LN μ1 i := by
  obtain ⟨h1, h2, h3, h4, h5⟩ := h
  unfold LN
  rw [hN.row (g := 20) rfl, hN.row (g := 22) rfl, hN.row (g := 24) rfl, hN.row (g := 27) rfl]
  refine ⟨fun e => (h1 e).nf hN, fun e k => (h2 e k).nf hN, fun e => ?_, fun e => (h4 e).nf hN, fun e => (h5 e).nf hN⟩
  obtain ⟨m, hm⟩ := h3 e
  exact ⟨m, hm.mono (fun q hq => hq.nf hN) (fun _ _ => rfl)⟩
theorem NG.nf (hN : NF μ μ1) : ∀ {h s : Nat} {i : Int32}, NG μ h s i → NG μ1 h s i
  | 0, _, _, h => h
  | h + 1, s, i, ⟨h1, h2, h3, h4⟩ => by
    have e20 := hN.row (g := 20) rfl
    have e27 := hN.row (g := 27) rfl
    refine ⟨h1, by rw [e20]; exact h2, h3.nf hN, fun f hf => ?_⟩
    have ef : μ1.2.1 (22 + f) = μ.2.1 (22 + f) := hN.row (by
      have h5 : f = 0 ∨ f = 1 ∨ f = 2 ∨ f = 3 ∨ f = 4 := by omega
      rcases h5 with rfl | rfl | rfl | rfl | rfl <;> rfl)
    rw [e20, ef]
    exact (h4 f hf).mono (fun s x hx => NG.nf hN hx) (fun s x _ => by rw [e27])
theorem US.nf (h : US n μ) (hN : NF μ μ1) : US n μ1 := by
  unfold US
  rw [hN.1.1 43 rfl, hN.row (g := 48) rfl, hN.row (g := 49) rfl, hN.row (g := 50) rfl]
  exact h
theorem IW.nf (h : IW n μ) (hN : NF μ μ1) : IW n μ1 := fun s h1 h2 => by
  rw [hN.1.1 43 rfl] at h1
  rw [hN.row (g := 45) rfl] at h2
  rw [hN.row (g := 47) rfl]
  obtain ⟨k1, k2⟩ := h s h1 h2
  exact ⟨k1, fun e => hN.2.1 (k2 e)⟩
theorem NE.nf (h : NE n μ) (hN : NF μ μ1) : NE n μ1 := ⟨h.1.to hN.1, h.2.1.nf hN, h.2.2.nf hN⟩
/-- a QNAME's kind -/
theorem G.k11 {h : Nat} {S : Nat → Prop} {i : Int32} (hG : G μ h S 7 i) : μ.2.1 20 i.toNatClampNeg = 11 := by
  cases h with
  | zero => exact hG.elim
  | succ h =>
    have g3 : ([11] : List Int32).contains (μ.2.1 20 i.toNatClampNeg) = true := hG.2.2.1
    simpa using g3
/-- over rows that stay a tree stays -/
theorem G.nf {h s : Nat} {S : Nat → Prop} {i : Int32} (hG : G μ h S s i) (hN : NF μ μ1) : G μ1 h S s i := G.mono hG (Nat.le_refl _) (fun _ h => h) (fun g h1 h2 j _ => by
  rw [hN.row (g := g) (by
    have h5 : g = 20 ∨ g = 21 ∨ g = 22 ∨ g = 23 ∨ g = 24 ∨ g = 25 ∨ g = 26 := by omega
    rcases h5 with rfl | rfl | rfl | rfl | rfl | rfl | rfl <;> rfl)]) (fun j _ _ => by rw [hN.row (g := 27) rfl])
end NMD
section NME
variable {X : ev_X} {W : Nat → Prop} {d : Nat} {P : MP} {μ : MS} {T : MS → Prop} {n : Int}
/-- a row of QNAMEs, EXCEPTIONs all of them (the end of nameSignature) -/
theorem c_raises {s x2 : Int32} (hd : 4 ≤ d) : ∀ (m : Nat) (x : Int32) (ν : MS), NE n ν → NF μ ν → Lst (fun q => 0 ≤ q.toInt ∧ q.toInt < 16000 ∧ 0 ≤ (ν.2.1 29 q.toNatClampNeg).toInt ∧ (ν.2.1 29 q.toNatClampNeg).toInt < n ∧ ν.2.1 20 q.toNatClampNeg = 11) (ν.2.1 27) m x →
    ME X W true (d - 1) 355 86 [(0, .ref P.1), (1, .int s), (2, .int x2), (3, .int x)] [] P ν (fun _ μ1 => NF ν μ1 ∧ NF μ μ1 ∧ (μ1.1 17 = 0 → Lst (fun q => QK μ1 q 8 8) (μ1.2.1 27) m x)) T
  | 0, x, ν, hE, hN, hx => by
    have hx : x = -1 := hx
    subst hx
    exact v_nameSignature_86 _ _ _ ⟨fun _ => ⟨NF.rf, hN, fun _ => rfl⟩, fun h => absurd h (by decide)⟩
  | m + 1, x, ν, hE, hN, hx => by
    rcases hx with hx | ⟨⟨q0, q1, q2, q3, q4⟩, hx⟩
    · subst hx
      exact v_nameSignature_86 _ _ _ ⟨fun _ => ⟨NF.rf, hN, fun _ => Or.inl rfl⟩, fun h => absurd h (by decide)⟩
    refine v_nameSignature_86 _ _ _ ⟨fun h => by omega, fun _ => MC.mono (c_qualified (by omega) hE.1 hE.2.1 hE.2.2 q0 q1 q2 q3 q4) (fun _ κ hk => ?_) (fun _ h => h)⟩
    obtain ⟨k1, -, k2⟩ := hk
    have hE2 := hE.nf k1
    have e27 := k1.row (g := 27) rfl
    have e29 := k1.row (g := 29) rfl
    have e20 := k1.row (g := 20) rfl
    refine ⟨MI.of (hE2.1.g rfl rfl : _ = 16000) q0 q1, ?_⟩
    refine ME.mono (c_raises hd m _ κ hE2 (hN.tr k1) (by rw [e27]; exact hx.mono (fun q hq => by rw [e29, e20]; exact hq) (fun _ _ => rfl))) (fun r ζ hz => ?_) (fun _ h => h)
    obtain ⟨z1, z2, z3⟩ := hz
    refine ⟨k1.tr z1, z2, fun e => ?_⟩
    have ek : κ.1 17 = 0 := by
      by_cases c : κ.1 17 = 0
      · exact c
      · exact absurd e (z1.2.1 c)
    refine Or.inr ⟨(k2 ek).nf z1, ?_⟩
    have e27z := z1.row (g := 27) rfl
    have := z3 e
    rw [e27z] at this ⊢
    exact this
end NME
