/-! contracts of the reference: a declaration named -/
/-- a declaration, named -/
def DcP (ν : MS) (h K : Nat) (lo hi : Int) (x : Int32) : Prop := (0 ≤ x.toInt ∧ lo ≤ x.toInt ∧ x.toInt < hi) ∧ sK 4 (ν.2.1 20 x.toNatClampNeg) = true ∧ (¬ ν.2.1 20 x.toNatClampNeg = 8 → ¬ ν.2.1 20 x.toNatClampNeg = 9 → NG ν h 0 (ν.2.1 23 x.toNatClampNeg)) ∧ ((ν.2.1 20 x.toNatClampNeg = 5 ∨ ν.2.1 20 x.toNatClampNeg = 6) → QK ν (ν.2.1 22 x.toNatClampNeg) 3 4) ∧ (ν.2.1 20 x.toNatClampNeg = 9 → NG ν h 8 (ν.2.1 23 x.toNatClampNeg) ∧ (0 ≤ (ν.2.1 26 x.toNatClampNeg).toInt → BdP ν h K x lo hi))
/-- what a declaration weighs when it is named: a unit's variables were made before -/
def nwt (k : Int32) (w : Nat) : Nat := if k = 7 then 0 else w
section NND
variable {X : ev_X} {W : Nat → Prop} {d h K : Nat} {P : MP} {μ ν κ ζ : MS} {V : Int32 → Prop} {x : Int32} {lo hi n N : Int} {w : Nat} {C : Nat → Prop} {T : MS → Prop}
theorem NF.sw (hN : NF μ ν) : SFw C 0 μ ν := (hN.np (V := fun _ => True) (S := fun _ => False)).sw.sub (fun _ h => h.elim) (Nat.le_refl _)
theorem G.lv {S : Nat → Prop} {i : Int32} (hG : G μ h S 21 i) : G μ h S 0 i := by
  cases h with
  | zero => exact hG.elim
  | succ h =>
    have g3 : ([32] : List Int32).contains (μ.2.1 20 i.toNatClampNeg) = true := hG.2.2.1
    have e : μ.2.1 20 i.toNatClampNeg = 32 := by simpa using g3
    exact ⟨hG.1, hG.2.1, by rw [e]; decide, hG.2.2.2⟩
theorem si_all (hT : ∀ h', h' ≤ h → TyN X W P d h') (hd : 4 ≤ d) : SiN X W P (d + 1) h := by
  cases h with
  | zero => exact fun _ _ _ _ _ _ _ h => h.elim
  | succ h => exact si_step hT hd
theorem dc_step (hT : ∀ h', h' ≤ h → TyN X W P d h') (hT1 : TyN X W P (d + 1) h) (hS : StsN X W P d h K) (hd : 4 ≤ d) (hC : CXs n N V (nwt (μ.2.1 20 x.toNatClampNeg) w) μ) (h62 : (μ.1 62).toInt = 0) (h0 : 0 ≤ lo) (hN : hi ≤ N) (hP : PK μ h K 2 4 lo hi w x) : MC X W true (d + 2) 356 [.ref P.1, .int x] P μ (fun _ μ1 => SFw (fun j => bt lo hi j ∧ ¬ μ.2.1 20 x.toNatClampNeg = 7) (nwt (μ.2.1 20 x.toNatClampNeg) w) μ μ1 ∧ (μ1.1 17 = 0 → DcP μ1 h K lo hi x)) T := by
  have hP9 := hP
  obtain ⟨⟨i1, i2, i3⟩, g3, c, u, ⟨b0, b5⟩, hw, F⟩ := hP
  have hcx := @ic x
  have hke : μ.2.1 20 x.toNatClampNeg ∈ ([3, 4, 5, 6, 7, 8, 9] : List Int32) := by
    have g3 : ([3, 4, 5, 6, 7, 8, 9] : List Int32).contains (μ.2.1 20 x.toNatClampNeg) = true := g3
    simpa using g3
  have q0 : c 0 ≤ c 1 := (F 0 (by decide)).1
  have q1 : c 1 ≤ c 2 := (F 1 (by decide)).1
  have q2 : c 2 ≤ c 3 := (F 2 (by decide)).1
  have q3 : c 3 ≤ c 4 := (F 3 (by decide)).1
  have q4 : c 4 ≤ c 5 := (F 4 (by decide)).1
  have xN : bt 0 N x.toNatClampNeg := ⟨by omega, by omega⟩
  have bS : ∀ a b, 0 ≤ a → b ≤ N → SB n μ (bt a b) := fun a b ha hb => hC.2.1.sub (fun j hj => ⟨by have := hj.1; omega, by have := hj.2; omega⟩)
  -- the TYPE of a declaration
  have ty : ∀ (κ : MS), NF μ κ → ¬ μ.2.1 20 x.toNatClampNeg = 8 → ¬ μ.2.1 20 x.toNatClampNeg = 9 → (κ.1 17 = 0 → (μ.2.1 20 x.toNatClampNeg = 5 ∨ μ.2.1 20 x.toNatClampNeg = 6) → QK κ (μ.2.1 22 x.toNatClampNeg) 3 4) → MI x (κ.2.2 23) ∧ MC X W true (d + 1) 351 [.ref P.1, .int (κ.2.1 23 x.toNatClampNeg)] P κ (fun _ μ1 => SFw (fun j => bt lo hi j ∧ ¬ μ.2.1 20 x.toNatClampNeg = 7) (nwt (μ.2.1 20 x.toNatClampNeg) w) μ μ1 ∧ (μ1.1 17 = 0 → DcP μ1 h K lo hi x)) (fun _ => False) := fun κ hκ h8 h9 hq => by
    have cκ : CXs n N V (nwt (μ.2.1 20 x.toNatClampNeg) w) κ := CXs.sf (w := 0) (C := fun _ => False) (by rw [Nat.zero_add]; exact hC) hκ.sw
    refine ⟨cκ.mi rfl rfl i1 xN, ?_⟩
    rw [hκ.row (g := 23) rfl]
    have all : ∀ k ∈ ([3, 4, 5, 6, 7, 8, 9] : List Int32), ¬ k = 8 → ¬ k = 9 → fW k.toNatClampNeg 1 = (1, 0) ∨ fW k.toNatClampNeg 1 = (1, 21) := by decide
    have gT : G μ h (bt (c 1) (c 2)) 0 (μ.2.1 23 x.toNatClampNeg) := by
      have f1 := F 1 (by decide)
      rcases all _ hke h8 h9 with e | e
      · rw [e] at f1; exact f1.2.1.1
      · rw [e] at f1; exact G.lv f1.2.1.1
    refine MC.mono (hT1 κ _ n _ _ cκ.1 ((bS (c 1) (c 2) (by omega) (by omega)).nf hκ) (gT.nf hκ)) (fun _ ζ hz => ?_) (fun _ h => h)
    obtain ⟨z1, z2⟩ := hz
    have z := hκ.tr z1
    refine ⟨z.sw.sub (fun _ h => h) (Nat.zero_le _), fun e => ?_⟩
    refine ⟨⟨i1, i2, i3⟩, by rw [z.row (g := 20) rfl]; exact g3, fun _ _ => ?_, fun h56 => ?_, fun e9 => ?_⟩
    · rw [z.row (g := 23) rfl]; exact z2 e
    · rw [z.row (g := 20) rfl] at h56
      rw [z.row (g := 22) rfl]
      exact (hq (z1.z e) h56).nf z1
    · rw [z.row (g := 20) rfl] at e9; exact absurd e9 h9
  refine me_meth (by omega) rfl (v_nameDeclaration_0 _ ⟨hC.mi rfl rfl i1 xN, fun ek => ?_, fun ek => ⟨hC.mi rfl rfl i1 xN, ?_⟩, fun ek => ?_, fun ek => ⟨hC.mi rfl rfl i1 xN, ?_⟩, fun hv => ?_⟩)
  · exact ty μ NF.rf (by rcases ek with e | e <;> rw [e] <;> decide) (by rcases ek with e | e <;> rw [e] <;> decide) (fun _ h => by rcases ek with e | e <;> rw [e] at h <;> rcases h with h | h <;> exact absurd h (by decide))
  · -- REVEAL
    have gQ : G μ h (bt (c 0) (c 1)) 7 (μ.2.1 22 x.toNatClampNeg) := by
      have f0 := F 0 (by decide)
      have e : fW (μ.2.1 20 x.toNatClampNeg).toNatClampNeg 0 = (1, 7) := by rcases ek with e | e <;> rw [e] <;> decide
      rw [e] at f0; exact f0.2.1.1
    have hqi := gQ.in
    have hqu := bS (c 0) (c 1) (by omega) (by omega) _ hqi.2
    have hcq := @ic (μ.2.1 22 x.toNatClampNeg)
    refine MC.mono (c_qualified (by omega) hC.1.1 hC.1.2.1 hC.1.2.2 hqi.1 (by omega) hqu.2.1 hqu.2.2 gQ.k11) (fun _ κ hk => ?_) (fun _ h => h)
    obtain ⟨k1, -, k2⟩ := hk
    exact ty κ k1 (by rcases ek with e | e <;> rw [e] <;> decide) (by rcases ek with e | e <;> rw [e] <;> decide) (fun e _ => k2 e)
  · exact ty μ NF.rf (by rw [ek]; decide) (by rw [ek]; decide) (fun _ h => by rw [ek] at h; rcases h with h | h <;> exact absurd h (by decide))
  · -- PROCEDURE
    have hnw : nwt (μ.2.1 20 x.toNatClampNeg) w = w := by rw [ek]; rfl
    have e7 : ∀ j, bt lo hi j → bt lo hi j ∧ ¬ μ.2.1 20 x.toNatClampNeg = 7 := fun j hj => ⟨hj, by rw [ek]; decide⟩
    rw [hnw] at hC ⊢
    have gS : G μ h (bt (c 1) (c 2)) 8 (μ.2.1 23 x.toNatClampNeg) := by
      have f1 := F 1 (by decide)
      rw [ek] at f1; exact f1.2.1.1
    refine MC.mono (si_all hT hd μ _ n _ _ hC.1 (bS (c 1) (c 2) (by omega) (by omega)) gS) (fun _ κ hk => ?_) (fun _ h => h)
    obtain ⟨k1, k2⟩ := hk
    have cκ : CXs n N V w κ := CXs.sf (w := 0) (C := fun _ => False) (by rw [Nat.zero_add]; exact hC) k1.sw
    have e62 : (κ.1 62).toInt = 0 := by rw [k1.1.1 62 rfl]; exact h62
    have k20 : κ.2.1 20 x.toNatClampNeg = 9 := by rw [k1.row (g := 20) rfl]; exact ek
    have k26 : κ.2.1 26 = μ.2.1 26 := k1.row rfl
    refine ⟨cκ.mi rfl rfl i1 xN, fun hneg => ⟨k1.sw.sub (fun _ h => h) (Nat.zero_le _), fun e => ?_⟩, fun hpos => ?_⟩
    · refine ⟨⟨i1, i2, i3⟩, by rw [k20]; decide, fun _ h => absurd k20 h, fun h => ?_, fun _ => ⟨?_, fun h => by omega⟩⟩
      · rw [k20] at h; rcases h with h | h <;> exact absurd h (by decide)
      · rw [k1.row (g := 23) rfl]; exact k2 e
    · refine MC.mono (bo_step (hT h (Nat.le_refl _)) hS (by omega) cκ e62 h0 hN (hP9.ag (Nat.le_refl _) (Nat.le_refl _) (k1.np (V := V) (S := fun _ => False)).ag) k20) (fun _ ζ hz => ?_) (fun _ h => h)
      obtain ⟨z1, z2⟩ := hz
      have zz : SFw (bt lo hi) (0 + w) μ ζ := SFw.tr (w := 0) k1.sw z1
      rw [Nat.zero_add] at zz
      have z20 : ζ.2.1 20 x.toNatClampNeg = 9 := by rw [zz.1.row (g := 20) rfl]; exact ek
      refine ⟨zz.sub e7 (Nat.le_refl _), fun e => ⟨⟨i1, i2, i3⟩, by rw [z20]; decide, fun _ h => absurd z20 h, fun h => ?_, fun _ => ⟨?_, fun _ => z2 e⟩⟩⟩
      · rw [z20] at h; rcases h with h | h <;> exact absurd h (by decide)
      · rw [zz.1.row (g := 23) rfl]
        exact NG.sf z1.1 (by decide) (k2 (z1.1.z e))
  · -- EXCEPTION
    have none : ∀ k ∈ ([3, 4, 5, 6, 7, 8, 9] : List Int32), (∀ v ∈ ([3, 4, 5, 6, 7, 9] : List Int32), ¬ k = v) → k = 8 := by decide
    have e8 := none _ hke hv
    refine ⟨SFw.rf.sub (fun _ h => h) (Nat.zero_le _), fun _ => ⟨⟨i1, i2, i3⟩, g3, fun h => absurd e8 h, fun h => ?_, fun h => ?_⟩⟩
    · rw [e8] at h; rcases h with h | h <;> exact absurd h (by decide)
    · rw [e8] at h; exact absurd h (by decide)
end NND
