/-! contracts of the reference: TYPEs named -/
section NMJ
variable {X : ev_X} {W : Nat → Prop} {d h k : Nat} {P : MP} {μ ν : MS} {n : Int} {S : Nat → Prop}
def tkL : List Int32 := [20, 21, 22, 23, 24, 25, 26, 27, 28, 29, 30, 31, 32]
theorem tk_of {i : Int32} (hG : G μ (k + 1) S 0 i) : μ.2.1 20 i.toNatClampNeg ∈ tkL := by
  have g3 : tkL.contains (μ.2.1 20 i.toNatClampNeg) = true := hG.2.2.1
  simpa using g3
theorem LN.ty {ζ : MS} {i : Nat} (hk : ζ.2.1 20 i ∈ tkL) (h20 : ζ.2.1 20 i = 20 → QK ζ (ζ.2.1 22 i) 3 4) : LN ζ i := by
  have all : ∀ x ∈ tkL, ¬ x = 12 ∧ ¬ x = 34 ∧ ¬ x = 35 ∧ ¬ x = 5 ∧ ¬ x = 6 ∧ ¬ x = 50 ∧ ¬ x = 52 := by decide
  obtain ⟨a1, a2, a3, a4, a5, a6, a7⟩ := all _ hk
  exact ⟨h20, fun e => (e.elim a2 a3).elim, fun e => absurd e a1, fun e => (e.elim a4 a5).elim, fun e => (e.elim a6 a7).elim⟩
theorem ty_step (hT : ∀ d' h', h' ≤ k → 3 * h' + 4 ≤ d' → TyN X W P d' h') (hd : 3 * (k + 1) + 4 ≤ d) : TyN X W P d (k + 1) := fun μ T n S t hE hS hG => by
  obtain ⟨dd, rfl⟩ : ∃ dd, d = dd + 3 := ⟨d - 3, by omega⟩
  have hi := hS.i hG
  have hS1 : SB n μ (fun j => S j ∧ j ≠ t.toNatClampNeg) := hS.sub (fun j hj => hj.1)
  have hk := tk_of hG
  have g4 := hG.2.2.2
  have mi : ∀ {g : Nat} {i : Int32} {κ : MS}, NF μ κ → rk g = true → rlen g = 16000 → 0 ≤ i.toInt ∧ i.toInt < 16000 → MI i (κ.2.2 g) := fun hκ hg hr a => MI.of ((hE.1.to hκ.1).g hg hr) a.1 a.2
  -- the node itself, its fields named
  have fin : ∀ ζ : MS, NF μ ζ → (μ.2.1 20 t.toNatClampNeg = 20 → QK ζ (μ.2.1 22 t.toNatClampNeg) 3 4) → (∀ f, f < 5 → FO (NG ζ k) (ζ.2.1 27) (fW (μ.2.1 20 t.toNatClampNeg).toNatClampNeg f) (μ.2.1 (22 + f) t.toNatClampNeg)) → NG ζ (k + 1) 0 t := fun ζ hz hq hf => by
    have e20 := hz.row (g := 20) rfl
    refine ⟨hi.1, by rw [e20]; exact hG.2.2.1, LN.ty (by rw [e20]; exact hk) (by rw [e20, hz.row (g := 22) rfl]; exact hq), fun f hf5 => ?_⟩
    have ef : ζ.2.1 (22 + f) = μ.2.1 (22 + f) := hz.row (by
      have h5 : f = 0 ∨ f = 1 ∨ f = 2 ∨ f = 3 ∨ f = 4 := by omega
      rcases h5 with rfl | rfl | rfl | rfl | rfl <;> rfl)
    rw [e20, ef]
    exact hf f hf5
  have one : ∀ (kd : Int32) (f0 s : Nat), μ.2.1 20 t.toNatClampNeg = kd → ¬ kd = 20 → f0 < 5 → fW kd.toNatClampNeg f0 = (1, s) → (∀ f, f < 5 → f ≠ f0 → fW kd.toNatClampNeg f = (0, 0)) → μ.2.1 27 (μ.2.1 (22 + f0) t.toNatClampNeg).toNatClampNeg = -1 → ∀ ζ : MS, NF μ ζ → NG ζ k s (μ.2.1 (22 + f0) t.toNatClampNeg) → NG ζ (k + 1) 0 t := fun kd f0 s e hne hf0 hw hw2 hl ζ hz hg => fin ζ hz (fun e2 => absurd (e.symm.trans e2) hne) (fun f hf => by
    rw [e]
    by_cases c : f = f0
    · subst c
      rw [hw]; exact And.intro hg (by rw [hz.row (g := 27) rfl]; exact hl)
    · rw [hw2 f hf c]; exact True.intro)
  have kid : ∀ (kd : Int32) (f0 s : Nat), μ.2.1 20 t.toNatClampNeg = kd → f0 < 5 → fW kd.toNatClampNeg f0 = (1, s) → G μ k (fun j => S j ∧ j ≠ t.toNatClampNeg) s (μ.2.1 (22 + f0) t.toNatClampNeg) ∧ μ.2.1 27 (μ.2.1 (22 + f0) t.toNatClampNeg).toNatClampNeg = -1 := fun kd f0 s e hf0 hw => by
    have g5 := g4 f0 hf0
    rw [e, hw] at g5
    exact g5
  refine me_meth (by omega) rfl (v_nameType_0 _ ⟨mi NF.rf rfl rfl hi, fun e => ⟨mi NF.rf rfl rfl hi, ?_⟩, fun e => ⟨mi NF.rf rfl rfl hi, ?_⟩, fun e => ⟨mi NF.rf rfl rfl hi, ?_⟩, fun e => ⟨mi NF.rf rfl rfl hi, ?_⟩, fun e => ⟨mi NF.rf rfl rfl hi, ?_⟩, fun e => ⟨mi NF.rf rfl rfl hi, ?_⟩, fun hv => ?_⟩)
  · obtain ⟨hq, hql⟩ := kid 20 0 7 e (by decide) (by decide)
    have hqi := hS1.i hq
    have hqu := hS1 _ hq.in.2
    refine MC.mono (c_qualified (by omega) hE.1 hE.2.1 hE.2.2 hqi.1 hqi.2 hqu.2.1 hqu.2.2 hq.k11) (fun _ ζ hz => ?_) (fun _ h => h)
    obtain ⟨z1, -, z2⟩ := hz
    refine ⟨z1, fun e0 => fin ζ z1 (fun _ => z2 e0) (fun f hf => ?_)⟩
    rw [e]
    have h5 : f = 0 ∨ f = 1 ∨ f = 2 ∨ f = 3 ∨ f = 4 := by omega
    rcases h5 with rfl | rfl | rfl | rfl | rfl
    · exact And.intro ((NG.q hq).nf z1) (by rw [z1.row (g := 27) rfl]; exact hql)
    · exact True.intro
    · exact True.intro
    · exact True.intro
    · exact True.intro
  · exact MC.mono (hT (dd + 2) k (Nat.le_refl _) (by omega) μ _ n _ _ hE hS1 (kid 28 2 0 e (by decide) (by decide)).1) (fun _ ζ hz => ⟨hz.1, fun e0 => one 28 2 0 e (by decide) (by decide) (by decide) (by decide) (kid 28 2 0 e (by decide) (by decide)).2 ζ hz.1 (hz.2 e0)⟩) (fun _ h => h)
  · -- RECORD
    have g5 := g4 0 (by decide)
    rw [e] at g5
    obtain ⟨m1, h1⟩ : ∃ m, Lst (G μ k (fun j => S j ∧ j ≠ t.toNatClampNeg) 10) (μ.2.1 27) m (μ.2.1 22 t.toNatClampNeg) := g5
    refine MC.mono (c_nameFields (h := k - 1) (d := dd + 1) (m1 := m1) (m2 := 0) (hT (dd + 1) (k - 1) (by omega) (by omega)) (by omega) hE hS1 h1.z1 rfl) (fun _ ζ hz => ?_) (fun _ h => h)
    obtain ⟨z1, z2⟩ := hz
    refine ⟨z1, fun e0 => fin ζ z1 (fun e2 => absurd (e.symm.trans e2) (by decide)) (fun f hf => ?_)⟩
    obtain ⟨m2, z3⟩ := z2 e0
    rw [e]
    have h5 : f = 0 ∨ f = 1 ∨ f = 2 ∨ f = 3 ∨ f = 4 := by omega
    rcases h5 with rfl | rfl | rfl | rfl | rfl
    · exact h1.z2 z3
    · exact True.intro
    · exact True.intro
    · exact True.intro
    · exact True.intro
  · exact MC.mono (hT (dd + 2) k (Nat.le_refl _) (by omega) μ _ n _ _ hE hS1 (kid 30 0 0 e (by decide) (by decide)).1) (fun _ ζ hz => ⟨hz.1, fun e0 => one 30 0 0 e (by decide) (by decide) (by decide) (by decide) (kid 30 0 0 e (by decide) (by decide)).2 ζ hz.1 (hz.2 e0)⟩) (fun _ h => h)
  · -- PROCEDURE
    obtain ⟨hs, hsl⟩ := kid 31 0 8 e (by decide) (by decide)
    cases k with
    | zero => exact hs.elim
    | succ k =>
      exact MC.mono (si_step (d := dd + 1) (fun h' hh => hT (dd + 1) h' hh (by omega)) (by omega) μ _ n _ _ hE hS1 hs) (fun _ ζ hz => ⟨hz.1, fun e0 => one 31 0 8 e (by decide) (by decide) (by decide) (by decide) hsl ζ hz.1 (hz.2 e0)⟩) (fun _ h => h)
  · -- LEVEL
    have g5 := g4 0 (by decide)
    have g6 := g4 1 (by decide)
    have g7 := g4 2 (by decide)
    have g8 := g4 3 (by decide)
    rw [e] at g5 g6 g7 g8
    have g5 : μ.2.1 22 t.toNatClampNeg = -1 ∨ (G μ k (fun j => S j ∧ j ≠ t.toNatClampNeg) 0 (μ.2.1 22 t.toNatClampNeg) ∧ μ.2.1 27 (μ.2.1 22 t.toNatClampNeg).toNatClampNeg = -1) := g5
    obtain ⟨mF, hF⟩ : ∃ m, Lst (G μ k (fun j => S j ∧ j ≠ t.toNatClampNeg) 10) (μ.2.1 27) m (μ.2.1 23 t.toNatClampNeg) := g6
    obtain ⟨mM, hM⟩ : ∃ m, Lst (G μ k (fun j => S j ∧ j ≠ t.toNatClampNeg) 11) (μ.2.1 27) m (μ.2.1 24 t.toNatClampNeg) := g7
    obtain ⟨mO, hO⟩ : ∃ m, Lst (G μ k (fun j => S j ∧ j ≠ t.toNatClampNeg) 12) (μ.2.1 27) m (μ.2.1 25 t.toNatClampNeg) := g8
    have hSi : SiN X W P (dd + 1) (k - 1) := by
      cases k with
      | zero => exact fun _ _ _ _ _ _ _ h => h.elim
      | succ k =>
        cases k with
        | zero => exact fun _ _ _ _ _ _ _ h => h.elim
        | succ k => exact si_step (d := dd) (fun h' hh => hT dd h' (by omega) (by omega)) (by omega)
    have up : ∀ {κ : MS} {s m : Nat} {x : Int32}, NF μ κ → Lst (G μ k (fun j => S j ∧ j ≠ t.toNatClampNeg) s) (μ.2.1 27) m x → Lst (G κ (k - 1 + 1) (fun j => S j ∧ j ≠ t.toNatClampNeg) s) (κ.2.1 27) m x := fun hκ hL => hL.z1.mono (fun _ hy => hy.nf hκ) (fun _ _ => by rw [hκ.row (g := 27) rfl])
    -- from the FIELDS on
    have rest : ∀ κ : MS, NF μ κ → (κ.1 17 = 0 → μ.2.1 22 t.toNatClampNeg = -1 ∨ (NG κ k 0 (μ.2.1 22 t.toNatClampNeg) ∧ μ.2.1 27 (μ.2.1 22 t.toNatClampNeg).toNatClampNeg = -1)) → MI t (κ.2.2 23) ∧ (MI t (κ.2.2 24) ∧ MC X W true (dd + 2) 353 [.ref P.1, .int (κ.2.1 23 t.toNatClampNeg), .int (κ.2.1 24 t.toNatClampNeg)] P κ (fun _ μ6 => (MI t (μ6.2.2 24) ∧ MC X W true (dd + 2) 354 [.ref P.1, .int (μ6.2.1 24 t.toNatClampNeg)] P μ6 (fun _ μ7 => (MI t (μ7.2.2 25) ∧ MC X W true (dd + 2) 352 [.ref P.1, .int (μ7.2.1 25 t.toNatClampNeg)] P μ7 (fun _ μ8 => (MI t (μ8.2.2 25) ∧ MC X W true (dd + 2) 354 [.ref P.1, .int (μ8.2.1 25 t.toNatClampNeg)] P μ8 (fun _ μ9 => NF μ μ9 ∧ (μ9.1 17 = 0 → NG μ9 (k + 1) 0 t)) (fun _ => False))) (fun _ => False))) (fun _ => False))) (fun _ => False)) := fun κ hκ hsup => by
      refine ⟨mi hκ rfl rfl hi, mi hκ rfl rfl hi, ?_⟩
      rw [hκ.row (g := 23) rfl, hκ.row (g := 24) rfl]
      refine MC.mono (c_nameFields (h := k - 1) (d := dd + 1) (m1 := mF) (m2 := mM) (hT (dd + 1) (k - 1) (by omega) (by omega)) (by omega) (hE.nf hκ) (hS1.nf hκ) (up hκ hF) (up hκ hM)) (fun _ μ6 h6 => ?_) (fun _ h => h)
      obtain ⟨a1, a2⟩ := h6
      have k6 := hκ.tr a1
      refine ⟨mi k6 rfl rfl hi, ?_⟩
      rw [k6.row (g := 24) rfl]
      refine MC.mono (c_nameMembers (h := k - 1) (d := dd + 1) hSi (by omega) (Or.inl rfl) (m1 := mM) (hE.nf k6) (hS1.nf k6) (up k6 hM)) (fun _ μ7 h7 => ?_) (fun _ h => h)
      obtain ⟨b1, b2⟩ := h7
      have k7 := k6.tr b1
      refine ⟨mi k7 rfl rfl hi, ?_⟩
      rw [k7.row (g := 25) rfl]
      refine MC.mono (c_again (m := mO) (by omega) (hE.nf k7).1 ((hS1.rw hO).kf (k7.row rfl))) (fun _ μ8 h8 => ?_) (fun _ h => h)
      obtain ⟨c1, c2⟩ := h8
      have k8 := k7.tr c1
      refine ⟨mi k8 rfl rfl hi, ?_⟩
      rw [k8.row (g := 25) rfl]
      refine MC.mono (c_nameMembers (h := k - 1) (d := dd + 1) hSi (by omega) (Or.inr rfl) (m1 := mO) (hE.nf k8) (hS1.nf k8) (up k8 hO)) (fun _ μ9 h9 => ?_) (fun _ h => h)
      obtain ⟨d1, d2⟩ := h9
      have k9 := k8.tr d1
      refine ⟨k9, fun e0 => fin μ9 k9 (fun e2 => absurd (e.symm.trans e2) (by decide)) (fun f hf => ?_)⟩
      have z8 := d1.z e0
      have z7 := c1.z z8
      have z6 := b1.z z7
      have zκ := a1.z z6
      have n6 : NF μ6 μ9 := (b1.tr c1).tr d1
      have n7 : NF μ7 μ9 := c1.tr d1
      have lift : ∀ {ζ : MS} {s : Nat} {x : Int32}, NF ζ μ9 → (∃ m, Lst (NG ζ (k - 1 + 1) s) (ζ.2.1 27) m x) → ∃ m, Lst (NG μ9 (k - 1 + 1) s) (μ9.2.1 27) m x := fun hn hm => by
        obtain ⟨m, hm⟩ := hm
        exact ⟨m, hm.mono (fun _ hy => hy.nf hn) (fun _ _ => by rw [hn.row (g := 27) rfl])⟩
      rw [e]
      have h5 : f = 0 ∨ f = 1 ∨ f = 2 ∨ f = 3 ∨ f = 4 := by omega
      rcases h5 with rfl | rfl | rfl | rfl | rfl
      · rcases hsup zκ with w | w
        · exact Or.inl w
        · exact Or.inr ⟨w.1.nf (a1.tr n6), by rw [k9.row (g := 27) rfl]; exact w.2⟩
      · obtain ⟨m, w⟩ := lift n6 (a2 z6)
        exact hF.z2 w
      · obtain ⟨m, w⟩ := lift n7 (b2 z7)
        exact hM.z2 w
      · obtain ⟨m, w⟩ := d2 e0
        exact hO.z2 w
      · exact True.intro
    refine ⟨fun hneg => ?_, fun hpos => ⟨mi NF.rf rfl rfl hi, ?_⟩⟩
    · have hb : μ.2.1 22 t.toNatClampNeg = -1 := by
        rcases g5 with w | w
        · exact w
        · have := (hS1.i w.1).1; omega
      exact rest μ NF.rf (fun _ => Or.inl hb)
    · have hb : G μ k (fun j => S j ∧ j ≠ t.toNatClampNeg) 0 (μ.2.1 22 t.toNatClampNeg) ∧ μ.2.1 27 (μ.2.1 22 t.toNatClampNeg).toNatClampNeg = -1 := by
        rcases g5 with w | w
        · rw [w] at hpos; exact absurd hpos (by decide)
        · exact w
      refine MC.mono (hT (dd + 2) k (Nat.le_refl _) (by omega) μ _ n _ _ hE hS1 hb.1) (fun _ κ hκ => ?_) (fun _ h => h)
      exact rest κ hκ.1 (fun e0 => Or.inr ⟨hκ.2 e0, hb.2⟩)
  · -- no parts
    refine ⟨NF.rf, fun _ => fin μ NF.rf (fun e2 => absurd e2 (hv 20 (by decide))) (fun f hf => ?_)⟩
    have all : ∀ x ∈ tkL, (∀ v ∈ ([20, 28, 29, 30, 31, 32] : List Int32), ¬ x = v) → ∀ f, f < 5 → fW x.toNatClampNeg f = (0, 0) := by decide
    rw [all _ hk hv f hf]
    exact True.intro
/-- every TYPE, at a depth that bears its height -/
theorem ty_named : ∀ k : Nat, ∀ d' h', h' ≤ k → 3 * h' + 4 ≤ d' → TyN X W P d' h'
  | 0, d', h', hh, hd => by
    have e : h' = 0 := by omega
    subst e
    exact fun _ _ _ _ _ _ _ h => h.elim
  | k + 1, d', h', hh, hd => by
    by_cases c : h' ≤ k
    · exact ty_named k d' h' c hd
    · have e : h' = k + 1 := by omega
      subst e
      exact ty_step (ty_named k) hd
end NMJ
