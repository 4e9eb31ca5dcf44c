/-! contracts of the reference: expressions named, at every height -/
section NMQ
variable {X : ev_X} {W : Nat → Prop} {d h k : Nat} {P : MP} {μ ν κ : MS} {V : Int32 → Prop} {S S' : Nat → Prop} {n : Int}
theorem ty_np {T : MS → Prop} {t : Int32} (hT : TyN X W P d h) (hN : NE n ν) (hS : SB n ν S) (hs : ∀ j, S' j → S j) (hG : G ν h S' 0 t) : MC X W true d 351 [.ref P.1, .int t] P ν (fun _ ν1 => NP V S ν ν1 ∧ (ν1.1 17 = 0 → NV ν1 V S h 0 t)) T :=
  MC.mono (hT ν T n S' t hN (hS.sub hs) hG) (fun _ ν1 h => ⟨h.1.np, fun e => NG.nv (by decide) (hG.nf h.1) hs (h.2 e)⟩) (fun _ h => h)
theorem fk83 {i : Int32} (hG : G μ (h + 1) S 18 i) : μ.2.1 20 i.toNatClampNeg = 83 ∧ G μ h (fun j => S j ∧ j ≠ i.toNatClampNeg) 1 (μ.2.1 23 i.toNatClampNeg) ∧ μ.2.1 27 (μ.2.1 23 i.toNatClampNeg).toNatClampNeg = -1 := by
  obtain ⟨g1, g2, g3, g4⟩ := hG
  have e : μ.2.1 20 i.toNatClampNeg = 83 := by
    have g3 : ([83] : List Int32).contains (μ.2.1 20 i.toNatClampNeg) = true := g3
    simpa using g3
  have g5 := g4 1 (by decide)
  rw [e] at g5
  exact ⟨e, g5⟩
theorem NV.s1 {i : Int32} (hV : NV μ V S h 2 i) : NV μ V S h 1 i := by
  cases h with
  | zero => exact hV.elim
  | succ h =>
    obtain ⟨a1, a2, a3, a4⟩ := hV
    refine ⟨a1, a2, ?_, a4⟩
    have e : μ.2.1 20 i.toNatClampNeg = 70 := by
      have a3 : ([70] : List Int32).contains (μ.2.1 20 i.toNatClampNeg) = true := a3
      simpa using a3
    rw [e]; decide
def exL : List Int32 := [70, 75, 76, 77, 78, 79, 80, 81, 82, 84, 85, 86]
theorem ex_step (hP : PlC X W P d h) (hE : ∀ h', h' < h → ExC X W P d h') (hT : ∀ h', h' < h → TyN X W P d h') (hd : 3 ≤ d) : ExC X W P (d + 1) h := fun μ T n V S S' e hN hS hV hS' hG => by
  cases h with
  | zero => exact hG.elim
  | succ k =>
  obtain ⟨hL, hU, hI⟩ := id hN
  have hG0 := hG.in
  have se := hS' _ hG0.2
  have hce := @ic e
  have e16 : e.toInt < 16000 := by have := (hS _ se).1; omega
  have hke : μ.2.1 20 e.toNatClampNeg ∈ exL := by
    have g3 : exL.contains (μ.2.1 20 e.toNatClampNeg) = true := hG.2.2.1
    simpa using g3
  have g4 := hG.2.2.2
  have sub : ∀ j, (S' j ∧ j ≠ e.toNatClampNeg) → S j := fun j hj => hS' j hj.1
  have mi : ∀ {g : Nat} {i : Int32} {κ : MS}, NP V S μ κ → rk g = true → rlen g = 16000 → 0 ≤ i.toInt → i.toInt < 16000 → MI i (κ.2.2 g) := fun hκ hg hr a0 a1 => MI.of ((hL.to hκ.1).g hg hr) a0 a1
  have all : ∀ x ∈ exL, sK 1 x = true ∧ ∀ v ∈ ([20, 34, 35, 12, 5, 6, 50, 52] : List Int32), ¬ x = v := by decide
  -- the node itself, its fields named
  have fin : ∀ ζ : MS, NP V S μ ζ → ¬ μ.2.1 20 e.toNatClampNeg = 70 → (∀ f, f < 5 → FO (NV ζ V S k) (ζ.2.1 27) (fW (μ.2.1 20 e.toNatClampNeg).toNatClampNeg f) (μ.2.1 (22 + f) e.toNatClampNeg)) → NV ζ V S (k + 1) 1 e := fun ζ hz h70 hf => by
    have z20 := hz.row (g := 20) rfl
    obtain ⟨a1, a2⟩ := all _ hke
    refine NV.mk (kd := μ.2.1 20 e.toNatClampNeg) hG0.1 se (by rw [z20]) a1 (LN.no (by rw [z20]; exact a2)) h70 (fun f hf5 => ?_)
    rw [(hz.fld (j := e.toNatClampNeg) hf5).resolve_right (fun h => h70 h.1)]
    exact hf f hf5
  have kid : ∀ (kd : Int32) (f0 s : Nat), μ.2.1 20 e.toNatClampNeg = kd → f0 < 5 → fW kd.toNatClampNeg f0 = (1, s) → G μ k (fun j => S' j ∧ j ≠ e.toNatClampNeg) s (μ.2.1 (22 + f0) e.toNatClampNeg) ∧ μ.2.1 27 (μ.2.1 (22 + f0) e.toNatClampNeg).toNatClampNeg = -1 := fun kd f0 s e hf0 hw => by
    have g5 := g4 f0 hf0
    rw [e, hw] at g5
    exact g5
  have r22 : ∀ {κ : MS}, NP V S μ κ → κ.2.1 22 = μ.2.1 22 := fun hκ => hκ.row rfl
  have r23 : ∀ {κ : MS}, NP V S μ κ → κ.2.1 23 = μ.2.1 23 := fun hκ => hκ.row rfl
  have r27 : ∀ {κ : MS}, NP V S μ κ → κ.2.1 27 = μ.2.1 27 := fun hκ => hκ.row rfl
  -- an expression below, a TYPE below
  have sE : ∀ {x : Int32} {κ : MS} {S2 : Nat → Prop}, NP V S μ κ → (∀ j, S2 j → S j) → G μ k S2 1 x → MC X W true d 362 [.ref P.1, .int x] P κ (fun _ κ1 => NP V S κ κ1 ∧ (κ1.1 17 = 0 → NV κ1 V S k 1 x)) (fun _ => False) := fun hκ hs hx => hE k (Nat.lt_succ_self k) _ _ n V S _ _ (hN.np hκ) (hS.np hκ) (hV.np hκ) hs (hx.np hκ)
  have sT : ∀ {x : Int32} {κ : MS} {S2 : Nat → Prop}, NP V S μ κ → (∀ j, S2 j → S j) → G μ k S2 0 x → MC X W true d 351 [.ref P.1, .int x] P κ (fun _ κ1 => NP V S κ κ1 ∧ (κ1.1 17 = 0 → NV κ1 V S k 0 x)) (fun _ => False) := fun hκ hs hx => ty_np (hT k (Nat.lt_succ_self k)) (hN.np hκ) (hS.np hκ) hs (hx.np hκ)
  have n0 : ∀ {kd : Int32} {f0 s : Nat} {ζ : MS}, NP V S μ ζ → NV ζ V S k s (μ.2.1 (22 + f0) e.toNatClampNeg) ∧ μ.2.1 27 (μ.2.1 (22 + f0) e.toNatClampNeg).toNatClampNeg = -1 → fW kd.toNatClampNeg f0 = (1, s) → FO (NV ζ V S k) (ζ.2.1 27) (fW kd.toNatClampNeg f0) (μ.2.1 (22 + f0) e.toNatClampNeg) := fun hz hv hw => by
    rw [hw]
    exact And.intro hv.1 (by rw [r27 hz]; exact hv.2)
  refine me_meth (by omega) rfl (v_nameE_0 _ ⟨mi NP.rf rfl rfl hG0.1 e16, fun hk => ?_, fun hk => ⟨mi NP.rf rfl rfl hG0.1 e16, ?_⟩, fun hk => ⟨mi NP.rf rfl rfl hG0.1 e16, ?_⟩, fun hk => ⟨mi NP.rf rfl rfl hG0.1 e16, ?_⟩, fun hk => ⟨mi NP.rf rfl rfl hG0.1 e16, ?_⟩, fun hk => ⟨mi NP.rf rfl rfl hG0.1 e16, ?_⟩, fun hv => ?_⟩)
  · -- a PLACE
    exact MC.mono (hP μ _ n V S S' e hN hS hV hS' (hG.lp hk)) (fun _ ζ hz => ⟨hz.1, fun h0 => (hz.2 h0).s1⟩) (fun _ h => h)
  · -- NEW
    have k0 := kid 79 0 0 hk (by decide) (by decide)
    refine MC.mono (sT NP.rf sub k0.1) (fun _ ζ hz => ⟨hz.1, fun h0 => fin ζ hz.1 (by rw [hk]; decide) (fun f hf => ?_)⟩) (fun _ h => h)
    rw [hk]
    have h5 : f = 0 ∨ f = 1 ∨ f = 2 ∨ f = 3 ∨ f = 4 := by omega
    rcases h5 with rfl | rfl | rfl | rfl | rfl
    · exact n0 (kd := 79) hz.1 ⟨hz.2 h0, k0.2⟩ (by decide)
    · exact True.intro
    · exact True.intro
    · exact True.intro
    · exact True.intro
  · -- ISTYPE, NARROW
    have both : (∀ f, f < 5 → fW (μ.2.1 20 e.toNatClampNeg).toNatClampNeg f = if f = 0 then (1, 1) else if f = 1 then (1, 0) else (0, 0)) ∧ ¬ μ.2.1 20 e.toNatClampNeg = 70 := by
      rcases hk with hk | hk <;> rw [hk] <;> decide
    have k0 := kid _ 0 1 rfl (by decide) (both.1 0 (by decide))
    have k1 := kid _ 1 0 rfl (by decide) (both.1 1 (by decide))
    refine MC.mono (sE NP.rf sub k0.1) (fun _ ν hν => ?_) (fun _ h => h)
    obtain ⟨q1, q2⟩ := hν
    refine ⟨mi q1 rfl rfl hG0.1 e16, ?_⟩
    rw [r23 q1]
    refine MC.mono (sT q1 sub k1.1) (fun _ ζ hz => ⟨q1.tr hz.1, fun h0 => fin ζ (q1.tr hz.1) both.2 (fun f hf => ?_)⟩) (fun _ h => h)
    have h5 : f = 0 ∨ f = 1 ∨ (¬ f = 0 ∧ ¬ f = 1) := by omega
    rcases h5 with rfl | rfl | ⟨h5, h6⟩
    · exact n0 (q1.tr hz.1) ⟨(q2 (hz.1.z h0)).np hz.1 h0, k0.2⟩ (both.1 0 (by decide))
    · exact n0 (q1.tr hz.1) ⟨hz.2 h0, k1.2⟩ (both.1 1 (by decide))
    · rw [both.1 f hf, if_neg h5, if_neg h6]; exact True.intro
  · -- a chain
    have k0 := kid 82 0 1 hk (by decide) (by decide)
    have g5 := g4 1 (by decide)
    rw [hk] at g5
    obtain ⟨gne, m0, hL0⟩ : ¬ μ.2.1 23 e.toNatClampNeg = -1 ∧ ∃ m, Lst (G μ k (fun j => S' j ∧ j ≠ e.toNatClampNeg) 18) (μ.2.1 27) m (μ.2.1 23 e.toNatClampNeg) := g5
    have key : ∀ (m : Nat) (x : Int32) (ν : MS), NP V S μ ν → Lst (G μ k (fun j => S' j ∧ j ≠ e.toNatClampNeg) 18) (μ.2.1 27) m x → ME X W true d 362 149 [(0, .ref P.1), (1, .int e), (2, .int x)] [] P ν (fun _ μ1 => NP V S ν μ1 ∧ (μ1.1 17 = 0 → Lst (NV μ1 V S k 18) (μ1.2.1 27) m x)) T := by
      intro m
      induction m with
      | zero =>
        intro x ν hν hx
        have hx : x = -1 := hx
        subst hx
        exact v_nameE_149 _ _ ⟨fun _ => ⟨NP.rf, fun _ => rfl⟩, fun h => absurd h (by decide)⟩
      | succ m ih =>
        intro x ν hν hx
        rcases hx with hx | ⟨hx1, hx⟩
        · subst hx
          exact v_nameE_149 _ _ ⟨fun _ => ⟨NP.rf, fun _ => Or.inl rfl⟩, fun h => absurd h (by decide)⟩
        have hi := hx1.in
        have six := sub _ hi.2
        have hcx := @ic x
        have x16 : x.toInt < 16000 := by have := (hS _ six).1; omega
        cases k with
        | zero => exact hx1.elim
        | succ j =>
        obtain ⟨c0, c1, c2⟩ := fk83 hx1
        refine v_nameE_149 _ _ ⟨fun h => by omega, fun _ => ⟨mi hν rfl rfl hi.1 x16, ?_⟩⟩
        rw [r23 hν]
        refine MC.mono (hE j (by omega) _ _ n V S _ _ (hN.np hν) (hS.np hν) (hV.np hν) (fun i hi => sub i hi.1) (c1.np hν)) (fun _ κ hκ => ?_) (fun _ h => h)
        obtain ⟨q1, q2⟩ := hκ
        refine ⟨mi (hν.tr q1) rfl rfl hi.1 x16, ?_⟩
        rw [r27 (hν.tr q1)]
        refine ME.mono (ih _ κ (hν.tr q1) hx) (fun _ ζ hz => ?_) (fun _ h => h)
        obtain ⟨z1, z2⟩ := hz
        have hz := (hν.tr q1).tr z1
        have z20 := hz.row (g := 20) rfl
        refine ⟨q1.tr z1, fun h0 => Or.inr ⟨NV.mk (kd := 83) hi.1 six (by rw [z20]; exact c0) (by decide) (LN.no (by rw [z20, c0]; decide)) (by decide) (fun f hf => ?_), ?_⟩⟩
        · have h5 : f = 0 ∨ f = 1 ∨ f = 2 ∨ f = 3 ∨ f = 4 := by omega
          rcases h5 with rfl | rfl | rfl | rfl | rfl
          · exact True.intro
          · rw [show ζ.2.1 (22 + 1) = μ.2.1 23 from r23 hz]
            exact And.intro ((q2 (z1.z h0)).np z1 h0) (by rw [r27 hz]; exact c2)
          · exact True.intro
          · exact True.intro
          · exact True.intro
        · rw [show ζ.2.1 27 x.toNatClampNeg = μ.2.1 27 x.toNatClampNeg by rw [r27 hz]]
          exact z2 h0
    refine MC.mono (sE NP.rf sub k0.1) (fun _ ν hν => ?_) (fun _ h => h)
    obtain ⟨q1, q2⟩ := hν
    refine ⟨mi q1 rfl rfl hG0.1 e16, ?_⟩
    rw [r23 q1]
    refine ME.mono (key m0 _ ν q1 hL0) (fun _ ζ hz => ⟨q1.tr hz.1, fun h0 => fin ζ (q1.tr hz.1) (by rw [hk]; decide) (fun f hf => ?_)⟩) (fun _ h => h)
    rw [hk]
    have h5 : f = 0 ∨ f = 1 ∨ f = 2 ∨ f = 3 ∨ f = 4 := by omega
    rcases h5 with rfl | rfl | rfl | rfl | rfl
    · exact n0 (kd := 82) (q1.tr hz.1) ⟨(q2 (hz.1.z h0)).np hz.1 h0, k0.2⟩ (by decide)
    · exact ⟨gne, m0, hz.2 h0⟩
    · exact True.intro
    · exact True.intro
    · exact True.intro
  · -- a relation
    have k0 := kid 84 0 1 hk (by decide) (by decide)
    have k1 := kid 84 1 1 hk (by decide) (by decide)
    refine MC.mono (sE NP.rf sub k0.1) (fun _ ν hν => ?_) (fun _ h => h)
    obtain ⟨q1, q2⟩ := hν
    refine ⟨mi q1 rfl rfl hG0.1 e16, ?_⟩
    rw [r23 q1]
    refine MC.mono (sE q1 sub k1.1) (fun _ ζ hz => ⟨q1.tr hz.1, fun h0 => fin ζ (q1.tr hz.1) (by rw [hk]; decide) (fun f hf => ?_)⟩) (fun _ h => h)
    rw [hk]
    have h5 : f = 0 ∨ f = 1 ∨ f = 2 ∨ f = 3 ∨ f = 4 := by omega
    rcases h5 with rfl | rfl | rfl | rfl | rfl
    · exact n0 (kd := 84) (q1.tr hz.1) ⟨(q2 (hz.1.z h0)).np hz.1 h0, k0.2⟩ (by decide)
    · exact n0 (kd := 84) (q1.tr hz.1) ⟨hz.2 h0, k1.2⟩ (by decide)
    · exact True.intro
    · exact True.intro
    · exact True.intro
  · -- NOT, a minus
    have both : (∀ f, f < 5 → fW (μ.2.1 20 e.toNatClampNeg).toNatClampNeg f = if f = 0 then (1, 1) else (0, 0)) ∧ ¬ μ.2.1 20 e.toNatClampNeg = 70 := by
      rcases hk with hk | hk <;> rw [hk] <;> decide
    have k0 := kid _ 0 1 rfl (by decide) (both.1 0 (by decide))
    refine MC.mono (sE NP.rf sub k0.1) (fun _ ζ hz => ⟨hz.1, fun h0 => fin ζ hz.1 both.2 (fun f hf => ?_)⟩) (fun _ h => h)
    by_cases h5 : f = 0
    · subst h5
      exact n0 hz.1 ⟨hz.2 h0, k0.2⟩ (both.1 0 (by decide))
    · rw [both.1 f hf, if_neg h5]; exact True.intro
  · -- no parts
    refine ⟨NP.rf, fun _ => fin μ NP.rf (hv 70 (by decide)) (fun f hf => ?_)⟩
    have none : ∀ x ∈ exL, (∀ v ∈ ([70, 79, 80, 81, 82, 84, 85, 86] : List Int32), ¬ x = v) → ∀ f, f < 5 → fW x.toNatClampNeg f = (0, 0) := by decide
    rw [none _ hke hv f hf]
    exact True.intro
/-- every expression and every PLACE, at a depth that bears its height -/
theorem ex_named : ∀ k : Nat, ∀ h, h ≤ k → (∀ d, 3 * h + 8 ≤ d → ExC X W P d h) ∧ ∀ d, 3 * h + 7 ≤ d → PlC X W P d h
  | 0, h, hh => by
    have e : h = 0 := by omega
    subst e
    exact ⟨fun _ _ _ _ _ _ _ _ _ _ _ _ _ h => h.elim, fun _ _ _ _ _ _ _ _ _ _ _ _ _ h => h.elim⟩
  | k + 1, h, hh => by
    by_cases c : h ≤ k
    · exact ex_named k h c
    · have e : h = k + 1 := by omega
      subst e
      have pl : ∀ d, 3 * (k + 1) + 7 ≤ d → PlC X W P d (k + 1) := fun d hd => by
        obtain ⟨dd, rfl⟩ : ∃ dd, d = dd + 1 := ⟨d - 1, by omega⟩
        exact pl_step (fun h' hh => (ex_named k h' (by omega)).1 dd (by omega)) (by omega)
      refine ⟨fun d hd => ?_, pl⟩
      obtain ⟨dd, rfl⟩ : ∃ dd, d = dd + 1 := ⟨d - 1, by omega⟩
      exact ex_step (pl dd (by omega)) (fun h' hh => (ex_named k h' (by omega)).1 dd (by omega)) (fun h' hh => ty_named h' dd h' (Nat.le_refl _) (by omega)) (by omega)
end NMQ
