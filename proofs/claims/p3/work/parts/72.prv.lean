/-! contracts of the reference: the inside of a TYPE -/
theorem PR.trE {e b n t s b' n' t' s' b2 n2 t2 s2 : Int} {μ μ1 μ2 : MS} (h : PR (-1) b n t s μ μ1) (k : PR e b' n' t' s' μ1 μ2) (he : (μ.1 19).toInt ≤ e) (e1 : b2 = b + b') (e2 : n2 = n + n') (e3 : t2 = t + t') (e4 : s2 = s + s') : PR (-1) b2 n2 t2 s2 μ μ2 := by
  obtain ⟨h1, h2, h3, h4, h5, h6, h7, h8, h9, h10⟩ := h
  obtain ⟨k1, k2, k3, k4, k5, k6, k7, k8, k9, k10⟩ := k
  exact ⟨h1.tr k1, k2, by omega, by omega, h5.tr (fun g g1 g2 i g3 g4 => k5 g g1 g2 i (by omega) (by omega)), by omega, by omega, by omega, by omega, h10.tr k10 (h1.1 33 rfl) h4⟩
section PRV
variable {X : ev_X} {W : Nat → Prop} {d : Nat} {P : MP}
theorem st_inside (hT1 : NodC X W P 312 0 9 0 d) (hS1 : NodC X W P 309 8 10 1 d) (hF : FldC X W P d) (hL : LevC X W P d) : NodB X W P 316 0 13 3 (d + 1) := fun μ T h9 hS hs hd hh hn hT => by
  have hat := hS.at
  have h0 := hS.2.2.2.2.1
  have hc := @ic (μ.1 19)
  have b37 := hS.2.2.2.2.2.1
  have b39 := hS.2.2.2.2.2.2.2.1
  have pd : ∀ {ν : MS}, PR (-1) 0 0 0 0 μ ν → psT ν = psT μ ∧ hiT ν = hiT μ := fun {ν} p => by
    obtain ⟨-, -, -, -, -, e1, -, e3, -⟩ := p
    unfold psT hiT
    rw [e1, e3]
    exact ⟨by omega, by omega⟩
  have hpos : 0 ≤ psT μ := by unfold psT; omega
  have hhp : 0 ≤ hiT μ := by unfold hiT; omega
  obtain ⟨h, rfl⟩ : ∃ h, h9 = h + 1 := ⟨h9 - 1, by omega⟩
  have h3 := bgT_e hs
  refine me_meth (by omega) rfl (v_typeInside_0 (MC.mono (c_node (by omega) hS (by omega)) (fun q μ1 hq => ?_) (fun _ h => h)))
  obtain ⟨rfl, p1, n1, a1, s1, nd1⟩ := hq
  have a1 := eq_i a1
  have i1 : (μ.1 19).toInt ≤ ((μ.1 19).toNatClampNeg : Int) := by omega
  have mi20 : MI (μ.1 19) (μ1.2.2 20) := p1.mi rfl rfl h0 (by omega)
  -- a state with the kind put
  have pk : ∀ k, PR (-1) 0 0 0 0 μ (mA1 μ1 20 (μ.1 19).toNatClampNeg k) := fun k => p1.A rfl rfl (Or.inl i1)
  have nk : ∀ k, ND (mA1 μ1 20 (μ.1 19).toNatClampNeg k) (μ.1 19).toNatClampNeg k (-1) (-1) (-1) (-1) (-1) (-1) := fun k => nd1.pk
  have gk : ∀ k, ((mA1 μ1 20 (μ.1 19).toNatClampNeg k).1 19).toInt = (μ1.1 19).toInt := fun _ => rfl
  have ak : ∀ k, ((mA1 μ1 20 (μ.1 19).toNatClampNeg k).1 32).toInt = (μ1.1 32).toInt := fun _ => rfl
  have sk : ∀ k, ¬ srt (mA1 μ1 20 (μ.1 19).toNatClampNeg k) = 203 := fun k => by show ¬ srt μ1 = 203; rw [s1]; exact h3
  -- behind the first token
  have nx : ∀ k (R : Int32 → MS → Prop), (PR (-1) 0 0 0 0 μ (nxS (mA1 μ1 20 (μ.1 19).toNatClampNeg k)) → ((nxS (mA1 μ1 20 (μ.1 19).toNatClampNeg k)).1 32).toInt = (μ.1 32).toInt + 1 → ((nxS (mA1 μ1 20 (μ.1 19).toNatClampNeg k)).1 19).toInt = (μ.1 19).toInt + 1 → ND (nxS (mA1 μ1 20 (μ.1 19).toNatClampNeg k)) (μ.1 19).toNatClampNeg k (-1) (-1) (-1) (-1) (-1) (-1) → ∀ r, R r (nxS (mA1 μ1 20 (μ.1 19).toNatClampNeg k))) →
      MC X W true d 294 [.ref P.1] P (mA1 μ1 20 (μ.1 19).toNatClampNeg k) R T := fun k R hR => MC.mono (c_next (by omega) (pk k).2.1 (sk k) (fun _ h => hT _ ((pk k).1.tr h))) (fun r ν hν => by
    obtain ⟨rfl, hSν⟩ := hν
    have e := nx_at (pk k).2.1
    have := ak k
    exact hR ((pk k).nx hSν) (by omega) (by show (μ1.1 19).toInt = _; omega) (nk k) r) (fun _ h => h)
  have fin : ∀ {ν : MS} {k a b c dd e : Int32}, PR (-1) 0 0 0 0 μ ν → (ν.1 19).toInt + 2 * (μ.1 32).toInt ≤ (μ.1 19).toInt + 2 * (ν.1 32).toInt → (μ.1 32).toInt < (ν.1 32).toInt → (μ.1 19).toInt < (ν.1 19).toInt → ND ν (μ.1 19).toNatClampNeg k a b c dd e (-1) → sK 0 k = true →
      FO (G ν h (fun j => bt (μ.1 19).toInt (ν.1 19).toInt j ∧ j ≠ (μ.1 19).toNatClampNeg)) (ν.2.1 27) (fW k.toNatClampNeg 0) a → FO (G ν h (fun j => bt (μ.1 19).toInt (ν.1 19).toInt j ∧ j ≠ (μ.1 19).toNatClampNeg)) (ν.2.1 27) (fW k.toNatClampNeg 1) b → FO (G ν h (fun j => bt (μ.1 19).toInt (ν.1 19).toInt j ∧ j ≠ (μ.1 19).toNatClampNeg)) (ν.2.1 27) (fW k.toNatClampNeg 2) c →
      FO (G ν h (fun j => bt (μ.1 19).toInt (ν.1 19).toInt j ∧ j ≠ (μ.1 19).toNatClampNeg)) (ν.2.1 27) (fW k.toNatClampNeg 3) dd → FO (G ν h (fun j => bt (μ.1 19).toInt (ν.1 19).toInt j ∧ j ≠ (μ.1 19).toNatClampNeg)) (ν.2.1 27) (fW k.toNatClampNeg 4) e → ∀ {H : List Int32}, CVs ν ((μ.1 19).toInt + 1) (ν.1 19).toInt H → AllP (fun x => 0 ≤ x.toInt → Par ν (μ.1 19).toNatClampNeg x.toNatClampNeg) H → PN 0 (h + 1) μ (μ.1 19) ν ∧ CO ν (μ.1 19).toInt (ν.1 19).toInt (μ.1 19) :=
    fun {ν k a b c dd e} p hb ha hlt hN hk f0 f1 f2 f3 f4 {H} cv cp => ⟨⟨p, hb, ha, G.mk h0 (Int.le_refl _) hlt hN hk f0 f1 f2 f3 f4, hN.2.2.2.2.2.2⟩, CO.fin cv h0 cp hlt⟩
  have leaf : ∀ k, sK 0 k = true → (∀ f, f < 5 → fW k.toNatClampNeg f = (0, 0)) → MI (μ.1 19) (μ1.2.2 20) ∧ MC X W true d 294 [.ref P.1] P (mA1 μ1 20 (μ.1 19).toNatClampNeg k) (fun _ ν => PN 0 (h + 1) μ (μ.1 19) ν ∧ CO ν (μ.1 19).toInt (ν.1 19).toInt (μ.1 19)) T := fun k hk hf => ⟨mi20, nx k _ (fun p e1 e2 hN _ => fin p (by omega) (by omega) (by omega) hN hk (by rw [hf 0 (by decide)]; exact True.intro) (by rw [hf 1 (by decide)]; exact True.intro) (by rw [hf 2 (by decide)]; exact True.intro) (by rw [hf 3 (by decide)]; exact True.intro) (by rw [hf 4 (by decide)]; exact True.intro) (H := []) (CVs.nil (by omega)) True.intro)⟩
  -- a LEVEL over what stands at the node
  have lev : ∀ {ν : MS} {a : Int32}, PR (-1) 0 0 0 0 μ ν → (ν.1 19).toInt + 2 * (μ.1 32).toInt ≤ (μ.1 19).toInt + 2 * (ν.1 32).toInt + 1 → srt ν = 34 → ((a = -1 ∧ NS ν (μ.1 19).toInt (ν.1 19).toInt) ∨ (G ν h (bt (μ.1 19).toInt (ν.1 19).toInt) 0 a ∧ CO ν (μ.1 19).toInt (ν.1 19).toInt a ∧ ν.2.1 27 a.toNatClampNeg = -1)) → MC X W true d 318 [.ref P.1, .int a] P ν (fun r ν1 => PN 0 (h + 1) μ r ν1 ∧ CO ν1 (μ.1 19).toInt (ν1.1 19).toInt r) T := fun {ν a} p hb hs4 hA => by
    have dd := pd p
    have l1 := p.2.2.2.1
    have l2 := p.2.2.1
    refine MC.mono (hL ν T h a (μ.1 19).toInt p.2.1 hs4 (by omega) (by omega) (by omega) l1 h0 hA (fun _ h => hT _ (p.1.tr h))) (fun r ν1 h1 => ?_) (fun _ h => h)
    obtain ⟨⟨w1, w2, w3, w4, w5⟩, wc⟩ := h1
    exact ⟨⟨p.tr w1 rfl rfl rfl rfl, by omega, by omega, w4, w5⟩, wc⟩
  refine ⟨MI.of (p1.2.1.1.g rfl rfl : _ = 6002) p1.2.1.at.1 p1.2.1.at.2, fun _ => ⟨mi20, nx 28 _ (fun p e1 e2 hN _ => ?_)⟩, fun _ => ⟨fun _ => ⟨fun _ => ⟨fun _ => ⟨fun _ => leaf 25 (by decide) (by decide), fun _ => leaf 24 (by decide) (by decide)⟩, fun _ => leaf 23 (by decide) (by decide)⟩, fun _ => leaf 22 (by decide) (by decide)⟩, fun _ => leaf 21 (by decide) (by decide)⟩,
    fun h34 => lev p1 (by omega) h34 (Or.inl ⟨rfl, NS.one nd1 (by omega) (by omega) (by decide)⟩), fun _ => ⟨mi20, nx 29 _ (fun p e1 e2 hN _ => ?_)⟩, fun _ => ⟨mi20, nx 30 _ (fun p e1 e2 hN _ => ?_)⟩, fun _ => ⟨mi20, nx 26 _ (fun p e1 e2 hN _ => ?_)⟩, fun _ => ⟨mi20, ?_⟩, fun _ => ⟨p1.mi rfl rfl h0 (by omega), ?_⟩, fun _ => ⟨mi20, nx 31 _ (fun p e1 e2 hN _ => ?_)⟩⟩
  -- ARRAY
  · refine MC.mono (c_bounds (by omega) p.2.1 h0 (by omega) (by omega) (fun _ h => hT _ (p.1.tr h))) (fun _ μ3 h3 => ?_) (fun _ h => h)
    obtain ⟨w1, w2, w3, w4⟩ := h3
    obtain ⟨a', b', nd3⟩ := w4 _ _ _ _ _ _ _ hN
    have w2 := eq_i w2
    have q3 : PR (-1) 0 0 0 0 μ μ3 := p.trE w1 (Int.le_refl _) rfl rfl rfl rfl
    refine MC.mono (c_expect (by omega) q3.2.1 (by decide) (fun _ h => hT _ (q3.1.tr h))) (fun _ μ4 h4 => ?_) (fun _ h => h)
    obtain ⟨-, rfl, hS4⟩ := h4
    have q4 := q3.nx hS4
    have e4 := nx_at q3.2.1
    have g4 : ((nxS μ3).1 19).toInt = (μ3.1 19).toInt := rfl
    have d4 := pd q4
    refine MC.mono (hT1 _ _ h q4.2.1 (by omega) (by omega) (by omega) (fun _ h => hT _ (q4.1.tr h))) (fun r5 μ5 h5 => ?_) (fun _ h => h)
    obtain ⟨⟨z1, z2, z3, z4, z5⟩, zc⟩ := h5
    have q5 : PR (-1) 0 0 0 0 μ μ5 := q4.tr z1 rfl rfl rfl rfl
    have at5 := q5.2.1.at
    have l5 := z1.2.2.2.1
    refine ⟨q5.mi rfl rfl h0 (by omega), fin (q5.A (g := 24) (i := (μ.1 19).toNatClampNeg) (x := r5) rfl rfl (Or.inl i1)) (by show (μ5.1 19).toInt + _ ≤ _ + 2 * (μ5.1 32).toInt; omega) (by show _ < (μ5.1 32).toInt; omega) (by show _ < (μ5.1 19).toInt; omega) (ND.pc (ND.rb (μ := nxS μ3) nd3 z1.2.2.2.2.1 (by omega) (by omega))) (by decide) True.intro True.intro ?_ True.intro True.intro (H := [r5]) ?_ ?_⟩
    · exact ⟨z4.toR (Nat.le_refl _) (by omega) (Int.le_refl _) (Or.inl (by omega)) (RB.A (n := (μ5.1 19).toInt) (e := (μ.1 19).toInt) (Or.inr (by omega))) (Int.le_refl _) (Or.inl (by omega)), by rw [row_off rfl]; exact z5⟩
    · exact ((CVs.nil (b := (μ.1 19).toInt + 1) (Int.le_refl _) : CVs (nxS μ3) ((μ.1 19).toInt + 1) ((μ.1 19).toInt + 1) []).add (n := (μ.1 19).toInt + 1) (e := -1) (z1.2.2.2.2.1.lo (by omega)) (Int.le_refl _) (Or.inl (by omega)) (Int.le_refl _) (show (μ.1 19).toInt + 1 ≤ (μ5.1 19).toInt by omega) (by rw [show (μ.1 19).toInt + 1 = ((nxS μ3).1 19).toInt by omega]; exact LCO.of z4.in.1 zc)).rb (e := (μ.1 19).toInt) (n := (μ5.1 19).toInt) (RB.A (Or.inr (by omega))) (Int.le_refl _) (Or.inl (by omega))
    · exact ⟨fun h => Par.fc (ND.pc (ND.rb (μ := nxS μ3) nd3 z1.2.2.2.2.1 (by omega) (by omega))) (by decide) h, True.intro⟩
  -- RECORD
  · have dd := pd p
    refine MC.mono (hF _ _ h p.2.1 (by omega) (by omega) (by omega) (fun _ h => hT _ (p.1.tr h))) (fun r5 μ5 h5 => ?_) (fun _ h => h)
    obtain ⟨⟨z1, z2, z4⟩, zc⟩ := h5
    have q5 : PR (-1) 0 0 0 0 μ μ5 := p.tr z1 rfl rfl rfl rfl
    have at5 := q5.2.1.at
    have l5 := z1.2.2.2.1
    have q6 := q5.A (g := 22) (i := (μ.1 19).toNatClampNeg) (x := r5) rfl rfl (Or.inl i1)
    refine ⟨q5.mi rfl rfl h0 (by omega), MC.mono (c_expect (by omega) q6.2.1 (by decide) (fun _ h => hT _ (q6.1.tr h))) (fun _ μ7 h7 => ?_) (fun _ h => h)⟩
    obtain ⟨-, rfl, hS7⟩ := h7
    have e7 := nx_at q6.2.1
    have e6 : ((mA1 μ5 22 (μ.1 19).toNatClampNeg r5).1 32).toInt = (μ5.1 32).toInt := rfl
    have nd6 : ND (nxS (mA1 μ5 22 (μ.1 19).toNatClampNeg r5)) (μ.1 19).toNatClampNeg 29 r5 (-1) (-1) (-1) (-1) (-1) := ND.pa (hN.rb z1.2.2.2.2.1 (by omega) (by omega))
    have hl : LSt 10 h ((μ.1 19).toInt + 1) μ5 r5 := by rw [e2] at z4; exact z4
    have hc6 : CVs (nxS (mA1 μ5 22 (μ.1 19).toNatClampNeg r5)) ((μ.1 19).toInt + 1) (μ5.1 19).toInt [r5] := by
      rw [e2] at zc
      exact (CVs.one zc).rb (e := (μ.1 19).toInt) (n := (μ5.1 19).toInt) (RB.tr (RB.A (b := 22) (t := (μ.1 19).toNatClampNeg) (x := r5) (Or.inr (by omega))) (show RB _ _ (mA1 μ5 22 (μ.1 19).toNatClampNeg r5) (nxS (mA1 μ5 22 (μ.1 19).toNatClampNeg r5)) from RB.S)) (Int.le_refl _) (Or.inl (by omega))
    refine fin (q6.nx hS7) (by show (μ5.1 19).toInt + _ ≤ _ + 2 * ((nxS (mA1 μ5 22 (μ.1 19).toNatClampNeg r5)).1 32).toInt; omega) (by show _ < ((nxS (mA1 μ5 22 (μ.1 19).toNatClampNeg r5)).1 32).toInt; omega) (by show _ < (μ5.1 19).toInt; omega) nd6 (by decide) ?_ True.intro True.intro True.intro True.intro hc6 ⟨fun h => Par.fa nd6 (by decide) h, True.intro⟩
    exact (hl.rb (e := (μ.1 19).toInt) (RB.tr (RB.A (b := 22) (t := (μ.1 19).toNatClampNeg) (x := r5) (Or.inr (by omega))) (show RB _ _ (mA1 μ5 22 (μ.1 19).toNatClampNeg r5) (nxS (mA1 μ5 22 (μ.1 19).toNatClampNeg r5)) from RB.S)) (Int.le_refl _) (Or.inl (by omega))).fo (by omega) (by omega)
  -- REF
  · have dd := pd p
    refine MC.mono (hT1 _ _ h p.2.1 (by omega) (by omega) (by omega) (fun _ h => hT _ (p.1.tr h))) (fun r5 μ5 h5 => ?_) (fun _ h => h)
    obtain ⟨⟨z1, z2, z3, z4, z5⟩, zc⟩ := h5
    have q5 : PR (-1) 0 0 0 0 μ μ5 := p.tr z1 rfl rfl rfl rfl
    have at5 := q5.2.1.at
    have l5 := z1.2.2.2.1
    refine ⟨q5.mi rfl rfl h0 (by omega), fin (q5.A (g := 22) (i := (μ.1 19).toNatClampNeg) (x := r5) rfl rfl (Or.inl i1)) (by show (μ5.1 19).toInt + _ ≤ _ + 2 * (μ5.1 32).toInt; omega) (by show _ < (μ5.1 32).toInt; omega) (by show _ < (μ5.1 19).toInt; omega) (ND.pa (hN.rb z1.2.2.2.2.1 (by omega) (by omega))) (by decide) ?_ True.intro True.intro True.intro True.intro (H := [r5]) ((CVs.one (by rw [show (μ.1 19).toInt + 1 = ((nxS (mA1 μ1 20 (μ.1 19).toNatClampNeg 30)).1 19).toInt from e2.symm]; exact LCO.of z4.in.1 zc)).rb (e := (μ.1 19).toInt) (n := (μ5.1 19).toInt) (RB.A (Or.inr (by omega))) (Int.le_refl _) (Or.inl (by omega))) ⟨fun h => Par.fa (ND.pa (hN.rb z1.2.2.2.2.1 (by omega) (by omega))) (by decide) h, True.intro⟩⟩
    exact ⟨z4.toR (Nat.le_refl _) (by omega) (Int.le_refl _) (Or.inl (by omega)) (RB.A (n := (μ5.1 19).toInt) (e := (μ.1 19).toInt) (Or.inr (by omega))) (Int.le_refl _) (Or.inl (by omega)), by rw [row_off rfl]; exact z5⟩
  -- ROOT
  · refine MC.mono (c_is (by omega) p.2.1) (fun r μ3 h3 => ?_) (fun _ h => h)
    obtain ⟨rfl, rfl⟩ := h3
    have root : PN 0 (h + 1) μ (μ.1 19) (nxS (mA1 μ1 20 (μ.1 19).toNatClampNeg 26)) ∧ CO (nxS (mA1 μ1 20 (μ.1 19).toNatClampNeg 26)) (μ.1 19).toInt ((nxS (mA1 μ1 20 (μ.1 19).toNatClampNeg 26)).1 19).toInt (μ.1 19) := fin p (by omega) (by omega) (by omega) hN (by decide) True.intro True.intro True.intro True.intro True.intro (H := []) (CVs.nil (by omega)) True.intro
    refine ⟨fun _ => root, fun h4 => lev p (by omega) (is_t h4) (Or.inr ⟨?_, root.2, hN.2.2.2.2.2.2⟩)⟩
    obtain ⟨h', rfl⟩ : ∃ h', h = h' + 1 := ⟨h - 1, by omega⟩
    exact G.mk h0 (Int.le_refl _) (by omega) hN (by decide) True.intro True.intro True.intro True.intro True.intro
  -- a range
  · refine MC.mono (c_bounds (by omega) (pk 27).2.1 h0 (by have := gk 27; omega) (by have := gk 27; omega) (fun _ h => hT _ ((pk 27).1.tr h))) (fun _ μ3 h3 => ?_) (fun _ h => h)
    obtain ⟨w1, w2, w3, w4⟩ := h3
    obtain ⟨a', b', nd3⟩ := w4 _ _ _ _ _ _ _ (nk 27)
    have w2 := eq_i w2
    have q3 : PR (-1) 0 0 0 0 μ μ3 := (pk 27).trE w1 (Int.le_refl _) rfl rfl rfl rfl
    have := gk 27
    have := ak 27
    exact fin q3 (by omega) (by omega) (by omega) nd3 (by decide) True.intro True.intro True.intro True.intro True.intro (H := []) (CVs.nil (by omega)) True.intro
  -- a name
  · have pn : PR (-1) 0 0 0 0 μ (mA1 μ1 28 (μ.1 19).toNatClampNeg (-1)) := p1.N i1
    have gn : ((mA1 μ1 28 (μ.1 19).toNatClampNeg (-1)).1 19).toInt = (μ1.1 19).toInt := rfl
    have an : ((mA1 μ1 28 (μ.1 19).toNatClampNeg (-1)).1 32).toInt = (μ1.1 32).toInt := rfl
    refine MC.mono (c_qname (by omega) pn.2.1 (by omega) (fun _ h => hT _ (pn.1.tr h))) (fun r5 μ5 h5 => ?_) (fun _ h => h)
    obtain ⟨⟨z1, z2, z3, z4, z5⟩, z6, z7⟩ := h5
    have q5 : PR (-1) 0 0 0 0 μ μ5 := pn.tr z1 rfl rfl rfl rfl
    have at5 := q5.2.1.at
    have l5 := z1.2.2.2.1
    have q6 := q5.A (g := 22) (i := (μ.1 19).toNatClampNeg) (x := r5) rfl rfl (Or.inl i1)
    have nd6 : ND (mA1 μ5 22 (μ.1 19).toNatClampNeg r5) (μ.1 19).toNatClampNeg 20 r5 (-1) (-1) (-1) (-1) (-1) := ND.pa (ND.rb (μ := mA1 μ1 28 (μ.1 19).toNatClampNeg (-1)) nd1 z1.2.2.2.2.1 (by omega) (by omega))
    have g6 : ((mA1 μ5 22 (μ.1 19).toNatClampNeg r5).1 19).toInt = (μ5.1 19).toInt := rfl
    have a6 : ((mA1 μ5 22 (μ.1 19).toNatClampNeg r5).1 32).toInt = (μ5.1 32).toInt := rfl
    have gq : ∀ h', 1 ≤ h' → G (mA1 μ5 22 (μ.1 19).toNatClampNeg r5) h' (fun j => bt (μ.1 19).toInt ((mA1 μ5 22 (μ.1 19).toNatClampNeg r5).1 19).toInt j ∧ j ≠ (μ.1 19).toNatClampNeg) 7 r5 := fun h' hh' => z4.toR hh' (by omega) (Int.le_refl _) (Or.inl (by omega)) (RB.A (n := (μ5.1 19).toInt) (e := (μ.1 19).toInt) (Or.inr (by omega))) (Int.le_refl _) (Or.inl (by omega))
    have z7 : NS μ5 (μ1.1 19).toInt (μ5.1 19).toInt := z7
    have hc6 : CVs (mA1 μ5 22 (μ.1 19).toNatClampNeg r5) ((μ.1 19).toInt + 1) ((mA1 μ5 22 (μ.1 19).toNatClampNeg r5).1 19).toInt [] := fun j j1 j2 j3 => by
      rw [row_off rfl] at j3
      exact (z7.no (by omega) j2 j3).elim
    refine ⟨q5.mi rfl rfl h0 (by omega), MC.mono (c_is (by omega) q6.2.1) (fun r μ7 h7 => ?_) (fun _ h => h)⟩
    obtain ⟨rfl, rfl⟩ := h7
    refine ⟨fun _ => fin q6 (by omega) (by omega) (by omega) nd6 (by decide) ⟨gq h (by omega), by rw [row_off rfl]; exact z5⟩ True.intro True.intro True.intro True.intro hc6 True.intro, fun h4 => lev q6 (by omega) (is_t h4) (Or.inr ⟨?_, CO.fin hc6 h0 True.intro (by omega), nd6.2.2.2.2.2.2⟩)⟩
    obtain ⟨h', rfl⟩ : ∃ h', h = h' + 1 := ⟨h - 1, by omega⟩
    exact G.mk h0 (Int.le_refl _) (by omega) nd6 (by decide) ⟨gq h' (by omega), by rw [row_off rfl]; exact z5⟩ True.intro True.intro True.intro True.intro
  -- PROCEDURE
  · have dd := pd p
    refine MC.mono (hS1 _ _ h p.2.1 (by omega) (by omega) (by omega) (fun _ h => hT _ (p.1.tr h))) (fun r5 μ5 h5 => ?_) (fun _ h => h)
    obtain ⟨⟨z1, z2, z3, z4, z5⟩, zc⟩ := h5
    have q5 : PR (-1) 0 0 0 0 μ μ5 := p.tr z1 rfl rfl rfl rfl
    have at5 := q5.2.1.at
    have l5 := z1.2.2.2.1
    refine ⟨q5.mi rfl rfl h0 (by omega), fin (q5.A (g := 22) (i := (μ.1 19).toNatClampNeg) (x := r5) rfl rfl (Or.inl i1)) (by show (μ5.1 19).toInt + _ ≤ _ + 2 * (μ5.1 32).toInt; omega) (by show _ < (μ5.1 32).toInt; omega) (by show _ < (μ5.1 19).toInt; omega) (ND.pa (hN.rb z1.2.2.2.2.1 (by omega) (by omega))) (by decide) ?_ True.intro True.intro True.intro True.intro (H := [r5]) ((CVs.one (by rw [show (μ.1 19).toInt + 1 = ((nxS (mA1 μ1 20 (μ.1 19).toNatClampNeg 31)).1 19).toInt from e2.symm]; exact LCO.of z4.in.1 zc)).rb (e := (μ.1 19).toInt) (n := (μ5.1 19).toInt) (RB.A (Or.inr (by omega))) (Int.le_refl _) (Or.inl (by omega))) ⟨fun h => Par.fa (ND.pa (hN.rb z1.2.2.2.2.1 (by omega) (by omega))) (by decide) h, True.intro⟩⟩
    exact ⟨z4.toR (Nat.le_refl _) (by omega) (Int.le_refl _) (Or.inl (by omega)) (RB.A (n := (μ5.1 19).toInt) (e := (μ.1 19).toInt) (Or.inr (by omega))) (Int.le_refl _) (Or.inl (by omega)), by rw [row_off rfl]; exact z5⟩
end PRV
