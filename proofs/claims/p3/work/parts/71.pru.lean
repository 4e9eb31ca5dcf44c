/-! contracts of the reference: a LEVEL, over its FIELDs and METHODs -/
/-- a list known at a state, its nodes from a count on -/
def LSt (s h : Nat) (lo : Int) (ν : MS) (x : Int32) : Prop := ∃ m, Lst (G ν h (bt lo (ν.1 19).toInt) s) (ν.2.1 27) m x
theorem LSt.nil {s h : Nat} {lo : Int} {ν : MS} : LSt s h lo ν (-1) := ⟨0, rfl⟩
theorem LSt.rb {s h : Nat} {lo e : Int} {ν ν1 : MS} {x : Int32} (hL : LSt s h lo ν x) (hr : RB e (ν.1 19).toInt ν ν1) (hn : (ν.1 19).toInt ≤ (ν1.1 19).toInt) (he : e < lo ∨ (ν.1 19).toInt ≤ e) : LSt s h lo ν1 x := by
  obtain ⟨m, hm⟩ := hL
  refine ⟨m, hm.mono (fun y hy => (hy.rb hr (Int.le_refl _) he).up (Nat.le_refl _) (Int.le_refl _) hn) (fun y hy => ?_)⟩
  obtain ⟨k1, k2, k3⟩ := hy.in
  exact hr 27 (by omega) (by omega) _ (by omega) (by omega)
theorem LSt.fo {s h t : Nat} {lo lo' : Int} {ν : MS} {x : Int32} (hL : LSt s h lo ν x) (ht : (t : Int) < lo) (hl : lo' ≤ lo) : FO (G ν h (fun j => bt lo' (ν.1 19).toInt j ∧ j ≠ t)) (ν.2.1 27) (3, s) x := by
  obtain ⟨m, hm⟩ := hL
  exact ⟨m, hm.mono (fun y hy => G.mono hy (Nat.le_refl _) (fun j hj => ⟨⟨by have := hj.1; omega, hj.2⟩, by have := hj.1; omega⟩) (fun _ _ _ _ _ => rfl) (fun _ _ _ => rfl)) (fun _ _ => rfl)⟩
def FldC (X : ev_X) (W : Nat → Prop) (P : MP) (d : Nat) : Prop := ∀ (μ : MS) (T : MS → Prop) (h : Nat), PS μ → psT μ + 10 ≤ d → hiT μ + 1 ≤ h → (μ.1 19).toInt ≤ 2 * (μ.1 32).toInt + 30 → (∀ μ1, kf SPA RPA μ μ1 → T μ1) → MC X W true d 317 [.ref P.1] P μ (fun r μ1 => PL 10 h μ r μ1 ∧ LCO μ1 (μ.1 19).toInt (μ1.1 19).toInt r) T
def MemC (X : ev_X) (W : Nat → Prop) (P : MP) (d : Nat) : Prop := ∀ (μ : MS) (T : MS → Prop) (h : Nat) (k : Int32) (s : Nat), (k = 34 ∧ s = 11) ∨ (k = 35 ∧ s = 12) → PS μ → psT μ + 11 ≤ d → hiT μ + 2 ≤ h → (μ.1 19).toInt ≤ 2 * (μ.1 32).toInt + 30 → (∀ μ1, kf SPA RPA μ μ1 → T μ1) → MC X W true d 319 [.ref P.1, .int k] P μ (fun r μ1 => PL s h μ r μ1 ∧ LCO μ1 (μ.1 19).toInt (μ1.1 19).toInt r) T
/-- what stands above, when it was made from lo on -/
def LvP (lo : Int) (h : Nat) (μ : MS) (r : Int32) (μ1 : MS) : Prop := PR (-1) 0 0 0 0 μ μ1 ∧ (μ1.1 19).toInt + 2 * (μ.1 32).toInt + 2 ≤ (μ.1 19).toInt + 2 * (μ1.1 32).toInt ∧ (μ.1 32).toInt < (μ1.1 32).toInt ∧ G μ1 h (bt lo (μ1.1 19).toInt) 0 r ∧ μ1.2.1 27 r.toNatClampNeg = -1
def LvQ (lo : Int) (h : Nat) (μ : MS) (r : Int32) (μ1 : MS) : Prop := LvP lo h μ r μ1 ∧ CO μ1 lo (μ1.1 19).toInt r
def LevC (X : ev_X) (W : Nat → Prop) (P : MP) (d : Nat) : Prop := ∀ (μ : MS) (T : MS → Prop) (h : Nat) (a : Int32) (lo : Int), PS μ → srt μ = 34 → psT μ + 12 ≤ d → hiT μ + 3 ≤ (h : Int) + 1 → (μ.1 19).toInt ≤ 2 * (μ.1 32).toInt + 31 → lo ≤ (μ.1 19).toInt → 0 ≤ lo → ((a = -1 ∧ NS μ lo (μ.1 19).toInt) ∨ (G μ h (bt lo (μ.1 19).toInt) 0 a ∧ CO μ lo (μ.1 19).toInt a ∧ μ.2.1 27 a.toNatClampNeg = -1)) → (∀ μ1, kf SPA RPA μ μ1 → T μ1) →
  MC X W true d 318 [.ref P.1, .int a] P μ (fun r μ1 => LvQ lo (h + 1) μ r μ1) T
section PRU
variable {X : ev_X} {W : Nat → Prop} {d : Nat} {P : MP}
theorem st_level (hF : FldC X W P d) (hM : MemC X W P d) : LevC X W P (d + 1) := fun μ T h a lo hS hs hd hh hn hlo hlo0 ha9 hT => by
  have ha : a = -1 ∨ G μ h (bt lo (μ.1 19).toInt) 0 a := ha9.imp (fun h => h.1) (fun h => h.1)
  have hac : LCO μ lo (μ.1 19).toInt a := ha9.imp id (fun h => ⟨h.1.in.1, h.2.1⟩)
  have hal : a = -1 ∨ (0 ≤ a.toInt ∧ a.toInt < (μ.1 19).toInt ∧ μ.2.1 27 a.toNatClampNeg = -1) := ha9.imp (fun h => h.1) (fun h => ⟨h.1.in.1, by have := h.1.in.2.2; have := @ic a; have := h.1.in.1; omega, h.2.2⟩)
  have hat := hS.at
  have h0 := hS.2.2.2.2.1
  have hc := @ic (μ.1 19)
  have b37 := hS.2.2.2.2.2.1
  have b39 := hS.2.2.2.2.2.2.2.1
  have pd : ∀ {ν : MS}, PR (-1) 0 0 0 0 μ ν → psT ν = psT μ ∧ hiT ν = hiT μ := fun {ν} p => by
    obtain ⟨-, -, -, -, -, e1, -, e3, -⟩ := p
    unfold psT hiT
    rw [e1, e3]
    exact ⟨by omega, by omega⟩
  have hpos : 0 ≤ psT μ := by unfold psT; omega
  -- the end of it
  have tail : ∀ (ν : MS) (f m o : Int32), PR (-1) 0 0 0 0 μ ν → (ν.1 19).toInt + 2 * (μ.1 32).toInt ≤ (μ.1 19).toInt + 2 * (ν.1 32).toInt → (μ.1 19).toInt < (ν.1 19).toInt → ND ν (μ.1 19).toNatClampNeg 32 a f m o (-1) (-1) → (a = -1 ∨ G ν h (bt lo (μ.1 19).toInt) 0 a) →
      LSt 10 h ((μ.1 19).toInt + 1) ν f → LSt 11 h ((μ.1 19).toInt + 1) ν m → LSt 12 h ((μ.1 19).toInt + 1) ν o → CVs ν ((μ.1 19).toInt + 1) (ν.1 19).toInt [o, m, f] → ∀ x : Int32, MC X W true d 297 [.ref P.1, .int 10] P (mS1 ν 34 x) (fun _ μ1 => LvQ lo (h + 1) μ (μ.1 19) μ1) T := fun ν f m o p hb hlt hN hA hf hm ho hcv x => by
    have p1 : PR (-1) 0 0 0 0 μ (mS1 ν 34 x) := p.s34
    refine MC.mono (c_expect (by omega) p1.2.1 (by decide) (fun _ h => hT _ (p1.1.tr h))) (fun _ ν1 h1 => ?_) (fun _ h => h)
    obtain ⟨-, rfl, hS1⟩ := h1
    have p2 := p1.nx hS1
    have e2 := nx_at p1.2.1
    have e3 : ((mS1 ν 34 x).1 32).toInt = (ν.1 32).toInt := rfl
    have rb : ∀ n, RB (-1) n ν (nxS (mS1 ν 34 x)) := fun n => RB.tr RB.S (show RB (-1) n (mS1 ν 34 x) (nxS (mS1 ν 34 x)) from RB.S)
    have ge : ((nxS (mS1 ν 34 x)).1 19).toInt = (ν.1 19).toInt := rfl
    have hN2 : ND (nxS (mS1 ν 34 x)) (μ.1 19).toNatClampNeg 32 a f m o (-1) (-1) := hN
    have hle := p.2.2.1
    refine ⟨⟨p2, ?_, ?_, G.mk h0 hlo (by omega) hN2 (by decide) ?_ ((hf.rb (rb _) (Int.le_refl _) (Or.inl (by omega))).fo (by omega) (by omega)) ((hm.rb (rb _) (Int.le_refl _) (Or.inl (by omega))).fo (by omega) (by omega)) ((ho.rb (rb _) (Int.le_refl _) (Or.inl (by omega))).fo (by omega) (by omega)) True.intro, hN2.2.2.2.2.2.2⟩, ?_⟩
    · show (ν.1 19).toInt + _ + 2 ≤ _ + 2 * ((nxS (mS1 ν 34 x)).1 32).toInt; omega
    · show _ < ((nxS (mS1 ν 34 x)).1 32).toInt; omega
    · rcases hA with hA | hA
      · exact Or.inl hA
      · refine Or.inr ⟨hA.toR (Nat.le_refl _) (Int.le_refl _) (by omega) (Or.inr (by omega)) (rb (ν.1 19).toInt) (by omega) (Or.inl (by omega)), ?_⟩
        rcases hal with hal | ⟨a0, a1, a2⟩
        · rw [hal] at hA; exact absurd hA.in.1 (by decide)
        · have hca := @ic a
          rw [(p.2.2.2.2.1.tr (rb _)) 27 (by omega) (by omega) _ (by omega) (by omega)]; exact a2
    · intro j j1 j2 j3
      have j2 : (j : Int) < (ν.1 19).toInt := j2
      by_cases c1 : (j : Int) < (μ.1 19).toInt
      · have hac2 : LCO (nxS (mS1 ν 34 x)) lo (μ.1 19).toInt a := hac.rb (p.2.2.2.2.1.tr (rb _)) (Int.le_refl _) (Or.inl (by omega))
        rcases hac2 with ⟨-, k⟩ | ⟨k0, k⟩
        · exact (k.no j1 c1 j3).elim
        · exact k.kid (Par.fa hN2 (by decide) k0) (Int.le_refl _) (by show _ ≤ (ν.1 19).toInt; omega) (by omega) (by show _ < (ν.1 19).toInt; omega) j1 c1 j3
      · by_cases c2 : j = (μ.1 19).toNatClampNeg
        · exact ⟨0, c2⟩
        · have cv2 : CVs (nxS (mS1 ν 34 x)) ((μ.1 19).toInt + 1) (ν.1 19).toInt [o, m, f] := hcv.rb (rb _) (Int.le_refl _) (Or.inl (by omega))
          exact cv2.top ⟨fun h => Par.fd hN2 (by decide) h, fun h => Par.fc hN2 (by decide) h, fun h => Par.fb hN2 (by decide) h, True.intro⟩ (by omega) (by show _ ≤ (ν.1 19).toInt; omega) (by omega) (by show _ < (ν.1 19).toInt; omega) (by omega) j2 j3
  refine me_meth (by omega) rfl (v_level_0 _ (MC.mono (c_node (by omega) hS (by omega)) (fun q μ1 hq => ?_) (fun _ h => h)))
  obtain ⟨rfl, p1, n1, a1, s1, nd1⟩ := hq
  have a1 := eq_i a1
  refine MC.mono (c_next (by omega) p1.2.1 (by rw [s1, hs]; decide) (fun _ h => hT _ (p1.1.tr h))) (fun _ μ2 h2 => ?_) (fun _ h => h)
  obtain ⟨rfl, hS2⟩ := h2
  have p2 := p1.nx hS2
  have e2 := nx_at p1.2.1
  have g2 : ((nxS μ1).1 19).toInt = (μ1.1 19).toInt := rfl
  have d2 := pd p2
  refine MC.mono (hF _ _ h p2.2.1 (by omega) (by omega) (by omega) (fun _ h => hT _ (p2.1.tr h))) (fun r3 μ3 h3 => ?_) (fun _ h => h)
  obtain ⟨⟨q3, q4, q5⟩, q6⟩ := h3
  have p3 : PR (-1) 0 0 0 0 μ μ3 := p2.tr q3 rfl rfl rfl rfl
  have m3 := q3.2.2.2.1
  have hat3 := p3.2.1.at
  have l3 := q3.2.2.1
  have p4 := p3.A (g := 23) (i := (μ.1 19).toNatClampNeg) (x := r3) rfl rfl (Or.inl (by omega))
  have nd3 : ND μ3 (μ.1 19).toNatClampNeg 32 a (-1) (-1) (-1) (-1) (-1) := ND.rb (μ := nxS μ1) (show ND (nxS μ1) (μ.1 19).toNatClampNeg 32 a (-1) (-1) (-1) (-1) (-1) from nd1) q3.2.2.2.2.1 (by omega) (by omega)
  have nd4 := ND.pb (x := r3) nd3
  have hA4 : a = -1 ∨ G (mA1 μ3 23 (μ.1 19).toNatClampNeg r3) h (bt lo (μ.1 19).toInt) 0 a := by
    rcases ha with ha | ha
    · exact Or.inl ha
    · exact Or.inr ((ha.rb p3.2.2.2.2.1 (Int.le_refl _) (Or.inl (by omega))).put (Or.inr (by omega)))
  have lf4 : LSt 10 h ((μ.1 19).toInt + 1) (mA1 μ3 23 (μ.1 19).toNatClampNeg r3) r3 := by
    have w : LSt 10 h ((μ.1 19).toInt + 1) μ3 r3 := by
      have e : ((nxS μ1).1 19).toInt = (μ.1 19).toInt + 1 := by omega
      rw [e] at q5
      exact q5
    exact w.rb (e := (μ.1 19).toInt) (RB.A (Or.inr (by omega))) (Int.le_refl _) (Or.inl (by omega))
  have cv4 : CVs (mA1 μ3 23 (μ.1 19).toNatClampNeg r3) ((μ.1 19).toInt + 1) ((mA1 μ3 23 (μ.1 19).toNatClampNeg r3).1 19).toInt [r3] := by
    have e : ((nxS μ1).1 19).toInt = (μ.1 19).toInt + 1 := by omega
    rw [e] at q6
    exact (CVs.one q6).rb (e := (μ.1 19).toInt) (n := (μ3.1 19).toInt) (RB.A (Or.inr (by omega))) (Int.le_refl _) (Or.inl (by omega))
  -- METHODS or OVERRIDES: a state more
  have more : ∀ (ν : MS) (k : Int32) (s : Nat), (k = 34 ∧ s = 11) ∨ (k = 35 ∧ s = 12) → PR (-1) 0 0 0 0 μ ν → (ν.1 19).toInt + 2 * (μ.1 32).toInt ≤ (μ.1 19).toInt + 2 * (ν.1 32).toInt → (μ.1 19).toInt < (ν.1 19).toInt → ¬ srt ν = 203 →
      MC X W true d 294 [.ref P.1] P ν (fun _ ν1 => MC X W true d 319 [.ref P.1, .int k] P ν1 (fun r ν2 => PR (-1) 0 0 0 0 μ ν2 ∧ (ν2.1 19).toInt + 2 * (μ.1 32).toInt ≤ (μ.1 19).toInt + 2 * (ν2.1 32).toInt ∧ RB (-1) (ν.1 19).toInt ν ν2 ∧ (ν.1 19).toInt ≤ (ν2.1 19).toInt ∧ LSt s h ((μ.1 19).toInt + 1) ν2 r ∧ LCO ν2 (ν.1 19).toInt (ν2.1 19).toInt r) T) T := fun ν k s hk p hb hlt h3 => by
    refine MC.mono (c_next (by omega) p.2.1 h3 (fun _ h => hT _ (p.1.tr h))) (fun _ ν1 h1 => ?_) (fun _ h => h)
    obtain ⟨rfl, hS1⟩ := h1
    have p1 := p.nx hS1
    have e1 := nx_at p.2.1
    have g1 : ((nxS ν).1 19).toInt = (ν.1 19).toInt := rfl
    have d1 := pd p1
    refine MC.mono (hM _ _ h k s hk p1.2.1 (by omega) (by omega) (by omega) (fun _ h => hT _ (p1.1.tr h))) (fun r ν2 h2 => ?_) (fun _ h => h)
    obtain ⟨⟨w1, w2, m, w3⟩, w4⟩ := h2
    have l1 := w1.2.2.2.1
    refine ⟨p1.tr w1 rfl rfl rfl rfl, by omega, RB.tr (show RB (-1) _ ν (nxS ν) from RB.S) w1.2.2.2.2.1, by omega, ⟨m, w3.mono (fun y hy => hy.up (Nat.le_refl _) (by omega) (Int.le_refl _)) (fun _ _ => rfl)⟩, w4⟩
  have i4 : (μ.1 19).toInt < ((mA1 μ3 23 (μ.1 19).toNatClampNeg r3).1 19).toInt := by show _ < (μ3.1 19).toInt; omega
  have b4 : ((mA1 μ3 23 (μ.1 19).toNatClampNeg r3).1 19).toInt + 2 * (μ.1 32).toInt ≤ (μ.1 19).toInt + 2 * ((mA1 μ3 23 (μ.1 19).toNatClampNeg r3).1 32).toInt := by show (μ3.1 19).toInt + _ ≤ _ + 2 * (μ3.1 32).toInt; omega
  refine ⟨p3.mi rfl rfl h0 (by omega), MC.mono (c_is (by omega) p4.2.1) (fun r4 μ4 h4 => ?_) (fun _ h => h)⟩
  obtain ⟨rfl, rfl⟩ := h4
  -- OVERRIDES, then the end
  have over : ∀ (ν : MS) (m : Int32), PR (-1) 0 0 0 0 μ ν → (ν.1 19).toInt + 2 * (μ.1 32).toInt ≤ (μ.1 19).toInt + 2 * (ν.1 32).toInt → (μ.1 19).toInt < (ν.1 19).toInt → ND ν (μ.1 19).toNatClampNeg 32 a r3 m (-1) (-1) (-1) → (a = -1 ∨ G ν h (bt lo (μ.1 19).toInt) 0 a) → LSt 10 h ((μ.1 19).toInt + 1) ν r3 → LSt 11 h ((μ.1 19).toInt + 1) ν m → CVs ν ((μ.1 19).toInt + 1) (ν.1 19).toInt [m, r3] →
      MC X W true d 296 [.ref P.1, .int 37] P ν (fun r5 μ5 => ((r5 = 0 → MC X W true d 297 [.ref P.1, .int 10] P (mS1 μ5 34 (μ3.1 34)) (fun _ μ6 => LvQ lo (h + 1) μ (μ.1 19) μ6) T) ∧ (¬ r5 = 0 → MC X W true d 294 [.ref P.1] P μ5 (fun _ μ7 => MC X W true d 319 [.ref P.1, .int 35] P μ7 (fun r8 μ8 => (MI (μ.1 19) (μ8.2.2 25) ∧ MC X W true d 297 [.ref P.1, .int 10] P (mS1 (mA1 μ8 25 (μ.1 19).toNatClampNeg r8) 34 (μ3.1 34)) (fun _ μ9 => LvQ lo (h + 1) μ (μ.1 19) μ9) T)) T) T))) (fun _ => False) := fun ν m p hb hlt hN hA hf hm hcv => by
    refine MC.mono (c_is (by omega) p.2.1) (fun r5 μ5 h5 => ?_) (fun _ h => h)
    obtain ⟨rfl, rfl⟩ := h5
    refine ⟨fun _ => tail μ5 r3 m (-1) p hb hlt hN hA hf hm LSt.nil (hcv.more _) _, fun h5 => MC.mono (more μ5 35 12 (Or.inr ⟨rfl, rfl⟩) p hb hlt (by rw [is_t h5]; decide)) (fun _ μ7 h7 => MC.mono h7 (fun r8 μ8 h8 => ?_) (fun _ h => h)) (fun _ h => h)⟩
    obtain ⟨w1, w2, w3, w4, w5, w7⟩ := h8
    have at8 := w1.2.1.at
    have w6 := w1.A (g := 25) (i := (μ.1 19).toNatClampNeg) (x := r8) rfl rfl (Or.inl (by omega))
    have rr : RB (μ.1 19).toInt (μ5.1 19).toInt μ5 (mA1 μ8 25 (μ.1 19).toNatClampNeg r8) := RB.tr (w3.ex (by omega)) (RB.A (Or.inr (by omega)))
    refine ⟨w1.mi rfl rfl h0 (by omega), tail _ r3 m r8 w6 w2 (by show _ < (μ8.1 19).toInt; omega) (ND.pd (hN.rb w3 (by omega) (by omega))) ?_ (hf.rb rr w4 (Or.inl (by omega))) (hm.rb rr w4 (Or.inl (by omega))) (w5.rb (e := (μ.1 19).toInt) (RB.A (Or.inr (by omega))) (Int.le_refl _) (Or.inl (by omega))) ((hcv.add w3 (Int.le_refl _) (Or.inl (by omega)) (by omega) w4 w7).rb (e := (μ.1 19).toInt) (n := (μ8.1 19).toInt) (RB.A (Or.inr (by omega))) (Int.le_refl _) (Or.inl (by omega))) _⟩
    rcases hA with hA | hA
    · exact Or.inl hA
    · exact Or.inr ((hA.rb w3 (by omega) (Or.inl (by omega))).put (Or.inr (by omega)))
  refine ⟨fun _ => over _ (-1) p4 b4 i4 nd4 hA4 lf4 LSt.nil (cv4.more _), fun h4 => MC.mono (more _ 34 11 (Or.inl ⟨rfl, rfl⟩) p4 b4 i4 (by rw [is_t h4]; decide)) (fun _ μ10 h10 => MC.mono h10 (fun r11 μ11 h11 => ?_) (fun _ h => h)) (fun _ h => h)⟩
  obtain ⟨w1, w2, w3, w4, w5, w7⟩ := h11
  have at11 := w1.2.1.at
  have g4 : ((mA1 μ3 23 (μ.1 19).toNatClampNeg r3).1 19).toInt = (μ3.1 19).toInt := rfl
  have w6 := w1.A (g := 24) (i := (μ.1 19).toNatClampNeg) (x := r11) rfl rfl (Or.inl (by omega))
  have rr : RB (μ.1 19).toInt ((mA1 μ3 23 (μ.1 19).toNatClampNeg r3).1 19).toInt (mA1 μ3 23 (μ.1 19).toNatClampNeg r3) (mA1 μ11 24 (μ.1 19).toNatClampNeg r11) := RB.tr (w3.ex (by omega)) (RB.A (Or.inr (by omega)))
  refine ⟨w1.mi rfl rfl h0 (by omega), over _ r11 w6 w2 (by show _ < (μ11.1 19).toInt; omega) (ND.pc (nd4.rb w3 (by omega) (by omega))) ?_ (lf4.rb rr w4 (Or.inl (by omega))) (w5.rb (e := (μ.1 19).toInt) (RB.A (Or.inr (by omega))) (Int.le_refl _) (Or.inl (by omega))) ((cv4.add w3 (Int.le_refl _) (Or.inl (by omega)) (by show _ ≤ (μ3.1 19).toInt; omega) w4 w7).rb (e := (μ.1 19).toInt) (n := (μ11.1 19).toInt) (RB.A (Or.inr (by omega))) (Int.le_refl _) (Or.inl (by omega)))⟩
  rcases hA4 with hA | hA
  · exact Or.inl hA
  · exact Or.inr ((hA.rb w3 (by omega) (Or.inl (by omega))).put (Or.inr (by omega)))
end PRU
