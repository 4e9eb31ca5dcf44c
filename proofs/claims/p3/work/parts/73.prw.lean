/-! contracts of the reference: METHODS and OVERRIDES -/
section PRW
variable {X : ev_X} {W : Nat → Prop} {d : Nat} {P : MP}
theorem st_members (hS1 : NodC X W P 309 8 10 1 d) : MemC X W P (d + 1) := fun μ T h9 k s hk hS hd hh hn hT => by
  have h0 := hS.2.2.2.2.1
  have b37 := hS.2.2.2.2.2.1
  have b39 := hS.2.2.2.2.2.2.2.1
  have pd : ∀ {ν : MS}, PR (-1) 0 0 0 0 μ ν → psT ν = psT μ ∧ hiT ν = hiT μ := fun {ν} p => by
    obtain ⟨-, -, -, -, -, e1, -, e3, -⟩ := p
    unfold psT hiT
    rw [e1, e3]
    exact ⟨by omega, by omega⟩
  have hpos : 0 ≤ psT μ := by unfold psT; omega
  have hhp : 0 ≤ hiT μ := by unfold hiT; omega
  obtain ⟨h, rfl⟩ : ∃ h, h9 = h + 1 := ⟨h9 - 1, by omega⟩
  have key : ∀ (j : Nat) (x2 x3 : Int32) (ν : MS), ((μ.1 8).toInt - (ν.1 32).toInt).toNat < j → PR (-1) 0 0 0 0 μ ν → (ν.1 19).toInt + 2 * (μ.1 32).toInt ≤ (μ.1 19).toInt + 2 * (ν.1 32).toInt → (x2 = -1 ∨ (0 ≤ x2.toInt ∧ LI s (h + 1) (μ.1 19).toInt ν x2 x3)) → OC ν (μ.1 19).toInt (ν.1 19).toInt x2 x3 →
      ME X W true d 319 4 [(0, .ref P.1), (1, .int k), (2, .int x2), (3, .int x3)] [] P ν (fun r μ1 => PL s (h + 1) μ r μ1 ∧ LCO μ1 (μ.1 19).toInt (μ1.1 19).toInt r) T := by
    intro j
    induction j with
    | zero => intro x2 x3 ν hj; omega
    | succ j ih =>
      intro x2 x3 ν hj p b1 hL hC
      have e8 := eq_i (p.1.1 8 rfl)
      have t8 := p.2.1.2.2.1.2
      have hat := p.2.1.at
      have l0 := p.2.2.2.1
      have dd := pd p
      refine v_members_4 _ _ _ (MC.mono (c_is (by omega) p.2.1) (fun r1 ν1 h1 => ?_) (fun _ h => h))
      obtain ⟨rfl, rfl⟩ := h1
      refine ⟨fun _ => ⟨⟨p, b1, ?_⟩, hC.l⟩, fun hs1 => MC.mono (c_line (by omega) p.2.1.1 hat.1 hat.2) (fun r2 ν2 h2 => ?_) (fun _ h => h)⟩
      · rcases hL with rfl | ⟨-, hL⟩
        · exact ⟨0, rfl⟩
        · exact hL.done
      subst h2
      have p2 : PR (-1) 0 0 0 0 μ (mS1 ν2 34 r2) := p.s34
      have g2 : ((mS1 ν2 34 r2).1 19).toInt = (ν2.1 19).toInt := rfl
      refine MC.mono (c_node (by omega) p2.2.1 (by omega)) (fun r3 ν3 h3 => ?_) (fun _ h => h)
      obtain ⟨rfl, q3, n3, a3, s3, nd3⟩ := h3
      have a3 := eq_i a3
      have a2 : ((mS1 ν2 34 r2).1 32).toInt = (ν2.1 32).toInt := rfl
      have p3 : PR (-1) 0 0 0 0 μ ν3 := p2.tr q3 rfl rfl rfl rfl
      refine MC.mono (c_name (by omega) p3.2.1 (fun _ h => hT _ (p3.1.tr h))) (fun v4 ν4 h4 => ?_) (fun _ h => h)
      obtain ⟨-, rfl, hS4⟩ := h4
      have p4 := p3.nx hS4
      have e4 := nx_at p3.2.1
      have g4 : ((nxS ν3).1 19).toInt = (ν3.1 19).toInt := rfl
      have hy := @ic ((mS1 ν2 34 r2).1 19)
      have hlt : (μ.1 19).toInt ≤ (((mS1 ν2 34 r2).1 19).toNatClampNeg : Int) := by omega
      have p5 := p4.A (g := 22) (i := ((mS1 ν2 34 r2).1 19).toNatClampNeg) (x := v4) rfl rfl (Or.inl hlt)
      have nd5 : ND (mA1 (nxS ν3) 22 ((mS1 ν2 34 r2).1 19).toNatClampNeg v4) ((mS1 ν2 34 r2).1 19).toNatClampNeg k v4 (-1) (-1) (-1) (-1) (-1) := ND.pa (show ND (nxS ν3) _ k (-1) (-1) (-1) (-1) (-1) (-1) from nd3)
      have g5 : ((mA1 (nxS ν3) 22 ((mS1 ν2 34 r2).1 19).toNatClampNeg v4).1 19).toInt = (ν3.1 19).toInt := rfl
      have a5 : ((mA1 (nxS ν3) 22 ((mS1 ν2 34 r2).1 19).toNatClampNeg v4).1 32).toInt = ((nxS ν3).1 32).toInt := rfl
      have rb5 : RB (-1) (ν2.1 19).toInt ν2 (mA1 (nxS ν3) 22 ((mS1 ν2 34 r2).1 19).toNatClampNeg v4) := RB.tr (show RB (-1) _ ν2 (mS1 ν2 34 r2) from RB.S) (RB.tr (show RB (-1) (ν2.1 19).toInt (mS1 ν2 34 r2) ν3 from q3.2.2.2.2.1) (RB.tr (show RB (-1) _ ν3 (nxS ν3) from RB.S) (RB.A (Or.inl (by omega)))))
      -- the SEMI behind it, and the link
      have link : ∀ (ν6 : MS) (b c : Int32), PR (-1) 0 0 0 0 μ ν6 → (ν6.1 19).toInt + 2 * (μ.1 32).toInt ≤ (μ.1 19).toInt + 2 * (ν6.1 32).toInt → (ν2.1 32).toInt < (ν6.1 32).toInt → (ν3.1 19).toInt ≤ (ν6.1 19).toInt → RB (-1) (ν2.1 19).toInt ν2 ν6 → ND ν6 ((mS1 ν2 34 r2).1 19).toNatClampNeg k v4 b c (-1) (-1) (-1) →
          FO (G ν6 h (fun j => bt (ν2.1 19).toInt (ν6.1 19).toInt j ∧ j ≠ ((mS1 ν2 34 r2).1 19).toNatClampNeg)) (ν6.2.1 27) (fW k.toNatClampNeg 1) b → FO (G ν6 h (fun j => bt (ν2.1 19).toInt (ν6.1 19).toInt j ∧ j ≠ ((mS1 ν2 34 r2).1 19).toNatClampNeg)) (ν6.2.1 27) (fW k.toNatClampNeg 2) c → ∀ {H : List Int32}, CVs ν6 ((ν2.1 19).toInt + 1) (ν6.1 19).toInt H → AllP (fun x => 0 ≤ x.toInt → Par ν6 ((mS1 ν2 34 r2).1 19).toNatClampNeg x.toNatClampNeg) H →
          MC X W true d 297 [.ref P.1, .int 107] P ν6 (fun r9 μ9 => (((0 : Int) ≤ x2.toInt → (MI x3 (μ9.2.2 27) ∧ ME X W true d 319 4 [(0, .ref P.1), (1, .int k), (2, .int x2), (3, .int ((mS1 ν2 34 r2).1 19))] [] P (mA1 μ9 27 x3.toNatClampNeg ((mS1 ν2 34 r2).1 19)) (fun r μ1 => PL s (h + 1) μ r μ1 ∧ LCO μ1 (μ.1 19).toInt (μ1.1 19).toInt r) T)) ∧ (x2.toInt < (0 : Int) → ME X W true d 319 4 [(0, .ref P.1), (1, .int k), (2, .int ((mS1 ν2 34 r2).1 19)), (3, .int ((mS1 ν2 34 r2).1 19))] [] P μ9 (fun r μ1 => PL s (h + 1) μ r μ1 ∧ LCO μ1 (μ.1 19).toInt (μ1.1 19).toInt r) T))) T := fun ν6 b c p6 hb hat6 hlt6 hr6 hN6 f1 f2 {H} cv cp => by
        refine MC.mono (c_expect (by omega) p6.2.1 (by decide) (fun _ h => hT _ (p6.1.tr h))) (fun _ μ9 h9 => ?_) (fun _ h => h)
        obtain ⟨-, rfl, hS9⟩ := h9
        have p9 := p6.nx hS9
        have e9 := nx_at p6.2.1
        have t9 := p9.2.1.2.2.1.2
        have e98 := eq_i (p9.1.1 8 rfl)
        have at9 := p9.2.1.at
        have g9 : ((nxS ν6).1 19).toInt = (ν6.1 19).toInt := rfl
        have w0 : fW k.toNatClampNeg 0 = (0, 0) ∧ fW k.toNatClampNeg 3 = (0, 0) ∧ fW k.toNatClampNeg 4 = (0, 0) ∧ sK s k = true := by rcases hk with ⟨rfl, rfl⟩ | ⟨rfl, rfl⟩ <;> decide
        have eG : G ν6 (h + 1) (bt (ν2.1 19).toInt (ν6.1 19).toInt) s ((mS1 ν2 34 r2).1 19) := G.mk (by omega) (by omega) (by omega) hN6 w0.2.2.2 (by rw [w0.1]; exact True.intro) f1 f2 (by rw [w0.2.1]; exact True.intro) (by rw [w0.2.2.1]; exact True.intro)
        have rr : RB (-1) (ν2.1 19).toInt ν2 (nxS ν6) := RB.tr hr6 (show RB (-1) _ ν6 (nxS ν6) from RB.S)
        have hq0 : 0 ≤ ((mS1 ν2 34 r2).1 19).toInt := by omega
        have eC : CO ν6 (ν2.1 19).toInt (ν6.1 19).toInt ((mS1 ν2 34 r2).1 19) := CO.fin (s := (mS1 ν2 34 r2).1 19) cv (by omega) cp (by omega)
        have eC9 : CO (nxS ν6) (ν2.1 19).toInt ((nxS ν6).1 19).toInt ((mS1 ν2 34 r2).1 19) := eC.rb (e := -1) (n := (ν6.1 19).toInt) (show RB (-1) _ ν6 (nxS ν6) from RB.S) (Int.le_refl _) (Or.inl (by omega))
        have hC9 : OC (nxS ν6) (μ.1 19).toInt (ν2.1 19).toInt x2 x3 := hC.rb rr (Int.le_refl _) (Or.inl (by omega))
        have eG9 : G (nxS ν6) (h + 1) (bt (ν2.1 19).toInt ((nxS ν6).1 19).toInt) s ((mS1 ν2 34 r2).1 19) := G.S eG
        refine ⟨fun hx => ?_, fun hx => ih _ _ _ (by omega) p9 (by omega) (Or.inr ⟨by omega, ?_⟩) ?_⟩
        · rcases hL with rfl | ⟨-, hL⟩
          · exact absurd hx (by decide)
          · obtain ⟨w1, w2, w3⟩ := hL.in
            have hx3 := @ic x3
            have hl3 : (nxS ν6).2.1 27 x3.toNatClampNeg = -1 := by
              obtain ⟨_, _, _, _, _, _, hl3⟩ := id hL
              rw [rr 27 (by omega) (by omega) _ (by omega) (by omega)]; exact hl3
            have hLs := hL.snoc rr (by omega) h0 eG9 hN6.2.2.2.2.2.2
            exact ⟨p9.mi rfl rfl (by omega) (by omega), ih _ _ _ (by show ((μ.1 8).toInt - ((nxS ν6).1 32).toInt).toNat < j; omega) (p9.A (g := 27) (i := x3.toNatClampNeg) rfl rfl (Or.inl (by omega))) (by show (ν6.1 19).toInt + _ ≤ _ + 2 * ((nxS ν6).1 32).toInt; omega) (Or.inr ⟨hx, hLs⟩) (hC9.add w1 (by omega) (by omega) hx eC9 hq0 (show (ν2.1 19).toInt ≤ ((nxS ν6).1 19).toInt by omega) hl3)⟩
        · exact LI.one (eG9.up (Nat.le_refl _) (by omega) (Int.le_refl _)) (by omega) hN6.2.2.2.2.2.2
        · rcases hC9 with ⟨-, w⟩ | ⟨w, -⟩
          · exact OC.one (eC9.ahead w (by omega)) (by omega)
          · omega
      -- BECOMES and a QNAME
      have becomes : ∀ (ν6 : MS) (b : Int32), PR (-1) 0 0 0 0 μ ν6 → (ν6.1 19).toInt + 2 * (μ.1 32).toInt ≤ (μ.1 19).toInt + 2 * (ν6.1 32).toInt → (ν2.1 32).toInt < (ν6.1 32).toInt → (ν3.1 19).toInt ≤ (ν6.1 19).toInt → RB (-1) (ν2.1 19).toInt ν2 ν6 → ND ν6 ((mS1 ν2 34 r2).1 19).toNatClampNeg k v4 b (-1) (-1) (-1) (-1) →
          (k = 34 → G ν6 h (bt (ν3.1 19).toInt (ν6.1 19).toInt) 8 b ∧ ν6.2.1 27 b.toNatClampNeg = -1) → ∀ {H : List Int32}, CVs ν6 ((ν2.1 19).toInt + 1) (ν6.1 19).toInt H → (∀ (ζ : MS) (c : Int32), ND ζ ((mS1 ν2 34 r2).1 19).toNatClampNeg k v4 b c (-1) (-1) (-1) → AllP (fun x => 0 ≤ x.toInt → Par ζ ((mS1 ν2 34 r2).1 19).toNatClampNeg x.toNatClampNeg) H) →
          MC X W true d 297 [.ref P.1, .int 111] P ν6 (fun _ μ5 => MC X W true d 305 [.ref P.1] P μ5 (fun r6 μ6 => (MI ((mS1 ν2 34 r2).1 19) (μ6.2.2 24) ∧ MC X W true d 297 [.ref P.1, .int 107] P (mA1 μ6 24 ((mS1 ν2 34 r2).1 19).toNatClampNeg r6) (fun r9 μ9 => (((0 : Int) ≤ x2.toInt → (MI x3 (μ9.2.2 27) ∧ ME X W true d 319 4 [(0, .ref P.1), (1, .int k), (2, .int x2), (3, .int ((mS1 ν2 34 r2).1 19))] [] P (mA1 μ9 27 x3.toNatClampNeg ((mS1 ν2 34 r2).1 19)) (fun r μ1 => PL s (h + 1) μ r μ1 ∧ LCO μ1 (μ.1 19).toInt (μ1.1 19).toInt r) T)) ∧ (x2.toInt < (0 : Int) → ME X W true d 319 4 [(0, .ref P.1), (1, .int k), (2, .int ((mS1 ν2 34 r2).1 19)), (3, .int ((mS1 ν2 34 r2).1 19))] [] P μ9 (fun r μ1 => PL s (h + 1) μ r μ1 ∧ LCO μ1 (μ.1 19).toInt (μ1.1 19).toInt r) T))) T)) T) T := fun ν6 b p6 hb hat6 hlt6 hr6 hN6 hG6 {H} cv cp => by
        refine MC.mono (c_expect (by omega) p6.2.1 (by decide) (fun _ h => hT _ (p6.1.tr h))) (fun _ μ5 h5 => ?_) (fun _ h => h)
        obtain ⟨-, rfl, hS5⟩ := h5
        have p7 := p6.nx hS5
        have e7 := nx_at p6.2.1
        have g7 : ((nxS ν6).1 19).toInt = (ν6.1 19).toInt := rfl
        refine MC.mono (c_qname (by omega) p7.2.1 (by omega) (fun _ h => hT _ (p7.1.tr h))) (fun r6 μ6 h6 => ?_) (fun _ h => h)
        obtain ⟨⟨z1, z2, z3, z4, z5⟩, z6, z7⟩ := h6
        have p8 : PR (-1) 0 0 0 0 μ μ6 := p7.tr z1 rfl rfl rfl rfl
        have at8 := p8.2.1.at
        have l8 := z1.2.2.2.1
        have p9 := p8.A (g := 24) (i := ((mS1 ν2 34 r2).1 19).toNatClampNeg) (x := r6) rfl rfl (Or.inl hlt)
        have r68 : RB (-1) (ν6.1 19).toInt ν6 μ6 := RB.tr (show RB (-1) _ ν6 (nxS ν6) from RB.S) z1.2.2.2.2.1
        have rA : RB ((mS1 ν2 34 r2).1 19).toInt (μ6.1 19).toInt μ6 (mA1 μ6 24 ((mS1 ν2 34 r2).1 19).toNatClampNeg r6) := RB.A (Or.inr (by omega))
        refine ⟨p8.mi rfl rfl (by omega) (by omega), link _ b r6 p9 (by show (μ6.1 19).toInt + _ ≤ _ + 2 * (μ6.1 32).toInt; omega) (by show _ < (μ6.1 32).toInt; omega) (by show _ ≤ (μ6.1 19).toInt; omega) (RB.tr hr6 (RB.tr (r68.lo (by omega)) (RB.A (Or.inl (by omega))))) (ND.pc (hN6.rb r68 (by omega) (by omega))) ?_ ?_ ((cv.ns r68 (Int.le_refl _) (Or.inl (by omega)) (show (ν6.1 19).toInt ≤ (μ6.1 19).toInt by omega) z7).rb rA (Int.le_refl _) (Or.inl (by omega))) (cp _ _ (ND.pc (hN6.rb r68 (by omega) (by omega))))⟩
        · rcases hk with ⟨rfl, rfl⟩ | ⟨rfl, rfl⟩
          · obtain ⟨b1', b2', b3'⟩ := (hG6 rfl).1.in
            have hcb := @ic b
            exact ⟨((hG6 rfl).1.rb r68 (Int.le_refl _) (Or.inl (by omega))).toR (Nat.le_refl _) (by omega) (by show _ ≤ (μ6.1 19).toInt; omega) (Or.inl (by omega)) rA (by omega) (Or.inl (by omega)), by rw [row_off rfl, r68 27 (by omega) (by omega) _ (by omega) (by omega)]; exact (hG6 rfl).2⟩
          · exact True.intro
        · have gq : G (mA1 μ6 24 ((mS1 ν2 34 r2).1 19).toNatClampNeg r6) h (fun j => bt (ν2.1 19).toInt ((mA1 μ6 24 ((mS1 ν2 34 r2).1 19).toNatClampNeg r6).1 19).toInt j ∧ j ≠ ((mS1 ν2 34 r2).1 19).toNatClampNeg) 7 r6 := z4.toR (by omega) (by omega) (Int.le_refl _) (Or.inl (by omega)) rA (Int.le_refl _) (Or.inl (by omega))
          rcases hk with ⟨rfl, rfl⟩ | ⟨rfl, rfl⟩
          · exact Or.inr ⟨gq, by rw [row_off rfl]; exact z5⟩
          · exact ⟨gq, by rw [row_off rfl]; exact z5⟩
      refine ⟨p4.mi rfl rfl (by omega) (by omega), fun h34 => ⟨fun h35 => becomes _ (-1) p5 (by omega) (by omega) (by omega) rb5 nd5 (fun h => absurd h h34) (H := []) (CVs.nil (by omega)) (fun _ _ _ => True.intro), fun h35 => ?_⟩, fun h34 => ?_⟩
      · rcases hk with ⟨hk, -⟩ | ⟨hk, -⟩
        · exact absurd hk h34
        · exact absurd hk h35
      · have h35 : ¬ k = 35 := by rw [h34]; decide
        have d5 := pd p5
        refine MC.mono (hS1 _ _ h p5.2.1 (by omega) (by omega) (by omega) (fun _ h => hT _ (p5.1.tr h))) (fun r13 μ13 h13 => ?_) (fun _ h => h)
        obtain ⟨⟨z1, z2, z3, z4, z5⟩, zc⟩ := h13
        have p13 : PR (-1) 0 0 0 0 μ μ13 := p5.tr z1 rfl rfl rfl rfl
        have at13 := p13.2.1.at
        have l13 := z1.2.2.2.1
        have p14 := p13.A (g := 23) (i := ((mS1 ν2 34 r2).1 19).toNatClampNeg) (x := r13) rfl rfl (Or.inl hlt)
        have rA : RB ((mS1 ν2 34 r2).1 19).toInt (μ13.1 19).toInt μ13 (mA1 μ13 23 ((mS1 ν2 34 r2).1 19).toNatClampNeg r13) := RB.A (Or.inr (by omega))
        have r14 : RB (-1) (ν2.1 19).toInt ν2 (mA1 μ13 23 ((mS1 ν2 34 r2).1 19).toNatClampNeg r13) := RB.tr rb5 (RB.tr (z1.2.2.2.2.1.lo (by omega)) (RB.A (Or.inl (by omega))))
        have nd14 : ND (mA1 μ13 23 ((mS1 ν2 34 r2).1 19).toNatClampNeg r13) ((mS1 ν2 34 r2).1 19).toNatClampNeg k v4 r13 (-1) (-1) (-1) (-1) := ND.pb (nd5.rb z1.2.2.2.2.1 (by omega) (by omega))
        have g14 : ((mA1 μ13 23 ((mS1 ν2 34 r2).1 19).toNatClampNeg r13).1 19).toInt = (μ13.1 19).toInt := rfl
        have a14 : ((mA1 μ13 23 ((mS1 ν2 34 r2).1 19).toNatClampNeg r13).1 32).toInt = (μ13.1 32).toInt := rfl
        have cv14 : CVs (mA1 μ13 23 ((mS1 ν2 34 r2).1 19).toNatClampNeg r13) ((ν2.1 19).toInt + 1) ((mA1 μ13 23 ((mS1 ν2 34 r2).1 19).toNatClampNeg r13).1 19).toInt [r13] := (CVs.one (by rw [show (ν2.1 19).toInt + 1 = ((mA1 (nxS ν3) 22 ((mS1 ν2 34 r2).1 19).toNatClampNeg v4).1 19).toInt by omega]; exact LCO.of z4.in.1 zc)).rb rA (Int.le_refl _) (Or.inl (by omega))
        have cp14 : ∀ (ζ : MS) (c : Int32), ND ζ ((mS1 ν2 34 r2).1 19).toNatClampNeg k v4 r13 c (-1) (-1) (-1) → AllP (fun x => 0 ≤ x.toInt → Par ζ ((mS1 ν2 34 r2).1 19).toNatClampNeg x.toNatClampNeg) [r13] := fun ζ c hN => ⟨fun h => Par.fb hN (by rw [h34]; decide) h, True.intro⟩
        have gs : G (mA1 μ13 23 ((mS1 ν2 34 r2).1 19).toNatClampNeg r13) h (bt (ν3.1 19).toInt ((mA1 μ13 23 ((mS1 ν2 34 r2).1 19).toNatClampNeg r13).1 19).toInt) 8 r13 := z4.put (Or.inl (by omega))
        refine ⟨p13.mi rfl rfl (by omega) (by omega), fun h => absurd h h35, fun _ => MC.mono (c_is (by omega) p14.2.1) (fun r17 μ17 h17 => ?_) (fun _ h => h)⟩
        obtain ⟨rfl, rfl⟩ := h17
        refine ⟨fun _ => link _ r13 (-1) p14 (by omega) (by omega) (by omega) r14 nd14 ?_ ?_ cv14 (cp14 _ _ nd14), fun _ => becomes _ r13 p14 (by omega) (by omega) (by omega) r14 nd14 (fun _ => ⟨gs, by rw [row_off rfl]; exact z5⟩) cv14 cp14⟩
        · rw [h34]; exact ⟨gs.toR (Nat.le_refl _) (by omega) (Int.le_refl _) (Or.inl (by omega)) (RB.rf (e := -1)) (Int.le_refl _) (Or.inl (by omega)), by rw [row_off rfl]; exact z5⟩
        · rw [h34]; exact Or.inl rfl
  refine me_meth (by omega) rfl (v_members_0 _ (key _ _ _ _ (Nat.lt_succ_self _) (PR.rf hS) (by omega) (Or.inl rfl) (Or.inl ⟨rfl, NS.nil (Int.le_refl _)⟩)))
end PRW
