/-! contracts of the reference: arms, HANDLERs, BRANCHes, rows of statements -/
section PSI
variable {X : ev_X} {W : Nat → Prop} {d : Nat} {P : MP}
theorem st_arms (hE : XC X W P 332 [] 1 20 12 0 0 d) (hSt : SL X W P 321 [] 3 19 11 d) : ArC X W P (d + 1) := fun μ T h9 hS hd hh hn hT => by
  have hp := px0 hS
  have h0 := hS.2.2.2.2.1
  have at0 := hS.at
  obtain ⟨h, rfl⟩ : ∃ h, h9 = h + 1 := ⟨h9 - 1, by omega⟩
  have fin9 : ∀ (f x2 x4 : Int32) (ν : MS), TR (-1) 0 0 0 0 1 μ ν → OL 13 (h + 1) (μ.1 19).toInt ν f x2 → 0 ≤ x2.toInt → ME X W true d 323 9 [(0, .ref P.1), (1, .int f), (2, .int x2), (3, .int 0), (4, .int x4)] [] P ν (fun r μ1 => TR (-1) 0 0 0 0 0 μ μ1 ∧ ¬ r = -1 ∧ ∃ m, Lst (G μ1 (h + 1) (bt (μ.1 19).toInt (μ1.1 19).toInt) 13) (μ1.2.1 27) m r) T := fun f x2 x4 ν pν hL hx => by
    refine v_arms_9 _ _ _ _ ⟨fun _ => MC.mono (t_expect (by omega) pν.ps (by decide) (fun _ h => hT _ (pν.1.1.tr h))) (fun _ κ hk => ?_) (fun _ h => h), fun h => absurd rfl h⟩
    obtain ⟨m1, m2, m3⟩ := hk
    have l := hL.tr m1 (Or.inl (by omega))
    exact ⟨pν.tr m1 (Or.inl (by decide)) rfl rfl rfl rfl (by omega), fun e => by have := (l.in hx).1; rw [e] at this; exact absurd this (by decide), l.lst⟩
  have key : ∀ (j : Nat) (f x2 x3 x4 : Int32) (ν : MS), ((μ.1 8).toInt - (ν.1 32).toInt).toNat < j → TR (-1) 0 0 0 0 0 μ ν → OL 13 (h + 1) (μ.1 19).toInt ν f x2 → ¬ x3 = 0 → ME X W true d 323 9 [(0, .ref P.1), (1, .int f), (2, .int x2), (3, .int x3), (4, .int x4)] [] P ν (fun r μ1 => TR (-1) 0 0 0 0 0 μ μ1 ∧ ¬ r = -1 ∧ ∃ m, Lst (G μ1 (h + 1) (bt (μ.1 19).toInt (μ1.1 19).toInt) 13) (μ1.2.1 27) m r) T := by
    intro j
    induction j with
    | zero => intro f x2 x3 x4 ν hj; omega
    | succ j ih =>
      intro f x2 x3 x4 ν hj pν hL hx3
      have e8 := eq_i (pν.1.1.1 8 rfl)
      have t8 := pν.ps.2.2.1.2
      have at1 := pν.ps.at
      have uν := pν.2
      have xν := pν.px
      have hTν : ∀ μ1, kf SPA RPA ν μ1 → T μ1 := fun _ h => hT _ (pν.1.1.tr h)
      refine v_arms_9 _ _ _ _ ⟨fun h => absurd h hx3, fun _ => MC.mono (t_node (by omega) pν.ps (by omega)) (fun s κ0 hk => ?_) (fun _ h => h)⟩
      obtain ⟨q1, ⟨q2, s0⟩, q3, q4, q5, q6⟩ := hk
      have hcs := @ic s
      have s9 : s.toInt < 15990 := by omega
      have s106a : ∀ (f' y3 y4 : Int32) (κ : MS), y3 = 0 → TR (-1) 0 0 0 0 1 μ κ → OL 13 (h + 1) (μ.1 19).toInt κ f' s → ME X W true d 323 106 [(0, .ref P.1), (1, .int f'), (2, .int s), (3, .int y3), (4, .int y4), (5, .int s)] [] P κ (fun r μ1 => TR (-1) 0 0 0 0 0 μ μ1 ∧ ¬ r = -1 ∧ ∃ m, Lst (G μ1 (h + 1) (bt (μ.1 19).toInt (μ1.1 19).toInt) 13) (μ1.2.1 27) m r) T := fun f' y3 y4 κ h3 pκ kL => by
        subst h3
        refine v_arms_106 _ _ _ _ _ (MC.mono (c_is (by omega) pκ.ps) (fun r κ1 hk => ?_) (fun _ h => h))
        obtain ⟨rfl, rfl⟩ := hk
        exact ⟨fun _ => v_arms_122 _ _ _ _ _ (fin9 f' s _ κ1 pκ kL s0), fun h => absurd rfl h⟩
      have s106b : ∀ (f' y4 : Int32) (κ : MS), TR (-1) 0 0 0 0 1 μ κ → (ν.1 32).toInt < (κ.1 32).toInt → ¬ srt κ = 203 → OL 13 (h + 1) (μ.1 19).toInt κ f' s → ME X W true d 323 106 [(0, .ref P.1), (1, .int f'), (2, .int s), (3, .int 1), (4, .int y4), (5, .int s)] [] P κ (fun r μ1 => TR (-1) 0 0 0 0 0 μ μ1 ∧ ¬ r = -1 ∧ ∃ m, Lst (G μ1 (h + 1) (bt (μ.1 19).toInt (μ1.1 19).toInt) 13) (μ1.2.1 27) m r) T := fun f' y4 κ pκ ha hs3 kL => by
        refine v_arms_106 _ _ _ _ _ (MC.mono (c_is (by omega) pκ.ps) (fun r κ1 hk => ?_) (fun _ h => h))
        obtain ⟨rfl, rfl⟩ := hk
        refine ⟨fun h => absurd h (by decide), fun _ => MC.mono (t_next (by omega) pκ.ps hs3 (fun _ h => hT _ (pκ.1.1.tr h))) (fun _ κ2 hk => ?_) (fun _ h => h)⟩
        obtain ⟨m1, m2, m3⟩ := hk
        exact v_arms_122 _ _ _ _ _ (ih f' s 1 _ κ2 (by omega) (pκ.tr m1 (Or.inl (by decide)) rfl rfl rfl rfl (by omega)) (kL.tr m1 (Or.inl (by omega))) (by decide))
      have s74 : ∀ (f' : Int32) (κ : MS), TR (-1) 0 0 0 0 1 μ κ → (x4 = 0 → (ν.1 32).toInt < (κ.1 32).toInt) → OL 13 (h + 1) (μ.1 19).toInt κ f' s → ME X W true d 323 74 [(0, .ref P.1), (1, .int f'), (2, .int x2), (3, .int x3), (4, .int x4), (5, .int s)] [] P κ (fun r μ1 => TR (-1) 0 0 0 0 0 μ μ1 ∧ ¬ r = -1 ∧ ∃ m, Lst (G μ1 (h + 1) (bt (μ.1 19).toInt (μ1.1 19).toInt) 13) (μ1.2.1 27) m r) T := fun f' κ pκ ha kL => by
        refine v_arms_74 _ _ _ _ _ ⟨fun _ => v_arms_104 _ _ _ _ _ (s106a f' 0 _ κ rfl pκ kL), fun h4 => MC.mono (c_is (by omega) pκ.ps) (fun r κ1 hk => ?_) (fun _ h => h)⟩
        obtain ⟨rfl, rfl⟩ := hk
        refine ⟨fun h1 => v_arms_100 _ _ _ _ _ (s106b f' _ κ1 pκ (ha h4) (by rw [is_t h1]; decide) kL), fun _ => MC.mono (c_is (by omega) pκ.ps) (fun r κ2 hk => ?_) (fun _ h => h)⟩
        obtain ⟨rfl, rfl⟩ := hk
        exact ⟨fun _ => v_arms_104 _ _ _ _ _ (s106a f' 0 _ κ2 rfl pκ kL), fun h1 => v_arms_100 _ _ _ _ _ (s106b f' _ κ2 pκ (ha h4) (by rw [is_t h1]; decide) kL)⟩
      have s45 : ∀ (a : Int32) (κ : MS), TR (-1) 0 0 0 0 1 ν κ → ND κ s.toNatClampNeg 45 a (-1) (-1) (-1) (-1) (-1) → s.toInt < (κ.1 19).toInt → (a = -1 ∨ Kd κ h s.toInt s 1 a) → (x4 = 0 → (ν.1 32).toInt < (κ.1 32).toInt) → ME X W true d 323 45 [(0, .ref P.1), (1, .int f), (2, .int x2), (3, .int x3), (4, .int x4), (5, .int s)] [] P κ (fun r μ1 => TR (-1) 0 0 0 0 0 μ μ1 ∧ ¬ r = -1 ∧ ∃ m, Lst (G μ1 (h + 1) (bt (μ.1 19).toInt (μ1.1 19).toInt) 13) (μ1.2.1 27) m r) T := fun a κ p0 nd0 lt0 hK ha => by
        refine v_arms_45 _ _ _ _ _ ?_
        have x542 := p0.px
        have u543 := p0.2
        have y544 := tT p0
        have z545 := px0 p0.ps
        refine MC.mono (hSt κ T h p0.ps (by omega) (by omega) (by omega) (fun _ h => hTν _ (p0.1.1.tr h))) (fun r539 κ540 h541 => ?_) (fun _ h => h)
        obtain ⟨q546, g547⟩ := h541
        have l548 := q546.l19
        have p549 : TR (-1) (0) 0 0 0 (1) ν κ540 := p0.trS q546 (Or.inl (by decide)) rfl rfl rfl rfl (by omega)
        have nd550 := nd0.tr q546 (by have := @ic s; omega) (by omega)
        have lt551 : s.toInt < (κ540.1 19).toInt := by omega
        have k552 : KL κ540 h s.toInt s 3 r539 := KL.of g547 (by omega) (Int.le_refl _) s0 (Or.inl (by omega))
        have hK2 : a = -1 ∨ Kd κ540 h s.toInt s 1 a := hK.imp id (fun k => k.tr q546 (Or.inl (by decide)) s0)
        have g553 : TR s.toInt 0 0 0 0 0 κ540 (mA1 κ540 23 s.toNatClampNeg r539) := TR.put p549.ps s0 rfl rfl
        have e555 : ((mA1 κ540 23 s.toNatClampNeg r539).1 19).toInt = (κ540.1 19).toInt := rfl
        have e556 : ((mA1 κ540 23 s.toNatClampNeg r539).1 32).toInt = (κ540.1 32).toInt := rfl
        have sr558 : srt (mA1 κ540 23 s.toNatClampNeg r539) = srt κ540 := rfl
        have nd557 := nd550.pb (x := r539)
        have p559 : TR (-1) (0) 0 0 0 (1) ν (mA1 κ540 23 s.toNatClampNeg r539) := p549.trS g553 (Or.inr (Or.inr (by omega))) rfl rfl rfl rfl (by omega)
        have k560 := k552.tr g553 (Or.inr rfl) s0
        have hK3 := hK2.imp id (fun k => k.tr g553 (Or.inr rfl) s0)
        refine ⟨TR.mi p549.ps rfl rfl s0 (by omega), ?_⟩
        generalize mA1 κ540 23 s.toNatClampNeg r539 = κ554 at *
        have lt561 : s.toInt < (κ554.1 19).toInt := by omega
        have eP : G κ554 (h + 1) (bt (ν.1 19).toInt (κ554.1 19).toInt) 13 s := G.mk s0 (by omega) lt561 nd557 (by decide) (hK3.imp id (fun k => Kd.lo k (by omega))) (KL.lo k560 (by omega)) True.intro True.intro True.intro
        have pμ : TR (-1) 0 0 0 0 1 μ κ554 := pν.trS p559 (Or.inl (by decide)) rfl rfl rfl rfl (by omega)
        refine ⟨fun hx1 => ?_, fun hx1 => ?_⟩
        · rcases hL.sg with ⟨w1, -⟩ | ⟨w1, w2⟩
          · rw [w1] at hx1; exact absurd hx1 (by decide)
          obtain ⟨i1, i2, i3⟩ := hL.in w2
          have hc2 := @ic x2
          have g9 : TR x2.toInt 0 0 0 0 0 κ554 (mA1 κ554 27 x2.toNatClampNeg s) := TR.put p559.ps w2 rfl rfl
          exact ⟨TR.mi p559.ps rfl rfl w2 (by omega), s74 f _ (pμ.tr g9 (Or.inr (by omega)) rfl rfl rfl rfl (by omega)) (fun h4 => by have := ha h4; show _ < (κ554.1 32).toInt; omega) (hL.add w2 p559 (by omega) eP nd557.2.2.2.2.2.2)⟩
        · have hf : f = -1 := by
            rcases hL.sg with ⟨w1, -⟩ | ⟨w1, -⟩
            · exact w1
            · omega
          exact s74 s _ pμ (fun h4 => by have := ha h4; omega) (OL.one (eP.up (Nat.le_refl _) (by omega) (Int.le_refl _)) (by omega) nd557.2.2.2.2.2.2)
      refine ⟨fun hne => s45 (-1) κ0 q1 q6 (by omega) (Or.inl rfl) (fun h4 => absurd h4 hne), fun h4 => ?_⟩
      have lt0 : s.toInt < (κ0.1 19).toInt := by omega
      have x565 := q1.px
      have u566 := q1.2
      have y567 := tT q1
      have z568 := px0 q1.ps
      refine MC.mono (hE κ0 T h q1.ps (by omega) (by omega) (by omega) (fun _ h => hTν _ (q1.1.1.tr h))) (fun r562 κ563 h564 => ?_) (fun _ h => h)
      obtain ⟨q569, a571, g570, n572⟩ := h564
      have l573 := q569.l19
      have p574 : TR (-1) (0) 0 0 0 (1) ν κ563 := q1.trS q569 (Or.inl (by decide)) rfl rfl rfl rfl (by omega)
      have nd575 := q6.tr q569 (by have := @ic s; omega) (by omega)
      have lt576 : s.toInt < (κ563.1 19).toInt := by omega
      have k577 : Kd κ563 h s.toInt s 1 r562 := Kd.of g570 (by omega) (Int.le_refl _) s0 (Or.inl (by omega))
      have g578 : TR s.toInt 0 0 0 0 0 κ563 (mA1 κ563 22 s.toNatClampNeg r562) := TR.put p574.ps s0 rfl rfl
      have e580 : ((mA1 κ563 22 s.toNatClampNeg r562).1 19).toInt = (κ563.1 19).toInt := rfl
      have e581 : ((mA1 κ563 22 s.toNatClampNeg r562).1 32).toInt = (κ563.1 32).toInt := rfl
      have sr583 : srt (mA1 κ563 22 s.toNatClampNeg r562) = srt κ563 := rfl
      have nd582 := nd575.pa (x := r562)
      have p584 : TR (-1) (0) 0 0 0 (1) ν (mA1 κ563 22 s.toNatClampNeg r562) := p574.trS g578 (Or.inr (Or.inr (by omega))) rfl rfl rfl rfl (by omega)
      have k585 := k577.tr g578 (Or.inr rfl) s0
      refine ⟨TR.mi p574.ps rfl rfl s0 (by omega), ?_⟩
      generalize mA1 κ563 22 s.toNatClampNeg r562 = κ579 at *
      have lt586 : s.toInt < (κ579.1 19).toInt := by omega
      refine MC.mono (t_expect (by omega) p584.ps (by decide) (fun _ h => hTν _ (p584.1.1.tr h))) (fun v587 κ592 h588 => ?_) (fun _ h => h)
      obtain ⟨q589, m590, a591⟩ := h588
      have p593 : TR (-1) (0) 0 0 0 (-1) ν κ592 := p584.trS q589 (Or.inl (by decide)) rfl rfl rfl rfl (by omega)
      have k594 := k585.tr q589 (Or.inl (by decide)) s0
      have nd595 := nd582.tr q589 (by have := @ic s; omega) (by omega)
      have lt596 : s.toInt < (κ592.1 19).toInt := by omega
      exact s45 r562 κ592 ⟨p593.1, by have := p593.2; omega⟩ nd595 lt596 (Or.inr k594) (fun _ => by omega)
  exact me_meth (by omega) rfl (v_arms_0 (key _ (-1) (-1) 1 0 μ (Nat.lt_succ_self _) (TR.rf hS) OL.nil (by decide)))
theorem st_cases52 (hSt : SL X W P 321 [] 3 19 11 d) : SL X W P 328 [.int 52] 14 20 12 (d + 1) := fun μ T h9 hS hd hh hn hT => by
  have hp := px0 hS
  have h0 := hS.2.2.2.2.1
  have at0 := hS.at
  obtain ⟨h, rfl⟩ : ∃ h, h9 = h + 1 := ⟨h9 - 1, by omega⟩
  have key : ∀ (j : Nat) (f x3 : Int32) (ν : MS), ((μ.1 8).toInt - (ν.1 32).toInt).toNat < j → TR (-1) 0 0 0 0 0 μ ν → OL 14 (h + 1) (μ.1 19).toInt ν f x3 → ME X W true d 328 4 [(0, .ref P.1), (1, .int 52), (2, .int f), (3, .int x3)] [] P ν (fun r μ1 => TR (-1) 0 0 0 0 0 μ μ1 ∧ ∃ m, Lst (G μ1 (h + 1) (bt (μ.1 19).toInt (μ1.1 19).toInt) 14) (μ1.2.1 27) m r) T := by
    intro j
    induction j with
    | zero => intro f x3 ν hj; omega
    | succ j ih =>
      intro f x3 ν hj pν hL
      have e8 := eq_i (pν.1.1.1 8 rfl)
      have t8 := pν.ps.2.2.1.2
      have at1 := pν.ps.at
      have uν := pν.2
      have xν := pν.px
      have yν := tT pν
      have bν := pν.ps.2.2.2.2.2.1.1
      refine v_cases_4 _ _ _ (MC.mono (c_is (by omega) pν.ps) (fun r ν1 hk => ?_) (fun _ h => h))
      obtain ⟨rfl, rfl⟩ := hk
      have hTν : ∀ μ1, kf SPA RPA ν1 μ1 → T μ1 := fun _ h => hT _ (pν.1.1.tr h)
      refine ⟨fun _ => ⟨pν, hL.lst⟩, fun h1 => MC.mono (t_next (by omega) pν.ps (by rw [is_t h1]; decide) hTν) (fun _ κ1 hk => ?_) (fun _ h => h)⟩
      obtain ⟨m1, m2, m3⟩ := hk
      have u1 := m1.2
      refine MC.mono (t_node (by omega) m1.ps (by omega)) (fun s κ0 hk => ?_) (fun _ h => h)
      obtain ⟨q1, ⟨q2, s0⟩, q3, q4, q5, q6⟩ := hk
      have hcs := @ic s
      have s9 : s.toInt < 15990 := by omega
      have p0 : TR (-1) 0 0 0 0 (-1) ν1 κ0 := m1.tr q1 (Or.inl (by decide)) rfl rfl rfl rfl (by omega)
      have lt0 : s.toInt < (κ0.1 19).toInt := by omega
      refine ⟨fun h => absurd rfl h, fun _ => ?_⟩
      have x600 := p0.px
      have u601 := p0.2
      have y602 := tT p0
      have z603 := px0 p0.ps
      refine MC.mono (c_qname (by omega) p0.ps (by omega) (fun _ h => hTν _ (p0.1.1.tr h))) (fun r597 κ598 h599 => ?_) (fun _ h => h)
      obtain ⟨⟨z606, z607, z608, z609, z610⟩, z611⟩ := h599
      have q604 : TR (-1) 0 0 0 0 0 κ0 κ598 := ⟨z606, by omega⟩
      have g605 := z609.up (h' := h) (by omega) (Int.le_refl _) (Int.le_refl _)
      have l612 := q604.l19
      have p613 : TR (-1) (0) 0 0 0 (-1) ν1 κ598 := p0.trS q604 (Or.inl (by decide)) rfl rfl rfl rfl (by omega)
      have nd614 := q6.tr q604 (by have := @ic s; omega) (by omega)
      have lt615 : s.toInt < (κ598.1 19).toInt := by omega
      have k616 : Kd κ598 h s.toInt s 7 r597 := Kd.of g605 (by omega) (Int.le_refl _) s0 (Or.inl (by omega))
      have g617 : TR s.toInt 0 0 0 0 0 κ598 (mA1 κ598 22 s.toNatClampNeg r597) := TR.put p613.ps s0 rfl rfl
      have e619 : ((mA1 κ598 22 s.toNatClampNeg r597).1 19).toInt = (κ598.1 19).toInt := rfl
      have e620 : ((mA1 κ598 22 s.toNatClampNeg r597).1 32).toInt = (κ598.1 32).toInt := rfl
      have sr622 : srt (mA1 κ598 22 s.toNatClampNeg r597) = srt κ598 := rfl
      have nd621 := nd614.pa (x := r597)
      have p623 : TR (-1) (0) 0 0 0 (-1) ν1 (mA1 κ598 22 s.toNatClampNeg r597) := p613.trS g617 (Or.inr (Or.inr (by omega))) rfl rfl rfl rfl (by omega)
      have k624 := k616.tr g617 (Or.inr rfl) s0
      refine ⟨TR.mi p613.ps rfl rfl s0 (by omega), ?_⟩
      generalize mA1 κ598 22 s.toNatClampNeg r597 = κ618 at *
      have lt625 : s.toInt < (κ618.1 19).toInt := by omega
      refine MC.mono (t_open (by omega) p623.ps (by decide) (fun _ h => hTν _ (p623.1.1.tr h))) (fun v626 κ631 h627 => ?_) (fun _ h => h)
      obtain ⟨q628, m629, a630⟩ := h627
      have p632 : TR (-1) (1) 0 0 0 (-3) ν1 κ631 := p623.trS q628 (Or.inl (by decide)) rfl rfl rfl rfl (by omega)
      have k633 := k624.tr q628 (Or.inl (by decide)) s0
      have nd634 := nd621.tr q628 (by have := @ic s; omega) (by omega)
      have lt635 : s.toInt < (κ631.1 19).toInt := by omega
      have u646 := p632.2
      have a647 := p632.ps.at
      refine MC.mono (t_node (by omega) p632.ps (by omega)) (fun x636 κ644 h645 => ?_) (fun _ h => h)
      obtain ⟨q637, ⟨z638, z639⟩, z640, z641, z642, z643⟩ := h645
      have p648 : TR (-1) (1) 0 0 0 (-2) ν1 κ644 := p632.trS q637 (Or.inl (by decide)) rfl rfl rfl rfl (by omega)
      have k649 := k633.tr q637 (Or.inl (by decide)) s0
      have nd650 := nd634.tr q637 (by have := @ic s; omega) (by omega)
      have lt651 : s.toInt < (κ644.1 19).toInt := by omega
      have k652 : Kd κ644 h s.toInt s 6 x636 := Kd.of ((n10 (h := 0) (lo := x636.toInt) (hi := (κ644.1 19).toInt) z639 (Int.le_refl _) (by omega) z643).up (by omega) (Int.le_refl _) (Int.le_refl _)) (by omega) (Int.le_refl _) s0 (Or.inl (by omega))
      have g653 : TR s.toInt 0 0 0 0 0 κ644 (mA1 κ644 23 s.toNatClampNeg x636) := TR.put p648.ps s0 rfl rfl
      have e655 : ((mA1 κ644 23 s.toNatClampNeg x636).1 19).toInt = (κ644.1 19).toInt := rfl
      have e656 : ((mA1 κ644 23 s.toNatClampNeg x636).1 32).toInt = (κ644.1 32).toInt := rfl
      have sr658 : srt (mA1 κ644 23 s.toNatClampNeg x636) = srt κ644 := rfl
      have nd657 := nd650.pb (x := x636)
      have p659 : TR (-1) (1) 0 0 0 (-2) ν1 (mA1 κ644 23 s.toNatClampNeg x636) := p648.trS g653 (Or.inr (Or.inr (by omega))) rfl rfl rfl rfl (by omega)
      have k660 := k649.tr g653 (Or.inr rfl) s0
      have k661 := k652.tr g653 (Or.inr rfl) s0
      have nx662 := z643.off (g := 23) (t := s.toNatClampNeg) (x := x636) (by have := @ic s; have := @ic x636; omega)
      refine ⟨TR.mi p648.ps rfl rfl s0 (by omega), TR.mi p648.ps rfl rfl s0 (by omega), ?_⟩
      generalize mA1 κ644 23 s.toNatClampNeg x636 = κ654 at *
      have lt663 : s.toInt < (κ654.1 19).toInt := by omega
      refine MC.mono (t_name (by omega) p659.ps (fun _ h => hTν _ (p659.1.1.tr h))) (fun v664 κ669 h665 => ?_) (fun _ h => h)
      obtain ⟨q666, m667, a668⟩ := h665
      have p670 : TR (-1) (1) 0 0 0 (-4) ν1 κ669 := p659.trS q666 (Or.inl (by decide)) rfl rfl rfl rfl (by omega)
      have k671 := k660.tr q666 (Or.inl (by decide)) s0
      have k672 := k661.tr q666 (Or.inl (by decide)) s0
      have nx673 := nx662.tr q666 (by have := @ic x636; omega) (by omega)
      have nd674 := nd657.tr q666 (by have := @ic s; omega) (by omega)
      have lt675 : s.toInt < (κ669.1 19).toInt := by omega
      rw [upd_at]
      have c680 := @ic x636
      have c681 := @ic s
      have g676 : TR x636.toInt 0 0 0 0 0 κ669 (mA1 κ669 22 x636.toNatClampNeg v664) := TR.put p670.ps z639 rfl rfl
      have e678 : ((mA1 κ669 22 x636.toNatClampNeg v664).1 19).toInt = (κ669.1 19).toInt := rfl
      have e679 : ((mA1 κ669 22 x636.toNatClampNeg v664).1 32).toInt = (κ669.1 32).toInt := rfl
      have nd682 := nd674.off (g := 22) (t := x636.toNatClampNeg) (x := v664) (by omega)
      have p683 : TR (-1) (1) 0 0 0 (-4) ν1 (mA1 κ669 22 x636.toNatClampNeg v664) := p670.trS g676 (Or.inr (Or.inr (by omega))) rfl rfl rfl rfl (by omega)
      have k684 := Kd.free0 (t := x636.toNatClampNeg) (y := v664) nx673.1 k671
      have k685 := Kd.free0 (t := x636.toNatClampNeg) (y := v664) nx673.1 k672
      refine ⟨TR.mi p670.ps rfl rfl z639 (by omega), ?_⟩
      generalize mA1 κ669 22 x636.toNatClampNeg v664 = κ677 at *
      have lt686 : s.toInt < (κ677.1 19).toInt := by omega
      have hb687 := p683.b37
      refine MC.mono (t_close (by omega) p683.ps (by decide) (by omega) (fun _ h => hTν _ (p683.1.1.tr h))) (fun v688 κ693 h689 => ?_) (fun _ h => h)
      obtain ⟨q690, m691, a692⟩ := h689
      have p694 : TR (-1) (0) 0 0 0 (-6) ν1 κ693 := p683.trS q690 (Or.inl (by decide)) rfl rfl rfl rfl (by omega)
      have k695 := k684.tr q690 (Or.inl (by decide)) s0
      have k696 := k685.tr q690 (Or.inl (by decide)) s0
      have nd697 := nd682.tr q690 (by have := @ic s; omega) (by omega)
      have lt698 : s.toInt < (κ693.1 19).toInt := by omega
      refine MC.mono (t_expect (by omega) p694.ps (by decide) (fun _ h => hTν _ (p694.1.1.tr h))) (fun v699 κ704 h700 => ?_) (fun _ h => h)
      obtain ⟨q701, m702, a703⟩ := h700
      have p705 : TR (-1) (0) 0 0 0 (-8) ν1 κ704 := p694.trS q701 (Or.inl (by decide)) rfl rfl rfl rfl (by omega)
      have k706 := k695.tr q701 (Or.inl (by decide)) s0
      have k707 := k696.tr q701 (Or.inl (by decide)) s0
      have nd708 := nd697.tr q701 (by have := @ic s; omega) (by omega)
      have lt709 : s.toInt < (κ704.1 19).toInt := by omega
      have x713 := p705.px
      have u714 := p705.2
      have y715 := tT p705
      have z716 := px0 p705.ps
      refine MC.mono (hSt κ704 T h p705.ps (by omega) (by omega) (by omega) (fun _ h => hTν _ (p705.1.1.tr h))) (fun r710 κ711 h712 => ?_) (fun _ h => h)
      obtain ⟨q717, g718⟩ := h712
      have l719 := q717.l19
      have p720 : TR (-1) (0) 0 0 0 (-8) ν1 κ711 := p705.trS q717 (Or.inl (by decide)) rfl rfl rfl rfl (by omega)
      have k721 := k706.tr q717 (Or.inl (by decide)) s0
      have k722 := k707.tr q717 (Or.inl (by decide)) s0
      have nd723 := nd708.tr q717 (by have := @ic s; omega) (by omega)
      have lt724 : s.toInt < (κ711.1 19).toInt := by omega
      have k725 : KL κ711 h s.toInt s 3 r710 := KL.of g718 (by omega) (Int.le_refl _) s0 (Or.inl (by omega))
      have g726 : TR s.toInt 0 0 0 0 0 κ711 (mA1 κ711 24 s.toNatClampNeg r710) := TR.put p720.ps s0 rfl rfl
      have e728 : ((mA1 κ711 24 s.toNatClampNeg r710).1 19).toInt = (κ711.1 19).toInt := rfl
      have e729 : ((mA1 κ711 24 s.toNatClampNeg r710).1 32).toInt = (κ711.1 32).toInt := rfl
      have sr731 : srt (mA1 κ711 24 s.toNatClampNeg r710) = srt κ711 := rfl
      have nd730 := nd723.pc (x := r710)
      have p732 : TR (-1) (0) 0 0 0 (-8) ν1 (mA1 κ711 24 s.toNatClampNeg r710) := p720.trS g726 (Or.inr (Or.inr (by omega))) rfl rfl rfl rfl (by omega)
      have k733 := k721.tr g726 (Or.inr rfl) s0
      have k734 := k722.tr g726 (Or.inr rfl) s0
      have k735 := k725.tr g726 (Or.inr rfl) s0
      refine ⟨TR.mi p720.ps rfl rfl s0 (by omega), ?_⟩
      generalize mA1 κ711 24 s.toNatClampNeg r710 = κ727 at *
      have lt736 : s.toInt < (κ727.1 19).toInt := by omega
      have eP : G κ727 (h + 1) (bt (ν1.1 19).toInt (κ727.1 19).toInt) 14 s := G.mk s0 (by omega) lt736 nd730 (by decide) (Kd.lo k733 (by omega)) (Kd.lo k734 (by omega)) (KL.lo k735 (by omega)) True.intro True.intro
      have pμ : TR (-1) 0 0 0 0 0 μ κ727 := pν.trS p732 (Or.inl (by decide)) rfl rfl rfl rfl (by omega)
      have p9 : TR (-1) 0 0 0 0 0 ν1 κ727 := ⟨p732.1, by have := p732.2; omega⟩
      have l9 : (ν1.1 32).toInt < (κ727.1 32).toInt := by omega
      refine ⟨fun hx1 => ?_, fun hx1 => ?_⟩
      · rcases hL.sg with ⟨w1, -⟩ | ⟨w1, w2⟩
        · rw [w1] at hx1; exact absurd hx1 (by decide)
        obtain ⟨i1, i2, i3⟩ := hL.in w2
        have hc2 := @ic x3
        have g9 : TR x3.toInt 0 0 0 0 0 κ727 (mA1 κ727 27 x3.toNatClampNeg s) := TR.put pμ.ps w2 rfl rfl
        exact ⟨TR.mi pμ.ps rfl rfl w2 (by omega), ih f s _ (by show ((μ.1 8).toInt - (κ727.1 32).toInt).toNat < j; omega) (pμ.tr g9 (Or.inr (by omega)) rfl rfl rfl rfl (by omega)) (hL.add w2 p9 (by omega) eP nd730.2.2.2.2.2.2)⟩
      · have hf : f = -1 := by
          rcases hL.sg with ⟨w1, -⟩ | ⟨w1, -⟩
          · exact w1
          · omega
        exact ih s s _ (by omega) pμ (OL.one (eP.up (Nat.le_refl _) (by omega) (Int.le_refl _)) (by omega) nd730.2.2.2.2.2.2)
  exact me_meth (by omega) rfl (v_cases_0 _ (key _ (-1) (-1) μ (Nat.lt_succ_self _) (TR.rf hS) OL.nil))
theorem st_cases61 (hY : NodC X W P 312 0 9 0 d) (hSt : SL X W P 321 [] 3 19 11 d) : SL X W P 328 [.int 61] 15 20 12 (d + 1) := fun μ T h9 hS hd hh hn hT => by
  have hp := px0 hS
  have h0 := hS.2.2.2.2.1
  have at0 := hS.at
  obtain ⟨h, rfl⟩ : ∃ h, h9 = h + 1 := ⟨h9 - 1, by omega⟩
  have key : ∀ (j : Nat) (f x3 : Int32) (ν : MS), ((μ.1 8).toInt - (ν.1 32).toInt).toNat < j → TR (-1) 0 0 0 0 0 μ ν → OL 15 (h + 1) (μ.1 19).toInt ν f x3 → ME X W true d 328 4 [(0, .ref P.1), (1, .int 61), (2, .int f), (3, .int x3)] [] P ν (fun r μ1 => TR (-1) 0 0 0 0 0 μ μ1 ∧ ∃ m, Lst (G μ1 (h + 1) (bt (μ.1 19).toInt (μ1.1 19).toInt) 15) (μ1.2.1 27) m r) T := by
    intro j
    induction j with
    | zero => intro f x3 ν hj; omega
    | succ j ih =>
      intro f x3 ν hj pν hL
      have e8 := eq_i (pν.1.1.1 8 rfl)
      have t8 := pν.ps.2.2.1.2
      have at1 := pν.ps.at
      have uν := pν.2
      have xν := pν.px
      have yν := tT pν
      have bν := pν.ps.2.2.2.2.2.1.1
      refine v_cases_4 _ _ _ (MC.mono (c_is (by omega) pν.ps) (fun r ν1 hk => ?_) (fun _ h => h))
      obtain ⟨rfl, rfl⟩ := hk
      have hTν : ∀ μ1, kf SPA RPA ν1 μ1 → T μ1 := fun _ h => hT _ (pν.1.1.tr h)
      refine ⟨fun _ => ⟨pν, hL.lst⟩, fun h1 => MC.mono (t_next (by omega) pν.ps (by rw [is_t h1]; decide) hTν) (fun _ κ1 hk => ?_) (fun _ h => h)⟩
      obtain ⟨m1, m2, m3⟩ := hk
      have u1 := m1.2
      refine MC.mono (t_node (by omega) m1.ps (by omega)) (fun s κ0 hk => ?_) (fun _ h => h)
      obtain ⟨q1, ⟨q2, s0⟩, q3, q4, q5, q6⟩ := hk
      have hcs := @ic s
      have s9 : s.toInt < 15990 := by omega
      have p0 : TR (-1) 0 0 0 0 (-1) ν1 κ0 := m1.tr q1 (Or.inl (by decide)) rfl rfl rfl rfl (by omega)
      have lt0 : s.toInt < (κ0.1 19).toInt := by omega
      refine ⟨fun _ => ?_, fun h => absurd h (by decide)⟩
      have x740 := p0.px
      have u741 := p0.2
      have y742 := tT p0
      have z743 := px0 p0.ps
      refine MC.mono (hY κ0 T h p0.ps (by omega) (by omega) (by omega) (fun _ h => hTν _ (p0.1.1.tr h))) (fun r737 κ738 h739 => ?_) (fun _ h => h)
      obtain ⟨z746, z747, z748, z749, z750⟩ := h739
      have q744 : TR (-1) 0 0 0 0 0 κ0 κ738 := ⟨z746, by omega⟩
      have g745 := z749
      have l751 := q744.l19
      have p752 : TR (-1) (0) 0 0 0 (-1) ν1 κ738 := p0.trS q744 (Or.inl (by decide)) rfl rfl rfl rfl (by omega)
      have nd753 := q6.tr q744 (by have := @ic s; omega) (by omega)
      have lt754 : s.toInt < (κ738.1 19).toInt := by omega
      have k755 : Kd κ738 h s.toInt s 0 r737 := Kd.of g745 (by omega) (Int.le_refl _) s0 (Or.inl (by omega))
      have g756 : TR s.toInt 0 0 0 0 0 κ738 (mA1 κ738 22 s.toNatClampNeg r737) := TR.put p752.ps s0 rfl rfl
      have e758 : ((mA1 κ738 22 s.toNatClampNeg r737).1 19).toInt = (κ738.1 19).toInt := rfl
      have e759 : ((mA1 κ738 22 s.toNatClampNeg r737).1 32).toInt = (κ738.1 32).toInt := rfl
      have sr761 : srt (mA1 κ738 22 s.toNatClampNeg r737) = srt κ738 := rfl
      have nd760 := nd753.pa (x := r737)
      have p762 : TR (-1) (0) 0 0 0 (-1) ν1 (mA1 κ738 22 s.toNatClampNeg r737) := p752.trS g756 (Or.inr (Or.inr (by omega))) rfl rfl rfl rfl (by omega)
      have k763 := k755.tr g756 (Or.inr rfl) s0
      refine ⟨TR.mi p752.ps rfl rfl s0 (by omega), ?_⟩
      generalize mA1 κ738 22 s.toNatClampNeg r737 = κ757 at *
      have lt764 : s.toInt < (κ757.1 19).toInt := by omega
      refine MC.mono (t_open (by omega) p762.ps (by decide) (fun _ h => hTν _ (p762.1.1.tr h))) (fun v765 κ770 h766 => ?_) (fun _ h => h)
      obtain ⟨q767, m768, a769⟩ := h766
      have p771 : TR (-1) (1) 0 0 0 (-3) ν1 κ770 := p762.trS q767 (Or.inl (by decide)) rfl rfl rfl rfl (by omega)
      have k772 := k763.tr q767 (Or.inl (by decide)) s0
      have nd773 := nd760.tr q767 (by have := @ic s; omega) (by omega)
      have lt774 : s.toInt < (κ770.1 19).toInt := by omega
      have u785 := p771.2
      have a786 := p771.ps.at
      refine MC.mono (t_node (by omega) p771.ps (by omega)) (fun x775 κ783 h784 => ?_) (fun _ h => h)
      obtain ⟨q776, ⟨z777, z778⟩, z779, z780, z781, z782⟩ := h784
      have p787 : TR (-1) (1) 0 0 0 (-2) ν1 κ783 := p771.trS q776 (Or.inl (by decide)) rfl rfl rfl rfl (by omega)
      have k788 := k772.tr q776 (Or.inl (by decide)) s0
      have nd789 := nd773.tr q776 (by have := @ic s; omega) (by omega)
      have lt790 : s.toInt < (κ783.1 19).toInt := by omega
      have k791 : Kd κ783 h s.toInt s 6 x775 := Kd.of ((n10 (h := 0) (lo := x775.toInt) (hi := (κ783.1 19).toInt) z778 (Int.le_refl _) (by omega) z782).up (by omega) (Int.le_refl _) (Int.le_refl _)) (by omega) (Int.le_refl _) s0 (Or.inl (by omega))
      have g792 : TR s.toInt 0 0 0 0 0 κ783 (mA1 κ783 23 s.toNatClampNeg x775) := TR.put p787.ps s0 rfl rfl
      have e794 : ((mA1 κ783 23 s.toNatClampNeg x775).1 19).toInt = (κ783.1 19).toInt := rfl
      have e795 : ((mA1 κ783 23 s.toNatClampNeg x775).1 32).toInt = (κ783.1 32).toInt := rfl
      have sr797 : srt (mA1 κ783 23 s.toNatClampNeg x775) = srt κ783 := rfl
      have nd796 := nd789.pb (x := x775)
      have p798 : TR (-1) (1) 0 0 0 (-2) ν1 (mA1 κ783 23 s.toNatClampNeg x775) := p787.trS g792 (Or.inr (Or.inr (by omega))) rfl rfl rfl rfl (by omega)
      have k799 := k788.tr g792 (Or.inr rfl) s0
      have k800 := k791.tr g792 (Or.inr rfl) s0
      have nx801 := z782.off (g := 23) (t := s.toNatClampNeg) (x := x775) (by have := @ic s; have := @ic x775; omega)
      refine ⟨TR.mi p787.ps rfl rfl s0 (by omega), TR.mi p787.ps rfl rfl s0 (by omega), ?_⟩
      generalize mA1 κ783 23 s.toNatClampNeg x775 = κ793 at *
      have lt802 : s.toInt < (κ793.1 19).toInt := by omega
      refine MC.mono (t_name (by omega) p798.ps (fun _ h => hTν _ (p798.1.1.tr h))) (fun v803 κ808 h804 => ?_) (fun _ h => h)
      obtain ⟨q805, m806, a807⟩ := h804
      have p809 : TR (-1) (1) 0 0 0 (-4) ν1 κ808 := p798.trS q805 (Or.inl (by decide)) rfl rfl rfl rfl (by omega)
      have k810 := k799.tr q805 (Or.inl (by decide)) s0
      have k811 := k800.tr q805 (Or.inl (by decide)) s0
      have nx812 := nx801.tr q805 (by have := @ic x775; omega) (by omega)
      have nd813 := nd796.tr q805 (by have := @ic s; omega) (by omega)
      have lt814 : s.toInt < (κ808.1 19).toInt := by omega
      rw [upd_at]
      have c819 := @ic x775
      have c820 := @ic s
      have g815 : TR x775.toInt 0 0 0 0 0 κ808 (mA1 κ808 22 x775.toNatClampNeg v803) := TR.put p809.ps z778 rfl rfl
      have e817 : ((mA1 κ808 22 x775.toNatClampNeg v803).1 19).toInt = (κ808.1 19).toInt := rfl
      have e818 : ((mA1 κ808 22 x775.toNatClampNeg v803).1 32).toInt = (κ808.1 32).toInt := rfl
      have nd821 := nd813.off (g := 22) (t := x775.toNatClampNeg) (x := v803) (by omega)
      have p822 : TR (-1) (1) 0 0 0 (-4) ν1 (mA1 κ808 22 x775.toNatClampNeg v803) := p809.trS g815 (Or.inr (Or.inr (by omega))) rfl rfl rfl rfl (by omega)
      have k823 := Kd.free0 (t := x775.toNatClampNeg) (y := v803) nx812.1 k810
      have k824 := Kd.free0 (t := x775.toNatClampNeg) (y := v803) nx812.1 k811
      refine ⟨TR.mi p809.ps rfl rfl z778 (by omega), ?_⟩
      generalize mA1 κ808 22 x775.toNatClampNeg v803 = κ816 at *
      have lt825 : s.toInt < (κ816.1 19).toInt := by omega
      have hb826 := p822.b37
      refine MC.mono (t_close (by omega) p822.ps (by decide) (by omega) (fun _ h => hTν _ (p822.1.1.tr h))) (fun v827 κ832 h828 => ?_) (fun _ h => h)
      obtain ⟨q829, m830, a831⟩ := h828
      have p833 : TR (-1) (0) 0 0 0 (-6) ν1 κ832 := p822.trS q829 (Or.inl (by decide)) rfl rfl rfl rfl (by omega)
      have k834 := k823.tr q829 (Or.inl (by decide)) s0
      have k835 := k824.tr q829 (Or.inl (by decide)) s0
      have nd836 := nd821.tr q829 (by have := @ic s; omega) (by omega)
      have lt837 : s.toInt < (κ832.1 19).toInt := by omega
      refine MC.mono (t_expect (by omega) p833.ps (by decide) (fun _ h => hTν _ (p833.1.1.tr h))) (fun v838 κ843 h839 => ?_) (fun _ h => h)
      obtain ⟨q840, m841, a842⟩ := h839
      have p844 : TR (-1) (0) 0 0 0 (-8) ν1 κ843 := p833.trS q840 (Or.inl (by decide)) rfl rfl rfl rfl (by omega)
      have k845 := k834.tr q840 (Or.inl (by decide)) s0
      have k846 := k835.tr q840 (Or.inl (by decide)) s0
      have nd847 := nd836.tr q840 (by have := @ic s; omega) (by omega)
      have lt848 : s.toInt < (κ843.1 19).toInt := by omega
      have x852 := p844.px
      have u853 := p844.2
      have y854 := tT p844
      have z855 := px0 p844.ps
      refine MC.mono (hSt κ843 T h p844.ps (by omega) (by omega) (by omega) (fun _ h => hTν _ (p844.1.1.tr h))) (fun r849 κ850 h851 => ?_) (fun _ h => h)
      obtain ⟨q856, g857⟩ := h851
      have l858 := q856.l19
      have p859 : TR (-1) (0) 0 0 0 (-8) ν1 κ850 := p844.trS q856 (Or.inl (by decide)) rfl rfl rfl rfl (by omega)
      have k860 := k845.tr q856 (Or.inl (by decide)) s0
      have k861 := k846.tr q856 (Or.inl (by decide)) s0
      have nd862 := nd847.tr q856 (by have := @ic s; omega) (by omega)
      have lt863 : s.toInt < (κ850.1 19).toInt := by omega
      have k864 : KL κ850 h s.toInt s 3 r849 := KL.of g857 (by omega) (Int.le_refl _) s0 (Or.inl (by omega))
      have g865 : TR s.toInt 0 0 0 0 0 κ850 (mA1 κ850 24 s.toNatClampNeg r849) := TR.put p859.ps s0 rfl rfl
      have e867 : ((mA1 κ850 24 s.toNatClampNeg r849).1 19).toInt = (κ850.1 19).toInt := rfl
      have e868 : ((mA1 κ850 24 s.toNatClampNeg r849).1 32).toInt = (κ850.1 32).toInt := rfl
      have sr870 : srt (mA1 κ850 24 s.toNatClampNeg r849) = srt κ850 := rfl
      have nd869 := nd862.pc (x := r849)
      have p871 : TR (-1) (0) 0 0 0 (-8) ν1 (mA1 κ850 24 s.toNatClampNeg r849) := p859.trS g865 (Or.inr (Or.inr (by omega))) rfl rfl rfl rfl (by omega)
      have k872 := k860.tr g865 (Or.inr rfl) s0
      have k873 := k861.tr g865 (Or.inr rfl) s0
      have k874 := k864.tr g865 (Or.inr rfl) s0
      refine ⟨TR.mi p859.ps rfl rfl s0 (by omega), ?_⟩
      generalize mA1 κ850 24 s.toNatClampNeg r849 = κ866 at *
      have lt875 : s.toInt < (κ866.1 19).toInt := by omega
      have eP : G κ866 (h + 1) (bt (ν1.1 19).toInt (κ866.1 19).toInt) 15 s := G.mk s0 (by omega) lt875 nd869 (by decide) (Kd.lo k872 (by omega)) (Kd.lo k873 (by omega)) (KL.lo k874 (by omega)) True.intro True.intro
      have pμ : TR (-1) 0 0 0 0 0 μ κ866 := pν.trS p871 (Or.inl (by decide)) rfl rfl rfl rfl (by omega)
      have p9 : TR (-1) 0 0 0 0 0 ν1 κ866 := ⟨p871.1, by have := p871.2; omega⟩
      have l9 : (ν1.1 32).toInt < (κ866.1 32).toInt := by omega
      refine ⟨fun hx1 => ?_, fun hx1 => ?_⟩
      · rcases hL.sg with ⟨w1, -⟩ | ⟨w1, w2⟩
        · rw [w1] at hx1; exact absurd hx1 (by decide)
        obtain ⟨i1, i2, i3⟩ := hL.in w2
        have hc2 := @ic x3
        have g9 : TR x3.toInt 0 0 0 0 0 κ866 (mA1 κ866 27 x3.toNatClampNeg s) := TR.put pμ.ps w2 rfl rfl
        exact ⟨TR.mi pμ.ps rfl rfl w2 (by omega), ih f s _ (by show ((μ.1 8).toInt - (κ866.1 32).toInt).toNat < j; omega) (pμ.tr g9 (Or.inr (by omega)) rfl rfl rfl rfl (by omega)) (hL.add w2 p9 (by omega) eP nd869.2.2.2.2.2.2)⟩
      · have hf : f = -1 := by
          rcases hL.sg with ⟨w1, -⟩ | ⟨w1, -⟩
          · exact w1
          · omega
        exact ih s s _ (by omega) pμ (OL.one (eP.up (Nat.le_refl _) (by omega) (Int.le_refl _)) (by omega) nd869.2.2.2.2.2.2)
  exact me_meth (by omega) rfl (v_cases_0 _ (key _ (-1) (-1) μ (Nat.lt_succ_self _) (TR.rf hS) OL.nil))
theorem st_statements (hC : SC X W P 322 3 22 14 d) : SL X W P 321 [] 3 19 11 (d + 1) := fun μ T h hS hd hh hn hT => by
  have hp := px0 hS
  have h0 := hS.2.2.2.2.1
  have at0 := hS.at
  have b40 := hS.2.2.2.2.2.2.2.2
  have key : ∀ (j : Nat) (f x2 : Int32) (ν : MS), ((μ.1 8).toInt - (ν.1 32).toInt).toNat < j → TR (-1) 0 0 0 0 0 μ ν → OL 3 h (μ.1 19).toInt ν f x2 → ME X W true d 321 4 [(0, .ref P.1), (1, .int f), (2, .int x2)] [] P ν (fun r μ1 => TR (-1) 0 0 0 0 0 μ μ1 ∧ ∃ m, Lst (G μ1 h (bt (μ.1 19).toInt (μ1.1 19).toInt) 3) (μ1.2.1 27) m r) T := by
    intro j
    induction j with
    | zero => intro f x2 ν hj; omega
    | succ j ih =>
      intro f x2 ν hj pν hL
      have e8 := eq_i (pν.1.1.1 8 rfl)
      have t8 := pν.ps.2.2.1.2
      have at1 := pν.ps.at
      have uν := pν.2
      have lν := pν.l19
      have b4 := pν.1.2.2.2.2.2.2.2.2.1
      refine v_statements_4 _ _ (MC.mono (c_beginsStatement (by omega) pν.ps) (fun r ν1 hk => ?_) (fun _ h => h))
      obtain ⟨rfl, hb⟩ := hk
      refine ⟨fun _ => ⟨pν, hL.lst⟩, fun h1 => ⟨fun h20 => ?_, fun _ => MC.mono (c_line (by omega) pν.ps.1 at1.1 at1.2) (fun r2 ν2 h2 => ?_) (fun _ h => h)⟩⟩
      · have h20 := ne_i h20
        rw [show (20 : Int32).toInt = 20 from rfl] at h20
        have e4 : (ν1.1 40 + 1).toInt = (ν1.1 40).toInt + 1 := ia1 (by omega)
        have g1 : TR (-1) 0 0 0 1 0 ν1 (mS1 ν1 40 (ν1.1 40 + 1)) := TR.s40 pν.ps e4 (by omega) (by omega)
        refine MC.mono (c_line (by omega) g1.ps.1 at1.1 at1.2) (fun r2 ν2 h2 => ?_) (fun _ h => h)
        subst h2
        have g2 : TR (-1) 0 0 0 1 0 ν1 (mS1 (mS1 ν1 40 (ν1.1 40 + 1)) 34 r2) := g1.tr (TR.s34 g1.ps) (Or.inl (by decide)) rfl rfl rfl rfl (by omega)
        have p2 : TR (-1) 0 0 0 1 0 μ (mS1 (mS1 ν1 40 (ν1.1 40 + 1)) 34 r2) := pν.tr g2 (Or.inl (by decide)) rfl rfl rfl rfl (by omega)
        have x2' := p2.px
        have e19 : ((mS1 (mS1 ν1 40 (ν1.1 40 + 1)) 34 r2).1 19).toInt = (ν1.1 19).toInt := rfl
        have e32 : ((mS1 (mS1 ν1 40 (ν1.1 40 + 1)) 34 r2).1 32).toInt = (ν1.1 32).toInt := rfl
        refine MC.mono (hC _ T h p2.ps (by omega) (by omega) (by omega) (fun _ h => hT _ (p2.1.1.tr h)) (hb h1)) (fun r3 ν3 h3 => ?_) (fun _ h => h)
        obtain ⟨v1, v2, v3, v4⟩ := h3
        have p3 : TR (-1) 0 0 0 1 0 μ ν3 := p2.tr v1 (Or.inl (by decide)) rfl rfl rfl rfl (by omega)
        have g3 : TR (-1) 0 0 0 1 0 ν1 ν3 := g2.tr v1 (Or.inl (by decide)) rfl rfl rfl rfl (by omega)
        have b3 := p3.1.2.2.2.2.2.2.2.2.1
        have l3 := v1.l19
        have e5 : (ν3.1 40 - 1).toInt = (ν3.1 40).toInt - 1 := by
          rw [ib (by rw [show (1 : Int32).toInt = 1 from rfl]; omega) (by rw [show (1 : Int32).toInt = 1 from rfl]; omega)]; rfl
        have g4 : TR (-1) 0 0 0 0 0 ν3 (mS1 ν3 34 (ν1.1 34)) := TR.s34 p3.ps
        have g5 : TR (-1) 0 0 0 (-1) 0 (mS1 ν3 34 (ν1.1 34)) (mS1 (mS1 ν3 34 (ν1.1 34)) 40 (ν3.1 40 - 1)) := TR.s40 g4.ps (by show _ = (ν3.1 40).toInt + _; omega) (by omega) (by omega)
        have p5 : TR (-1) 0 0 0 0 0 μ (mS1 (mS1 ν3 34 (ν1.1 34)) 40 (ν3.1 40 - 1)) := (p3.tr g4 (Or.inl (by decide)) rfl rfl rfl rfl (Int.le_refl _)).tr g5 (Or.inl (by decide)) rfl rfl rfl rfl (by omega)
        have k5 : TR (-1) 0 0 0 0 0 ν1 (mS1 (mS1 ν3 34 (ν1.1 34)) 40 (ν3.1 40 - 1)) := (g3.tr g4 (Or.inl (by decide)) rfl rfl rfl rfl (Int.le_refl _)).tr g5 (Or.inl (by decide)) rfl rfl rfl rfl (by omega)
        have eG : G (mS1 (mS1 ν3 34 (ν1.1 34)) 40 (ν3.1 40 - 1)) h (bt (ν1.1 19).toInt (ν3.1 19).toInt) 3 r3 := G.S (G.S v3)
        have n5 : (mS1 (mS1 ν3 34 (ν1.1 34)) 40 (ν3.1 40 - 1)).2.1 27 r3.toNatClampNeg = -1 := v4
        have e19' : ((mS1 (mS1 ν3 34 (ν1.1 34)) 40 (ν3.1 40 - 1)).1 19).toInt = (ν3.1 19).toInt := rfl
        have e32' : ((mS1 (mS1 ν3 34 (ν1.1 34)) 40 (ν3.1 40 - 1)).1 32).toInt = (ν3.1 32).toInt := rfl
        generalize mS1 (mS1 ν3 34 (ν1.1 34)) 40 (ν3.1 40 - 1) = ν5 at *
        refine MC.mono (t_expect (by omega) p5.ps (by decide) (fun _ h => hT _ (p5.1.1.tr h))) (fun _ ν6 h6 => ?_) (fun _ h => h)
        obtain ⟨m1, m2, m3⟩ := h6
        have p6 : TR (-1) 0 0 0 0 0 μ ν6 := p5.tr m1 (Or.inl (by decide)) rfl rfl rfl rfl (by omega)
        have k6 : TR (-1) 0 0 0 0 0 ν1 ν6 := k5.tr m1 (Or.inl (by decide)) rfl rfl rfl rfl (by omega)
        have eG6 : G ν6 h (bt (ν1.1 19).toInt (ν6.1 19).toInt) 3 r3 := (eG.tr m1 (by omega) (Or.inl (by omega))).up (Nat.le_refl _) (Int.le_refl _) (by omega)
        obtain ⟨i1, i2, i3⟩ := eG6.in
        have hc3 := @ic r3
        have n6 : ν6.2.1 27 r3.toNatClampNeg = -1 := by rw [m1.rb 27 (by omega) (by omega) _ (by omega) (by omega)]; exact n5
        have u6 := p6.2
        have at6 := p6.ps.at
        refine ⟨fun hx1 => ?_, fun hx1 => ?_⟩
        · rcases hL.sg with ⟨w1, -⟩ | ⟨w1, w2⟩
          · rw [w1] at hx1; exact absurd hx1 (by decide)
          obtain ⟨j1, j2, j3⟩ := hL.in w2
          have hc2 := @ic x2
          have g9 : TR x2.toInt 0 0 0 0 0 ν6 (mA1 ν6 27 x2.toNatClampNeg r3) := TR.put p6.ps w2 rfl rfl
          exact ⟨TR.mi p6.ps rfl rfl w2 (by omega), ih f r3 _ (by show ((μ.1 8).toInt - (ν6.1 32).toInt).toNat < j; omega) (p6.tr g9 (Or.inr (by omega)) rfl rfl rfl rfl (by omega)) (hL.add w2 k6 (by omega) eG6 n6)⟩
        · have hf : f = -1 := by
            rcases hL.sg with ⟨w1, -⟩ | ⟨w1, -⟩
            · exact w1
            · omega
          exact ih r3 r3 _ (by omega) p6 (OL.one (eG6.up (Nat.le_refl _) (by omega) (Int.le_refl _)) (by omega) n6)
      · subst h2
        exact MC.mono (c_first (by omega) (fun _ h => hT _ (pν.1.1.tr h))) (fun _ _ h => h.elim) (fun _ h => h)
  exact me_meth (by omega) rfl (v_statements_0 (key _ (-1) (-1) μ (Nat.lt_succ_self _) (TR.rf hS) OL.nil))
end PSI
