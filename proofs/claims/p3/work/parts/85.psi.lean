/-! contracts of the reference: arms, HANDLERs, BRANCHes, rows of statements -/
section PSI
variable {X : ev_X} {W : Nat → Prop} {d : Nat} {P : MP}
theorem st_arms (hE : XC X W P 332 [] 1 20 12 0 0 d) (hSt : SL X W P 321 [] 3 19 11 d) : ArC X W P (d + 1) := fun μ T h9 hS hd hh hn hT => by
  have hp := px0 hS
  have h0 := hS.2.2.2.2.1
  have at0 := hS.at
  obtain ⟨h, rfl⟩ : ∃ h, h9 = h + 1 := ⟨h9 - 1, by omega⟩
  have fin9 : ∀ (f x2 x4 : Int32) (ν : MS), TR (-1) 0 0 0 0 1 μ ν → OL 13 (h + 1) (μ.1 19).toInt ν f x2 → 0 ≤ x2.toInt → ME X W true d 323 9 [(0, .ref P.1), (1, .int f), (2, .int x2), (3, .int 0), (4, .int x4)] [] P ν (fun r μ1 => TR (-1) 0 0 0 0 0 μ μ1 ∧ ¬ r = -1 ∧ ∃ m, Lst (G μ1 (h + 1) (bt (μ.1 19).toInt (μ1.1 19).toInt) 13) (μ1.2.1 27) m r) T := fun f x2 x4 ν pν hL hx => by
    refine v_arms_9 _ _ _ _ ⟨fun _ => MC.mono (t_expect (by omega) pν.ps (by decide) (fun _ h => hT _ (pν.1.1.tr h))) (fun _ κ hk => ?_) (fun _ h => h), fun h => absurd rfl h⟩
    obtain ⟨m1, m2, m3⟩ := hk
    have l := hL.tr m1 (Or.inl (by omega))
    exact ⟨pν.tr m1 (Or.inl (by decide)) rfl rfl rfl rfl (by omega), fun e => by have := (l.in hx).1; rw [e] at this; exact absurd this (by decide), l.lst⟩
  have key : ∀ (j : Nat) (f x2 x3 x4 : Int32) (ν : MS), ((μ.1 8).toInt - (ν.1 32).toInt).toNat < j → TR (-1) 0 0 0 0 0 μ ν → OL 13 (h + 1) (μ.1 19).toInt ν f x2 → ¬ x3 = 0 → ME X W true d 323 9 [(0, .ref P.1), (1, .int f), (2, .int x2), (3, .int x3), (4, .int x4)] [] P ν (fun r μ1 => TR (-1) 0 0 0 0 0 μ μ1 ∧ ¬ r = -1 ∧ ∃ m, Lst (G μ1 (h + 1) (bt (μ.1 19).toInt (μ1.1 19).toInt) 13) (μ1.2.1 27) m r) T := by
    intro j
    induction j with
    | zero => intro f x2 x3 x4 ν hj; omega
    | succ j ih =>
      intro f x2 x3 x4 ν hj pν hL hx3
      have e8 := eq_i (pν.1.1.1 8 rfl)
      have t8 := pν.ps.2.2.1.2
      have at1 := pν.ps.at
      have uν := pν.2
      have lν := pν.l19
      have xν := pν.px
      have hTν : ∀ μ1, kf SPA RPA ν μ1 → T μ1 := fun _ h => hT _ (pν.1.1.tr h)
      refine v_arms_9 _ _ _ _ ⟨fun h => absurd h hx3, fun _ => MC.mono (t_node (by omega) pν.ps (by omega)) (fun s κ0 hk => ?_) (fun _ h => h)⟩
      obtain ⟨q1, ⟨q2, s0⟩, q3, q4, q5, q6⟩ := hk
      have hcs := @ic s
      have s9 : s.toInt < 15990 := by omega
      have s106a : ∀ (f' y3 y4 : Int32) (κ : MS), y3 = 0 → TR (-1) 0 0 0 0 1 μ κ → OL 13 (h + 1) (μ.1 19).toInt κ f' s → ME X W true d 323 106 [(0, .ref P.1), (1, .int f'), (2, .int s), (3, .int y3), (4, .int y4), (5, .int s)] [] P κ (fun r μ1 => TR (-1) 0 0 0 0 0 μ μ1 ∧ ¬ r = -1 ∧ ∃ m, Lst (G μ1 (h + 1) (bt (μ.1 19).toInt (μ1.1 19).toInt) 13) (μ1.2.1 27) m r) T := fun f' y3 y4 κ h3 pκ kL => by
        subst h3
        refine v_arms_106 _ _ _ _ _ (MC.mono (c_is (by omega) pκ.ps) (fun r κ1 hk => ?_) (fun _ h => h))
        obtain ⟨rfl, rfl⟩ := hk
        exact ⟨fun _ => v_arms_122 _ _ _ _ _ (fin9 f' s _ κ1 pκ kL s0), fun h => absurd rfl h⟩
      have s106b : ∀ (f' y4 : Int32) (κ : MS), TR (-1) 0 0 0 0 1 μ κ → (ν.1 32).toInt < (κ.1 32).toInt → ¬ srt κ = 203 → OL 13 (h + 1) (μ.1 19).toInt κ f' s → ME X W true d 323 106 [(0, .ref P.1), (1, .int f'), (2, .int s), (3, .int 1), (4, .int y4), (5, .int s)] [] P κ (fun r μ1 => TR (-1) 0 0 0 0 0 μ μ1 ∧ ¬ r = -1 ∧ ∃ m, Lst (G μ1 (h + 1) (bt (μ.1 19).toInt (μ1.1 19).toInt) 13) (μ1.2.1 27) m r) T := fun f' y4 κ pκ ha hs3 kL => by
        refine v_arms_106 _ _ _ _ _ (MC.mono (c_is (by omega) pκ.ps) (fun r κ1 hk => ?_) (fun _ h => h))
        obtain ⟨rfl, rfl⟩ := hk
        refine ⟨fun h => absurd h (by decide), fun _ => MC.mono (t_next (by omega) pκ.ps hs3 (fun _ h => hT _ (pκ.1.1.tr h))) (fun _ κ2 hk => ?_) (fun _ h => h)⟩
        obtain ⟨m1, m2, m3⟩ := hk
        exact v_arms_122 _ _ _ _ _ (ih f' s 1 _ κ2 (by omega) (pκ.tr m1 (Or.inl (by decide)) rfl rfl rfl rfl (by omega)) (kL.tr m1 (Or.inl (by omega))) (by decide))
      have s74 : ∀ (f' : Int32) (κ : MS), TR (-1) 0 0 0 0 1 μ κ → (x4 = 0 → (ν.1 32).toInt < (κ.1 32).toInt) → OL 13 (h + 1) (μ.1 19).toInt κ f' s → ME X W true d 323 74 [(0, .ref P.1), (1, .int f'), (2, .int x2), (3, .int x3), (4, .int x4), (5, .int s)] [] P κ (fun r μ1 => TR (-1) 0 0 0 0 0 μ μ1 ∧ ¬ r = -1 ∧ ∃ m, Lst (G μ1 (h + 1) (bt (μ.1 19).toInt (μ1.1 19).toInt) 13) (μ1.2.1 27) m r) T := fun f' κ pκ ha kL => by
        refine v_arms_74 _ _ _ _ _ ⟨fun _ => v_arms_104 _ _ _ _ _ (s106a f' 0 _ κ rfl pκ kL), fun h4 => MC.mono (c_is (by omega) pκ.ps) (fun r κ1 hk => ?_) (fun _ h => h)⟩
        obtain ⟨rfl, rfl⟩ := hk
        refine ⟨fun h1 => v_arms_100 _ _ _ _ _ (s106b f' _ κ1 pκ (ha h4) (by rw [is_t h1]; decide) kL), fun _ => MC.mono (c_is (by omega) pκ.ps) (fun r κ2 hk => ?_) (fun _ h => h)⟩
        obtain ⟨rfl, rfl⟩ := hk
        exact ⟨fun _ => v_arms_104 _ _ _ _ _ (s106a f' 0 _ κ2 rfl pκ kL), fun h1 => v_arms_100 _ _ _ _ _ (s106b f' _ κ2 pκ (ha h4) (by rw [is_t h1]; decide) kL)⟩
      have s45 : ∀ (a : Int32) (κ : MS), TR (-1) 0 0 0 0 1 ν κ → ND κ s.toNatClampNeg 45 a (-1) (-1) (-1) (-1) (-1) → s.toInt < (κ.1 19).toInt → (a = -1 ∨ Kd κ h s.toInt s 1 a) → (x4 = 0 → (ν.1 32).toInt < (κ.1 32).toInt) → ME X W true d 323 45 [(0, .ref P.1), (1, .int f), (2, .int x2), (3, .int x3), (4, .int x4), (5, .int s)] [] P κ (fun r μ1 => TR (-1) 0 0 0 0 0 μ μ1 ∧ ¬ r = -1 ∧ ∃ m, Lst (G μ1 (h + 1) (bt (μ.1 19).toInt (μ1.1 19).toInt) 13) (μ1.2.1 27) m r) T := fun a κ p0 nd0 lt0 hK ha => by
        refine v_arms_45 _ _ _ _ _ ?_
        have x552 := p0.px
        have u553 := p0.2
        have y554 := tT p0
        have z555 := px0 p0.ps
        refine MC.mono (hSt κ T h p0.ps (by omega) (by omega) (by omega) (fun _ h => hTν _ (p0.1.1.tr h))) (fun r549 κ550 h551 => ?_) (fun _ h => h)
        obtain ⟨q556, g557⟩ := h551
        have l558 := q556.l19
        have l559 := q556.l32
        have p560 : TR (-1) (0) 0 0 0 (1) ν κ550 := p0.trS q556 (Or.inl (by decide)) rfl rfl rfl rfl (by omega)
        have nd561 := nd0.tr q556 (by have := @ic s; omega) (by omega)
        have lt562 : s.toInt < (κ550.1 19).toInt := by omega
        have k563 : KL κ550 h s.toInt s 3 r549 := KL.of g557 (by omega) (Int.le_refl _) s0 (Or.inl (by omega))
        have hK2 : a = -1 ∨ Kd κ550 h s.toInt s 1 a := hK.imp id (fun k => k.tr q556 (Or.inl (by decide)) s0)
        have g564 : TR s.toInt 0 0 0 0 0 κ550 (mA1 κ550 23 s.toNatClampNeg r549) := TR.put p560.ps s0 rfl rfl
        have e566 : ((mA1 κ550 23 s.toNatClampNeg r549).1 19).toInt = (κ550.1 19).toInt := rfl
        have e567 : ((mA1 κ550 23 s.toNatClampNeg r549).1 32).toInt = (κ550.1 32).toInt := rfl
        have sr569 : srt (mA1 κ550 23 s.toNatClampNeg r549) = srt κ550 := srt_off rfl
        have nd568 := nd561.pb (x := r549)
        have p570 : TR (-1) (0) 0 0 0 (1) ν (mA1 κ550 23 s.toNatClampNeg r549) := p560.trS g564 (Or.inr (Or.inr (by omega))) rfl rfl rfl rfl (by omega)
        have k571 := k563.tr g564 (Or.inr rfl) s0
        have hK3 := hK2.imp id (fun k => k.tr g564 (Or.inr rfl) s0)
        refine ⟨TR.mi p560.ps rfl rfl s0 (by omega), ?_⟩
        generalize mA1 κ550 23 s.toNatClampNeg r549 = κ565 at *
        have lt572 : s.toInt < (κ565.1 19).toInt := by omega
        have eP : G κ565 (h + 1) (bt (ν.1 19).toInt (κ565.1 19).toInt) 13 s := G.mk s0 (by omega) lt572 nd568 (by decide) (hK3.imp id (fun k => Kd.lo k (by omega))) (KL.lo k571 (by omega)) True.intro True.intro True.intro
        have pμ : TR (-1) 0 0 0 0 1 μ κ565 := pν.trS p570 (Or.inl (by decide)) rfl rfl rfl rfl (by omega)
        refine ⟨fun hx1 => ?_, fun hx1 => ?_⟩
        · rcases hL.sg with ⟨w1, -⟩ | ⟨w1, w2⟩
          · rw [w1] at hx1; exact absurd hx1 (by decide)
          obtain ⟨i1, i2, i3⟩ := hL.in w2
          have hc2 := @ic x2
          have g9 : TR x2.toInt 0 0 0 0 0 κ565 (mA1 κ565 27 x2.toNatClampNeg s) := TR.put p570.ps w2 rfl rfl
          exact ⟨TR.mi p560.ps rfl rfl w2 (by omega), s74 f _ (pμ.tr g9 (Or.inr (by omega)) rfl rfl rfl rfl (by omega)) (fun h4 => by have := ha h4; show _ < (κ565.1 32).toInt; omega) (hL.add w2 p570 (by omega) eP nd568.2.2.2.2.2.2)⟩
        · have hf : f = -1 := by
            rcases hL.sg with ⟨w1, -⟩ | ⟨w1, -⟩
            · exact w1
            · omega
          exact s74 s _ pμ (fun h4 => by have := ha h4; omega) (OL.one (eP.up (Nat.le_refl _) (by omega) (Int.le_refl _)) (by omega) nd568.2.2.2.2.2.2)
      refine ⟨fun hne => s45 (-1) κ0 q1 q6 (by omega) (Or.inl rfl) (fun h4 => absurd h4 hne), fun h4 => ?_⟩
      have lt0 : s.toInt < (κ0.1 19).toInt := by omega
      have x576 := q1.px
      have u577 := q1.2
      have y578 := tT q1
      have z579 := px0 q1.ps
      refine MC.mono (hE κ0 T h q1.ps (by omega) (by omega) (by omega) (fun _ h => hTν _ (q1.1.1.tr h))) (fun r573 κ574 h575 => ?_) (fun _ h => h)
      obtain ⟨q580, a582, g581, n583⟩ := h575
      have l584 := q580.l19
      have l585 := q580.l32
      have p586 : TR (-1) (0) 0 0 0 (1) ν κ574 := q1.trS q580 (Or.inl (by decide)) rfl rfl rfl rfl (by omega)
      have nd587 := q6.tr q580 (by have := @ic s; omega) (by omega)
      have lt588 : s.toInt < (κ574.1 19).toInt := by omega
      have k589 : Kd κ574 h s.toInt s 1 r573 := Kd.of g581 (by omega) (Int.le_refl _) s0 (Or.inl (by omega))
      have g590 : TR s.toInt 0 0 0 0 0 κ574 (mA1 κ574 22 s.toNatClampNeg r573) := TR.put p586.ps s0 rfl rfl
      have e592 : ((mA1 κ574 22 s.toNatClampNeg r573).1 19).toInt = (κ574.1 19).toInt := rfl
      have e593 : ((mA1 κ574 22 s.toNatClampNeg r573).1 32).toInt = (κ574.1 32).toInt := rfl
      have sr595 : srt (mA1 κ574 22 s.toNatClampNeg r573) = srt κ574 := srt_off rfl
      have nd594 := nd587.pa (x := r573)
      have p596 : TR (-1) (0) 0 0 0 (1) ν (mA1 κ574 22 s.toNatClampNeg r573) := p586.trS g590 (Or.inr (Or.inr (by omega))) rfl rfl rfl rfl (by omega)
      have k597 := k589.tr g590 (Or.inr rfl) s0
      refine ⟨TR.mi p586.ps rfl rfl s0 (by omega), ?_⟩
      generalize mA1 κ574 22 s.toNatClampNeg r573 = κ591 at *
      have lt598 : s.toInt < (κ591.1 19).toInt := by omega
      refine MC.mono (t_expect (by omega) p596.ps (by decide) (fun _ h => hTν _ (p596.1.1.tr h))) (fun v599 κ604 h600 => ?_) (fun _ h => h)
      obtain ⟨q601, m602, a603⟩ := h600
      have p605 : TR (-1) (0) 0 0 0 (-1) ν κ604 := p596.trS q601 (Or.inl (by decide)) rfl rfl rfl rfl (by omega)
      have k606 := k597.tr q601 (Or.inl (by decide)) s0
      have nd607 := nd594.tr q601 (by have := @ic s; omega) (by omega)
      have lt608 : s.toInt < (κ604.1 19).toInt := by omega
      exact s45 r573 κ604 ⟨p605.1, by have := p605.2; omega⟩ nd607 lt608 (Or.inr k606) (fun _ => by omega)
  exact me_meth (by omega) rfl (v_arms_0 (key _ (-1) (-1) 1 0 μ (Nat.lt_succ_self _) (TR.rf hS) OL.nil (by decide)))
theorem st_cases52 (hSt : SL X W P 321 [] 3 19 11 d) : SL X W P 328 [.int 52] 14 20 12 (d + 1) := fun μ T h9 hS hd hh hn hT => by
  have hp := px0 hS
  have h0 := hS.2.2.2.2.1
  have at0 := hS.at
  obtain ⟨h, rfl⟩ : ∃ h, h9 = h + 1 := ⟨h9 - 1, by omega⟩
  have key : ∀ (j : Nat) (f x3 : Int32) (ν : MS), ((μ.1 8).toInt - (ν.1 32).toInt).toNat < j → TR (-1) 0 0 0 0 0 μ ν → OL 14 (h + 1) (μ.1 19).toInt ν f x3 → ME X W true d 328 4 [(0, .ref P.1), (1, .int 52), (2, .int f), (3, .int x3)] [] P ν (fun r μ1 => TR (-1) 0 0 0 0 0 μ μ1 ∧ ∃ m, Lst (G μ1 (h + 1) (bt (μ.1 19).toInt (μ1.1 19).toInt) 14) (μ1.2.1 27) m r) T := by
    intro j
    induction j with
    | zero => intro f x3 ν hj; omega
    | succ j ih =>
      intro f x3 ν hj pν hL
      have e8 := eq_i (pν.1.1.1 8 rfl)
      have t8 := pν.ps.2.2.1.2
      have at1 := pν.ps.at
      have uν := pν.2
      have lν := pν.l19
      have xν := pν.px
      have yν := tT pν
      have bν := pν.ps.2.2.2.2.2.1.1
      refine v_cases_4 _ _ _ (MC.mono (c_is (by omega) pν.ps) (fun r ν1 hk => ?_) (fun _ h => h))
      obtain ⟨rfl, rfl⟩ := hk
      have hTν : ∀ μ1, kf SPA RPA ν1 μ1 → T μ1 := fun _ h => hT _ (pν.1.1.tr h)
      refine ⟨fun _ => ⟨pν, hL.lst⟩, fun h1 => MC.mono (t_next (by omega) pν.ps (by rw [is_t h1]; decide) hTν) (fun _ κ1 hk => ?_) (fun _ h => h)⟩
      obtain ⟨m1, m2, m3⟩ := hk
      have u1 := m1.2
      refine MC.mono (t_node (by omega) m1.ps (by omega)) (fun s κ0 hk => ?_) (fun _ h => h)
      obtain ⟨q1, ⟨q2, s0⟩, q3, q4, q5, q6⟩ := hk
      have hcs := @ic s
      have s9 : s.toInt < 15990 := by omega
      have p0 : TR (-1) 0 0 0 0 (-1) ν1 κ0 := m1.tr q1 (Or.inl (by decide)) rfl rfl rfl rfl (by omega)
      have lt0 : s.toInt < (κ0.1 19).toInt := by omega
      refine ⟨fun h => absurd rfl h, fun _ => ?_⟩
      have x612 := p0.px
      have u613 := p0.2
      have y614 := tT p0
      have z615 := px0 p0.ps
      refine MC.mono (c_qname (by omega) p0.ps (by omega) (fun _ h => hTν _ (p0.1.1.tr h))) (fun r609 κ610 h611 => ?_) (fun _ h => h)
      obtain ⟨⟨z618, z619, z620, z621, z622⟩, z623⟩ := h611
      have q616 : TR (-1) 0 0 0 0 0 κ0 κ610 := ⟨z618, by omega⟩
      have g617 := z621.up (h' := h) (by omega) (Int.le_refl _) (Int.le_refl _)
      have l624 := q616.l19
      have l625 := q616.l32
      have p626 : TR (-1) (0) 0 0 0 (-1) ν1 κ610 := p0.trS q616 (Or.inl (by decide)) rfl rfl rfl rfl (by omega)
      have nd627 := q6.tr q616 (by have := @ic s; omega) (by omega)
      have lt628 : s.toInt < (κ610.1 19).toInt := by omega
      have k629 : Kd κ610 h s.toInt s 7 r609 := Kd.of g617 (by omega) (Int.le_refl _) s0 (Or.inl (by omega))
      have g630 : TR s.toInt 0 0 0 0 0 κ610 (mA1 κ610 22 s.toNatClampNeg r609) := TR.put p626.ps s0 rfl rfl
      have e632 : ((mA1 κ610 22 s.toNatClampNeg r609).1 19).toInt = (κ610.1 19).toInt := rfl
      have e633 : ((mA1 κ610 22 s.toNatClampNeg r609).1 32).toInt = (κ610.1 32).toInt := rfl
      have sr635 : srt (mA1 κ610 22 s.toNatClampNeg r609) = srt κ610 := srt_off rfl
      have nd634 := nd627.pa (x := r609)
      have p636 : TR (-1) (0) 0 0 0 (-1) ν1 (mA1 κ610 22 s.toNatClampNeg r609) := p626.trS g630 (Or.inr (Or.inr (by omega))) rfl rfl rfl rfl (by omega)
      have k637 := k629.tr g630 (Or.inr rfl) s0
      refine ⟨TR.mi p626.ps rfl rfl s0 (by omega), ?_⟩
      generalize mA1 κ610 22 s.toNatClampNeg r609 = κ631 at *
      have lt638 : s.toInt < (κ631.1 19).toInt := by omega
      refine MC.mono (t_open (by omega) p636.ps (by decide) (fun _ h => hTν _ (p636.1.1.tr h))) (fun v639 κ644 h640 => ?_) (fun _ h => h)
      obtain ⟨q641, m642, a643⟩ := h640
      have p645 : TR (-1) (1) 0 0 0 (-3) ν1 κ644 := p636.trS q641 (Or.inl (by decide)) rfl rfl rfl rfl (by omega)
      have k646 := k637.tr q641 (Or.inl (by decide)) s0
      have nd647 := nd634.tr q641 (by have := @ic s; omega) (by omega)
      have lt648 : s.toInt < (κ644.1 19).toInt := by omega
      have u659 := p645.2
      have a660 := p645.ps.at
      refine MC.mono (t_node (by omega) p645.ps (by omega)) (fun x649 κ657 h658 => ?_) (fun _ h => h)
      obtain ⟨q650, ⟨z651, z652⟩, z653, z654, z655, z656⟩ := h658
      have p661 : TR (-1) (1) 0 0 0 (-2) ν1 κ657 := p645.trS q650 (Or.inl (by decide)) rfl rfl rfl rfl (by omega)
      have k662 := k646.tr q650 (Or.inl (by decide)) s0
      have nd663 := nd647.tr q650 (by have := @ic s; omega) (by omega)
      have lt664 : s.toInt < (κ657.1 19).toInt := by omega
      have k665 : Kd κ657 h s.toInt s 6 x649 := Kd.of ((n10 (h := 0) (lo := x649.toInt) (hi := (κ657.1 19).toInt) z652 (Int.le_refl _) (by omega) z656).up (by omega) (Int.le_refl _) (Int.le_refl _)) (by omega) (Int.le_refl _) s0 (Or.inl (by omega))
      have g666 : TR s.toInt 0 0 0 0 0 κ657 (mA1 κ657 23 s.toNatClampNeg x649) := TR.put p661.ps s0 rfl rfl
      have e668 : ((mA1 κ657 23 s.toNatClampNeg x649).1 19).toInt = (κ657.1 19).toInt := rfl
      have e669 : ((mA1 κ657 23 s.toNatClampNeg x649).1 32).toInt = (κ657.1 32).toInt := rfl
      have sr671 : srt (mA1 κ657 23 s.toNatClampNeg x649) = srt κ657 := srt_off rfl
      have nd670 := nd663.pb (x := x649)
      have p672 : TR (-1) (1) 0 0 0 (-2) ν1 (mA1 κ657 23 s.toNatClampNeg x649) := p661.trS g666 (Or.inr (Or.inr (by omega))) rfl rfl rfl rfl (by omega)
      have k673 := k662.tr g666 (Or.inr rfl) s0
      have k674 := k665.tr g666 (Or.inr rfl) s0
      have nx675 := z656.off (g := 23) (t := s.toNatClampNeg) (x := x649) (by have := @ic s; have := @ic x649; omega)
      refine ⟨TR.mi p661.ps rfl rfl s0 (by omega), TR.mi p661.ps rfl rfl s0 (by omega), ?_⟩
      generalize mA1 κ657 23 s.toNatClampNeg x649 = κ667 at *
      have lt676 : s.toInt < (κ667.1 19).toInt := by omega
      refine MC.mono (t_name (by omega) p672.ps (fun _ h => hTν _ (p672.1.1.tr h))) (fun v677 κ682 h678 => ?_) (fun _ h => h)
      obtain ⟨q679, m680, a681⟩ := h678
      have p683 : TR (-1) (1) 0 0 0 (-4) ν1 κ682 := p672.trS q679 (Or.inl (by decide)) rfl rfl rfl rfl (by omega)
      have k684 := k673.tr q679 (Or.inl (by decide)) s0
      have k685 := k674.tr q679 (Or.inl (by decide)) s0
      have nx686 := nx675.tr q679 (by have := @ic x649; omega) (by omega)
      have nd687 := nd670.tr q679 (by have := @ic s; omega) (by omega)
      have lt688 : s.toInt < (κ682.1 19).toInt := by omega
      rw [upd_at]
      have c693 := @ic x649
      have c694 := @ic s
      have g689 : TR x649.toInt 0 0 0 0 0 κ682 (mA1 κ682 22 x649.toNatClampNeg v677) := TR.put p683.ps z652 rfl rfl
      have e691 : ((mA1 κ682 22 x649.toNatClampNeg v677).1 19).toInt = (κ682.1 19).toInt := rfl
      have e692 : ((mA1 κ682 22 x649.toNatClampNeg v677).1 32).toInt = (κ682.1 32).toInt := rfl
      have nd695 := nd687.off (g := 22) (t := x649.toNatClampNeg) (x := v677) (by omega)
      have p696 : TR (-1) (1) 0 0 0 (-4) ν1 (mA1 κ682 22 x649.toNatClampNeg v677) := p683.trS g689 (Or.inr (Or.inr (by omega))) rfl rfl rfl rfl (by omega)
      have k697 := Kd.free0 (t := x649.toNatClampNeg) (y := v677) nx686.1 k684
      have k698 := Kd.free0 (t := x649.toNatClampNeg) (y := v677) nx686.1 k685
      refine ⟨TR.mi p683.ps rfl rfl z652 (by omega), ?_⟩
      generalize mA1 κ682 22 x649.toNatClampNeg v677 = κ690 at *
      have lt699 : s.toInt < (κ690.1 19).toInt := by omega
      have hb700 := p696.b37
      refine MC.mono (t_close (by omega) p696.ps (by decide) (by omega) (fun _ h => hTν _ (p696.1.1.tr h))) (fun v701 κ706 h702 => ?_) (fun _ h => h)
      obtain ⟨q703, m704, a705⟩ := h702
      have p707 : TR (-1) (0) 0 0 0 (-6) ν1 κ706 := p696.trS q703 (Or.inl (by decide)) rfl rfl rfl rfl (by omega)
      have k708 := k697.tr q703 (Or.inl (by decide)) s0
      have k709 := k698.tr q703 (Or.inl (by decide)) s0
      have nd710 := nd695.tr q703 (by have := @ic s; omega) (by omega)
      have lt711 : s.toInt < (κ706.1 19).toInt := by omega
      refine MC.mono (t_expect (by omega) p707.ps (by decide) (fun _ h => hTν _ (p707.1.1.tr h))) (fun v712 κ717 h713 => ?_) (fun _ h => h)
      obtain ⟨q714, m715, a716⟩ := h713
      have p718 : TR (-1) (0) 0 0 0 (-8) ν1 κ717 := p707.trS q714 (Or.inl (by decide)) rfl rfl rfl rfl (by omega)
      have k719 := k708.tr q714 (Or.inl (by decide)) s0
      have k720 := k709.tr q714 (Or.inl (by decide)) s0
      have nd721 := nd710.tr q714 (by have := @ic s; omega) (by omega)
      have lt722 : s.toInt < (κ717.1 19).toInt := by omega
      have x726 := p718.px
      have u727 := p718.2
      have y728 := tT p718
      have z729 := px0 p718.ps
      refine MC.mono (hSt κ717 T h p718.ps (by omega) (by omega) (by omega) (fun _ h => hTν _ (p718.1.1.tr h))) (fun r723 κ724 h725 => ?_) (fun _ h => h)
      obtain ⟨q730, g731⟩ := h725
      have l732 := q730.l19
      have l733 := q730.l32
      have p734 : TR (-1) (0) 0 0 0 (-8) ν1 κ724 := p718.trS q730 (Or.inl (by decide)) rfl rfl rfl rfl (by omega)
      have k735 := k719.tr q730 (Or.inl (by decide)) s0
      have k736 := k720.tr q730 (Or.inl (by decide)) s0
      have nd737 := nd721.tr q730 (by have := @ic s; omega) (by omega)
      have lt738 : s.toInt < (κ724.1 19).toInt := by omega
      have k739 : KL κ724 h s.toInt s 3 r723 := KL.of g731 (by omega) (Int.le_refl _) s0 (Or.inl (by omega))
      have g740 : TR s.toInt 0 0 0 0 0 κ724 (mA1 κ724 24 s.toNatClampNeg r723) := TR.put p734.ps s0 rfl rfl
      have e742 : ((mA1 κ724 24 s.toNatClampNeg r723).1 19).toInt = (κ724.1 19).toInt := rfl
      have e743 : ((mA1 κ724 24 s.toNatClampNeg r723).1 32).toInt = (κ724.1 32).toInt := rfl
      have sr745 : srt (mA1 κ724 24 s.toNatClampNeg r723) = srt κ724 := srt_off rfl
      have nd744 := nd737.pc (x := r723)
      have p746 : TR (-1) (0) 0 0 0 (-8) ν1 (mA1 κ724 24 s.toNatClampNeg r723) := p734.trS g740 (Or.inr (Or.inr (by omega))) rfl rfl rfl rfl (by omega)
      have k747 := k735.tr g740 (Or.inr rfl) s0
      have k748 := k736.tr g740 (Or.inr rfl) s0
      have k749 := k739.tr g740 (Or.inr rfl) s0
      refine ⟨TR.mi p734.ps rfl rfl s0 (by omega), ?_⟩
      generalize mA1 κ724 24 s.toNatClampNeg r723 = κ741 at *
      have lt750 : s.toInt < (κ741.1 19).toInt := by omega
      have eP : G κ741 (h + 1) (bt (ν1.1 19).toInt (κ741.1 19).toInt) 14 s := G.mk s0 (by omega) lt750 nd744 (by decide) (Kd.lo k747 (by omega)) (Kd.lo k748 (by omega)) (KL.lo k749 (by omega)) True.intro True.intro
      have pμ : TR (-1) 0 0 0 0 0 μ κ741 := pν.trS p746 (Or.inl (by decide)) rfl rfl rfl rfl (by omega)
      have p9 : TR (-1) 0 0 0 0 0 ν1 κ741 := ⟨p746.1, by have := p746.2; omega⟩
      have l9 : (ν1.1 32).toInt < (κ741.1 32).toInt := by omega
      refine ⟨fun hx1 => ?_, fun hx1 => ?_⟩
      · rcases hL.sg with ⟨w1, -⟩ | ⟨w1, w2⟩
        · rw [w1] at hx1; exact absurd hx1 (by decide)
        obtain ⟨i1, i2, i3⟩ := hL.in w2
        have hc2 := @ic x3
        have g9 : TR x3.toInt 0 0 0 0 0 κ741 (mA1 κ741 27 x3.toNatClampNeg s) := TR.put pμ.ps w2 rfl rfl
        exact ⟨TR.mi p734.ps rfl rfl w2 (by omega), ih f s _ (by show ((μ.1 8).toInt - (κ741.1 32).toInt).toNat < j; omega) (pμ.tr g9 (Or.inr (by omega)) rfl rfl rfl rfl (by omega)) (hL.add w2 p9 (by omega) eP nd744.2.2.2.2.2.2)⟩
      · have hf : f = -1 := by
          rcases hL.sg with ⟨w1, -⟩ | ⟨w1, -⟩
          · exact w1
          · omega
        exact ih s s _ (by omega) pμ (OL.one (eP.up (Nat.le_refl _) (by omega) (Int.le_refl _)) (by omega) nd744.2.2.2.2.2.2)
  exact me_meth (by omega) rfl (v_cases_0 _ (key _ (-1) (-1) μ (Nat.lt_succ_self _) (TR.rf hS) OL.nil))
theorem st_cases61 (hY : NodC X W P 312 0 9 0 d) (hSt : SL X W P 321 [] 3 19 11 d) : SL X W P 328 [.int 61] 15 20 12 (d + 1) := fun μ T h9 hS hd hh hn hT => by
  have hp := px0 hS
  have h0 := hS.2.2.2.2.1
  have at0 := hS.at
  obtain ⟨h, rfl⟩ : ∃ h, h9 = h + 1 := ⟨h9 - 1, by omega⟩
  have key : ∀ (j : Nat) (f x3 : Int32) (ν : MS), ((μ.1 8).toInt - (ν.1 32).toInt).toNat < j → TR (-1) 0 0 0 0 0 μ ν → OL 15 (h + 1) (μ.1 19).toInt ν f x3 → ME X W true d 328 4 [(0, .ref P.1), (1, .int 61), (2, .int f), (3, .int x3)] [] P ν (fun r μ1 => TR (-1) 0 0 0 0 0 μ μ1 ∧ ∃ m, Lst (G μ1 (h + 1) (bt (μ.1 19).toInt (μ1.1 19).toInt) 15) (μ1.2.1 27) m r) T := by
    intro j
    induction j with
    | zero => intro f x3 ν hj; omega
    | succ j ih =>
      intro f x3 ν hj pν hL
      have e8 := eq_i (pν.1.1.1 8 rfl)
      have t8 := pν.ps.2.2.1.2
      have at1 := pν.ps.at
      have uν := pν.2
      have lν := pν.l19
      have xν := pν.px
      have yν := tT pν
      have bν := pν.ps.2.2.2.2.2.1.1
      refine v_cases_4 _ _ _ (MC.mono (c_is (by omega) pν.ps) (fun r ν1 hk => ?_) (fun _ h => h))
      obtain ⟨rfl, rfl⟩ := hk
      have hTν : ∀ μ1, kf SPA RPA ν1 μ1 → T μ1 := fun _ h => hT _ (pν.1.1.tr h)
      refine ⟨fun _ => ⟨pν, hL.lst⟩, fun h1 => MC.mono (t_next (by omega) pν.ps (by rw [is_t h1]; decide) hTν) (fun _ κ1 hk => ?_) (fun _ h => h)⟩
      obtain ⟨m1, m2, m3⟩ := hk
      have u1 := m1.2
      refine MC.mono (t_node (by omega) m1.ps (by omega)) (fun s κ0 hk => ?_) (fun _ h => h)
      obtain ⟨q1, ⟨q2, s0⟩, q3, q4, q5, q6⟩ := hk
      have hcs := @ic s
      have s9 : s.toInt < 15990 := by omega
      have p0 : TR (-1) 0 0 0 0 (-1) ν1 κ0 := m1.tr q1 (Or.inl (by decide)) rfl rfl rfl rfl (by omega)
      have lt0 : s.toInt < (κ0.1 19).toInt := by omega
      refine ⟨fun _ => ?_, fun h => absurd h (by decide)⟩
      have x754 := p0.px
      have u755 := p0.2
      have y756 := tT p0
      have z757 := px0 p0.ps
      refine MC.mono (hY κ0 T h p0.ps (by omega) (by omega) (by omega) (fun _ h => hTν _ (p0.1.1.tr h))) (fun r751 κ752 h753 => ?_) (fun _ h => h)
      obtain ⟨z760, z761, z762, z763, z764⟩ := h753
      have q758 : TR (-1) 0 0 0 0 0 κ0 κ752 := ⟨z760, by omega⟩
      have g759 := z763
      have l765 := q758.l19
      have l766 := q758.l32
      have p767 : TR (-1) (0) 0 0 0 (-1) ν1 κ752 := p0.trS q758 (Or.inl (by decide)) rfl rfl rfl rfl (by omega)
      have nd768 := q6.tr q758 (by have := @ic s; omega) (by omega)
      have lt769 : s.toInt < (κ752.1 19).toInt := by omega
      have k770 : Kd κ752 h s.toInt s 0 r751 := Kd.of g759 (by omega) (Int.le_refl _) s0 (Or.inl (by omega))
      have g771 : TR s.toInt 0 0 0 0 0 κ752 (mA1 κ752 22 s.toNatClampNeg r751) := TR.put p767.ps s0 rfl rfl
      have e773 : ((mA1 κ752 22 s.toNatClampNeg r751).1 19).toInt = (κ752.1 19).toInt := rfl
      have e774 : ((mA1 κ752 22 s.toNatClampNeg r751).1 32).toInt = (κ752.1 32).toInt := rfl
      have sr776 : srt (mA1 κ752 22 s.toNatClampNeg r751) = srt κ752 := srt_off rfl
      have nd775 := nd768.pa (x := r751)
      have p777 : TR (-1) (0) 0 0 0 (-1) ν1 (mA1 κ752 22 s.toNatClampNeg r751) := p767.trS g771 (Or.inr (Or.inr (by omega))) rfl rfl rfl rfl (by omega)
      have k778 := k770.tr g771 (Or.inr rfl) s0
      refine ⟨TR.mi p767.ps rfl rfl s0 (by omega), ?_⟩
      generalize mA1 κ752 22 s.toNatClampNeg r751 = κ772 at *
      have lt779 : s.toInt < (κ772.1 19).toInt := by omega
      refine MC.mono (t_open (by omega) p777.ps (by decide) (fun _ h => hTν _ (p777.1.1.tr h))) (fun v780 κ785 h781 => ?_) (fun _ h => h)
      obtain ⟨q782, m783, a784⟩ := h781
      have p786 : TR (-1) (1) 0 0 0 (-3) ν1 κ785 := p777.trS q782 (Or.inl (by decide)) rfl rfl rfl rfl (by omega)
      have k787 := k778.tr q782 (Or.inl (by decide)) s0
      have nd788 := nd775.tr q782 (by have := @ic s; omega) (by omega)
      have lt789 : s.toInt < (κ785.1 19).toInt := by omega
      have u800 := p786.2
      have a801 := p786.ps.at
      refine MC.mono (t_node (by omega) p786.ps (by omega)) (fun x790 κ798 h799 => ?_) (fun _ h => h)
      obtain ⟨q791, ⟨z792, z793⟩, z794, z795, z796, z797⟩ := h799
      have p802 : TR (-1) (1) 0 0 0 (-2) ν1 κ798 := p786.trS q791 (Or.inl (by decide)) rfl rfl rfl rfl (by omega)
      have k803 := k787.tr q791 (Or.inl (by decide)) s0
      have nd804 := nd788.tr q791 (by have := @ic s; omega) (by omega)
      have lt805 : s.toInt < (κ798.1 19).toInt := by omega
      have k806 : Kd κ798 h s.toInt s 6 x790 := Kd.of ((n10 (h := 0) (lo := x790.toInt) (hi := (κ798.1 19).toInt) z793 (Int.le_refl _) (by omega) z797).up (by omega) (Int.le_refl _) (Int.le_refl _)) (by omega) (Int.le_refl _) s0 (Or.inl (by omega))
      have g807 : TR s.toInt 0 0 0 0 0 κ798 (mA1 κ798 23 s.toNatClampNeg x790) := TR.put p802.ps s0 rfl rfl
      have e809 : ((mA1 κ798 23 s.toNatClampNeg x790).1 19).toInt = (κ798.1 19).toInt := rfl
      have e810 : ((mA1 κ798 23 s.toNatClampNeg x790).1 32).toInt = (κ798.1 32).toInt := rfl
      have sr812 : srt (mA1 κ798 23 s.toNatClampNeg x790) = srt κ798 := srt_off rfl
      have nd811 := nd804.pb (x := x790)
      have p813 : TR (-1) (1) 0 0 0 (-2) ν1 (mA1 κ798 23 s.toNatClampNeg x790) := p802.trS g807 (Or.inr (Or.inr (by omega))) rfl rfl rfl rfl (by omega)
      have k814 := k803.tr g807 (Or.inr rfl) s0
      have k815 := k806.tr g807 (Or.inr rfl) s0
      have nx816 := z797.off (g := 23) (t := s.toNatClampNeg) (x := x790) (by have := @ic s; have := @ic x790; omega)
      refine ⟨TR.mi p802.ps rfl rfl s0 (by omega), TR.mi p802.ps rfl rfl s0 (by omega), ?_⟩
      generalize mA1 κ798 23 s.toNatClampNeg x790 = κ808 at *
      have lt817 : s.toInt < (κ808.1 19).toInt := by omega
      refine MC.mono (t_name (by omega) p813.ps (fun _ h => hTν _ (p813.1.1.tr h))) (fun v818 κ823 h819 => ?_) (fun _ h => h)
      obtain ⟨q820, m821, a822⟩ := h819
      have p824 : TR (-1) (1) 0 0 0 (-4) ν1 κ823 := p813.trS q820 (Or.inl (by decide)) rfl rfl rfl rfl (by omega)
      have k825 := k814.tr q820 (Or.inl (by decide)) s0
      have k826 := k815.tr q820 (Or.inl (by decide)) s0
      have nx827 := nx816.tr q820 (by have := @ic x790; omega) (by omega)
      have nd828 := nd811.tr q820 (by have := @ic s; omega) (by omega)
      have lt829 : s.toInt < (κ823.1 19).toInt := by omega
      rw [upd_at]
      have c834 := @ic x790
      have c835 := @ic s
      have g830 : TR x790.toInt 0 0 0 0 0 κ823 (mA1 κ823 22 x790.toNatClampNeg v818) := TR.put p824.ps z793 rfl rfl
      have e832 : ((mA1 κ823 22 x790.toNatClampNeg v818).1 19).toInt = (κ823.1 19).toInt := rfl
      have e833 : ((mA1 κ823 22 x790.toNatClampNeg v818).1 32).toInt = (κ823.1 32).toInt := rfl
      have nd836 := nd828.off (g := 22) (t := x790.toNatClampNeg) (x := v818) (by omega)
      have p837 : TR (-1) (1) 0 0 0 (-4) ν1 (mA1 κ823 22 x790.toNatClampNeg v818) := p824.trS g830 (Or.inr (Or.inr (by omega))) rfl rfl rfl rfl (by omega)
      have k838 := Kd.free0 (t := x790.toNatClampNeg) (y := v818) nx827.1 k825
      have k839 := Kd.free0 (t := x790.toNatClampNeg) (y := v818) nx827.1 k826
      refine ⟨TR.mi p824.ps rfl rfl z793 (by omega), ?_⟩
      generalize mA1 κ823 22 x790.toNatClampNeg v818 = κ831 at *
      have lt840 : s.toInt < (κ831.1 19).toInt := by omega
      have hb841 := p837.b37
      refine MC.mono (t_close (by omega) p837.ps (by decide) (by omega) (fun _ h => hTν _ (p837.1.1.tr h))) (fun v842 κ847 h843 => ?_) (fun _ h => h)
      obtain ⟨q844, m845, a846⟩ := h843
      have p848 : TR (-1) (0) 0 0 0 (-6) ν1 κ847 := p837.trS q844 (Or.inl (by decide)) rfl rfl rfl rfl (by omega)
      have k849 := k838.tr q844 (Or.inl (by decide)) s0
      have k850 := k839.tr q844 (Or.inl (by decide)) s0
      have nd851 := nd836.tr q844 (by have := @ic s; omega) (by omega)
      have lt852 : s.toInt < (κ847.1 19).toInt := by omega
      refine MC.mono (t_expect (by omega) p848.ps (by decide) (fun _ h => hTν _ (p848.1.1.tr h))) (fun v853 κ858 h854 => ?_) (fun _ h => h)
      obtain ⟨q855, m856, a857⟩ := h854
      have p859 : TR (-1) (0) 0 0 0 (-8) ν1 κ858 := p848.trS q855 (Or.inl (by decide)) rfl rfl rfl rfl (by omega)
      have k860 := k849.tr q855 (Or.inl (by decide)) s0
      have k861 := k850.tr q855 (Or.inl (by decide)) s0
      have nd862 := nd851.tr q855 (by have := @ic s; omega) (by omega)
      have lt863 : s.toInt < (κ858.1 19).toInt := by omega
      have x867 := p859.px
      have u868 := p859.2
      have y869 := tT p859
      have z870 := px0 p859.ps
      refine MC.mono (hSt κ858 T h p859.ps (by omega) (by omega) (by omega) (fun _ h => hTν _ (p859.1.1.tr h))) (fun r864 κ865 h866 => ?_) (fun _ h => h)
      obtain ⟨q871, g872⟩ := h866
      have l873 := q871.l19
      have l874 := q871.l32
      have p875 : TR (-1) (0) 0 0 0 (-8) ν1 κ865 := p859.trS q871 (Or.inl (by decide)) rfl rfl rfl rfl (by omega)
      have k876 := k860.tr q871 (Or.inl (by decide)) s0
      have k877 := k861.tr q871 (Or.inl (by decide)) s0
      have nd878 := nd862.tr q871 (by have := @ic s; omega) (by omega)
      have lt879 : s.toInt < (κ865.1 19).toInt := by omega
      have k880 : KL κ865 h s.toInt s 3 r864 := KL.of g872 (by omega) (Int.le_refl _) s0 (Or.inl (by omega))
      have g881 : TR s.toInt 0 0 0 0 0 κ865 (mA1 κ865 24 s.toNatClampNeg r864) := TR.put p875.ps s0 rfl rfl
      have e883 : ((mA1 κ865 24 s.toNatClampNeg r864).1 19).toInt = (κ865.1 19).toInt := rfl
      have e884 : ((mA1 κ865 24 s.toNatClampNeg r864).1 32).toInt = (κ865.1 32).toInt := rfl
      have sr886 : srt (mA1 κ865 24 s.toNatClampNeg r864) = srt κ865 := srt_off rfl
      have nd885 := nd878.pc (x := r864)
      have p887 : TR (-1) (0) 0 0 0 (-8) ν1 (mA1 κ865 24 s.toNatClampNeg r864) := p875.trS g881 (Or.inr (Or.inr (by omega))) rfl rfl rfl rfl (by omega)
      have k888 := k876.tr g881 (Or.inr rfl) s0
      have k889 := k877.tr g881 (Or.inr rfl) s0
      have k890 := k880.tr g881 (Or.inr rfl) s0
      refine ⟨TR.mi p875.ps rfl rfl s0 (by omega), ?_⟩
      generalize mA1 κ865 24 s.toNatClampNeg r864 = κ882 at *
      have lt891 : s.toInt < (κ882.1 19).toInt := by omega
      have eP : G κ882 (h + 1) (bt (ν1.1 19).toInt (κ882.1 19).toInt) 15 s := G.mk s0 (by omega) lt891 nd885 (by decide) (Kd.lo k888 (by omega)) (Kd.lo k889 (by omega)) (KL.lo k890 (by omega)) True.intro True.intro
      have pμ : TR (-1) 0 0 0 0 0 μ κ882 := pν.trS p887 (Or.inl (by decide)) rfl rfl rfl rfl (by omega)
      have p9 : TR (-1) 0 0 0 0 0 ν1 κ882 := ⟨p887.1, by have := p887.2; omega⟩
      have l9 : (ν1.1 32).toInt < (κ882.1 32).toInt := by omega
      refine ⟨fun hx1 => ?_, fun hx1 => ?_⟩
      · rcases hL.sg with ⟨w1, -⟩ | ⟨w1, w2⟩
        · rw [w1] at hx1; exact absurd hx1 (by decide)
        obtain ⟨i1, i2, i3⟩ := hL.in w2
        have hc2 := @ic x3
        have g9 : TR x3.toInt 0 0 0 0 0 κ882 (mA1 κ882 27 x3.toNatClampNeg s) := TR.put pμ.ps w2 rfl rfl
        exact ⟨TR.mi p875.ps rfl rfl w2 (by omega), ih f s _ (by show ((μ.1 8).toInt - (κ882.1 32).toInt).toNat < j; omega) (pμ.tr g9 (Or.inr (by omega)) rfl rfl rfl rfl (by omega)) (hL.add w2 p9 (by omega) eP nd885.2.2.2.2.2.2)⟩
      · have hf : f = -1 := by
          rcases hL.sg with ⟨w1, -⟩ | ⟨w1, -⟩
          · exact w1
          · omega
        exact ih s s _ (by omega) pμ (OL.one (eP.up (Nat.le_refl _) (by omega) (Int.le_refl _)) (by omega) nd885.2.2.2.2.2.2)
  exact me_meth (by omega) rfl (v_cases_0 _ (key _ (-1) (-1) μ (Nat.lt_succ_self _) (TR.rf hS) OL.nil))
theorem st_statements (hC : SC X W P 322 3 22 14 d) : SL X W P 321 [] 3 19 11 (d + 1) := fun μ T h hS hd hh hn hT => by
  have hp := px0 hS
  have h0 := hS.2.2.2.2.1
  have at0 := hS.at
  have b40 := hS.2.2.2.2.2.2.2.2
  have key : ∀ (j : Nat) (f x2 : Int32) (ν : MS), ((μ.1 8).toInt - (ν.1 32).toInt).toNat < j → TR (-1) 0 0 0 0 0 μ ν → OL 3 h (μ.1 19).toInt ν f x2 → ME X W true d 321 4 [(0, .ref P.1), (1, .int f), (2, .int x2)] [] P ν (fun r μ1 => TR (-1) 0 0 0 0 0 μ μ1 ∧ ∃ m, Lst (G μ1 h (bt (μ.1 19).toInt (μ1.1 19).toInt) 3) (μ1.2.1 27) m r) T := by
    intro j
    induction j with
    | zero => intro f x2 ν hj; omega
    | succ j ih =>
      intro f x2 ν hj pν hL
      have e8 := eq_i (pν.1.1.1 8 rfl)
      have t8 := pν.ps.2.2.1.2
      have at1 := pν.ps.at
      have uν := pν.2
      have lν := pν.l19
      have b4 := pν.1.2.2.2.2.2.2.2.2.1
      refine v_statements_4 _ _ (MC.mono (c_beginsStatement (by omega) pν.ps) (fun r ν1 hk => ?_) (fun _ h => h))
      obtain ⟨rfl, hb⟩ := hk
      refine ⟨fun _ => ⟨pν, hL.lst⟩, fun h1 => ⟨fun h20 => ?_, fun _ => MC.mono (c_line (by omega) pν.ps.1 at1.1 at1.2) (fun r2 ν2 h2 => ?_) (fun _ h => h)⟩⟩
      · have h20 := ne_i h20
        rw [show (20 : Int32).toInt = 20 from rfl] at h20
        have e4 : (ν1.1 40 + 1).toInt = (ν1.1 40).toInt + 1 := ia1 (by omega)
        have g1 : TR (-1) 0 0 0 1 0 ν1 (mS1 ν1 40 (ν1.1 40 + 1)) := TR.s40 pν.ps e4 (by omega) (by omega)
        refine MC.mono (c_line (by omega) g1.ps.1 at1.1 at1.2) (fun r2 ν2 h2 => ?_) (fun _ h => h)
        subst h2
        have g2 : TR (-1) 0 0 0 1 0 ν1 (mS1 (mS1 ν1 40 (ν1.1 40 + 1)) 34 r2) := g1.tr (TR.s34 g1.ps) (Or.inl (by decide)) rfl rfl rfl rfl (by omega)
        have p2 : TR (-1) 0 0 0 1 0 μ (mS1 (mS1 ν1 40 (ν1.1 40 + 1)) 34 r2) := pν.tr g2 (Or.inl (by decide)) rfl rfl rfl rfl (by omega)
        have x2' := p2.px
        have e19 : ((mS1 (mS1 ν1 40 (ν1.1 40 + 1)) 34 r2).1 19).toInt = (ν1.1 19).toInt := rfl
        have e32 : ((mS1 (mS1 ν1 40 (ν1.1 40 + 1)) 34 r2).1 32).toInt = (ν1.1 32).toInt := rfl
        refine MC.mono (hC _ T h p2.ps (by omega) (by omega) (by omega) (fun _ h => hT _ (p2.1.1.tr h)) (hb h1)) (fun r3 ν3 h3 => ?_) (fun _ h => h)
        obtain ⟨v1, v2, v3, v4⟩ := h3
        have p3 : TR (-1) 0 0 0 1 0 μ ν3 := p2.tr v1 (Or.inl (by decide)) rfl rfl rfl rfl (by omega)
        have g3 : TR (-1) 0 0 0 1 0 ν1 ν3 := g2.tr v1 (Or.inl (by decide)) rfl rfl rfl rfl (by omega)
        have b3 := p3.1.2.2.2.2.2.2.2.2.1
        have l3 := v1.l19
        have e5 : (ν3.1 40 - 1).toInt = (ν3.1 40).toInt - 1 := by
          rw [ib (by rw [show (1 : Int32).toInt = 1 from rfl]; omega) (by rw [show (1 : Int32).toInt = 1 from rfl]; omega)]; rfl
        have g4 : TR (-1) 0 0 0 0 0 ν3 (mS1 ν3 34 (ν1.1 34)) := TR.s34 p3.ps
        have g5 : TR (-1) 0 0 0 (-1) 0 (mS1 ν3 34 (ν1.1 34)) (mS1 (mS1 ν3 34 (ν1.1 34)) 40 (ν3.1 40 - 1)) := TR.s40 g4.ps (by show _ = (ν3.1 40).toInt + _; omega) (by omega) (by omega)
        have p5 : TR (-1) 0 0 0 0 0 μ (mS1 (mS1 ν3 34 (ν1.1 34)) 40 (ν3.1 40 - 1)) := (p3.tr g4 (Or.inl (by decide)) rfl rfl rfl rfl (Int.le_refl _)).tr g5 (Or.inl (by decide)) rfl rfl rfl rfl (by omega)
        have k5 : TR (-1) 0 0 0 0 0 ν1 (mS1 (mS1 ν3 34 (ν1.1 34)) 40 (ν3.1 40 - 1)) := (g3.tr g4 (Or.inl (by decide)) rfl rfl rfl rfl (Int.le_refl _)).tr g5 (Or.inl (by decide)) rfl rfl rfl rfl (by omega)
        have eG : G (mS1 (mS1 ν3 34 (ν1.1 34)) 40 (ν3.1 40 - 1)) h (bt (ν1.1 19).toInt (ν3.1 19).toInt) 3 r3 := G.S (G.S v3)
        have n5 : (mS1 (mS1 ν3 34 (ν1.1 34)) 40 (ν3.1 40 - 1)).2.1 27 r3.toNatClampNeg = -1 := v4
        have e19' : ((mS1 (mS1 ν3 34 (ν1.1 34)) 40 (ν3.1 40 - 1)).1 19).toInt = (ν3.1 19).toInt := rfl
        have e32' : ((mS1 (mS1 ν3 34 (ν1.1 34)) 40 (ν3.1 40 - 1)).1 32).toInt = (ν3.1 32).toInt := rfl
        generalize mS1 (mS1 ν3 34 (ν1.1 34)) 40 (ν3.1 40 - 1) = ν5 at *
        refine MC.mono (t_expect (by omega) p5.ps (by decide) (fun _ h => hT _ (p5.1.1.tr h))) (fun _ ν6 h6 => ?_) (fun _ h => h)
        obtain ⟨m1, m2, m3⟩ := h6
        have p6 : TR (-1) 0 0 0 0 0 μ ν6 := p5.tr m1 (Or.inl (by decide)) rfl rfl rfl rfl (by omega)
        have k6 : TR (-1) 0 0 0 0 0 ν1 ν6 := k5.tr m1 (Or.inl (by decide)) rfl rfl rfl rfl (by omega)
        have eG6 : G ν6 h (bt (ν1.1 19).toInt (ν6.1 19).toInt) 3 r3 := (eG.tr m1 (by omega) (Or.inl (by omega))).up (Nat.le_refl _) (Int.le_refl _) (by omega)
        obtain ⟨i1, i2, i3⟩ := eG6.in
        have hc3 := @ic r3
        have n6 : ν6.2.1 27 r3.toNatClampNeg = -1 := by rw [m1.rb 27 (by omega) (by omega) _ (by omega) (by omega)]; exact n5
        have u6 := p6.2
        have at6 := p6.ps.at
        refine ⟨fun hx1 => ?_, fun hx1 => ?_⟩
        · rcases hL.sg with ⟨w1, -⟩ | ⟨w1, w2⟩
          · rw [w1] at hx1; exact absurd hx1 (by decide)
          obtain ⟨j1, j2, j3⟩ := hL.in w2
          have hc2 := @ic x2
          have g9 : TR x2.toInt 0 0 0 0 0 ν6 (mA1 ν6 27 x2.toNatClampNeg r3) := TR.put p6.ps w2 rfl rfl
          exact ⟨TR.mi p6.ps rfl rfl w2 (by omega), ih f r3 _ (by show ((μ.1 8).toInt - (ν6.1 32).toInt).toNat < j; omega) (p6.tr g9 (Or.inr (by omega)) rfl rfl rfl rfl (by omega)) (hL.add w2 k6 (by omega) eG6 n6)⟩
        · have hf : f = -1 := by
            rcases hL.sg with ⟨w1, -⟩ | ⟨w1, -⟩
            · exact w1
            · omega
          exact ih r3 r3 _ (by omega) p6 (OL.one (eG6.up (Nat.le_refl _) (by omega) (Int.le_refl _)) (by omega) n6)
      · subst h2
        exact MC.mono (c_first (by omega) (fun _ h => hT _ (pν.1.1.tr h))) (fun _ _ h => h.elim) (fun _ h => h)
  exact me_meth (by omega) rfl (v_statements_0 (key _ (-1) (-1) μ (Nat.lt_succ_self _) (TR.rf hS) OL.nil))
end PSI
