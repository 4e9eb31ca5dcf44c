/-! contracts of the reference: arms, HANDLERs, BRANCHes, rows of statements -/
section PSI
variable {X : ev_X} {W : Nat → Prop} {d : Nat} {P : MP}
theorem st_arms (hE : XC X W P 332 [] 1 20 12 0 0 d) (hSt : SL X W P 321 [] 3 19 11 d) : ArC X W P (d + 1) := fun μ T h9 hS hd hh hn hT => by
  have hp := px0 hS
  have h0 := hS.2.2.2.2.1
  have at0 := hS.at
  obtain ⟨h, rfl⟩ : ∃ h, h9 = h + 1 := ⟨h9 - 1, by omega⟩
  have fin9 : ∀ (f x2 x4 : Int32) (ν : MS), TR (-1) 0 0 0 0 1 μ ν → OL 13 (h + 1) (μ.1 19).toInt ν f x2 → OC ν (μ.1 19).toInt (ν.1 19).toInt f x2 → 0 ≤ x2.toInt → ME X W true d 323 9 [(0, .ref P.1), (1, .int f), (2, .int x2), (3, .int 0), (4, .int x4)] [] P ν (fun r μ1 => TR (-1) 0 0 0 0 0 μ μ1 ∧ ¬ r = -1 ∧ (∃ m, Lst (G μ1 (h + 1) (bt (μ.1 19).toInt (μ1.1 19).toInt) 13) (μ1.2.1 27) m r) ∧ LCO μ1 (μ.1 19).toInt (μ1.1 19).toInt r) T := fun f x2 x4 ν pν hL hB hx => by
    refine v_arms_9 _ _ _ _ ⟨fun _ => MC.mono (t_expect (by omega) pν.ps (by decide) (fun _ h => hT _ (pν.1.1.tr h))) (fun _ κ hk => ?_) (fun _ h => h), fun h => absurd rfl h⟩
    obtain ⟨m1, m2, m3⟩ := hk
    have l := hL.tr m1 (Or.inl (by omega))
    exact ⟨pν.tr m1 (Or.inl (by decide)) rfl rfl rfl rfl (by omega), fun e => by have := (l.in hx).1; rw [e] at this; exact absurd this (by decide), l.lst, LCO.ub (hB.rb m1.rb (Int.le_refl _) (Or.inl (by omega))).l m2⟩
  have key : ∀ (j : Nat) (f x2 x3 x4 : Int32) (ν : MS), ((μ.1 8).toInt - (ν.1 32).toInt).toNat < j → TR (-1) 0 0 0 0 0 μ ν → OL 13 (h + 1) (μ.1 19).toInt ν f x2 → OC ν (μ.1 19).toInt (ν.1 19).toInt f x2 → ¬ x3 = 0 → ME X W true d 323 9 [(0, .ref P.1), (1, .int f), (2, .int x2), (3, .int x3), (4, .int x4)] [] P ν (fun r μ1 => TR (-1) 0 0 0 0 0 μ μ1 ∧ ¬ r = -1 ∧ (∃ m, Lst (G μ1 (h + 1) (bt (μ.1 19).toInt (μ1.1 19).toInt) 13) (μ1.2.1 27) m r) ∧ LCO μ1 (μ.1 19).toInt (μ1.1 19).toInt r) T := by
    intro j
    induction j with
    | zero => intro f x2 x3 x4 ν hj; omega
    | succ j ih =>
      intro f x2 x3 x4 ν hj pν hL hB hx3
      have e8 := eq_i (pν.1.1.1 8 rfl)
      have t8 := pν.ps.2.2.1.2
      have at1 := pν.ps.at
      have uν := pν.2
      have lν := pν.l19
      have xν := pν.px
      have hTν : ∀ μ1, kf SPA RPA ν μ1 → T μ1 := fun _ h => hT _ (pν.1.1.tr h)
      refine v_arms_9 _ _ _ _ ⟨fun h => absurd h hx3, fun _ => MC.mono (t_node (by omega) pν.ps (by omega)) (fun s κ0 hk => ?_) (fun _ h => h)⟩
      obtain ⟨q1, ⟨q2, s0⟩, q3, q4, q5, q6⟩ := hk
      have hcs := @ic s
      have s9 : s.toInt < 15990 := by omega
      have s106a : ∀ (f' y3 y4 : Int32) (κ : MS), y3 = 0 → TR (-1) 0 0 0 0 1 μ κ → OL 13 (h + 1) (μ.1 19).toInt κ f' s → OC κ (μ.1 19).toInt (κ.1 19).toInt f' s → ME X W true d 323 106 [(0, .ref P.1), (1, .int f'), (2, .int s), (3, .int y3), (4, .int y4), (5, .int s)] [] P κ (fun r μ1 => TR (-1) 0 0 0 0 0 μ μ1 ∧ ¬ r = -1 ∧ (∃ m, Lst (G μ1 (h + 1) (bt (μ.1 19).toInt (μ1.1 19).toInt) 13) (μ1.2.1 27) m r) ∧ LCO μ1 (μ.1 19).toInt (μ1.1 19).toInt r) T := fun f' y3 y4 κ h3 pκ kL kB => by
        subst h3
        refine v_arms_106 _ _ _ _ _ (MC.mono (c_is (by omega) pκ.ps) (fun r κ1 hk => ?_) (fun _ h => h))
        obtain ⟨rfl, rfl⟩ := hk
        exact ⟨fun _ => v_arms_122 _ _ _ _ _ (fin9 f' s _ κ1 pκ kL kB s0), fun h => absurd rfl h⟩
      have s106b : ∀ (f' y4 : Int32) (κ : MS), TR (-1) 0 0 0 0 1 μ κ → (ν.1 32).toInt < (κ.1 32).toInt → ¬ srt κ = 203 → OL 13 (h + 1) (μ.1 19).toInt κ f' s → OC κ (μ.1 19).toInt (κ.1 19).toInt f' s → ME X W true d 323 106 [(0, .ref P.1), (1, .int f'), (2, .int s), (3, .int 1), (4, .int y4), (5, .int s)] [] P κ (fun r μ1 => TR (-1) 0 0 0 0 0 μ μ1 ∧ ¬ r = -1 ∧ (∃ m, Lst (G μ1 (h + 1) (bt (μ.1 19).toInt (μ1.1 19).toInt) 13) (μ1.2.1 27) m r) ∧ LCO μ1 (μ.1 19).toInt (μ1.1 19).toInt r) T := fun f' y4 κ pκ ha hs3 kL kB => by
        refine v_arms_106 _ _ _ _ _ (MC.mono (c_is (by omega) pκ.ps) (fun r κ1 hk => ?_) (fun _ h => h))
        obtain ⟨rfl, rfl⟩ := hk
        refine ⟨fun h => absurd h (by decide), fun _ => MC.mono (t_next (by omega) pκ.ps hs3 (fun _ h => hT _ (pκ.1.1.tr h))) (fun _ κ2 hk => ?_) (fun _ h => h)⟩
        obtain ⟨m1, m2, m3⟩ := hk
        exact v_arms_122 _ _ _ _ _ (ih f' s 1 _ κ2 (by omega) (pκ.tr m1 (Or.inl (by decide)) rfl rfl rfl rfl (by omega)) (kL.tr m1 (Or.inl (by omega))) (by rw [m2]; exact kB.rb m1.rb (Int.le_refl _) (Or.inl (by omega))) (by decide))
      have s74 : ∀ (f' : Int32) (κ : MS), TR (-1) 0 0 0 0 1 μ κ → (x4 = 0 → (ν.1 32).toInt < (κ.1 32).toInt) → OL 13 (h + 1) (μ.1 19).toInt κ f' s → OC κ (μ.1 19).toInt (κ.1 19).toInt f' s → ME X W true d 323 74 [(0, .ref P.1), (1, .int f'), (2, .int x2), (3, .int x3), (4, .int x4), (5, .int s)] [] P κ (fun r μ1 => TR (-1) 0 0 0 0 0 μ μ1 ∧ ¬ r = -1 ∧ (∃ m, Lst (G μ1 (h + 1) (bt (μ.1 19).toInt (μ1.1 19).toInt) 13) (μ1.2.1 27) m r) ∧ LCO μ1 (μ.1 19).toInt (μ1.1 19).toInt r) T := fun f' κ pκ ha kL kB => by
        refine v_arms_74 _ _ _ _ _ ⟨fun _ => v_arms_104 _ _ _ _ _ (s106a f' 0 _ κ rfl pκ kL kB), fun h4 => MC.mono (c_is (by omega) pκ.ps) (fun r κ1 hk => ?_) (fun _ h => h)⟩
        obtain ⟨rfl, rfl⟩ := hk
        refine ⟨fun h1 => v_arms_100 _ _ _ _ _ (s106b f' _ κ1 pκ (ha h4) (by rw [is_t h1]; decide) kL kB), fun _ => MC.mono (c_is (by omega) pκ.ps) (fun r κ2 hk => ?_) (fun _ h => h)⟩
        obtain ⟨rfl, rfl⟩ := hk
        exact ⟨fun _ => v_arms_104 _ _ _ _ _ (s106a f' 0 _ κ2 rfl pκ kL kB), fun h1 => v_arms_100 _ _ _ _ _ (s106b f' _ κ2 pκ (ha h4) (by rw [is_t h1]; decide) kL kB)⟩
      have s45 : ∀ (a : Int32) (κ : MS), TR (-1) 0 0 0 0 1 ν κ → ND κ s.toNatClampNeg 45 a (-1) (-1) (-1) (-1) (-1) → s.toInt < (κ.1 19).toInt → (a = -1 ∨ Kd κ h s.toInt s 1 a) → CVs κ (s.toInt + 1) (κ.1 19).toInt [a] → (x4 = 0 → (ν.1 32).toInt < (κ.1 32).toInt) → ME X W true d 323 45 [(0, .ref P.1), (1, .int f), (2, .int x2), (3, .int x3), (4, .int x4), (5, .int s)] [] P κ (fun r μ1 => TR (-1) 0 0 0 0 0 μ μ1 ∧ ¬ r = -1 ∧ (∃ m, Lst (G μ1 (h + 1) (bt (μ.1 19).toInt (μ1.1 19).toInt) 13) (μ1.2.1 27) m r) ∧ LCO μ1 (μ.1 19).toInt (μ1.1 19).toInt r) T := fun a κ p0 nd0 lt0 hK cvK ha => by
        refine v_arms_45 _ _ _ _ _ ?_
        have x599 := p0.px
        have u600 := p0.2
        have y601 := tT p0
        have z602 := px0 p0.ps
        refine MC.mono (hSt κ T h p0.ps (by omega) (by omega) (by omega) (fun _ h => hTν _ (p0.1.1.tr h))) (fun r596 κ597 h598 => ?_) (fun _ h => h)
        obtain ⟨q603, g604, c605⟩ := h598
        have l606 := q603.l19
        have l607 := q603.l32
        have p608 : TR (-1) (0) 0 0 0 (1) ν κ597 := p0.trS q603 (Or.inl (by decide)) rfl rfl rfl rfl (by omega)
        have cv609 : CVs κ597 (s.toInt + 1) ((κ597).1 19).toInt [r596, a] := cvK.add q603.rb (Int.le_refl _) (Or.inl (by omega)) (by omega) l606 (c605)
        have nd610 := nd0.tr q603 (by have := @ic s; omega) (by omega)
        have lt611 : s.toInt < (κ597.1 19).toInt := by omega
        have k612 : KL κ597 h s.toInt s 3 r596 := KL.of g604 (by omega) (Int.le_refl _) s0 (Or.inl (by omega))
        have hK2 : a = -1 ∨ Kd κ597 h s.toInt s 1 a := hK.imp id (fun k => k.tr q603 (Or.inl (by decide)) s0)
        have g613 : TR s.toInt 0 0 0 0 0 κ597 (mA1 κ597 23 s.toNatClampNeg r596) := TR.put p608.ps s0 rfl rfl
        have e615 : ((mA1 κ597 23 s.toNatClampNeg r596).1 19).toInt = (κ597.1 19).toInt := rfl
        have e616 : ((mA1 κ597 23 s.toNatClampNeg r596).1 32).toInt = (κ597.1 32).toInt := rfl
        have sr618 : srt (mA1 κ597 23 s.toNatClampNeg r596) = srt κ597 := srt_off rfl
        have nd617 := nd610.pb (x := r596)
        have p619 : TR (-1) (0) 0 0 0 (1) ν (mA1 κ597 23 s.toNatClampNeg r596) := p608.trS g613 (Or.inr (Or.inr (by omega))) rfl rfl rfl rfl (by omega)
        have k620 := k612.tr g613 (Or.inr rfl) s0
        have cv621 : CVs (mA1 κ597 23 s.toNatClampNeg r596) (s.toInt + 1) (((mA1 κ597 23 s.toNatClampNeg r596)).1 19).toInt [r596, a] := cv609.st g613.rb (Int.le_refl _) (Or.inl (by omega)) rfl
        have hK3 := hK2.imp id (fun k => k.tr g613 (Or.inr rfl) s0)
        refine ⟨TR.mi p608.ps rfl rfl s0 (by omega), ?_⟩
        generalize mA1 κ597 23 s.toNatClampNeg r596 = κ614 at *
        have lt622 : s.toInt < (κ614.1 19).toInt := by omega
        have eP : G κ614 (h + 1) (bt (ν.1 19).toInt (κ614.1 19).toInt) 13 s := G.mk s0 (by omega) lt622 nd617 (by decide) (hK3.imp id (fun k => Kd.lo k (by omega))) (KL.lo k620 (by omega)) True.intro True.intro True.intro
        have eC : CO κ614 (ν.1 19).toInt (κ614.1 19).toInt s := (CO.fin' (by omega) cv621 s0 ⟨fun h => Par.fb nd617 (by decide) h, fun h => Par.fa nd617 (by decide) h, True.intro⟩ lt622)
        have hB9 := hB.rb p619.rb (Int.le_refl _) (Or.inl (by omega))
        have pμ : TR (-1) 0 0 0 0 1 μ κ614 := pν.trS p619 (Or.inl (by decide)) rfl rfl rfl rfl (by omega)
        refine ⟨fun hx1 => ?_, fun hx1 => ?_⟩
        · rcases hL.sg with ⟨w1, -⟩ | ⟨w1, w2⟩
          · rw [w1] at hx1; exact absurd hx1 (by decide)
          obtain ⟨i1, i2, i3⟩ := hL.in w2
          have hc2 := @ic x2
          have g9 : TR x2.toInt 0 0 0 0 0 κ614 (mA1 κ614 27 x2.toNatClampNeg s) := TR.put p619.ps w2 rfl rfl
          exact ⟨TR.mi p608.ps rfl rfl w2 (by omega), s74 f _ (pμ.tr g9 (Or.inr (by omega)) rfl rfl rfl rfl (by omega)) (fun h4 => by have := ha h4; show _ < (κ614.1 32).toInt; omega) (hL.add w2 p619 (by omega) eP nd617.2.2.2.2.2.2) (hB9.add w2 i2 i3 i1 eC s0 p619.l19 (by rw [p619.rb 27 (by omega) (by omega) _ (by omega) (by omega)]; exact hL.nn w2))⟩
        · have hf : f = -1 := by
            rcases hL.sg with ⟨w1, -⟩ | ⟨w1, -⟩
            · exact w1
            · omega
          refine s74 s _ pμ (fun h4 => by have := ha h4; omega) (OL.one (eP.up (Nat.le_refl _) (by omega) (Int.le_refl _)) (by omega) nd617.2.2.2.2.2.2) ?_
          rcases hB9 with ⟨-, w⟩ | ⟨w, -⟩
          · exact OC.one (eC.ahead w (by omega)) s0
          · rw [hf] at w; exact absurd w (by decide)
      refine ⟨fun hne => s45 (-1) κ0 q1 q6 (by omega) (Or.inl rfl) (CVs.nil (by omega)) (fun h4 => absurd h4 hne), fun h4 => ?_⟩
      have cv0 : CVs κ0 (s.toInt + 1) (κ0.1 19).toInt [] := CVs.nil (by omega)
      have lt0 : s.toInt < (κ0.1 19).toInt := by omega
      have x626 := q1.px
      have u627 := q1.2
      have y628 := tT q1
      have z629 := px0 q1.ps
      refine MC.mono (hE κ0 T h q1.ps (by omega) (by omega) (by omega) (fun _ h => hTν _ (q1.1.1.tr h))) (fun r623 κ624 h625 => ?_) (fun _ h => h)
      obtain ⟨q630, a632, g631, n633, c634⟩ := h625
      have l635 := q630.l19
      have l636 := q630.l32
      have p637 : TR (-1) (0) 0 0 0 (1) ν κ624 := q1.trS q630 (Or.inl (by decide)) rfl rfl rfl rfl (by omega)
      have cv638 : CVs κ624 (s.toInt + 1) ((κ624).1 19).toInt [r623] := cv0.add q630.rb (Int.le_refl _) (Or.inl (by omega)) (by omega) l635 (LCO.of g631.in.1 c634)
      have nd639 := q6.tr q630 (by have := @ic s; omega) (by omega)
      have lt640 : s.toInt < (κ624.1 19).toInt := by omega
      have k641 : Kd κ624 h s.toInt s 1 r623 := Kd.of g631 (by omega) (Int.le_refl _) s0 (Or.inl (by omega)) n633
      have g642 : TR s.toInt 0 0 0 0 0 κ624 (mA1 κ624 22 s.toNatClampNeg r623) := TR.put p637.ps s0 rfl rfl
      have e644 : ((mA1 κ624 22 s.toNatClampNeg r623).1 19).toInt = (κ624.1 19).toInt := rfl
      have e645 : ((mA1 κ624 22 s.toNatClampNeg r623).1 32).toInt = (κ624.1 32).toInt := rfl
      have sr647 : srt (mA1 κ624 22 s.toNatClampNeg r623) = srt κ624 := srt_off rfl
      have nd646 := nd639.pa (x := r623)
      have p648 : TR (-1) (0) 0 0 0 (1) ν (mA1 κ624 22 s.toNatClampNeg r623) := p637.trS g642 (Or.inr (Or.inr (by omega))) rfl rfl rfl rfl (by omega)
      have k649 := k641.tr g642 (Or.inr rfl) s0
      have cv650 : CVs (mA1 κ624 22 s.toNatClampNeg r623) (s.toInt + 1) (((mA1 κ624 22 s.toNatClampNeg r623)).1 19).toInt [r623] := cv638.st g642.rb (Int.le_refl _) (Or.inl (by omega)) rfl
      refine ⟨TR.mi p637.ps rfl rfl s0 (by omega), ?_⟩
      generalize mA1 κ624 22 s.toNatClampNeg r623 = κ643 at *
      have lt651 : s.toInt < (κ643.1 19).toInt := by omega
      refine MC.mono (t_expect (by omega) p648.ps (by decide) (fun _ h => hTν _ (p648.1.1.tr h))) (fun v652 κ657 h653 => ?_) (fun _ h => h)
      obtain ⟨q654, m655, a656⟩ := h653
      have p658 : TR (-1) (0) 0 0 0 (-1) ν κ657 := p648.trS q654 (Or.inl (by decide)) rfl rfl rfl rfl (by omega)
      have k659 := k649.tr q654 (Or.inl (by decide)) s0
      have cv660 : CVs κ657 (s.toInt + 1) ((κ657).1 19).toInt [r623] := cv650.st q654.rb (Int.le_refl _) (Or.inl (by omega)) m655
      have nd661 := nd646.tr q654 (by have := @ic s; omega) (by omega)
      have lt662 : s.toInt < (κ657.1 19).toInt := by omega
      exact s45 r623 κ657 ⟨p658.1, by have := p658.2; omega⟩ nd661 lt662 (Or.inr k659) cv660 (fun _ => by omega)
  exact me_meth (by omega) rfl (v_arms_0 (key _ (-1) (-1) 1 0 μ (Nat.lt_succ_self _) (TR.rf hS) OL.nil (Or.inl ⟨rfl, NS.nil (Int.le_refl _)⟩) (by decide)))
theorem st_cases52 (hSt : SL X W P 321 [] 3 19 11 d) : SL X W P 328 [.int 52] 14 20 12 (d + 1) := fun μ T h9 hS hd hh hn hT => by
  have hp := px0 hS
  have h0 := hS.2.2.2.2.1
  have at0 := hS.at
  obtain ⟨h, rfl⟩ : ∃ h, h9 = h + 1 := ⟨h9 - 1, by omega⟩
  have key : ∀ (j : Nat) (f x3 : Int32) (ν : MS), ((μ.1 8).toInt - (ν.1 32).toInt).toNat < j → TR (-1) 0 0 0 0 0 μ ν → OL 14 (h + 1) (μ.1 19).toInt ν f x3 → OC ν (μ.1 19).toInt (ν.1 19).toInt f x3 → ME X W true d 328 4 [(0, .ref P.1), (1, .int 52), (2, .int f), (3, .int x3)] [] P ν (fun r μ1 => TR (-1) 0 0 0 0 0 μ μ1 ∧ (∃ m, Lst (G μ1 (h + 1) (bt (μ.1 19).toInt (μ1.1 19).toInt) 14) (μ1.2.1 27) m r) ∧ LCO μ1 (μ.1 19).toInt (μ1.1 19).toInt r) T := by
    intro j
    induction j with
    | zero => intro f x3 ν hj; omega
    | succ j ih =>
      intro f x3 ν hj pν hL hB
      have e8 := eq_i (pν.1.1.1 8 rfl)
      have t8 := pν.ps.2.2.1.2
      have at1 := pν.ps.at
      have uν := pν.2
      have lν := pν.l19
      have xν := pν.px
      have yν := tT pν
      have bν := pν.ps.2.2.2.2.2.1.1
      refine v_cases_4 _ _ _ (MC.mono (c_is (by omega) pν.ps) (fun r ν1 hk => ?_) (fun _ h => h))
      obtain ⟨rfl, rfl⟩ := hk
      have hTν : ∀ μ1, kf SPA RPA ν1 μ1 → T μ1 := fun _ h => hT _ (pν.1.1.tr h)
      refine ⟨fun _ => ⟨pν, hL.lst, hB.l⟩, fun h1 => MC.mono (t_next (by omega) pν.ps (by rw [is_t h1]; decide) hTν) (fun _ κ1 hk => ?_) (fun _ h => h)⟩
      obtain ⟨m1, m2, m3⟩ := hk
      have u1 := m1.2
      refine MC.mono (t_node (by omega) m1.ps (by omega)) (fun s κ0 hk => ?_) (fun _ h => h)
      obtain ⟨q1, ⟨q2, s0⟩, q3, q4, q5, q6⟩ := hk
      have hcs := @ic s
      have s9 : s.toInt < 15990 := by omega
      have p0 : TR (-1) 0 0 0 0 (-1) ν1 κ0 := m1.tr q1 (Or.inl (by decide)) rfl rfl rfl rfl (by omega)
      have lt0 : s.toInt < (κ0.1 19).toInt := by omega
      have cv0 : CVs κ0 (s.toInt + 1) (κ0.1 19).toInt [] := CVs.nil (by omega)
      refine ⟨fun h => absurd rfl h, fun _ => ?_⟩
      have x666 := p0.px
      have u667 := p0.2
      have y668 := tT p0
      have z669 := px0 p0.ps
      refine MC.mono (c_qname (by omega) p0.ps (by omega) (fun _ h => hTν _ (p0.1.1.tr h))) (fun r663 κ664 h665 => ?_) (fun _ h => h)
      obtain ⟨⟨z672, z673, z674, z675, z676⟩, z677, z678⟩ := h665
      have q670 : TR (-1) 0 0 0 0 0 κ0 κ664 := ⟨z672, by omega⟩
      have g671 := z675.up (h' := h) (by omega) (Int.le_refl _) (Int.le_refl _)
      have l679 := q670.l19
      have l680 := q670.l32
      have p681 : TR (-1) (0) 0 0 0 (-1) ν1 κ664 := p0.trS q670 (Or.inl (by decide)) rfl rfl rfl rfl (by omega)
      have cv682 : CVs κ664 (s.toInt + 1) ((κ664).1 19).toInt [] := cv0.ns q670.rb (Int.le_refl _) (Or.inl (by omega)) l679 z678
      have nd683 := q6.tr q670 (by have := @ic s; omega) (by omega)
      have lt684 : s.toInt < (κ664.1 19).toInt := by omega
      have k685 : Kd κ664 h s.toInt s 7 r663 := Kd.of g671 (by omega) (Int.le_refl _) s0 (Or.inl (by omega)) z676
      have g686 : TR s.toInt 0 0 0 0 0 κ664 (mA1 κ664 22 s.toNatClampNeg r663) := TR.put p681.ps s0 rfl rfl
      have e688 : ((mA1 κ664 22 s.toNatClampNeg r663).1 19).toInt = (κ664.1 19).toInt := rfl
      have e689 : ((mA1 κ664 22 s.toNatClampNeg r663).1 32).toInt = (κ664.1 32).toInt := rfl
      have sr691 : srt (mA1 κ664 22 s.toNatClampNeg r663) = srt κ664 := srt_off rfl
      have nd690 := nd683.pa (x := r663)
      have p692 : TR (-1) (0) 0 0 0 (-1) ν1 (mA1 κ664 22 s.toNatClampNeg r663) := p681.trS g686 (Or.inr (Or.inr (by omega))) rfl rfl rfl rfl (by omega)
      have k693 := k685.tr g686 (Or.inr rfl) s0
      have cv694 : CVs (mA1 κ664 22 s.toNatClampNeg r663) (s.toInt + 1) (((mA1 κ664 22 s.toNatClampNeg r663)).1 19).toInt [] := cv682.st g686.rb (Int.le_refl _) (Or.inl (by omega)) rfl
      refine ⟨TR.mi p681.ps rfl rfl s0 (by omega), ?_⟩
      generalize mA1 κ664 22 s.toNatClampNeg r663 = κ687 at *
      have lt695 : s.toInt < (κ687.1 19).toInt := by omega
      refine MC.mono (t_open (by omega) p692.ps (by decide) (fun _ h => hTν _ (p692.1.1.tr h))) (fun v696 κ701 h697 => ?_) (fun _ h => h)
      obtain ⟨q698, m699, a700⟩ := h697
      have p702 : TR (-1) (1) 0 0 0 (-3) ν1 κ701 := p692.trS q698 (Or.inl (by decide)) rfl rfl rfl rfl (by omega)
      have k703 := k693.tr q698 (Or.inl (by decide)) s0
      have cv704 : CVs κ701 (s.toInt + 1) ((κ701).1 19).toInt [] := cv694.st q698.rb (Int.le_refl _) (Or.inl (by omega)) m699
      have nd705 := nd690.tr q698 (by have := @ic s; omega) (by omega)
      have lt706 : s.toInt < (κ701.1 19).toInt := by omega
      have u717 := p702.2
      have a718 := p702.ps.at
      refine MC.mono (t_node (by omega) p702.ps (by omega)) (fun x707 κ715 h716 => ?_) (fun _ h => h)
      obtain ⟨q708, ⟨z709, z710⟩, z711, z712, z713, z714⟩ := h716
      have c719 := @ic x707
      have p720 : TR (-1) (1) 0 0 0 (-2) ν1 κ715 := p702.trS q708 (Or.inl (by decide)) rfl rfl rfl rfl (by omega)
      have k721 := k703.tr q708 (Or.inl (by decide)) s0
      have cv722 : CVs κ715 (s.toInt + 1) ((κ715).1 19).toInt [] := cv704.ns q708.rb (Int.le_refl _) (Or.inl (by omega)) (by omega) (NS.one z714 (by omega) (by omega) (by decide))
      have nd723 := nd705.tr q708 (by have := @ic s; omega) (by omega)
      have lt724 : s.toInt < (κ715.1 19).toInt := by omega
      have k725 : Kd κ715 h s.toInt s 6 x707 := Kd.of ((n10 (h := 0) (lo := x707.toInt) (hi := (κ715.1 19).toInt) z710 (Int.le_refl _) (by omega) z714).up (by omega) (Int.le_refl _) (Int.le_refl _)) (by omega) (Int.le_refl _) s0 (Or.inl (by omega)) z714.2.2.2.2.2.2
      have g726 : TR s.toInt 0 0 0 0 0 κ715 (mA1 κ715 23 s.toNatClampNeg x707) := TR.put p720.ps s0 rfl rfl
      have e728 : ((mA1 κ715 23 s.toNatClampNeg x707).1 19).toInt = (κ715.1 19).toInt := rfl
      have e729 : ((mA1 κ715 23 s.toNatClampNeg x707).1 32).toInt = (κ715.1 32).toInt := rfl
      have sr731 : srt (mA1 κ715 23 s.toNatClampNeg x707) = srt κ715 := srt_off rfl
      have nd730 := nd723.pb (x := x707)
      have p732 : TR (-1) (1) 0 0 0 (-2) ν1 (mA1 κ715 23 s.toNatClampNeg x707) := p720.trS g726 (Or.inr (Or.inr (by omega))) rfl rfl rfl rfl (by omega)
      have k733 := k721.tr g726 (Or.inr rfl) s0
      have k734 := k725.tr g726 (Or.inr rfl) s0
      have cv735 : CVs (mA1 κ715 23 s.toNatClampNeg x707) (s.toInt + 1) (((mA1 κ715 23 s.toNatClampNeg x707)).1 19).toInt [] := cv722.st g726.rb (Int.le_refl _) (Or.inl (by omega)) rfl
      have nx736 := z714.off (g := 23) (t := s.toNatClampNeg) (x := x707) (by have := @ic s; have := @ic x707; omega)
      refine ⟨TR.mi p720.ps rfl rfl s0 (by omega), TR.mi p720.ps rfl rfl s0 (by omega), ?_⟩
      generalize mA1 κ715 23 s.toNatClampNeg x707 = κ727 at *
      have lt737 : s.toInt < (κ727.1 19).toInt := by omega
      refine MC.mono (t_name (by omega) p732.ps (fun _ h => hTν _ (p732.1.1.tr h))) (fun v738 κ743 h739 => ?_) (fun _ h => h)
      obtain ⟨q740, m741, a742⟩ := h739
      have p744 : TR (-1) (1) 0 0 0 (-4) ν1 κ743 := p732.trS q740 (Or.inl (by decide)) rfl rfl rfl rfl (by omega)
      have k745 := k733.tr q740 (Or.inl (by decide)) s0
      have k746 := k734.tr q740 (Or.inl (by decide)) s0
      have cv747 : CVs κ743 (s.toInt + 1) ((κ743).1 19).toInt [] := cv735.st q740.rb (Int.le_refl _) (Or.inl (by omega)) m741
      have nx748 := nx736.tr q740 (by have := @ic x707; omega) (by omega)
      have nd749 := nd730.tr q740 (by have := @ic s; omega) (by omega)
      have lt750 : s.toInt < (κ743.1 19).toInt := by omega
      rw [upd_at]
      have c755 := @ic x707
      have c756 := @ic s
      have g751 : TR x707.toInt 0 0 0 0 0 κ743 (mA1 κ743 22 x707.toNatClampNeg v738) := TR.put p744.ps z710 rfl rfl
      have e753 : ((mA1 κ743 22 x707.toNatClampNeg v738).1 19).toInt = (κ743.1 19).toInt := rfl
      have e754 : ((mA1 κ743 22 x707.toNatClampNeg v738).1 32).toInt = (κ743.1 32).toInt := rfl
      have nd757 := nd749.off (g := 22) (t := x707.toNatClampNeg) (x := v738) (by omega)
      have p758 : TR (-1) (1) 0 0 0 (-4) ν1 (mA1 κ743 22 x707.toNatClampNeg v738) := p744.trS g751 (Or.inr (Or.inr (by omega))) rfl rfl rfl rfl (by omega)
      have k759 := Kd.free0 (t := x707.toNatClampNeg) (y := v738) nx748.1 k745
      have k760 := Kd.free0 (t := x707.toNatClampNeg) (y := v738) nx748.1 k746
      have cv761 : CVs (mA1 κ743 22 x707.toNatClampNeg v738) (s.toInt + 1) ((mA1 κ743 22 x707.toNatClampNeg v738).1 19).toInt [] := cv747.free0 nx748.1
      refine ⟨TR.mi p744.ps rfl rfl z710 (by omega), ?_⟩
      generalize mA1 κ743 22 x707.toNatClampNeg v738 = κ752 at *
      have lt762 : s.toInt < (κ752.1 19).toInt := by omega
      have hb763 := p758.b37
      refine MC.mono (t_close (by omega) p758.ps (by decide) (by omega) (fun _ h => hTν _ (p758.1.1.tr h))) (fun v764 κ769 h765 => ?_) (fun _ h => h)
      obtain ⟨q766, m767, a768⟩ := h765
      have p770 : TR (-1) (0) 0 0 0 (-6) ν1 κ769 := p758.trS q766 (Or.inl (by decide)) rfl rfl rfl rfl (by omega)
      have k771 := k759.tr q766 (Or.inl (by decide)) s0
      have k772 := k760.tr q766 (Or.inl (by decide)) s0
      have cv773 : CVs κ769 (s.toInt + 1) ((κ769).1 19).toInt [] := cv761.st q766.rb (Int.le_refl _) (Or.inl (by omega)) m767
      have nd774 := nd757.tr q766 (by have := @ic s; omega) (by omega)
      have lt775 : s.toInt < (κ769.1 19).toInt := by omega
      refine MC.mono (t_expect (by omega) p770.ps (by decide) (fun _ h => hTν _ (p770.1.1.tr h))) (fun v776 κ781 h777 => ?_) (fun _ h => h)
      obtain ⟨q778, m779, a780⟩ := h777
      have p782 : TR (-1) (0) 0 0 0 (-8) ν1 κ781 := p770.trS q778 (Or.inl (by decide)) rfl rfl rfl rfl (by omega)
      have k783 := k771.tr q778 (Or.inl (by decide)) s0
      have k784 := k772.tr q778 (Or.inl (by decide)) s0
      have cv785 : CVs κ781 (s.toInt + 1) ((κ781).1 19).toInt [] := cv773.st q778.rb (Int.le_refl _) (Or.inl (by omega)) m779
      have nd786 := nd774.tr q778 (by have := @ic s; omega) (by omega)
      have lt787 : s.toInt < (κ781.1 19).toInt := by omega
      have x791 := p782.px
      have u792 := p782.2
      have y793 := tT p782
      have z794 := px0 p782.ps
      refine MC.mono (hSt κ781 T h p782.ps (by omega) (by omega) (by omega) (fun _ h => hTν _ (p782.1.1.tr h))) (fun r788 κ789 h790 => ?_) (fun _ h => h)
      obtain ⟨q795, g796, c797⟩ := h790
      have l798 := q795.l19
      have l799 := q795.l32
      have p800 : TR (-1) (0) 0 0 0 (-8) ν1 κ789 := p782.trS q795 (Or.inl (by decide)) rfl rfl rfl rfl (by omega)
      have k801 := k783.tr q795 (Or.inl (by decide)) s0
      have k802 := k784.tr q795 (Or.inl (by decide)) s0
      have cv803 : CVs κ789 (s.toInt + 1) ((κ789).1 19).toInt [r788] := cv785.add q795.rb (Int.le_refl _) (Or.inl (by omega)) (by omega) l798 (c797)
      have nd804 := nd786.tr q795 (by have := @ic s; omega) (by omega)
      have lt805 : s.toInt < (κ789.1 19).toInt := by omega
      have k806 : KL κ789 h s.toInt s 3 r788 := KL.of g796 (by omega) (Int.le_refl _) s0 (Or.inl (by omega))
      have g807 : TR s.toInt 0 0 0 0 0 κ789 (mA1 κ789 24 s.toNatClampNeg r788) := TR.put p800.ps s0 rfl rfl
      have e809 : ((mA1 κ789 24 s.toNatClampNeg r788).1 19).toInt = (κ789.1 19).toInt := rfl
      have e810 : ((mA1 κ789 24 s.toNatClampNeg r788).1 32).toInt = (κ789.1 32).toInt := rfl
      have sr812 : srt (mA1 κ789 24 s.toNatClampNeg r788) = srt κ789 := srt_off rfl
      have nd811 := nd804.pc (x := r788)
      have p813 : TR (-1) (0) 0 0 0 (-8) ν1 (mA1 κ789 24 s.toNatClampNeg r788) := p800.trS g807 (Or.inr (Or.inr (by omega))) rfl rfl rfl rfl (by omega)
      have k814 := k801.tr g807 (Or.inr rfl) s0
      have k815 := k802.tr g807 (Or.inr rfl) s0
      have k816 := k806.tr g807 (Or.inr rfl) s0
      have cv817 : CVs (mA1 κ789 24 s.toNatClampNeg r788) (s.toInt + 1) (((mA1 κ789 24 s.toNatClampNeg r788)).1 19).toInt [r788] := cv803.st g807.rb (Int.le_refl _) (Or.inl (by omega)) rfl
      refine ⟨TR.mi p800.ps rfl rfl s0 (by omega), ?_⟩
      generalize mA1 κ789 24 s.toNatClampNeg r788 = κ808 at *
      have lt818 : s.toInt < (κ808.1 19).toInt := by omega
      have eP : G κ808 (h + 1) (bt (ν1.1 19).toInt (κ808.1 19).toInt) 14 s := G.mk s0 (by omega) lt818 nd811 (by decide) (Kd.lo k814 (by omega)) (Kd.lo k815 (by omega)) (KL.lo k816 (by omega)) True.intro True.intro
      have eC : CO κ808 (ν1.1 19).toInt (κ808.1 19).toInt s := (CO.fin' (by omega) cv817 s0 ⟨fun h => Par.fc nd811 (by decide) h, True.intro⟩ lt818)
      have hB9 := hB.rb p813.rb (Int.le_refl _) (Or.inl (by omega))
      have pμ : TR (-1) 0 0 0 0 0 μ κ808 := pν.trS p813 (Or.inl (by decide)) rfl rfl rfl rfl (by omega)
      have p9 : TR (-1) 0 0 0 0 0 ν1 κ808 := ⟨p813.1, by have := p813.2; omega⟩
      have l9 : (ν1.1 32).toInt < (κ808.1 32).toInt := by omega
      refine ⟨fun hx1 => ?_, fun hx1 => ?_⟩
      · rcases hL.sg with ⟨w1, -⟩ | ⟨w1, w2⟩
        · rw [w1] at hx1; exact absurd hx1 (by decide)
        obtain ⟨i1, i2, i3⟩ := hL.in w2
        have hc2 := @ic x3
        have g9 : TR x3.toInt 0 0 0 0 0 κ808 (mA1 κ808 27 x3.toNatClampNeg s) := TR.put pμ.ps w2 rfl rfl
        exact ⟨TR.mi p800.ps rfl rfl w2 (by omega), ih f s _ (by show ((μ.1 8).toInt - (κ808.1 32).toInt).toNat < j; omega) (pμ.tr g9 (Or.inr (by omega)) rfl rfl rfl rfl (by omega)) (hL.add w2 p9 (by omega) eP nd811.2.2.2.2.2.2) (hB9.add w2 i2 i3 i1 eC s0 p9.l19 (by rw [p9.rb 27 (by omega) (by omega) _ (by omega) (by omega)]; exact hL.nn w2))⟩
      · have hf : f = -1 := by
          rcases hL.sg with ⟨w1, -⟩ | ⟨w1, -⟩
          · exact w1
          · omega
        refine ih s s _ (by omega) pμ (OL.one (eP.up (Nat.le_refl _) (by omega) (Int.le_refl _)) (by omega) nd811.2.2.2.2.2.2) ?_
        rcases hB9 with ⟨-, w⟩ | ⟨w, -⟩
        · exact OC.one (eC.ahead w (by omega)) s0
        · rw [hf] at w; exact absurd w (by decide)
  exact me_meth (by omega) rfl (v_cases_0 _ (key _ (-1) (-1) μ (Nat.lt_succ_self _) (TR.rf hS) OL.nil (Or.inl ⟨rfl, NS.nil (Int.le_refl _)⟩)))
theorem st_cases61 (hY : NodC X W P 312 0 9 0 d) (hSt : SL X W P 321 [] 3 19 11 d) : SL X W P 328 [.int 61] 15 20 12 (d + 1) := fun μ T h9 hS hd hh hn hT => by
  have hp := px0 hS
  have h0 := hS.2.2.2.2.1
  have at0 := hS.at
  obtain ⟨h, rfl⟩ : ∃ h, h9 = h + 1 := ⟨h9 - 1, by omega⟩
  have key : ∀ (j : Nat) (f x3 : Int32) (ν : MS), ((μ.1 8).toInt - (ν.1 32).toInt).toNat < j → TR (-1) 0 0 0 0 0 μ ν → OL 15 (h + 1) (μ.1 19).toInt ν f x3 → OC ν (μ.1 19).toInt (ν.1 19).toInt f x3 → ME X W true d 328 4 [(0, .ref P.1), (1, .int 61), (2, .int f), (3, .int x3)] [] P ν (fun r μ1 => TR (-1) 0 0 0 0 0 μ μ1 ∧ (∃ m, Lst (G μ1 (h + 1) (bt (μ.1 19).toInt (μ1.1 19).toInt) 15) (μ1.2.1 27) m r) ∧ LCO μ1 (μ.1 19).toInt (μ1.1 19).toInt r) T := by
    intro j
    induction j with
    | zero => intro f x3 ν hj; omega
    | succ j ih =>
      intro f x3 ν hj pν hL hB
      have e8 := eq_i (pν.1.1.1 8 rfl)
      have t8 := pν.ps.2.2.1.2
      have at1 := pν.ps.at
      have uν := pν.2
      have lν := pν.l19
      have xν := pν.px
      have yν := tT pν
      have bν := pν.ps.2.2.2.2.2.1.1
      refine v_cases_4 _ _ _ (MC.mono (c_is (by omega) pν.ps) (fun r ν1 hk => ?_) (fun _ h => h))
      obtain ⟨rfl, rfl⟩ := hk
      have hTν : ∀ μ1, kf SPA RPA ν1 μ1 → T μ1 := fun _ h => hT _ (pν.1.1.tr h)
      refine ⟨fun _ => ⟨pν, hL.lst, hB.l⟩, fun h1 => MC.mono (t_next (by omega) pν.ps (by rw [is_t h1]; decide) hTν) (fun _ κ1 hk => ?_) (fun _ h => h)⟩
      obtain ⟨m1, m2, m3⟩ := hk
      have u1 := m1.2
      refine MC.mono (t_node (by omega) m1.ps (by omega)) (fun s κ0 hk => ?_) (fun _ h => h)
      obtain ⟨q1, ⟨q2, s0⟩, q3, q4, q5, q6⟩ := hk
      have hcs := @ic s
      have s9 : s.toInt < 15990 := by omega
      have p0 : TR (-1) 0 0 0 0 (-1) ν1 κ0 := m1.tr q1 (Or.inl (by decide)) rfl rfl rfl rfl (by omega)
      have lt0 : s.toInt < (κ0.1 19).toInt := by omega
      have cv0 : CVs κ0 (s.toInt + 1) (κ0.1 19).toInt [] := CVs.nil (by omega)
      refine ⟨fun _ => ?_, fun h => absurd h (by decide)⟩
      have x822 := p0.px
      have u823 := p0.2
      have y824 := tT p0
      have z825 := px0 p0.ps
      refine MC.mono (hY κ0 T h p0.ps (by omega) (by omega) (by omega) (fun _ h => hTν _ (p0.1.1.tr h))) (fun r819 κ820 h821 => ?_) (fun _ h => h)
      obtain ⟨⟨z828, z829, z830, z831, z832⟩, c833⟩ := h821
      have q826 : TR (-1) 0 0 0 0 0 κ0 κ820 := ⟨z828, by omega⟩
      have g827 := z831
      have l834 := q826.l19
      have l835 := q826.l32
      have p836 : TR (-1) (0) 0 0 0 (-1) ν1 κ820 := p0.trS q826 (Or.inl (by decide)) rfl rfl rfl rfl (by omega)
      have cv837 : CVs κ820 (s.toInt + 1) ((κ820).1 19).toInt [r819] := cv0.add q826.rb (Int.le_refl _) (Or.inl (by omega)) (by omega) l834 (LCO.of z831.in.1 c833)
      have nd838 := q6.tr q826 (by have := @ic s; omega) (by omega)
      have lt839 : s.toInt < (κ820.1 19).toInt := by omega
      have k840 : Kd κ820 h s.toInt s 0 r819 := Kd.of g827 (by omega) (Int.le_refl _) s0 (Or.inl (by omega)) z832
      have g841 : TR s.toInt 0 0 0 0 0 κ820 (mA1 κ820 22 s.toNatClampNeg r819) := TR.put p836.ps s0 rfl rfl
      have e843 : ((mA1 κ820 22 s.toNatClampNeg r819).1 19).toInt = (κ820.1 19).toInt := rfl
      have e844 : ((mA1 κ820 22 s.toNatClampNeg r819).1 32).toInt = (κ820.1 32).toInt := rfl
      have sr846 : srt (mA1 κ820 22 s.toNatClampNeg r819) = srt κ820 := srt_off rfl
      have nd845 := nd838.pa (x := r819)
      have p847 : TR (-1) (0) 0 0 0 (-1) ν1 (mA1 κ820 22 s.toNatClampNeg r819) := p836.trS g841 (Or.inr (Or.inr (by omega))) rfl rfl rfl rfl (by omega)
      have k848 := k840.tr g841 (Or.inr rfl) s0
      have cv849 : CVs (mA1 κ820 22 s.toNatClampNeg r819) (s.toInt + 1) (((mA1 κ820 22 s.toNatClampNeg r819)).1 19).toInt [r819] := cv837.st g841.rb (Int.le_refl _) (Or.inl (by omega)) rfl
      refine ⟨TR.mi p836.ps rfl rfl s0 (by omega), ?_⟩
      generalize mA1 κ820 22 s.toNatClampNeg r819 = κ842 at *
      have lt850 : s.toInt < (κ842.1 19).toInt := by omega
      refine MC.mono (t_open (by omega) p847.ps (by decide) (fun _ h => hTν _ (p847.1.1.tr h))) (fun v851 κ856 h852 => ?_) (fun _ h => h)
      obtain ⟨q853, m854, a855⟩ := h852
      have p857 : TR (-1) (1) 0 0 0 (-3) ν1 κ856 := p847.trS q853 (Or.inl (by decide)) rfl rfl rfl rfl (by omega)
      have k858 := k848.tr q853 (Or.inl (by decide)) s0
      have cv859 : CVs κ856 (s.toInt + 1) ((κ856).1 19).toInt [r819] := cv849.st q853.rb (Int.le_refl _) (Or.inl (by omega)) m854
      have nd860 := nd845.tr q853 (by have := @ic s; omega) (by omega)
      have lt861 : s.toInt < (κ856.1 19).toInt := by omega
      have u872 := p857.2
      have a873 := p857.ps.at
      refine MC.mono (t_node (by omega) p857.ps (by omega)) (fun x862 κ870 h871 => ?_) (fun _ h => h)
      obtain ⟨q863, ⟨z864, z865⟩, z866, z867, z868, z869⟩ := h871
      have c874 := @ic x862
      have p875 : TR (-1) (1) 0 0 0 (-2) ν1 κ870 := p857.trS q863 (Or.inl (by decide)) rfl rfl rfl rfl (by omega)
      have k876 := k858.tr q863 (Or.inl (by decide)) s0
      have cv877 : CVs κ870 (s.toInt + 1) ((κ870).1 19).toInt [r819] := cv859.ns q863.rb (Int.le_refl _) (Or.inl (by omega)) (by omega) (NS.one z869 (by omega) (by omega) (by decide))
      have nd878 := nd860.tr q863 (by have := @ic s; omega) (by omega)
      have lt879 : s.toInt < (κ870.1 19).toInt := by omega
      have k880 : Kd κ870 h s.toInt s 6 x862 := Kd.of ((n10 (h := 0) (lo := x862.toInt) (hi := (κ870.1 19).toInt) z865 (Int.le_refl _) (by omega) z869).up (by omega) (Int.le_refl _) (Int.le_refl _)) (by omega) (Int.le_refl _) s0 (Or.inl (by omega)) z869.2.2.2.2.2.2
      have g881 : TR s.toInt 0 0 0 0 0 κ870 (mA1 κ870 23 s.toNatClampNeg x862) := TR.put p875.ps s0 rfl rfl
      have e883 : ((mA1 κ870 23 s.toNatClampNeg x862).1 19).toInt = (κ870.1 19).toInt := rfl
      have e884 : ((mA1 κ870 23 s.toNatClampNeg x862).1 32).toInt = (κ870.1 32).toInt := rfl
      have sr886 : srt (mA1 κ870 23 s.toNatClampNeg x862) = srt κ870 := srt_off rfl
      have nd885 := nd878.pb (x := x862)
      have p887 : TR (-1) (1) 0 0 0 (-2) ν1 (mA1 κ870 23 s.toNatClampNeg x862) := p875.trS g881 (Or.inr (Or.inr (by omega))) rfl rfl rfl rfl (by omega)
      have k888 := k876.tr g881 (Or.inr rfl) s0
      have k889 := k880.tr g881 (Or.inr rfl) s0
      have cv890 : CVs (mA1 κ870 23 s.toNatClampNeg x862) (s.toInt + 1) (((mA1 κ870 23 s.toNatClampNeg x862)).1 19).toInt [r819] := cv877.st g881.rb (Int.le_refl _) (Or.inl (by omega)) rfl
      have nx891 := z869.off (g := 23) (t := s.toNatClampNeg) (x := x862) (by have := @ic s; have := @ic x862; omega)
      refine ⟨TR.mi p875.ps rfl rfl s0 (by omega), TR.mi p875.ps rfl rfl s0 (by omega), ?_⟩
      generalize mA1 κ870 23 s.toNatClampNeg x862 = κ882 at *
      have lt892 : s.toInt < (κ882.1 19).toInt := by omega
      refine MC.mono (t_name (by omega) p887.ps (fun _ h => hTν _ (p887.1.1.tr h))) (fun v893 κ898 h894 => ?_) (fun _ h => h)
      obtain ⟨q895, m896, a897⟩ := h894
      have p899 : TR (-1) (1) 0 0 0 (-4) ν1 κ898 := p887.trS q895 (Or.inl (by decide)) rfl rfl rfl rfl (by omega)
      have k900 := k888.tr q895 (Or.inl (by decide)) s0
      have k901 := k889.tr q895 (Or.inl (by decide)) s0
      have cv902 : CVs κ898 (s.toInt + 1) ((κ898).1 19).toInt [r819] := cv890.st q895.rb (Int.le_refl _) (Or.inl (by omega)) m896
      have nx903 := nx891.tr q895 (by have := @ic x862; omega) (by omega)
      have nd904 := nd885.tr q895 (by have := @ic s; omega) (by omega)
      have lt905 : s.toInt < (κ898.1 19).toInt := by omega
      rw [upd_at]
      have c910 := @ic x862
      have c911 := @ic s
      have g906 : TR x862.toInt 0 0 0 0 0 κ898 (mA1 κ898 22 x862.toNatClampNeg v893) := TR.put p899.ps z865 rfl rfl
      have e908 : ((mA1 κ898 22 x862.toNatClampNeg v893).1 19).toInt = (κ898.1 19).toInt := rfl
      have e909 : ((mA1 κ898 22 x862.toNatClampNeg v893).1 32).toInt = (κ898.1 32).toInt := rfl
      have nd912 := nd904.off (g := 22) (t := x862.toNatClampNeg) (x := v893) (by omega)
      have p913 : TR (-1) (1) 0 0 0 (-4) ν1 (mA1 κ898 22 x862.toNatClampNeg v893) := p899.trS g906 (Or.inr (Or.inr (by omega))) rfl rfl rfl rfl (by omega)
      have k914 := Kd.free0 (t := x862.toNatClampNeg) (y := v893) nx903.1 k900
      have k915 := Kd.free0 (t := x862.toNatClampNeg) (y := v893) nx903.1 k901
      have cv916 : CVs (mA1 κ898 22 x862.toNatClampNeg v893) (s.toInt + 1) ((mA1 κ898 22 x862.toNatClampNeg v893).1 19).toInt [r819] := cv902.free0 nx903.1
      refine ⟨TR.mi p899.ps rfl rfl z865 (by omega), ?_⟩
      generalize mA1 κ898 22 x862.toNatClampNeg v893 = κ907 at *
      have lt917 : s.toInt < (κ907.1 19).toInt := by omega
      have hb918 := p913.b37
      refine MC.mono (t_close (by omega) p913.ps (by decide) (by omega) (fun _ h => hTν _ (p913.1.1.tr h))) (fun v919 κ924 h920 => ?_) (fun _ h => h)
      obtain ⟨q921, m922, a923⟩ := h920
      have p925 : TR (-1) (0) 0 0 0 (-6) ν1 κ924 := p913.trS q921 (Or.inl (by decide)) rfl rfl rfl rfl (by omega)
      have k926 := k914.tr q921 (Or.inl (by decide)) s0
      have k927 := k915.tr q921 (Or.inl (by decide)) s0
      have cv928 : CVs κ924 (s.toInt + 1) ((κ924).1 19).toInt [r819] := cv916.st q921.rb (Int.le_refl _) (Or.inl (by omega)) m922
      have nd929 := nd912.tr q921 (by have := @ic s; omega) (by omega)
      have lt930 : s.toInt < (κ924.1 19).toInt := by omega
      refine MC.mono (t_expect (by omega) p925.ps (by decide) (fun _ h => hTν _ (p925.1.1.tr h))) (fun v931 κ936 h932 => ?_) (fun _ h => h)
      obtain ⟨q933, m934, a935⟩ := h932
      have p937 : TR (-1) (0) 0 0 0 (-8) ν1 κ936 := p925.trS q933 (Or.inl (by decide)) rfl rfl rfl rfl (by omega)
      have k938 := k926.tr q933 (Or.inl (by decide)) s0
      have k939 := k927.tr q933 (Or.inl (by decide)) s0
      have cv940 : CVs κ936 (s.toInt + 1) ((κ936).1 19).toInt [r819] := cv928.st q933.rb (Int.le_refl _) (Or.inl (by omega)) m934
      have nd941 := nd929.tr q933 (by have := @ic s; omega) (by omega)
      have lt942 : s.toInt < (κ936.1 19).toInt := by omega
      have x946 := p937.px
      have u947 := p937.2
      have y948 := tT p937
      have z949 := px0 p937.ps
      refine MC.mono (hSt κ936 T h p937.ps (by omega) (by omega) (by omega) (fun _ h => hTν _ (p937.1.1.tr h))) (fun r943 κ944 h945 => ?_) (fun _ h => h)
      obtain ⟨q950, g951, c952⟩ := h945
      have l953 := q950.l19
      have l954 := q950.l32
      have p955 : TR (-1) (0) 0 0 0 (-8) ν1 κ944 := p937.trS q950 (Or.inl (by decide)) rfl rfl rfl rfl (by omega)
      have k956 := k938.tr q950 (Or.inl (by decide)) s0
      have k957 := k939.tr q950 (Or.inl (by decide)) s0
      have cv958 : CVs κ944 (s.toInt + 1) ((κ944).1 19).toInt [r943, r819] := cv940.add q950.rb (Int.le_refl _) (Or.inl (by omega)) (by omega) l953 (c952)
      have nd959 := nd941.tr q950 (by have := @ic s; omega) (by omega)
      have lt960 : s.toInt < (κ944.1 19).toInt := by omega
      have k961 : KL κ944 h s.toInt s 3 r943 := KL.of g951 (by omega) (Int.le_refl _) s0 (Or.inl (by omega))
      have g962 : TR s.toInt 0 0 0 0 0 κ944 (mA1 κ944 24 s.toNatClampNeg r943) := TR.put p955.ps s0 rfl rfl
      have e964 : ((mA1 κ944 24 s.toNatClampNeg r943).1 19).toInt = (κ944.1 19).toInt := rfl
      have e965 : ((mA1 κ944 24 s.toNatClampNeg r943).1 32).toInt = (κ944.1 32).toInt := rfl
      have sr967 : srt (mA1 κ944 24 s.toNatClampNeg r943) = srt κ944 := srt_off rfl
      have nd966 := nd959.pc (x := r943)
      have p968 : TR (-1) (0) 0 0 0 (-8) ν1 (mA1 κ944 24 s.toNatClampNeg r943) := p955.trS g962 (Or.inr (Or.inr (by omega))) rfl rfl rfl rfl (by omega)
      have k969 := k956.tr g962 (Or.inr rfl) s0
      have k970 := k957.tr g962 (Or.inr rfl) s0
      have k971 := k961.tr g962 (Or.inr rfl) s0
      have cv972 : CVs (mA1 κ944 24 s.toNatClampNeg r943) (s.toInt + 1) (((mA1 κ944 24 s.toNatClampNeg r943)).1 19).toInt [r943, r819] := cv958.st g962.rb (Int.le_refl _) (Or.inl (by omega)) rfl
      refine ⟨TR.mi p955.ps rfl rfl s0 (by omega), ?_⟩
      generalize mA1 κ944 24 s.toNatClampNeg r943 = κ963 at *
      have lt973 : s.toInt < (κ963.1 19).toInt := by omega
      have eP : G κ963 (h + 1) (bt (ν1.1 19).toInt (κ963.1 19).toInt) 15 s := G.mk s0 (by omega) lt973 nd966 (by decide) (Kd.lo k969 (by omega)) (Kd.lo k970 (by omega)) (KL.lo k971 (by omega)) True.intro True.intro
      have eC : CO κ963 (ν1.1 19).toInt (κ963.1 19).toInt s := (CO.fin' (by omega) cv972 s0 ⟨fun h => Par.fc nd966 (by decide) h, fun h => Par.fa nd966 (by decide) h, True.intro⟩ lt973)
      have hB9 := hB.rb p968.rb (Int.le_refl _) (Or.inl (by omega))
      have pμ : TR (-1) 0 0 0 0 0 μ κ963 := pν.trS p968 (Or.inl (by decide)) rfl rfl rfl rfl (by omega)
      have p9 : TR (-1) 0 0 0 0 0 ν1 κ963 := ⟨p968.1, by have := p968.2; omega⟩
      have l9 : (ν1.1 32).toInt < (κ963.1 32).toInt := by omega
      refine ⟨fun hx1 => ?_, fun hx1 => ?_⟩
      · rcases hL.sg with ⟨w1, -⟩ | ⟨w1, w2⟩
        · rw [w1] at hx1; exact absurd hx1 (by decide)
        obtain ⟨i1, i2, i3⟩ := hL.in w2
        have hc2 := @ic x3
        have g9 : TR x3.toInt 0 0 0 0 0 κ963 (mA1 κ963 27 x3.toNatClampNeg s) := TR.put pμ.ps w2 rfl rfl
        exact ⟨TR.mi p955.ps rfl rfl w2 (by omega), ih f s _ (by show ((μ.1 8).toInt - (κ963.1 32).toInt).toNat < j; omega) (pμ.tr g9 (Or.inr (by omega)) rfl rfl rfl rfl (by omega)) (hL.add w2 p9 (by omega) eP nd966.2.2.2.2.2.2) (hB9.add w2 i2 i3 i1 eC s0 p9.l19 (by rw [p9.rb 27 (by omega) (by omega) _ (by omega) (by omega)]; exact hL.nn w2))⟩
      · have hf : f = -1 := by
          rcases hL.sg with ⟨w1, -⟩ | ⟨w1, -⟩
          · exact w1
          · omega
        refine ih s s _ (by omega) pμ (OL.one (eP.up (Nat.le_refl _) (by omega) (Int.le_refl _)) (by omega) nd966.2.2.2.2.2.2) ?_
        rcases hB9 with ⟨-, w⟩ | ⟨w, -⟩
        · exact OC.one (eC.ahead w (by omega)) s0
        · rw [hf] at w; exact absurd w (by decide)
  exact me_meth (by omega) rfl (v_cases_0 _ (key _ (-1) (-1) μ (Nat.lt_succ_self _) (TR.rf hS) OL.nil (Or.inl ⟨rfl, NS.nil (Int.le_refl _)⟩)))
theorem st_statements (hC : SC X W P 322 3 22 14 d) : SL X W P 321 [] 3 19 11 (d + 1) := fun μ T h hS hd hh hn hT => by
  have hp := px0 hS
  have h0 := hS.2.2.2.2.1
  have at0 := hS.at
  have b40 := hS.2.2.2.2.2.2.2.2
  have key : ∀ (j : Nat) (f x2 : Int32) (ν : MS), ((μ.1 8).toInt - (ν.1 32).toInt).toNat < j → TR (-1) 0 0 0 0 0 μ ν → OL 3 h (μ.1 19).toInt ν f x2 → OC ν (μ.1 19).toInt (ν.1 19).toInt f x2 → ME X W true d 321 4 [(0, .ref P.1), (1, .int f), (2, .int x2)] [] P ν (fun r μ1 => TR (-1) 0 0 0 0 0 μ μ1 ∧ (∃ m, Lst (G μ1 h (bt (μ.1 19).toInt (μ1.1 19).toInt) 3) (μ1.2.1 27) m r) ∧ LCO μ1 (μ.1 19).toInt (μ1.1 19).toInt r) T := by
    intro j
    induction j with
    | zero => intro f x2 ν hj; omega
    | succ j ih =>
      intro f x2 ν hj pν hL hB
      have e8 := eq_i (pν.1.1.1 8 rfl)
      have t8 := pν.ps.2.2.1.2
      have at1 := pν.ps.at
      have uν := pν.2
      have lν := pν.l19
      have b4 := pν.1.2.2.2.2.2.2.2.2.1
      refine v_statements_4 _ _ (MC.mono (c_beginsStatement (by omega) pν.ps) (fun r ν1 hk => ?_) (fun _ h => h))
      obtain ⟨rfl, hb⟩ := hk
      refine ⟨fun _ => ⟨pν, hL.lst, hB.l⟩, fun h1 => ⟨fun h20 => ?_, fun _ => MC.mono (c_line (by omega) pν.ps.1 at1.1 at1.2) (fun r2 ν2 h2 => ?_) (fun _ h => h)⟩⟩
      · have h20 := ne_i h20
        rw [show (20 : Int32).toInt = 20 from rfl] at h20
        have e4 : (ν1.1 40 + 1).toInt = (ν1.1 40).toInt + 1 := ia1 (by omega)
        have g1 : TR (-1) 0 0 0 1 0 ν1 (mS1 ν1 40 (ν1.1 40 + 1)) := TR.s40 pν.ps e4 (by omega) (by omega)
        refine MC.mono (c_line (by omega) g1.ps.1 at1.1 at1.2) (fun r2 ν2 h2 => ?_) (fun _ h => h)
        subst h2
        have g2 : TR (-1) 0 0 0 1 0 ν1 (mS1 (mS1 ν1 40 (ν1.1 40 + 1)) 34 r2) := g1.tr (TR.s34 g1.ps) (Or.inl (by decide)) rfl rfl rfl rfl (by omega)
        have p2 : TR (-1) 0 0 0 1 0 μ (mS1 (mS1 ν1 40 (ν1.1 40 + 1)) 34 r2) := pν.tr g2 (Or.inl (by decide)) rfl rfl rfl rfl (by omega)
        have x2' := p2.px
        have e19 : ((mS1 (mS1 ν1 40 (ν1.1 40 + 1)) 34 r2).1 19).toInt = (ν1.1 19).toInt := rfl
        have e32 : ((mS1 (mS1 ν1 40 (ν1.1 40 + 1)) 34 r2).1 32).toInt = (ν1.1 32).toInt := rfl
        refine MC.mono (hC _ T h p2.ps (by omega) (by omega) (by omega) (fun _ h => hT _ (p2.1.1.tr h)) (hb h1)) (fun r3 ν3 h3 => ?_) (fun _ h => h)
        obtain ⟨v1, v2, v3, v4, vc⟩ := h3
        have p3 : TR (-1) 0 0 0 1 0 μ ν3 := p2.tr v1 (Or.inl (by decide)) rfl rfl rfl rfl (by omega)
        have g3 : TR (-1) 0 0 0 1 0 ν1 ν3 := g2.tr v1 (Or.inl (by decide)) rfl rfl rfl rfl (by omega)
        have b3 := p3.1.2.2.2.2.2.2.2.2.1
        have l3 := v1.l19
        have e5 : (ν3.1 40 - 1).toInt = (ν3.1 40).toInt - 1 := by
          rw [ib (by rw [show (1 : Int32).toInt = 1 from rfl]; omega) (by rw [show (1 : Int32).toInt = 1 from rfl]; omega)]; rfl
        have g4 : TR (-1) 0 0 0 0 0 ν3 (mS1 ν3 34 (ν1.1 34)) := TR.s34 p3.ps
        have g5 : TR (-1) 0 0 0 (-1) 0 (mS1 ν3 34 (ν1.1 34)) (mS1 (mS1 ν3 34 (ν1.1 34)) 40 (ν3.1 40 - 1)) := TR.s40 g4.ps (by show _ = (ν3.1 40).toInt + _; omega) (by omega) (by omega)
        have p5 : TR (-1) 0 0 0 0 0 μ (mS1 (mS1 ν3 34 (ν1.1 34)) 40 (ν3.1 40 - 1)) := (p3.tr g4 (Or.inl (by decide)) rfl rfl rfl rfl (Int.le_refl _)).tr g5 (Or.inl (by decide)) rfl rfl rfl rfl (by omega)
        have k5 : TR (-1) 0 0 0 0 0 ν1 (mS1 (mS1 ν3 34 (ν1.1 34)) 40 (ν3.1 40 - 1)) := (g3.tr g4 (Or.inl (by decide)) rfl rfl rfl rfl (Int.le_refl _)).tr g5 (Or.inl (by decide)) rfl rfl rfl rfl (by omega)
        have eG : G (mS1 (mS1 ν3 34 (ν1.1 34)) 40 (ν3.1 40 - 1)) h (bt (ν1.1 19).toInt (ν3.1 19).toInt) 3 r3 := G.S (G.S v3)
        have eC : CO (mS1 (mS1 ν3 34 (ν1.1 34)) 40 (ν3.1 40 - 1)) (ν1.1 19).toInt (ν3.1 19).toInt r3 := (show CO ν3 (ν1.1 19).toInt (ν3.1 19).toInt r3 from vc).rb (g4.tr g5 (Or.inl (by decide)) rfl rfl rfl rfl (Int.le_refl _)).rb (Int.le_refl _) (Or.inl (by omega))
        have n5 : (mS1 (mS1 ν3 34 (ν1.1 34)) 40 (ν3.1 40 - 1)).2.1 27 r3.toNatClampNeg = -1 := v4
        have e19' : ((mS1 (mS1 ν3 34 (ν1.1 34)) 40 (ν3.1 40 - 1)).1 19).toInt = (ν3.1 19).toInt := rfl
        have e32' : ((mS1 (mS1 ν3 34 (ν1.1 34)) 40 (ν3.1 40 - 1)).1 32).toInt = (ν3.1 32).toInt := rfl
        generalize mS1 (mS1 ν3 34 (ν1.1 34)) 40 (ν3.1 40 - 1) = ν5 at *
        refine MC.mono (t_expect (by omega) p5.ps (by decide) (fun _ h => hT _ (p5.1.1.tr h))) (fun _ ν6 h6 => ?_) (fun _ h => h)
        obtain ⟨m1, m2, m3⟩ := h6
        have p6 : TR (-1) 0 0 0 0 0 μ ν6 := p5.tr m1 (Or.inl (by decide)) rfl rfl rfl rfl (by omega)
        have k6 : TR (-1) 0 0 0 0 0 ν1 ν6 := k5.tr m1 (Or.inl (by decide)) rfl rfl rfl rfl (by omega)
        have eG6 : G ν6 h (bt (ν1.1 19).toInt (ν6.1 19).toInt) 3 r3 := (eG.tr m1 (by omega) (Or.inl (by omega))).up (Nat.le_refl _) (Int.le_refl _) (by omega)
        obtain ⟨i1, i2, i3⟩ := eG6.in
        have hc3 := @ic r3
        have n6 : ν6.2.1 27 r3.toNatClampNeg = -1 := by rw [m1.rb 27 (by omega) (by omega) _ (by omega) (by omega)]; exact n5
        have u6 := p6.2
        have at6 := p6.ps.at
        have eC6 : CO ν6 (ν1.1 19).toInt (ν6.1 19).toInt r3 := CO.ub (eC.rb m1.rb (by omega) (Or.inl (by omega))) (by omega)
        have hB6 := hB.rb k6.rb (Int.le_refl _) (Or.inl (by omega))
        refine ⟨fun hx1 => ?_, fun hx1 => ?_⟩
        · rcases hL.sg with ⟨w1, -⟩ | ⟨w1, w2⟩
          · rw [w1] at hx1; exact absurd hx1 (by decide)
          obtain ⟨j1, j2, j3⟩ := hL.in w2
          have hc2 := @ic x2
          have g9 : TR x2.toInt 0 0 0 0 0 ν6 (mA1 ν6 27 x2.toNatClampNeg r3) := TR.put p6.ps w2 rfl rfl
          exact ⟨TR.mi p6.ps rfl rfl w2 (by omega), ih f r3 _ (by show ((μ.1 8).toInt - (ν6.1 32).toInt).toNat < j; omega) (p6.tr g9 (Or.inr (by omega)) rfl rfl rfl rfl (by omega)) (hL.add w2 k6 (by omega) eG6 n6) (hB6.add w2 j2 j3 j1 eC6 i1 k6.l19 (by rw [k6.rb 27 (by omega) (by omega) _ (by omega) (by omega)]; exact hL.nn w2))⟩
        · have hf : f = -1 := by
            rcases hL.sg with ⟨w1, -⟩ | ⟨w1, -⟩
            · exact w1
            · omega
          refine ih r3 r3 _ (by omega) p6 (OL.one (eG6.up (Nat.le_refl _) (by omega) (Int.le_refl _)) (by omega) n6) ?_
          rcases hB6 with ⟨-, w⟩ | ⟨w, -⟩
          · exact OC.one (eC6.ahead w (by omega)) i1
          · rw [hf] at w; exact absurd w (by decide)
      · subst h2
        exact MC.mono (c_first (by omega) (fun _ h => hT _ (pν.1.1.tr h))) (fun _ _ h => h.elim) (fun _ h => h)
  exact me_meth (by omega) rfl (v_statements_0 (key _ (-1) (-1) μ (Nat.lt_succ_self _) (TR.rf hS) OL.nil (Or.inl ⟨rfl, NS.nil (Int.le_refl _)⟩)))
end PSI
