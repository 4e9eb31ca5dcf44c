/-! contracts of the reference: arms, HANDLERs, BRANCHes, rows of statements -/
section PSI
variable {X : ev_X} {W : Nat → Prop} {d : Nat} {P : MP}
theorem st_arms (hE : XC X W P 332 [] 1 20 12 0 0 d) (hSt : SL X W P 321 [] 3 19 11 d) : ArC X W P (d + 1) := fun μ T h9 hS hd hh hn hT => by
  have hp := px0 hS
  have h0 := hS.2.2.2.2.1
  have at0 := hS.at
  obtain ⟨h, rfl⟩ : ∃ h, h9 = h + 1 := ⟨h9 - 1, by omega⟩
  obtain ⟨K, hK⟩ : ∃ K : Nat, (K : Int) + (μ.1 40).toInt = 20 := ⟨(20 - (μ.1 40).toInt).toNat, by have := hS.2.2.2.2.2.2.2.2; omega⟩
  have fin9 : ∀ (f x2 x4 : Int32) (ν : MS), TR (-1) 0 0 0 0 1 μ ν → OL 13 (h + 1) (μ.1 19).toInt ν f x2 → OC ν (μ.1 19).toInt (ν.1 19).toInt f x2 → OWs (μ.1 32).toInt (μ.1 19).toInt ν h K 0 13 f x2 → 0 ≤ x2.toInt → ME X W true d 323 9 [(0, .ref P.1), (1, .int f), (2, .int x2), (3, .int 0), (4, .int x4)] [] P ν (fun r μ1 => TR (-1) 0 0 0 0 0 μ μ1 ∧ ¬ r = -1 ∧ (∃ m, Lst (G μ1 (h + 1) (bt (μ.1 19).toInt (μ1.1 19).toInt) 13) (μ1.2.1 27) m r) ∧ LCO μ1 (μ.1 19).toInt (μ1.1 19).toInt r ∧ BdS 13 (h + 1) μ r μ1) T := fun f x2 x4 ν pν hL hB hW hx => by
    refine v_arms_9 _ _ _ _ ⟨fun _ => MC.mono (t_expect (by omega) pν.ps (by decide) (fun _ h => hT _ (pν.1.1.tr h))) (fun _ κ hk => ?_) (fun _ h => h), fun h => absurd rfl h⟩
    obtain ⟨m1, m2, m3⟩ := hk
    have l := hL.tr m1 (Or.inl (by omega))
    exact ⟨pν.tr m1 (Or.inl (by decide)) rfl rfl rfl rfl (by omega), fun e => by have := (l.in hx).1; rw [e] at this; exact absurd this (by decide), l.lst, LCO.ub (hB.rb m1.rb (Int.le_refl _) (Or.inl (by omega))).l m2, (hW.tr m1 (Or.inl (by omega))).bd (by decide) (Nat.le_succ _) hK⟩
  have key : ∀ (j : Nat) (f x2 x3 x4 : Int32) (ν : MS), ((μ.1 8).toInt - (ν.1 32).toInt).toNat < j → TR (-1) 0 0 0 0 0 μ ν → OL 13 (h + 1) (μ.1 19).toInt ν f x2 → OC ν (μ.1 19).toInt (ν.1 19).toInt f x2 → OWs (μ.1 32).toInt (μ.1 19).toInt ν h K 0 13 f x2 → ¬ x3 = 0 → ME X W true d 323 9 [(0, .ref P.1), (1, .int f), (2, .int x2), (3, .int x3), (4, .int x4)] [] P ν (fun r μ1 => TR (-1) 0 0 0 0 0 μ μ1 ∧ ¬ r = -1 ∧ (∃ m, Lst (G μ1 (h + 1) (bt (μ.1 19).toInt (μ1.1 19).toInt) 13) (μ1.2.1 27) m r) ∧ LCO μ1 (μ.1 19).toInt (μ1.1 19).toInt r ∧ BdS 13 (h + 1) μ r μ1) T := by
    intro j
    induction j with
    | zero => intro f x2 x3 x4 ν hj; omega
    | succ j ih =>
      intro f x2 x3 x4 ν hj pν hL hB hW hx3
      have e8 := eq_i (pν.1.1.1 8 rfl)
      have t8 := pν.ps.2.2.1.2
      have at1 := pν.ps.at
      have uν := pν.2
      have lν := pν.l19
      have xν := pν.px
      have hTν : ∀ μ1, kf SPA RPA ν μ1 → T μ1 := fun _ h => hT _ (pν.1.1.tr h)
      refine v_arms_9 _ _ _ _ ⟨fun h => absurd h hx3, fun _ => MC.mono (t_node (by omega) pν.ps (by omega)) (fun s κ0 hk => ?_) (fun _ h => h)⟩
      obtain ⟨q1, ⟨q2, s0⟩, q3, q4, q5, q6⟩ := hk
      have hcs := @ic s
      have s9 : s.toInt < 15990 := by omega
      have s106a : ∀ (f' y3 y4 : Int32) (κ : MS), y3 = 0 → TR (-1) 0 0 0 0 1 μ κ → OL 13 (h + 1) (μ.1 19).toInt κ f' s → OC κ (μ.1 19).toInt (κ.1 19).toInt f' s → OWs (μ.1 32).toInt (μ.1 19).toInt κ h K 0 13 f' s → ME X W true d 323 106 [(0, .ref P.1), (1, .int f'), (2, .int s), (3, .int y3), (4, .int y4), (5, .int s)] [] P κ (fun r μ1 => TR (-1) 0 0 0 0 0 μ μ1 ∧ ¬ r = -1 ∧ (∃ m, Lst (G μ1 (h + 1) (bt (μ.1 19).toInt (μ1.1 19).toInt) 13) (μ1.2.1 27) m r) ∧ LCO μ1 (μ.1 19).toInt (μ1.1 19).toInt r ∧ BdS 13 (h + 1) μ r μ1) T := fun f' y3 y4 κ h3 pκ kL kB kW => by
        subst h3
        refine v_arms_106 _ _ _ _ _ (MC.mono (c_is (by omega) pκ.ps) (fun r κ1 hk => ?_) (fun _ h => h))
        obtain ⟨rfl, rfl⟩ := hk
        exact ⟨fun _ => v_arms_122 _ _ _ _ _ (fin9 f' s _ κ1 pκ kL kB kW s0), fun h => absurd rfl h⟩
      have s106b : ∀ (f' y4 : Int32) (κ : MS), TR (-1) 0 0 0 0 1 μ κ → (ν.1 32).toInt < (κ.1 32).toInt → ¬ srt κ = 203 → OL 13 (h + 1) (μ.1 19).toInt κ f' s → OC κ (μ.1 19).toInt (κ.1 19).toInt f' s → OWs (μ.1 32).toInt (μ.1 19).toInt κ h K 0 13 f' s → ME X W true d 323 106 [(0, .ref P.1), (1, .int f'), (2, .int s), (3, .int 1), (4, .int y4), (5, .int s)] [] P κ (fun r μ1 => TR (-1) 0 0 0 0 0 μ μ1 ∧ ¬ r = -1 ∧ (∃ m, Lst (G μ1 (h + 1) (bt (μ.1 19).toInt (μ1.1 19).toInt) 13) (μ1.2.1 27) m r) ∧ LCO μ1 (μ.1 19).toInt (μ1.1 19).toInt r ∧ BdS 13 (h + 1) μ r μ1) T := fun f' y4 κ pκ ha hs3 kL kB kW => by
        refine v_arms_106 _ _ _ _ _ (MC.mono (c_is (by omega) pκ.ps) (fun r κ1 hk => ?_) (fun _ h => h))
        obtain ⟨rfl, rfl⟩ := hk
        refine ⟨fun h => absurd h (by decide), fun _ => MC.mono (t_next (by omega) pκ.ps hs3 (fun _ h => hT _ (pκ.1.1.tr h))) (fun _ κ2 hk => ?_) (fun _ h => h)⟩
        obtain ⟨m1, m2, m3⟩ := hk
        exact v_arms_122 _ _ _ _ _ (ih f' s 1 _ κ2 (by omega) (pκ.tr m1 (Or.inl (by decide)) rfl rfl rfl rfl (by omega)) (kL.tr m1 (Or.inl (by omega))) (by rw [m2]; exact kB.rb m1.rb (Int.le_refl _) (Or.inl (by omega))) (kW.tr m1 (Or.inl (by omega))) (by decide))
      have s74 : ∀ (f' : Int32) (κ : MS), TR (-1) 0 0 0 0 1 μ κ → (x4 = 0 → (ν.1 32).toInt < (κ.1 32).toInt) → OL 13 (h + 1) (μ.1 19).toInt κ f' s → OC κ (μ.1 19).toInt (κ.1 19).toInt f' s → OWs (μ.1 32).toInt (μ.1 19).toInt κ h K 0 13 f' s → ME X W true d 323 74 [(0, .ref P.1), (1, .int f'), (2, .int x2), (3, .int x3), (4, .int x4), (5, .int s)] [] P κ (fun r μ1 => TR (-1) 0 0 0 0 0 μ μ1 ∧ ¬ r = -1 ∧ (∃ m, Lst (G μ1 (h + 1) (bt (μ.1 19).toInt (μ1.1 19).toInt) 13) (μ1.2.1 27) m r) ∧ LCO μ1 (μ.1 19).toInt (μ1.1 19).toInt r ∧ BdS 13 (h + 1) μ r μ1) T := fun f' κ pκ ha kL kB kW => by
        refine v_arms_74 _ _ _ _ _ ⟨fun _ => v_arms_104 _ _ _ _ _ (s106a f' 0 _ κ rfl pκ kL kB kW), fun h4 => MC.mono (c_is (by omega) pκ.ps) (fun r κ1 hk => ?_) (fun _ h => h)⟩
        obtain ⟨rfl, rfl⟩ := hk
        refine ⟨fun h1 => v_arms_100 _ _ _ _ _ (s106b f' _ κ1 pκ (ha h4) (by rw [is_t h1]; decide) kL kB kW), fun _ => MC.mono (c_is (by omega) pκ.ps) (fun r κ2 hk => ?_) (fun _ h => h)⟩
        obtain ⟨rfl, rfl⟩ := hk
        exact ⟨fun _ => v_arms_104 _ _ _ _ _ (s106a f' 0 _ κ2 rfl pκ kL kB kW), fun h1 => v_arms_100 _ _ _ _ _ (s106b f' _ κ2 pκ (ha h4) (by rw [is_t h1]; decide) kL kB kW)⟩
      have s45 : ∀ (a : Int32) (κ : MS), TR (-1) 0 0 0 0 1 ν κ → ND κ s.toNatClampNeg 45 a (-1) (-1) (-1) (-1) (-1) → s.toInt < (κ.1 19).toInt → (a = -1 ∨ Kd κ h s.toInt s 1 a) → CVs κ (s.toInt + 1) (κ.1 19).toInt [a] → (x4 = 0 → (ν.1 32).toInt < (κ.1 32).toInt) → ∀ Aa Ab : Int, s.toInt + 1 = Aa → Ab = (κ.1 19).toInt → FK κ h K 0 (2, 1) Aa Ab 0 a → ME X W true d 323 45 [(0, .ref P.1), (1, .int f), (2, .int x2), (3, .int x3), (4, .int x4), (5, .int s)] [] P κ (fun r μ1 => TR (-1) 0 0 0 0 0 μ μ1 ∧ ¬ r = -1 ∧ (∃ m, Lst (G μ1 (h + 1) (bt (μ.1 19).toInt (μ1.1 19).toInt) 13) (μ1.2.1 27) m r) ∧ LCO μ1 (μ.1 19).toInt (μ1.1 19).toInt r ∧ BdS 13 (h + 1) μ r μ1) T := fun a κ p0 nd0 lt0 hKa cvK ha Aa Ab hAa hAb fA => by
        have hKν : (K : Int) + (ν.1 40).toInt = 20 := by have := pν.1.2.2.2.2.2.2.2.2.1; omega
        refine v_arms_45 _ _ _ _ _ ?_
        have x736 := p0.px
        have u737 := p0.2
        have y738 := tT p0
        have z739 := px0 p0.ps
        refine MC.mono (hSt κ T h p0.ps (by omega) (by omega) (by omega) (fun _ h => hTν _ (p0.1.1.tr h))) (fun r733 κ734 h735 => ?_) (fun _ h => h)
        obtain ⟨q740, g741, c742, hb743⟩ := h735
        obtain ⟨v744, hv745, b746⟩ := hb743 K (by have y40 := p0.1.2.2.2.2.2.2.2.2.1; omega)
        have l747 := q740.l19
        have l748 := q740.l32
        have p749 : TR (-1) (0) 0 0 0 (1) ν κ734 := p0.trS q740 (Or.inl (by decide)) rfl rfl rfl rfl (by omega)
        have cv750 : CVs κ734 (s.toInt + 1) ((κ734).1 19).toInt [r733, a] := cvK.add q740.rb (Int.le_refl _) (Or.inl (by omega)) (by omega) l747 (c742)
        have b751 := FK.tr fA q740 (by omega) (by omega)
        have nd752 := nd0.tr q740 (by have := @ic s; omega) (by omega)
        have lt753 : s.toInt < (κ734.1 19).toInt := by omega
        have k754 : KL κ734 h s.toInt s 3 r733 := KL.of g741 (by omega) (Int.le_refl _) s0 (Or.inl (by omega))
        obtain ⟨A755, hA756⟩ : ∃ A : Int, A = (κ734.1 19).toInt := ⟨_, rfl⟩
        have b757 : FK κ734 (h) K 0 (3, 3) Ab A755 v744 r733 := FK.at (by omega) (by omega) b746.b3
        have hK2 : a = -1 ∨ Kd κ734 h s.toInt s 1 a := hKa.imp id (fun k => k.tr q740 (Or.inl (by decide)) s0)
        have g758 : TR s.toInt 0 0 0 0 0 κ734 (mA1 κ734 23 s.toNatClampNeg r733) := TR.put p749.ps s0 rfl rfl
        have e760 : ((mA1 κ734 23 s.toNatClampNeg r733).1 19).toInt = (κ734.1 19).toInt := rfl
        have e761 : ((mA1 κ734 23 s.toNatClampNeg r733).1 32).toInt = (κ734.1 32).toInt := rfl
        have sr763 : srt (mA1 κ734 23 s.toNatClampNeg r733) = srt κ734 := srt_off rfl
        have nd762 := nd752.pb (x := r733)
        have p764 : TR (-1) (0) 0 0 0 (1) ν (mA1 κ734 23 s.toNatClampNeg r733) := p749.trS g758 (Or.inr (Or.inr (by omega))) rfl rfl rfl rfl (by omega)
        have k765 := k754.tr g758 (Or.inr rfl) s0
        have cv766 : CVs (mA1 κ734 23 s.toNatClampNeg r733) (s.toInt + 1) (((mA1 κ734 23 s.toNatClampNeg r733)).1 19).toInt [r733, a] := cv750.st g758.rb (Int.le_refl _) (Or.inl (by omega)) rfl
        have b767 := FK.tr b751 g758 (by omega) (by omega)
        have b768 := FK.tr b757 g758 (by omega) (by omega)
        have hK3 := hK2.imp id (fun k => k.tr g758 (Or.inr rfl) s0)
        refine ⟨TR.mi p749.ps rfl rfl s0 (by omega), ?_⟩
        generalize mA1 κ734 23 s.toNatClampNeg r733 = κ759 at *
        have lt769 : s.toInt < (κ759.1 19).toInt := by omega
        have eP : G κ759 (h + 1) (bt (ν.1 19).toInt (κ759.1 19).toInt) 13 s := G.mk s0 (by omega) lt769 nd762 (by decide) (hK3.imp id (fun k => Kd.lo k (by omega))) (KL.lo k765 (by omega)) True.intro True.intro True.intro
        have eC : CO κ759 (ν.1 19).toInt (κ759.1 19).toInt s := (CO.fin' (by omega) cv766 s0 ⟨fun h => Par.fb nd762 (by decide) h, fun h => Par.fa nd762 (by decide) h, True.intro⟩ lt769)
        have eK : PK κ759 h K 0 13 (ν.1 19).toInt (κ759.1 19).toInt (0 + v744 + 0 + 0 + 0 + 0) s := PK.mk (c0 := Aa) (v0 := 0) (v1 := v744) (v2 := 0) (v3 := 0) (v4 := 0) nd762 s0 (by omega) (by omega) (by omega) (by decide) (by have e : ow (45 : Int32) = 0 := (by decide); omega) ((FK.up (by omega) b767)) ((FK.up (by omega) b768)) (FK.fr (Int.le_refl _)) (FK.fr (Int.le_refl _)) (FK.fr (Int.le_refl _))
        have hB9 := hB.rb p764.rb (Int.le_refl _) (Or.inl (by omega))
        have pμ : TR (-1) 0 0 0 0 1 μ κ759 := pν.trS p764 (Or.inl (by decide)) rfl rfl rfl rfl (by omega)
        refine ⟨fun hx1 => ?_, fun hx1 => ?_⟩
        · rcases hL.sg with ⟨w1, -⟩ | ⟨w1, w2⟩
          · rw [w1] at hx1; exact absurd hx1 (by decide)
          obtain ⟨i1, i2, i3⟩ := hL.in w2
          have hc2 := @ic x2
          have g9 : TR x2.toInt 0 0 0 0 0 κ759 (mA1 κ759 27 x2.toNatClampNeg s) := TR.put p764.ps w2 rfl rfl
          exact ⟨TR.mi p749.ps rfl rfl w2 (by omega), s74 f _ (pμ.tr g9 (Or.inr (by omega)) rfl rfl rfl rfl (by omega)) (fun h4 => by have := ha h4; show _ < (κ759.1 32).toInt; omega) (hL.add w2 p764 (by omega) eP nd762.2.2.2.2.2.2) (hB9.add w2 i2 i3 i1 eC s0 p764.l19 (by rw [p764.rb 27 (by omega) (by omega) _ (by omega) (by omega)]; exact hL.nn w2)) (hW.add w2 p764 h0 (by omega) eK nd762.2.2.2.2.2.2)⟩
        · have hf : f = -1 := by
            rcases hL.sg with ⟨w1, -⟩ | ⟨w1, -⟩
            · exact w1
            · omega
          refine s74 s _ pμ (fun h4 => by have := ha h4; omega) (OL.one (eP.up (Nat.le_refl _) (by omega) (Int.le_refl _)) (by omega) nd762.2.2.2.2.2.2) ?_ (OWs.one eK (by omega) (by omega) nd762.2.2.2.2.2.2)
          rcases hB9 with ⟨-, w⟩ | ⟨w, -⟩
          · exact OC.one (eC.ahead w (by omega)) s0
          · rw [hf] at w; exact absurd w (by decide)
      refine ⟨fun hne => s45 (-1) κ0 q1 q6 (by omega) (Or.inl rfl) (CVs.nil (by omega)) (fun h4 => absurd h4 hne) _ _ rfl (by omega) (FK.no (Int.le_refl _)), fun h4 => ?_⟩
      have cv0 : CVs κ0 (s.toInt + 1) (κ0.1 19).toInt [] := CVs.nil (by omega)
      have lt0 : s.toInt < (κ0.1 19).toInt := by omega
      have hKν : (K : Int) + (ν.1 40).toInt = 20 := by have := pν.1.2.2.2.2.2.2.2.2.1; omega
      obtain ⟨A770, hA771⟩ : ∃ A : Int, A = (κ0.1 19).toInt := ⟨_, rfl⟩
      have x775 := q1.px
      have u776 := q1.2
      have y777 := tT q1
      have z778 := px0 q1.ps
      refine MC.mono (hE κ0 T h q1.ps (by omega) (by omega) (by omega) (fun _ h => hTν _ (q1.1.1.tr h))) (fun r772 κ773 h774 => ?_) (fun _ h => h)
      obtain ⟨q779, a781, g780, n782, c783⟩ := h774
      have l784 := q779.l19
      have l785 := q779.l32
      have p786 : TR (-1) (0) 0 0 0 (1) ν κ773 := q1.trS q779 (Or.inl (by decide)) rfl rfl rfl rfl (by omega)
      have cv787 : CVs κ773 (s.toInt + 1) ((κ773).1 19).toInt [r772] := cv0.add q779.rb (Int.le_refl _) (Or.inl (by omega)) (by omega) l784 (LCO.of g780.in.1 c783)
      have nd788 := q6.tr q779 (by have := @ic s; omega) (by omega)
      have lt789 : s.toInt < (κ773.1 19).toInt := by omega
      have k790 : Kd κ773 h s.toInt s 1 r772 := Kd.of g780 (by omega) (Int.le_refl _) s0 (Or.inl (by omega)) n782
      obtain ⟨A791, hA792⟩ : ∃ A : Int, A = (κ773.1 19).toInt := ⟨_, rfl⟩
      have b793 : FK κ773 (h) K 0 (1, 1) A770 A791 0 r772 := FK.one (by omega) (g780.up (Nat.le_refl _) (by omega) (by omega)) n782 (by decide) (by decide)
      have g794 : TR s.toInt 0 0 0 0 0 κ773 (mA1 κ773 22 s.toNatClampNeg r772) := TR.put p786.ps s0 rfl rfl
      have e796 : ((mA1 κ773 22 s.toNatClampNeg r772).1 19).toInt = (κ773.1 19).toInt := rfl
      have e797 : ((mA1 κ773 22 s.toNatClampNeg r772).1 32).toInt = (κ773.1 32).toInt := rfl
      have sr799 : srt (mA1 κ773 22 s.toNatClampNeg r772) = srt κ773 := srt_off rfl
      have nd798 := nd788.pa (x := r772)
      have p800 : TR (-1) (0) 0 0 0 (1) ν (mA1 κ773 22 s.toNatClampNeg r772) := p786.trS g794 (Or.inr (Or.inr (by omega))) rfl rfl rfl rfl (by omega)
      have k801 := k790.tr g794 (Or.inr rfl) s0
      have cv802 : CVs (mA1 κ773 22 s.toNatClampNeg r772) (s.toInt + 1) (((mA1 κ773 22 s.toNatClampNeg r772)).1 19).toInt [r772] := cv787.st g794.rb (Int.le_refl _) (Or.inl (by omega)) rfl
      have b803 := FK.tr b793 g794 (by omega) (by omega)
      refine ⟨TR.mi p786.ps rfl rfl s0 (by omega), ?_⟩
      generalize mA1 κ773 22 s.toNatClampNeg r772 = κ795 at *
      have lt804 : s.toInt < (κ795.1 19).toInt := by omega
      refine MC.mono (t_expect (by omega) p800.ps (by decide) (fun _ h => hTν _ (p800.1.1.tr h))) (fun v805 κ810 h806 => ?_) (fun _ h => h)
      obtain ⟨q807, m808, a809⟩ := h806
      have p811 : TR (-1) (0) 0 0 0 (-1) ν κ810 := p800.trS q807 (Or.inl (by decide)) rfl rfl rfl rfl (by omega)
      have k812 := k801.tr q807 (Or.inl (by decide)) s0
      have cv813 : CVs κ810 (s.toInt + 1) ((κ810).1 19).toInt [r772] := cv802.st q807.rb (Int.le_refl _) (Or.inl (by omega)) m808
      have b814 := FK.tr b803 q807 (by omega) (by omega)
      have nd815 := nd798.tr q807 (by have := @ic s; omega) (by omega)
      have lt816 : s.toInt < (κ810.1 19).toInt := by omega
      exact s45 r772 κ810 ⟨p811.1, by have := p811.2; omega⟩ nd815 lt816 (Or.inr k812) cv813 (fun _ => by omega) A770 A791 (by omega) (by omega) (FK.opt b814)
  exact me_meth (by omega) rfl (v_arms_0 (key _ (-1) (-1) 1 0 μ (Nat.lt_succ_self _) (TR.rf hS) OL.nil (Or.inl ⟨rfl, NS.nil (Int.le_refl _)⟩) (OWs.nil (Int.le_refl _) (Int.le_refl _)) (by decide)))
theorem st_cases52 (hSt : SL X W P 321 [] 3 19 11 d) : SL X W P 328 [.int 52] 14 20 12 (d + 1) := fun μ T h9 hS hd hh hn hT => by
  have hp := px0 hS
  have h0 := hS.2.2.2.2.1
  have at0 := hS.at
  obtain ⟨h, rfl⟩ : ∃ h, h9 = h + 1 := ⟨h9 - 1, by omega⟩
  obtain ⟨K, hK⟩ : ∃ K : Nat, (K : Int) + (μ.1 40).toInt = 20 := ⟨(20 - (μ.1 40).toInt).toNat, by have := hS.2.2.2.2.2.2.2.2; omega⟩
  have key : ∀ (j : Nat) (f x3 : Int32) (ν : MS), ((μ.1 8).toInt - (ν.1 32).toInt).toNat < j → TR (-1) 0 0 0 0 0 μ ν → OL 14 (h + 1) (μ.1 19).toInt ν f x3 → OC ν (μ.1 19).toInt (ν.1 19).toInt f x3 → OWs (μ.1 32).toInt (μ.1 19).toInt ν h K 0 14 f x3 → ME X W true d 328 4 [(0, .ref P.1), (1, .int 52), (2, .int f), (3, .int x3)] [] P ν (fun r μ1 => TR (-1) 0 0 0 0 0 μ μ1 ∧ (∃ m, Lst (G μ1 (h + 1) (bt (μ.1 19).toInt (μ1.1 19).toInt) 14) (μ1.2.1 27) m r) ∧ LCO μ1 (μ.1 19).toInt (μ1.1 19).toInt r ∧ BdS 14 (h + 1) μ r μ1) T := by
    intro j
    induction j with
    | zero => intro f x3 ν hj; omega
    | succ j ih =>
      intro f x3 ν hj pν hL hB hW
      have e8 := eq_i (pν.1.1.1 8 rfl)
      have t8 := pν.ps.2.2.1.2
      have at1 := pν.ps.at
      have uν := pν.2
      have lν := pν.l19
      have xν := pν.px
      have yν := tT pν
      have bν := pν.ps.2.2.2.2.2.1.1
      refine v_cases_4 _ _ _ (MC.mono (c_is (by omega) pν.ps) (fun r ν1 hk => ?_) (fun _ h => h))
      obtain ⟨rfl, rfl⟩ := hk
      have hTν : ∀ μ1, kf SPA RPA ν1 μ1 → T μ1 := fun _ h => hT _ (pν.1.1.tr h)
      refine ⟨fun _ => ⟨pν, hL.lst, hB.l, hW.bd (by decide) (Nat.le_succ _) hK⟩, fun h1 => MC.mono (t_next (by omega) pν.ps (by rw [is_t h1]; decide) hTν) (fun _ κ1 hk => ?_) (fun _ h => h)⟩
      obtain ⟨m1, m2, m3⟩ := hk
      have u1 := m1.2
      refine MC.mono (t_node (by omega) m1.ps (by omega)) (fun s κ0 hk => ?_) (fun _ h => h)
      obtain ⟨q1, ⟨q2, s0⟩, q3, q4, q5, q6⟩ := hk
      have hcs := @ic s
      have s9 : s.toInt < 15990 := by omega
      have p0 : TR (-1) 0 0 0 0 (-1) ν1 κ0 := m1.tr q1 (Or.inl (by decide)) rfl rfl rfl rfl (by omega)
      have lt0 : s.toInt < (κ0.1 19).toInt := by omega
      have cv0 : CVs κ0 (s.toInt + 1) (κ0.1 19).toInt [] := CVs.nil (by omega)
      refine ⟨fun h => absurd rfl h, fun _ => ?_⟩
      obtain ⟨A817, hA818⟩ : ∃ A : Int, A = (κ0.1 19).toInt := ⟨_, rfl⟩
      have hKν : (K : Int) + (ν1.1 40).toInt = 20 := by have := pν.1.2.2.2.2.2.2.2.2.1; omega
      have x822 := p0.px
      have u823 := p0.2
      have y824 := tT p0
      have z825 := px0 p0.ps
      refine MC.mono (c_qname (by omega) p0.ps (by omega) (fun _ h => hTν _ (p0.1.1.tr h))) (fun r819 κ820 h821 => ?_) (fun _ h => h)
      obtain ⟨⟨z828, z829, z830, z831, z832⟩, z833, z834⟩ := h821
      have q826 : TR (-1) 0 0 0 0 0 κ0 κ820 := ⟨z828, by omega⟩
      have g827 := z831.up (h' := h) (by omega) (Int.le_refl _) (Int.le_refl _)
      have l835 := q826.l19
      have l836 := q826.l32
      have p837 : TR (-1) (0) 0 0 0 (-1) ν1 κ820 := p0.trS q826 (Or.inl (by decide)) rfl rfl rfl rfl (by omega)
      have cv838 : CVs κ820 (s.toInt + 1) ((κ820).1 19).toInt [] := cv0.ns q826.rb (Int.le_refl _) (Or.inl (by omega)) l835 z834
      have nd839 := q6.tr q826 (by have := @ic s; omega) (by omega)
      have lt840 : s.toInt < (κ820.1 19).toInt := by omega
      have k841 : Kd κ820 h s.toInt s 7 r819 := Kd.of g827 (by omega) (Int.le_refl _) s0 (Or.inl (by omega)) z832
      obtain ⟨A842, hA843⟩ : ∃ A : Int, A = (κ820.1 19).toInt := ⟨_, rfl⟩
      have b844 : FK κ820 (h) K 0 (1, 7) A817 A842 0 r819 := FK.one (by omega) (g827.up (Nat.le_refl _) (by omega) (by omega)) z832 (by decide) (by decide)
      have g845 : TR s.toInt 0 0 0 0 0 κ820 (mA1 κ820 22 s.toNatClampNeg r819) := TR.put p837.ps s0 rfl rfl
      have e847 : ((mA1 κ820 22 s.toNatClampNeg r819).1 19).toInt = (κ820.1 19).toInt := rfl
      have e848 : ((mA1 κ820 22 s.toNatClampNeg r819).1 32).toInt = (κ820.1 32).toInt := rfl
      have sr850 : srt (mA1 κ820 22 s.toNatClampNeg r819) = srt κ820 := srt_off rfl
      have nd849 := nd839.pa (x := r819)
      have p851 : TR (-1) (0) 0 0 0 (-1) ν1 (mA1 κ820 22 s.toNatClampNeg r819) := p837.trS g845 (Or.inr (Or.inr (by omega))) rfl rfl rfl rfl (by omega)
      have k852 := k841.tr g845 (Or.inr rfl) s0
      have cv853 : CVs (mA1 κ820 22 s.toNatClampNeg r819) (s.toInt + 1) (((mA1 κ820 22 s.toNatClampNeg r819)).1 19).toInt [] := cv838.st g845.rb (Int.le_refl _) (Or.inl (by omega)) rfl
      have b854 := FK.tr b844 g845 (by omega) (by omega)
      refine ⟨TR.mi p837.ps rfl rfl s0 (by omega), ?_⟩
      generalize mA1 κ820 22 s.toNatClampNeg r819 = κ846 at *
      have lt855 : s.toInt < (κ846.1 19).toInt := by omega
      refine MC.mono (t_open (by omega) p851.ps (by decide) (fun _ h => hTν _ (p851.1.1.tr h))) (fun v856 κ861 h857 => ?_) (fun _ h => h)
      obtain ⟨q858, m859, a860⟩ := h857
      have p862 : TR (-1) (1) 0 0 0 (-3) ν1 κ861 := p851.trS q858 (Or.inl (by decide)) rfl rfl rfl rfl (by omega)
      have k863 := k852.tr q858 (Or.inl (by decide)) s0
      have cv864 : CVs κ861 (s.toInt + 1) ((κ861).1 19).toInt [] := cv853.st q858.rb (Int.le_refl _) (Or.inl (by omega)) m859
      have b865 := FK.tr b854 q858 (by omega) (by omega)
      have nd866 := nd849.tr q858 (by have := @ic s; omega) (by omega)
      have lt867 : s.toInt < (κ861.1 19).toInt := by omega
      have u878 := p862.2
      have a879 := p862.ps.at
      refine MC.mono (t_node (by omega) p862.ps (by omega)) (fun x868 κ876 h877 => ?_) (fun _ h => h)
      obtain ⟨q869, ⟨z870, z871⟩, z872, z873, z874, z875⟩ := h877
      have c880 := @ic x868
      have p881 : TR (-1) (1) 0 0 0 (-2) ν1 κ876 := p862.trS q869 (Or.inl (by decide)) rfl rfl rfl rfl (by omega)
      have k882 := k863.tr q869 (Or.inl (by decide)) s0
      have cv883 : CVs κ876 (s.toInt + 1) ((κ876).1 19).toInt [] := cv864.ns q869.rb (Int.le_refl _) (Or.inl (by omega)) (by omega) (NS.one z875 (by omega) (by omega) (by decide))
      have b884 := FK.tr b865 q869 (by omega) (by omega)
      have nd885 := nd866.tr q869 (by have := @ic s; omega) (by omega)
      have lt886 : s.toInt < (κ876.1 19).toInt := by omega
      have k887 : Kd κ876 h s.toInt s 6 x868 := Kd.of ((n10 (h := 0) (lo := x868.toInt) (hi := (κ876.1 19).toInt) z871 (Int.le_refl _) (by omega) z875).up (by omega) (Int.le_refl _) (Int.le_refl _)) (by omega) (Int.le_refl _) s0 (Or.inl (by omega)) z875.2.2.2.2.2.2
      obtain ⟨A888, hA889⟩ : ∃ A : Int, A = (κ876.1 19).toInt := ⟨_, rfl⟩
      have b890 : FK κ876 (h) K 0 (1, 6) A842 A888 1 x868 := FK.nm (by omega) ((n10 (h := 0) (lo := A842) (hi := A888) z871 (by omega) (by omega) z875).up (by omega) (Int.le_refl _) (Int.le_refl _)) z875.2.2.2.2.2.2
      have g891 : TR s.toInt 0 0 0 0 0 κ876 (mA1 κ876 23 s.toNatClampNeg x868) := TR.put p881.ps s0 rfl rfl
      have e893 : ((mA1 κ876 23 s.toNatClampNeg x868).1 19).toInt = (κ876.1 19).toInt := rfl
      have e894 : ((mA1 κ876 23 s.toNatClampNeg x868).1 32).toInt = (κ876.1 32).toInt := rfl
      have sr896 : srt (mA1 κ876 23 s.toNatClampNeg x868) = srt κ876 := srt_off rfl
      have nd895 := nd885.pb (x := x868)
      have p897 : TR (-1) (1) 0 0 0 (-2) ν1 (mA1 κ876 23 s.toNatClampNeg x868) := p881.trS g891 (Or.inr (Or.inr (by omega))) rfl rfl rfl rfl (by omega)
      have k898 := k882.tr g891 (Or.inr rfl) s0
      have k899 := k887.tr g891 (Or.inr rfl) s0
      have cv900 : CVs (mA1 κ876 23 s.toNatClampNeg x868) (s.toInt + 1) (((mA1 κ876 23 s.toNatClampNeg x868)).1 19).toInt [] := cv883.st g891.rb (Int.le_refl _) (Or.inl (by omega)) rfl
      have b901 := FK.tr b884 g891 (by omega) (by omega)
      have b902 := FK.tr b890 g891 (by omega) (by omega)
      have nx903 := z875.off (g := 23) (t := s.toNatClampNeg) (x := x868) (by have := @ic s; have := @ic x868; omega)
      refine ⟨TR.mi p881.ps rfl rfl s0 (by omega), TR.mi p881.ps rfl rfl s0 (by omega), ?_⟩
      generalize mA1 κ876 23 s.toNatClampNeg x868 = κ892 at *
      have lt904 : s.toInt < (κ892.1 19).toInt := by omega
      refine MC.mono (t_name (by omega) p897.ps (fun _ h => hTν _ (p897.1.1.tr h))) (fun v905 κ910 h906 => ?_) (fun _ h => h)
      obtain ⟨q907, m908, a909⟩ := h906
      have p911 : TR (-1) (1) 0 0 0 (-4) ν1 κ910 := p897.trS q907 (Or.inl (by decide)) rfl rfl rfl rfl (by omega)
      have k912 := k898.tr q907 (Or.inl (by decide)) s0
      have k913 := k899.tr q907 (Or.inl (by decide)) s0
      have cv914 : CVs κ910 (s.toInt + 1) ((κ910).1 19).toInt [] := cv900.st q907.rb (Int.le_refl _) (Or.inl (by omega)) m908
      have b915 := FK.tr b901 q907 (by omega) (by omega)
      have b916 := FK.tr b902 q907 (by omega) (by omega)
      have nx917 := nx903.tr q907 (by have := @ic x868; omega) (by omega)
      have nd918 := nd895.tr q907 (by have := @ic s; omega) (by omega)
      have lt919 : s.toInt < (κ910.1 19).toInt := by omega
      rw [upd_at]
      have c924 := @ic x868
      have c925 := @ic s
      have g920 : TR x868.toInt 0 0 0 0 0 κ910 (mA1 κ910 22 x868.toNatClampNeg v905) := TR.put p911.ps z871 rfl rfl
      have e922 : ((mA1 κ910 22 x868.toNatClampNeg v905).1 19).toInt = (κ910.1 19).toInt := rfl
      have e923 : ((mA1 κ910 22 x868.toNatClampNeg v905).1 32).toInt = (κ910.1 32).toInt := rfl
      have nd926 := nd918.off (g := 22) (t := x868.toNatClampNeg) (x := v905) (by omega)
      have p927 : TR (-1) (1) 0 0 0 (-4) ν1 (mA1 κ910 22 x868.toNatClampNeg v905) := p911.trS g920 (Or.inr (Or.inr (by omega))) rfl rfl rfl rfl (by omega)
      have k928 := Kd.free0 (t := x868.toNatClampNeg) (y := v905) nx917.1 k912
      have k929 := Kd.free0 (t := x868.toNatClampNeg) (y := v905) nx917.1 k913
      have b930 := FK.tr b915 g920 (by omega) (by omega)
      have b931 := FK.nm0 (k := x868.toNatClampNeg) (y := v905) nx917.1 b916
      have cv932 : CVs (mA1 κ910 22 x868.toNatClampNeg v905) (s.toInt + 1) ((mA1 κ910 22 x868.toNatClampNeg v905).1 19).toInt [] := cv914.free0 nx917.1
      refine ⟨TR.mi p911.ps rfl rfl z871 (by omega), ?_⟩
      generalize mA1 κ910 22 x868.toNatClampNeg v905 = κ921 at *
      have lt933 : s.toInt < (κ921.1 19).toInt := by omega
      have hb934 := p927.b37
      refine MC.mono (t_close (by omega) p927.ps (by decide) (by omega) (fun _ h => hTν _ (p927.1.1.tr h))) (fun v935 κ940 h936 => ?_) (fun _ h => h)
      obtain ⟨q937, m938, a939⟩ := h936
      have p941 : TR (-1) (0) 0 0 0 (-6) ν1 κ940 := p927.trS q937 (Or.inl (by decide)) rfl rfl rfl rfl (by omega)
      have k942 := k928.tr q937 (Or.inl (by decide)) s0
      have k943 := k929.tr q937 (Or.inl (by decide)) s0
      have cv944 : CVs κ940 (s.toInt + 1) ((κ940).1 19).toInt [] := cv932.st q937.rb (Int.le_refl _) (Or.inl (by omega)) m938
      have b945 := FK.tr b930 q937 (by omega) (by omega)
      have b946 := FK.tr b931 q937 (by omega) (by omega)
      have nd947 := nd926.tr q937 (by have := @ic s; omega) (by omega)
      have lt948 : s.toInt < (κ940.1 19).toInt := by omega
      refine MC.mono (t_expect (by omega) p941.ps (by decide) (fun _ h => hTν _ (p941.1.1.tr h))) (fun v949 κ954 h950 => ?_) (fun _ h => h)
      obtain ⟨q951, m952, a953⟩ := h950
      have p955 : TR (-1) (0) 0 0 0 (-8) ν1 κ954 := p941.trS q951 (Or.inl (by decide)) rfl rfl rfl rfl (by omega)
      have k956 := k942.tr q951 (Or.inl (by decide)) s0
      have k957 := k943.tr q951 (Or.inl (by decide)) s0
      have cv958 : CVs κ954 (s.toInt + 1) ((κ954).1 19).toInt [] := cv944.st q951.rb (Int.le_refl _) (Or.inl (by omega)) m952
      have b959 := FK.tr b945 q951 (by omega) (by omega)
      have b960 := FK.tr b946 q951 (by omega) (by omega)
      have nd961 := nd947.tr q951 (by have := @ic s; omega) (by omega)
      have lt962 : s.toInt < (κ954.1 19).toInt := by omega
      have x966 := p955.px
      have u967 := p955.2
      have y968 := tT p955
      have z969 := px0 p955.ps
      refine MC.mono (hSt κ954 T h p955.ps (by omega) (by omega) (by omega) (fun _ h => hTν _ (p955.1.1.tr h))) (fun r963 κ964 h965 => ?_) (fun _ h => h)
      obtain ⟨q970, g971, c972, hb973⟩ := h965
      obtain ⟨v974, hv975, b976⟩ := hb973 K (by have y40 := p955.1.2.2.2.2.2.2.2.2.1; omega)
      have l977 := q970.l19
      have l978 := q970.l32
      have p979 : TR (-1) (0) 0 0 0 (-8) ν1 κ964 := p955.trS q970 (Or.inl (by decide)) rfl rfl rfl rfl (by omega)
      have k980 := k956.tr q970 (Or.inl (by decide)) s0
      have k981 := k957.tr q970 (Or.inl (by decide)) s0
      have cv982 : CVs κ964 (s.toInt + 1) ((κ964).1 19).toInt [r963] := cv958.add q970.rb (Int.le_refl _) (Or.inl (by omega)) (by omega) l977 (c972)
      have b983 := FK.tr b959 q970 (by omega) (by omega)
      have b984 := FK.tr b960 q970 (by omega) (by omega)
      have nd985 := nd961.tr q970 (by have := @ic s; omega) (by omega)
      have lt986 : s.toInt < (κ964.1 19).toInt := by omega
      have k987 : KL κ964 h s.toInt s 3 r963 := KL.of g971 (by omega) (Int.le_refl _) s0 (Or.inl (by omega))
      obtain ⟨A988, hA989⟩ : ∃ A : Int, A = (κ964.1 19).toInt := ⟨_, rfl⟩
      have b990 : FK κ964 (h) K 0 (3, 3) A888 A988 v974 r963 := FK.at (by omega) (by omega) b976.b3
      have g991 : TR s.toInt 0 0 0 0 0 κ964 (mA1 κ964 24 s.toNatClampNeg r963) := TR.put p979.ps s0 rfl rfl
      have e993 : ((mA1 κ964 24 s.toNatClampNeg r963).1 19).toInt = (κ964.1 19).toInt := rfl
      have e994 : ((mA1 κ964 24 s.toNatClampNeg r963).1 32).toInt = (κ964.1 32).toInt := rfl
      have sr996 : srt (mA1 κ964 24 s.toNatClampNeg r963) = srt κ964 := srt_off rfl
      have nd995 := nd985.pc (x := r963)
      have p997 : TR (-1) (0) 0 0 0 (-8) ν1 (mA1 κ964 24 s.toNatClampNeg r963) := p979.trS g991 (Or.inr (Or.inr (by omega))) rfl rfl rfl rfl (by omega)
      have k998 := k980.tr g991 (Or.inr rfl) s0
      have k999 := k981.tr g991 (Or.inr rfl) s0
      have k1000 := k987.tr g991 (Or.inr rfl) s0
      have cv1001 : CVs (mA1 κ964 24 s.toNatClampNeg r963) (s.toInt + 1) (((mA1 κ964 24 s.toNatClampNeg r963)).1 19).toInt [r963] := cv982.st g991.rb (Int.le_refl _) (Or.inl (by omega)) rfl
      have b1002 := FK.tr b983 g991 (by omega) (by omega)
      have b1003 := FK.tr b984 g991 (by omega) (by omega)
      have b1004 := FK.tr b990 g991 (by omega) (by omega)
      refine ⟨TR.mi p979.ps rfl rfl s0 (by omega), ?_⟩
      generalize mA1 κ964 24 s.toNatClampNeg r963 = κ992 at *
      have lt1005 : s.toInt < (κ992.1 19).toInt := by omega
      have eP : G κ992 (h + 1) (bt (ν1.1 19).toInt (κ992.1 19).toInt) 14 s := G.mk s0 (by omega) lt1005 nd995 (by decide) (Kd.lo k998 (by omega)) (Kd.lo k999 (by omega)) (KL.lo k1000 (by omega)) True.intro True.intro
      have eC : CO κ992 (ν1.1 19).toInt (κ992.1 19).toInt s := (CO.fin' (by omega) cv1001 s0 ⟨fun h => Par.fc nd995 (by decide) h, True.intro⟩ lt1005)
      have eK : PK κ992 h K 0 14 (ν1.1 19).toInt (κ992.1 19).toInt (0 + 1 + v974 + 0 + 0 + 0) s := PK.mk (c0 := A817) (v0 := 0) (v1 := 1) (v2 := v974) (v3 := 0) (v4 := 0) nd995 s0 (by omega) (by omega) (by omega) (by decide) (by have e : ow (52 : Int32) = 0 := (by decide); omega) ((FK.up (by omega) b1002)) ((FK.up (by omega) b1003)) ((FK.up (by omega) b1004)) (FK.fr (Int.le_refl _)) (FK.fr (Int.le_refl _))
      have hB9 := hB.rb p997.rb (Int.le_refl _) (Or.inl (by omega))
      have pμ : TR (-1) 0 0 0 0 0 μ κ992 := pν.trS p997 (Or.inl (by decide)) rfl rfl rfl rfl (by omega)
      have p9 : TR (-1) 0 0 0 0 0 ν1 κ992 := ⟨p997.1, by have := p997.2; omega⟩
      have l9 : (ν1.1 32).toInt < (κ992.1 32).toInt := by omega
      refine ⟨fun hx1 => ?_, fun hx1 => ?_⟩
      · rcases hL.sg with ⟨w1, -⟩ | ⟨w1, w2⟩
        · rw [w1] at hx1; exact absurd hx1 (by decide)
        obtain ⟨i1, i2, i3⟩ := hL.in w2
        have hc2 := @ic x3
        have g9 : TR x3.toInt 0 0 0 0 0 κ992 (mA1 κ992 27 x3.toNatClampNeg s) := TR.put pμ.ps w2 rfl rfl
        exact ⟨TR.mi p979.ps rfl rfl w2 (by omega), ih f s _ (by show ((μ.1 8).toInt - (κ992.1 32).toInt).toNat < j; omega) (pμ.tr g9 (Or.inr (by omega)) rfl rfl rfl rfl (by omega)) (hL.add w2 p9 (by omega) eP nd995.2.2.2.2.2.2) (hB9.add w2 i2 i3 i1 eC s0 p9.l19 (by rw [p9.rb 27 (by omega) (by omega) _ (by omega) (by omega)]; exact hL.nn w2)) (hW.add w2 p9 h0 (by omega) eK nd995.2.2.2.2.2.2)⟩
      · have hf : f = -1 := by
          rcases hL.sg with ⟨w1, -⟩ | ⟨w1, -⟩
          · exact w1
          · omega
        refine ih s s _ (by omega) pμ (OL.one (eP.up (Nat.le_refl _) (by omega) (Int.le_refl _)) (by omega) nd995.2.2.2.2.2.2) ?_ (OWs.one eK (by omega) (by omega) nd995.2.2.2.2.2.2)
        rcases hB9 with ⟨-, w⟩ | ⟨w, -⟩
        · exact OC.one (eC.ahead w (by omega)) s0
        · rw [hf] at w; exact absurd w (by decide)
  exact me_meth (by omega) rfl (v_cases_0 _ (key _ (-1) (-1) μ (Nat.lt_succ_self _) (TR.rf hS) OL.nil (Or.inl ⟨rfl, NS.nil (Int.le_refl _)⟩) (OWs.nil (Int.le_refl _) (Int.le_refl _))))
theorem st_cases61 (hY : NodC X W P 312 0 9 0 d) (hSt : SL X W P 321 [] 3 19 11 d) : SL X W P 328 [.int 61] 15 20 12 (d + 1) := fun μ T h9 hS hd hh hn hT => by
  have hp := px0 hS
  have h0 := hS.2.2.2.2.1
  have at0 := hS.at
  obtain ⟨h, rfl⟩ : ∃ h, h9 = h + 1 := ⟨h9 - 1, by omega⟩
  obtain ⟨K, hK⟩ : ∃ K : Nat, (K : Int) + (μ.1 40).toInt = 20 := ⟨(20 - (μ.1 40).toInt).toNat, by have := hS.2.2.2.2.2.2.2.2; omega⟩
  have key : ∀ (j : Nat) (f x3 : Int32) (ν : MS), ((μ.1 8).toInt - (ν.1 32).toInt).toNat < j → TR (-1) 0 0 0 0 0 μ ν → OL 15 (h + 1) (μ.1 19).toInt ν f x3 → OC ν (μ.1 19).toInt (ν.1 19).toInt f x3 → OWs (μ.1 32).toInt (μ.1 19).toInt ν h K 0 15 f x3 → ME X W true d 328 4 [(0, .ref P.1), (1, .int 61), (2, .int f), (3, .int x3)] [] P ν (fun r μ1 => TR (-1) 0 0 0 0 0 μ μ1 ∧ (∃ m, Lst (G μ1 (h + 1) (bt (μ.1 19).toInt (μ1.1 19).toInt) 15) (μ1.2.1 27) m r) ∧ LCO μ1 (μ.1 19).toInt (μ1.1 19).toInt r ∧ BdS 15 (h + 1) μ r μ1) T := by
    intro j
    induction j with
    | zero => intro f x3 ν hj; omega
    | succ j ih =>
      intro f x3 ν hj pν hL hB hW
      have e8 := eq_i (pν.1.1.1 8 rfl)
      have t8 := pν.ps.2.2.1.2
      have at1 := pν.ps.at
      have uν := pν.2
      have lν := pν.l19
      have xν := pν.px
      have yν := tT pν
      have bν := pν.ps.2.2.2.2.2.1.1
      refine v_cases_4 _ _ _ (MC.mono (c_is (by omega) pν.ps) (fun r ν1 hk => ?_) (fun _ h => h))
      obtain ⟨rfl, rfl⟩ := hk
      have hTν : ∀ μ1, kf SPA RPA ν1 μ1 → T μ1 := fun _ h => hT _ (pν.1.1.tr h)
      refine ⟨fun _ => ⟨pν, hL.lst, hB.l, hW.bd (by decide) (Nat.le_succ _) hK⟩, fun h1 => MC.mono (t_next (by omega) pν.ps (by rw [is_t h1]; decide) hTν) (fun _ κ1 hk => ?_) (fun _ h => h)⟩
      obtain ⟨m1, m2, m3⟩ := hk
      have u1 := m1.2
      refine MC.mono (t_node (by omega) m1.ps (by omega)) (fun s κ0 hk => ?_) (fun _ h => h)
      obtain ⟨q1, ⟨q2, s0⟩, q3, q4, q5, q6⟩ := hk
      have hcs := @ic s
      have s9 : s.toInt < 15990 := by omega
      have p0 : TR (-1) 0 0 0 0 (-1) ν1 κ0 := m1.tr q1 (Or.inl (by decide)) rfl rfl rfl rfl (by omega)
      have lt0 : s.toInt < (κ0.1 19).toInt := by omega
      have cv0 : CVs κ0 (s.toInt + 1) (κ0.1 19).toInt [] := CVs.nil (by omega)
      refine ⟨fun _ => ?_, fun h => absurd h (by decide)⟩
      obtain ⟨A1006, hA1007⟩ : ∃ A : Int, A = (κ0.1 19).toInt := ⟨_, rfl⟩
      have hKν : (K : Int) + (ν1.1 40).toInt = 20 := by have := pν.1.2.2.2.2.2.2.2.2.1; omega
      have x1011 := p0.px
      have u1012 := p0.2
      have y1013 := tT p0
      have z1014 := px0 p0.ps
      refine MC.mono (hY κ0 T h p0.ps (by omega) (by omega) (by omega) (fun _ h => hTν _ (p0.1.1.tr h))) (fun r1008 κ1009 h1010 => ?_) (fun _ h => h)
      obtain ⟨⟨z1017, z1018, z1019, z1020, z1021⟩, c1022⟩ := h1010
      have q1015 : TR (-1) 0 0 0 0 0 κ0 κ1009 := ⟨z1017, by omega⟩
      have g1016 := z1020
      have l1023 := q1015.l19
      have l1024 := q1015.l32
      have p1025 : TR (-1) (0) 0 0 0 (-1) ν1 κ1009 := p0.trS q1015 (Or.inl (by decide)) rfl rfl rfl rfl (by omega)
      have cv1026 : CVs κ1009 (s.toInt + 1) ((κ1009).1 19).toInt [r1008] := cv0.add q1015.rb (Int.le_refl _) (Or.inl (by omega)) (by omega) l1023 (LCO.of z1020.in.1 c1022)
      have nd1027 := q6.tr q1015 (by have := @ic s; omega) (by omega)
      have lt1028 : s.toInt < (κ1009.1 19).toInt := by omega
      have k1029 : Kd κ1009 h s.toInt s 0 r1008 := Kd.of g1016 (by omega) (Int.le_refl _) s0 (Or.inl (by omega)) z1021
      obtain ⟨A1030, hA1031⟩ : ∃ A : Int, A = (κ1009.1 19).toInt := ⟨_, rfl⟩
      have b1032 : FK κ1009 (h) K 0 (1, 0) A1006 A1030 0 r1008 := FK.one (by omega) (g1016.up (Nat.le_refl _) (by omega) (by omega)) z1021 (by decide) (by decide)
      have g1033 : TR s.toInt 0 0 0 0 0 κ1009 (mA1 κ1009 22 s.toNatClampNeg r1008) := TR.put p1025.ps s0 rfl rfl
      have e1035 : ((mA1 κ1009 22 s.toNatClampNeg r1008).1 19).toInt = (κ1009.1 19).toInt := rfl
      have e1036 : ((mA1 κ1009 22 s.toNatClampNeg r1008).1 32).toInt = (κ1009.1 32).toInt := rfl
      have sr1038 : srt (mA1 κ1009 22 s.toNatClampNeg r1008) = srt κ1009 := srt_off rfl
      have nd1037 := nd1027.pa (x := r1008)
      have p1039 : TR (-1) (0) 0 0 0 (-1) ν1 (mA1 κ1009 22 s.toNatClampNeg r1008) := p1025.trS g1033 (Or.inr (Or.inr (by omega))) rfl rfl rfl rfl (by omega)
      have k1040 := k1029.tr g1033 (Or.inr rfl) s0
      have cv1041 : CVs (mA1 κ1009 22 s.toNatClampNeg r1008) (s.toInt + 1) (((mA1 κ1009 22 s.toNatClampNeg r1008)).1 19).toInt [r1008] := cv1026.st g1033.rb (Int.le_refl _) (Or.inl (by omega)) rfl
      have b1042 := FK.tr b1032 g1033 (by omega) (by omega)
      refine ⟨TR.mi p1025.ps rfl rfl s0 (by omega), ?_⟩
      generalize mA1 κ1009 22 s.toNatClampNeg r1008 = κ1034 at *
      have lt1043 : s.toInt < (κ1034.1 19).toInt := by omega
      refine MC.mono (t_open (by omega) p1039.ps (by decide) (fun _ h => hTν _ (p1039.1.1.tr h))) (fun v1044 κ1049 h1045 => ?_) (fun _ h => h)
      obtain ⟨q1046, m1047, a1048⟩ := h1045
      have p1050 : TR (-1) (1) 0 0 0 (-3) ν1 κ1049 := p1039.trS q1046 (Or.inl (by decide)) rfl rfl rfl rfl (by omega)
      have k1051 := k1040.tr q1046 (Or.inl (by decide)) s0
      have cv1052 : CVs κ1049 (s.toInt + 1) ((κ1049).1 19).toInt [r1008] := cv1041.st q1046.rb (Int.le_refl _) (Or.inl (by omega)) m1047
      have b1053 := FK.tr b1042 q1046 (by omega) (by omega)
      have nd1054 := nd1037.tr q1046 (by have := @ic s; omega) (by omega)
      have lt1055 : s.toInt < (κ1049.1 19).toInt := by omega
      have u1066 := p1050.2
      have a1067 := p1050.ps.at
      refine MC.mono (t_node (by omega) p1050.ps (by omega)) (fun x1056 κ1064 h1065 => ?_) (fun _ h => h)
      obtain ⟨q1057, ⟨z1058, z1059⟩, z1060, z1061, z1062, z1063⟩ := h1065
      have c1068 := @ic x1056
      have p1069 : TR (-1) (1) 0 0 0 (-2) ν1 κ1064 := p1050.trS q1057 (Or.inl (by decide)) rfl rfl rfl rfl (by omega)
      have k1070 := k1051.tr q1057 (Or.inl (by decide)) s0
      have cv1071 : CVs κ1064 (s.toInt + 1) ((κ1064).1 19).toInt [r1008] := cv1052.ns q1057.rb (Int.le_refl _) (Or.inl (by omega)) (by omega) (NS.one z1063 (by omega) (by omega) (by decide))
      have b1072 := FK.tr b1053 q1057 (by omega) (by omega)
      have nd1073 := nd1054.tr q1057 (by have := @ic s; omega) (by omega)
      have lt1074 : s.toInt < (κ1064.1 19).toInt := by omega
      have k1075 : Kd κ1064 h s.toInt s 6 x1056 := Kd.of ((n10 (h := 0) (lo := x1056.toInt) (hi := (κ1064.1 19).toInt) z1059 (Int.le_refl _) (by omega) z1063).up (by omega) (Int.le_refl _) (Int.le_refl _)) (by omega) (Int.le_refl _) s0 (Or.inl (by omega)) z1063.2.2.2.2.2.2
      obtain ⟨A1076, hA1077⟩ : ∃ A : Int, A = (κ1064.1 19).toInt := ⟨_, rfl⟩
      have b1078 : FK κ1064 (h) K 0 (1, 6) A1030 A1076 1 x1056 := FK.nm (by omega) ((n10 (h := 0) (lo := A1030) (hi := A1076) z1059 (by omega) (by omega) z1063).up (by omega) (Int.le_refl _) (Int.le_refl _)) z1063.2.2.2.2.2.2
      have g1079 : TR s.toInt 0 0 0 0 0 κ1064 (mA1 κ1064 23 s.toNatClampNeg x1056) := TR.put p1069.ps s0 rfl rfl
      have e1081 : ((mA1 κ1064 23 s.toNatClampNeg x1056).1 19).toInt = (κ1064.1 19).toInt := rfl
      have e1082 : ((mA1 κ1064 23 s.toNatClampNeg x1056).1 32).toInt = (κ1064.1 32).toInt := rfl
      have sr1084 : srt (mA1 κ1064 23 s.toNatClampNeg x1056) = srt κ1064 := srt_off rfl
      have nd1083 := nd1073.pb (x := x1056)
      have p1085 : TR (-1) (1) 0 0 0 (-2) ν1 (mA1 κ1064 23 s.toNatClampNeg x1056) := p1069.trS g1079 (Or.inr (Or.inr (by omega))) rfl rfl rfl rfl (by omega)
      have k1086 := k1070.tr g1079 (Or.inr rfl) s0
      have k1087 := k1075.tr g1079 (Or.inr rfl) s0
      have cv1088 : CVs (mA1 κ1064 23 s.toNatClampNeg x1056) (s.toInt + 1) (((mA1 κ1064 23 s.toNatClampNeg x1056)).1 19).toInt [r1008] := cv1071.st g1079.rb (Int.le_refl _) (Or.inl (by omega)) rfl
      have b1089 := FK.tr b1072 g1079 (by omega) (by omega)
      have b1090 := FK.tr b1078 g1079 (by omega) (by omega)
      have nx1091 := z1063.off (g := 23) (t := s.toNatClampNeg) (x := x1056) (by have := @ic s; have := @ic x1056; omega)
      refine ⟨TR.mi p1069.ps rfl rfl s0 (by omega), TR.mi p1069.ps rfl rfl s0 (by omega), ?_⟩
      generalize mA1 κ1064 23 s.toNatClampNeg x1056 = κ1080 at *
      have lt1092 : s.toInt < (κ1080.1 19).toInt := by omega
      refine MC.mono (t_name (by omega) p1085.ps (fun _ h => hTν _ (p1085.1.1.tr h))) (fun v1093 κ1098 h1094 => ?_) (fun _ h => h)
      obtain ⟨q1095, m1096, a1097⟩ := h1094
      have p1099 : TR (-1) (1) 0 0 0 (-4) ν1 κ1098 := p1085.trS q1095 (Or.inl (by decide)) rfl rfl rfl rfl (by omega)
      have k1100 := k1086.tr q1095 (Or.inl (by decide)) s0
      have k1101 := k1087.tr q1095 (Or.inl (by decide)) s0
      have cv1102 : CVs κ1098 (s.toInt + 1) ((κ1098).1 19).toInt [r1008] := cv1088.st q1095.rb (Int.le_refl _) (Or.inl (by omega)) m1096
      have b1103 := FK.tr b1089 q1095 (by omega) (by omega)
      have b1104 := FK.tr b1090 q1095 (by omega) (by omega)
      have nx1105 := nx1091.tr q1095 (by have := @ic x1056; omega) (by omega)
      have nd1106 := nd1083.tr q1095 (by have := @ic s; omega) (by omega)
      have lt1107 : s.toInt < (κ1098.1 19).toInt := by omega
      rw [upd_at]
      have c1112 := @ic x1056
      have c1113 := @ic s
      have g1108 : TR x1056.toInt 0 0 0 0 0 κ1098 (mA1 κ1098 22 x1056.toNatClampNeg v1093) := TR.put p1099.ps z1059 rfl rfl
      have e1110 : ((mA1 κ1098 22 x1056.toNatClampNeg v1093).1 19).toInt = (κ1098.1 19).toInt := rfl
      have e1111 : ((mA1 κ1098 22 x1056.toNatClampNeg v1093).1 32).toInt = (κ1098.1 32).toInt := rfl
      have nd1114 := nd1106.off (g := 22) (t := x1056.toNatClampNeg) (x := v1093) (by omega)
      have p1115 : TR (-1) (1) 0 0 0 (-4) ν1 (mA1 κ1098 22 x1056.toNatClampNeg v1093) := p1099.trS g1108 (Or.inr (Or.inr (by omega))) rfl rfl rfl rfl (by omega)
      have k1116 := Kd.free0 (t := x1056.toNatClampNeg) (y := v1093) nx1105.1 k1100
      have k1117 := Kd.free0 (t := x1056.toNatClampNeg) (y := v1093) nx1105.1 k1101
      have b1118 := FK.tr b1103 g1108 (by omega) (by omega)
      have b1119 := FK.nm0 (k := x1056.toNatClampNeg) (y := v1093) nx1105.1 b1104
      have cv1120 : CVs (mA1 κ1098 22 x1056.toNatClampNeg v1093) (s.toInt + 1) ((mA1 κ1098 22 x1056.toNatClampNeg v1093).1 19).toInt [r1008] := cv1102.free0 nx1105.1
      refine ⟨TR.mi p1099.ps rfl rfl z1059 (by omega), ?_⟩
      generalize mA1 κ1098 22 x1056.toNatClampNeg v1093 = κ1109 at *
      have lt1121 : s.toInt < (κ1109.1 19).toInt := by omega
      have hb1122 := p1115.b37
      refine MC.mono (t_close (by omega) p1115.ps (by decide) (by omega) (fun _ h => hTν _ (p1115.1.1.tr h))) (fun v1123 κ1128 h1124 => ?_) (fun _ h => h)
      obtain ⟨q1125, m1126, a1127⟩ := h1124
      have p1129 : TR (-1) (0) 0 0 0 (-6) ν1 κ1128 := p1115.trS q1125 (Or.inl (by decide)) rfl rfl rfl rfl (by omega)
      have k1130 := k1116.tr q1125 (Or.inl (by decide)) s0
      have k1131 := k1117.tr q1125 (Or.inl (by decide)) s0
      have cv1132 : CVs κ1128 (s.toInt + 1) ((κ1128).1 19).toInt [r1008] := cv1120.st q1125.rb (Int.le_refl _) (Or.inl (by omega)) m1126
      have b1133 := FK.tr b1118 q1125 (by omega) (by omega)
      have b1134 := FK.tr b1119 q1125 (by omega) (by omega)
      have nd1135 := nd1114.tr q1125 (by have := @ic s; omega) (by omega)
      have lt1136 : s.toInt < (κ1128.1 19).toInt := by omega
      refine MC.mono (t_expect (by omega) p1129.ps (by decide) (fun _ h => hTν _ (p1129.1.1.tr h))) (fun v1137 κ1142 h1138 => ?_) (fun _ h => h)
      obtain ⟨q1139, m1140, a1141⟩ := h1138
      have p1143 : TR (-1) (0) 0 0 0 (-8) ν1 κ1142 := p1129.trS q1139 (Or.inl (by decide)) rfl rfl rfl rfl (by omega)
      have k1144 := k1130.tr q1139 (Or.inl (by decide)) s0
      have k1145 := k1131.tr q1139 (Or.inl (by decide)) s0
      have cv1146 : CVs κ1142 (s.toInt + 1) ((κ1142).1 19).toInt [r1008] := cv1132.st q1139.rb (Int.le_refl _) (Or.inl (by omega)) m1140
      have b1147 := FK.tr b1133 q1139 (by omega) (by omega)
      have b1148 := FK.tr b1134 q1139 (by omega) (by omega)
      have nd1149 := nd1135.tr q1139 (by have := @ic s; omega) (by omega)
      have lt1150 : s.toInt < (κ1142.1 19).toInt := by omega
      have x1154 := p1143.px
      have u1155 := p1143.2
      have y1156 := tT p1143
      have z1157 := px0 p1143.ps
      refine MC.mono (hSt κ1142 T h p1143.ps (by omega) (by omega) (by omega) (fun _ h => hTν _ (p1143.1.1.tr h))) (fun r1151 κ1152 h1153 => ?_) (fun _ h => h)
      obtain ⟨q1158, g1159, c1160, hb1161⟩ := h1153
      obtain ⟨v1162, hv1163, b1164⟩ := hb1161 K (by have y40 := p1143.1.2.2.2.2.2.2.2.2.1; omega)
      have l1165 := q1158.l19
      have l1166 := q1158.l32
      have p1167 : TR (-1) (0) 0 0 0 (-8) ν1 κ1152 := p1143.trS q1158 (Or.inl (by decide)) rfl rfl rfl rfl (by omega)
      have k1168 := k1144.tr q1158 (Or.inl (by decide)) s0
      have k1169 := k1145.tr q1158 (Or.inl (by decide)) s0
      have cv1170 : CVs κ1152 (s.toInt + 1) ((κ1152).1 19).toInt [r1151, r1008] := cv1146.add q1158.rb (Int.le_refl _) (Or.inl (by omega)) (by omega) l1165 (c1160)
      have b1171 := FK.tr b1147 q1158 (by omega) (by omega)
      have b1172 := FK.tr b1148 q1158 (by omega) (by omega)
      have nd1173 := nd1149.tr q1158 (by have := @ic s; omega) (by omega)
      have lt1174 : s.toInt < (κ1152.1 19).toInt := by omega
      have k1175 : KL κ1152 h s.toInt s 3 r1151 := KL.of g1159 (by omega) (Int.le_refl _) s0 (Or.inl (by omega))
      obtain ⟨A1176, hA1177⟩ : ∃ A : Int, A = (κ1152.1 19).toInt := ⟨_, rfl⟩
      have b1178 : FK κ1152 (h) K 0 (3, 3) A1076 A1176 v1162 r1151 := FK.at (by omega) (by omega) b1164.b3
      have g1179 : TR s.toInt 0 0 0 0 0 κ1152 (mA1 κ1152 24 s.toNatClampNeg r1151) := TR.put p1167.ps s0 rfl rfl
      have e1181 : ((mA1 κ1152 24 s.toNatClampNeg r1151).1 19).toInt = (κ1152.1 19).toInt := rfl
      have e1182 : ((mA1 κ1152 24 s.toNatClampNeg r1151).1 32).toInt = (κ1152.1 32).toInt := rfl
      have sr1184 : srt (mA1 κ1152 24 s.toNatClampNeg r1151) = srt κ1152 := srt_off rfl
      have nd1183 := nd1173.pc (x := r1151)
      have p1185 : TR (-1) (0) 0 0 0 (-8) ν1 (mA1 κ1152 24 s.toNatClampNeg r1151) := p1167.trS g1179 (Or.inr (Or.inr (by omega))) rfl rfl rfl rfl (by omega)
      have k1186 := k1168.tr g1179 (Or.inr rfl) s0
      have k1187 := k1169.tr g1179 (Or.inr rfl) s0
      have k1188 := k1175.tr g1179 (Or.inr rfl) s0
      have cv1189 : CVs (mA1 κ1152 24 s.toNatClampNeg r1151) (s.toInt + 1) (((mA1 κ1152 24 s.toNatClampNeg r1151)).1 19).toInt [r1151, r1008] := cv1170.st g1179.rb (Int.le_refl _) (Or.inl (by omega)) rfl
      have b1190 := FK.tr b1171 g1179 (by omega) (by omega)
      have b1191 := FK.tr b1172 g1179 (by omega) (by omega)
      have b1192 := FK.tr b1178 g1179 (by omega) (by omega)
      refine ⟨TR.mi p1167.ps rfl rfl s0 (by omega), ?_⟩
      generalize mA1 κ1152 24 s.toNatClampNeg r1151 = κ1180 at *
      have lt1193 : s.toInt < (κ1180.1 19).toInt := by omega
      have eP : G κ1180 (h + 1) (bt (ν1.1 19).toInt (κ1180.1 19).toInt) 15 s := G.mk s0 (by omega) lt1193 nd1183 (by decide) (Kd.lo k1186 (by omega)) (Kd.lo k1187 (by omega)) (KL.lo k1188 (by omega)) True.intro True.intro
      have eC : CO κ1180 (ν1.1 19).toInt (κ1180.1 19).toInt s := (CO.fin' (by omega) cv1189 s0 ⟨fun h => Par.fc nd1183 (by decide) h, fun h => Par.fa nd1183 (by decide) h, True.intro⟩ lt1193)
      have eK : PK κ1180 h K 0 15 (ν1.1 19).toInt (κ1180.1 19).toInt (0 + 1 + v1162 + 0 + 0 + 0) s := PK.mk (c0 := A1006) (v0 := 0) (v1 := 1) (v2 := v1162) (v3 := 0) (v4 := 0) nd1183 s0 (by omega) (by omega) (by omega) (by decide) (by have e : ow (61 : Int32) = 0 := (by decide); omega) ((FK.up (by omega) b1190)) ((FK.up (by omega) b1191)) ((FK.up (by omega) b1192)) (FK.fr (Int.le_refl _)) (FK.fr (Int.le_refl _))
      have hB9 := hB.rb p1185.rb (Int.le_refl _) (Or.inl (by omega))
      have pμ : TR (-1) 0 0 0 0 0 μ κ1180 := pν.trS p1185 (Or.inl (by decide)) rfl rfl rfl rfl (by omega)
      have p9 : TR (-1) 0 0 0 0 0 ν1 κ1180 := ⟨p1185.1, by have := p1185.2; omega⟩
      have l9 : (ν1.1 32).toInt < (κ1180.1 32).toInt := by omega
      refine ⟨fun hx1 => ?_, fun hx1 => ?_⟩
      · rcases hL.sg with ⟨w1, -⟩ | ⟨w1, w2⟩
        · rw [w1] at hx1; exact absurd hx1 (by decide)
        obtain ⟨i1, i2, i3⟩ := hL.in w2
        have hc2 := @ic x3
        have g9 : TR x3.toInt 0 0 0 0 0 κ1180 (mA1 κ1180 27 x3.toNatClampNeg s) := TR.put pμ.ps w2 rfl rfl
        exact ⟨TR.mi p1167.ps rfl rfl w2 (by omega), ih f s _ (by show ((μ.1 8).toInt - (κ1180.1 32).toInt).toNat < j; omega) (pμ.tr g9 (Or.inr (by omega)) rfl rfl rfl rfl (by omega)) (hL.add w2 p9 (by omega) eP nd1183.2.2.2.2.2.2) (hB9.add w2 i2 i3 i1 eC s0 p9.l19 (by rw [p9.rb 27 (by omega) (by omega) _ (by omega) (by omega)]; exact hL.nn w2)) (hW.add w2 p9 h0 (by omega) eK nd1183.2.2.2.2.2.2)⟩
      · have hf : f = -1 := by
          rcases hL.sg with ⟨w1, -⟩ | ⟨w1, -⟩
          · exact w1
          · omega
        refine ih s s _ (by omega) pμ (OL.one (eP.up (Nat.le_refl _) (by omega) (Int.le_refl _)) (by omega) nd1183.2.2.2.2.2.2) ?_ (OWs.one eK (by omega) (by omega) nd1183.2.2.2.2.2.2)
        rcases hB9 with ⟨-, w⟩ | ⟨w, -⟩
        · exact OC.one (eC.ahead w (by omega)) s0
        · rw [hf] at w; exact absurd w (by decide)
  exact me_meth (by omega) rfl (v_cases_0 _ (key _ (-1) (-1) μ (Nat.lt_succ_self _) (TR.rf hS) OL.nil (Or.inl ⟨rfl, NS.nil (Int.le_refl _)⟩) (OWs.nil (Int.le_refl _) (Int.le_refl _))))
theorem st_statements (hC : SC X W P 322 3 22 14 d) : SL X W P 321 [] 3 19 11 (d + 1) := fun μ T h hS hd hh hn hT => by
  have hp := px0 hS
  have h0 := hS.2.2.2.2.1
  have at0 := hS.at
  have b40 := hS.2.2.2.2.2.2.2.2
  obtain ⟨K, hK⟩ : ∃ K : Nat, (K : Int) + (μ.1 40).toInt = 20 := ⟨(20 - (μ.1 40).toInt).toNat, by have := hS.2.2.2.2.2.2.2.2; omega⟩
  have key : ∀ (j : Nat) (f x2 : Int32) (ν : MS), ((μ.1 8).toInt - (ν.1 32).toInt).toNat < j → TR (-1) 0 0 0 0 0 μ ν → OL 3 h (μ.1 19).toInt ν f x2 → OC ν (μ.1 19).toInt (ν.1 19).toInt f x2 → OWs (μ.1 32).toInt (μ.1 19).toInt ν h (K - 1) 1 3 f x2 ∧ (f = -1 ∨ 1 ≤ K) → ME X W true d 321 4 [(0, .ref P.1), (1, .int f), (2, .int x2)] [] P ν (fun r μ1 => TR (-1) 0 0 0 0 0 μ μ1 ∧ (∃ m, Lst (G μ1 h (bt (μ.1 19).toInt (μ1.1 19).toInt) 3) (μ1.2.1 27) m r) ∧ LCO μ1 (μ.1 19).toInt (μ1.1 19).toInt r ∧ BdS 3 h μ r μ1) T := by
    intro j
    induction j with
    | zero => intro f x2 ν hj; omega
    | succ j ih =>
      intro f x2 ν hj pν hL hB hW
      have e8 := eq_i (pν.1.1.1 8 rfl)
      have t8 := pν.ps.2.2.1.2
      have at1 := pν.ps.at
      have uν := pν.2
      have lν := pν.l19
      have b4 := pν.1.2.2.2.2.2.2.2.2.1
      refine v_statements_4 _ _ (MC.mono (c_beginsStatement (by omega) pν.ps) (fun r ν1 hk => ?_) (fun _ h => h))
      obtain ⟨rfl, hb⟩ := hk
      refine ⟨fun _ => ⟨pν, hL.lst, hB.l, hW.1.b3 hW.2 hK⟩, fun h1 => ⟨fun h20 => ?_, fun _ => MC.mono (c_line (by omega) pν.ps.1 at1.1 at1.2) (fun r2 ν2 h2 => ?_) (fun _ h => h)⟩⟩
      · have h20 := ne_i h20
        rw [show (20 : Int32).toInt = 20 from rfl] at h20
        have e4 : (ν1.1 40 + 1).toInt = (ν1.1 40).toInt + 1 := ia1 (by omega)
        have g1 : TR (-1) 0 0 0 1 0 ν1 (mS1 ν1 40 (ν1.1 40 + 1)) := TR.s40 pν.ps e4 (by omega) (by omega)
        refine MC.mono (c_line (by omega) g1.ps.1 at1.1 at1.2) (fun r2 ν2 h2 => ?_) (fun _ h => h)
        subst h2
        have g2 : TR (-1) 0 0 0 1 0 ν1 (mS1 (mS1 ν1 40 (ν1.1 40 + 1)) 34 r2) := g1.tr (TR.s34 g1.ps) (Or.inl (by decide)) rfl rfl rfl rfl (by omega)
        have p2 : TR (-1) 0 0 0 1 0 μ (mS1 (mS1 ν1 40 (ν1.1 40 + 1)) 34 r2) := pν.tr g2 (Or.inl (by decide)) rfl rfl rfl rfl (by omega)
        have x2' := p2.px
        have e19 : ((mS1 (mS1 ν1 40 (ν1.1 40 + 1)) 34 r2).1 19).toInt = (ν1.1 19).toInt := rfl
        have e32 : ((mS1 (mS1 ν1 40 (ν1.1 40 + 1)) 34 r2).1 32).toInt = (ν1.1 32).toInt := rfl
        refine MC.mono (hC _ T h p2.ps (by omega) (by omega) (by omega) (fun _ h => hT _ (p2.1.1.tr h)) (hb h1)) (fun r3 ν3 h3 => ?_) (fun _ h => h)
        obtain ⟨⟨v1, v2, v3, v4, vc⟩, vb⟩ := h3
        have k1 : 1 ≤ K := by omega
        obtain ⟨wS, wS1, wS2⟩ := vb (K - 1) (by show ((K - 1 : Nat) : Int) + (ν1.1 40 + 1).toInt = 20; omega)
        have p3 : TR (-1) 0 0 0 1 0 μ ν3 := p2.tr v1 (Or.inl (by decide)) rfl rfl rfl rfl (by omega)
        have g3 : TR (-1) 0 0 0 1 0 ν1 ν3 := g2.tr v1 (Or.inl (by decide)) rfl rfl rfl rfl (by omega)
        have b3 := p3.1.2.2.2.2.2.2.2.2.1
        have l3 := v1.l19
        have e5 : (ν3.1 40 - 1).toInt = (ν3.1 40).toInt - 1 := by
          rw [ib (by rw [show (1 : Int32).toInt = 1 from rfl]; omega) (by rw [show (1 : Int32).toInt = 1 from rfl]; omega)]; rfl
        have g4 : TR (-1) 0 0 0 0 0 ν3 (mS1 ν3 34 (ν1.1 34)) := TR.s34 p3.ps
        have g5 : TR (-1) 0 0 0 (-1) 0 (mS1 ν3 34 (ν1.1 34)) (mS1 (mS1 ν3 34 (ν1.1 34)) 40 (ν3.1 40 - 1)) := TR.s40 g4.ps (by show _ = (ν3.1 40).toInt + _; omega) (by omega) (by omega)
        have p5 : TR (-1) 0 0 0 0 0 μ (mS1 (mS1 ν3 34 (ν1.1 34)) 40 (ν3.1 40 - 1)) := (p3.tr g4 (Or.inl (by decide)) rfl rfl rfl rfl (Int.le_refl _)).tr g5 (Or.inl (by decide)) rfl rfl rfl rfl (by omega)
        have k5 : TR (-1) 0 0 0 0 0 ν1 (mS1 (mS1 ν3 34 (ν1.1 34)) 40 (ν3.1 40 - 1)) := (g3.tr g4 (Or.inl (by decide)) rfl rfl rfl rfl (Int.le_refl _)).tr g5 (Or.inl (by decide)) rfl rfl rfl rfl (by omega)
        have eG : G (mS1 (mS1 ν3 34 (ν1.1 34)) 40 (ν3.1 40 - 1)) h (bt (ν1.1 19).toInt (ν3.1 19).toInt) 3 r3 := G.S (G.S v3)
        have eC : CO (mS1 (mS1 ν3 34 (ν1.1 34)) 40 (ν3.1 40 - 1)) (ν1.1 19).toInt (ν3.1 19).toInt r3 := (show CO ν3 (ν1.1 19).toInt (ν3.1 19).toInt r3 from vc).rb (g4.tr g5 (Or.inl (by decide)) rfl rfl rfl rfl (Int.le_refl _)).rb (Int.le_refl _) (Or.inl (by omega))
        have n5 : (mS1 (mS1 ν3 34 (ν1.1 34)) 40 (ν3.1 40 - 1)).2.1 27 r3.toNatClampNeg = -1 := v4
        have eW : PK (mS1 (mS1 ν3 34 (ν1.1 34)) 40 (ν3.1 40 - 1)) h (K - 1) 1 3 (ν1.1 19).toInt (ν3.1 19).toInt wS r3 := PK.ag (ν := ν3) (Nat.le_refl _) (Nat.le_refl _) (fun _ _ _ _ _ _ => Or.inr rfl) (show PK ν3 h (K - 1) 1 3 (ν1.1 19).toInt (ν3.1 19).toInt wS r3 from wS2)
        have e19' : ((mS1 (mS1 ν3 34 (ν1.1 34)) 40 (ν3.1 40 - 1)).1 19).toInt = (ν3.1 19).toInt := rfl
        have e32' : ((mS1 (mS1 ν3 34 (ν1.1 34)) 40 (ν3.1 40 - 1)).1 32).toInt = (ν3.1 32).toInt := rfl
        generalize mS1 (mS1 ν3 34 (ν1.1 34)) 40 (ν3.1 40 - 1) = ν5 at *
        refine MC.mono (t_expect (by omega) p5.ps (by decide) (fun _ h => hT _ (p5.1.1.tr h))) (fun _ ν6 h6 => ?_) (fun _ h => h)
        obtain ⟨m1, m2, m3⟩ := h6
        have p6 : TR (-1) 0 0 0 0 0 μ ν6 := p5.tr m1 (Or.inl (by decide)) rfl rfl rfl rfl (by omega)
        have k6 : TR (-1) 0 0 0 0 0 ν1 ν6 := k5.tr m1 (Or.inl (by decide)) rfl rfl rfl rfl (by omega)
        have eG6 : G ν6 h (bt (ν1.1 19).toInt (ν6.1 19).toInt) 3 r3 := (eG.tr m1 (by omega) (Or.inl (by omega))).up (Nat.le_refl _) (Int.le_refl _) (by omega)
        obtain ⟨i1, i2, i3⟩ := eG6.in
        have hc3 := @ic r3
        have n6 : ν6.2.1 27 r3.toNatClampNeg = -1 := by rw [m1.rb 27 (by omega) (by omega) _ (by omega) (by omega)]; exact n5
        have eW6 : PK ν6 h (K - 1) 1 3 (ν1.1 19).toInt (ν6.1 19).toInt wS r3 := PK.wd (by omega) (Int.le_refl _) (Nat.le_refl _) (eW.tr m1 (by omega) (by omega))
        have u6 := p6.2
        have at6 := p6.ps.at
        have eC6 : CO ν6 (ν1.1 19).toInt (ν6.1 19).toInt r3 := CO.ub (eC.rb m1.rb (by omega) (Or.inl (by omega))) (by omega)
        have hB6 := hB.rb k6.rb (Int.le_refl _) (Or.inl (by omega))
        refine ⟨fun hx1 => ?_, fun hx1 => ?_⟩
        · rcases hL.sg with ⟨w1, -⟩ | ⟨w1, w2⟩
          · rw [w1] at hx1; exact absurd hx1 (by decide)
          obtain ⟨j1, j2, j3⟩ := hL.in w2
          have hc2 := @ic x2
          have g9 : TR x2.toInt 0 0 0 0 0 ν6 (mA1 ν6 27 x2.toNatClampNeg r3) := TR.put p6.ps w2 rfl rfl
          exact ⟨TR.mi p6.ps rfl rfl w2 (by omega), ih f r3 _ (by show ((μ.1 8).toInt - (ν6.1 32).toInt).toNat < j; omega) (p6.tr g9 (Or.inr (by omega)) rfl rfl rfl rfl (by omega)) (hL.add w2 k6 (by omega) eG6 n6) (hB6.add w2 j2 j3 j1 eC6 i1 k6.l19 (by rw [k6.rb 27 (by omega) (by omega) _ (by omega) (by omega)]; exact hL.nn w2)) ⟨hW.1.add w2 k6 h0 (by omega) eW6 n6, Or.inr k1⟩⟩
        · have hf : f = -1 := by
            rcases hL.sg with ⟨w1, -⟩ | ⟨w1, -⟩
            · exact w1
            · omega
          refine ih r3 r3 _ (by omega) p6 (OL.one (eG6.up (Nat.le_refl _) (by omega) (Int.le_refl _)) (by omega) n6) ?_ ⟨OWs.one eW6 (by omega) (by omega) n6, Or.inr k1⟩
          rcases hB6 with ⟨-, w⟩ | ⟨w, -⟩
          · exact OC.one (eC6.ahead w (by omega)) i1
          · rw [hf] at w; exact absurd w (by decide)
      · subst h2
        exact MC.mono (c_first (by omega) (fun _ h => hT _ (pν.1.1.tr h))) (fun _ _ h => h.elim) (fun _ h => h)
  exact me_meth (by omega) rfl (v_statements_0 (key _ (-1) (-1) μ (Nat.lt_succ_self _) (TR.rf hS) OL.nil (Or.inl ⟨rfl, NS.nil (Int.le_refl _)⟩) ⟨OWs.nil (Int.le_refl _) (Int.le_refl _), Or.inl rfl⟩))
end PSI
