/-! contracts of the reference: units, the whole text -/
/-- a list whose nodes lie between two counts -/
def LB (ν : MS) (h s : Nat) (lo hi : Int) (x : Int32) : Prop := ∃ m, Lst (G ν h (bt lo hi) s) (ν.2.1 27) m x
theorem LB.tr {r b n t s' δ lo hi : Int} {ν ν1 : MS} {h s : Nat} {x : Int32} (hL : LB ν h s lo hi x) (q : TR r b n t s' δ ν ν1) (hn : hi ≤ (ν.1 19).toInt) (hr : r < lo ∨ hi ≤ r) : LB ν1 h s lo hi x := by
  obtain ⟨m, hm⟩ := hL
  refine ⟨m, hm.mono (fun y hy => hy.tr q hn hr) (fun y hy => ?_)⟩
  obtain ⟨-, k2, k3⟩ := hy.in
  exact q.rb 27 (by omega) (by omega) _ (by omega) (by omega)
theorem LB.nil {ν : MS} {h s : Nat} {lo hi : Int} : LB ν h s lo hi (-1) := ⟨0, rfl⟩
/-- the slots and rows of the parser and of its units -/
abbrev SPU : List Nat := [17, 18, 19, 32, 33, 34, 37, 38, 39, 40, 41]
abbrev RPU : List Nat := [20, 21, 22, 23, 24, 25, 26, 27, 28, 29, 30, 31, 42]
/-- a unit more -/
def UnP (h : Nat) (μ μ1 : MS) : Prop := kf SPA RPU μ μ1 ∧ PS μ1 ∧ ((μ.1 19).toInt ≤ (μ1.1 19).toInt ∧ (μ.1 32).toInt < (μ1.1 32).toInt ∧ (μ1.1 19).toInt + 2 * (μ.1 32).toInt ≤ (μ.1 19).toInt + 2 * (μ1.1 32).toInt) ∧ RB (-1) (μ.1 19).toInt μ μ1 ∧ ((μ1.1 37).toInt = (μ.1 37).toInt ∧ (μ1.1 38).toInt = (μ.1 38).toInt ∧ (μ1.1 39).toInt = (μ.1 39).toInt ∧ (μ1.1 40).toInt = (μ.1 40).toInt) ∧ NC μ μ1 ∧
  ∃ u, G μ1 h (bt (μ.1 19).toInt (μ1.1 19).toInt) 20 u ∧ μ1.2.1 42 = upd (μ.2.1 42) (μ.1 41).toNatClampNeg u ∧ CO μ1 (μ.1 19).toInt (μ1.1 19).toInt u ∧ BdK 3 20 h (μ.1 19).toInt μ u μ1
def UnC (X : ev_X) (W : Nat → Prop) (P : MP) (d : Nat) : Prop := ∀ (μ : MS) (T : MS → Prop) (h : Nat), PS μ → psS μ + 22 ≤ d → hiS μ + 14 ≤ h → (μ.1 19).toInt ≤ 2 * (μ.1 32).toInt + 30 → (∀ μ1, kf SPA RPU μ μ1 → T μ1) → ¬ srt μ = 203 → 0 ≤ (μ.1 41).toInt → (μ.1 41).toInt < 14 →
  MC X W true d 302 [.ref P.1] P μ (fun _ μ1 => UnP h μ μ1) T
section PSM
variable {X : ev_X} {W : Nat → Prop} {d : Nat} {P : MP}
theorem un_98 (hD : DeC X W P d) (hSt : SL X W P 321 [] 3 19 11 d) {κ : MS} {T : MS → Prop} {h : Nat} {s md : Int32} {R : MS → Prop} (pκ : PS κ) (hd : psS κ + 22 ≤ (d : Int) + 1) (hh : hiS κ + 14 ≤ (h : Int) + 1) (hn : (κ.1 19).toInt ≤ 2 * (κ.1 32).toInt + 29) (hTκ : ∀ μ1, kf SPA RPA κ μ1 → T μ1) (s0 : 0 ≤ s.toInt) (s9 : s.toInt < 15990) (s1 : s.toInt + 1 = (κ.1 19).toInt)
    (out : ∀ ζ : MS, TR s.toInt 0 0 0 0 0 κ ζ → G ζ (h + 1) (bt s.toInt (ζ.1 19).toInt) 20 s → CO ζ s.toInt (ζ.1 19).toInt s → BdK 3 20 h s.toInt κ s ζ → R ζ) : ∀ (K vI : Nat), (K : Int) + (κ.1 40).toInt = 20 → ∀ (nm im e : Int32) (ζ : MS), TR s.toInt 0 0 0 0 0 κ ζ → s.toInt < (ζ.1 19).toInt → ND ζ s.toNatClampNeg 1 nm im (-1) (-1) e (-1) → LB ζ h 5 (s.toInt + 1) (ζ.1 19).toInt im → NS ζ (s.toInt + 1) (ζ.1 19).toInt → FK ζ h K 3 (3, 5) (s.toInt + 1) (ζ.1 19).toInt vI im → 2 * (vI : Int) + 2 + (κ.1 32).toInt ≤ (ζ.1 32).toInt → ME X W true d 302 98 [(0, .ref P.1), (1, .int md), (2, .int s)] [] P ζ (fun _ μ1 => R μ1) T := by
  have hp := px0 pκ
  have h0 := pκ.2.2.2.2.1
  have at0 := pκ.at
  have hcs := @ic s
  intro K vI hK
  have s207 : ∀ (nm im f st e x4 : Int32) (ζ : MS), TR s.toInt 0 0 0 0 0 κ ζ → s.toInt < (ζ.1 19).toInt → ND ζ s.toNatClampNeg 1 nm im f st e (-1) → KL ζ h s.toInt s 5 im → KL ζ h s.toInt s 4 f → KL ζ h s.toInt s 3 st → CVs ζ (s.toInt + 1) (ζ.1 19).toInt [st, f] → ∀ (n0 n1 n2 : Int) (vD vS : Nat), FK ζ h K 3 (3, 5) (s.toInt + 1) n0 vI im → FK ζ h K 3 (3, 4) n0 n1 vD f → FK ζ h K 3 (3, 3) n1 n2 vS st → n2 = (ζ.1 19).toInt → 2 * (vI : Int) + 2 + 2 * (vD : Int) + 2 * (vS : Int) + (κ.1 32).toInt ≤ (ζ.1 32).toInt → ME X W true d 302 207 [(0, .ref P.1), (1, .int md), (2, .int s), (3, .int f), (4, .int x4)] [] P ζ (fun _ μ1 => R μ1) T := fun nm im f st e x4 ζ p1 lt1 nd1 k1 k2 k3 cv1 n0 n1 n2 vD vS b1 b2 b3 hn2 hv => by
    refine v_parseUnit_207 _ _ _ _ ?_
    have nb1 := b1.1
    have nb2 := b2.1
    have nb3 := b3.1
    refine MC.mono (t_expect (by omega) p1.ps (by decide) (fun _ h => hTκ _ (p1.1.1.tr h))) (fun v799 κ804 h800 => ?_) (fun _ h => h)
    obtain ⟨q801, m802, a803⟩ := h800
    have p805 : TR (s.toInt) (0) 0 0 0 (-2) κ κ804 := p1.trS q801 (Or.inl (by decide)) rfl rfl rfl rfl (by omega)
    have k806 := k1.tr q801 (Or.inl (by decide)) s0
    have k807 := k2.tr q801 (Or.inl (by decide)) s0
    have k808 := k3.tr q801 (Or.inl (by decide)) s0
    have cv809 : CVs κ804 (s.toInt + 1) ((κ804).1 19).toInt [st, f] := cv1.st q801.rb (Int.le_refl _) (Or.inl (by omega)) m802
    have b810 := FK.tr b1 q801 (by omega) (by omega)
    have b811 := FK.tr b2 q801 (by omega) (by omega)
    have b812 := FK.tr b3 q801 (by omega) (by omega)
    have nd813 := nd1.tr q801 (by have := @ic s; omega) (by omega)
    have lt814 : s.toInt < (κ804.1 19).toInt := by omega
    refine ⟨TR.mi p805.ps rfl rfl s0 (by omega), ?_⟩
    refine MC.mono (t_endName (by omega) p805.ps (fun _ h => hTκ _ (p805.1.1.tr h))) (fun v815 κ820 h816 => ?_) (fun _ h => h)
    obtain ⟨q817, m818, a819⟩ := h816
    have p821 : TR (s.toInt) (0) 0 0 0 (-4) κ κ820 := p805.trS q817 (Or.inl (by decide)) rfl rfl rfl rfl (by omega)
    have k822 := k806.tr q817 (Or.inl (by decide)) s0
    have k823 := k807.tr q817 (Or.inl (by decide)) s0
    have k824 := k808.tr q817 (Or.inl (by decide)) s0
    have cv825 : CVs κ820 (s.toInt + 1) ((κ820).1 19).toInt [st, f] := cv809.st q817.rb (Int.le_refl _) (Or.inl (by omega)) m818
    have b826 := FK.tr b810 q817 (by omega) (by omega)
    have b827 := FK.tr b811 q817 (by omega) (by omega)
    have b828 := FK.tr b812 q817 (by omega) (by omega)
    have nd829 := nd813.tr q817 (by have := @ic s; omega) (by omega)
    have lt830 : s.toInt < (κ820.1 19).toInt := by omega
    refine MC.mono (t_expect (by omega) p821.ps (by decide) (fun _ h => hTκ _ (p821.1.1.tr h))) (fun v831 κ836 h832 => ?_) (fun _ h => h)
    obtain ⟨q833, m834, a835⟩ := h832
    have p837 : TR (s.toInt) (0) 0 0 0 (-6) κ κ836 := p821.trS q833 (Or.inl (by decide)) rfl rfl rfl rfl (by omega)
    have k838 := k822.tr q833 (Or.inl (by decide)) s0
    have k839 := k823.tr q833 (Or.inl (by decide)) s0
    have k840 := k824.tr q833 (Or.inl (by decide)) s0
    have cv841 : CVs κ836 (s.toInt + 1) ((κ836).1 19).toInt [st, f] := cv825.st q833.rb (Int.le_refl _) (Or.inl (by omega)) m834
    have b842 := FK.tr b826 q833 (by omega) (by omega)
    have b843 := FK.tr b827 q833 (by omega) (by omega)
    have b844 := FK.tr b828 q833 (by omega) (by omega)
    have nd845 := nd829.tr q833 (by have := @ic s; omega) (by omega)
    have lt846 : s.toInt < (κ836.1 19).toInt := by omega
    exact out _ ⟨p837.1, by have := p837.2; omega⟩ (G.mk s0 (Int.le_refl _) lt846 nd845 (by decide) True.intro (k838) (k839) (k840) True.intro) (CO.fin' rfl cv841 s0 ⟨fun h => Par.fd nd845 (by decide) h, fun h => Par.fc nd845 (by decide) h, True.intro⟩ lt846) (fun K9 hK9 => by obtain rfl : K9 = K := (by omega); exact ⟨0 + vI + vD + vS + 0 + 1, by omega, PK.mk (c0 := s.toInt + 1) (v0 := 0) (v1 := vI) (v2 := vD) (v3 := vS) (v4 := 0) nd845 s0 (by omega) (by omega) (by omega) (by decide) (by have e : ow (1 : Int32) = 1 := (by decide); omega) (FK.fr (Int.le_refl _)) ((FK.up (by omega) b842)) ((FK.up (by omega) b843)) ((FK.up (by omega) b844)) (FK.fr (Int.le_refl _))⟩)
  have key : ∀ (j : Nat) (n0 t0 : Int) (nm im e f x4 : Int32) (ζ : MS), s.toInt < n0 → n0 ≤ (ζ.1 19).toInt → ((κ.1 8).toInt - (ζ.1 32).toInt).toNat < j → TR s.toInt 0 0 0 0 0 κ ζ → s.toInt < (ζ.1 19).toInt → ND ζ s.toNatClampNeg 1 nm im (-1) (-1) e (-1) → LB ζ h 5 (s.toInt + 1) n0 im → OL 4 h n0 ζ f x4 → NS ζ (s.toInt + 1) n0 → OC ζ n0 (ζ.1 19).toInt f x4 → FK ζ h K 3 (3, 5) (s.toInt + 1) n0 vI im → 2 * (vI : Int) + 2 + (κ.1 32).toInt ≤ t0 → OWs t0 n0 ζ h K 2 4 f x4 → ME X W true d 302 103 [(0, .ref P.1), (1, .int md), (2, .int s), (3, .int f), (4, .int x4)] [] P ζ (fun _ μ1 => R μ1) T := by
    intro j
    induction j with
    | zero => intro n0 t0 nm im e f x4 ζ hn1 hn2 hj; omega
    | succ j ih =>
      intro n0 t0 nm im e f x4 ζ hn1 hn2 hj pζ ltζ ndζ gζ hO cI hB bI ht0 hW
      have e8 := eq_i (pζ.1.1.1 8 rfl)
      have t8 := pζ.ps.2.2.1.2
      have at1 := pζ.ps.at
      have uζ := pζ.2
      have xζ := pζ.px
      -- a declaration more
      have more : ¬ srt ζ = 203 → ME X W true d 302 148 [(0, .ref P.1), (1, .int md), (2, .int s), (3, .int f), (4, .int x4)] [] P ζ (fun _ μ1 => R μ1) T := fun h3 => by
        refine v_parseUnit_148 _ _ _ _ (MC.mono (hD ζ T h md pζ.ps (by omega) (by omega) (by omega) (fun _ h => hTκ _ (pζ.1.1.tr h)) h3) (fun r ζ1 h1 => ?_) (fun _ h => h))
        obtain ⟨⟨v1, v2, v3, v4, vc⟩, vb⟩ := h1
        obtain ⟨wD, wD1, wD2⟩ := vb K (by have y40 := pζ.1.2.2.2.2.2.2.2.2.1; omega)
        have bI1 := FK.tr bI v1 hn2 (by omega)
        have p1 : TR s.toInt 0 0 0 0 0 κ ζ1 := pζ.trS v1 (Or.inl (by decide)) rfl rfl rfl rfl (by omega)
        have l1 := v1.l19
        have at2 := p1.ps.at
        have u2 := p1.2
        have nd1 := ndζ.tr v1 (by omega) (by omega)
        have gg1 := gζ.tr v1 hn2 (Or.inl (by omega))
        have cI1 := cI.rb v1.rb hn2 (Or.inl (by omega))
        have hB1 := hB.rb v1.rb (Int.le_refl _) (Or.inl (by omega))
        refine ⟨fun hx1 => ?_, fun hx1 => ?_⟩
        · rcases hO.sg with ⟨w1, -⟩ | ⟨w1, w2⟩
          · rw [w1] at hx1; exact absurd hx1 (by decide)
          obtain ⟨j1, j2, j3⟩ := hO.in w2
          have hc2 := @ic x4
          have g9 : TR x4.toInt 0 0 0 0 0 ζ1 (mA1 ζ1 27 x4.toNatClampNeg r) := TR.put p1.ps w2 rfl rfl
          exact ⟨TR.mi p1.ps rfl rfl w2 (by omega), v_parseUnit_174 _ _ _ _ _ (ih n0 t0 nm im e f r _ hn1 (by show _ ≤ (ζ1.1 19).toInt; omega) (by show ((κ.1 8).toInt - (ζ1.1 32).toInt).toNat < j; omega) (p1.trS g9 (Or.inr (Or.inr (by omega))) rfl rfl rfl rfl (by omega)) (by show _ < (ζ1.1 19).toInt; omega) (nd1.off (by omega)) (gg1.tr g9 (by omega) (Or.inr (by omega))) (hO.add w2 v1 (by omega) v3 v4) (cI1.rb g9.rb (by omega) (Or.inr (by omega))) (hB1.add w2 j2 j3 j1 vc v3.in.1 v1.l19 (by rw [v1.rb 27 (by omega) (by omega) _ (by omega) (by omega)]; exact hO.nn w2)) (FK.tr bI1 g9 (by omega) (by omega)) ht0 (hW.add w2 v1 (by omega) (by omega) wD2 v4))⟩
        · have hf : f = -1 := by
            rcases hO.sg with ⟨w1, -⟩ | ⟨w1, -⟩
            · exact w1
            · omega
          refine v_parseUnit_174 _ _ _ _ _ (ih n0 t0 nm im e r r _ hn1 (by omega) (by omega) p1 (by omega) nd1 gg1 (OL.one (v3.up (Nat.le_refl _) (by omega) (Int.le_refl _)) (by omega) v4) cI1 ?_ bI1 ht0 (OWs.one wD2 (by omega) (by obtain ⟨uW, uW1, -⟩ := hW; omega) v4))
          rcases hB1 with ⟨-, w⟩ | ⟨w, -⟩
          · exact OC.one (vc.ahead w (by omega)) v3.in.1
          · rw [hf] at w; exact absurd w (by decide)
      refine v_parseUnit_103 _ _ _ _ (MC.mono (c_is (by omega) pζ.ps) (fun r1 ζ1 h1 => ?_) (fun _ h => h))
      obtain ⟨rfl, rfl⟩ := h1
      refine ⟨fun h1 => more (by rw [is_t h1]; decide), fun _ => MC.mono (c_is (by omega) pζ.ps) (fun r1 ζ1 h1 => ?_) (fun _ h => h)⟩
      obtain ⟨rfl, rfl⟩ := h1
      refine ⟨fun h1 => more (by rw [is_t h1]; decide), fun _ => MC.mono (c_is (by omega) pζ.ps) (fun r1 ζ1 h1 => ?_) (fun _ h => h)⟩
      obtain ⟨rfl, rfl⟩ := h1
      refine ⟨fun h1 => more (by rw [is_t h1]; decide), fun _ => MC.mono (c_is (by omega) pζ.ps) (fun r1 ζ1 h1 => ?_) (fun _ h => h)⟩
      obtain ⟨rfl, rfl⟩ := h1
      refine ⟨fun h1 => more (by rw [is_t h1]; decide), fun _ => MC.mono (c_is (by omega) pζ.ps) (fun r1 ζ9 h1 => ?_) (fun _ h => h)⟩
      obtain ⟨rfl, rfl⟩ := h1
      refine ⟨fun _ => ?_, fun h1 => more (by rw [is_t h1]; decide)⟩
      have kI : KL ζ9 h s.toInt s 5 im := KL.of gζ (by omega) hn2 s0 (Or.inl (by omega))
      have kO : KL ζ9 h s.toInt s 4 f := KL.of hO.lst (by omega) (Int.le_refl _) s0 (Or.inl (by omega))
      have cv9 : CVs ζ9 (s.toInt + 1) (ζ9.1 19).toInt [f] := ((CVs.nil (Int.le_refl _) : CVs ζ9 (s.toInt + 1) (s.toInt + 1) []).ns (e := -1) (n := s.toInt + 1) RB.rf (Int.le_refl _) (Or.inl (by omega)) (by omega) cI).add (e := -1) (n := n0) RB.rf (Int.le_refl _) (Or.inl (by omega)) (by omega) hn2 hB.l
      obtain ⟨uL, huL, oL⟩ := hW
      obtain ⟨A847, hA848⟩ : ∃ A : Int, A = (ζ9.1 19).toInt := ⟨_, rfl⟩
      have b849 : FK ζ9 (h) K 3 (3, 4) n0 A847 uL f := FK.at rfl (by omega) (FK.ls oL.le (by decide) oL.done)
      have g850 : TR s.toInt 0 0 0 0 0 ζ9 (mA1 ζ9 24 s.toNatClampNeg f) := TR.put pζ.ps s0 rfl rfl
      have e852 : ((mA1 ζ9 24 s.toNatClampNeg f).1 19).toInt = (ζ9.1 19).toInt := rfl
      have e853 : ((mA1 ζ9 24 s.toNatClampNeg f).1 32).toInt = (ζ9.1 32).toInt := rfl
      have sr855 : srt (mA1 ζ9 24 s.toNatClampNeg f) = srt ζ9 := srt_off rfl
      have nd854 := ndζ.pc (x := f)
      have p856 : TR (s.toInt) (0) 0 0 0 (0) κ (mA1 ζ9 24 s.toNatClampNeg f) := pζ.trS g850 (Or.inr (Or.inl rfl)) rfl rfl rfl rfl (by omega)
      have k857 := kI.tr g850 (Or.inr rfl) s0
      have k858 := kO.tr g850 (Or.inr rfl) s0
      have cv859 : CVs (mA1 ζ9 24 s.toNatClampNeg f) (s.toInt + 1) (((mA1 ζ9 24 s.toNatClampNeg f)).1 19).toInt [f] := cv9.st g850.rb (Int.le_refl _) (Or.inl (by omega)) rfl
      have b860 := FK.tr bI g850 (by omega) (by omega)
      have b861 := FK.tr b849 g850 (by omega) (by omega)
      refine ⟨TR.mi pζ.ps rfl rfl s0 (by omega), ?_⟩
      generalize mA1 ζ9 24 s.toNatClampNeg f = κ851 at *
      have lt862 : s.toInt < (κ851.1 19).toInt := by omega
      refine ⟨fun _ => ?_, fun _ => ?_⟩
      · skip
        exact s207 _ _ _ _ _ _ _ p856 lt862 nd854 k857 k858 KL.nil (cv859.more _) _ _ _ _ 0 b860 b861 (FK.st (Int.le_refl _) (BT.nil (Int.le_refl _))) (by omega) (by omega)
      · skip
        refine MC.mono (t_expect (by omega) p856.ps (by decide) (fun _ h => hTκ _ (p856.1.1.tr h))) (fun v863 κ868 h864 => ?_) (fun _ h => h)
        obtain ⟨q865, m866, a867⟩ := h864
        have p869 : TR (s.toInt) (0) 0 0 0 (-2) κ κ868 := p856.trS q865 (Or.inl (by decide)) rfl rfl rfl rfl (by omega)
        have k870 := k857.tr q865 (Or.inl (by decide)) s0
        have k871 := k858.tr q865 (Or.inl (by decide)) s0
        have cv872 : CVs κ868 (s.toInt + 1) ((κ868).1 19).toInt [f] := cv859.st q865.rb (Int.le_refl _) (Or.inl (by omega)) m866
        have b873 := FK.tr b860 q865 (by omega) (by omega)
        have b874 := FK.tr b861 q865 (by omega) (by omega)
        have nd875 := nd854.tr q865 (by have := @ic s; omega) (by omega)
        have lt876 : s.toInt < (κ868.1 19).toInt := by omega
        have x880 := p869.px
        have u881 := p869.2
        have y882 := tT p869
        have z883 := px0 p869.ps
        refine MC.mono (hSt κ868 T h p869.ps (by omega) (by omega) (by omega) (fun _ h => hTκ _ (p869.1.1.tr h))) (fun r877 κ878 h879 => ?_) (fun _ h => h)
        obtain ⟨q884, g885, c886, hb887⟩ := h879
        obtain ⟨v888, hv889, b890⟩ := hb887 K (by have y40 := p869.1.2.2.2.2.2.2.2.2.1; omega)
        have l891 := q884.l19
        have l892 := q884.l32
        have p893 : TR (s.toInt) (0) 0 0 0 (-2) κ κ878 := p869.trS q884 (Or.inl (by decide)) rfl rfl rfl rfl (by omega)
        have k894 := k870.tr q884 (Or.inl (by decide)) s0
        have k895 := k871.tr q884 (Or.inl (by decide)) s0
        have cv896 : CVs κ878 (s.toInt + 1) ((κ878).1 19).toInt [r877, f] := cv872.add q884.rb (Int.le_refl _) (Or.inl (by omega)) (by omega) l891 (c886)
        have b897 := FK.tr b873 q884 (by omega) (by omega)
        have b898 := FK.tr b874 q884 (by omega) (by omega)
        have nd899 := nd875.tr q884 (by have := @ic s; omega) (by omega)
        have lt900 : s.toInt < (κ878.1 19).toInt := by omega
        have k901 : KL κ878 h s.toInt s 3 r877 := KL.of g885 (by omega) (Int.le_refl _) s0 (Or.inl (by omega))
        obtain ⟨A902, hA903⟩ : ∃ A : Int, A = (κ878.1 19).toInt := ⟨_, rfl⟩
        have b904 : FK κ878 (h) K 3 (3, 3) A847 A902 v888 r877 := FK.at (by omega) (by omega) b890.b3
        have g905 : TR s.toInt 0 0 0 0 0 κ878 (mA1 κ878 25 s.toNatClampNeg r877) := TR.put p893.ps s0 rfl rfl
        have e907 : ((mA1 κ878 25 s.toNatClampNeg r877).1 19).toInt = (κ878.1 19).toInt := rfl
        have e908 : ((mA1 κ878 25 s.toNatClampNeg r877).1 32).toInt = (κ878.1 32).toInt := rfl
        have sr910 : srt (mA1 κ878 25 s.toNatClampNeg r877) = srt κ878 := srt_off rfl
        have nd909 := nd899.pd (x := r877)
        have p911 : TR (s.toInt) (0) 0 0 0 (-2) κ (mA1 κ878 25 s.toNatClampNeg r877) := p893.trS g905 (Or.inr (Or.inl rfl)) rfl rfl rfl rfl (by omega)
        have k912 := k894.tr g905 (Or.inr rfl) s0
        have k913 := k895.tr g905 (Or.inr rfl) s0
        have k914 := k901.tr g905 (Or.inr rfl) s0
        have cv915 : CVs (mA1 κ878 25 s.toNatClampNeg r877) (s.toInt + 1) (((mA1 κ878 25 s.toNatClampNeg r877)).1 19).toInt [r877, f] := cv896.st g905.rb (Int.le_refl _) (Or.inl (by omega)) rfl
        have b916 := FK.tr b897 g905 (by omega) (by omega)
        have b917 := FK.tr b898 g905 (by omega) (by omega)
        have b918 := FK.tr b904 g905 (by omega) (by omega)
        refine ⟨TR.mi p893.ps rfl rfl s0 (by omega), ?_⟩
        generalize mA1 κ878 25 s.toNatClampNeg r877 = κ906 at *
        have lt919 : s.toInt < (κ906.1 19).toInt := by omega
        exact s207 _ _ _ _ _ _ _ ⟨p911.1, by have := p911.2; omega⟩ lt919 nd909 k912 k913 k914 cv915 _ _ _ _ _ b916 b917 b918 (by omega) (by omega)
  exact fun nm im e ζ p1 lt1 nd1 l1 n1 bI hvI => v_parseUnit_98 _ _ (key _ _ _ nm im e (-1) (-1) ζ lt1 (Int.le_refl _) (Nat.lt_succ_self _) p1 lt1 nd1 l1 OL.nil n1 (Or.inl ⟨rfl, NS.nil (Int.le_refl _)⟩) bI hvI (OWs.nil (Int.le_refl _) (Int.le_refl _)))
theorem st_unit (hD : DeC X W P d) (hSt : SL X W P 321 [] 3 19 11 d) : UnC X W P (d + 1) := fun μ T h9 hS hd hh hn hT hs3 hu0 hu1 => by
  have hp := px0 hS
  have h0 := hS.2.2.2.2.1
  have at0 := hS.at
  obtain ⟨h, rfl⟩ : ∃ h, h9 = h + 1 := ⟨h9 - 1, by omega⟩
  refine me_meth (by omega) rfl (v_parseUnit_0 (MC.mono (c_is (by omega) hS) (fun md ν hr => ?_) (fun _ h => h)))
  obtain ⟨hmd, rfl⟩ := hr
  have hT1 : ∀ μ1, kf SPA RPA ν μ1 → T μ1 := fun _ h => hT _ (h.up rfl rfl)
  refine MC.mono (t_next (by omega) hS hs3 hT1) (fun _ ν1 h1 => ?_) (fun _ h => h)
  obtain ⟨m1, m2, m3⟩ := h1
  refine MC.mono (c_line (by omega) m1.ps.1 m1.ps.at.1 m1.ps.at.2) (fun r2 ν2 h2 => ?_) (fun _ h => h)
  subst h2
  have g2 : TR (-1) 0 0 0 0 (-2) ν (mS1 ν2 34 r2) := m1.tr (TR.s34 m1.ps) (Or.inl (by decide)) rfl rfl rfl rfl (by omega)
  have e19 : ((mS1 ν2 34 r2).1 19).toInt = (ν2.1 19).toInt := rfl
  have e32 : ((mS1 ν2 34 r2).1 32).toInt = (ν2.1 32).toInt := rfl
  have u2 := g2.2
  refine MC.mono (t_node (by omega) g2.ps (by omega)) (fun s ν4 h4 => ?_) (fun _ h => h)
  obtain ⟨q1, ⟨q2, s0⟩, q3, q4, q5, q6⟩ := h4
  have g4 : TR (-1) 0 0 0 0 (-1) ν ν4 := g2.tr q1 (Or.inl (by decide)) rfl rfl rfl rfl (by omega)
  have hcs := @ic s
  have s9 : s.toInt < 15990 := by omega
  have x4 := g4.px
  have e41 : ν4.1 41 = ν.1 41 := g4.1.1.1 41 rfl
  have e42 : ν4.2.1 42 = ν.2.1 42 := g4.1.1.2.1 42 rfl
  have l42 : ν4.2.2 42 = 14 := g4.ps.1.g rfl rfl
  have r4 := g4.rb
  have c4 := g4.1.2.2.2.2.2.2.2.2.2
  have b4 := g4.1.2.2.2.2.2
  refine ⟨MI.of l42 (by rw [e41]; exact hu0) (by rw [e41]; exact hu1), ?_⟩
  -- the row of units
  have pκ : PS (mA1 ν4 42 (ν4.1 41).toNatClampNeg s) := g4.ps.kf (s := []) (r := [42]) (kf.rf.A rfl) rfl rfl rfl rfl rfl rfl rfl rfl
  have kκ : kf SPA RPU ν (mA1 ν4 42 (ν4.1 41).toNatClampNeg s) := (g4.1.1.up rfl rfl).A rfl
  have rκ : RB (-1) (ν.1 19).toInt ν (mA1 ν4 42 (ν4.1 41).toNatClampNeg s) := r4.tr (fun g h1 h2 i _ _ => by
    show (bif Nat.beq g 42 then _ else ν4.2.1 g) i = _
    rw [nb_ne (by omega)]; rfl)
  have r29 : (mA1 ν4 42 (ν4.1 41).toNatClampNeg s).2.1 29 = ν4.2.1 29 := row_off rfl
  have r28 : (mA1 ν4 42 (ν4.1 41).toNatClampNeg s).2.1 28 = ν4.2.1 28 := row_off rfl
  have cκ : NC ν (mA1 ν4 42 (ν4.1 41).toNatClampNeg s) := fun j hj => by rw [r29, r28]; exact c4 j hj
  have nd0 : ND (mA1 ν4 42 (ν4.1 41).toNatClampNeg s) s.toNatClampNeg 1 (-1) (-1) (-1) (-1) (-1) (-1) := ND.rb (ex := -1) (n := (ν4.1 19).toInt) q6 (fun g h1 h2 i _ _ => by rw [row_off (nb_ne (by omega))]) (by omega) (by omega)
  have w42 : (mA1 ν4 42 (ν4.1 41).toNatClampNeg s).2.1 42 = upd (ν.2.1 42) (ν.1 41).toNatClampNeg s := by
    show upd (ν4.2.1 42) (ν4.1 41).toNatClampNeg s = _
    rw [e41, e42]
  have f19 : ((mA1 ν4 42 (ν4.1 41).toNatClampNeg s).1 19).toInt = (ν4.1 19).toInt := rfl
  have f32 : ((mA1 ν4 42 (ν4.1 41).toNatClampNeg s).1 32).toInt = (ν4.1 32).toInt := rfl
  have bκ : ((mA1 ν4 42 (ν4.1 41).toNatClampNeg s).1 37).toInt = (ν.1 37).toInt + 0 ∧ ((mA1 ν4 42 (ν4.1 41).toNatClampNeg s).1 38).toInt = (ν.1 38).toInt + 0 ∧ ((mA1 ν4 42 (ν4.1 41).toNatClampNeg s).1 39).toInt = (ν.1 39).toInt + 0 ∧ ((mA1 ν4 42 (ν4.1 41).toNatClampNeg s).1 40).toInt = (ν.1 40).toInt + 0 := ⟨b4.1, b4.2.1, b4.2.2.1, b4.2.2.2.1⟩
  have e33 : (mA1 ν4 42 (ν4.1 41).toNatClampNeg s).1 33 = ν.1 33 := g4.1.1.1 33 rfl
  have xκ : psS (mA1 ν4 42 (ν4.1 41).toNatClampNeg s) = psS ν4 ∧ hiS (mA1 ν4 42 (ν4.1 41).toNatClampNeg s) = hiS ν4 := by unfold psS hiS psX hiX; exact ⟨rfl, rfl⟩
  have miκ : MI s (ν4.2.2 26) := TR.mi g4.ps rfl rfl s0 (by omega)
  generalize mA1 ν4 42 (ν4.1 41).toNatClampNeg s = κ at *
  have u4 := g4.2
  have l4 := g4.l19
  have hTκ : ∀ μ1, kf SPA RPA κ μ1 → T μ1 := fun _ h => hT _ (kκ.tr (h.up rfl rfl))
  have p0 : TR s.toInt 0 0 0 0 0 κ κ := TR.rf pκ
  have lt0 : s.toInt < (κ.1 19).toInt := by omega
  -- from the unit's node on to what is asked
  have out : ∀ ζ : MS, TR s.toInt 0 0 0 0 0 κ ζ → G ζ (h + 1) (bt s.toInt (ζ.1 19).toInt) 20 s → CO ζ s.toInt (ζ.1 19).toInt s → BdK 3 20 h s.toInt κ s ζ → UnP (h + 1) ν ζ := fun ζ z1 z2 z3 z4 => by
    obtain ⟨⟨a1, a2, a3, a4, a5, a6, a7, a8, a9, a10⟩, a11⟩ := z1
    have eN : NS ζ (ν.1 19).toInt s.toInt := NS.nil (by omega)
    refine ⟨kκ.tr (a1.up rfl rfl), a2, ⟨by omega, by omega, by omega⟩, rκ.tr (fun g g1 g2 i g3 g4 => a5 g g1 g2 i (by omega) (by omega)), ⟨by omega, by omega, by omega, by omega⟩, cκ.tr a10 e33 (by omega), s, z2.up (Nat.le_refl _) (by omega) (Int.le_refl _), by rw [a1.2.1 42 rfl]; exact w42, z3.ahead eN (by omega), fun K9 hK9 => ?_⟩
    obtain ⟨w9, y1, y2⟩ := z4 K9 (by omega)
    exact ⟨w9, by omega, PK.wd (Int.le_refl _) (by omega) (Nat.le_refl _) (PK.up (Nat.le_succ _) (Nat.le_refl _) y2)⟩
  obtain ⟨K, hK⟩ : ∃ K : Nat, (K : Int) + (κ.1 40).toInt = 20 := ⟨(20 - (κ.1 40).toInt).toNat, by have := pκ.2.2.2.2.2.2.2.2; omega⟩
  have s98 := un_98 (md := md) hD hSt pκ (by omega) (by omega) (by omega) hTκ s0 s9 (by omega) out K
  refine ⟨fun _ => ⟨miκ, ?_⟩, fun _ => ⟨miκ, ?_⟩⟩
  · skip
    have g920 : TR s.toInt 0 0 0 0 0 κ (mA1 κ 26 s.toNatClampNeg 0) := TR.put p0.ps s0 rfl rfl
    have e922 : ((mA1 κ 26 s.toNatClampNeg 0).1 19).toInt = (κ.1 19).toInt := rfl
    have e923 : ((mA1 κ 26 s.toNatClampNeg 0).1 32).toInt = (κ.1 32).toInt := rfl
    have sr925 : srt (mA1 κ 26 s.toNatClampNeg 0) = srt κ := srt_off rfl
    have nd924 := nd0.pe (x := 0)
    have p926 : TR (s.toInt) (0) 0 0 0 (0) κ (mA1 κ 26 s.toNatClampNeg 0) := p0.trS g920 (Or.inr (Or.inl rfl)) rfl rfl rfl rfl (by omega)
    generalize mA1 κ 26 s.toNatClampNeg 0 = κ921 at *
    have lt927 : s.toInt < (κ921.1 19).toInt := by omega
    refine MC.mono (t_name (by omega) p926.ps (fun _ h => hTκ _ (p926.1.1.tr h))) (fun v928 κ933 h929 => ?_) (fun _ h => h)
    obtain ⟨q930, m931, a932⟩ := h929
    have p934 : TR (s.toInt) (0) 0 0 0 (-2) κ κ933 := p926.trS q930 (Or.inl (by decide)) rfl rfl rfl rfl (by omega)
    have nd935 := nd924.tr q930 (by have := @ic s; omega) (by omega)
    have lt936 : s.toInt < (κ933.1 19).toInt := by omega
    have g937 : TR s.toInt 0 0 0 0 0 κ933 (mA1 κ933 22 s.toNatClampNeg v928) := TR.put p934.ps s0 rfl rfl
    have e939 : ((mA1 κ933 22 s.toNatClampNeg v928).1 19).toInt = (κ933.1 19).toInt := rfl
    have e940 : ((mA1 κ933 22 s.toNatClampNeg v928).1 32).toInt = (κ933.1 32).toInt := rfl
    have sr942 : srt (mA1 κ933 22 s.toNatClampNeg v928) = srt κ933 := srt_off rfl
    have nd941 := nd935.pa (x := v928)
    have p943 : TR (s.toInt) (0) 0 0 0 (-2) κ (mA1 κ933 22 s.toNatClampNeg v928) := p934.trS g937 (Or.inr (Or.inl rfl)) rfl rfl rfl rfl (by omega)
    refine ⟨TR.mi p934.ps rfl rfl s0 (by omega), ?_⟩
    generalize mA1 κ933 22 s.toNatClampNeg v928 = κ938 at *
    have lt944 : s.toInt < (κ938.1 19).toInt := by omega
    refine MC.mono (t_expect (by omega) p943.ps (by decide) (fun _ h => hTκ _ (p943.1.1.tr h))) (fun v945 κ950 h946 => ?_) (fun _ h => h)
    obtain ⟨q947, m948, a949⟩ := h946
    have p951 : TR (s.toInt) (0) 0 0 0 (-4) κ κ950 := p943.trS q947 (Or.inl (by decide)) rfl rfl rfl rfl (by omega)
    have nd952 := nd941.tr q947 (by have := @ic s; omega) (by omega)
    have lt953 : s.toInt < (κ950.1 19).toInt := by omega
    refine MC.mono (c_is (by omega) p951.ps) (fun r954 κ955 h956 => ?_) (fun _ h => h)
    obtain ⟨rfl, rfl⟩ := h956
    refine ⟨fun _ => ?_, fun hw => ?_⟩
    · skip
      exact s98 0 hK _ _ _ _ ⟨p951.1, by have := p951.2; omega⟩ lt953 nd952 LB.nil (NS.nil (by omega)) (FK.ls (by omega) (by decide) ⟨0, rfl, by omega⟩) (by omega)
    · skip
      have hw3 : ¬ srt κ955 = 203 := by rw [is_t hw]; decide
      refine MC.mono (t_next (by omega) p951.ps (hw3) (fun _ h => hTκ _ (p951.1.1.tr h))) (fun v957 κ962 h958 => ?_) (fun _ h => h)
      obtain ⟨q959, m960, a961⟩ := h958
      have p963 : TR (s.toInt) (0) 0 0 0 (-6) κ κ962 := p951.trS q959 (Or.inl (by decide)) rfl rfl rfl rfl (by omega)
      have nd964 := nd952.tr q959 (by have := @ic s; omega) (by omega)
      have lt965 : s.toInt < (κ962.1 19).toInt := by omega
      have x969 := p963.px
      have u970 := p963.2
      have y971 := tT p963
      have z972 := px0 p963.ps
      refine MC.mono (c_nameRowQ (by omega) p963.ps (by omega) (fun _ h => hTκ _ (p963.1.1.tr h))) (fun r966 κ967 h973 => ?_) (fun _ h => h)
      have h968 := h973.1
      obtain ⟨vI, hvI, bI0⟩ := NQ.lk (h := h) (K := K) (n := 2) (s := 5) h973 (by omega) (by decide) (by decide) (by decide)
      have g975 : LB κ967 h 5 (κ962.1 19).toInt (κ967.1 19).toInt r966 := by obtain ⟨m, hm⟩ := NR.ls (s := 5) (h := 0) h968.1 (by decide) (by decide); exact ⟨m, hm.mono (fun y hy => hy.up (by omega) (Int.le_refl _) (Int.le_refl _)) (fun _ _ => rfl)⟩
      have q974 : TR (-1) 0 0 0 0 0 κ962 κ967 := ⟨h968.1.1, by have := h968.1.2.1; omega⟩
      have nI := h968.2.1.ns (by decide)
      have l976 := q974.l19
      have p977 : TR (s.toInt) (0) 0 0 0 (-6) κ κ967 := p963.trS q974 (Or.inl (by decide)) rfl rfl rfl rfl (by omega)
      have nd978 := nd964.tr q974 (by have := @ic s; omega) (by omega)
      have lt979 : s.toInt < (κ967.1 19).toInt := by omega
      have bI1 : FK κ967 h K 3 (3, 5) (s.toInt + 1) (κ967.1 19).toInt vI r966 := FK.at (by omega) (by omega) (FK.ls (by omega) (by decide) bI0)
      have gP : TR s.toInt 0 0 0 0 0 κ967 (mA1 κ967 23 s.toNatClampNeg r966) := TR.put p977.ps s0 rfl rfl
      have g980 := g975.tr gP (by omega) (Or.inl (by omega))
      have bI2 := FK.tr bI1 gP (by omega) (by omega)
      have nI2 := nI.rb gP.rb (Int.le_refl _) (Or.inl (by omega))
      have g981 : TR s.toInt 0 0 0 0 0 κ967 (mA1 κ967 23 s.toNatClampNeg r966) := TR.put p977.ps s0 rfl rfl
      have e983 : ((mA1 κ967 23 s.toNatClampNeg r966).1 19).toInt = (κ967.1 19).toInt := rfl
      have e984 : ((mA1 κ967 23 s.toNatClampNeg r966).1 32).toInt = (κ967.1 32).toInt := rfl
      have sr986 : srt (mA1 κ967 23 s.toNatClampNeg r966) = srt κ967 := srt_off rfl
      have nd985 := nd978.pb (x := r966)
      have p987 : TR (s.toInt) (0) 0 0 0 (-6) κ (mA1 κ967 23 s.toNatClampNeg r966) := p977.trS g981 (Or.inr (Or.inl rfl)) rfl rfl rfl rfl (by omega)
      refine ⟨TR.mi p977.ps rfl rfl s0 (by omega), ?_⟩
      generalize mA1 κ967 23 s.toNatClampNeg r966 = κ982 at *
      have lt988 : s.toInt < (κ982.1 19).toInt := by omega
      have lE : s.toInt + 1 ≤ (κ962.1 19).toInt := by omega
      refine MC.mono (t_expect (by omega) p987.ps (by decide) (fun _ h => hTκ _ (p987.1.1.tr h))) (fun v989 κ994 h990 => ?_) (fun _ h => h)
      obtain ⟨q991, m992, a993⟩ := h990
      have p995 : TR (s.toInt) (0) 0 0 0 (-8) κ κ994 := p987.trS q991 (Or.inl (by decide)) rfl rfl rfl rfl (by omega)
      have nd996 := nd985.tr q991 (by have := @ic s; omega) (by omega)
      have lt997 : s.toInt < (κ994.1 19).toInt := by omega
      have bI3 := FK.tr bI2 q991 (by omega) (by omega)
      have g9 := g980.tr q991 (by omega) (Or.inl (by omega))
      obtain ⟨m9, hm9⟩ := g9
      have nI3 : NS κ994 (s.toInt + 1) (κ994.1 19).toInt := fun j j1 j2 => (nI2.rb q991.rb (by omega) (Or.inl (by omega))) j (by omega) (by omega)
      exact s98 vI hK _ _ _ _ ⟨p995.1, by have := p995.2; omega⟩ lt997 nd996 ⟨m9, hm9.mono (fun y hy => hy.up (Nat.le_refl _) (by omega) (by omega)) (fun _ _ => rfl)⟩ nI3 (FK.at rfl (by omega) bI3) (by omega)
  · skip
    have g998 : TR s.toInt 0 0 0 0 0 κ (mA1 κ 26 s.toNatClampNeg 1) := TR.put p0.ps s0 rfl rfl
    have e1000 : ((mA1 κ 26 s.toNatClampNeg 1).1 19).toInt = (κ.1 19).toInt := rfl
    have e1001 : ((mA1 κ 26 s.toNatClampNeg 1).1 32).toInt = (κ.1 32).toInt := rfl
    have sr1003 : srt (mA1 κ 26 s.toNatClampNeg 1) = srt κ := srt_off rfl
    have nd1002 := nd0.pe (x := 1)
    have p1004 : TR (s.toInt) (0) 0 0 0 (0) κ (mA1 κ 26 s.toNatClampNeg 1) := p0.trS g998 (Or.inr (Or.inl rfl)) rfl rfl rfl rfl (by omega)
    generalize mA1 κ 26 s.toNatClampNeg 1 = κ999 at *
    have lt1005 : s.toInt < (κ999.1 19).toInt := by omega
    refine MC.mono (t_name (by omega) p1004.ps (fun _ h => hTκ _ (p1004.1.1.tr h))) (fun v1006 κ1011 h1007 => ?_) (fun _ h => h)
    obtain ⟨q1008, m1009, a1010⟩ := h1007
    have p1012 : TR (s.toInt) (0) 0 0 0 (-2) κ κ1011 := p1004.trS q1008 (Or.inl (by decide)) rfl rfl rfl rfl (by omega)
    have nd1013 := nd1002.tr q1008 (by have := @ic s; omega) (by omega)
    have lt1014 : s.toInt < (κ1011.1 19).toInt := by omega
    have g1015 : TR s.toInt 0 0 0 0 0 κ1011 (mA1 κ1011 22 s.toNatClampNeg v1006) := TR.put p1012.ps s0 rfl rfl
    have e1017 : ((mA1 κ1011 22 s.toNatClampNeg v1006).1 19).toInt = (κ1011.1 19).toInt := rfl
    have e1018 : ((mA1 κ1011 22 s.toNatClampNeg v1006).1 32).toInt = (κ1011.1 32).toInt := rfl
    have sr1020 : srt (mA1 κ1011 22 s.toNatClampNeg v1006) = srt κ1011 := srt_off rfl
    have nd1019 := nd1013.pa (x := v1006)
    have p1021 : TR (s.toInt) (0) 0 0 0 (-2) κ (mA1 κ1011 22 s.toNatClampNeg v1006) := p1012.trS g1015 (Or.inr (Or.inl rfl)) rfl rfl rfl rfl (by omega)
    refine ⟨TR.mi p1012.ps rfl rfl s0 (by omega), ?_⟩
    generalize mA1 κ1011 22 s.toNatClampNeg v1006 = κ1016 at *
    have lt1022 : s.toInt < (κ1016.1 19).toInt := by omega
    refine MC.mono (t_expect (by omega) p1021.ps (by decide) (fun _ h => hTκ _ (p1021.1.1.tr h))) (fun v1023 κ1028 h1024 => ?_) (fun _ h => h)
    obtain ⟨q1025, m1026, a1027⟩ := h1024
    have p1029 : TR (s.toInt) (0) 0 0 0 (-4) κ κ1028 := p1021.trS q1025 (Or.inl (by decide)) rfl rfl rfl rfl (by omega)
    have nd1030 := nd1019.tr q1025 (by have := @ic s; omega) (by omega)
    have lt1031 : s.toInt < (κ1028.1 19).toInt := by omega
    refine MC.mono (c_is (by omega) p1029.ps) (fun r1032 κ1033 h1034 => ?_) (fun _ h => h)
    obtain ⟨rfl, rfl⟩ := h1034
    refine ⟨fun _ => ?_, fun hw => ?_⟩
    · skip
      exact s98 0 hK _ _ _ _ ⟨p1029.1, by have := p1029.2; omega⟩ lt1031 nd1030 LB.nil (NS.nil (by omega)) (FK.ls (by omega) (by decide) ⟨0, rfl, by omega⟩) (by omega)
    · skip
      have hw3 : ¬ srt κ1033 = 203 := by rw [is_t hw]; decide
      refine MC.mono (t_next (by omega) p1029.ps (hw3) (fun _ h => hTκ _ (p1029.1.1.tr h))) (fun v1035 κ1040 h1036 => ?_) (fun _ h => h)
      obtain ⟨q1037, m1038, a1039⟩ := h1036
      have p1041 : TR (s.toInt) (0) 0 0 0 (-6) κ κ1040 := p1029.trS q1037 (Or.inl (by decide)) rfl rfl rfl rfl (by omega)
      have nd1042 := nd1030.tr q1037 (by have := @ic s; omega) (by omega)
      have lt1043 : s.toInt < (κ1040.1 19).toInt := by omega
      have x1047 := p1041.px
      have u1048 := p1041.2
      have y1049 := tT p1041
      have z1050 := px0 p1041.ps
      refine MC.mono (c_nameRowQ (by omega) p1041.ps (by omega) (fun _ h => hTκ _ (p1041.1.1.tr h))) (fun r1044 κ1045 h1051 => ?_) (fun _ h => h)
      have h1046 := h1051.1
      obtain ⟨vI, hvI, bI0⟩ := NQ.lk (h := h) (K := K) (n := 2) (s := 5) h1051 (by omega) (by decide) (by decide) (by decide)
      have g1053 : LB κ1045 h 5 (κ1040.1 19).toInt (κ1045.1 19).toInt r1044 := by obtain ⟨m, hm⟩ := NR.ls (s := 5) (h := 0) h1046.1 (by decide) (by decide); exact ⟨m, hm.mono (fun y hy => hy.up (by omega) (Int.le_refl _) (Int.le_refl _)) (fun _ _ => rfl)⟩
      have q1052 : TR (-1) 0 0 0 0 0 κ1040 κ1045 := ⟨h1046.1.1, by have := h1046.1.2.1; omega⟩
      have nI := h1046.2.1.ns (by decide)
      have l1054 := q1052.l19
      have p1055 : TR (s.toInt) (0) 0 0 0 (-6) κ κ1045 := p1041.trS q1052 (Or.inl (by decide)) rfl rfl rfl rfl (by omega)
      have nd1056 := nd1042.tr q1052 (by have := @ic s; omega) (by omega)
      have lt1057 : s.toInt < (κ1045.1 19).toInt := by omega
      have bI1 : FK κ1045 h K 3 (3, 5) (s.toInt + 1) (κ1045.1 19).toInt vI r1044 := FK.at (by omega) (by omega) (FK.ls (by omega) (by decide) bI0)
      have gP : TR s.toInt 0 0 0 0 0 κ1045 (mA1 κ1045 23 s.toNatClampNeg r1044) := TR.put p1055.ps s0 rfl rfl
      have g1058 := g1053.tr gP (by omega) (Or.inl (by omega))
      have bI2 := FK.tr bI1 gP (by omega) (by omega)
      have nI2 := nI.rb gP.rb (Int.le_refl _) (Or.inl (by omega))
      have g1059 : TR s.toInt 0 0 0 0 0 κ1045 (mA1 κ1045 23 s.toNatClampNeg r1044) := TR.put p1055.ps s0 rfl rfl
      have e1061 : ((mA1 κ1045 23 s.toNatClampNeg r1044).1 19).toInt = (κ1045.1 19).toInt := rfl
      have e1062 : ((mA1 κ1045 23 s.toNatClampNeg r1044).1 32).toInt = (κ1045.1 32).toInt := rfl
      have sr1064 : srt (mA1 κ1045 23 s.toNatClampNeg r1044) = srt κ1045 := srt_off rfl
      have nd1063 := nd1056.pb (x := r1044)
      have p1065 : TR (s.toInt) (0) 0 0 0 (-6) κ (mA1 κ1045 23 s.toNatClampNeg r1044) := p1055.trS g1059 (Or.inr (Or.inl rfl)) rfl rfl rfl rfl (by omega)
      refine ⟨TR.mi p1055.ps rfl rfl s0 (by omega), ?_⟩
      generalize mA1 κ1045 23 s.toNatClampNeg r1044 = κ1060 at *
      have lt1066 : s.toInt < (κ1060.1 19).toInt := by omega
      have lE : s.toInt + 1 ≤ (κ1040.1 19).toInt := by omega
      refine MC.mono (t_expect (by omega) p1065.ps (by decide) (fun _ h => hTκ _ (p1065.1.1.tr h))) (fun v1067 κ1072 h1068 => ?_) (fun _ h => h)
      obtain ⟨q1069, m1070, a1071⟩ := h1068
      have p1073 : TR (s.toInt) (0) 0 0 0 (-8) κ κ1072 := p1065.trS q1069 (Or.inl (by decide)) rfl rfl rfl rfl (by omega)
      have nd1074 := nd1063.tr q1069 (by have := @ic s; omega) (by omega)
      have lt1075 : s.toInt < (κ1072.1 19).toInt := by omega
      have bI3 := FK.tr bI2 q1069 (by omega) (by omega)
      have g9 := g1058.tr q1069 (by omega) (Or.inl (by omega))
      obtain ⟨m9, hm9⟩ := g9
      have nI3 : NS κ1072 (s.toInt + 1) (κ1072.1 19).toInt := fun j j1 j2 => (nI2.rb q1069.rb (by omega) (Or.inl (by omega))) j (by omega) (by omega)
      exact s98 vI hK _ _ _ _ ⟨p1073.1, by have := p1073.2; omega⟩ lt1075 nd1074 ⟨m9, hm9.mono (fun y hy => hy.up (Nat.le_refl _) (by omega) (by omega)) (fun _ _ => rfl)⟩ nI3 (FK.at rfl (by omega) bI3) (by omega)
end PSM
